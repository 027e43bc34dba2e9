section
/-! ===== BEGIN by program (wip/whole/gen/emit.py): the methods in the small machine's numbers ===== -/
def pg_at {α : Type} (d : α) : List α → Nat → α
  | [], _ => d
  | a :: _, 0 => a
  | _ :: l, k + 1 => pg_at d l k
/-- OneIsTwo$Actor.<init>()V -/
def pm_0 : List (List Instr) := [[.aload 0, .monitorenter, .aload 0, .iconst (30), .newarray .int, .putfield 2, .return_]]
/-- OneIsTwo$Actor.begin()V -/
def pm_1 : List (List Instr) := [[.aload 0, .iconst (0), .putfield 4, .aload 0, .iconst (0), .putfield 23, .return_]]
/-- OneIsTwo$Actor.perform(IIIII)I -/
def pm_2 : List (List Instr) := [[.aload 0, .iload 1, .putfield 8, .aload 0, .iload 2, .putfield 12, .aload 0, .iload 3, .putfield 16, .iload 4, .ifCond .ne 16, .getstatic 0, .aload 0, .getfield 8, .saload, .goto 36], [.iload 4, .iconst (1), .if_icmp .ne 24, .getstatic 1, .aload 0, .getfield 8, .saload, .goto 36, .iload 4, .iconst (2), .if_icmp .ne 32, .getstatic 2, .aload 0, .getfield 8, .saload, .goto 36], [.getstatic 3, .aload 0, .getfield 8, .saload, .istore 6, .aload 0, .iload 6, .iload 5, .iconst (0), .invokestatic 3, .istore 7, .aload 0, .getfield 20, .ifCond .eq 48, .bipush (-15), .goto 49], [.iload 7, .ireturn]]
/-- OneIsTwo$Actor.run(III)I -/
def pm_3 : List (List Instr) := [[.iload 3, .iconst (20), .if_icmp .le 5, .iconst (0), .ireturn, .aload 0, .getfield 4, .aload 0, .getfield 2, .arraylength, .if_icmp .ge 23, .aload 0, .getfield 2, .aload 0, .getfield 4, .iload 1], [.iastore, .aload 0, .dup, .getfield 4, .iconst (1), .iadd, .putfield 4, .iload 3, .iconst (1), .iadd, .istore 4, .iload 1, .lookupswitch 176 #[(10, 29), (11, 34), (12, 45), (13, 49), (20, 61), (30, 69), (31, 77), (40, 93), (50, 102), (51, 110), (60, 118), (70, 127), (80, 135), (81, 140), (82, 152), (83, 157)], .iload 2, .aload 0, .getfield 16], [.iadd, .ireturn, .aload 0, .getstatic 0, .aload 0, .getfield 8, .saload, .iload 2, .iload 4, .invokestatic 3, .iconst (2), .imul, .ireturn, .aload 0, .iload 2, .invokestatic 4], [.ireturn, .aload 0, .getstatic 1, .aload 0, .getfield 8, .saload, .iload 2, .iload 4, .invokestatic 3, .aload 0, .getfield 12, .ixor, .ireturn, .aload 0, .iconst (11), .iload 2], [.iload 4, .invokestatic 3, .iconst (4), .isub, .ireturn, .aload 0, .iconst (10), .iload 2, .iload 4, .invokestatic 3, .iconst (3), .imul, .ireturn, .aload 0, .iconst (13), .iload 2], [.iload 4, .invokestatic 3, .aload 0, .getstatic 2, .aload 0, .getfield 8, .saload, .aload 0, .getfield 12, .iload 4, .invokestatic 3, .iadd, .ireturn, .aload 0, .iconst (30), .iload 2], [.iload 4, .invokestatic 3, .aload 0, .getfield 12, .isub, .ireturn, .aload 0, .iconst (12), .iload 2, .iconst (1), .iadd, .iload 4, .invokestatic 3, .ireturn, .iconst (0), .aload 0], [.iconst (11), .iload 2, .iload 4, .invokestatic 3, .isub, .ireturn, .aload 0, .iconst (11), .iload 2, .iload 4, .invokestatic 3, .aload 0, .getfield 16, .ixor, .ireturn, .aload 0], [.iconst (13), .iload 2, .iload 4, .invokestatic 3, .iconst (2), .imul, .ireturn, .aload 0, .getfield 16, .iload 2, .isub, .ireturn, .aload 0, .getstatic 0, .aload 0, .getfield 8], [.saload, .iload 2, .iload 4, .invokestatic 3, .aload 0, .getfield 12, .imul, .ireturn, .iload 2, .aload 0, .getfield 16, .ior, .ireturn, .aload 0, .getstatic 1, .aload 0], [.getfield 8, .saload, .iload 2, .iload 4, .invokestatic 3, .aload 0, .getstatic 2, .aload 0, .getfield 8, .saload, .aload 0, .getfield 12, .iload 4, .invokestatic 3, .isub, .ireturn], [.iconst (0), .ireturn]]
/-- OneIsTwo$Actor.parted(I)I -/
def pm_4 : List (List Instr) := [[.aload 0, .getfield 16, .aload 0, .getfield 12, .if_icmp .ne 10, .aload 0, .iconst (1), .putfield 23, .iconst (0), .ireturn, .iload 1, .aload 0, .getfield 16, .aload 0, .getfield 12, .isub], [.idiv, .ireturn]]
/-- OneIsTwo$Claim.<init>()V -/
def pm_5 : List (List Instr) := [[.aload 0, .monitorenter, .return_]]
/-- OneIsTwo$Claim.set(IIIII)V -/
def pm_6 : List (List Instr) := [[.aload 0, .iload 1, .putfield 256, .aload 0, .iload 2, .putfield 260, .aload 0, .iload 3, .putfield 264, .aload 0, .iload 4, .putfield 268, .aload 0, .iload 5, .putfield 272, .return_]]
/-- OneIsTwo$Event.<init>()V -/
def pm_7 : List (List Instr) := [[.aload 0, .monitorenter, .return_]]
/-- OneIsTwo$Event.set(III)V -/
def pm_8 : List (List Instr) := [[.aload 0, .iload 1, .putfield 512, .aload 0, .iload 2, .putfield 516, .aload 0, .iload 3, .putfield 520, .return_]]
/-- OneIsTwo$Law.<init>()V -/
def pm_9 : List (List Instr) := [[.aload 0, .monitorenter, .aload 0, .iconst (10), .newarray .int, .putfield 770, .aload 0, .iconst (10), .newarray .int, .putfield 774, .aload 0, .iconst (11), .newarray .int, .putfield 778, .aload 0, .iconst (200)], [.newarray .int, .putfield 782, .return_]]
/-- OneIsTwo$Law.valueNames(I)Ljava/lang/String; -/
def pm_10 : List (List Instr) := [[.iload 0, .tableswitch 12 0 5 #[2, 2, 4, 6, 8, 10], .ldc 0, .areturn, .ldc 1, .areturn, .ldc 2, .areturn, .ldc 3, .areturn, .ldc 4, .areturn, .ldc 5, .areturn]]
/-- OneIsTwo$Law.clear()V -/
def pm_11 : List (List Instr) := [[.aload 0, .iconst (0), .putfield 784, .aload 0, .getfield 778, .iconst (0), .iconst (0), .iastore, .aload 0, .getfield 778, .iconst (1), .iconst (0), .iastore, .return_]]
/-- OneIsTwo$Law.addCode(I)V -/
def pm_12 : List (List Instr) := [[.aload 0, .getfield 778, .aload 0, .getfield 784, .iconst (1), .iadd, .iaload, .istore 2, .iload 2, .aload 0, .getfield 782, .arraylength, .if_icmp .lt 14, .return_, .aload 0, .getfield 782], [.iload 2, .iload 1, .iastore, .aload 0, .getfield 778, .aload 0, .getfield 784, .iconst (1), .iadd, .iload 2, .iconst (1), .iadd, .iastore, .return_]]
/-- OneIsTwo$Law.closeClause(II)V -/
def pm_13 : List (List Instr) := [[.aload 0, .getfield 770, .aload 0, .getfield 784, .iload 1, .iastore, .aload 0, .getfield 774, .aload 0, .getfield 784, .iload 2, .iastore, .aload 0, .dup, .getfield 784, .iconst (1)], [.iadd, .putfield 784, .aload 0, .getfield 784, .iconst (10), .if_icmp .ge 34, .aload 0, .getfield 778, .aload 0, .getfield 784, .iconst (1), .iadd, .aload 0, .getfield 778, .aload 0, .getfield 784], [.iaload, .iastore, .return_]]
/-- OneIsTwo$Law.copyFrom(LOneIsTwo$Law;)V -/
def pm_14 : List (List Instr) := [[.aload 0, .aload 1, .getfield 784, .putfield 784, .aload 1, .getfield 770, .iconst (0), .aload 0, .getfield 770, .iconst (0), .aload 0, .getfield 784, .monitorexit, .aload 1, .getfield 774, .iconst (0)], [.aload 0, .getfield 774, .iconst (0), .aload 0, .getfield 784, .monitorexit, .aload 1, .getfield 778, .iconst (0), .aload 0, .getfield 778, .iconst (0), .aload 0, .getfield 784, .iconst (1), .iadd], [.monitorexit, .aload 1, .getfield 782, .iconst (0), .aload 0, .getfield 782, .iconst (0), .aload 0, .getfield 778, .aload 0, .getfield 784, .iaload, .monitorexit, .return_]]
/-- OneIsTwo$Law.valueOf(I[I)I -/
def pm_15 : List (List Instr) := [[.aload 0, .getfield 784, .iconst (1), .isub, .istore 3, .iload 3, .ifCond .lt 25, .aload 0, .getfield 770, .iload 3, .iaload, .iload 1, .if_icmp .ne 23, .aload 0, .iload 3, .aload 2], [.invokestatic 16, .ifCond .eq 23, .aload 0, .getfield 774, .iload 3, .iaload, .ireturn, .iinc 3 (-1), .goto 5, .iconst (0), .ireturn]]
/-- OneIsTwo$Law.holds(I[I)Z -/
def pm_16 : List (List Instr) := [[.iconst (1), .istore 3, .aload 0, .getfield 778, .iload 1, .iaload, .istore 4, .iload 4, .aload 0, .getfield 778, .iload 1, .iconst (1), .iadd, .iaload, .if_icmp .ge 69, .aload 0], [.getfield 782, .iload 4, .iaload, .istore 5, .iload 3, .iconst (1), .iand, .istore 6, .iload 5, .ifCond .lt 39, .iload 3, .iconst (1), .ishl, .iload 5, .aload 2, .invokestatic 17], [.ifCond .eq 35, .iconst (1), .goto 36, .iconst (0), .ior, .istore 3, .goto 67, .iload 5, .bipush (-1), .if_icmp .ne 47, .iload 3, .iconst (1), .ixor, .istore 3, .goto 67, .iload 5], [.bipush (-2), .if_icmp .ne 61, .iload 3, .iconst (1), .ishr, .iload 6, .iconst (2), .isub, .iload 6, .ior, .iand, .istore 3, .goto 67, .iload 3, .iconst (1), .ishr], [.iload 6, .ior, .istore 3, .iinc 4 (1), .goto 7, .iload 3, .iconst (1), .iand, .ifCond .eq 75, .iconst (1), .goto 76, .iconst (0), .freturn]]
/-- OneIsTwo$Law.compares(I[I)Z -/
def pm_17 : List (List Instr) := [[.iload 0, .iconst (16384), .idiv, .iconst (16384), .irem, .istore 2, .iload 0, .iconst (16384), .irem, .istore 3, .iload 2, .iconst (10000), .if_icmp .lt 19, .aload 1, .iload 2, .iconst (10000)], [.isub, .iaload, .istore 2, .iload 3, .iconst (10000), .if_icmp .lt 28, .aload 1, .iload 3, .iconst (10000), .isub, .iaload, .istore 3, .iload 0, .iconst (16384), .idiv, .iconst (16384)], [.idiv, .istore 4, .iload 4, .ifCond .ne 43, .iload 2, .iload 3, .if_icmp .ge 41, .iconst (1), .goto 59, .iconst (0), .goto 59, .iload 4, .iconst (1), .if_icmp .ne 53, .iload 2, .iload 3], [.if_icmp .ne 51, .iconst (1), .goto 59, .iconst (0), .goto 59, .iload 2, .iload 3, .if_icmp .le 58, .iconst (1), .goto 59, .iconst (0), .freturn]]
/-- OneIsTwo$LawReader.<init>([B)V -/
def pm_18 : List (List Instr) := [[.aload 0, .monitorenter, .aload 0, .new 197, .dup, .invokestatic 9, .putfield 1026, .aload 0, .aload 1, .putfield 1030, .return_]]
/-- OneIsTwo$LawReader.open(I)V -/
def pm_19 : List (List Instr) := [[.aload 0, .iload 1, .putfield 1032, .aload 0, .iconst (0), .putfield 1040, .aload 0, .getfield 1026, .invokestatic 11, .aload 0, .invokestatic 27, .return_]]
/-- OneIsTwo$LawReader.isThrough()Z -/
def pm_20 : List (List Instr) := [[.aload 0, .getfield 1044, .bipush (-1), .if_icmp .ne 6, .iconst (1), .goto 7, .iconst (0), .freturn]]
/-- OneIsTwo$LawReader.readClause()Z -/
def pm_21 : List (List Instr) := [[.aload 0, .getfield 1044, .bipush (-2), .if_icmp .ne 8, .aload 0, .ldc 6, .invokestatic 30, .goto 9, .bipush (-1), .istore 1, .iload 1, .ifCond .lt 17, .aload 0, .getfield 1026, .getfield 784, .iconst (10)], [.if_icmp .lt 19, .iconst (0), .freturn, .aload 0, .invokestatic 27, .aload 0, .getfield 1044, .bipush (-2), .if_icmp .ne 30, .aload 0, .iload 1, .invokestatic 10, .invokestatic 30, .goto 31, .bipush (-1), .istore 2], [.iload 2, .ifCond .ge 36, .iconst (0), .freturn, .aload 0, .invokestatic 27, .aload 0, .ldc 7, .invokestatic 29, .ifCond .eq 50, .aload 0, .invokestatic 27, .aload 0, .iconst (0), .invokestatic 22, .ifCond .ne 50], [.iconst (0), .freturn, .aload 0, .getfield 1044, .iconst (59), .if_icmp .eq 56, .iconst (0), .freturn, .aload 0, .getfield 1026, .iload 1, .iload 2, .invokestatic 13, .aload 0, .invokestatic 27, .iconst (1)], [.freturn]]
/-- OneIsTwo$LawReader.readAnyOf(I)Z -/
def pm_22 : List (List Instr) := [[.aload 0, .iload 1, .invokestatic 23, .ifCond .ne 6, .iconst (0), .freturn, .iconst (0), .istore 2, .iload 2, .aload 0, .getfield 1032, .if_icmp .ge 30, .aload 0, .ldc 8, .invokestatic 29, .ifCond .eq 30], [.aload 0, .invokestatic 27, .aload 0, .iload 1, .invokestatic 23, .ifCond .ne 24, .iconst (0), .freturn, .aload 0, .getfield 1026, .bipush (-3), .invokestatic 12, .iinc 2 (1), .goto 8, .iconst (1), .freturn]]
/-- OneIsTwo$LawReader.readAllOf(I)Z -/
def pm_23 : List (List Instr) := [[.aload 0, .iload 1, .invokestatic 24, .ifCond .ne 6, .iconst (0), .freturn, .iconst (0), .istore 2, .iload 2, .aload 0, .getfield 1032, .if_icmp .ge 30, .aload 0, .ldc 9, .invokestatic 29, .ifCond .eq 30], [.aload 0, .invokestatic 27, .aload 0, .iload 1, .invokestatic 24, .ifCond .ne 24, .iconst (0), .freturn, .aload 0, .getfield 1026, .bipush (-2), .invokestatic 12, .iinc 2 (1), .goto 8, .iconst (1), .freturn]]
/-- OneIsTwo$LawReader.readOne(I)Z -/
def pm_24 : List (List Instr) := [[.iconst (0), .istore 2, .iconst (0), .istore 3, .iload 3, .aload 0, .getfield 1032, .if_icmp .ge 22, .aload 0, .ldc 10, .invokestatic 29, .ifCond .eq 22, .iload 2, .ifCond .ne 16, .iconst (1), .goto 17], [.iconst (0), .istore 2, .aload 0, .invokestatic 27, .iinc 3 (1), .goto 4, .aload 0, .getfield 1044, .iconst (40), .if_icmp .ne 48, .iload 1, .iconst (3), .if_icmp .lt 31, .iconst (0), .freturn, .aload 0], [.invokestatic 27, .aload 0, .iload 1, .iconst (1), .iadd, .invokestatic 22, .ifCond .eq 43, .aload 0, .getfield 1044, .iconst (41), .if_icmp .eq 45, .iconst (0), .freturn, .aload 0, .invokestatic 27, .goto 53], [.aload 0, .invokestatic 25, .ifCond .ne 53, .iconst (0), .freturn, .iload 2, .ifCond .eq 59, .aload 0, .getfield 1026, .bipush (-1), .invokestatic 12, .iconst (1), .freturn]]
/-- OneIsTwo$LawReader.readComparison()Z -/
def pm_25 : List (List Instr) := [[.aload 0, .invokestatic 26, .istore 1, .iload 1, .ifCond .ge 7, .iconst (0), .freturn, .aload 0, .invokestatic 27, .aload 0, .getfield 1044, .iconst (60), .isub, .istore 2, .iload 2, .ifCond .lt 19], [.iload 2, .iconst (2), .if_icmp .le 21, .iconst (0), .freturn, .aload 0, .invokestatic 27, .aload 0, .invokestatic 26, .istore 3, .iload 3, .ifCond .ge 30, .iconst (0), .freturn, .aload 0, .invokestatic 27], [.aload 0, .getfield 1026, .iload 2, .iconst (16384), .imul, .iload 1, .iadd, .iconst (16384), .imul, .iload 3, .iadd, .invokestatic 12, .iconst (1), .freturn]]
/-- OneIsTwo$LawReader.operand()I -/
def pm_26 : List (List Instr) := [[.aload 0, .getfield 1044, .bipush (-3), .if_icmp .ne 7, .aload 0, .getfield 1048, .ireturn, .aload 0, .getfield 1044, .bipush (-2), .if_icmp .ne 15, .aload 0, .ldc 11, .invokestatic 30, .goto 16, .bipush (-1)], [.istore 1, .iload 1, .ifCond .ge 21, .bipush (-1), .goto 24, .iconst (10000), .iload 1, .iadd, .ireturn]]
/-- OneIsTwo$LawReader.next()V -/
def pm_27 : List (List Instr) := [[.aload 0, .aload 0, .getfield 1040, .putfield 1036, .aload 0, .getfield 1036, .aload 0, .getfield 1032, .if_icmp .ge 23, .aload 0, .getfield 1030, .aload 0, .getfield 1036, .baload, .iconst (32), .if_icmp .ne 23], [.aload 0, .dup, .getfield 1036, .iconst (1), .iadd, .putfield 1036, .goto 4, .aload 0, .aload 0, .getfield 1036, .putfield 1040, .aload 0, .bipush (-1), .putfield 1044, .aload 0, .getfield 1036], [.aload 0, .getfield 1032, .if_icmp .lt 36, .return_, .aload 0, .getfield 1030, .aload 0, .getfield 1036, .baload, .invokestatic 31, .ifCond .eq 65, .aload 0, .bipush (-2), .putfield 1044, .aload 0, .getfield 1040], [.aload 0, .getfield 1032, .if_icmp .ge 90, .aload 0, .getfield 1030, .aload 0, .getfield 1040, .baload, .invokestatic 31, .ifCond .eq 90, .aload 0, .dup, .getfield 1040, .iconst (1), .iadd, .putfield 1040], [.goto 46, .aload 0, .getfield 1030, .aload 0, .getfield 1036, .baload, .invokestatic 32, .ifCond .eq 75, .aload 0, .invokestatic 28, .goto 90, .aload 0, .aload 0, .getfield 1030, .aload 0, .getfield 1036], [.baload, .iconst (255), .iand, .putfield 1044, .aload 0, .dup, .getfield 1040, .iconst (1), .iadd, .putfield 1040, .return_]]
/-- OneIsTwo$LawReader.readNumber()V -/
def pm_28 : List (List Instr) := [[.aload 0, .iconst (0), .putfield 1048, .aload 0, .getfield 1040, .aload 0, .getfield 1032, .if_icmp .ge 43, .aload 0, .getfield 1030, .aload 0, .getfield 1040, .baload, .invokestatic 32, .ifCond .eq 43, .aload 0], [.getfield 1040, .aload 0, .getfield 1036, .isub, .iconst (4), .if_icmp .ge 36, .aload 0, .aload 0, .getfield 1048, .iconst (10), .imul, .aload 0, .getfield 1030, .aload 0, .getfield 1040, .baload], [.iadd, .iconst (48), .isub, .putfield 1048, .aload 0, .dup, .getfield 1040, .iconst (1), .iadd, .putfield 1040, .goto 3, .aload 0, .aload 0, .getfield 1040, .aload 0, .getfield 1036], [.isub, .iconst (4), .if_icmp .le 53, .bipush (-4), .goto 54, .bipush (-3), .putfield 1044, .return_]]
/-- OneIsTwo$LawReader.isWord(Ljava/lang/String;)Z -/
def pm_29 : List (List Instr) := [[.aload 0, .getfield 1044, .bipush (-2), .if_icmp .ne 10, .aload 0, .aload 1, .invokestatic 30, .ifCond .ne 10, .iconst (1), .goto 11, .iconst (0), .freturn]]
/-- OneIsTwo$LawReader.placeAmong(Ljava/lang/String;)I -/
def pm_30 : List (List Instr) := [[.iconst (0), .istore 2, .iconst (0), .istore 3, .iconst (0), .istore 4, .iload 4, .aload 1, .castore, .if_icmp .ge 56, .aload 1, .iload 4, .caload, .istore 5, .iload 5, .iconst (32)], [.if_icmp .ne 30, .iload 3, .aload 0, .getfield 1040, .aload 0, .getfield 1036, .isub, .if_icmp .ne 26, .iload 2, .ireturn, .iinc 2 (1), .iconst (0), .istore 3, .goto 54, .iload 3, .ifCond .lt 52], [.aload 0, .getfield 1036, .iload 3, .iadd, .aload 0, .getfield 1040, .if_icmp .ge 52, .aload 0, .getfield 1030, .aload 0, .getfield 1036, .iload 3, .iadd, .baload, .iload 5, .if_icmp .ne 52], [.iload 3, .iconst (1), .iadd, .goto 53, .bipush (-1), .istore 3, .iinc 4 (1), .goto 6, .iload 3, .aload 0, .getfield 1040, .aload 0, .getfield 1036, .isub, .if_icmp .ne 65, .iload 2], [.goto 66, .bipush (-1), .ireturn]]
/-- OneIsTwo$LawReader.isLetter(I)Z -/
def pm_31 : List (List Instr) := [[.iload 0, .iconst (97), .if_icmp .lt 8, .iload 0, .iconst (122), .if_icmp .gt 8, .iconst (1), .goto 9, .iconst (0), .freturn]]
/-- OneIsTwo$LawReader.isDigit(I)Z -/
def pm_32 : List (List Instr) := [[.iload 0, .iconst (48), .if_icmp .lt 8, .iload 0, .iconst (57), .if_icmp .gt 8, .iconst (1), .goto 9, .iconst (0), .freturn]]
/-- OneIsTwo$Ledger.<init>(LOneIsTwo$World;)V -/
def pm_33 : List (List Instr) := [[.aload 0, .monitorenter, .aload 0, .iconst (12), .newarray .long, .putfield 1286, .aload 0, .aload 1, .putfield 1282, .return_]]
/-- OneIsTwo$Ledger.lowest(JI)J -/
def pm_34 : List (List Instr) := [[.lload 0, .lstore 3, .goto_w (4194304), .lstore 5, .iconst (0), .istore 7, .iload 7, .iconst (22), .if_icmp .ge 25, .lload 3, .goto_w (2), .lrem, .goto_w (0), .lcmp, .ifCond .ne 25, .lload 3], [.goto_w (2), .ldiv, .lstore 3, .lload 5, .goto_w (2), .ldiv, .lstore 5, .iinc 7 (1), .goto 6, .iload 2, .ifCond .ne 29, .lload 3, .goto 30, .lload 5, .lreturn]]
/-- OneIsTwo$Ledger.sumOf(II)J -/
def pm_35 : List (List Instr) := [[.goto_w (0), .lstore 3, .iconst (0), .istore 5, .iload 5, .aload 0, .getfield 1282, .getfield 2604, .if_icmp .ge 38, .aload 0, .getfield 1282, .getfield 2570, .iload 5, .aaload, .getfield 256, .iload 2], [.if_icmp .eq 18, .goto 36, .aload 0, .iload 5, .invokestatic 37, .lload 3, .aload 0, .getfield 1282, .getfield 2570, .iload 5, .aaload, .getfield 264, .i2l, .aload 0, .getfield 1286, .iload 1], [.laload, .lmul, .ladd, .lstore 3, .iinc 5 (1), .goto 4, .lload 3, .lreturn]]
/-- OneIsTwo$Ledger.nextSharer(I)I -/
def pm_36 : List (List Instr) := [[.iload 1, .istore 2, .iload 2, .aload 0, .getfield 1282, .getfield 2596, .if_icmp .ge 18, .aload 0, .getfield 1286, .iload 2, .laload, .goto_w (0), .lcmp, .ifCond .eq 16, .iload 2, .ireturn], [.iinc 2 (1), .goto 2, .bipush (-9), .ireturn]]
/-- OneIsTwo$Ledger.follow(I)V -/
def pm_37 : List (List Instr) := [[.aload 0, .getfield 1282, .getfield 2570, .iload 1, .aaload, .astore 2, .iconst (0), .istore 3, .iload 3, .aload 0, .getfield 1286, .arraylength, .if_icmp .ge 20, .aload 0, .getfield 1286, .iload 3], [.goto_w (0), .lastore, .iinc 3 (1), .goto 8, .aload 0, .getfield 1286, .aload 2, .getfield 260, .goto_w (4194304), .lastore, .aload 2, .getfield 272, .istore 3, .iload 3, .aload 0, .getfield 1282], [.getfield 2600, .if_icmp .ge 107, .aload 0, .getfield 1282, .getfield 2566, .iload 3, .aaload, .astore 4, .aload 0, .getfield 1282, .getfield 2562, .aload 4, .getfield 516, .aaload, .astore 5, .aload 4], [.getfield 512, .iconst (3), .if_icmp .ne 64, .aload 0, .aload 5, .getfield 1800, .aload 4, .getfield 516, .invokestatic 38, .aload 0, .aload 5, .getfield 1804, .aload 4, .getfield 516, .invokestatic 38, .goto 105], [.aload 4, .getfield 512, .iconst (4), .if_icmp .ne 94, .aload 5, .getfield 1796, .invokestatic 149, .ifCond .eq 87, .aload 0, .getfield 1282, .getfield 2562, .aload 5, .getfield 1800, .aaload, .getfield 1824, .iload 3], [.if_icmp .le 87, .aload 0, .aload 4, .getfield 516, .aload 5, .getfield 1800, .invokestatic 38, .aload 0, .getfield 1286, .aload 4, .getfield 516, .goto_w (0), .lastore, .goto 105, .aload 0, .getfield 1282], [.aload 4, .aload 2, .getfield 268, .invokestatic 88, .ifCond .eq 105, .aload 0, .iload 1, .aload 4, .invokestatic 39, .iinc 3 (1), .goto 29, .return_]]
/-- OneIsTwo$Ledger.give(II)V -/
def pm_38 : List (List Instr) := [[.aload 0, .getfield 1286, .iload 2, .goto_w (4194304), .aload 0, .getfield 1286, .iload 2, .laload, .aload 0, .getfield 1286, .iload 1, .laload, .ladd, .invokestatic 273, .lastore, .aload 0], [.getfield 1286, .iload 1, .goto_w (0), .lastore, .return_]]
/-- OneIsTwo$Ledger.part(ILOneIsTwo$Event;)V -/
def pm_39 : List (List Instr) := [[.aload 0, .getfield 1282, .getfield 2570, .iload 1, .aaload, .astore 3, .aload 0, .getfield 1282, .getfield 2562, .aload 2, .getfield 516, .aaload, .astore 4, .aload 3, .getfield 256, .ifCond .ne 18], [.iconst (0), .goto 19, .iconst (1), .istore 5, .aload 0, .getfield 1282, .iload 5, .aload 2, .getfield 516, .aload 2, .getfield 520, .aload 3, .getfield 264, .iload 1, .invokestatic 86, .tableswitch 80 1 3 #[32, 39, 69]], [.aload 0, .aload 4, .getfield 1800, .aload 2, .getfield 516, .invokestatic 38, .goto 80, .aload 0, .getfield 1286, .aload 2, .getfield 516, .aload 0, .getfield 1286, .aload 4, .getfield 1800, .laload], [.aload 4, .getfield 1816, .i2l, .lmul, .goto_w (4), .ldiv, .lastore, .aload 0, .getfield 1286, .aload 4, .getfield 1800, .dup2, .laload, .aload 0, .getfield 1286, .aload 2], [.getfield 516, .laload, .lsub, .lastore, .goto 80, .aload 0, .getfield 1286, .aload 2, .getfield 516, .aload 0, .getfield 1286, .aload 4, .getfield 1800, .laload, .lastore, .goto 80], [.return_]]
/-- OneIsTwo$Minds.<init>(LOneIsTwo$World;)V -/
def pm_40 : List (List Instr) := [[.aload 0, .monitorenter, .aload 0, .iconst (12), .newarray .int, .putfield 1542, .aload 0, .iconst (66), .newarray .int, .putfield 1546, .aload 0, .aload 1, .putfield 1538, .return_]]
/-- OneIsTwo$Minds.recall()V -/
def pm_41 : List (List Instr) := [[.iconst (0), .istore 1, .iload 1, .aload 0, .getfield 1538, .getfield 2596, .if_icmp .ge 83, .aload 0, .getfield 1538, .getfield 2562, .iload 1, .aaload, .astore 2, .iconst (0), .istore 3, .aload 2], [.getfield 1796, .iconst (4), .if_icmp .ne 31, .aload 0, .getfield 1542, .aload 2, .getfield 1800, .iaload, .aload 0, .getfield 1542, .aload 2, .getfield 1804, .iaload, .ior, .istore 3, .aload 2], [.getfield 1796, .invokestatic 149, .ifCond .eq 46, .aload 0, .getfield 1542, .aload 2, .getfield 1800, .iaload, .aload 0, .aload 2, .getfield 1812, .invokestatic 42, .iand, .istore 3, .aload 2, .getfield 1796], [.iconst (3), .if_icmp .ne 54, .iload 3, .iconst (341), .iand, .istore 3, .iconst (0), .istore 4, .iload 4, .aload 0, .getfield 1538, .getfield 2612, .if_icmp .ge 76, .aload 0, .getfield 1538, .getfield 2578], [.iload 4, .iaload, .iload 1, .if_icmp .ne 74, .iload 3, .iconst (1), .iload 4, .ishl, .ior, .istore 3, .iinc 4 (1), .goto 56, .aload 0, .getfield 1542, .iload 1, .iload 3], [.iastore, .iinc 1 (1), .goto 2, .return_]]
/-- OneIsTwo$Minds.toldUpTo(I)I -/
def pm_42 : List (List Instr) := [[.iconst (0), .istore 2, .iconst (0), .istore 3, .iload 3, .aload 0, .getfield 1538, .getfield 2612, .if_icmp .ge 24, .aload 0, .getfield 1538, .getfield 2582, .iload 3, .iaload, .iload 1, .if_icmp .gt 22], [.iload 2, .iconst (1), .iload 3, .ishl, .ior, .istore 2, .iinc 3 (1), .goto 4, .iload 2, .ireturn]]
/-- OneIsTwo$Minds.leastApart(II)I -/
def pm_43 : List (List Instr) := [[.aload 0, .invokestatic 41, .iconst (0), .istore 3, .iload 3, .aload 0, .getfield 1538, .getfield 2612, .if_icmp .ge 27, .aload 0, .getfield 1542, .iload 1, .iaload, .aload 0, .getfield 1542, .iload 2], [.iaload, .ixor, .iload 3, .ishr, .iconst (1), .iand, .ifCond .eq 25, .iload 3, .ireturn, .iinc 3 (1), .goto 4, .bipush (-9), .ireturn]]
/-- OneIsTwo$Minds.fewestDeeds()I -/
def pm_44 : List (List Instr) := [[.aload 0, .invokestatic 41, .aload 0, .invokestatic 45, .istore 1, .iconst (1), .aload 0, .getfield 1538, .getfield 2612, .ishl, .iconst (1), .isub, .istore 2, .iload 2, .istore 3, .aload 0], [.getfield 1538, .getfield 2612, .istore 4, .iconst (0), .istore 5, .iload 5, .iload 2, .if_icmp .ge 42, .iload 5, .invokestatic 271, .istore 6, .iload 6, .iload 4, .if_icmp .ge 40, .aload 0, .iload 5], [.iload 1, .invokestatic 46, .ifCond .ne 36, .goto 40, .iload 5, .istore 3, .iload 6, .istore 4, .iinc 5 (1), .goto 21, .iload 3, .ireturn]]
/-- OneIsTwo$Minds.findApart()I -/
def pm_45 : List (List Instr) := [[.iconst (0), .istore 1, .iconst (0), .istore 2, .iload 2, .aload 0, .getfield 1538, .getfield 2596, .if_icmp .ge 58, .iconst (0), .istore 3, .iload 3, .iload 2, .if_icmp .ge 56, .aload 0, .getfield 1538], [.iload 2, .invokestatic 69, .ifCond .ne 54, .aload 0, .getfield 1538, .iload 3, .invokestatic 69, .ifCond .ne 54, .aload 0, .getfield 1542, .iload 2, .iaload, .aload 0, .getfield 1542, .iload 3, .iaload], [.if_icmp .ne 34, .goto 54, .iload 1, .aload 0, .getfield 1546, .arraylength, .if_icmp .lt 40, .goto 54, .aload 0, .getfield 1546, .iload 1, .aload 0, .getfield 1542, .iload 2, .iaload, .aload 0], [.getfield 1542, .iload 3, .iaload, .ixor, .iastore, .iinc 1 (1), .iinc 3 (1), .goto 11, .iinc 2 (1), .goto 4, .iload 1, .ireturn]]
/-- OneIsTwo$Minds.tellApart(II)Z -/
def pm_46 : List (List Instr) := [[.iconst (0), .istore 3, .iload 3, .iload 2, .if_icmp .ge 16, .aload 0, .getfield 1546, .iload 3, .iaload, .iload 1, .iand, .ifCond .ne 14, .iconst (0), .freturn, .iinc 3 (1), .goto 2], [.iconst (1), .freturn]]
/-- OneIsTwo$Minds.whoAnswers(I)I -/
def pm_47 : List (List Instr) := [[.aload 0, .getfield 1538, .getfield 2578, .iload 1, .iaload, .istore 2, .aload 0, .getfield 1538, .iconst (2), .iload 2, .invokestatic 87, .lookupswitch 23 #[(1, 12), (2, 16)], .aload 0, .iload 1, .invokestatic 50, .ireturn], [.aload 0, .aload 0, .getfield 1538, .iload 2, .invokestatic 89, .invokestatic 49, .ireturn, .aload 0, .aload 0, .iload 2, .invokestatic 48, .invokestatic 49, .ireturn]]
/-- OneIsTwo$Minds.bodyOf(I)I -/
def pm_48 : List (List Instr) := [[.iload 1, .istore 2, .iconst (0), .istore 3, .iload 3, .aload 0, .getfield 1538, .getfield 2596, .if_icmp .ge 25, .aload 0, .getfield 1538, .getfield 2562, .iload 2, .aaload, .getfield 1820, .ifCond .lt 25], [.aload 0, .getfield 1538, .getfield 2562, .iload 2, .aaload, .getfield 1820, .istore 2, .iinc 3 (1), .goto 4, .iload 2, .ireturn]]
/-- OneIsTwo$Minds.unlessEnded(I)I -/
def pm_49 : List (List Instr) := [[.aload 0, .getfield 1538, .iload 1, .invokestatic 69, .ifCond .eq 7, .iconst (0), .goto 10, .iconst (1), .iload 1, .ishl, .ireturn]]
/-- OneIsTwo$Minds.allWhoKnow(I)I -/
def pm_50 : List (List Instr) := [[.aload 0, .invokestatic 41, .iconst (0), .istore 2, .iconst (0), .istore 3, .iload 3, .aload 0, .getfield 1538, .getfield 2596, .if_icmp .ge 32, .aload 0, .iload 3, .invokestatic 51, .ifCond .eq 30, .aload 0], [.getfield 1542, .iload 3, .iaload, .iload 1, .ishr, .iconst (1), .iand, .ifCond .eq 30, .iload 2, .iconst (1), .iload 3, .ishl, .ior, .istore 2, .iinc 3 (1), .goto 6], [.iload 2, .ireturn]]
/-- OneIsTwo$Minds.isCounted(I)Z -/
def pm_51 : List (List Instr) := [[.aload 0, .getfield 1538, .iload 1, .invokestatic 68, .ifCond .eq 14, .aload 0, .getfield 1538, .getfield 2562, .iload 1, .aaload, .getfield 1832, .ifCond .ne 14, .iconst (1), .goto 15, .iconst (0), .freturn]]
/-- OneIsTwo$Minds.voteBelow(I)I -/
def pm_52 : List (List Instr) := [[.aload 0, .iload 1, .invokestatic 51, .ifCond .ne 6, .iconst (0), .ireturn, .aload 0, .getfield 1538, .iload 1, .invokestatic 89, .istore 2, .iconst (0), .istore 3, .iconst (1), .istore 4, .iconst (0)], [.istore 5, .iload 5, .aload 0, .getfield 1538, .getfield 2596, .if_icmp .ge 41, .aload 0, .iload 5, .invokestatic 51, .ifCond .eq 39, .aload 0, .getfield 1538, .iload 5, .invokestatic 89, .iload 2, .if_icmp .eq 33], [.goto 39, .iinc 3 (1), .iload 5, .iload 1, .if_icmp .ge 39, .iconst (0), .istore 4, .iinc 5 (1), .goto 17, .aload 0, .getfield 1538, .iconst (3), .iload 1, .invokestatic 87, .lookupswitch 55 #[(1, 47), (2, 53)], .iload 4], [.ifCond .eq 51, .iconst (1), .goto 52, .iconst (0), .ireturn, .iload 3, .ireturn, .iconst (1), .ireturn]]
/-- OneIsTwo$Minds.votesOf(I)I -/
def pm_53 : List (List Instr) := [[.iconst (0), .istore 2, .iconst (0), .istore 3, .iconst (1), .istore 4, .iconst (0), .istore 5, .iload 5, .aload 0, .getfield 1538, .getfield 2596, .if_icmp .ge 37, .aload 0, .getfield 1538, .iload 5], [.invokestatic 89, .iload 1, .if_icmp .ne 23, .aload 0, .iload 5, .invokestatic 52, .goto 24, .iconst (0), .istore 6, .iload 6, .iconst (1), .if_icmp .ne 29, .iinc 2 (1), .iload 6, .iconst (1), .if_icmp .le 35], [.iinc 3 (1), .iload 6, .istore 4, .iinc 5 (1), .goto 8, .iload 2, .iload 3, .iload 4, .idiv, .iadd, .ireturn]]
/-- OneIsTwo$Person.<init>()V -/
def pm_54 : List (List Instr) := [[.aload 0, .monitorenter, .return_]]
/-- OneIsTwo$Person.begin(II)V -/
def pm_55 : List (List Instr) := [[.aload 0, .iload 1, .putfield 1792, .aload 0, .iload 1, .putfield 1796, .aload 0, .bipush (-9), .putfield 1800, .aload 0, .bipush (-9), .putfield 1804, .aload 0, .iload 2, .putfield 1808, .aload 0], [.bipush (-9), .putfield 1812, .aload 0, .bipush (-9), .putfield 1816, .aload 0, .bipush (-9), .putfield 1820, .aload 0, .iconst (2147483647), .putfield 1824, .aload 0, .iconst (1), .putfield 1831, .aload 0, .iconst (0)], [.putfield 1835, .aload 0, .iconst (0), .putfield 1839, .return_]]
/-- OneIsTwo$Person.copyFrom(LOneIsTwo$Person;)V -/
def pm_56 : List (List Instr) := [[.aload 0, .aload 1, .getfield 1792, .putfield 1792, .aload 0, .aload 1, .getfield 1796, .putfield 1796, .aload 0, .aload 1, .getfield 1800, .putfield 1800, .aload 0, .aload 1, .getfield 1804, .putfield 1804], [.aload 0, .aload 1, .getfield 1808, .putfield 1808, .aload 0, .aload 1, .getfield 1812, .putfield 1812, .aload 0, .aload 1, .getfield 1816, .putfield 1816, .aload 0, .aload 1, .getfield 1820, .putfield 1820], [.aload 0, .aload 1, .getfield 1824, .putfield 1824, .aload 0, .aload 1, .getfield 1828, .putfield 1831, .aload 0, .aload 1, .getfield 1832, .putfield 1835, .aload 0, .aload 1, .getfield 1836, .putfield 1839], [.return_]]
/-- OneIsTwo$Sides.<init>(LOneIsTwo$World;)V -/
def pm_57 : List (List Instr) := [[.aload 0, .monitorenter, .aload 0, .aload 1, .putfield 2050, .return_]]
/-- OneIsTwo$Sides.across(I)I -/
def pm_58 : List (List Instr) := [[.iconst (0), .istore 2, .iconst (0), .istore 3, .iload 3, .aload 0, .getfield 2050, .getfield 2608, .if_icmp .ge 49, .aload 0, .getfield 2050, .getfield 2574, .iload 3, .aaload, .astore 4, .aload 0], [.aload 4, .aload 4, .getfield 2304, .invokestatic 59, .istore 5, .aload 0, .aload 4, .aload 4, .getfield 2308, .invokestatic 59, .istore 6, .iload 5, .iload 1, .ishr, .iconst (1), .iand], [.ifCond .eq 37, .iload 2, .iload 6, .ior, .istore 2, .iload 6, .iload 1, .ishr, .iconst (1), .iand, .ifCond .eq 47, .iload 2, .iload 5, .ior, .istore 2, .iinc 3 (1)], [.goto 4, .iload 2, .iconst (1), .iload 1, .ishl, .bipush (-1), .ixor, .iand, .ireturn]]
/-- OneIsTwo$Sides.follow(LOneIsTwo$Wedding;I)I -/
def pm_59 : List (List Instr) := [[.iconst (1), .iload 2, .ishl, .istore 3, .aload 1, .getfield 2316, .istore 4, .iload 4, .aload 0, .getfield 2050, .getfield 2600, .if_icmp .ge 90, .aload 0, .getfield 2050, .getfield 2566, .iload 4], [.aaload, .astore 5, .aload 0, .getfield 2050, .getfield 2562, .aload 5, .getfield 516, .aaload, .astore 6, .aload 5, .getfield 512, .iconst (3), .if_icmp .ne 55, .iconst (1), .aload 6, .getfield 1800], [.ishl, .iconst (1), .aload 6, .getfield 1804, .ishl, .ior, .istore 7, .iload 3, .iload 7, .iand, .ifCond .eq 54, .iload 3, .iload 7, .bipush (-1), .ixor, .iand], [.iconst (1), .aload 5, .getfield 516, .ishl, .ior, .istore 3, .goto 88, .aload 5, .getfield 512, .iconst (4), .if_icmp .ne 69, .iload 3, .iconst (1), .aload 5, .getfield 516, .ishl], [.bipush (-1), .ixor, .iand, .istore 3, .goto 88, .aload 0, .getfield 2050, .aload 5, .aload 1, .getfield 2312, .invokestatic 88, .ifCond .eq 88, .iload 3, .aload 6, .getfield 1800, .ishr], [.iconst (1), .iand, .ifCond .eq 88, .aload 0, .iload 3, .aload 5, .invokestatic 60, .istore 3, .iinc 4 (1), .goto 7, .iload 3, .ireturn]]
/-- OneIsTwo$Sides.withCopy(ILOneIsTwo$Event;)I -/
def pm_60 : List (List Instr) := [[.iconst (1), .aload 0, .getfield 2050, .getfield 2562, .aload 2, .getfield 516, .aaload, .getfield 1800, .ishl, .istore 3, .iconst (1), .aload 2, .getfield 516, .ishl, .istore 4, .aload 0], [.getfield 2050, .iconst (4), .aload 2, .getfield 516, .aload 2, .getfield 520, .iconst (0), .iconst (0), .invokestatic 86, .tableswitch 44 1 3 #[26, 34, 38], .iload 1, .iload 3, .bipush (-1), .ixor, .iand, .iload 4], [.ior, .ireturn, .iload 1, .iload 4, .ior, .ireturn, .iload 1, .iload 3, .bipush (-1), .ixor, .iand, .ireturn, .iload 1, .ireturn]]
/-- OneIsTwo$Wedding.<init>()V -/
def pm_61 : List (List Instr) := [[.aload 0, .monitorenter, .return_]]
/-- OneIsTwo$Wedding.set(IIII)V -/
def pm_62 : List (List Instr) := [[.aload 0, .iload 1, .putfield 2304, .aload 0, .iload 2, .putfield 2308, .aload 0, .iload 3, .putfield 2312, .aload 0, .iload 4, .putfield 2316, .return_]]
/-- OneIsTwo$World.<init>()V -/
def pm_63 : List (List Instr) := [[.aload 0, .monitorenter, .aload 0, .iconst (12), .anewarray 7, .putfield 2562, .aload 0, .iconst (18), .anewarray 2, .putfield 2566, .aload 0, .iconst (12), .anewarray 1, .putfield 2570, .aload 0, .iconst (8)], [.anewarray 9, .putfield 2574, .aload 0, .iconst (10), .newarray .int, .putfield 2578, .aload 0, .iconst (10), .newarray .int, .putfield 2582, .aload 0, .new 197, .dup, .invokestatic 9, .putfield 2586, .aload 0], [.iconst (6), .newarray .int, .putfield 2590, .aload 0, .iconst (1), .putfield 2616, .iconst (0), .istore 1, .iload 1, .aload 0, .getfield 2562, .arraylength, .if_icmp .ge 54, .aload 0, .getfield 2562, .iload 1], [.new 460, .dup, .invokestatic 54, .aastore, .iinc 1 (1), .goto 40, .iconst (0), .istore 1, .iload 1, .aload 0, .getfield 2566, .arraylength, .if_icmp .ge 70, .aload 0, .getfield 2566, .iload 1], [.new 131, .dup, .invokestatic 7, .aastore, .iinc 1 (1), .goto 56, .iconst (0), .istore 1, .iload 1, .aload 0, .getfield 2570, .arraylength, .if_icmp .ge 86, .aload 0, .getfield 2570, .iload 1], [.new 69, .dup, .invokestatic 5, .aastore, .iinc 1 (1), .goto 72, .iconst (0), .istore 1, .iload 1, .aload 0, .getfield 2574, .arraylength, .if_icmp .ge 102, .aload 0, .getfield 2574, .iload 1], [.new 580, .dup, .invokestatic 61, .aastore, .iinc 1 (1), .goto 88, .return_]]
/-- OneIsTwo$World.copyFrom(LOneIsTwo$World;)V -/
def pm_64 : List (List Instr) := [[.aload 0, .aload 1, .getfield 2592, .putfield 2592, .aload 0, .aload 1, .getfield 2596, .putfield 2596, .aload 0, .aload 1, .getfield 2600, .putfield 2600, .aload 0, .aload 1, .getfield 2604, .putfield 2604], [.aload 0, .aload 1, .getfield 2608, .putfield 2608, .aload 0, .aload 1, .getfield 2612, .putfield 2612, .aload 0, .aload 1, .getfield 2616, .putfield 2616, .iconst (0), .istore 2, .iload 2, .aload 0], [.getfield 2596, .if_icmp .ge 45, .aload 0, .getfield 2562, .iload 2, .aaload, .aload 1, .getfield 2562, .iload 2, .aaload, .invokestatic 56, .iinc 2 (1), .goto 30, .iconst (0), .istore 2, .iload 2], [.aload 0, .getfield 2600, .if_icmp .ge 69, .aload 1, .getfield 2566, .iload 2, .aaload, .astore 3, .aload 0, .getfield 2566, .iload 2, .aaload, .aload 3, .getfield 512, .aload 3, .getfield 516], [.aload 3, .getfield 520, .invokestatic 8, .iinc 2 (1), .goto 47, .iconst (0), .istore 2, .iload 2, .aload 0, .getfield 2604, .if_icmp .ge 97, .aload 1, .getfield 2570, .iload 2, .aaload, .astore 3], [.aload 0, .getfield 2570, .iload 2, .aaload, .aload 3, .getfield 256, .aload 3, .getfield 260, .aload 3, .getfield 264, .aload 3, .getfield 268, .aload 3, .getfield 272, .invokestatic 6, .iinc 2 (1)], [.goto 71, .iconst (0), .istore 2, .iload 2, .aload 0, .getfield 2608, .if_icmp .ge 123, .aload 1, .getfield 2574, .iload 2, .aaload, .astore 3, .aload 0, .getfield 2574, .iload 2, .aaload], [.aload 3, .getfield 2304, .aload 3, .getfield 2308, .aload 3, .getfield 2312, .aload 3, .getfield 2316, .invokestatic 62, .iinc 2 (1), .goto 99, .aload 1, .getfield 2578, .iconst (0), .aload 0, .getfield 2578], [.iconst (0), .aload 0, .getfield 2612, .monitorexit, .aload 1, .getfield 2582, .iconst (0), .aload 0, .getfield 2582, .iconst (0), .aload 0, .getfield 2612, .monitorexit, .aload 0, .getfield 2586, .aload 1], [.getfield 2586, .invokestatic 14, .return_]]
/-- OneIsTwo$World.isPerson(I)Z -/
def pm_65 : List (List Instr) := [[.iload 1, .ifCond .lt 8, .iload 1, .aload 0, .getfield 2596, .if_icmp .ge 8, .iconst (1), .goto 9, .iconst (0), .freturn]]
/-- OneIsTwo$World.isClaim(I)Z -/
def pm_66 : List (List Instr) := [[.iload 1, .ifCond .lt 8, .iload 1, .aload 0, .getfield 2604, .if_icmp .ge 8, .iconst (1), .goto 9, .iconst (0), .freturn]]
/-- OneIsTwo$World.isDeed(I)Z -/
def pm_67 : List (List Instr) := [[.iload 1, .ifCond .lt 8, .iload 1, .aload 0, .getfield 2612, .if_icmp .ge 8, .iconst (1), .goto 9, .iconst (0), .freturn]]
/-- OneIsTwo$World.isAwake(I)Z -/
def pm_68 : List (List Instr) := [[.aload 0, .getfield 2562, .iload 1, .aaload, .getfield 1792, .iconst (1), .if_icmp .lt 16, .aload 0, .getfield 2562, .iload 1, .aaload, .getfield 1792, .iconst (4), .if_icmp .gt 16, .iconst (1), .goto 17], [.iconst (0), .freturn]]
/-- OneIsTwo$World.isEnded(I)Z -/
def pm_69 : List (List Instr) := [[.aload 0, .getfield 2562, .iload 1, .aaload, .getfield 1792, .iconst (6), .if_icmp .ne 9, .iconst (1), .goto 10, .iconst (0), .freturn]]
/-- OneIsTwo$World.countAwake()I -/
def pm_70 : List (List Instr) := [[.iconst (0), .istore 1, .iconst (0), .istore 2, .iload 2, .aload 0, .getfield 2596, .if_icmp .ge 15, .aload 0, .iload 2, .invokestatic 68, .ifCond .eq 13, .iinc 1 (1), .iinc 2 (1), .goto 4, .iload 1], [.ireturn]]
/-- OneIsTwo$World.hasRoomForOne()Z -/
def pm_71 : List (List Instr) := [[.aload 0, .getfield 2596, .aload 0, .getfield 2562, .arraylength, .if_icmp .ge 11, .aload 0, .invokestatic 72, .ifCond .eq 11, .iconst (1), .goto 12, .iconst (0), .freturn]]
/-- OneIsTwo$World.hasRoomForEvent()Z -/
def pm_72 : List (List Instr) := [[.aload 0, .getfield 2600, .aload 0, .getfield 2566, .arraylength, .if_icmp .ge 8, .iconst (1), .goto 9, .iconst (0), .freturn]]
/-- OneIsTwo$World.addFirst()I -/
def pm_73 : List (List Instr) := [[.aload 0, .invokestatic 71, .ifCond .ne 5, .bipush (-2), .ireturn, .aload 0, .iconst (1), .iconst (0), .invokestatic 78, .ireturn]]
/-- OneIsTwo$World.addCopy(IIIIZ)I -/
def pm_74 : List (List Instr) := [[.aload 0, .invokestatic 71, .ifCond .ne 5, .bipush (-2), .ireturn, .aload 0, .iload 2, .iconst (1), .invokestatic 78, .istore 6, .aload 0, .getfield 2562, .iload 6, .aaload, .astore 7, .aload 7], [.iload 1, .putfield 1800, .aload 7, .iload 4, .putfield 1812, .aload 7, .iload 2, .iconst (3), .if_icmp .ne 27, .iload 3, .goto 28, .iconst (2), .putfield 1816, .aload 7, .iload 5, .putfield 1831], [.aload 0, .iload 6, .invokestatic 85, .iload 6, .ireturn]]
/-- OneIsTwo$World.addJoined(II)I -/
def pm_75 : List (List Instr) := [[.aload 0, .invokestatic 71, .ifCond .ne 5, .bipush (-2), .ireturn, .aload 0, .iload 1, .aload 0, .getfield 2596, .invokestatic 79, .aload 0, .iload 2, .aload 0, .getfield 2596, .invokestatic 79, .aload 0], [.iconst (4), .iconst (3), .invokestatic 78, .istore 3, .aload 0, .getfield 2562, .iload 3, .aaload, .iload 1, .putfield 1800, .aload 0, .getfield 2562, .iload 3, .aaload, .iload 2, .putfield 1804], [.iload 3, .ireturn]]
/-- OneIsTwo$World.wakeOne(I)I -/
def pm_76 : List (List Instr) := [[.aload 0, .invokestatic 72, .ifCond .ne 5, .bipush (-2), .ireturn, .aload 0, .getfield 2562, .iload 1, .aaload, .iconst (2), .putfield 1792, .aload 0, .iconst (2), .iload 1, .invokestatic 80, .iconst (1)], [.ireturn]]
/-- OneIsTwo$World.endOne(I)I -/
def pm_77 : List (List Instr) := [[.aload 0, .invokestatic 72, .ifCond .ne 5, .bipush (-2), .ireturn, .aload 0, .iload 1, .bipush (-9), .invokestatic 79, .aload 0, .iconst (4), .iload 1, .invokestatic 80, .aload 0, .invokestatic 70, .ireturn]]
/-- OneIsTwo$World.come(II)I -/
def pm_78 : List (List Instr) := [[.aload 0, .getfield 2596, .istore 3, .aload 0, .getfield 2562, .iload 3, .aaload, .iload 1, .aload 0, .getfield 2592, .invokestatic 55, .aload 0, .dup, .getfield 2596, .iconst (1), .iadd], [.putfield 2596, .aload 0, .iload 2, .iload 3, .invokestatic 80, .iload 3, .ireturn]]
/-- OneIsTwo$World.goAway(II)V -/
def pm_79 : List (List Instr) := [[.aload 0, .getfield 2562, .iload 1, .aaload, .iconst (6), .putfield 1792, .aload 0, .getfield 2562, .iload 1, .aaload, .iload 2, .putfield 1820, .aload 0, .getfield 2562, .iload 1, .aaload], [.aload 0, .getfield 2600, .putfield 1824, .return_]]
/-- OneIsTwo$World.tell(II)V -/
def pm_80 : List (List Instr) := [[.aload 0, .getfield 2566, .aload 0, .getfield 2600, .aaload, .iload 1, .iload 2, .aload 0, .getfield 2592, .invokestatic 8, .aload 0, .dup, .getfield 2600, .iconst (1), .iadd, .putfield 2600], [.return_]]
/-- OneIsTwo$World.addClaim(III)I -/
def pm_81 : List (List Instr) := [[.aload 0, .getfield 2604, .aload 0, .getfield 2570, .arraylength, .if_icmp .lt 8, .bipush (-2), .ireturn, .aload 0, .getfield 2570, .aload 0, .getfield 2604, .aaload, .iload 1, .iload 2, .iload 3], [.aload 0, .getfield 2592, .aload 0, .getfield 2600, .invokestatic 6, .aload 0, .dup, .getfield 2604, .iconst (1), .iadd, .putfield 2604, .aload 0, .getfield 2604, .iconst (1), .isub, .ireturn]]
/-- OneIsTwo$World.addDeed(I)I -/
def pm_82 : List (List Instr) := [[.aload 0, .getfield 2612, .aload 0, .getfield 2578, .arraylength, .if_icmp .lt 8, .bipush (-2), .ireturn, .aload 0, .getfield 2578, .aload 0, .getfield 2612, .iload 1, .iastore, .aload 0, .getfield 2582], [.aload 0, .getfield 2612, .aload 0, .getfield 2592, .iastore, .aload 0, .dup, .getfield 2612, .iconst (1), .iadd, .putfield 2612, .aload 0, .getfield 2612, .iconst (1), .isub, .ireturn]]
/-- OneIsTwo$World.addWedding(II)I -/
def pm_83 : List (List Instr) := [[.aload 0, .getfield 2608, .aload 0, .getfield 2574, .arraylength, .if_icmp .lt 8, .bipush (-2), .ireturn, .aload 0, .getfield 2574, .aload 0, .getfield 2608, .aaload, .iload 1, .iload 2, .aload 0], [.getfield 2592, .aload 0, .getfield 2600, .invokestatic 62, .aload 0, .dup, .getfield 2608, .iconst (1), .iadd, .putfield 2608, .aload 0, .getfield 2608, .iconst (1), .isub, .ireturn]]
/-- OneIsTwo$World.takeLaw(LOneIsTwo$Law;)V -/
def pm_84 : List (List Instr) := [[.aload 0, .getfield 2586, .aload 1, .invokestatic 14, .iconst (0), .istore 2, .iload 2, .aload 0, .getfield 2596, .if_icmp .ge 15, .aload 0, .iload 2, .invokestatic 85, .iinc 2 (1), .goto 6, .return_]]
/-- OneIsTwo$World.settle(I)V -/
def pm_85 : List (List Instr) := [[.aload 0, .getfield 2562, .iload 1, .aaload, .astore 2, .aload 2, .getfield 1796, .invokestatic 149, .ifCond .ne 10, .return_, .aload 2, .aload 2, .getfield 1828, .ifCond .ne 26, .aload 0, .iconst (5)], [.iload 1, .aload 2, .getfield 1808, .iconst (0), .iconst (0), .invokestatic 86, .iconst (1), .if_icmp .ne 26, .iconst (1), .goto 27, .iconst (0), .putfield 1835, .aload 2, .aload 2, .getfield 1796, .iconst (5)], [.if_icmp .ne 44, .aload 0, .iconst (6), .iload 1, .aload 2, .getfield 1808, .iconst (0), .iconst (0), .invokestatic 86, .ifCond .ne 44, .iconst (1), .goto 45, .iconst (0), .putfield 1839, .return_]]
/-- OneIsTwo$World.saysOn(IIIII)I -/
def pm_86 : List (List Instr) := [[.aload 0, .getfield 2562, .iload 2, .aaload, .astore 6, .aload 0, .getfield 2590, .iconst (0), .iload 3, .iastore, .aload 0, .getfield 2590, .iconst (1), .iload 2, .iastore, .aload 0], [.getfield 2590, .iconst (2), .aload 6, .getfield 1808, .aload 6, .getfield 1812, .isub, .iastore, .aload 0, .getfield 2590, .iconst (3), .aload 6, .getfield 1796, .iastore, .aload 0, .getfield 2590], [.iconst (4), .iload 4, .iastore, .aload 0, .getfield 2590, .iconst (5), .iload 5, .iastore, .aload 0, .getfield 2586, .iload 1, .aload 0, .getfield 2590, .invokestatic 15, .ireturn]]
/-- OneIsTwo$World.saysNow(II)I -/
def pm_87 : List (List Instr) := [[.aload 0, .getfield 2590, .iconst (0), .aload 0, .getfield 2592, .iastore, .aload 0, .getfield 2590, .iconst (1), .aload 0, .getfield 2596, .iastore, .aload 0, .getfield 2590, .iconst (2), .iconst (0)], [.iastore, .aload 0, .getfield 2590, .iconst (3), .aload 0, .getfield 2562, .iload 2, .aaload, .getfield 1792, .iastore, .aload 0, .getfield 2590, .iconst (4), .iconst (0), .iastore, .aload 0], [.getfield 2590, .iconst (5), .iconst (0), .iastore, .aload 0, .getfield 2586, .iload 1, .aload 0, .getfield 2590, .invokestatic 15, .ireturn]]
/-- OneIsTwo$World.isTakingPlace(LOneIsTwo$Event;I)Z -/
def pm_88 : List (List Instr) := [[.aload 1, .getfield 512, .iconst (1), .if_icmp .eq 10, .aload 1, .getfield 512, .iconst (2), .if_icmp .eq 10, .iconst (0), .freturn, .aload 0, .getfield 2562, .aload 1, .getfield 516, .aaload, .astore 3], [.aload 3, .getfield 1836, .aload 1, .getfield 512, .iconst (2), .if_icmp .ne 24, .iconst (1), .goto 25, .iconst (0), .if_icmp .ne 35, .aload 3, .getfield 1832, .ifCond .ne 35, .aload 3, .getfield 1812, .iload 2], [.if_icmp .lt 35, .iconst (1), .goto 36, .iconst (0), .freturn]]
/-- OneIsTwo$World.rootOf(I)I -/
def pm_89 : List (List Instr) := [[.iload 1, .istore 2, .iconst (0), .istore 3, .iload 3, .aload 0, .getfield 2596, .if_icmp .ge 22, .aload 0, .getfield 2562, .iload 2, .aaload, .getfield 1800, .ifCond .lt 22, .aload 0, .getfield 2562], [.iload 2, .aaload, .getfield 1800, .istore 2, .iinc 3 (1), .goto 4, .iload 2, .ireturn]]
/-- OneIsTwo$World.forebears(I)I -/
def pm_90 : List (List Instr) := [[.iconst (1), .iload 1, .ishl, .istore 2, .iload 1, .istore 3, .iload 3, .ifCond .lt 49, .iload 2, .iload 3, .ishr, .iconst (1), .iand, .ifCond .ne 15, .goto 47, .aload 0], [.getfield 2562, .iload 3, .aaload, .getfield 1800, .ifCond .lt 31, .iload 2, .iconst (1), .aload 0, .getfield 2562, .iload 3, .aaload, .getfield 1800, .ishl, .ior, .istore 2, .aload 0], [.getfield 2562, .iload 3, .aaload, .getfield 1804, .ifCond .lt 47, .iload 2, .iconst (1), .aload 0, .getfield 2562, .iload 3, .aaload, .getfield 1804, .ishl, .ior, .istore 2, .iinc 3 (-1)], [.goto 6, .iload 2, .ireturn]]
/-- OneIsTwo.<init>()V -/
def pm_91 : List (List Instr) := [[.aload 0, .monitorenter, .aload 0, .new 655, .dup, .invokestatic 63, .putfield 2818, .aload 0, .new 655, .dup, .invokestatic 63, .putfield 2822, .aload 0, .new 655, .dup, .invokestatic 63], [.putfield 2826, .aload 0, .new 322, .dup, .aload 0, .getfield 2818, .invokestatic 33, .putfield 2830, .aload 0, .new 322, .dup, .aload 0, .getfield 2826, .invokestatic 33, .putfield 2834, .aload 0], [.new 513, .dup, .aload 0, .getfield 2818, .invokestatic 57, .putfield 2838, .aload 0, .new 387, .dup, .aload 0, .getfield 2818, .invokestatic 40, .putfield 2842, .aload 0, .iconst (200), .newarray .byte], [.putfield 2846, .aload 0, .new 263, .dup, .aload 0, .getfield 2846, .invokestatic 18, .putfield 2850, .aload 0, .new 6, .dup, .invokestatic 0, .putfield 2854, .aload 0, .iconst (12), .iconst (3)], [.multianewarray 1 2, .putfield 2858, .aload 0, .iconst (4), .iconst (40), .multianewarray 0 2, .putfield 2862, .aload 0, .iconst (4), .newarray .int, .putfield 2866, .aload 0, .iconst (4), .newarray .int, .putfield 2870, .aload 0], [.iconst (4), .newarray .int, .putfield 2874, .aload 0, .iconst (4), .newarray .int, .putfield 2878, .iconst (0), .istore 1, .iload 1, .aload 0, .getfield 2866, .arraylength, .if_icmp .ge 101, .aload 0, .getfield 2866], [.iload 1, .bipush (-1), .iastore, .iinc 1 (1), .goto 89, .iconst (0), .istore 1, .iload 1, .aload 0, .getfield 2874, .arraylength, .if_icmp .ge 115, .aload 0, .getfield 2874, .iload 1, .bipush (-1)], [.iastore, .iinc 1 (1), .goto 103, .return_]]
/-- OneIsTwo.later(I)I -/
def pm_92 : List (List Instr) := [[.iload 1, .iconst (1), .if_icmp .lt 6, .iload 1, .iconst (99), .if_icmp .le 8, .bipush (-1), .ireturn, .aload 0, .getfield 2818, .getfield 2592, .iload 1, .iadd, .iconst (999), .if_icmp .le 17, .bipush (-2)], [.ireturn, .aload 0, .getfield 2818, .dup, .getfield 2592, .iload 1, .iadd, .putfield 2592, .aload 0, .getfield 2818, .getfield 2592, .ireturn]]
/-- OneIsTwo.born()I -/
def pm_93 : List (List Instr) := [[.aload 0, .getfield 2818, .invokestatic 73, .ireturn]]
/-- OneIsTwo.copied(IIIIZ)I -/
def pm_94 : List (List Instr) := [[.aload 0, .getfield 2818, .iload 1, .invokestatic 65, .ifCond .eq 8, .iload 2, .invokestatic 149, .ifCond .ne 10, .bipush (-1), .ireturn, .iload 2, .iconst (3), .if_icmp .ne 21, .iload 3, .iconst (1), .if_icmp .lt 19], [.iload 3, .iconst (3), .if_icmp .le 21, .bipush (-1), .ireturn, .iload 4, .ifCond .lt 28, .iload 4, .aload 0, .getfield 2818, .getfield 2592, .if_icmp .le 30, .bipush (-1), .ireturn, .aload 0, .getfield 2818], [.iload 1, .invokestatic 68, .ifCond .ne 37, .bipush (-4), .ireturn, .aload 0, .getfield 2818, .iload 1, .iload 2, .iload 3, .iload 4, .iload 5, .invokestatic 74, .ireturn]]
/-- OneIsTwo.wake(I)I -/
def pm_95 : List (List Instr) := [[.aload 0, .getfield 2818, .iload 1, .invokestatic 65, .ifCond .ne 7, .bipush (-1), .ireturn, .aload 0, .getfield 2818, .getfield 2562, .iload 1, .aaload, .getfield 1792, .iconst (5), .if_icmp .eq 17, .bipush (-4)], [.ireturn, .aload 0, .getfield 2818, .iload 1, .invokestatic 76, .ireturn]]
/-- OneIsTwo.join(II)I -/
def pm_96 : List (List Instr) := [[.aload 0, .getfield 2818, .iload 1, .invokestatic 65, .ifCond .eq 13, .aload 0, .getfield 2818, .iload 2, .invokestatic 65, .ifCond .eq 13, .iload 1, .iload 2, .if_icmp .ne 15, .bipush (-1), .ireturn, .aload 0], [.getfield 2818, .iload 1, .invokestatic 68, .ifCond .eq 25, .aload 0, .getfield 2818, .iload 2, .invokestatic 68, .ifCond .ne 27, .bipush (-4), .ireturn, .aload 0, .getfield 2818, .iload 1, .iload 2, .invokestatic 75], [.ireturn]]
/-- OneIsTwo.end(I)I -/
def pm_97 : List (List Instr) := [[.aload 0, .getfield 2818, .iload 1, .invokestatic 65, .ifCond .ne 7, .bipush (-1), .ireturn, .aload 0, .getfield 2818, .iload 1, .invokestatic 69, .ifCond .eq 14, .bipush (-4), .ireturn, .aload 0, .getfield 2818], [.iload 1, .invokestatic 77, .ireturn]]
/-- OneIsTwo.person(II)I -/
def pm_98 : List (List Instr) := [[.aload 0, .getfield 2818, .iload 1, .invokestatic 65, .ifCond .ne 7, .bipush (-1), .ireturn, .aload 0, .getfield 2818, .getfield 2562, .iload 1, .aaload, .astore 3, .iload 2, .tableswitch 48 0 8 #[15, 18, 21, 24, 27, 30, 33, 36, 43], .aload 3], [.getfield 1792, .ireturn, .aload 3, .getfield 1800, .ireturn, .aload 3, .getfield 1804, .ireturn, .aload 3, .getfield 1808, .ireturn, .aload 3, .getfield 1812, .ireturn, .aload 3, .getfield 1816], [.ireturn, .aload 3, .getfield 1820, .ireturn, .aload 3, .getfield 1832, .ifCond .eq 41, .iconst (1), .goto 42, .iconst (0), .ireturn, .aload 0, .getfield 2818, .iload 1, .invokestatic 89, .ireturn], [.bipush (-1), .ireturn]]
/-- OneIsTwo.kin(I)I -/
def pm_99 : List (List Instr) := [[.aload 0, .getfield 2818, .iload 1, .invokestatic 65, .ifCond .ne 7, .bipush (-1), .ireturn, .iconst (0), .istore 2, .iload 1, .istore 3, .iload 3, .aload 0, .getfield 2818, .getfield 2596, .if_icmp .ge 33], [.aload 0, .getfield 2818, .iload 3, .invokestatic 90, .iload 1, .ishr, .iconst (1), .iand, .ifCond .eq 31, .iload 2, .iconst (1), .iload 3, .ishl, .ior, .istore 2, .iinc 3 (1)], [.goto 11, .iload 2, .ireturn]]
/-- OneIsTwo.common(II)I -/
def pm_100 : List (List Instr) := [[.aload 0, .getfield 2818, .iload 1, .invokestatic 65, .ifCond .eq 10, .aload 0, .getfield 2818, .iload 2, .invokestatic 65, .ifCond .ne 12, .bipush (-1), .ireturn, .aload 0, .getfield 2818, .iload 1, .invokestatic 90], [.aload 0, .getfield 2818, .iload 2, .invokestatic 90, .iand, .istore 3, .aload 0, .getfield 2818, .getfield 2596, .iconst (1), .isub, .istore 4, .iload 4, .ifCond .lt 40, .iload 3, .iload 4], [.ishr, .iconst (1), .iand, .ifCond .eq 38, .iload 4, .ireturn, .iinc 4 (-1), .goto 28, .bipush (-9), .ireturn]]
/-- OneIsTwo.feed(JI)I -/
def pm_101 : List (List Instr) := [[.iload 3, .iconst (1), .if_icmp .lt 6, .iload 3, .iconst (8), .if_icmp .le 8, .bipush (-1), .ireturn, .aload 0, .getfield 2884, .iload 3, .iadd, .aload 0, .getfield 2846, .arraylength, .if_icmp .le 18], [.bipush (-2), .ireturn, .iconst (0), .istore 4, .iload 4, .iload 3, .if_icmp .ge 39, .aload 0, .getfield 2846, .aload 0, .getfield 2884, .iload 4, .iadd, .lload 1, .iconst (8), .iload 4], [.imul, .lushr, .l2i, .i2b, .bastore, .iinc 4 (1), .goto 20, .aload 0, .dup, .getfield 2884, .iload 3, .iadd, .putfield 2884, .aload 0, .getfield 2884, .ireturn]]
/-- OneIsTwo.law()I -/
def pm_102 : List (List Instr) := [[.aload 0, .getfield 2850, .aload 0, .getfield 2884, .invokestatic 19, .aload 0, .iconst (0), .putfield 2884, .iconst (0), .istore 1, .iload 1, .iconst (10), .if_icmp .gt 29, .aload 0, .getfield 2850, .invokestatic 20], [.ifCond .ne 29, .aload 0, .getfield 2850, .invokestatic 21, .ifCond .ne 27, .bipush (-100), .aload 0, .getfield 2850, .getfield 1036, .isub, .ireturn, .iinc 1 (1), .goto 10, .aload 0, .getfield 2818, .aload 0], [.getfield 2850, .getfield 1026, .invokestatic 84, .aload 0, .getfield 2818, .getfield 2586, .getfield 784, .ireturn]]
/-- OneIsTwo.says(II)I -/
def pm_103 : List (List Instr) := [[.iload 1, .ifCond .lt 10, .iload 1, .iconst (6), .if_icmp .gt 10, .aload 0, .getfield 2818, .iload 2, .invokestatic 65, .ifCond .ne 12, .bipush (-1), .ireturn, .aload 0, .getfield 2818, .iload 1, .iload 2], [.invokestatic 87, .ireturn]]
/-- OneIsTwo.claim(III)I -/
def pm_104 : List (List Instr) := [[.iload 1, .invokestatic 148, .ifCond .eq 14, .aload 0, .getfield 2818, .iload 2, .invokestatic 65, .ifCond .eq 14, .iload 3, .iconst (1), .if_icmp .lt 14, .iload 3, .iconst (9999), .if_icmp .le 16, .bipush (-1), .ireturn], [.aload 0, .getfield 2818, .iload 2, .invokestatic 68, .ifCond .ne 23, .bipush (-4), .ireturn, .aload 0, .getfield 2818, .iload 1, .iload 2, .iload 3, .invokestatic 81, .ireturn]]
/-- OneIsTwo.claimOf(II)I -/
def pm_105 : List (List Instr) := [[.aload 0, .getfield 2818, .iload 1, .invokestatic 66, .ifCond .ne 7, .bipush (-1), .ireturn, .aload 0, .getfield 2818, .getfield 2570, .iload 1, .aaload, .astore 3, .iload 2, .tableswitch 27 0 3 #[15, 18, 21, 24], .aload 3], [.getfield 256, .ireturn, .aload 3, .getfield 260, .ireturn, .aload 3, .getfield 264, .ireturn, .aload 3, .getfield 268, .ireturn, .bipush (-1), .ireturn]]
/-- OneIsTwo.share(III)J -/
def pm_106 : List (List Instr) := [[.aload 0, .getfield 2818, .iload 1, .invokestatic 65, .ifCond .eq 13, .aload 0, .getfield 2818, .iload 2, .invokestatic 66, .ifCond .eq 13, .iload 3, .invokestatic 147, .ifCond .ne 15, .jsr_w (-1), .lreturn, .aload 0], [.getfield 2830, .iload 2, .invokestatic 37, .aload 0, .getfield 2830, .getfield 1286, .iload 1, .laload, .iload 3, .invokestatic 34, .lreturn]]
/-- OneIsTwo.total(III)J -/
def pm_107 : List (List Instr) := [[.aload 0, .getfield 2818, .iload 1, .invokestatic 65, .ifCond .eq 11, .iload 2, .invokestatic 148, .ifCond .eq 11, .iload 3, .invokestatic 147, .ifCond .ne 13, .jsr_w (-1), .lreturn, .aload 0, .getfield 2830, .iload 1], [.iload 2, .invokestatic 35, .iload 3, .invokestatic 34, .lreturn]]
/-- OneIsTwo.deed(I)I -/
def pm_108 : List (List Instr) := [[.aload 0, .getfield 2818, .iload 1, .invokestatic 65, .ifCond .ne 7, .bipush (-1), .ireturn, .aload 0, .getfield 2818, .iload 1, .invokestatic 68, .ifCond .ne 14, .bipush (-4), .ireturn, .aload 0, .getfield 2818], [.iload 1, .invokestatic 82, .ireturn]]
/-- OneIsTwo.remembers(II)I -/
def pm_109 : List (List Instr) := [[.aload 0, .getfield 2818, .iload 1, .invokestatic 65, .ifCond .eq 10, .aload 0, .getfield 2818, .iload 2, .invokestatic 67, .ifCond .ne 12, .bipush (-1), .ireturn, .aload 0, .getfield 2842, .invokestatic 41, .aload 0], [.getfield 2842, .getfield 1542, .iload 1, .iaload, .iload 2, .ishr, .iconst (1), .iand, .ireturn]]
/-- OneIsTwo.blame(I)I -/
def pm_110 : List (List Instr) := [[.aload 0, .getfield 2818, .iload 1, .invokestatic 67, .ifCond .ne 7, .bipush (-1), .ireturn, .aload 0, .getfield 2842, .iload 1, .invokestatic 47, .ireturn]]
/-- OneIsTwo.wed(II)I -/
def pm_111 : List (List Instr) := [[.aload 0, .getfield 2818, .iload 1, .invokestatic 65, .ifCond .eq 13, .aload 0, .getfield 2818, .iload 2, .invokestatic 65, .ifCond .eq 13, .iload 1, .iload 2, .if_icmp .ne 15, .bipush (-1), .ireturn, .aload 0], [.getfield 2818, .iload 1, .invokestatic 68, .ifCond .eq 25, .aload 0, .getfield 2818, .iload 2, .invokestatic 68, .ifCond .ne 27, .bipush (-4), .ireturn, .aload 0, .getfield 2838, .iload 1, .invokestatic 58, .iload 2], [.ishr, .iconst (1), .iand, .ifCond .eq 38, .bipush (-4), .ireturn, .aload 0, .getfield 2818, .iload 1, .iload 2, .invokestatic 83, .ireturn]]
/-- OneIsTwo.wedTo(I)I -/
def pm_112 : List (List Instr) := [[.aload 0, .getfield 2818, .iload 1, .invokestatic 65, .ifCond .ne 7, .bipush (-1), .ireturn, .aload 0, .getfield 2838, .iload 1, .invokestatic 58, .ireturn]]
/-- OneIsTwo.votes(II)I -/
def pm_113 : List (List Instr) := [[.aload 0, .getfield 2818, .iload 1, .invokestatic 65, .ifCond .eq 8, .iload 2, .invokestatic 147, .ifCond .ne 10, .bipush (-1), .ireturn, .aload 0, .getfield 2842, .iload 1, .invokestatic 52, .istore 3, .iload 2], [.ifCond .ne 23, .iload 3, .ifCond .ne 21, .iconst (0), .goto 22, .iconst (1), .ireturn, .iload 3, .ifCond .ne 27, .iconst (1), .goto 28, .iload 3, .ireturn]]
/-- OneIsTwo.rooted(I)I -/
def pm_114 : List (List Instr) := [[.aload 0, .getfield 2818, .iload 1, .invokestatic 65, .ifCond .ne 7, .bipush (-1), .ireturn, .aload 0, .getfield 2818, .getfield 2562, .iload 1, .aaload, .getfield 1796, .iconst (1), .if_icmp .eq 17, .bipush (-3)], [.ireturn, .aload 0, .getfield 2842, .iload 1, .invokestatic 53, .ireturn]]
/-- OneIsTwo.apart(II)I -/
def pm_115 : List (List Instr) := [[.aload 0, .getfield 2818, .iload 1, .invokestatic 65, .ifCond .eq 10, .aload 0, .getfield 2818, .iload 2, .invokestatic 65, .ifCond .ne 12, .bipush (-1), .ireturn, .aload 0, .getfield 2842, .iload 1, .iload 2], [.invokestatic 43, .ireturn]]
/-- OneIsTwo.fewest(I)I -/
def pm_116 : List (List Instr) := [[.iload 1, .ifCond .lt 5, .iload 1, .iconst (1), .if_icmp .le 7, .bipush (-1), .ireturn, .aload 0, .getfield 2842, .invokestatic 44, .istore 2, .iload 1, .ifCond .ne 16, .iload 2, .invokestatic 271, .goto 17], [.iload 2, .ireturn]]
/-- OneIsTwo.pays(II)J -/
def pm_117 : List (List Instr) := [[.aload 0, .getfield 2818, .iload 1, .invokestatic 65, .ifCond .eq 10, .iload 2, .ifCond .lt 10, .iload 2, .iconst (1), .if_icmp .le 12, .jsr_w (-1), .lreturn, .aload 0, .getfield 2818, .iload 1, .invokestatic 68], [.ifCond .ne 19, .jsr_w (-4), .lreturn, .iconst (0), .istore 3, .aload 0, .getfield 2830, .iload 1, .iconst (0), .invokestatic 35, .goto_w (4194304), .ldiv, .lstore 4, .iconst (1), .istore 6, .iload 6], [.iconst (4), .aload 0, .getfield 2818, .getfield 2596, .iadd, .if_icmp .ge 69, .lload 4, .goto_w (0), .lcmp, .ifCond .le 69, .aload 0, .iload 1, .iload 6, .invokestatic 118, .istore 7, .iload 7], [.ifCond .ge 51, .lload 4, .goto 58, .aload 0, .getfield 2834, .iload 7, .iconst (0), .invokestatic 35, .goto_w (4194304), .ldiv, .lstore 8, .lload 8, .lload 4, .lcmp, .ifCond .ge 67, .iload 6], [.istore 3, .lload 8, .lstore 4, .iinc 6 (1), .goto 31, .iload 2, .ifCond .ne 74, .iload 3, .i2l, .goto 75, .lload 4, .lreturn]]
/-- OneIsTwo.tryChoice(II)I -/
def pm_118 : List (List Instr) := [[.aload 0, .getfield 2826, .aload 0, .getfield 2818, .invokestatic 64, .iload 2, .iconst (1), .if_icmp .ne 23, .aload 0, .getfield 2826, .iload 1, .iconst (2), .iconst (0), .aload 0, .getfield 2826, .getfield 2592], [.iconst (1), .invokestatic 74, .ifCond .ge 21, .bipush (-2), .goto 22, .iload 1, .ireturn, .iload 2, .iconst (2), .if_icmp .ne 41, .aload 0, .getfield 2826, .iload 1, .iconst (3), .iconst (1), .aload 0], [.getfield 2826, .getfield 2592, .iconst (1), .invokestatic 74, .ifCond .ge 39, .bipush (-2), .goto 40, .iload 1, .ireturn, .iload 2, .iconst (3), .if_icmp .ne 53, .aload 0, .getfield 2826, .iload 1, .invokestatic 77], [.ifCond .ge 51, .bipush (-2), .goto 52, .iload 1, .ireturn, .iload 2, .iconst (4), .isub, .istore 3, .iload 3, .iload 1, .if_icmp .eq 70, .aload 0, .getfield 2826, .iload 3, .invokestatic 65], [.ifCond .eq 70, .aload 0, .getfield 2826, .iload 3, .invokestatic 68, .ifCond .ne 72, .bipush (-4), .ireturn, .aload 0, .getfield 2826, .iload 1, .iload 3, .invokestatic 75, .ireturn]]
/-- OneIsTwo.lender(III)J -/
def pm_119 : List (List Instr) := [[.aload 0, .getfield 2818, .iload 1, .invokestatic 65, .ifCond .eq 13, .iload 2, .ifCond .lt 13, .iload 2, .iconst (4), .if_icmp .gt 13, .iload 3, .invokestatic 147, .ifCond .ne 15, .jsr_w (-1), .lreturn, .aload 0], [.getfield 2818, .iload 1, .invokestatic 68, .ifCond .ne 22, .jsr_w (-4), .lreturn, .aload 0, .getfield 2826, .aload 0, .getfield 2818, .invokestatic 64, .aload 0, .getfield 2826, .iconst (0), .iload 1, .iconst (1)], [.invokestatic 81, .istore 4, .iload 4, .ifCond .ge 38, .jsr_w (-2), .lreturn, .iconst (0), .istore 5, .iload 5, .iload 2, .if_icmp .ge 58, .aload 0, .getfield 2826, .iload 1, .iconst (2), .iconst (0)], [.aload 0, .getfield 2826, .getfield 2592, .iconst (1), .invokestatic 74, .ifCond .ge 56, .jsr_w (-2), .lreturn, .iinc 5 (1), .goto 40, .aload 0, .getfield 2834, .iload 4, .invokestatic 37, .goto_w (0), .lstore 5], [.iconst (0), .istore 7, .iload 7, .aload 0, .getfield 2826, .getfield 2596, .if_icmp .ge 81, .lload 5, .aload 0, .getfield 2834, .getfield 1286, .iload 7, .laload, .invokestatic 272, .lstore 5, .iinc 7 (1)], [.goto 66, .lload 5, .iload 3, .invokestatic 34, .lreturn]]
/-- OneIsTwo.seed(I)I -/
def pm_120 : List (List Instr) := [[.aload 0, .getfield 2818, .getfield 2616, .istore 2, .aload 0, .getfield 2818, .iload 1, .putfield 2616, .iload 2, .ireturn]]
/-- OneIsTwo.call()I -/
def pm_121 : List (List Instr) := [[.aload 0, .getfield 2818, .invokestatic 70, .istore 1, .iload 1, .ifCond .ne 8, .bipush (-3), .ireturn, .aload 0, .getfield 2818, .aload 0, .getfield 2818, .getfield 2616, .iconst (1103515245), .imul, .iconst (12345)], [.iadd, .putfield 2616, .aload 0, .getfield 2818, .getfield 2616, .iconst (16), .iushr, .iload 1, .irem, .istore 2, .iconst (0), .istore 3, .iload 3, .aload 0, .getfield 2818, .getfield 2596], [.if_icmp .ge 46, .aload 0, .getfield 2818, .iload 3, .invokestatic 68, .ifCond .ne 39, .goto 44, .iload 2, .ifCond .ne 43, .iload 3, .ireturn, .iinc 2 (-1), .iinc 3 (1), .goto 28, .bipush (-3), .ireturn]]
/-- OneIsTwo.prove(I)I -/
def pm_122 : List (List Instr) := [[.aload 0, .getfield 2818, .iload 1, .invokestatic 66, .ifCond .ne 7, .bipush (-1), .ireturn, .aload 0, .getfield 2830, .iload 1, .invokestatic 37, .aload 0, .iconst (0), .putfield 2888, .iconst (0), .istore 2], [.iload 2, .aload 0, .getfield 2818, .getfield 2596, .if_icmp .ge 75, .aload 0, .getfield 2830, .getfield 1286, .iload 2, .laload, .goto_w (0), .lcmp, .ifCond .ne 30, .goto 73, .aload 0, .getfield 2858], [.aload 0, .getfield 2888, .aaload, .iconst (0), .iload 2, .i2l, .lastore, .aload 0, .getfield 2858, .aload 0, .getfield 2888, .aaload, .iconst (1), .aload 0, .getfield 2830, .getfield 1286], [.iload 2, .laload, .iconst (0), .invokestatic 34, .lastore, .aload 0, .getfield 2858, .aload 0, .getfield 2888, .aaload, .iconst (2), .aload 0, .getfield 2830, .getfield 1286, .iload 2, .laload], [.iconst (1), .invokestatic 34, .lastore, .aload 0, .dup, .getfield 2888, .iconst (1), .iadd, .putfield 2888, .iinc 2 (1), .goto 16, .aload 0, .getfield 2888, .ireturn]]
/-- OneIsTwo.row(II)J -/
def pm_123 : List (List Instr) := [[.aload 0, .iload 1, .iload 2, .invokestatic 126, .ifCond .ne 7, .jsr_w (-9), .lreturn, .aload 0, .getfield 2858, .iload 1, .aaload, .iload 2, .laload, .lreturn]]
/-- OneIsTwo.alterRow(IIJ)J -/
def pm_124 : List (List Instr) := [[.aload 0, .iload 1, .iload 2, .invokestatic 126, .ifCond .ne 7, .jsr_w (-9), .lreturn, .aload 0, .getfield 2858, .iload 1, .aaload, .iload 2, .laload, .lstore 5, .aload 0, .getfield 2858], [.iload 1, .aaload, .iload 2, .lload 3, .lastore, .lload 5, .lreturn]]
/-- OneIsTwo.judge(I)I -/
def pm_125 : List (List Instr) := [[.aload 0, .getfield 2818, .iload 1, .invokestatic 66, .ifCond .ne 7, .bipush (-1), .ireturn, .aload 0, .getfield 2830, .iload 1, .invokestatic 37, .aload 0, .getfield 2830, .iconst (0), .invokestatic 36, .istore 2], [.iconst (0), .istore 3, .iload 3, .aload 0, .getfield 2888, .if_icmp .ge 40, .aload 0, .iload 3, .iload 2, .invokestatic 127, .ifCond .ne 31, .iload 3, .iconst (1), .iadd, .ireturn, .aload 0], [.getfield 2830, .iload 2, .iconst (1), .iadd, .invokestatic 36, .istore 2, .iinc 3 (1), .goto 18, .iload 2, .bipush (-9), .if_icmp .ne 45, .iconst (0), .goto 46, .iconst (222), .ireturn]]
/-- OneIsTwo.isRowPlace(II)Z -/
def pm_126 : List (List Instr) := [[.iload 1, .ifCond .lt 13, .iload 1, .aload 0, .getfield 2888, .if_icmp .ge 13, .iload 2, .ifCond .lt 13, .iload 2, .iconst (2), .if_icmp .gt 13, .iconst (1), .goto 14, .iconst (0), .freturn]]
/-- OneIsTwo.isRightRow(II)Z -/
def pm_127 : List (List Instr) := [[.iload 2, .bipush (-9), .if_icmp .eq 13, .aload 0, .getfield 2858, .iload 1, .aaload, .iconst (0), .laload, .iload 2, .i2l, .lcmp, .ifCond .eq 15, .iconst (0), .freturn, .aload 0], [.getfield 2858, .iload 1, .aaload, .iconst (1), .laload, .aload 0, .getfield 2830, .getfield 1286, .iload 2, .laload, .iconst (0), .invokestatic 34, .lcmp, .ifCond .ne 47, .aload 0, .getfield 2858], [.iload 1, .aaload, .iconst (2), .laload, .aload 0, .getfield 2830, .getfield 1286, .iload 2, .laload, .iconst (1), .invokestatic 34, .lcmp, .ifCond .ne 47, .iconst (1), .goto 48, .iconst (0)], [.freturn]]
/-- OneIsTwo.sheet(III)I -/
def pm_128 : List (List Instr) := [[.iload 1, .invokestatic 145, .ifCond .eq 9, .iload 2, .bipush (-1), .if_icmp .lt 9, .iload 2, .iconst (4), .if_icmp .le 11, .bipush (-1), .ireturn, .iload 2, .bipush (-1), .if_icmp .eq 46, .iload 3, .aload 0], [.getfield 2862, .iload 1, .aaload, .arraylength, .if_icmp .le 23, .bipush (-1), .ireturn, .iload 3, .ifCond .ge 27, .bipush (-14), .ireturn, .aload 0, .getfield 2870, .iload 1, .iload 3, .iastore], [.iconst (0), .istore 4, .iload 4, .iload 3, .if_icmp .ge 46, .aload 0, .getfield 2862, .iload 1, .aaload, .iload 4, .iconst (0), .iastore, .iinc 4 (1), .goto 34, .aload 0, .getfield 2866], [.iload 1, .iload 2, .iastore, .iconst (1), .ireturn]]
/-- OneIsTwo.put(III)I -/
def pm_129 : List (List Instr) := [[.iload 1, .invokestatic 145, .ifCond .ne 5, .bipush (-1), .ireturn, .aload 0, .getfield 2866, .iload 1, .iaload, .bipush (-1), .if_icmp .ne 13, .bipush (-11), .ireturn, .iload 2, .ifCond .lt 21, .iload 2], [.aload 0, .getfield 2870, .iload 1, .iaload, .if_icmp .lt 23, .bipush (-12), .ireturn, .aload 0, .getfield 2862, .iload 1, .aaload, .iload 2, .aload 0, .getfield 2866, .iload 1, .iaload], [.iload 3, .invokestatic 144, .iastore, .iconst (1), .ireturn]]
/-- OneIsTwo.item(III)I -/
def pm_130 : List (List Instr) := [[.iload 1, .invokestatic 145, .ifCond .eq 8, .iload 2, .ifCond .lt 8, .iload 2, .iconst (4), .if_icmp .le 10, .bipush (-1), .ireturn, .aload 0, .getfield 2866, .iload 1, .iaload, .bipush (-1), .if_icmp .ne 18], [.bipush (-11), .ireturn, .aload 0, .getfield 2866, .iload 1, .iaload, .iload 2, .if_icmp .eq 26, .bipush (-13), .ireturn, .iload 3, .ifCond .lt 34, .iload 3, .aload 0, .getfield 2870, .iload 1], [.iaload, .if_icmp .lt 36, .bipush (-12), .ireturn, .aload 0, .getfield 2862, .iload 1, .aaload, .iload 3, .iaload, .ireturn]]
/-- OneIsTwo.debts(IIII)I -/
def pm_131 : List (List Instr) := [[.aload 0, .getfield 2818, .iload 1, .invokestatic 65, .ifCond .eq 13, .iload 2, .invokestatic 145, .ifCond .eq 13, .iload 4, .ifCond .lt 13, .iload 4, .iconst (12), .if_icmp .le 15, .bipush (-1), .ireturn, .aload 0], [.getfield 2866, .iload 2, .iaload, .bipush (-1), .if_icmp .ne 23, .bipush (-11), .ireturn, .aload 0, .getfield 2866, .iload 2, .iaload, .iconst (1), .if_icmp .eq 31, .bipush (-13), .ireturn, .iconst (0)], [.istore 5, .iconst (0), .istore 6, .iload 6, .iload 4, .if_icmp .ge 66, .iload 3, .ifCond .lt 48, .iload 3, .aload 0, .getfield 2870, .iload 2, .iaload, .iload 6, .isub, .if_icmp .lt 50], [.bipush (-12), .ireturn, .aload 0, .iconst (0), .iload 1, .aload 0, .getfield 2862, .iload 2, .aaload, .iload 3, .iload 6, .iadd, .iaload, .invokestatic 104, .ifCond .lt 64, .iinc 5 (1)], [.iinc 6 (1), .goto 35, .iload 5, .ireturn]]
/-- OneIsTwo.shelf(III)I -/
def pm_132 : List (List Instr) := [[.iload 1, .invokestatic 146, .ifCond .ne 5, .bipush (-1), .ireturn, .iload 2, .tableswitch 49 0 3 #[7, 20, 33, 43], .aload 0, .getfield 2818, .iload 3, .invokestatic 65, .ifCond .eq 18, .aload 0, .iload 1, .iconst (0), .iload 3], [.invokestatic 139, .goto 19, .bipush (-1), .ireturn, .aload 0, .getfield 2818, .iload 3, .invokestatic 66, .ifCond .eq 31, .aload 0, .iload 1, .iconst (1), .iload 3, .invokestatic 139, .goto 32, .bipush (-1)], [.ireturn, .iload 3, .invokestatic 145, .ifCond .eq 41, .aload 0, .iload 1, .iload 3, .invokestatic 140, .goto 42, .bipush (-1), .ireturn, .aload 0, .iload 1, .bipush (-1), .iconst (0), .invokestatic 139], [.ireturn, .bipush (-1), .ireturn]]
/-- OneIsTwo.taken(II)I -/
def pm_133 : List (List Instr) := [[.iload 1, .invokestatic 146, .ifCond .eq 14, .iload 2, .ifCond .lt 14, .iload 2, .iconst (7), .if_icmp .le 11, .iload 2, .iconst (10), .if_icmp .lt 14, .iload 2, .iconst (14), .if_icmp .le 16, .bipush (-1), .ireturn], [.aload 0, .iload 1, .invokestatic 141, .istore 3, .iload 3, .bipush (-1), .if_icmp .ne 25, .bipush (-11), .ireturn, .iload 3, .iconst (10), .if_icmp .lt 35, .iload 3, .iload 2, .if_icmp .ne 33, .iconst (1)], [.goto 47, .iconst (0), .goto 47, .iload 2, .iconst (10), .if_icmp .ge 46, .aload 0, .iload 1, .invokestatic 142, .iload 2, .invokestatic 143, .ifCond .eq 46, .iconst (1), .goto 47, .iconst (0), .istore 4], [.iload 4, .ifCond .eq 55, .aload 0, .getfield 2878, .iload 1, .iaload, .goto 56, .bipush (-13), .ireturn]]
/-- OneIsTwo.act(III)I -/
def pm_134 : List (List Instr) := [[.aload 0, .getfield 2854, .invokestatic 1, .iload 1, .invokestatic 146, .ifCond .eq 11, .iload 2, .ifCond .lt 11, .iload 2, .iconst (3), .if_icmp .le 13, .iconst (0), .ireturn, .aload 0, .iload 1, .invokestatic 141], [.istore 4, .iload 4, .bipush (-1), .if_icmp .eq 23, .iload 4, .iconst (10), .if_icmp .lt 25, .iconst (0), .ireturn, .aload 0, .getfield 2878, .iload 1, .iaload, .istore 5, .iload 4, .ifCond .ne 39], [.aload 0, .getfield 2818, .getfield 2562, .iload 5, .aaload, .getfield 1808, .goto 45, .aload 0, .getfield 2818, .getfield 2570, .iload 5, .aaload, .getfield 264, .istore 6, .aload 0, .getfield 2854], [.aload 0, .iload 1, .invokestatic 142, .iload 5, .iload 6, .iload 2, .iload 3, .invokestatic 2, .ireturn]]
/-- OneIsTwo.trace(I)I -/
def pm_135 : List (List Instr) := [[.iload 1, .ifCond .lt 7, .iload 1, .aload 0, .getfield 2854, .getfield 4, .if_icmp .lt 9, .bipush (-3), .ireturn, .aload 0, .getfield 2854, .getfield 2, .iload 1, .iaload, .ireturn]]
/-- OneIsTwo.many(I)I -/
def pm_136 : List (List Instr) := [[.iload 1, .tableswitch 45 0 10 #[2, 6, 10, 14, 18, 22, 26, 31, 34, 37, 41], .aload 0, .getfield 2818, .getfield 2596, .ireturn, .aload 0, .getfield 2818, .invokestatic 70, .ireturn, .aload 0, .getfield 2818, .getfield 2600, .ireturn, .aload 0, .getfield 2818], [.getfield 2604, .ireturn, .aload 0, .getfield 2818, .getfield 2612, .ireturn, .aload 0, .getfield 2818, .getfield 2608, .ireturn, .aload 0, .getfield 2818, .getfield 2586, .getfield 784, .ireturn, .aload 0], [.getfield 2888, .ireturn, .aload 0, .getfield 2884, .ireturn, .aload 0, .getfield 2854, .getfield 4, .ireturn, .aload 0, .getfield 2818, .getfield 2592, .ireturn, .bipush (-1), .ireturn]]
/-- OneIsTwo.keep()I -/
def pm_137 : List (List Instr) := [[.aload 0, .getfield 2822, .aload 0, .getfield 2818, .invokestatic 64, .aload 0, .iconst (1), .putfield 2883, .iconst (1), .ireturn]]
/-- OneIsTwo.again()I -/
def pm_138 : List (List Instr) := [[.aload 0, .getfield 2880, .ifCond .ne 5, .bipush (-3), .ireturn, .aload 0, .getfield 2818, .aload 0, .getfield 2822, .invokestatic 64, .iconst (1), .ireturn]]
/-- OneIsTwo.lay(III)I -/
def pm_139 : List (List Instr) := [[.aload 0, .getfield 2874, .iload 1, .iload 2, .iastore, .aload 0, .getfield 2878, .iload 1, .iload 3, .iastore, .iconst (1), .ireturn]]
/-- OneIsTwo.layRow(II)I -/
def pm_140 : List (List Instr) := [[.aload 0, .getfield 2866, .iload 2, .iaload, .bipush (-1), .if_icmp .ne 12, .aload 0, .iload 1, .bipush (-1), .iconst (0), .invokestatic 139, .ireturn, .aload 0, .iload 1, .iconst (10), .aload 0], [.getfield 2866, .iload 2, .iaload, .iadd, .aload 0, .getfield 2870, .iload 2, .iaload, .invokestatic 139, .ireturn]]
/-- OneIsTwo.heldOn(I)I -/
def pm_141 : List (List Instr) := [[.aload 0, .getfield 2874, .iload 1, .iaload, .istore 2, .iload 2, .ifCond .ne 17, .aload 0, .getfield 2818, .aload 0, .getfield 2878, .iload 1, .iaload, .invokestatic 65, .ifCond .ne 17, .bipush (-1)], [.ireturn, .iload 2, .iconst (1), .if_icmp .ne 30, .aload 0, .getfield 2818, .aload 0, .getfield 2878, .iload 1, .iaload, .invokestatic 66, .ifCond .ne 30, .bipush (-1), .ireturn, .iload 2, .ireturn]]
/-- OneIsTwo.kindOn(I)I -/
def pm_142 : List (List Instr) := [[.aload 0, .getfield 2874, .iload 1, .iaload, .ifCond .ne 15, .aload 0, .getfield 2818, .getfield 2562, .aload 0, .getfield 2878, .iload 1, .iaload, .aaload, .getfield 1792, .goto 16, .iconst (7)], [.ireturn]]
/-- OneIsTwo.isUnder(II)Z -/
def pm_143 : List (List Instr) := [[.iload 0, .iload 1, .if_icmp .ne 5, .iconst (1), .freturn, .iload 1, .ifCond .ne 14, .iload 0, .iconst (7), .if_icmp .eq 12, .iconst (1), .goto 26, .iconst (0), .goto 26, .iload 1, .iconst (2)], [.if_icmp .ne 25, .iload 0, .iconst (3), .if_icmp .eq 23, .iload 0, .iconst (5), .if_icmp .ne 25, .iconst (1), .goto 26, .iconst (0), .freturn]]
/-- OneIsTwo.narrowed(II)I -/
def pm_144 : List (List Instr) := [[.iload 0, .tableswitch 14 0 4 #[2, 5, 14, 14, 8], .iload 1, .i2b, .ireturn, .iload 1, .i2s, .ireturn, .iload 1, .ifCond .eq 12, .iconst (1), .goto 13, .iconst (0), .ireturn, .iload 1, .ireturn]]
/-- OneIsTwo.isSheet(I)Z -/
def pm_145 : List (List Instr) := [[.iload 0, .ifCond .lt 7, .iload 0, .iconst (4), .if_icmp .ge 7, .iconst (1), .goto 8, .iconst (0), .freturn]]
/-- OneIsTwo.isShelf(I)Z -/
def pm_146 : List (List Instr) := [[.iload 0, .ifCond .lt 7, .iload 0, .iconst (4), .if_icmp .ge 7, .iconst (1), .goto 8, .iconst (0), .freturn]]
/-- OneIsTwo.isPart(I)Z -/
def pm_147 : List (List Instr) := [[.iload 0, .ifCond .eq 5, .iload 0, .iconst (1), .if_icmp .ne 7, .iconst (1), .goto 8, .iconst (0), .freturn]]
/-- OneIsTwo.isClaimSort(I)Z -/
def pm_148 : List (List Instr) := [[.iload 0, .ifCond .eq 5, .iload 0, .iconst (1), .if_icmp .ne 7, .iconst (1), .goto 8, .iconst (0), .freturn]]
/-- OneIsTwo.isCopyKind(I)Z -/
def pm_149 : List (List Instr) := [[.iload 0, .iconst (2), .if_icmp .eq 9, .iload 0, .iconst (3), .if_icmp .eq 9, .iload 0, .iconst (5), .if_icmp .ne 11, .iconst (1), .goto 12, .iconst (0), .freturn]]
/-- OneIsTwoModel.<init>()V -/
def pm_150 : List (List Instr) := [[.aload 0, .monitorenter, .aload 0, .iconst (546), .newarray .int, .putfield 3074, .aload 0, .iconst (546), .newarray .int, .putfield 3078, .aload 0, .iconst (546), .newarray .int, .putfield 3082, .aload 0, .iconst (200)], [.newarray .int, .putfield 3090, .aload 0, .iconst (200), .newarray .int, .putfield 3094, .aload 0, .iconst (50), .newarray .int, .putfield 3098, .aload 0, .iconst (6), .newarray .int, .putfield 3130, .aload 0, .iconst (200)], [.newarray .int, .putfield 3134, .aload 0, .iconst (12), .newarray .int, .putfield 3138, .aload 0, .iconst (12), .newarray .long, .putfield 3142, .aload 0, .iconst (12), .newarray .int, .putfield 3146, .aload 0, .iconst (36)], [.newarray .long, .putfield 3166, .aload 0, .iconst (4), .newarray .int, .dup, .iconst (0), .bipush (-1), .iastore, .dup, .iconst (1), .bipush (-1), .iastore, .dup, .iconst (2), .bipush (-1)], [.iastore, .dup, .iconst (3), .bipush (-1), .iastore, .putfield 3174, .aload 0, .iconst (4), .newarray .int, .putfield 3178, .aload 0, .iconst (160), .newarray .int, .putfield 3182, .aload 0, .iconst (4)], [.newarray .int, .dup, .iconst (0), .iconst (3), .iastore, .dup, .iconst (1), .iconst (3), .iastore, .dup, .iconst (2), .iconst (3), .iastore, .dup, .iconst (3), .iconst (3)], [.iastore, .putfield 3186, .aload 0, .iconst (4), .newarray .int, .putfield 3190, .aload 0, .iconst (4), .newarray .int, .putfield 3194, .aload 0, .iconst (30), .newarray .int, .putfield 3210, .aload 0, .getfield 3074], [.iconst (7), .iconst (1), .iastore, .return_]]
/-- OneIsTwoModel.in(JJJ)Z -/
def pm_151 : List (List Instr) := [[.lload 0, .lload 2, .lcmp, .ifCond .lt 10, .lload 0, .lload 4, .lcmp, .ifCond .gt 10, .iconst (1), .goto 11, .iconst (0), .freturn]]
/-- OneIsTwoModel.of(II)I -/
def pm_152 : List (List Instr) := [[.aload 0, .getfield 3074, .iconst (10), .iconst (10), .iload 1, .imul, .iadd, .iload 2, .iadd, .iaload, .ireturn]]
/-- OneIsTwoModel.isPerson(I)Z -/
def pm_153 : List (List Instr) := [[.iload 1, .i2l, .goto_w (0), .aload 0, .getfield 3074, .iconst (1), .iaload, .iconst (1), .isub, .i2l, .invokestatic 151, .freturn]]
/-- OneIsTwoModel.isAwake(I)Z -/
def pm_154 : List (List Instr) := [[.aload 0, .iload 1, .iconst (0), .invokestatic 152, .i2l, .goto_w (1), .goto_w (4), .invokestatic 151, .freturn]]
/-- OneIsTwoModel.isCopy(I)Z -/
def pm_155 : List (List Instr) := [[.aload 0, .iload 1, .iconst (1), .invokestatic 152, .iconst (2), .if_icmp .eq 18, .aload 0, .iload 1, .iconst (1), .invokestatic 152, .iconst (3), .if_icmp .eq 18, .aload 0, .iload 1, .iconst (1), .invokestatic 152], [.iconst (5), .if_icmp .ne 20, .iconst (1), .goto 21, .iconst (0), .freturn]]
/-- OneIsTwoModel.awakeMany()I -/
def pm_156 : List (List Instr) := [[.iconst (0), .istore 1, .iconst (0), .istore 2, .iload 2, .aload 0, .getfield 3074, .iconst (1), .iaload, .if_icmp .ge 22, .iload 1, .aload 0, .iload 2, .invokestatic 154, .ifCond .eq 17, .iconst (1)], [.goto 18, .iconst (0), .iadd, .istore 1, .iinc 2 (1), .goto 4, .iload 1, .ireturn]]
/-- OneIsTwoModel.divisor(JJ)J -/
def pm_157 : List (List Instr) := [[.lload 0, .goto_w (0), .lcmp, .ifCond .ge 7, .lload 0, .lneg, .goto 8, .lload 0, .lstore 4, .lload 2, .lstore 6, .lload 6, .goto_w (0), .lcmp, .ifCond .le 24, .lload 4], [.lload 6, .lrem, .lstore 8, .lload 6, .lstore 4, .lload 8, .lstore 6, .goto 11, .lload 4, .lreturn]]
/-- OneIsTwoModel.part(JJI)J -/
def pm_158 : List (List Instr) := [[.lload 0, .lload 2, .invokestatic 157, .lstore 5, .iload 4, .ifCond .ne 10, .lload 0, .lload 5, .ldiv, .goto 13, .lload 2, .lload 5, .ldiv, .lreturn]]
/-- OneIsTwoModel.event(II)V -/
def pm_159 : List (List Instr) := [[.iconst (130), .iconst (3), .aload 0, .getfield 3074, .iconst (2), .iaload, .imul, .iadd, .istore 3, .aload 0, .getfield 3074, .iload 3, .iload 1, .iastore, .aload 0, .getfield 3074], [.iload 3, .iconst (1), .iadd, .iload 2, .iastore, .aload 0, .getfield 3074, .iload 3, .iconst (2), .iadd, .aload 0, .getfield 3074, .iconst (0), .iaload, .iastore, .aload 0], [.getfield 3074, .iconst (2), .dup2, .iaload, .iconst (1), .iadd, .iastore, .return_]]
/-- OneIsTwoModel.later(I)I -/
def pm_160 : List (List Instr) := [[.iload 1, .i2l, .goto_w (1), .goto_w (99), .invokestatic 151, .ifCond .ne 8, .bipush (-1), .ireturn, .aload 0, .getfield 3074, .iconst (0), .iaload, .iload 1, .iadd, .iconst (999), .if_icmp .le 18], [.bipush (-2), .ireturn, .aload 0, .getfield 3074, .iconst (0), .dup2, .iaload, .iload 1, .iadd, .iastore, .aload 0, .getfield 3074, .iconst (0), .iaload, .ireturn]]
/-- OneIsTwoModel.hasRoom()Z -/
def pm_161 : List (List Instr) := [[.aload 0, .getfield 3074, .iconst (1), .iaload, .iconst (12), .if_icmp .ge 14, .aload 0, .getfield 3074, .iconst (2), .iaload, .iconst (18), .if_icmp .ge 14, .iconst (1), .goto 15, .iconst (0), .freturn]]
/-- OneIsTwoModel.comes(IIII)I -/
def pm_162 : List (List Instr) := [[.aload 0, .getfield 3074, .iconst (1), .iaload, .istore 5, .iconst (10), .iconst (10), .iload 5, .imul, .iadd, .istore 6, .aload 0, .getfield 3074, .iload 6, .iconst (0), .iadd], [.iload 2, .iastore, .aload 0, .getfield 3074, .iload 6, .iconst (1), .iadd, .iload 2, .iastore, .aload 0, .getfield 3074, .iload 6, .iconst (2), .iadd, .iload 3, .iastore], [.aload 0, .getfield 3074, .iload 6, .iconst (3), .iadd, .iload 4, .iastore, .aload 0, .getfield 3074, .iload 6, .iconst (4), .iadd, .aload 0, .getfield 3074, .iconst (0), .iaload], [.iastore, .aload 0, .getfield 3074, .iload 6, .iconst (5), .iadd, .bipush (-9), .iastore, .aload 0, .getfield 3074, .iload 6, .iconst (6), .iadd, .bipush (-9), .iastore, .aload 0], [.getfield 3074, .iload 6, .iconst (7), .iadd, .bipush (-9), .iastore, .aload 0, .getfield 3074, .iload 6, .iconst (8), .iadd, .iconst (1), .iastore, .aload 0, .getfield 3074, .iload 6], [.iconst (9), .iadd, .aload 0, .getfield 3074, .iconst (2), .iaload, .iastore, .aload 0, .getfield 3074, .iconst (1), .dup2, .iaload, .iconst (1), .iadd, .iastore, .aload 0], [.iload 1, .iload 5, .invokestatic 159, .iload 5, .ireturn]]
/-- OneIsTwoModel.born()I -/
def pm_163 : List (List Instr) := [[.aload 0, .invokestatic 161, .ifCond .eq 10, .aload 0, .iconst (0), .iconst (1), .bipush (-9), .bipush (-9), .invokestatic 162, .goto 11, .bipush (-2), .ireturn]]
/-- OneIsTwoModel.copies(IIIIZ)I -/
def pm_164 : List (List Instr) := [[.aload 0, .iconst (1), .iload 2, .iload 1, .bipush (-9), .invokestatic 162, .istore 6, .iconst (10), .iconst (10), .iload 6, .imul, .iadd, .istore 7, .aload 0, .getfield 3074, .iload 7], [.iconst (5), .iadd, .iload 4, .iastore, .aload 0, .getfield 3074, .iload 7, .iconst (6), .iadd, .iload 2, .iconst (3), .if_icmp .ne 30, .iload 3, .goto 31, .iconst (2), .iastore], [.aload 0, .getfield 3074, .iload 7, .iconst (8), .iadd, .iload 5, .ifCond .eq 41, .iconst (1), .goto 42, .iconst (0), .iastore, .iload 6, .ireturn]]
/-- OneIsTwoModel.copied(IIIIZ)I -/
def pm_165 : List (List Instr) := [[.aload 0, .iload 1, .invokestatic 153, .ifCond .eq 32, .iload 2, .iconst (2), .if_icmp .eq 13, .iload 2, .iconst (3), .if_icmp .eq 13, .iload 2, .iconst (5), .if_icmp .ne 32, .iload 2, .iconst (3), .if_icmp .ne 22], [.iload 3, .i2l, .goto_w (1), .goto_w (3), .invokestatic 151, .ifCond .eq 32, .iload 4, .i2l, .goto_w (0), .aload 0, .getfield 3074, .iconst (0), .iaload, .i2l, .invokestatic 151, .ifCond .ne 34], [.bipush (-1), .ireturn, .aload 0, .iload 1, .invokestatic 154, .ifCond .ne 40, .bipush (-4), .ireturn, .aload 0, .invokestatic 161, .ifCond .eq 51, .aload 0, .iload 1, .iload 2, .iload 3, .iload 4], [.iload 5, .invokestatic 164, .goto 52, .bipush (-2), .ireturn]]
/-- OneIsTwoModel.wake(I)I -/
def pm_166 : List (List Instr) := [[.aload 0, .iload 1, .invokestatic 153, .ifCond .ne 6, .bipush (-1), .ireturn, .aload 0, .iload 1, .iconst (0), .invokestatic 152, .iconst (5), .if_icmp .eq 14, .bipush (-4), .ireturn, .aload 0, .getfield 3074], [.iconst (2), .iaload, .iconst (18), .if_icmp .ne 22, .bipush (-2), .ireturn, .aload 0, .getfield 3074, .iconst (10), .iconst (10), .iload 1, .imul, .iadd, .iconst (0), .iadd, .iconst (2)], [.iastore, .aload 0, .iconst (2), .iload 1, .invokestatic 159, .iconst (1), .ireturn]]
/-- OneIsTwoModel.joins(II)I -/
def pm_167 : List (List Instr) := [[.aload 0, .iconst (3), .iconst (4), .iload 1, .iload 2, .invokestatic 162, .istore 3, .aload 0, .getfield 3074, .iconst (10), .iconst (10), .iload 1, .imul, .iadd, .iconst (0), .iadd], [.iconst (6), .iastore, .aload 0, .getfield 3074, .iconst (10), .iconst (10), .iload 2, .imul, .iadd, .iconst (0), .iadd, .iconst (6), .iastore, .aload 0, .getfield 3074, .iconst (10)], [.iconst (10), .iload 1, .imul, .iadd, .iconst (7), .iadd, .iload 3, .iastore, .aload 0, .getfield 3074, .iconst (10), .iconst (10), .iload 2, .imul, .iadd, .iconst (7)], [.iadd, .iload 3, .iastore, .iload 3, .ireturn]]
/-- OneIsTwoModel.join(II)I -/
def pm_168 : List (List Instr) := [[.aload 0, .iload 1, .invokestatic 153, .ifCond .eq 11, .aload 0, .iload 2, .invokestatic 153, .ifCond .eq 11, .iload 1, .iload 2, .if_icmp .ne 13, .bipush (-1), .ireturn, .aload 0, .iload 1, .invokestatic 154], [.ifCond .eq 21, .aload 0, .iload 2, .invokestatic 154, .ifCond .ne 23, .bipush (-4), .ireturn, .aload 0, .invokestatic 161, .ifCond .eq 31, .aload 0, .iload 1, .iload 2, .invokestatic 167, .goto 32, .bipush (-2)], [.ireturn]]
/-- OneIsTwoModel.ends(I)V -/
def pm_169 : List (List Instr) := [[.aload 0, .getfield 3074, .iconst (10), .iconst (10), .iload 1, .imul, .iadd, .iconst (0), .iadd, .iconst (6), .iastore, .aload 0, .iconst (4), .iload 1, .invokestatic 159, .return_]]
/-- OneIsTwoModel.end(I)I -/
def pm_170 : List (List Instr) := [[.aload 0, .iload 1, .invokestatic 153, .ifCond .ne 6, .bipush (-1), .ireturn, .aload 0, .iload 1, .iconst (0), .invokestatic 152, .iconst (6), .if_icmp .ne 14, .bipush (-4), .ireturn, .aload 0, .getfield 3074], [.iconst (2), .iaload, .iconst (18), .if_icmp .ne 22, .bipush (-2), .ireturn, .aload 0, .iload 1, .invokestatic 169, .aload 0, .invokestatic 156, .ireturn]]
/-- OneIsTwoModel.rootOf(I)I -/
def pm_171 : List (List Instr) := [[.iload 1, .istore 2, .aload 0, .iload 2, .iconst (2), .invokestatic 152, .ifCond .lt 13, .aload 0, .iload 2, .iconst (2), .invokestatic 152, .istore 2, .goto 2, .iload 2, .ireturn]]
/-- OneIsTwoModel.isVoid(I)Z -/
def pm_172 : List (List Instr) := [[.aload 0, .iload 1, .invokestatic 155, .ifCond .eq 21, .aload 0, .iload 1, .iconst (8), .invokestatic 152, .ifCond .ne 21, .aload 0, .iconst (5), .aload 0, .iload 1, .iconst (9), .invokestatic 152, .bipush (-1)], [.invokestatic 198, .iconst (1), .if_icmp .ne 21, .iconst (1), .goto 22, .iconst (0), .freturn]]
/-- OneIsTwoModel.person(II)I -/
def pm_173 : List (List Instr) := [[.aload 0, .iload 1, .invokestatic 153, .ifCond .eq 10, .iload 2, .i2l, .goto_w (0), .goto_w (8), .invokestatic 151, .ifCond .ne 12, .bipush (-1), .ireturn, .iload 2, .tableswitch 57 0 7 #[14, 19, 24, 29, 34, 39, 44, 49], .aload 0, .iload 1], [.iconst (0), .invokestatic 152, .ireturn, .aload 0, .iload 1, .iconst (2), .invokestatic 152, .ireturn, .aload 0, .iload 1, .iconst (3), .invokestatic 152, .ireturn, .aload 0, .iload 1, .iconst (4)], [.invokestatic 152, .ireturn, .aload 0, .iload 1, .iconst (5), .invokestatic 152, .ireturn, .aload 0, .iload 1, .iconst (6), .invokestatic 152, .ireturn, .aload 0, .iload 1, .iconst (7), .invokestatic 152], [.ireturn, .aload 0, .iload 1, .invokestatic 172, .ifCond .eq 55, .iconst (1), .goto 56, .iconst (0), .ireturn, .aload 0, .iload 1, .invokestatic 171, .ireturn]]
/-- OneIsTwoModel.above(I)I -/
def pm_174 : List (List Instr) := [[.iconst (1), .iload 1, .ishl, .istore 2, .iload 1, .istore 3, .iload 3, .ifCond .lt 49, .iload 2, .iload 3, .ishr, .iconst (1), .iand, .iconst (1), .if_icmp .ne 47, .iload 2], [.aload 0, .iload 3, .iconst (2), .invokestatic 152, .ifCond .lt 28, .iconst (1), .aload 0, .iload 3, .iconst (2), .invokestatic 152, .ishl, .goto 29, .iconst (0), .ior, .istore 2, .iload 2], [.aload 0, .iload 3, .iconst (3), .invokestatic 152, .ifCond .lt 44, .iconst (1), .aload 0, .iload 3, .iconst (3), .invokestatic 152, .ishl, .goto 45, .iconst (0), .ior, .istore 2, .iinc 3 (-1)], [.goto 6, .iload 2, .ireturn]]
/-- OneIsTwoModel.kin(I)I -/
def pm_175 : List (List Instr) := [[.aload 0, .iload 1, .invokestatic 153, .ifCond .ne 6, .bipush (-1), .ireturn, .iconst (0), .istore 2, .iconst (0), .istore 3, .iload 3, .aload 0, .getfield 3074, .iconst (1), .iaload, .if_icmp .ge 35], [.iload 2, .aload 0, .iload 3, .invokestatic 174, .iload 1, .ishr, .iconst (1), .iand, .iconst (1), .if_icmp .ne 30, .iconst (1), .iload 3, .ishl, .goto 31, .iconst (0), .ior], [.istore 2, .iinc 3 (1), .goto 10, .iload 2, .ireturn]]
/-- OneIsTwoModel.common(II)I -/
def pm_176 : List (List Instr) := [[.aload 0, .iload 1, .invokestatic 153, .ifCond .eq 8, .aload 0, .iload 2, .invokestatic 153, .ifCond .ne 10, .bipush (-1), .ireturn, .aload 0, .iload 1, .invokestatic 174, .aload 0, .iload 2, .invokestatic 174], [.iand, .istore 3, .bipush (-9), .istore 4, .iconst (0), .istore 5, .iload 5, .aload 0, .getfield 3074, .iconst (1), .iaload, .if_icmp .ge 41, .iload 3, .iload 5, .ishr, .iconst (1)], [.iand, .iconst (1), .if_icmp .ne 37, .iload 5, .goto 38, .iload 4, .istore 4, .iinc 5 (1), .goto 22, .iload 4, .ireturn]]
/-- OneIsTwoModel.feed(JI)I -/
def pm_177 : List (List Instr) := [[.iload 3, .i2l, .goto_w (1), .goto_w (8), .invokestatic 151, .ifCond .ne 8, .bipush (-1), .ireturn, .aload 0, .getfield 3100, .iload 3, .iadd, .iconst (200), .if_icmp .le 16, .bipush (-2), .ireturn], [.iconst (0), .istore 4, .iload 4, .iload 3, .if_icmp .ge 42, .aload 0, .getfield 3090, .aload 0, .getfield 3100, .lload 1, .iconst (8), .iload 4, .imul, .lshr, .goto_w (255), .land], [.l2i, .iastore, .aload 0, .dup, .getfield 3100, .iconst (1), .iadd, .putfield 3100, .iinc 4 (1), .goto 18, .aload 0, .getfield 3100, .ireturn]]
/-- OneIsTwoModel.byteAt(I)I -/
def pm_178 : List (List Instr) := [[.iload 1, .aload 0, .getfield 3100, .if_icmp .ge 9, .aload 0, .getfield 3090, .iload 1, .iaload, .goto 10, .bipush (-1), .ireturn]]
/-- OneIsTwoModel.isLetter(I)Z -/
def pm_179 : List (List Instr) := [[.iload 0, .i2l, .goto_w (97), .goto_w (122), .invokestatic 151, .freturn]]
/-- OneIsTwoModel.isDigit(I)Z -/
def pm_180 : List (List Instr) := [[.iload 0, .i2l, .goto_w (48), .goto_w (57), .invokestatic 151, .freturn]]
/-- OneIsTwoModel.next()V -/
def pm_181 : List (List Instr) := [[.aload 0, .aload 0, .getfield 3108, .putfield 3104, .aload 0, .aload 0, .getfield 3104, .invokestatic 178, .iconst (32), .if_icmp .ne 17, .aload 0, .dup, .getfield 3104, .iconst (1), .iadd, .putfield 3104], [.goto 4, .aload 0, .aload 0, .getfield 3104, .invokestatic 178, .invokestatic 179, .istore 1, .aload 0, .aload 0, .getfield 3104, .invokestatic 178, .invokestatic 180, .istore 2, .aload 0, .aload 0, .getfield 3104], [.aload 0, .getfield 3100, .if_icmp .ge 40, .aload 0, .getfield 3104, .iconst (1), .iadd, .goto 42, .aload 0, .getfield 3104, .putfield 3108, .iload 1, .ifCond .eq 51, .aload 0, .aload 0, .getfield 3108], [.invokestatic 178, .invokestatic 179, .ifCond .ne 59, .iload 2, .ifCond .eq 66, .aload 0, .aload 0, .getfield 3108, .invokestatic 178, .invokestatic 180, .ifCond .eq 66, .aload 0, .dup, .getfield 3108, .iconst (1), .iadd], [.putfield 3108, .goto 43, .return_]]
/-- OneIsTwoModel.needs(Z)V -/
def pm_182 : List (List Instr) := [[.aload 0, .aload 0, .getfield 3124, .ifCond .ne 6, .iload 1, .ifCond .ne 8, .iconst (1), .goto 9, .iconst (0), .putfield 3127, .aload 0, .getfield 3124, .ifCond .ne 15, .aload 0, .invokestatic 181, .return_]]
/-- OneIsTwoModel.emits(I)V -/
def pm_183 : List (List Instr) := [[.aload 0, .getfield 3124, .ifCond .ne 15, .aload 0, .getfield 3094, .aload 0, .getfield 3116, .iload 1, .iastore, .aload 0, .dup, .getfield 3116, .iconst (1), .iadd, .putfield 3116, .return_]]
/-- OneIsTwoModel.isAt(II)Z -/
def pm_184 : List (List Instr) := [[.iload 2, .ifCond .eq 10, .aload 0, .aload 0, .getfield 3104, .iload 1, .iadd, .invokestatic 178, .iload 2, .if_icmp .ne 12, .iconst (1), .goto 13, .iconst (0), .freturn]]
/-- OneIsTwoModel.isName(IIIIII)Z -/
def pm_185 : List (List Instr) := [[.iload 3, .ifCond .ne 4, .iconst (2), .goto 17, .iload 4, .ifCond .ne 8, .iconst (3), .goto 17, .iload 5, .ifCond .ne 12, .iconst (4), .goto 17, .iload 6, .ifCond .ne 16, .iconst (5), .goto 17], [.iconst (6), .istore 7, .aload 0, .getfield 3108, .aload 0, .getfield 3104, .isub, .iload 7, .if_icmp .ne 57, .aload 0, .iconst (0), .iload 1, .invokestatic 184, .ifCond .eq 57, .aload 0, .iconst (1)], [.iload 2, .invokestatic 184, .ifCond .eq 57, .aload 0, .iconst (2), .iload 3, .invokestatic 184, .ifCond .eq 57, .aload 0, .iconst (3), .iload 4, .invokestatic 184, .ifCond .eq 57, .aload 0, .iconst (4), .iload 5], [.invokestatic 184, .ifCond .eq 57, .aload 0, .iconst (5), .iload 6, .invokestatic 184, .ifCond .eq 57, .iconst (1), .goto 58, .iconst (0), .freturn]]
/-- OneIsTwoModel.keyHere()I -/
def pm_186 : List (List Instr) := [[.aload 0, .iconst (111), .iconst (119), .iconst (101), .iconst (115), .iconst (0), .iconst (0), .invokestatic 185, .ifCond .eq 11, .iconst (0), .goto 78, .aload 0, .iconst (111), .iconst (119), .iconst (110), .iconst (115)], [.iconst (0), .iconst (0), .invokestatic 185, .ifCond .eq 22, .iconst (1), .goto 78, .aload 0, .iconst (98), .iconst (108), .iconst (97), .iconst (109), .iconst (101), .iconst (0), .invokestatic 185, .ifCond .eq 33, .iconst (2)], [.goto 78, .aload 0, .iconst (118), .iconst (111), .iconst (116), .iconst (101), .iconst (0), .iconst (0), .invokestatic 185, .ifCond .eq 44, .iconst (3), .goto 78, .aload 0, .iconst (119), .iconst (101), .iconst (100)], [.iconst (0), .iconst (0), .iconst (0), .invokestatic 185, .ifCond .eq 55, .iconst (4), .goto 78, .aload 0, .iconst (108), .iconst (101), .iconst (97), .iconst (118), .iconst (101), .iconst (0), .invokestatic 185, .ifCond .eq 66], [.iconst (5), .goto 78, .aload 0, .iconst (115), .iconst (108), .iconst (101), .iconst (101), .iconst (112), .iconst (0), .invokestatic 185, .ifCond .eq 77, .iconst (6), .goto 78, .bipush (-1), .ireturn]]
/-- OneIsTwoModel.valueHere(I)I -/
def pm_187 : List (List Instr) := [[.iload 1, .tableswitch 188 0 5 #[2, 2, 48, 83, 118, 164], .aload 0, .iconst (102), .iconst (105), .iconst (114), .iconst (115), .iconst (116), .iconst (0), .invokestatic 185, .ifCond .eq 13, .iconst (0), .goto 47, .aload 0, .iconst (99), .iconst (111)], [.iconst (112), .iconst (121), .iconst (0), .iconst (0), .invokestatic 185, .ifCond .eq 24, .iconst (1), .goto 47, .aload 0, .iconst (115), .iconst (104), .iconst (97), .iconst (114), .iconst (101), .iconst (100), .invokestatic 185], [.ifCond .eq 35, .iconst (2), .goto 47, .aload 0, .iconst (97), .iconst (108), .iconst (108), .iconst (0), .iconst (0), .iconst (0), .invokestatic 185, .ifCond .eq 46, .iconst (3), .goto 47, .bipush (-1), .ireturn], [.aload 0, .iconst (98), .iconst (111), .iconst (100), .iconst (121), .iconst (0), .iconst (0), .invokestatic 185, .ifCond .eq 59, .iconst (0), .goto 82, .aload 0, .iconst (109), .iconst (101), .iconst (109), .iconst (111)], [.iconst (114), .iconst (121), .invokestatic 185, .ifCond .eq 70, .iconst (1), .goto 82, .aload 0, .iconst (114), .iconst (111), .iconst (111), .iconst (116), .iconst (0), .iconst (0), .invokestatic 185, .ifCond .eq 81, .iconst (2)], [.goto 82, .bipush (-1), .ireturn, .aload 0, .iconst (101), .iconst (97), .iconst (99), .iconst (104), .iconst (0), .iconst (0), .invokestatic 185, .ifCond .eq 94, .iconst (0), .goto 117, .aload 0, .iconst (114)], [.iconst (111), .iconst (111), .iconst (116), .iconst (0), .iconst (0), .invokestatic 185, .ifCond .eq 105, .iconst (1), .goto 117, .aload 0, .iconst (115), .iconst (104), .iconst (97), .iconst (114), .iconst (101), .iconst (0)], [.invokestatic 185, .ifCond .eq 116, .iconst (2), .goto 117, .bipush (-1), .ireturn, .aload 0, .iconst (109), .iconst (97), .iconst (107), .iconst (101), .iconst (114), .iconst (0), .invokestatic 185, .ifCond .eq 129, .iconst (0)], [.goto 163, .aload 0, .iconst (99), .iconst (111), .iconst (112), .iconst (121), .iconst (0), .iconst (0), .invokestatic 185, .ifCond .eq 140, .iconst (1), .goto 163, .aload 0, .iconst (98), .iconst (111), .iconst (116)], [.iconst (104), .iconst (0), .iconst (0), .invokestatic 185, .ifCond .eq 151, .iconst (2), .goto 163, .aload 0, .iconst (110), .iconst (111), .iconst (110), .iconst (101), .iconst (0), .iconst (0), .invokestatic 185, .ifCond .eq 162], [.iconst (3), .goto 163, .bipush (-1), .ireturn, .aload 0, .iconst (102), .iconst (114), .iconst (101), .iconst (101), .iconst (0), .iconst (0), .invokestatic 185, .ifCond .eq 175, .iconst (0), .goto 187, .aload 0], [.iconst (110), .iconst (101), .iconst (101), .iconst (100), .iconst (101), .iconst (100), .invokestatic 185, .ifCond .eq 186, .iconst (1), .goto 187, .bipush (-1), .ireturn, .aload 0, .iconst (114), .iconst (101), .iconst (115)], [.iconst (116), .iconst (115), .iconst (0), .invokestatic 185, .ifCond .eq 199, .iconst (0), .goto 211, .aload 0, .iconst (98), .iconst (101), .iconst (97), .iconst (114), .iconst (115), .iconst (0), .invokestatic 185, .ifCond .eq 210], [.iconst (1), .goto 211, .bipush (-1), .ireturn]]
/-- OneIsTwoModel.factHere()I -/
def pm_188 : List (List Instr) := [[.aload 0, .iconst (100), .iconst (97), .iconst (121), .iconst (0), .iconst (0), .iconst (0), .invokestatic 185, .ifCond .eq 11, .iconst (0), .goto 67, .aload 0, .iconst (109), .iconst (97), .iconst (100), .iconst (101)], [.iconst (0), .iconst (0), .invokestatic 185, .ifCond .eq 22, .iconst (1), .goto 67, .aload 0, .iconst (103), .iconst (97), .iconst (112), .iconst (0), .iconst (0), .iconst (0), .invokestatic 185, .ifCond .eq 33, .iconst (2)], [.goto 67, .aload 0, .iconst (107), .iconst (105), .iconst (110), .iconst (100), .iconst (0), .iconst (0), .invokestatic 185, .ifCond .eq 44, .iconst (3), .goto 67, .aload 0, .iconst (97), .iconst (109), .iconst (111)], [.iconst (117), .iconst (110), .iconst (116), .invokestatic 185, .ifCond .eq 55, .iconst (4), .goto 67, .aload 0, .iconst (104), .iconst (101), .iconst (108), .iconst (100), .iconst (0), .iconst (0), .invokestatic 185, .ifCond .eq 66], [.iconst (5), .goto 67, .bipush (-1), .ireturn]]
/-- OneIsTwoModel.value()V -/
def pm_189 : List (List Instr) := [[.aload 0, .getfield 3124, .ifCond .eq 4, .return_, .aload 0, .aload 0, .getfield 3104, .invokestatic 178, .invokestatic 180, .ifCond .eq 54, .iconst (0), .istore 1, .aload 0, .getfield 3104, .istore 2, .iload 2], [.aload 0, .getfield 3108, .if_icmp .ge 38, .iload 2, .aload 0, .getfield 3104, .iconst (4), .iadd, .if_icmp .ge 38, .iconst (10), .iload 1, .imul, .aload 0, .getfield 3090, .iload 2, .iaload], [.iadd, .iconst (48), .isub, .istore 1, .iinc 2 (1), .goto 15, .aload 0, .iload 1, .invokestatic 183, .aload 0, .aload 0, .getfield 3108, .aload 0, .getfield 3104, .isub, .iconst (4)], [.if_icmp .gt 51, .iconst (1), .goto 52, .iconst (0), .invokestatic 182, .return_, .aload 0, .invokestatic 188, .istore 1, .aload 0, .iconst (10000), .iload 1, .iadd, .invokestatic 183, .aload 0, .iload 1], [.ifCond .lt 67, .iconst (1), .goto 68, .iconst (0), .invokestatic 182, .return_]]
/-- OneIsTwoModel.single()V -/
def pm_190 : List (List Instr) := [[.iconst (0), .istore 1, .aload 0, .getfield 3124, .ifCond .ne 24, .aload 0, .iconst (110), .iconst (111), .iconst (116), .iconst (0), .iconst (0), .iconst (0), .invokestatic 185, .ifCond .eq 24, .iload 1, .ifCond .ne 18], [.iconst (1), .goto 19, .iconst (0), .istore 1, .aload 0, .iconst (1), .invokestatic 182, .goto 2, .aload 0, .getfield 3124, .ifCond .eq 28, .return_, .aload 0, .aload 0, .getfield 3104, .invokestatic 178], [.iconst (40), .if_icmp .ne 69, .aload 0, .aload 0, .getfield 3112, .iconst (3), .if_icmp .ge 41, .iconst (1), .goto 42, .iconst (0), .invokestatic 182, .aload 0, .dup, .getfield 3112, .iconst (1), .iadd], [.putfield 3112, .aload 0, .invokestatic 192, .aload 0, .aload 0, .aload 0, .getfield 3104, .invokestatic 178, .iconst (41), .if_icmp .ne 60, .iconst (1), .goto 61, .iconst (0), .invokestatic 182, .aload 0, .dup], [.getfield 3112, .iconst (1), .isub, .putfield 3112, .goto 97, .aload 0, .invokestatic 189, .aload 0, .aload 0, .getfield 3104, .invokestatic 178, .istore 2, .aload 0, .iload 2, .iconst (60), .if_icmp .eq 86], [.iload 2, .iconst (61), .if_icmp .eq 86, .iload 2, .iconst (62), .if_icmp .ne 88, .iconst (1), .goto 89, .iconst (0), .invokestatic 182, .aload 0, .invokestatic 189, .aload 0, .iconst (10020), .iload 2, .iadd], [.invokestatic 183, .iload 1, .ifCond .eq 102, .aload 0, .iconst (10010), .invokestatic 183, .return_]]
/-- OneIsTwoModel.every()V -/
def pm_191 : List (List Instr) := [[.aload 0, .invokestatic 190, .aload 0, .getfield 3124, .ifCond .ne 23, .aload 0, .iconst (97), .iconst (110), .iconst (100), .iconst (0), .iconst (0), .iconst (0), .invokestatic 185, .ifCond .eq 23, .aload 0, .iconst (1)], [.invokestatic 182, .aload 0, .invokestatic 190, .aload 0, .iconst (10011), .invokestatic 183, .goto 2, .return_]]
/-- OneIsTwoModel.condition()V -/
def pm_192 : List (List Instr) := [[.aload 0, .invokestatic 191, .aload 0, .getfield 3124, .ifCond .ne 23, .aload 0, .iconst (111), .iconst (114), .iconst (0), .iconst (0), .iconst (0), .iconst (0), .invokestatic 185, .ifCond .eq 23, .aload 0, .iconst (1)], [.invokestatic 182, .aload 0, .invokestatic 191, .aload 0, .iconst (10012), .invokestatic 183, .goto 2, .return_]]
/-- OneIsTwoModel.oneClause()V -/
def pm_193 : List (List Instr) := [[.aload 0, .invokestatic 186, .istore 1, .aload 0, .getfield 3116, .istore 2, .aload 0, .iload 1, .ifCond .lt 15, .aload 0, .getfield 3120, .iconst (10), .if_icmp .ge 15, .iconst (1), .goto 16, .iconst (0)], [.invokestatic 182, .aload 0, .getfield 3124, .ifCond .eq 22, .bipush (-1), .goto 25, .aload 0, .iload 1, .invokestatic 187, .istore 3, .aload 0, .iload 3, .ifCond .lt 31, .iconst (1), .goto 32, .iconst (0)], [.invokestatic 182, .aload 0, .getfield 3124, .ifCond .ne 47, .aload 0, .iconst (105), .iconst (102), .iconst (0), .iconst (0), .iconst (0), .iconst (0), .invokestatic 185, .ifCond .eq 47, .iconst (1), .goto 48, .iconst (0)], [.istore 4, .iload 4, .ifCond .eq 56, .aload 0, .iconst (1), .invokestatic 182, .aload 0, .invokestatic 192, .aload 0, .aload 0, .aload 0, .getfield 3104, .invokestatic 178, .iconst (59), .if_icmp .ne 65, .iconst (1)], [.goto 66, .iconst (0), .invokestatic 182, .aload 0, .getfield 3124, .ifCond .ne 119, .iconst (5), .aload 0, .getfield 3120, .imul, .istore 5, .aload 0, .getfield 3098, .iload 5, .iload 1, .iastore], [.aload 0, .getfield 3098, .iload 5, .iconst (1), .iadd, .iload 3, .iastore, .aload 0, .getfield 3098, .iload 5, .iconst (2), .iadd, .iload 4, .ifCond .eq 96, .iconst (1), .goto 97], [.iconst (0), .iastore, .aload 0, .getfield 3098, .iload 5, .iconst (3), .iadd, .iload 2, .iastore, .aload 0, .getfield 3098, .iload 5, .iconst (4), .iadd, .aload 0, .getfield 3116], [.iastore, .aload 0, .dup, .getfield 3120, .iconst (1), .iadd, .putfield 3120, .return_]]
/-- OneIsTwoModel.law()I -/
def pm_194 : List (List Instr) := [[.aload 0, .iconst (0), .putfield 3108, .aload 0, .iconst (0), .putfield 3112, .aload 0, .iconst (0), .putfield 3116, .aload 0, .iconst (0), .putfield 3120, .aload 0, .iconst (0), .putfield 3127, .aload 0], [.invokestatic 181, .aload 0, .getfield 3124, .ifCond .ne 28, .aload 0, .getfield 3104, .aload 0, .getfield 3100, .if_icmp .ge 28, .aload 0, .invokestatic 193, .goto 17, .aload 0, .iconst (0), .putfield 3100, .aload 0], [.getfield 3124, .ifCond .eq 39, .bipush (-100), .aload 0, .getfield 3104, .isub, .ireturn, .aload 0, .getfield 3074, .iconst (6), .aload 0, .getfield 3120, .iastore, .aload 0, .getfield 3074, .iconst (8)], [.aload 0, .getfield 3116, .iastore, .iconst (0), .istore 1, .iload 1, .iconst (50), .if_icmp .ge 76, .aload 0, .getfield 3074, .iconst (296), .iload 1, .iadd, .iload 1, .iconst (5), .aload 0], [.getfield 3120, .imul, .if_icmp .ge 72, .aload 0, .getfield 3098, .iload 1, .iaload, .goto 73, .iconst (0), .iastore, .iinc 1 (1), .goto 53, .iconst (0), .istore 1, .iload 1, .iconst (200)], [.if_icmp .ge 99, .aload 0, .getfield 3074, .iconst (346), .iload 1, .iadd, .iload 1, .aload 0, .getfield 3116, .if_icmp .ge 95, .aload 0, .getfield 3094, .iload 1, .iaload, .goto 96, .iconst (0)], [.iastore, .iinc 1 (1), .goto 78, .aload 0, .getfield 3120, .ireturn]]
/-- OneIsTwoModel.both(III)I -/
def pm_195 : List (List Instr) := [[.iload 0, .lookupswitch 24 #[(10011, 2), (10012, 6), (10080, 10), (10081, 17)], .iload 1, .iload 2, .iand, .ireturn, .iload 1, .iload 2, .ior, .ireturn, .iload 1, .iload 2, .if_icmp .ge 15, .iconst (1), .goto 16, .iconst (0)], [.ireturn, .iload 1, .iload 2, .if_icmp .ne 22, .iconst (1), .goto 23, .iconst (0), .ireturn, .iload 1, .iload 2, .if_icmp .le 29, .iconst (1), .goto 30, .iconst (0), .ireturn]]
/-- OneIsTwoModel.holds(I)Z -/
def pm_196 : List (List Instr) := [[.iconst (296), .iconst (5), .iload 1, .imul, .iadd, .istore 2, .iconst (0), .istore 3, .aload 0, .getfield 3074, .iload 2, .iconst (3), .iadd, .iaload, .istore 4, .iload 4], [.aload 0, .getfield 3074, .iload 2, .iconst (4), .iadd, .iaload, .if_icmp .ge 89, .aload 0, .getfield 3074, .iconst (346), .iload 4, .iadd, .iaload, .istore 5, .iload 5, .iconst (10010)], [.if_icmp .ge 50, .aload 0, .getfield 3134, .iload 3, .iload 5, .iconst (10000), .if_icmp .ge 41, .iload 5, .goto 47, .aload 0, .getfield 3130, .iload 5, .iconst (10000), .isub, .iaload, .iastore], [.iinc 3 (1), .goto 87, .iload 5, .iconst (10010), .if_icmp .ne 68, .aload 0, .getfield 3134, .iload 3, .iconst (1), .isub, .iconst (1), .aload 0, .getfield 3134, .iload 3, .iconst (1), .isub], [.iaload, .isub, .iastore, .goto 87, .iinc 3 (-1), .aload 0, .getfield 3134, .iload 3, .iconst (1), .isub, .iload 5, .aload 0, .getfield 3134, .iload 3, .iconst (1), .isub], [.iaload, .aload 0, .getfield 3134, .iload 3, .iaload, .invokestatic 195, .iastore, .iinc 4 (1), .goto 15, .aload 0, .getfield 3074, .iload 2, .iconst (2), .iadd, .iaload, .ifCond .eq 102], [.aload 0, .getfield 3134, .iconst (0), .iaload, .iconst (1), .if_icmp .ne 104, .iconst (1), .goto 105, .iconst (0), .freturn]]
/-- OneIsTwoModel.byFacts(I)I -/
def pm_197 : List (List Instr) := [[.aload 0, .getfield 3074, .iconst (6), .iaload, .iconst (1), .isub, .istore 2, .iload 2, .ifCond .lt 36, .aload 0, .getfield 3074, .iconst (296), .iconst (5), .iload 2, .imul, .iadd], [.iaload, .iload 1, .if_icmp .ne 34, .aload 0, .iload 2, .invokestatic 196, .ifCond .eq 34, .aload 0, .getfield 3074, .iconst (296), .iconst (5), .iload 2, .imul, .iadd, .iconst (1), .iadd], [.iaload, .ireturn, .iinc 2 (-1), .goto 7, .iconst (0), .ireturn]]
/-- OneIsTwoModel.onEvent(III)I -/
def pm_198 : List (List Instr) := [[.aload 0, .getfield 3074, .iconst (130), .iconst (3), .iload 2, .imul, .iadd, .iaload, .istore 4, .aload 0, .getfield 3074, .iconst (130), .iconst (3), .iload 2, .imul, .iadd], [.iconst (1), .iadd, .iaload, .istore 5, .iload 4, .iconst (1), .if_icmp .eq 26, .iload 4, .iconst (2), .if_icmp .ne 28, .iconst (1), .goto 29, .iconst (0), .istore 6, .aload 0, .getfield 3130], [.iconst (0), .aload 0, .getfield 3074, .iconst (130), .iconst (3), .iload 2, .imul, .iadd, .iconst (2), .iadd, .iaload, .iastore, .aload 0, .getfield 3130, .iconst (1), .iload 4], [.iconst (3), .if_icmp .ne 55, .aload 0, .iload 5, .iconst (2), .invokestatic 152, .goto 56, .iload 5, .iastore, .aload 0, .getfield 3130, .iconst (2), .iload 6, .ifCond .eq 72, .aload 0, .iload 5], [.iconst (4), .invokestatic 152, .aload 0, .iload 5, .iconst (5), .invokestatic 152, .isub, .goto 73, .iconst (0), .iastore, .aload 0, .getfield 3130, .iconst (3), .iload 4, .iconst (4), .if_icmp .ne 82], [.iconst (6), .goto 86, .aload 0, .iload 5, .iconst (1), .invokestatic 152, .iastore, .aload 0, .getfield 3130, .iconst (4), .iload 3, .ifCond .ge 94, .iconst (0), .goto 104, .aload 0, .getfield 3074], [.iconst (184), .iconst (5), .iload 3, .imul, .iadd, .iconst (2), .iadd, .iaload, .iastore, .aload 0, .getfield 3130, .iconst (5), .iload 3, .ifCond .ge 112, .iconst (0), .goto 113], [.iload 3, .iastore, .aload 0, .iload 1, .invokestatic 197, .ireturn]]
/-- OneIsTwoModel.nowAbout(II)I -/
def pm_199 : List (List Instr) := [[.aload 0, .getfield 3130, .iconst (0), .aload 0, .getfield 3074, .iconst (0), .iaload, .iastore, .aload 0, .getfield 3130, .iconst (1), .aload 0, .getfield 3074, .iconst (1), .iaload, .iastore], [.aload 0, .getfield 3130, .iconst (2), .iconst (0), .iastore, .aload 0, .getfield 3130, .iconst (3), .aload 0, .iload 2, .iconst (0), .invokestatic 152, .iastore, .aload 0, .getfield 3130, .iconst (4)], [.iconst (0), .iastore, .aload 0, .getfield 3130, .iconst (5), .iconst (0), .iastore, .aload 0, .iload 1, .invokestatic 197, .ireturn]]
/-- OneIsTwoModel.says(II)I -/
def pm_200 : List (List Instr) := [[.iload 1, .i2l, .goto_w (0), .goto_w (6), .invokestatic 151, .ifCond .eq 15, .aload 0, .iload 2, .invokestatic 153, .ifCond .eq 15, .aload 0, .iload 1, .iload 2, .invokestatic 199, .goto 16, .bipush (-1)], [.ireturn]]
/-- OneIsTwoModel.newClaim(III)I -/
def pm_201 : List (List Instr) := [[.iconst (184), .iconst (5), .aload 0, .getfield 3074, .iconst (3), .iaload, .imul, .iadd, .istore 4, .aload 0, .getfield 3074, .iload 4, .iload 1, .iastore, .aload 0, .getfield 3074], [.iload 4, .iconst (1), .iadd, .iload 2, .iastore, .aload 0, .getfield 3074, .iload 4, .iconst (2), .iadd, .iload 3, .iastore, .aload 0, .getfield 3074, .iload 4, .iconst (3)], [.iadd, .aload 0, .getfield 3074, .iconst (0), .iaload, .iastore, .aload 0, .getfield 3074, .iload 4, .iconst (4), .iadd, .aload 0, .getfield 3074, .iconst (2), .iaload, .iastore], [.aload 0, .getfield 3074, .iconst (3), .dup2, .iaload, .iconst (1), .iadd, .iastore, .aload 0, .getfield 3074, .iconst (3), .iaload, .iconst (1), .isub, .ireturn]]
/-- OneIsTwoModel.claim(III)I -/
def pm_202 : List (List Instr) := [[.iload 1, .i2l, .goto_w (0), .goto_w (1), .invokestatic 151, .ifCond .eq 16, .aload 0, .iload 2, .invokestatic 153, .ifCond .eq 16, .iload 3, .i2l, .goto_w (1), .goto_w (9999), .invokestatic 151, .ifCond .ne 18], [.bipush (-1), .ireturn, .aload 0, .iload 2, .invokestatic 154, .ifCond .ne 24, .bipush (-4), .ireturn, .aload 0, .getfield 3074, .iconst (3), .iaload, .iconst (12), .if_icmp .ne 32, .bipush (-2), .goto 37], [.aload 0, .iload 1, .iload 2, .iload 3, .invokestatic 201, .ireturn]]
/-- OneIsTwoModel.isClaim(I)Z -/
def pm_203 : List (List Instr) := [[.iload 1, .i2l, .goto_w (0), .aload 0, .getfield 3074, .iconst (3), .iaload, .iconst (1), .isub, .i2l, .invokestatic 151, .freturn]]
/-- OneIsTwoModel.claimOf(II)I -/
def pm_204 : List (List Instr) := [[.aload 0, .iload 1, .invokestatic 203, .ifCond .eq 21, .iload 2, .i2l, .goto_w (0), .goto_w (3), .invokestatic 151, .ifCond .eq 21, .aload 0, .getfield 3074, .iconst (184), .iconst (5), .iload 1, .imul], [.iadd, .iload 2, .iadd, .iaload, .goto 22, .bipush (-1), .ireturn]]
/-- OneIsTwoModel.goesBy(I)V -/
def pm_205 : List (List Instr) := [[.aload 0, .getfield 3074, .iconst (130), .iconst (3), .iload 1, .imul, .iadd, .iaload, .istore 2, .aload 0, .getfield 3074, .iconst (130), .iconst (3), .iload 1, .imul, .iadd], [.iconst (1), .iadd, .iaload, .istore 3, .aload 0, .getfield 3138, .iload 3, .iload 2, .iconst (4), .if_icmp .ne 28, .iconst (0), .goto 40, .iload 2, .iconst (1), .if_icmp .ne 39, .aload 0], [.iload 3, .iconst (1), .invokestatic 152, .iconst (5), .if_icmp .ne 39, .iconst (2), .goto 40, .iconst (1), .iastore, .iload 2, .iconst (3), .if_icmp .ne 60, .aload 0, .getfield 3138, .aload 0, .iload 3], [.iconst (2), .invokestatic 152, .iconst (0), .iastore, .aload 0, .getfield 3138, .aload 0, .iload 3, .iconst (3), .invokestatic 152, .iconst (0), .iastore, .return_]]
/-- OneIsTwoModel.nobodyStands()V -/
def pm_206 : List (List Instr) := [[.iconst (0), .istore 1, .iload 1, .iconst (12), .if_icmp .ge 12, .aload 0, .getfield 3138, .iload 1, .iconst (0), .iastore, .iinc 1 (1), .goto 2, .return_]]
/-- OneIsTwoModel.moves(II)Z -/
def pm_207 : List (List Instr) := [[.aload 0, .getfield 3074, .iconst (130), .iconst (3), .iload 1, .imul, .iadd, .iaload, .istore 3, .aload 0, .getfield 3074, .iconst (130), .iconst (3), .iload 1, .imul, .iadd], [.iconst (1), .iadd, .iaload, .istore 4, .iload 3, .iconst (1), .if_icmp .eq 28, .iload 3, .iconst (2), .if_icmp .eq 28, .iconst (0), .freturn, .aload 0, .iload 4, .iconst (1), .invokestatic 152], [.iconst (5), .if_icmp .ne 36, .iconst (1), .goto 37, .iconst (0), .istore 5, .iload 5, .ifCond .eq 52, .aload 0, .iconst (6), .aload 0, .iload 4, .iconst (9), .invokestatic 152, .bipush (-1), .invokestatic 198], [.iconst (1), .if_icmp .ne 52, .iconst (1), .goto 53, .iconst (0), .istore 6, .iload 3, .iconst (1), .if_icmp .ne 65, .iload 5, .ifCond .eq 61, .iload 6, .ifCond .eq 63, .iconst (1), .goto 70, .iconst (0)], [.goto 70, .iload 6, .ifCond .ne 69, .iconst (1), .goto 70, .iconst (0), .istore 7, .iload 7, .ifCond .eq 85, .aload 0, .iload 4, .iconst (5), .invokestatic 152, .iload 2, .if_icmp .lt 85, .aload 0], [.iload 4, .invokestatic 172, .ifCond .ne 85, .iconst (1), .goto 86, .iconst (0), .freturn]]
/-- OneIsTwoModel.capped(J)J -/
def pm_208 : List (List Instr) := [[.lload 0, .goto_w (68719476736), .lcmp, .ifCond .le 6, .goto_w (68719476736), .goto 7, .lload 0, .lreturn]]
/-- OneIsTwoModel.sharesBy(II)V -/
def pm_209 : List (List Instr) := [[.aload 0, .getfield 3074, .iconst (130), .iconst (3), .iload 1, .imul, .iadd, .iaload, .istore 3, .aload 0, .getfield 3074, .iconst (130), .iconst (3), .iload 1, .imul, .iadd], [.iconst (1), .iadd, .iaload, .istore 4, .aload 0, .iload 4, .iconst (2), .invokestatic 152, .istore 5, .iload 3, .iconst (3), .if_icmp .ne 58, .aload 0, .iload 4, .iconst (3), .invokestatic 152], [.istore 6, .aload 0, .getfield 3142, .iload 4, .aload 0, .getfield 3142, .iload 5, .laload, .aload 0, .getfield 3142, .iload 6, .laload, .ladd, .invokestatic 208, .lastore, .aload 0], [.getfield 3142, .iload 5, .goto_w (0), .lastore, .aload 0, .getfield 3142, .iload 6, .goto_w (0), .lastore, .goto 185, .iload 3, .iconst (4), .if_icmp .ne 93, .aload 0, .getfield 3142, .iload 4], [.laload, .lstore 6, .aload 0, .getfield 3142, .iload 4, .goto_w (0), .lastore, .aload 0, .iload 4, .invokestatic 155, .ifCond .eq 92, .aload 0, .getfield 3138, .iload 5, .iaload, .iconst (1)], [.if_icmp .ne 92, .aload 0, .getfield 3142, .iload 5, .aload 0, .getfield 3142, .iload 5, .laload, .lload 6, .ladd, .invokestatic 208, .lastore, .goto 185, .aload 0, .iload 1, .aload 0], [.getfield 3074, .iconst (184), .iconst (5), .iload 2, .imul, .iadd, .iconst (3), .iadd, .iaload, .invokestatic 207, .ifCond .eq 185, .aload 0, .aload 0, .getfield 3074, .iconst (184), .iconst (5)], [.iload 2, .imul, .iadd, .iaload, .ifCond .ne 119, .iconst (0), .goto 120, .iconst (1), .iload 1, .iload 2, .invokestatic 198, .istore 6, .iload 6, .iconst (1), .if_icmp .ne 141, .aload 0], [.getfield 3142, .iload 4, .aload 0, .getfield 3142, .iload 5, .laload, .lastore, .aload 0, .getfield 3142, .iload 5, .goto_w (0), .lastore, .goto 185, .iload 6, .iconst (2), .if_icmp .ne 174], [.aload 0, .getfield 3142, .iload 5, .laload, .goto_w (4), .ldiv, .aload 0, .iload 4, .iconst (6), .invokestatic 152, .i2l, .lmul, .lstore 7, .aload 0, .getfield 3142, .iload 4], [.dup2, .laload, .lload 7, .ladd, .lastore, .aload 0, .getfield 3142, .iload 5, .dup2, .laload, .lload 7, .lsub, .lastore, .goto 185, .iload 6, .iconst (3)], [.if_icmp .ne 185, .aload 0, .getfield 3142, .iload 4, .aload 0, .getfield 3142, .iload 5, .laload, .lastore, .return_]]
/-- OneIsTwoModel.findShares(I)V -/
def pm_210 : List (List Instr) := [[.aload 0, .invokestatic 206, .iconst (0), .istore 2, .iload 2, .iconst (12), .if_icmp .ge 28, .aload 0, .getfield 3142, .iload 2, .iload 2, .aload 0, .getfield 3074, .iconst (184), .iconst (5), .iload 1], [.imul, .iadd, .iconst (1), .iadd, .iaload, .if_icmp .ne 24, .goto_w (68719476736), .goto 25, .goto_w (0), .lastore, .iinc 2 (1), .goto 4, .iconst (0), .istore 2, .iload 2, .aload 0], [.getfield 3074, .iconst (2), .iaload, .if_icmp .ge 57, .iload 2, .aload 0, .getfield 3074, .iconst (184), .iconst (5), .iload 1, .imul, .iadd, .iconst (4), .iadd, .iaload, .if_icmp .lt 52], [.aload 0, .iload 2, .iload 1, .invokestatic 209, .aload 0, .iload 2, .invokestatic 205, .iinc 2 (1), .goto 30, .return_]]
/-- OneIsTwoModel.share(III)J -/
def pm_211 : List (List Instr) := [[.aload 0, .iload 1, .invokestatic 153, .ifCond .eq 14, .aload 0, .iload 2, .invokestatic 203, .ifCond .eq 14, .iload 3, .i2l, .goto_w (0), .goto_w (1), .invokestatic 151, .ifCond .ne 16, .jsr_w (-1), .lreturn], [.aload 0, .iload 2, .invokestatic 210, .aload 0, .getfield 3142, .iload 1, .laload, .goto_w (68719476736), .iload 3, .invokestatic 158, .lreturn]]
/-- OneIsTwoModel.totalOf(II)J -/
def pm_212 : List (List Instr) := [[.goto_w (0), .lstore 3, .iconst (0), .istore 5, .iload 5, .aload 0, .getfield 3074, .iconst (3), .iaload, .if_icmp .ge 44, .aload 0, .getfield 3074, .iconst (184), .iconst (5), .iload 5, .imul], [.iadd, .iaload, .iload 2, .if_icmp .ne 42, .aload 0, .iload 5, .invokestatic 210, .lload 3, .aload 0, .getfield 3074, .iconst (184), .iconst (5), .iload 5, .imul, .iadd, .iconst (2)], [.iadd, .iaload, .i2l, .aload 0, .getfield 3142, .iload 1, .laload, .lmul, .ladd, .lstore 3, .iinc 5 (1), .goto 4, .lload 3, .lreturn]]
/-- OneIsTwoModel.total(III)J -/
def pm_213 : List (List Instr) := [[.aload 0, .iload 1, .invokestatic 153, .ifCond .eq 24, .iload 2, .i2l, .goto_w (0), .goto_w (1), .invokestatic 151, .ifCond .eq 24, .iload 3, .i2l, .goto_w (0), .goto_w (1), .invokestatic 151, .ifCond .eq 24], [.aload 0, .iload 1, .iload 2, .invokestatic 212, .goto_w (68719476736), .iload 3, .invokestatic 158, .goto 25, .jsr_w (-1), .lreturn]]
/-- OneIsTwoModel.isDeed(I)Z -/
def pm_214 : List (List Instr) := [[.iload 1, .i2l, .goto_w (0), .aload 0, .getfield 3074, .iconst (4), .iaload, .iconst (1), .isub, .i2l, .invokestatic 151, .freturn]]
/-- OneIsTwoModel.deed(I)I -/
def pm_215 : List (List Instr) := [[.aload 0, .iload 1, .invokestatic 153, .ifCond .ne 6, .bipush (-1), .ireturn, .aload 0, .iload 1, .invokestatic 154, .ifCond .ne 12, .bipush (-4), .ireturn, .aload 0, .getfield 3074, .iconst (4), .iaload], [.iconst (10), .if_icmp .ne 20, .bipush (-2), .ireturn, .aload 0, .getfield 3074, .iconst (244), .iconst (2), .aload 0, .getfield 3074, .iconst (4), .iaload, .imul, .iadd, .iload 1, .iastore], [.aload 0, .getfield 3074, .iconst (244), .iconst (2), .aload 0, .getfield 3074, .iconst (4), .iaload, .imul, .iadd, .iconst (1), .iadd, .aload 0, .getfield 3074, .iconst (0), .iaload], [.iastore, .aload 0, .getfield 3074, .iconst (4), .dup2, .iaload, .iconst (1), .iadd, .iastore, .aload 0, .getfield 3074, .iconst (4), .iaload, .iconst (1), .isub, .ireturn]]
/-- OneIsTwoModel.rememberers(I)I -/
def pm_216 : List (List Instr) := [[.iconst (0), .istore 2, .iconst (0), .istore 3, .iload 3, .aload 0, .getfield 3074, .iconst (1), .iaload, .if_icmp .ge 113, .aload 0, .iload 3, .iconst (2), .invokestatic 152, .istore 4, .iload 3], [.aload 0, .getfield 3074, .iconst (244), .iconst (2), .iload 1, .imul, .iadd, .iaload, .if_icmp .ne 27, .iconst (1), .goto 28, .iconst (0), .istore 5, .aload 0, .iload 3, .invokestatic 155], [.ifCond .eq 72, .iload 5, .ifCond .ne 67, .aload 0, .iload 3, .iconst (5), .invokestatic 152, .aload 0, .getfield 3074, .iconst (244), .iconst (2), .iload 1, .imul, .iadd, .iconst (1), .iadd], [.iaload, .if_icmp .lt 69, .iload 2, .iload 4, .ishr, .iconst (1), .iand, .iconst (1), .if_icmp .ne 69, .aload 0, .iload 3, .iconst (1), .invokestatic 152, .iconst (3), .if_icmp .ne 67, .iload 1], [.iconst (2), .irem, .ifCond .ne 69, .iconst (1), .goto 70, .iconst (0), .istore 5, .goto 101, .aload 0, .iload 3, .iconst (1), .invokestatic 152, .iconst (4), .if_icmp .ne 101, .iload 5, .ifCond .ne 97], [.iload 2, .iload 4, .ishr, .iconst (1), .iand, .iconst (1), .if_icmp .eq 97, .iload 2, .aload 0, .iload 3, .iconst (3), .invokestatic 152, .ishr, .iconst (1), .iand, .iconst (1)], [.if_icmp .ne 99, .iconst (1), .goto 100, .iconst (0), .istore 5, .iload 2, .iload 5, .ifCond .eq 108, .iconst (1), .iload 3, .ishl, .goto 109, .iconst (0), .ior, .istore 2, .iinc 3 (1)], [.goto 4, .iload 2, .ireturn]]
/-- OneIsTwoModel.remembers(II)I -/
def pm_217 : List (List Instr) := [[.aload 0, .iload 1, .invokestatic 153, .ifCond .eq 16, .aload 0, .iload 2, .invokestatic 214, .ifCond .eq 16, .aload 0, .iload 2, .invokestatic 216, .iload 1, .ishr, .iconst (1), .iand, .goto 17], [.bipush (-1), .ireturn]]
/-- OneIsTwoModel.counts(I)Z -/
def pm_218 : List (List Instr) := [[.aload 0, .iload 1, .invokestatic 154, .ifCond .eq 10, .aload 0, .iload 1, .invokestatic 172, .ifCond .ne 10, .iconst (1), .goto 11, .iconst (0), .freturn]]
/-- OneIsTwoModel.bodyOf(I)I -/
def pm_219 : List (List Instr) := [[.iload 1, .istore 2, .iload 2, .ifCond .lt 16, .aload 0, .iload 2, .iconst (0), .invokestatic 152, .iconst (6), .if_icmp .ne 16, .aload 0, .iload 2, .iconst (7), .invokestatic 152, .istore 2, .goto 2], [.iload 2, .ireturn]]
/-- OneIsTwoModel.blame(I)I -/
def pm_220 : List (List Instr) := [[.aload 0, .iload 1, .invokestatic 214, .ifCond .ne 6, .bipush (-1), .ireturn, .aload 0, .getfield 3074, .iconst (244), .iconst (2), .iload 1, .imul, .iadd, .iaload, .istore 2, .aload 0], [.iconst (2), .iload 2, .invokestatic 199, .istore 3, .iload 3, .iconst (1), .if_icmp .ne 53, .aload 0, .iload 1, .invokestatic 216, .istore 4, .iconst (0), .istore 5, .iload 5, .aload 0, .getfield 3074], [.iconst (1), .iaload, .if_icmp .ge 51, .iload 4, .aload 0, .iload 5, .invokestatic 218, .ifCond .eq 42, .bipush (-1), .goto 47, .iconst (1), .iload 5, .ishl, .bipush (-1), .ixor, .iand], [.istore 4, .iinc 5 (1), .goto 29, .iload 4, .ireturn, .iload 3, .ifCond .ne 59, .aload 0, .iload 2, .invokestatic 219, .goto 72, .aload 0, .aload 0, .iload 2, .invokestatic 171, .iconst (0)], [.invokestatic 152, .iconst (6), .if_icmp .ne 69, .bipush (-1), .goto 72, .aload 0, .iload 2, .invokestatic 171, .istore 4, .iload 4, .ifCond .ge 77, .iconst (0), .goto 80, .iconst (1), .iload 4, .ishl], [.ireturn]]
/-- OneIsTwoModel.apart(II)I -/
def pm_221 : List (List Instr) := [[.aload 0, .iload 1, .invokestatic 153, .ifCond .eq 8, .aload 0, .iload 2, .invokestatic 153, .ifCond .ne 10, .bipush (-1), .ireturn, .bipush (-9), .istore 3, .aload 0, .getfield 3074, .iconst (4), .iaload], [.iconst (1), .isub, .istore 4, .iload 4, .ifCond .lt 42, .aload 0, .iload 4, .invokestatic 216, .istore 5, .iload 5, .iload 1, .ishr, .iconst (1), .iand, .iload 5, .iload 2], [.ishr, .iconst (1), .iand, .if_icmp .eq 38, .iload 4, .goto 39, .iload 3, .istore 3, .iinc 4 (-1), .goto 19, .iload 3, .ireturn]]
/-- OneIsTwoModel.bits(I)I -/
def pm_222 : List (List Instr) := [[.iconst (0), .istore 1, .iload 0, .istore 2, .iload 2, .ifCond .eq 14, .iinc 1 (1), .iload 2, .iload 2, .iconst (1), .isub, .iand, .istore 2, .goto 4, .iload 1, .ireturn]]
/-- OneIsTwoModel.tellsApart(I)Z -/
def pm_223 : List (List Instr) := [[.iconst (1), .istore 2, .iconst (0), .istore 3, .iload 3, .aload 0, .getfield 3074, .iconst (1), .iaload, .if_icmp .ge 53, .iconst (0), .istore 4, .iload 4, .iload 3, .if_icmp .ge 51, .aload 0], [.getfield 3146, .iload 3, .iaload, .aload 0, .getfield 3146, .iload 4, .iaload, .ixor, .istore 5, .iload 2, .ifCond .eq 47, .aload 0, .iload 3, .iconst (0), .invokestatic 152, .iconst (6)], [.if_icmp .eq 45, .aload 0, .iload 4, .iconst (0), .invokestatic 152, .iconst (6), .if_icmp .eq 45, .iload 5, .ifCond .eq 45, .iload 5, .iload 1, .iand, .ifCond .eq 47, .iconst (1), .goto 48, .iconst (0)], [.istore 2, .iinc 4 (1), .goto 12, .iinc 3 (1), .goto 4, .iload 2, .freturn]]
/-- OneIsTwoModel.fewest(I)I -/
def pm_224 : List (List Instr) := [[.iload 1, .i2l, .goto_w (0), .goto_w (1), .invokestatic 151, .ifCond .ne 8, .bipush (-1), .ireturn, .iconst (0), .istore 2, .iload 2, .iconst (12), .if_icmp .ge 20, .aload 0, .getfield 3146, .iload 2], [.iconst (0), .iastore, .iinc 2 (1), .goto 10, .iconst (0), .istore 2, .iload 2, .aload 0, .getfield 3074, .iconst (4), .iaload, .if_icmp .ge 58, .aload 0, .iload 2, .invokestatic 216, .istore 3], [.iconst (0), .istore 4, .iload 4, .aload 0, .getfield 3074, .iconst (1), .iaload, .if_icmp .ge 56, .aload 0, .getfield 3146, .iload 4, .dup2, .iaload, .iload 3, .iload 4, .ishr], [.iconst (1), .iand, .iload 2, .ishl, .ior, .iastore, .iinc 4 (1), .goto 34, .iinc 2 (1), .goto 22, .iconst (1), .aload 0, .getfield 3074, .iconst (4), .iaload, .ishl], [.iconst (1), .isub, .istore 2, .iload 2, .istore 3, .iload 3, .ifCond .lt 86, .iload 3, .invokestatic 222, .iload 2, .invokestatic 222, .if_icmp .gt 82, .aload 0, .iload 3, .invokestatic 223, .ifCond .eq 82], [.iload 3, .goto 83, .iload 2, .istore 2, .iinc 3 (-1), .goto 69, .iload 1, .ifCond .ne 91, .iload 2, .invokestatic 222, .goto 92, .iload 2, .ireturn]]
/-- OneIsTwoModel.sideBy(III)I -/
def pm_225 : List (List Instr) := [[.aload 0, .getfield 3074, .iconst (130), .iconst (3), .iload 1, .imul, .iadd, .iaload, .istore 4, .aload 0, .getfield 3074, .iconst (130), .iconst (3), .iload 1, .imul, .iadd], [.iconst (1), .iadd, .iaload, .istore 5, .aload 0, .iload 5, .iconst (2), .invokestatic 152, .istore 6, .iload 4, .iconst (4), .if_icmp .ne 36, .iload 2, .iconst (1), .iload 5, .ishl], [.bipush (-1), .ixor, .iand, .ireturn, .iload 4, .iconst (3), .if_icmp .ne 66, .iconst (1), .iload 6, .ishl, .iconst (1), .aload 0, .iload 5, .iconst (3), .invokestatic 152, .ishl], [.ior, .istore 7, .iload 2, .iload 7, .iand, .ifCond .ne 56, .iload 2, .goto 65, .iload 2, .iload 7, .bipush (-1), .ixor, .iand, .iconst (1), .iload 5, .ishl], [.ior, .ireturn, .iload 6, .ifCond .lt 79, .iload 2, .iload 6, .ishr, .iconst (1), .iand, .ifCond .eq 79, .aload 0, .iload 1, .iload 3, .invokestatic 207, .ifCond .ne 81, .iload 2], [.ireturn, .aload 0, .iconst (4), .iload 1, .bipush (-1), .invokestatic 198, .istore 7, .iload 7, .iconst (1), .if_icmp .eq 93, .iload 7, .iconst (3), .if_icmp .ne 101, .iload 2, .iconst (1), .iload 6], [.ishl, .bipush (-1), .ixor, .iand, .goto 102, .iload 2, .istore 8, .iload 7, .iconst (1), .if_icmp .eq 109, .iload 7, .iconst (2), .if_icmp .ne 115, .iload 8, .iconst (1), .iload 5], [.ishl, .ior, .goto 116, .iload 8, .ireturn]]
/-- OneIsTwoModel.findSides(I)V -/
def pm_226 : List (List Instr) := [[.iconst (264), .iconst (4), .iload 1, .imul, .iadd, .istore 2, .aload 0, .iconst (1), .aload 0, .getfield 3074, .iload 2, .iaload, .ishl, .putfield 3148, .aload 0, .iconst (1)], [.aload 0, .getfield 3074, .iload 2, .iconst (1), .iadd, .iaload, .ishl, .putfield 3152, .aload 0, .getfield 3074, .iload 2, .iconst (3), .iadd, .iaload, .istore 3, .iload 3], [.aload 0, .getfield 3074, .iconst (2), .iaload, .if_icmp .ge 65, .aload 0, .aload 0, .iload 3, .aload 0, .getfield 3148, .aload 0, .getfield 3074, .iload 2, .iconst (2), .iadd, .iaload], [.invokestatic 225, .putfield 3148, .aload 0, .aload 0, .iload 3, .aload 0, .getfield 3152, .aload 0, .getfield 3074, .iload 2, .iconst (2), .iadd, .iaload, .invokestatic 225, .putfield 3152, .iinc 3 (1)], [.goto 31, .return_]]
/-- OneIsTwoModel.weddedTo(I)I -/
def pm_227 : List (List Instr) := [[.iconst (0), .istore 2, .iconst (0), .istore 3, .iload 3, .aload 0, .getfield 3074, .iconst (5), .iaload, .if_icmp .ge 45, .aload 0, .iload 3, .invokestatic 226, .iload 2, .aload 0, .getfield 3148], [.iload 1, .ishr, .iconst (1), .iand, .iconst (1), .if_icmp .ne 25, .aload 0, .getfield 3152, .goto 26, .iconst (0), .ior, .istore 2, .iload 2, .aload 0, .getfield 3152, .iload 1], [.ishr, .iconst (1), .iand, .iconst (1), .if_icmp .ne 40, .aload 0, .getfield 3148, .goto 41, .iconst (0), .ior, .istore 2, .iinc 3 (1), .goto 4, .iload 2, .iconst (1), .iload 1], [.ishl, .bipush (-1), .ixor, .iand, .ireturn]]
/-- OneIsTwoModel.wed(II)I -/
def pm_228 : List (List Instr) := [[.aload 0, .iload 1, .invokestatic 153, .ifCond .eq 11, .aload 0, .iload 2, .invokestatic 153, .ifCond .eq 11, .iload 1, .iload 2, .if_icmp .ne 13, .bipush (-1), .ireturn, .aload 0, .iload 1, .invokestatic 154], [.ifCond .eq 30, .aload 0, .iload 2, .invokestatic 154, .ifCond .eq 30, .aload 0, .iload 1, .invokestatic 227, .iload 2, .ishr, .iconst (1), .iand, .iconst (1), .if_icmp .ne 32, .bipush (-4), .ireturn], [.aload 0, .getfield 3074, .iconst (5), .iaload, .iconst (8), .if_icmp .ne 40, .bipush (-2), .ireturn, .iconst (264), .iconst (4), .aload 0, .getfield 3074, .iconst (5), .iaload, .imul, .iadd], [.istore 3, .aload 0, .getfield 3074, .iload 3, .iload 1, .iastore, .aload 0, .getfield 3074, .iload 3, .iconst (1), .iadd, .iload 2, .iastore, .aload 0, .getfield 3074, .iload 3], [.iconst (2), .iadd, .aload 0, .getfield 3074, .iconst (0), .iaload, .iastore, .aload 0, .getfield 3074, .iload 3, .iconst (3), .iadd, .aload 0, .getfield 3074, .iconst (2), .iaload], [.iastore, .aload 0, .getfield 3074, .iconst (5), .dup2, .iaload, .iconst (1), .iadd, .iastore, .aload 0, .getfield 3074, .iconst (5), .iaload, .iconst (1), .isub, .ireturn]]
/-- OneIsTwoModel.wedTo(I)I -/
def pm_229 : List (List Instr) := [[.aload 0, .iload 1, .invokestatic 153, .ifCond .eq 8, .aload 0, .iload 1, .invokestatic 227, .goto 9, .bipush (-1), .ireturn]]
/-- OneIsTwoModel.findRoot(I)V -/
def pm_230 : List (List Instr) := [[.aload 0, .iconst (0), .putfield 3156, .aload 0, .bipush (-1), .putfield 3160, .aload 0, .getfield 3074, .iconst (1), .iaload, .iconst (1), .isub, .istore 2, .iload 2, .ifCond .lt 35, .aload 0], [.iload 2, .invokestatic 171, .iload 1, .if_icmp .ne 33, .aload 0, .iload 2, .invokestatic 218, .ifCond .eq 33, .aload 0, .dup, .getfield 3156, .iconst (1), .iadd, .putfield 3156, .aload 0, .iload 2], [.putfield 3160, .iinc 2 (-1), .goto 13, .return_]]
/-- OneIsTwoModel.voteOf(I)I -/
def pm_231 : List (List Instr) := [[.aload 0, .iload 1, .invokestatic 218, .ifCond .ne 6, .iconst (0), .ireturn, .aload 0, .iconst (3), .iload 1, .invokestatic 199, .istore 2, .iload 2, .ifCond .ne 15, .iconst (1), .goto 27, .iload 2], [.iconst (2), .if_icmp .ne 20, .iconst (2), .goto 27, .iload 1, .aload 0, .getfield 3160, .if_icmp .ne 26, .iconst (1), .goto 27, .iconst (0), .ireturn]]
/-- OneIsTwoModel.votes(II)I -/
def pm_232 : List (List Instr) := [[.aload 0, .iload 1, .invokestatic 153, .ifCond .eq 10, .iload 2, .i2l, .goto_w (0), .goto_w (1), .invokestatic 151, .ifCond .ne 12, .bipush (-1), .ireturn, .aload 0, .aload 0, .iload 1, .invokestatic 171], [.invokestatic 230, .aload 0, .iload 1, .invokestatic 231, .istore 3, .iload 2, .ifCond .ne 29, .iload 3, .ifCond .le 27, .iconst (1), .goto 36, .iconst (0), .goto 36, .iload 3, .iconst (2), .if_icmp .ne 35], [.aload 0, .getfield 3156, .goto 36, .iconst (1), .ireturn]]
/-- OneIsTwoModel.rooted(I)I -/
def pm_233 : List (List Instr) := [[.aload 0, .iload 1, .invokestatic 153, .ifCond .ne 6, .bipush (-1), .ireturn, .aload 0, .iload 1, .iconst (1), .invokestatic 152, .iconst (1), .if_icmp .eq 14, .bipush (-3), .ireturn, .aload 0, .iload 1], [.invokestatic 230, .iconst (0), .istore 2, .iconst (0), .istore 3, .iconst (0), .istore 4, .iload 4, .aload 0, .getfield 3074, .iconst (1), .iaload, .if_icmp .ge 60, .aload 0, .iload 4, .invokestatic 171], [.iload 1, .if_icmp .ne 38, .aload 0, .iload 4, .invokestatic 231, .goto 39, .iconst (0), .istore 5, .iload 2, .iload 5, .iconst (1), .if_icmp .ne 46, .iconst (1), .goto 47, .iconst (0), .iadd], [.istore 2, .iload 3, .iload 5, .iconst (2), .if_icmp .ne 55, .iconst (1), .goto 56, .iconst (0), .iadd, .istore 3, .iinc 4 (1), .goto 23, .iload 3, .ifCond .ne 64, .iload 2, .goto 70], [.iload 2, .iload 3, .aload 0, .getfield 3156, .idiv, .iadd, .ireturn]]
/-- OneIsTwoModel.leaves()V -/
def pm_234 : List (List Instr) := [[.iconst (0), .istore 1, .iload 1, .iconst (546), .if_icmp .ge 15, .aload 0, .getfield 3082, .iload 1, .aload 0, .getfield 3074, .iload 1, .iaload, .iastore, .iinc 1 (1), .goto 2, .return_]]
/-- OneIsTwoModel.returns()V -/
def pm_235 : List (List Instr) := [[.iconst (0), .istore 1, .iload 1, .iconst (546), .if_icmp .ge 15, .aload 0, .getfield 3074, .iload 1, .aload 0, .getfield 3082, .iload 1, .iaload, .iastore, .iinc 1 (1), .goto 2, .return_]]
/-- OneIsTwoModel.paysBy(II)J -/
def pm_236 : List (List Instr) := [[.iload 2, .ifCond .eq 5, .iload 2, .iconst (3), .if_icmp .ne 17, .iload 2, .ifCond .eq 13, .aload 0, .getfield 3074, .iconst (2), .iaload, .iconst (18), .if_icmp .ge 15, .iconst (1), .goto 19, .iconst (0)], [.goto 19, .aload 0, .invokestatic 161, .istore 3, .iload 3, .ifCond .eq 36, .iload 2, .iconst (3), .if_icmp .le 38, .iload 2, .iconst (4), .isub, .iload 1, .if_icmp .eq 36, .aload 0, .iload 2], [.iconst (4), .isub, .invokestatic 154, .ifCond .ne 38, .jsr_w (-1), .lreturn, .iload 1, .istore 4, .iload 2, .iconst (1), .if_icmp .ne 55, .aload 0, .iload 1, .iconst (2), .iconst (2), .aload 0], [.getfield 3074, .iconst (0), .iaload, .iconst (1), .invokestatic 164, .pop, .goto 87, .iload 2, .iconst (2), .if_icmp .ne 70, .aload 0, .iload 1, .iconst (3), .iconst (1), .aload 0, .getfield 3074], [.iconst (0), .iaload, .iconst (1), .invokestatic 164, .pop, .goto 87, .iload 2, .iconst (3), .if_icmp .ne 77, .aload 0, .iload 1, .invokestatic 169, .goto 87, .iload 2, .iconst (3), .if_icmp .le 87], [.aload 0, .iload 1, .iload 2, .iconst (4), .isub, .invokestatic 167, .istore 4, .aload 0, .iload 4, .iconst (0), .invokestatic 212, .goto_w (68719476736), .ldiv, .lreturn]]
/-- OneIsTwoModel.pays(II)J -/
def pm_237 : List (List Instr) := [[.aload 0, .iload 1, .invokestatic 153, .ifCond .eq 10, .iload 2, .i2l, .goto_w (0), .goto_w (1), .invokestatic 151, .ifCond .ne 12, .jsr_w (-1), .lreturn, .aload 0, .iload 1, .invokestatic 154, .ifCond .ne 18], [.jsr_w (-4), .lreturn, .aload 0, .invokestatic 234, .aload 0, .getfield 3074, .iconst (1), .iaload, .istore 3, .iconst (0), .istore 4, .jsr_w (-1), .lstore 5, .iconst (0), .istore 7, .iload 7], [.iconst (4), .iload 3, .iadd, .if_icmp .ge 61, .aload 0, .iload 1, .iload 7, .invokestatic 236, .lstore 8, .aload 0, .invokestatic 235, .lload 8, .goto_w (0), .lcmp, .ifCond .lt 59, .lload 5], [.goto_w (0), .lcmp, .ifCond .lt 55, .lload 8, .lload 5, .lcmp, .ifCond .ge 59, .iload 7, .istore 4, .lload 8, .lstore 5, .iinc 7 (1), .goto 31, .iload 2, .ifCond .ne 66, .iload 4], [.i2l, .goto 67, .lload 5, .lreturn]]
/-- OneIsTwoModel.lender(III)J -/
def pm_238 : List (List Instr) := [[.aload 0, .iload 1, .invokestatic 153, .ifCond .eq 16, .iload 2, .i2l, .goto_w (0), .goto_w (4), .invokestatic 151, .ifCond .eq 16, .iload 3, .i2l, .goto_w (0), .goto_w (1), .invokestatic 151, .ifCond .ne 18], [.jsr_w (-1), .lreturn, .aload 0, .iload 1, .invokestatic 154, .ifCond .ne 24, .jsr_w (-4), .lreturn, .aload 0, .getfield 3074, .iconst (3), .iaload, .iconst (12), .if_icmp .eq 46, .aload 0, .getfield 3074], [.iconst (1), .iaload, .iload 2, .iadd, .iconst (12), .if_icmp .gt 46, .aload 0, .getfield 3074, .iconst (2), .iaload, .iload 2, .iadd, .iconst (18), .if_icmp .le 48, .jsr_w (-2), .lreturn], [.aload 0, .invokestatic 234, .aload 0, .iconst (0), .iload 1, .iconst (1), .invokestatic 201, .istore 4, .iconst (0), .istore 5, .iload 5, .iload 2, .if_icmp .ge 74, .aload 0, .iload 1, .iconst (2)], [.iconst (2), .aload 0, .getfield 3074, .iconst (0), .iaload, .iconst (1), .invokestatic 164, .pop, .iinc 5 (1), .goto 58, .aload 0, .iload 4, .invokestatic 210, .goto_w (0), .lstore 5, .iconst (0)], [.istore 7, .iload 7, .aload 0, .getfield 3074, .iconst (1), .iaload, .if_icmp .ge 103, .aload 0, .getfield 3142, .iload 7, .laload, .lload 5, .lcmp, .ifCond .le 99, .aload 0, .getfield 3142], [.iload 7, .laload, .goto 100, .lload 5, .lstore 5, .iinc 7 (1), .goto 81, .aload 0, .invokestatic 235, .lload 5, .goto_w (68719476736), .iload 3, .invokestatic 158, .lreturn]]
/-- OneIsTwoModel.seed(I)I -/
def pm_239 : List (List Instr) := [[.aload 0, .getfield 3074, .iconst (7), .iaload, .istore 2, .aload 0, .getfield 3074, .iconst (7), .iload 1, .iastore, .iload 2, .ireturn]]
/-- OneIsTwoModel.call()I -/
def pm_240 : List (List Instr) := [[.aload 0, .invokestatic 156, .istore 1, .iload 1, .ifCond .ne 7, .bipush (-3), .ireturn, .aload 0, .getfield 3074, .iconst (7), .aload 0, .getfield 3074, .iconst (7), .iaload, .iconst (1103515245), .imul], [.iconst (12345), .iadd, .iastore, .aload 0, .getfield 3074, .iconst (7), .iaload, .iconst (16), .iushr, .iload 1, .irem, .istore 2, .iconst (0), .istore 3, .aload 0, .iload 3], [.invokestatic 154, .ifCond .eq 36, .iload 2, .ifCond .le 48, .iload 2, .aload 0, .iload 3, .invokestatic 154, .ifCond .eq 43, .iconst (1), .goto 44, .iconst (0), .isub, .istore 2, .iinc 3 (1), .goto 30], [.iload 3, .ireturn]]
/-- OneIsTwoModel.prove(I)I -/
def pm_241 : List (List Instr) := [[.aload 0, .iload 1, .invokestatic 203, .ifCond .ne 6, .bipush (-1), .ireturn, .aload 0, .iload 1, .invokestatic 210, .aload 0, .iconst (0), .putfield 3168, .iconst (0), .istore 2, .iload 2, .aload 0], [.getfield 3074, .iconst (1), .iaload, .if_icmp .ge 76, .aload 0, .getfield 3142, .iload 2, .laload, .goto_w (0), .lcmp, .ifCond .le 74, .aload 0, .getfield 3166, .iconst (3), .aload 0, .getfield 3168], [.imul, .iload 2, .i2l, .lastore, .aload 0, .getfield 3166, .iconst (3), .aload 0, .getfield 3168, .imul, .iconst (1), .iadd, .aload 0, .getfield 3142, .iload 2, .laload], [.goto_w (68719476736), .iconst (0), .invokestatic 158, .lastore, .aload 0, .getfield 3166, .iconst (3), .aload 0, .getfield 3168, .imul, .iconst (2), .iadd, .aload 0, .getfield 3142, .iload 2, .laload], [.goto_w (68719476736), .iconst (1), .invokestatic 158, .lastore, .aload 0, .dup, .getfield 3168, .iconst (1), .iadd, .putfield 3168, .iinc 2 (1), .goto 14, .aload 0, .getfield 3168, .ireturn]]
/-- OneIsTwoModel.row(II)J -/
def pm_242 : List (List Instr) := [[.iload 1, .i2l, .goto_w (0), .aload 0, .getfield 3168, .iconst (1), .isub, .i2l, .invokestatic 151, .ifCond .eq 25, .iload 2, .i2l, .goto_w (0), .goto_w (2), .invokestatic 151, .ifCond .eq 25], [.aload 0, .getfield 3166, .iconst (3), .iload 1, .imul, .iload 2, .iadd, .laload, .goto 26, .jsr_w (-9), .lreturn]]
/-- OneIsTwoModel.alterRow(IIJ)J -/
def pm_243 : List (List Instr) := [[.iload 1, .i2l, .goto_w (0), .aload 0, .getfield 3168, .iconst (1), .isub, .i2l, .invokestatic 151, .ifCond .eq 16, .iload 2, .i2l, .goto_w (0), .goto_w (2), .invokestatic 151, .ifCond .ne 18], [.jsr_w (-9), .lreturn, .aload 0, .getfield 3166, .iconst (3), .iload 1, .imul, .iload 2, .iadd, .laload, .lstore 5, .aload 0, .getfield 3166, .iconst (3), .iload 1, .imul], [.iload 2, .iadd, .lload 3, .lastore, .lload 5, .lreturn]]
/-- OneIsTwoModel.judge(I)I -/
def pm_244 : List (List Instr) := [[.aload 0, .iload 1, .invokestatic 203, .ifCond .ne 6, .bipush (-1), .ireturn, .aload 0, .iload 1, .invokestatic 210, .iconst (0), .istore 2, .iconst (0), .istore 3, .iload 3, .aload 0, .getfield 3074], [.iconst (1), .iaload, .if_icmp .ge 83, .aload 0, .getfield 3142, .iload 3, .laload, .goto_w (0), .lcmp, .ifCond .le 81, .iload 2, .aload 0, .getfield 3168, .if_icmp .ne 32, .iconst (222), .ireturn], [.aload 0, .getfield 3166, .iconst (3), .iload 2, .imul, .laload, .iload 3, .i2l, .lcmp, .ifCond .ne 76, .aload 0, .getfield 3166, .iconst (3), .iload 2, .imul, .iconst (1)], [.iadd, .laload, .aload 0, .getfield 3142, .iload 3, .laload, .goto_w (68719476736), .iconst (0), .invokestatic 158, .lcmp, .ifCond .ne 76, .aload 0, .getfield 3166, .iconst (3), .iload 2, .imul], [.iconst (2), .iadd, .laload, .aload 0, .getfield 3142, .iload 3, .laload, .goto_w (68719476736), .iconst (1), .invokestatic 158, .lcmp, .ifCond .eq 80, .iload 2, .iconst (1), .iadd, .ireturn], [.iinc 2 (1), .iinc 3 (1), .goto 13, .iload 2, .aload 0, .getfield 3168, .if_icmp .ge 91, .iload 2, .iconst (1), .iadd, .goto 92, .iconst (0), .ireturn]]
/-- OneIsTwoModel.isOne(I)Z -/
def pm_245 : List (List Instr) := [[.iload 0, .i2l, .goto_w (0), .goto_w (3), .invokestatic 151, .freturn]]
/-- OneIsTwoModel.sheet(III)I -/
def pm_246 : List (List Instr) := [[.iload 1, .invokestatic 245, .ifCond .eq 14, .iload 2, .i2l, .jsr_w (-1), .goto_w (4), .invokestatic 151, .ifCond .eq 14, .iload 2, .ifCond .lt 16, .iload 3, .iconst (40), .if_icmp .le 16, .bipush (-1), .ireturn], [.iload 2, .ifCond .lt 22, .iload 3, .ifCond .ge 22, .bipush (-14), .ireturn, .aload 0, .getfield 3174, .iload 1, .iload 2, .iastore, .aload 0, .getfield 3178, .iload 1, .iload 2, .ifCond .ge 34], [.iconst (0), .goto 35, .iload 3, .iastore, .iconst (0), .istore 4, .iload 4, .iconst (40), .if_icmp .ge 52, .aload 0, .getfield 3182, .iconst (40), .iload 1, .imul, .iload 4, .iadd], [.iconst (0), .iastore, .iinc 4 (1), .goto 38, .iconst (1), .ireturn]]
/-- OneIsTwoModel.narrowed(II)I -/
def pm_247 : List (List Instr) := [[.iload 0, .ifCond .ne 5, .iload 1, .i2b, .goto 21, .iload 0, .iconst (1), .if_icmp .ne 11, .iload 1, .i2s, .goto 21, .iload 0, .iconst (4), .if_icmp .ne 20, .iload 1, .ifCond .ne 18], [.iconst (0), .goto 21, .iconst (1), .goto 21, .iload 1, .ireturn]]
/-- OneIsTwoModel.put(III)I -/
def pm_248 : List (List Instr) := [[.iload 1, .invokestatic 245, .ifCond .ne 5, .bipush (-1), .ireturn, .aload 0, .getfield 3174, .iload 1, .iaload, .ifCond .ge 12, .bipush (-11), .ireturn, .iload 2, .i2l, .goto_w (0), .aload 0], [.getfield 3178, .iload 1, .iaload, .iconst (1), .isub, .i2l, .invokestatic 151, .ifCond .ne 26, .bipush (-12), .ireturn, .aload 0, .getfield 3182, .iconst (40), .iload 1, .imul, .iload 2], [.iadd, .aload 0, .getfield 3174, .iload 1, .iaload, .iload 3, .invokestatic 247, .iastore, .iconst (1), .ireturn]]
/-- OneIsTwoModel.taking(II)I -/
def pm_249 : List (List Instr) := [[.aload 0, .getfield 3174, .iload 1, .iaload, .ifCond .ge 7, .bipush (-11), .goto 16, .aload 0, .getfield 3174, .iload 1, .iaload, .iload 2, .if_icmp .eq 15, .bipush (-13), .goto 16, .iconst (0)], [.ireturn]]
/-- OneIsTwoModel.item(III)I -/
def pm_250 : List (List Instr) := [[.iload 1, .invokestatic 245, .ifCond .eq 9, .iload 2, .i2l, .goto_w (0), .goto_w (4), .invokestatic 151, .ifCond .ne 11, .bipush (-1), .ireturn, .aload 0, .iload 1, .iload 2, .invokestatic 249, .istore 4], [.iload 4, .ifCond .eq 20, .iload 4, .ireturn, .iload 3, .i2l, .goto_w (0), .aload 0, .getfield 3178, .iload 1, .iaload, .iconst (1), .isub, .i2l, .invokestatic 151, .ifCond .eq 41], [.aload 0, .getfield 3182, .iconst (40), .iload 1, .imul, .iload 3, .iadd, .iaload, .goto 42, .bipush (-12), .ireturn]]
/-- OneIsTwoModel.debts(IIII)I -/
def pm_251 : List (List Instr) := [[.aload 0, .iload 1, .invokestatic 153, .ifCond .eq 13, .iload 2, .invokestatic 245, .ifCond .eq 13, .iload 4, .i2l, .goto_w (0), .goto_w (12), .invokestatic 151, .ifCond .ne 15, .bipush (-1), .ireturn, .aload 0], [.iload 2, .iconst (1), .invokestatic 249, .istore 5, .iload 5, .ifCond .eq 24, .iload 5, .ireturn, .iconst (0), .istore 6, .iconst (0), .istore 7, .iload 7, .iload 4, .if_icmp .ge 72, .iload 3], [.i2l, .iload 7, .i2l, .ladd, .lstore 8, .lload 8, .goto_w (0), .aload 0, .getfield 3178, .iload 2, .iaload, .iconst (1), .isub, .i2l, .invokestatic 151, .ifCond .ne 50], [.bipush (-12), .ireturn, .iload 6, .aload 0, .iconst (0), .iload 1, .aload 0, .getfield 3182, .iconst (40), .iload 2, .imul, .lload 8, .l2i, .iadd, .iaload, .invokestatic 202], [.ifCond .lt 67, .iconst (1), .goto 68, .iconst (0), .iadd, .istore 6, .iinc 7 (1), .goto 28, .iload 6, .ireturn]]
/-- OneIsTwoModel.shelf(III)I -/
def pm_252 : List (List Instr) := [[.iload 1, .invokestatic 245, .ifCond .eq 28, .iload 2, .i2l, .goto_w (0), .goto_w (3), .invokestatic 151, .ifCond .eq 28, .iload 2, .ifCond .ne 15, .aload 0, .iload 3, .invokestatic 153, .ifCond .eq 28, .iload 2], [.iconst (1), .if_icmp .ne 22, .aload 0, .iload 3, .invokestatic 203, .ifCond .eq 28, .iload 2, .iconst (2), .if_icmp .ne 30, .iload 3, .invokestatic 245, .ifCond .ne 30, .bipush (-1), .ireturn, .iload 2, .iconst (2)], [.if_icmp .ne 40, .aload 0, .getfield 3174, .iload 3, .iaload, .ifCond .lt 40, .iconst (1), .goto 41, .iconst (0), .istore 4, .aload 0, .getfield 3186, .iload 1, .iload 2, .iconst (2), .if_icmp .ne 52], [.iload 4, .ifCond .ne 52, .iconst (3), .goto 53, .iload 2, .iastore, .aload 0, .getfield 3190, .iload 1, .iload 4, .ifCond .eq 64, .aload 0, .getfield 3174, .iload 3, .iaload, .goto 65], [.iload 3, .iastore, .aload 0, .getfield 3194, .iload 1, .iload 4, .ifCond .eq 76, .aload 0, .getfield 3178, .iload 3, .iaload, .goto 77, .iconst (0), .iastore, .iconst (1), .ireturn]]
/-- OneIsTwoModel.takes(I)V -/
def pm_253 : List (List Instr) := [[.aload 0, .getfield 3190, .iload 1, .iaload, .istore 2, .aload 0, .bipush (-1), .putfield 3196, .aload 0, .iload 2, .putfield 3200, .aload 0, .getfield 3186, .iload 1, .iaload, .ifCond .ne 33], [.aload 0, .iload 2, .invokestatic 153, .ifCond .eq 33, .aload 0, .aload 0, .iload 2, .iconst (0), .invokestatic 152, .putfield 3196, .aload 0, .aload 0, .iload 2, .iconst (4), .invokestatic 152, .putfield 3204], [.goto 58, .aload 0, .getfield 3186, .iload 1, .iaload, .iconst (1), .if_icmp .ne 58, .aload 0, .iload 2, .invokestatic 203, .ifCond .eq 58, .aload 0, .iconst (7), .putfield 3196, .aload 0, .aload 0], [.getfield 3074, .iconst (184), .iconst (5), .iload 2, .imul, .iadd, .iconst (2), .iadd, .iaload, .putfield 3204, .return_]]
/-- OneIsTwoModel.isUnder(II)Z -/
def pm_254 : List (List Instr) := [[.iload 0, .iload 1, .if_icmp .eq 17, .iload 1, .ifCond .ne 8, .iload 0, .iconst (7), .if_icmp .lt 17, .iload 1, .iconst (2), .if_icmp .ne 19, .iload 0, .iconst (3), .if_icmp .eq 17, .iload 0, .iconst (5)], [.if_icmp .ne 19, .iconst (1), .goto 20, .iconst (0), .freturn]]
/-- OneIsTwoModel.taken(II)I -/
def pm_255 : List (List Instr) := [[.iload 1, .invokestatic 245, .ifCond .eq 15, .iload 2, .i2l, .goto_w (0), .goto_w (7), .invokestatic 151, .ifCond .ne 17, .iload 2, .i2l, .goto_w (10), .goto_w (14), .invokestatic 151, .ifCond .ne 17, .bipush (-1)], [.ireturn, .aload 0, .iload 1, .invokestatic 253, .aload 0, .getfield 3186, .iload 1, .iaload, .iconst (2), .if_icmp .ne 28, .iconst (1), .goto 29, .iconst (0), .istore 3, .iload 3, .ifCond .ne 37], [.aload 0, .getfield 3196, .ifCond .ge 37, .bipush (-11), .ireturn, .iload 2, .iconst (10), .if_icmp .lt 57, .iload 3, .ifCond .eq 55, .aload 0, .getfield 3190, .iload 1, .iaload, .iload 2, .iconst (10)], [.isub, .if_icmp .ne 55, .aload 0, .getfield 3194, .iload 1, .iaload, .goto 56, .bipush (-13), .ireturn, .iload 3, .ifCond .ne 67, .aload 0, .getfield 3196, .iload 2, .invokestatic 254, .ifCond .eq 67], [.aload 0, .getfield 3200, .goto 68, .bipush (-13), .ireturn]]
/-- OneIsTwoModel.ran(I)V -/
def pm_256 : List (List Instr) := [[.aload 0, .getfield 3212, .iconst (30), .if_icmp .ge 16, .aload 0, .getfield 3210, .aload 0, .getfield 3212, .iload 1, .iastore, .aload 0, .dup, .getfield 3212, .iconst (1), .iadd, .putfield 3212], [.return_]]
/-- OneIsTwoModel.anyBears(I)I -/
def pm_257 : List (List Instr) := [[.aload 0, .iconst (10), .invokestatic 256, .iload 1, .aload 0, .getfield 3204, .iadd, .ireturn]]
/-- OneIsTwoModel.copyBears(I)I -/
def pm_258 : List (List Instr) := [[.aload 0, .iconst (30), .invokestatic 256, .aload 0, .iload 1, .invokestatic 257, .iconst (3), .imul, .ireturn]]
/-- OneIsTwoModel.bears(I)I -/
def pm_259 : List (List Instr) := [[.aload 0, .getfield 3196, .tableswitch 25 2 7 #[3, 7, 25, 3, 25, 17], .aload 0, .iload 1, .invokestatic 258, .ireturn, .aload 0, .iconst (40), .invokestatic 256, .aload 0, .iload 1, .invokestatic 258, .aload 0, .getfield 3200, .isub], [.ireturn, .aload 0, .iconst (80), .invokestatic 256, .aload 0, .getfield 3204, .iload 1, .isub, .ireturn, .aload 0, .iload 1, .invokestatic 257, .ireturn]]
/-- OneIsTwoModel.anyKnows(I)I -/
def pm_260 : List (List Instr) := [[.aload 0, .iconst (11), .invokestatic 256, .aload 0, .iload 1, .invokestatic 259, .iconst (2), .imul, .ireturn]]
/-- OneIsTwoModel.knows(I)I -/
def pm_261 : List (List Instr) := [[.aload 0, .getfield 3196, .tableswitch 41 1 7 #[3, 41, 41, 12, 22, 41, 31], .aload 0, .iconst (20), .invokestatic 256, .aload 0, .iload 1, .invokestatic 260, .iconst (4), .isub, .ireturn, .aload 0, .iconst (60), .invokestatic 256, .aload 0], [.iload 1, .invokestatic 260, .aload 0, .getfield 3204, .ixor, .ireturn, .aload 0, .iconst (51), .invokestatic 256, .iconst (0), .aload 0, .iload 1, .invokestatic 260, .isub, .ireturn, .aload 0], [.iconst (81), .invokestatic 256, .aload 0, .iload 1, .invokestatic 259, .aload 0, .getfield 3200, .imul, .ireturn, .aload 0, .iload 1, .invokestatic 260, .ireturn]]
/-- OneIsTwoModel.anyShares(I)I -/
def pm_262 : List (List Instr) := [[.aload 0, .iconst (12), .invokestatic 256, .aload 0, .aload 0, .getfield 3204, .aload 0, .getfield 3200, .if_icmp .ne 11, .iconst (1), .goto 12, .iconst (0), .putfield 3219, .aload 0, .getfield 3216, .ifCond .eq 18], [.iconst (0), .goto 25, .iload 1, .aload 0, .getfield 3204, .aload 0, .getfield 3200, .isub, .idiv, .ireturn]]
/-- OneIsTwoModel.parts(I)I -/
def pm_263 : List (List Instr) := [[.aload 0, .getfield 3196, .lookupswitch 20 #[(5, 3), (7, 12)], .aload 0, .iconst (50), .invokestatic 256, .aload 0, .iload 1, .iconst (1), .iadd, .invokestatic 262, .ireturn, .aload 0, .iconst (82), .invokestatic 256, .iload 1], [.aload 0, .getfield 3204, .ior, .ireturn, .aload 0, .iload 1, .invokestatic 262, .ireturn]]
/-- OneIsTwoModel.anyTells(I)I -/
def pm_264 : List (List Instr) := [[.aload 0, .iconst (13), .invokestatic 256, .aload 0, .iload 1, .invokestatic 261, .aload 0, .getfield 3200, .ixor, .ireturn]]
/-- OneIsTwoModel.tells(I)I -/
def pm_265 : List (List Instr) := [[.aload 0, .getfield 3196, .tableswitch 40 2 7 #[3, 3, 40, 3, 17, 26], .aload 0, .iconst (31), .invokestatic 256, .aload 0, .iload 1, .invokestatic 264, .istore 2, .iload 2, .aload 0, .aload 0, .getfield 3200, .invokestatic 263, .iadd], [.ireturn, .aload 0, .iconst (70), .invokestatic 256, .aload 0, .iload 1, .invokestatic 264, .iconst (2), .imul, .ireturn, .aload 0, .iconst (83), .invokestatic 256, .aload 0, .iload 1, .invokestatic 261], [.istore 2, .iload 2, .aload 0, .aload 0, .getfield 3200, .invokestatic 263, .isub, .ireturn, .aload 0, .iload 1, .invokestatic 264, .ireturn]]
/-- OneIsTwoModel.act(III)I -/
def pm_266 : List (List Instr) := [[.aload 0, .iconst (0), .putfield 3212, .iload 1, .invokestatic 245, .ifCond .eq 12, .iload 2, .i2l, .goto_w (0), .goto_w (3), .invokestatic 151, .ifCond .ne 14, .iconst (0), .ireturn, .aload 0, .iload 1], [.invokestatic 253, .aload 0, .getfield 3196, .ifCond .ge 22, .iconst (0), .ireturn, .aload 0, .iconst (0), .putfield 3219, .iload 2, .ifCond .ne 31, .aload 0, .iload 3, .invokestatic 259, .goto 48, .iload 2], [.iconst (1), .if_icmp .ne 38, .aload 0, .iload 3, .invokestatic 261, .goto 48, .iload 2, .iconst (2), .if_icmp .ne 45, .aload 0, .iload 3, .invokestatic 263, .goto 48, .aload 0, .iload 3, .invokestatic 265], [.istore 4, .aload 0, .getfield 3216, .ifCond .eq 54, .bipush (-15), .goto 55, .iload 4, .ireturn]]
/-- OneIsTwoModel.trace(I)I -/
def pm_267 : List (List Instr) := [[.iload 1, .i2l, .goto_w (0), .aload 0, .getfield 3212, .iconst (1), .isub, .i2l, .invokestatic 151, .ifCond .eq 15, .aload 0, .getfield 3210, .iload 1, .iaload, .goto 16, .bipush (-3)], [.ireturn]]
/-- OneIsTwoModel.many(I)I -/
def pm_268 : List (List Instr) := [[.iload 1, .tableswitch 49 0 10 #[2, 7, 10, 15, 20, 25, 30, 35, 38, 41, 44], .aload 0, .getfield 3074, .iconst (1), .iaload, .ireturn, .aload 0, .invokestatic 156, .ireturn, .aload 0, .getfield 3074, .iconst (2), .iaload, .ireturn, .aload 0], [.getfield 3074, .iconst (3), .iaload, .ireturn, .aload 0, .getfield 3074, .iconst (4), .iaload, .ireturn, .aload 0, .getfield 3074, .iconst (5), .iaload, .ireturn, .aload 0, .getfield 3074], [.iconst (6), .iaload, .ireturn, .aload 0, .getfield 3168, .ireturn, .aload 0, .getfield 3100, .ireturn, .aload 0, .getfield 3212, .ireturn, .aload 0, .getfield 3074, .iconst (0), .iaload], [.ireturn, .bipush (-1), .ireturn]]
/-- OneIsTwoModel.keep()I -/
def pm_269 : List (List Instr) := [[.iconst (0), .istore 1, .iload 1, .iconst (546), .if_icmp .ge 15, .aload 0, .getfield 3078, .iload 1, .aload 0, .getfield 3074, .iload 1, .iaload, .iastore, .iinc 1 (1), .goto 2, .aload 0], [.iconst (1), .putfield 3087, .iconst (1), .ireturn]]
/-- OneIsTwoModel.again()I -/
def pm_270 : List (List Instr) := [[.aload 0, .getfield 3084, .ifCond .ne 5, .bipush (-3), .ireturn, .iconst (0), .istore 1, .iload 1, .iconst (546), .if_icmp .ge 20, .aload 0, .getfield 3074, .iload 1, .aload 0, .getfield 3078, .iload 1], [.iaload, .iastore, .iinc 1 (1), .goto 7, .iconst (1), .ireturn]]
/-- java/lang/Integer.bitCount(I)I -/
def pm_271 : List (List Instr) := [[.iload 0, .iload 0, .iconst (1), .iushr, .iconst (1431655765), .iand, .isub, .istore 0, .iload 0, .iconst (858993459), .iand, .iload 0, .iconst (2), .iushr, .iconst (858993459), .iand], [.iadd, .istore 0, .iload 0, .iload 0, .iconst (4), .iushr, .iadd, .iconst (252645135), .iand, .istore 0, .iload 0, .iload 0, .iconst (8), .iushr, .iadd, .istore 0], [.iload 0, .iload 0, .iconst (16), .iushr, .iadd, .istore 0, .iload 0, .iconst (63), .iand, .ireturn]]
/-- java/lang/Math.max(JJ)J -/
def pm_272 : List (List Instr) := [[.lload 0, .lload 2, .lcmp, .ifCond .lt 6, .lload 0, .goto 7, .lload 2, .lreturn]]
/-- java/lang/Math.min(JJ)J -/
def pm_273 : List (List Instr) := [[.lload 0, .lload 2, .lcmp, .ifCond .gt 6, .lload 0, .goto 7, .lload 2, .lreturn]]
def pg_m_0 : List (List (List Instr)) := [pm_0, pm_1, pm_2, pm_3, pm_4, pm_5, pm_6, pm_7, pm_8, pm_9, pm_10, pm_11, pm_12, pm_13, pm_14, pm_15]
def pg_m_1 : List (List (List Instr)) := [pm_16, pm_17, pm_18, pm_19, pm_20, pm_21, pm_22, pm_23, pm_24, pm_25, pm_26, pm_27, pm_28, pm_29, pm_30, pm_31]
def pg_m_2 : List (List (List Instr)) := [pm_32, pm_33, pm_34, pm_35, pm_36, pm_37, pm_38, pm_39, pm_40, pm_41, pm_42, pm_43, pm_44, pm_45, pm_46, pm_47]
def pg_m_3 : List (List (List Instr)) := [pm_48, pm_49, pm_50, pm_51, pm_52, pm_53, pm_54, pm_55, pm_56, pm_57, pm_58, pm_59, pm_60, pm_61, pm_62, pm_63]
def pg_m_4 : List (List (List Instr)) := [pm_64, pm_65, pm_66, pm_67, pm_68, pm_69, pm_70, pm_71, pm_72, pm_73, pm_74, pm_75, pm_76, pm_77, pm_78, pm_79]
def pg_m_5 : List (List (List Instr)) := [pm_80, pm_81, pm_82, pm_83, pm_84, pm_85, pm_86, pm_87, pm_88, pm_89, pm_90, pm_91, pm_92, pm_93, pm_94, pm_95]
def pg_m_6 : List (List (List Instr)) := [pm_96, pm_97, pm_98, pm_99, pm_100, pm_101, pm_102, pm_103, pm_104, pm_105, pm_106, pm_107, pm_108, pm_109, pm_110, pm_111]
def pg_m_7 : List (List (List Instr)) := [pm_112, pm_113, pm_114, pm_115, pm_116, pm_117, pm_118, pm_119, pm_120, pm_121, pm_122, pm_123, pm_124, pm_125, pm_126, pm_127]
def pg_m_8 : List (List (List Instr)) := [pm_128, pm_129, pm_130, pm_131, pm_132, pm_133, pm_134, pm_135, pm_136, pm_137, pm_138, pm_139, pm_140, pm_141, pm_142, pm_143]
def pg_m_9 : List (List (List Instr)) := [pm_144, pm_145, pm_146, pm_147, pm_148, pm_149, pm_150, pm_151, pm_152, pm_153, pm_154, pm_155, pm_156, pm_157, pm_158, pm_159]
def pg_m_10 : List (List (List Instr)) := [pm_160, pm_161, pm_162, pm_163, pm_164, pm_165, pm_166, pm_167, pm_168, pm_169, pm_170, pm_171, pm_172, pm_173, pm_174, pm_175]
def pg_m_11 : List (List (List Instr)) := [pm_176, pm_177, pm_178, pm_179, pm_180, pm_181, pm_182, pm_183, pm_184, pm_185, pm_186, pm_187, pm_188, pm_189, pm_190, pm_191]
def pg_m_12 : List (List (List Instr)) := [pm_192, pm_193, pm_194, pm_195, pm_196, pm_197, pm_198, pm_199, pm_200, pm_201, pm_202, pm_203, pm_204, pm_205, pm_206, pm_207]
def pg_m_13 : List (List (List Instr)) := [pm_208, pm_209, pm_210, pm_211, pm_212, pm_213, pm_214, pm_215, pm_216, pm_217, pm_218, pm_219, pm_220, pm_221, pm_222, pm_223]
def pg_m_14 : List (List (List Instr)) := [pm_224, pm_225, pm_226, pm_227, pm_228, pm_229, pm_230, pm_231, pm_232, pm_233, pm_234, pm_235, pm_236, pm_237, pm_238, pm_239]
def pg_m_15 : List (List (List Instr)) := [pm_240, pm_241, pm_242, pm_243, pm_244, pm_245, pm_246, pm_247, pm_248, pm_249, pm_250, pm_251, pm_252, pm_253, pm_254, pm_255]
def pg_m_16 : List (List (List Instr)) := [pm_256, pm_257, pm_258, pm_259, pm_260, pm_261, pm_262, pm_263, pm_264, pm_265, pm_266, pm_267, pm_268, pm_269, pm_270, pm_271]
def pg_m_17 : List (List (List Instr)) := [pm_272, pm_273]
def pg_m : Nat → List (List Instr) := fun m => pg_at [] (pg_at [] [pg_m_0, pg_m_1, pg_m_2, pg_m_3, pg_m_4, pg_m_5, pg_m_6, pg_m_7, pg_m_8, pg_m_9, pg_m_10, pg_m_11, pg_m_12, pg_m_13, pg_m_14, pg_m_15, pg_m_16, pg_m_17] (m / 16)) (m % 16)
def pg_cd (m i : Nat) : Instr := pg_at .nop (pg_at [] (pg_m m) (i / 16)) (i % 16)
def pg_sg_0 : List (Nat × Nat) := [(1, 0), (1, 0), (6, 1), (4, 1), (2, 1), (1, 0), (6, 0), (1, 0), (4, 0), (1, 0), (1, 3), (1, 0), (2, 0), (3, 0), (2, 0), (3, 1)]
def pg_sg_1 : List (Nat × Nat) := [(3, 1), (2, 1), (2, 0), (2, 0), (1, 1), (1, 1), (2, 1), (2, 1), (2, 1), (1, 1), (1, 1), (1, 0), (1, 0), (2, 1), (2, 1), (1, 1)]
def pg_sg_2 : List (Nat × Nat) := [(1, 1), (2, 0), (2, 2), (3, 2), (2, 1), (2, 0), (3, 0), (3, 0), (2, 0), (1, 0), (2, 1), (3, 1), (1, 1), (1, 1), (3, 1), (2, 1)]
def pg_sg_3 : List (Nat × Nat) := [(2, 1), (2, 1), (2, 1), (2, 1), (2, 1), (2, 1), (1, 0), (3, 0), (2, 0), (2, 0), (2, 1), (3, 1), (3, 1), (1, 0), (5, 0), (1, 0)]
def pg_sg_4 : List (Nat × Nat) := [(2, 0), (2, 1), (2, 1), (2, 1), (2, 1), (2, 1), (1, 1), (1, 1), (1, 1), (1, 1), (6, 1), (3, 1), (2, 1), (2, 1), (3, 1), (3, 0)]
def pg_sg_5 : List (Nat × Nat) := [(3, 0), (4, 1), (2, 1), (3, 1), (2, 0), (2, 0), (6, 1), (3, 1), (3, 1), (2, 1), (2, 1), (1, 0), (2, 1), (1, 1), (6, 1), (2, 1)]
def pg_sg_6 : List (Nat × Nat) := [(3, 1), (2, 1), (3, 1), (2, 1), (3, 1), (3, 1), (1, 1), (3, 1), (4, 1), (3, 1), (4, 2), (4, 2), (2, 1), (3, 1), (2, 1), (3, 1)]
def pg_sg_7 : List (Nat × Nat) := [(2, 1), (3, 1), (2, 1), (3, 1), (2, 1), (3, 2), (3, 1), (4, 2), (2, 1), (1, 1), (2, 1), (3, 2), (4, 2), (2, 1), (3, 1), (3, 1)]
def pg_sg_8 : List (Nat × Nat) := [(4, 1), (4, 1), (4, 1), (5, 1), (4, 1), (3, 1), (4, 1), (2, 1), (2, 1), (1, 1), (1, 1), (4, 1), (3, 1), (2, 1), (2, 1), (2, 1)]
def pg_sg_9 : List (Nat × Nat) := [(2, 1), (1, 1), (1, 1), (1, 1), (1, 1), (1, 1), (1, 0), (3, 1), (3, 1), (2, 1), (2, 1), (2, 1), (1, 1), (2, 2), (3, 2), (3, 0)]
def pg_sg_10 : List (Nat × Nat) := [(2, 1), (1, 1), (5, 1), (1, 1), (6, 1), (6, 1), (2, 1), (3, 1), (3, 1), (2, 0), (2, 1), (2, 1), (2, 1), (3, 1), (2, 1), (2, 1)]
def pg_sg_11 : List (Nat × Nat) := [(3, 1), (3, 1), (2, 1), (1, 1), (1, 1), (1, 0), (2, 0), (2, 0), (3, 1), (7, 1), (1, 1), (2, 1), (1, 1), (1, 0), (1, 0), (1, 0)]
def pg_sg_12 : List (Nat × Nat) := [(1, 0), (1, 0), (1, 1), (3, 1), (2, 1), (2, 1), (4, 1), (3, 1), (3, 1), (4, 1), (4, 1), (2, 1), (3, 1), (2, 0), (1, 0), (3, 1)]
def pg_sg_13 : List (Nat × Nat) := [(1, 2), (3, 0), (2, 0), (4, 2), (3, 2), (4, 2), (2, 1), (2, 1), (2, 1), (3, 1), (2, 1), (2, 1), (2, 1), (3, 1), (1, 1), (2, 1)]
def pg_sg_14 : List (Nat × Nat) := [(2, 1), (4, 1), (2, 0), (2, 1), (3, 1), (2, 1), (2, 0), (2, 1), (3, 1), (2, 1), (1, 0), (1, 0), (3, 2), (3, 2), (4, 2), (2, 1)]
def pg_sg_15 : List (Nat × Nat) := [(1, 1), (2, 1), (3, 2), (4, 2), (2, 1), (1, 1), (4, 1), (2, 1), (4, 1), (3, 1), (4, 1), (5, 1), (4, 1), (2, 0), (2, 1), (3, 1)]
def pg_sg_16 : List (Nat × Nat) := [(2, 0), (2, 1), (2, 1), (2, 1), (2, 1), (2, 1), (2, 1), (2, 1), (2, 1), (2, 1), (4, 1), (2, 1), (2, 1), (1, 1), (1, 1), (1, 1)]
def pg_sg_17 : List (Nat × Nat) := [(2, 2), (2, 2)]
def pg_sg : Nat → Nat × Nat := fun m => pg_at (0, 0) (pg_at [] [pg_sg_0, pg_sg_1, pg_sg_2, pg_sg_3, pg_sg_4, pg_sg_5, pg_sg_6, pg_sg_7, pg_sg_8, pg_sg_9, pg_sg_10, pg_sg_11, pg_sg_12, pg_sg_13, pg_sg_14, pg_sg_15, pg_sg_16, pg_sg_17] (m / 16)) (m % 16)
def pg_mx_0 : List (Nat) := [1, 1, 8, 5, 2, 1, 6, 1, 4, 1, 1, 1, 3, 3, 2, 4]
def pg_mx_1 : List (Nat) := [7, 5, 2, 2, 1, 3, 3, 3, 4, 4, 2, 1, 1, 2, 6, 1]
def pg_mx_2 : List (Nat) := [1, 2, 8, 6, 3, 6, 3, 6, 2, 5, 4, 4, 7, 4, 4, 3]
def pg_mx_3 : List (Nat) := [4, 2, 4, 2, 6, 7, 1, 3, 2, 2, 7, 8, 5, 1, 5, 2]
def pg_mx_4 : List (Nat) := [4, 2, 2, 2, 2, 2, 3, 1, 1, 1, 8, 4, 2, 2, 4, 3]
def pg_mx_5 : List (Nat) := [3, 4, 2, 3, 3, 3, 7, 3, 4, 4, 4, 2, 2, 1, 6, 2]
def pg_mx_6 : List (Nat) := [3, 2, 4, 4, 5, 5, 2, 3, 4, 4, 4, 4, 2, 3, 2, 3]
def pg_mx_7 : List (Nat) := [2, 4, 2, 3, 3, 10, 4, 8, 3, 4, 3, 3, 7, 4, 3, 3]
def pg_mx_8 : List (Nat) := [5, 4, 4, 7, 4, 5, 7, 2, 2, 1, 1, 4, 3, 3, 2, 2]
def pg_mx_9 : List (Nat) := [2, 1, 1, 1, 1, 1, 1, 6, 3, 2, 2, 2, 3, 10, 7, 4]
def pg_mx_10 : List (Nat) := [2, 1, 7, 1, 8, 6, 2, 4, 3, 2, 2, 3, 2, 3, 4, 4]
def pg_mx_11 : List (Nat) := [6, 5, 2, 1, 1, 3, 2, 2, 3, 8, 1, 2, 1, 3, 3, 1]
def pg_mx_12 : List (Nat) := [1, 6, 2, 3, 6, 3, 7, 3, 3, 5, 4, 2, 3, 4, 2, 8]
def pg_mx_13 : List (Nat) := [2, 9, 3, 4, 6, 4, 2, 2, 6, 3, 2, 3, 6, 6, 3, 6]
def pg_mx_14 : List (Nat) := [5, 9, 4, 4, 4, 2, 3, 3, 4, 6, 2, 2, 5, 10, 8, 3]
def pg_mx_15 : List (Nat) := [4, 3, 3, 7, 4, 1, 5, 2, 4, 3, 5, 10, 5, 3, 2, 4]
def pg_mx_16 : List (Nat) := [2, 2, 2, 2, 2, 2, 2, 2, 2, 3, 5, 2, 2, 2, 2, 1]
def pg_mx_17 : List (Nat) := [4, 4]
def pg_mx : Nat → Nat := fun m => pg_at 0 (pg_at [] [pg_mx_0, pg_mx_1, pg_mx_2, pg_mx_3, pg_mx_4, pg_mx_5, pg_mx_6, pg_mx_7, pg_mx_8, pg_mx_9, pg_mx_10, pg_mx_11, pg_mx_12, pg_mx_13, pg_mx_14, pg_mx_15, pg_mx_16, pg_mx_17] (m / 16)) (m % 16)
/-- the cuts of a method: places, with the locals that are dead there -/
def pg_cs_0 : List (List (Nat × List Nat)) := [[], [], [], [(23, [4])], [], [], [], [], [], [], [], [], [], [], [], [(5, [])]]
def pg_cs_1 : List (List (Nat × List Nat)) := [[(7, [5, 6])], [(28, [1, 4])], [], [], [], [(31, [2]), (50, [])], [(8, [])], [(8, [])], [(4, []), (22, [3]), (53, [1, 3])], [], [], [(4, []), (46, [])], [(3, [])], [], [(6, [5])], []]
def pg_cs_2 : List (List (Nat × List Nat)) := [[], [], [(6, [0, 1])], [(4, [])], [(2, [1])], [(8, [4, 5]), (29, [4, 5])], [], [], [], [(2, [2, 3, 4]), (56, [2])], [(4, [])], [(4, [])], [(21, [6])], [(4, [3]), (11, [])], [(2, [])], []]
def pg_cs_3 : List (List (Nat × List Nat)) := [[(4, [1])], [], [(6, [])], [], [(17, [])], [(8, [6])], [], [], [], [], [(4, [4, 5, 6])], [(7, [2, 5, 6, 7])], [], [], [], [(40, []), (56, []), (72, []), (88, [])]]
def pg_cs_4 : List (List (Nat × List Nat)) := [[(30, [3]), (47, [3]), (71, [3]), (99, [3])], [], [], [], [], [], [(4, [])], [], [], [], [], [], [], [], [], []]
def pg_cs_5 : List (List (Nat × List Nat)) := [[], [], [], [], [(6, [1])], [], [], [], [(25, [0, 1])], [(4, [1])], [(6, [1])], [(89, []), (103, [])], [], [], [(21, [])], []]
def pg_cs_6 : List (List (Nat × List Nat)) := [[], [], [(42, [0, 1, 2, 3])], [(11, [])], [(28, [0, 1, 2])], [(20, [])], [(10, [])], [], [], [], [], [], [], [], [], []]
def pg_cs_7 : List (List (Nat × List Nat)) := [[], [], [], [], [], [(31, [7, 8, 9])], [], [(40, [6, 7]), (66, [1, 2, 4])], [], [(28, [1])], [(16, [1])], [], [], [(18, [1])], [], []]
def pg_cs_8 : List (List (Nat × List Nat)) := [[(34, [])], [], [], [(35, [])], [], [(11, [3, 4]), (14, [0, 1, 2, 3, 4]), (47, [2, 3, 4])], [], [], [], [], [], [], [], [], [], []]
def pg_cs_9 : List (List (Nat × List Nat)) := [[], [], [], [], [], [], [], [], [], [], [], [], [(4, [])], [(11, [0, 1, 2, 3, 8, 9])], [], []]
def pg_cs_10 : List (List (Nat × List Nat)) := [[], [], [], [], [], [(13, []), (22, [])], [], [], [], [], [], [(2, [1])], [], [(10, [0, 1, 2]), (56, [0, 1, 2])], [(6, [1])], [(10, [])]]
def pg_cs_11 : List (List (Nat × List Nat)) := [[(22, [1, 2])], [(18, [])], [], [], [], [(4, [1, 2]), (43, [])], [], [], [], [(17, [7]), (57, [0, 1, 2, 3, 4, 5, 6, 7])], [], [(47, [0, 1]), (82, [0, 1]), (117, [0, 1]), (163, [0, 1]), (187, [0, 1]), (211, [0, 1])], [], [(15, [])], [(2, [2]), (42, [2]), (61, [2]), (86, []), (89, []), (97, [2])], [(2, [])]]
def pg_cs_12 : List (List (Nat × List Nat)) := [[(2, [])], [(25, [3, 4, 5]), (32, [4, 5]), (48, [4, 5]), (56, [5]), (66, [5]), (97, [1, 3, 4])], [(17, [1]), (53, []), (78, [])], [], [(15, [1, 5])], [(7, [])], [(56, [2]), (73, [2, 6]), (86, [2, 4, 5, 6]), (104, [2, 4, 5, 6])], [], [], [], [], [], [], [], [(2, [])], [(37, [1, 5, 6, 7]), (53, [1, 6, 7]), (70, [1, 3, 5, 6, 7])]]
def pg_cs_13 : List (List (Nat × List Nat)) := [[], [(120, [3, 6, 7, 8])], [(4, []), (30, [])], [], [(4, [])], [], [], [], [(4, [4, 5]), (28, [5]), (70, [4, 5]), (101, [4])], [], [], [(2, [1])], [(29, [1, 2, 3])], [(19, [5])], [(4, [0])], [(4, [4, 5]), (12, [5])]]
def pg_cs_14 : List (List (Nat × List Nat)) := [[(10, [3, 4]), (22, [3, 4]), (34, []), (69, [4])], [(93, [0, 1, 3, 4, 8]), (109, [0, 1, 2, 3, 4, 6, 7])], [(31, [1])], [(4, [])], [], [], [(13, [])], [], [], [(23, [5])], [(2, [])], [(2, [])], [(19, [3, 4]), (38, [3, 4]), (87, [1, 2, 3])], [(31, [8, 9])], [(58, [6, 7]), (81, [1, 2, 4])], []]
def pg_cs_15 : List (List (Nat × List Nat)) := [[(30, [1])], [(14, [1])], [], [], [(13, [1])], [], [(22, [4]), (38, [2, 3])], [], [], [], [], [(28, [5, 8, 9])], [(22, [4]), (30, [4]), (41, [4]), (53, [2]), (65, [2])], [], [], [(29, [3]), (37, [])]]
def pg_cs_16 : List (List (Nat × List Nat)) := [[], [], [], [], [], [], [], [], [], [], [(48, [1, 2, 3, 4])], [], [], [(2, [])], [(7, [])], []]
def pg_cs_17 : List (List (Nat × List Nat)) := [[], []]
def pg_cs : Nat → List (Nat × List Nat) := fun m => pg_at [] (pg_at [] [pg_cs_0, pg_cs_1, pg_cs_2, pg_cs_3, pg_cs_4, pg_cs_5, pg_cs_6, pg_cs_7, pg_cs_8, pg_cs_9, pg_cs_10, pg_cs_11, pg_cs_12, pg_cs_13, pg_cs_14, pg_cs_15, pg_cs_16, pg_cs_17] (m / 16)) (m % 16)
def pg_fd (i : Nat) : List (Nat × List Nat) → Option (List Nat)
  | [] => none
  | q :: l => match Nat.beq i q.1 with
    | true => some q.2
    | false => pg_fd i l
def pg_ct (m i : Nat) : Option (List Nat) := pg_fd i (pg_cs m)
/-! ===== END by program ===== -/
end
section
/-! ===== THE SMALL MACHINE: one method's body at a time over numbered cells; a call is a function f (method, arguments, state) ===== -/
/-- cells, slots in all; of a cell its kind, its length; its references, ints, longs by place -/
abbrev am_S : Type := Nat × Nat × (Nat → Nat) × (Nat → Nat) × (Nat → Nat → Option Nat) × (Nat → Nat → Int32) × (Nat → Nat → Int64)
abbrev am_R : Type := Option (Option Value × am_S)
def am_n (S : am_S) : Nat := S.1
def am_w (S : am_S) : Nat := S.2.1
def am_c (S : am_S) : Nat → Nat := S.2.2.1
def am_l (S : am_S) : Nat → Nat := S.2.2.2.1
def am_r (S : am_S) : Nat → Nat → Option Nat := S.2.2.2.2.1
def am_i (S : am_S) : Nat → Nat → Int32 := S.2.2.2.2.2.1
def am_j (S : am_S) : Nat → Nat → Int64 := S.2.2.2.2.2.2
def am_up {α : Type} (f : Nat → α) (k : Nat) (v : α) : Nat → α := fun j => if j = k then v else f j
def am_wi (S : am_S) (a : Nat) (g : Nat → Int32) : am_S := (am_n S, am_w S, am_c S, am_l S, am_r S, am_up (am_i S) a g, am_j S)
def am_wj (S : am_S) (a : Nat) (g : Nat → Int64) : am_S := (am_n S, am_w S, am_c S, am_l S, am_r S, am_i S, am_up (am_j S) a g)
def am_wr (S : am_S) (a : Nat) (g : Nat → Option Nat) : am_S := (am_n S, am_w S, am_c S, am_l S, am_up (am_r S) a g, am_i S, am_j S)
def am_pi (S : am_S) (a k : Nat) (v : Int32) : am_S := am_wi S a (am_up (am_i S a) k v)
def am_pj (S : am_S) (a k : Nat) (v : Int64) : am_S := am_wj S a (am_up (am_j S a) k v)
def am_pr (S : am_S) (a k : Nat) (v : Nat) : am_S := am_wr S a (am_up (am_r S a) k (some v))
def am_cp (S : am_S) (a b sp dp n : Nat) : am_S := am_wi S b (va_cpy (am_i S a) (am_i S b) sp dp n)
/-- a new cell of kind c with n places -/
def am_mk (S : am_S) (c n : Nat) : am_S := (am_n S + 1, am_w S + n, am_up (am_c S) (am_n S) c, am_up (am_l S) (am_n S) n, am_up (am_r S) (am_n S) (fun _ => none), am_up (am_i S) (am_n S) (fun _ => 0), am_up (am_j S) (am_n S) (fun _ => 0))
/-- k new rows of kind c with n places each, held by the cell a from place p on -/
def am_rows (a c n : Nat) : Nat → Nat → am_S → am_S
  | 0, _, S => S
  | k + 1, p, S => am_rows a c n k (p + 1) (am_pr (am_mk S c n) a p (am_n S))
/-- the locals: by place; what isn't known is null -/
def am_nth : List Value → Nat → Value
  | [], _ => .null
  | a :: _, 0 => a
  | _ :: l, k + 1 => am_nth l k
def am_un (v : Value) : Value := match v with
  | .long _ => .null
  | .double _ => .null
  | v => v
def am_s1 : List Value → Nat → Value → List Value
  | [], _, _ => []
  | _ :: l, 0, v => v :: l
  | a :: l, 1, v => am_un a :: am_s1 l 0 v
  | a :: l, k + 2, v => a :: am_s1 l (k + 1) v
def am_s2 : List Value → Nat → Value → List Value
  | [], _, _ => []
  | [a], _, _ => [a]
  | _ :: _ :: l, 0, v => v :: .null :: l
  | a :: b :: l, 1, v => am_un a :: am_s2 (b :: l) 0 v
  | a :: b :: l, k + 2, v => a :: am_s2 (b :: l) (k + 1) v
def am_k1 : List Value → Nat → List Value
  | [], _ => []
  | _ :: l, 0 => .null :: l
  | a :: l, k + 1 => a :: am_k1 l k
def am_kl : List Nat → List Value → List Value
  | [], l => l
  | k :: ks, l => am_kl ks (am_k1 l k)
def am_cat : List Value → Nat
  | [] => 0
  | v :: l => v.category + am_cat l
/-- what a call gives, by what it answers -/
def am_bV (o : am_R) (k : am_S → am_R) : am_R := match o with
  | some (none, S) => k S
  | _ => none
def am_bI (o : am_R) (k : Int32 → am_S → am_R) : am_R := match o with
  | some (some (.int x), S) => k x S
  | _ => none
def am_bJ (o : am_R) (k : Int64 → am_S → am_R) : am_R := match o with
  | some (some (.long x), S) => k x S
  | _ => none
def am_bA (o : am_R) (k : Nat → am_S → am_R) : am_R := match o with
  | some (some (.ref x), S) => k x S
  | _ => none
def am_bq (o : Option Nat) (k : Nat → am_R) : am_R := match o with
  | some x => k x
  | none => none
def am_lt (v : am_S) (k : am_S → am_R) : am_R := k v
def am_br (c : Jvm.ClassFile.Cond) (x y : Int32) (a b : am_R) : am_R := match c with
  | .eq => if x = y then a else b
  | .ne => if x = y then b else a
  | .lt => if x < y then a else b
  | .ge => if x < y then b else a
  | .gt => if y < x then a else b
  | .le => if y < x then b else a
def am_sw (x : Int32) (d : am_R) (K : Nat → am_R) : Nat → List Int → am_R
  | _, [] => d
  | lo, t :: ts => if x = nI lo then K t.toNat else am_sw x d K (lo + 1) ts
def am_lk (x : Int32) (d : am_R) (K : Nat → am_R) : List (Int × Int) → am_R
  | [] => d
  | t :: ts => if x = nI t.1.toNat then K t.2.toNat else am_lk x d K ts
def am_inc (x : Int32) (c : Int) : Int32 := match c with
  | .ofNat k => x + nI k
  | .negSucc k => x - nI (k + 1)
/-- a boolean as a field, an answer keeps it -/
def am_nb (x : Int32) : Int32 := vp_nar .boolean x

/-- one instruction (written with our own numbers: a place in the method's list for a jump, (kind * 64 + field) * 4 + type for a field, a method's number for a call): where it goes on, or what it answers; none: it doesn't go on -/
def am_stp (f : Nat → List Value → am_S → am_R) (K : Nat → List Value → List Value → am_S → am_R) (ins : Instr) (i : Nat) (lo st : List Value) (S : am_S) : am_R :=
  match ins with
  | .iconst v => K (i + 1) lo (.int (nI v.toNat) :: st) S
  | .bipush v => K (i + 1) lo (.int (Int32.ofInt v) :: st) S
  | .goto_w v => K (i + 1) lo (.long (lN v.toNat) :: st) S
  | .jsr_w v => K (i + 1) lo (.long (Int64.ofInt v) :: st) S
  | .ldc k => K (i + 1) lo (.ref (1000000 + k) :: st) S
  | .getstatic k => K (i + 1) lo (.ref (2000000 + k) :: st) S
  | .iload k => (match am_nth lo k with | .int x => K (i + 1) lo (.int x :: st) S | _ => none)
  | .lload k => (match am_nth lo k with | .long x => K (i + 1) lo (.long x :: st) S | _ => none)
  | .aload k => (match am_nth lo k with | .ref x => K (i + 1) lo (.ref x :: st) S | _ => none)
  | .istore k => (match st with | .int x :: st => K (i + 1) (am_s1 lo k (.int x)) st S | _ => none)
  | .lstore k => (match st with | .long x :: st => K (i + 1) (am_s2 lo k (.long x)) st S | _ => none)
  | .astore k => (match st with | .ref x :: st => K (i + 1) (am_s1 lo k (.ref x)) st S | _ => none)
  | .iinc k c => (match am_nth lo k with | .int x => K (i + 1) (am_s1 lo k (.int (am_inc x c))) st S | _ => none)
  | .iadd => (match st with | .int y :: .int x :: st => K (i + 1) lo (.int (x + y) :: st) S | _ => none)
  | .isub => (match st with | .int y :: .int x :: st => K (i + 1) lo (.int (x - y) :: st) S | _ => none)
  | .imul => (match st with | .int y :: .int x :: st => K (i + 1) lo (.int (x * y) :: st) S | _ => none)
  | .iand => (match st with | .int y :: .int x :: st => K (i + 1) lo (.int (x &&& y) :: st) S | _ => none)
  | .ior => (match st with | .int y :: .int x :: st => K (i + 1) lo (.int (x ||| y) :: st) S | _ => none)
  | .ixor => (match st with | .int y :: .int x :: st => K (i + 1) lo (.int (x ^^^ y) :: st) S | _ => none)
  | .ishl => (match st with | .int y :: .int x :: st => K (i + 1) lo (.int (x <<< (y &&& 31)) :: st) S | _ => none)
  | .ishr => (match st with | .int y :: .int x :: st => K (i + 1) lo (.int (x >>> (y &&& 31)) :: st) S | _ => none)
  | .iushr => (match st with | .int y :: .int x :: st => K (i + 1) lo (.int (x.toUInt32 >>> (y &&& 31).toUInt32).toInt32 :: st) S | _ => none)
  | .idiv => (match st with | .int y :: .int x :: st => (if y = 0 then none else K (i + 1) lo (.int (x / y) :: st) S) | _ => none)
  | .irem => (match st with | .int y :: .int x :: st => (if y = 0 then none else K (i + 1) lo (.int (x - x / y * y) :: st) S) | _ => none)
  | .ladd => (match st with | .long y :: .long x :: st => K (i + 1) lo (.long (x + y) :: st) S | _ => none)
  | .lsub => (match st with | .long y :: .long x :: st => K (i + 1) lo (.long (x - y) :: st) S | _ => none)
  | .lmul => (match st with | .long y :: .long x :: st => K (i + 1) lo (.long (x * y) :: st) S | _ => none)
  | .land => (match st with | .long y :: .long x :: st => K (i + 1) lo (.long (x &&& y) :: st) S | _ => none)
  | .lor => (match st with | .long y :: .long x :: st => K (i + 1) lo (.long (x ||| y) :: st) S | _ => none)
  | .lneg => (match st with | .long x :: st => K (i + 1) lo (.long (0 - x) :: st) S | _ => none)
  | .ldiv => (match st with | .long y :: .long x :: st => (if y = 0 then none else K (i + 1) lo (.long (x / y) :: st) S) | _ => none)
  | .lrem => (match st with | .long y :: .long x :: st => (if y = 0 then none else K (i + 1) lo (.long (x - x / y * y) :: st) S) | _ => none)
  | .lshl => (match st with | .int y :: .long x :: st => K (i + 1) lo (.long (x <<< (y.toInt64 &&& 63)) :: st) S | _ => none)
  | .lshr => (match st with | .int y :: .long x :: st => K (i + 1) lo (.long (x >>> (y.toInt64 &&& 63)) :: st) S | _ => none)
  | .lushr => (match st with | .int y :: .long x :: st => K (i + 1) lo (.long (x.toUInt64 >>> (y.toInt64 &&& 63).toUInt64).toInt64 :: st) S | _ => none)
  | .lcmp => (match st with | .long y :: .long x :: st => K (i + 1) lo (.int (lg_cmp x y) :: st) S | _ => none)
  | .i2l => (match st with | .int x :: st => K (i + 1) lo (.long x.toInt64 :: st) S | _ => none)
  | .l2i => (match st with | .long x :: st => K (i + 1) lo (.int x.toInt32 :: st) S | _ => none)
  | .i2b => (match st with | .int x :: st => K (i + 1) lo (.int x.toInt8.toInt32 :: st) S | _ => none)
  | .i2s => (match st with | .int x :: st => K (i + 1) lo (.int x.toInt16.toInt32 :: st) S | _ => none)
  | .dup => (match st with | v :: st => (if v.category = 1 then K (i + 1) lo (v :: v :: st) S else none) | _ => none)
  | .dup2 => (match st with | v :: w :: st => (if v.category = 1 ∧ w.category = 1 then K (i + 1) lo (v :: w :: v :: w :: st) S else none) | _ => none)
  | .pop => (match st with | v :: st => (if v.category = 1 then K (i + 1) lo st S else none) | _ => none)
  | .goto t => K t.toNat lo st S
  | .if_icmp c t => (match st with | .int y :: .int x :: st => am_br c x y (K t.toNat lo st S) (K (i + 1) lo st S) | _ => none)
  | .ifCond c t => (match st with | .int x :: st => am_br c x 0 (K t.toNat lo st S) (K (i + 1) lo st S) | _ => none)
  | .tableswitch d l _ ts => (match st with | .int x :: st => am_sw x (K d.toNat lo st S) (fun t => K t lo st S) l.toNat ts.toList | _ => none)
  | .lookupswitch d ps => (match st with | .int x :: st => am_lk x (K d.toNat lo st S) (fun t => K t lo st S) ps.toList | _ => none)
  | .getfield k => (match st with
    | .ref a :: st => (if am_c S a = k / 256 then (match k % 4 with
      | 0 => K (i + 1) lo (.int (am_i S a (k / 4 % 64)) :: st) S
      | 1 => K (i + 1) lo (.long (am_j S a (k / 4 % 64)) :: st) S
      | _ => am_bq (am_r S a (k / 4 % 64)) fun r => K (i + 1) lo (.ref r :: st) S) else none)
    | _ => none)
  | .putfield k => (match st with
    | .int x :: .ref a :: st => (if am_c S a = k / 256 then (match k % 4 with
      | 0 => K (i + 1) lo st (am_pi S a (k / 4 % 64) x)
      | 3 => K (i + 1) lo st (am_pi S a (k / 4 % 64) (am_nb x))
      | _ => none) else none)
    | .long x :: .ref a :: st => (if am_c S a = k / 256 then (match k % 4 with
      | 1 => K (i + 1) lo st (am_pj S a (k / 4 % 64) x)
      | _ => none) else none)
    | .ref x :: .ref a :: st => (if am_c S a = k / 256 then (match k % 4 with
      | 2 => K (i + 1) lo st (am_pr S a (k / 4 % 64) x)
      | _ => none) else none)
    | _ => none)
  | .iaload => (match st with | .int x :: .ref a :: st => (if am_c S a = 100 then (if x < 0 ∨ am_l S a ≤ x.toNatClampNeg then none else K (i + 1) lo (.int (am_i S a x.toNatClampNeg) :: st) S) else none) | _ => none)
  | .baload => (match st with | .int x :: .ref a :: st => (if am_c S a = 101 then (if x < 0 ∨ am_l S a ≤ x.toNatClampNeg then none else K (i + 1) lo (.int (am_i S a x.toNatClampNeg) :: st) S) else none) | _ => none)
  | .laload => (match st with | .int x :: .ref a :: st => (if am_c S a = 102 then (if x < 0 ∨ am_l S a ≤ x.toNatClampNeg then none else K (i + 1) lo (.long (am_j S a x.toNatClampNeg) :: st) S) else none) | _ => none)
  | .aaload => (match st with | .int x :: .ref a :: st => (if 103 ≤ am_c S a ∧ am_c S a < 200 then (if x < 0 ∨ am_l S a ≤ x.toNatClampNeg then none else am_bq (am_r S a x.toNatClampNeg) fun r => K (i + 1) lo (.ref r :: st) S) else none) | _ => none)
  | .saload => (match st with | .int x :: .ref a :: st => (if am_c S a = 998 then (if x < 0 ∨ (am_i S (a + 1000000) 0).toNatClampNeg ≤ x.toNatClampNeg then none else K (i + 1) lo (.int (am_i S a x.toNatClampNeg) :: st) S) else none) | _ => none)
  | .iastore => (match st with | .int v :: .int x :: .ref a :: st => (if am_c S a = 100 then (if x < 0 ∨ am_l S a ≤ x.toNatClampNeg then none else K (i + 1) lo st (am_pi S a x.toNatClampNeg v)) else none) | _ => none)
  | .bastore => (match st with | .int v :: .int x :: .ref a :: st => (if am_c S a = 101 then (if x < 0 ∨ am_l S a ≤ x.toNatClampNeg then none else K (i + 1) lo st (am_pi S a x.toNatClampNeg v.toInt8.toInt32)) else none) | _ => none)
  | .lastore => (match st with | .long v :: .int x :: .ref a :: st => (if am_c S a = 102 then (if x < 0 ∨ am_l S a ≤ x.toNatClampNeg then none else K (i + 1) lo st (am_pj S a x.toNatClampNeg v)) else none) | _ => none)
  | .aastore => (match st with | .ref v :: .int x :: .ref a :: st => (if am_c S a = 103 + am_c S v ∧ am_c S v < 50 then (if x < 0 ∨ am_l S a ≤ x.toNatClampNeg then none else K (i + 1) lo st (am_pr S a x.toNatClampNeg v)) else none) | _ => none)
  | .arraylength => (match st with | .ref a :: st => (if 100 ≤ am_c S a ∧ am_c S a < 200 then K (i + 1) lo (.int (nI (am_l S a)) :: st) S else none) | _ => none)
  | .sastore => (match st with | .ref a :: st => (if am_c S a = 998 then K (i + 1) lo (.int (am_i S (a + 1000000) 0) :: st) S else none) | _ => none)
  | .new k => K (i + 1) lo (.ref (am_n S) :: st) (am_mk S (k / 64) (k % 64))
  | .newarray t => (match st with
    | .int x :: st => (if x < 0 ∨ 1000 < x.toNatClampNeg then none else (match t with
      | .int => K (i + 1) lo (.ref (am_n S) :: st) (am_mk S 100 x.toNatClampNeg)
      | .byte => K (i + 1) lo (.ref (am_n S) :: st) (am_mk S 101 x.toNatClampNeg)
      | .long => K (i + 1) lo (.ref (am_n S) :: st) (am_mk S 102 x.toNatClampNeg)
      | _ => none))
    | _ => none)
  | .anewarray k => (match st with | .int x :: st => (if x < 0 ∨ 1000 < x.toNatClampNeg then none else K (i + 1) lo (.ref (am_n S) :: st) (am_mk S (103 + k) x.toNatClampNeg)) | _ => none)
  | .multianewarray k _ => (match st with
    | .int y :: .int x :: st => (if x < 0 ∨ 1000 < x.toNatClampNeg ∨ y < 0 ∨ 1000 < y.toNatClampNeg then none else (match k with
      | 0 => K (i + 1) lo (.ref (am_n S) :: st) (am_rows (am_n S) 100 y.toNatClampNeg x.toNatClampNeg 0 (am_mk S 180 x.toNatClampNeg))
      | 1 => K (i + 1) lo (.ref (am_n S) :: st) (am_rows (am_n S) 102 y.toNatClampNeg x.toNatClampNeg 0 (am_mk S 182 x.toNatClampNeg))
      | _ => none))
    | _ => none)
  | .monitorenter => (match st with | .ref _ :: st => (if am_cat st ≤ 8 then K (i + 1) lo st S else none) | _ => none)
  | .monitorexit => (match st with
    | .int n :: .int dp :: .ref b :: .int sp :: .ref a :: st => (if am_cat st ≤ 8 ∧ am_c S a = 100 ∧ am_c S b = 100 then
      (if sp < 0 ∨ dp < 0 ∨ n < 0 ∨ am_l S a < sp.toNatClampNeg + n.toNatClampNeg ∨ am_l S b < dp.toNatClampNeg + n.toNatClampNeg then none
      else K (i + 1) lo st (am_cp S a b sp.toNatClampNeg dp.toNatClampNeg n.toNatClampNeg)) else none)
    | _ => none)
  | .caload => (match st with | .int x :: .ref a :: st => (if am_cat st ≤ 8 ∧ am_c S a = 997 then (if x < 0 ∨ (am_i S (a + 1000000) 0).toNatClampNeg ≤ x.toNatClampNeg then none else K (i + 1) lo (.int (am_i S a x.toNatClampNeg) :: st) S) else none) | _ => none)
  | .castore => (match st with | .ref a :: st => (if am_cat st ≤ 8 ∧ am_c S a = 997 then K (i + 1) lo (.int (am_i S (a + 1000000) 0) :: st) S else none) | _ => none)
  | .invokestatic y => (if am_cat (st.drop (pg_sg y).1) ≤ 8 ∧ (st.take (pg_sg y).1).length = (pg_sg y).1 then (match (pg_sg y).2 with
      | 0 => am_bV (f y (st.take (pg_sg y).1).reverse S) fun S => K (i + 1) lo (st.drop (pg_sg y).1) S
      | 1 => am_bI (f y (st.take (pg_sg y).1).reverse S) fun x S => K (i + 1) lo (.int x :: st.drop (pg_sg y).1) S
      | 2 => am_bJ (f y (st.take (pg_sg y).1).reverse S) fun x S => K (i + 1) lo (.long x :: st.drop (pg_sg y).1) S
      | _ => am_bA (f y (st.take (pg_sg y).1).reverse S) fun x S => K (i + 1) lo (.ref x :: st.drop (pg_sg y).1) S) else none)
  | .ireturn => (match st with | .int x :: _ => some (some (.int x), S) | _ => none)
  | .freturn => (match st with | .int x :: _ => some (some (.int (am_nb x)), S) | _ => none)
  | .lreturn => (match st with | .long x :: _ => some (some (.long x), S) | _ => none)
  | .areturn => (match st with | .ref x :: _ => some (some (.ref x), S) | _ => none)
  | .return_ => some (none, S)
  | _ => none

/-! ===== a method's run: by steps (am_run), without end (am_X), from cut to cut (am_Xs) ===== -/
def am_kil (m i : Nat) (lo : List Value) : List Value := match pg_ct m i with
  | some ks => am_kl ks lo
  | none => lo
def am_run (f : Nat → List Value → am_S → am_R) (m : Nat) : Nat → Nat → List Value → List Value → am_S → am_R
  | 0, _, _, _, _ => none
  | n + 1, i, lo, st, S => am_stp f (am_run f m n) (pg_cd m i) i (am_kil m i lo) st S
noncomputable def am_X (f : Nat → List Value → am_S → am_R) (m i : Nat) (lo st : List Value) (S : am_S) : am_R :=
  @dite _ (∃ (r : Option Value × am_S) (n : Nat), am_run f m n i lo st S = some r) (Classical.propDecidable _) (fun h => some (Classical.choose h)) (fun _ => none)
noncomputable def am_Xs (f : Nat → List Value → am_S → am_R) (m : Nat) : Nat → Nat → List Value → List Value → am_S → am_R
  | 0, i, lo, st, S => am_X f m i lo st S
  | n + 1, i, lo, st, S => match pg_ct m i with
    | some ks => am_X f m i (am_kl ks lo) st S
    | none => am_stp f (am_Xs f m n) (pg_cd m i) i lo st S
/-- the locals at a method's start -/
def am_spr : List Value → List Value
  | [] => []
  | .long x :: l => .long x :: .null :: am_spr l
  | v :: l => v :: am_spr l
def am_pad : Nat → List Value → List Value
  | 0, l => l
  | n + 1, [] => .null :: am_pad n []
  | n + 1, a :: l => a :: am_pad n l
def am_ent (y : Nat) (args : List Value) : List Value := am_pad (pg_mx y) (am_spr args)
/-- a call, d calls deep at most -/
noncomputable def am_call : Nat → Nat → List Value → am_S → am_R
  | 0, _, _, _ => none
  | d + 1, y, args, S => am_X (am_call d) y 0 (am_ent y args) [] S

/-! ===== am_X goes on by steps ===== -/
/-- what a gives, the row as gives too, from some place on -/
def am_Cn (a : am_R) (as : Nat → am_R) : Prop := ∀ r, a = some r → ∃ n, as n = some r
theorem am_Cn.no {as : Nat → am_R} : am_Cn none as := fun r h => by cases h
theorem am_Cn.yes {x : am_R} : am_Cn x (fun _ => x) := fun r h => ⟨0, h⟩
theorem am_Cn.ite {c : Prop} [Decidable c] {a b : am_R} {as bs : Nat → am_R} (ha : am_Cn a as) (hb : am_Cn b bs) : am_Cn (if c then a else b) (fun n => if c then as n else bs n) := by
  intro r h
  by_cases hc : c
  · simp only [if_pos hc] at h ⊢
    exact ha r h
  · simp only [if_neg hc] at h ⊢
    exact hb r h
theorem am_Cn.bV {o : am_R} {k : am_S → am_R} {ks : Nat → am_S → am_R} (h : ∀ S, am_Cn (k S) (fun n => ks n S)) : am_Cn (am_bV o k) (fun n => am_bV o (ks n)) := by
  rcases o with _ | ⟨_ | v, S⟩
  · exact am_Cn.no
  · exact h S
  · exact am_Cn.no
theorem am_Cn.bI {o : am_R} {k : Int32 → am_S → am_R} {ks : Nat → Int32 → am_S → am_R} (h : ∀ x S, am_Cn (k x S) (fun n => ks n x S)) : am_Cn (am_bI o k) (fun n => am_bI o (ks n)) := by
  rcases o with _ | ⟨_ | v, S⟩
  · exact am_Cn.no
  · exact am_Cn.no
  · cases v <;> first | exact h _ S | exact am_Cn.no
theorem am_Cn.bJ {o : am_R} {k : Int64 → am_S → am_R} {ks : Nat → Int64 → am_S → am_R} (h : ∀ x S, am_Cn (k x S) (fun n => ks n x S)) : am_Cn (am_bJ o k) (fun n => am_bJ o (ks n)) := by
  rcases o with _ | ⟨_ | v, S⟩
  · exact am_Cn.no
  · exact am_Cn.no
  · cases v <;> first | exact h _ S | exact am_Cn.no
theorem am_Cn.bA {o : am_R} {k : Nat → am_S → am_R} {ks : Nat → Nat → am_S → am_R} (h : ∀ x S, am_Cn (k x S) (fun n => ks n x S)) : am_Cn (am_bA o k) (fun n => am_bA o (ks n)) := by
  rcases o with _ | ⟨_ | v, S⟩
  · exact am_Cn.no
  · exact am_Cn.no
  · cases v <;> first | exact h _ S | exact am_Cn.no
theorem am_Cn.bq {o : Option Nat} {k : Nat → am_R} {ks : Nat → Nat → am_R} (h : ∀ x, am_Cn (k x) (fun n => ks n x)) : am_Cn (am_bq o k) (fun n => am_bq o (ks n)) := by
  rcases o with _ | v
  · exact am_Cn.no
  · exact h v
theorem am_Cn.br {c : Jvm.ClassFile.Cond} {x y : Int32} {a b : am_R} {as bs : Nat → am_R} (ha : am_Cn a as) (hb : am_Cn b bs) : am_Cn (am_br c x y a b) (fun n => am_br c x y (as n) (bs n)) := by
  cases c
  · exact am_Cn.ite ha hb
  · exact am_Cn.ite hb ha
  · exact am_Cn.ite ha hb
  · exact am_Cn.ite hb ha
  · exact am_Cn.ite ha hb
  · exact am_Cn.ite hb ha
theorem am_Cn.sw {x : Int32} {d : am_R} {ds : Nat → am_R} {K : Nat → am_R} {Ks : Nat → Nat → am_R} (hd : am_Cn d ds) (hK : ∀ t, am_Cn (K t) (fun n => Ks n t)) : ∀ (ts : List Int) (lo : Nat), am_Cn (am_sw x d K lo ts) (fun n => am_sw x (ds n) (Ks n) lo ts)
  | [], _ => hd
  | t :: ts, lo => am_Cn.ite (hK _) (am_Cn.sw hd hK ts (lo + 1))
theorem am_Cn.lk {x : Int32} {d : am_R} {ds : Nat → am_R} {K : Nat → am_R} {Ks : Nat → Nat → am_R} (hd : am_Cn d ds) (hK : ∀ t, am_Cn (K t) (fun n => Ks n t)) : ∀ (ts : List (Int × Int)), am_Cn (am_lk x d K ts) (fun n => am_lk x (ds n) (Ks n) ts)
  | [] => hd
  | t :: ts => am_Cn.ite (hK _) (am_Cn.lk hd hK ts)
theorem am_cont {f : Nat → List Value → am_S → am_R} {K : Nat → List Value → List Value → am_S → am_R} {Ks : Nat → Nat → List Value → List Value → am_S → am_R} (hK : ∀ i lo st S, am_Cn (K i lo st S) (fun n => Ks n i lo st S)) (ins : Instr) (i : Nat) (lo st : List Value) (S : am_S) :
    am_Cn (am_stp f K ins i lo st S) (fun n => am_stp f (Ks n) ins i lo st S) := by
  cases ins
  case getfield k =>
    rcases st with _ | ⟨v, st⟩
    · exact am_Cn.no
    · cases v
      case ref a =>
        refine am_Cn.ite ?_ am_Cn.no
        generalize k % 4 = q
        rcases q with _ | _ | q
        · exact hK _ _ _ _
        · exact hK _ _ _ _
        · exact am_Cn.bq fun _ => hK _ _ _ _
      all_goals exact am_Cn.no
  case putfield k =>
    rcases st with _ | ⟨v, _ | ⟨w, st⟩⟩
    · exact am_Cn.no
    · cases v <;> exact am_Cn.no
    · cases v
      case int x =>
        cases w
        case ref a =>
          refine am_Cn.ite ?_ am_Cn.no
          generalize k % 4 = q
          rcases q with _ | _ | _ | _ | q
          · exact hK _ _ _ _
          · exact am_Cn.no
          · exact am_Cn.no
          · exact hK _ _ _ _
          · exact am_Cn.no
        all_goals exact am_Cn.no
      case long x =>
        cases w
        case ref a =>
          refine am_Cn.ite ?_ am_Cn.no
          generalize k % 4 = q
          rcases q with _ | _ | q
          · exact am_Cn.no
          · exact hK _ _ _ _
          · exact am_Cn.no
        all_goals exact am_Cn.no
      case ref x =>
        cases w
        case ref a =>
          refine am_Cn.ite ?_ am_Cn.no
          generalize k % 4 = q
          rcases q with _ | _ | _ | q
          · exact am_Cn.no
          · exact am_Cn.no
          · exact hK _ _ _ _
          · exact am_Cn.no
        all_goals exact am_Cn.no
      all_goals exact am_Cn.no
  case newarray t =>
    rcases st with _ | ⟨v, st⟩
    · exact am_Cn.no
    · cases v
      case int x =>
        refine am_Cn.ite am_Cn.no ?_
        cases t <;> first | exact hK _ _ _ _ | exact am_Cn.no
      all_goals exact am_Cn.no
  case multianewarray k e =>
    rcases st with _ | ⟨v, _ | ⟨w, st⟩⟩
    · exact am_Cn.no
    · cases v <;> exact am_Cn.no
    · cases v
      case int y =>
        cases w
        case int x =>
          refine am_Cn.ite am_Cn.no ?_
          rcases k with _ | _ | k
          · exact hK _ _ _ _
          · exact hK _ _ _ _
          · exact am_Cn.no
        all_goals exact am_Cn.no
      all_goals exact am_Cn.no
  case invokestatic y =>
    refine am_Cn.ite ?_ am_Cn.no
    generalize (pg_sg y).2 = q
    rcases q with _ | _ | _ | q
    · exact am_Cn.bV fun _ => hK _ _ _ _
    · exact am_Cn.bI fun _ _ => hK _ _ _ _
    · exact am_Cn.bJ fun _ _ => hK _ _ _ _
    · exact am_Cn.bA fun _ _ => hK _ _ _ _
  case iload k =>
    have e : ∀ v, am_nth lo k = v → am_Cn (am_stp f K (.iload k) i lo st S) (fun n => am_stp f (Ks n) (.iload k) i lo st S) := by
      intro v hv
      simp only [am_stp, hv]
      cases v <;> first | exact hK _ _ _ _ | exact am_Cn.no
    exact e _ rfl
  case lload k =>
    have e : ∀ v, am_nth lo k = v → am_Cn (am_stp f K (.lload k) i lo st S) (fun n => am_stp f (Ks n) (.lload k) i lo st S) := by
      intro v hv
      simp only [am_stp, hv]
      cases v <;> first | exact hK _ _ _ _ | exact am_Cn.no
    exact e _ rfl
  case aload k =>
    have e : ∀ v, am_nth lo k = v → am_Cn (am_stp f K (.aload k) i lo st S) (fun n => am_stp f (Ks n) (.aload k) i lo st S) := by
      intro v hv
      simp only [am_stp, hv]
      cases v <;> first | exact hK _ _ _ _ | exact am_Cn.no
    exact e _ rfl
  case iinc k c =>
    have e : ∀ v, am_nth lo k = v → am_Cn (am_stp f K (.iinc k c) i lo st S) (fun n => am_stp f (Ks n) (.iinc k c) i lo st S) := by
      intro v hv
      simp only [am_stp, hv]
      cases v <;> first | exact hK _ _ _ _ | exact am_Cn.no
    exact e _ rfl
  all_goals first
    | exact am_Cn.no
    | exact hK _ _ _ _
    | exact am_Cn.yes
    | skip
  all_goals (rcases st with _ | ⟨v1, st⟩ <;> first | exact am_Cn.no | skip)
  all_goals (first | exact am_Cn.ite (hK _ _ _ _) am_Cn.no | (cases v1 <;> first | exact am_Cn.no | exact hK _ _ _ _ | exact am_Cn.yes | exact am_Cn.br (hK _ _ _ _) (hK _ _ _ _) | exact am_Cn.sw (hK _ _ _ _) (fun _ => hK _ _ _ _) _ _ | exact am_Cn.lk (hK _ _ _ _) (fun _ => hK _ _ _ _) _ | exact am_Cn.ite (hK _ _ _ _) am_Cn.no | exact am_Cn.ite am_Cn.no (hK _ _ _ _) | skip) | skip)
  all_goals (rcases st with _ | ⟨v2, st⟩ <;> first | exact am_Cn.no | skip)
  all_goals (first | exact am_Cn.ite (hK _ _ _ _) am_Cn.no | (cases v2 <;> first | exact am_Cn.no | exact hK _ _ _ _ | exact am_Cn.br (hK _ _ _ _) (hK _ _ _ _) | exact am_Cn.ite (hK _ _ _ _) am_Cn.no | exact am_Cn.ite am_Cn.no (hK _ _ _ _) | exact am_Cn.ite (am_Cn.ite am_Cn.no (hK _ _ _ _)) am_Cn.no | exact am_Cn.ite (am_Cn.ite am_Cn.no (am_Cn.bq fun _ => hK _ _ _ _)) am_Cn.no | skip) | skip)
  all_goals (rcases st with _ | ⟨v3, st⟩ <;> first | exact am_Cn.no | skip)
  all_goals (cases v3 <;> first | exact am_Cn.no | exact am_Cn.ite (am_Cn.ite am_Cn.no (hK _ _ _ _)) am_Cn.no | skip)
  all_goals (rcases st with _ | ⟨v4, st⟩ <;> first | exact am_Cn.no | skip)
  all_goals (cases v4 <;> first | exact am_Cn.no | skip)
  all_goals (rcases st with _ | ⟨v5, st⟩ <;> first | exact am_Cn.no | skip)
  all_goals (cases v5 <;> first | exact am_Cn.no | exact am_Cn.ite (am_Cn.ite am_Cn.no (hK _ _ _ _)) am_Cn.no)

theorem am_run_mono1 {f : Nat → List Value → am_S → am_R} {m : Nat} : ∀ (n i : Nat) (lo st : List Value) (S : am_S) (r : Option Value × am_S), am_run f m n i lo st S = some r → am_run f m (n + 1) i lo st S = some r
  | 0, _, _, _, _, _, h => by cases h
  | n + 1, i, lo, st, S, r, h => by
    obtain ⟨_, h2⟩ := am_cont (K := am_run f m n) (Ks := fun _ => am_run f m (n + 1)) (fun i lo st S r h => ⟨0, am_run_mono1 n i lo st S r h⟩) _ _ _ _ _ r h
    exact h2
theorem am_run_mono {f : Nat → List Value → am_S → am_R} {m n k i : Nat} {lo st : List Value} {S : am_S} {r : Option Value × am_S} (h : am_run f m n i lo st S = some r) (hk : n ≤ k) : am_run f m k i lo st S = some r := by
  induction hk with
  | refl => exact h
  | step _ ih => exact am_run_mono1 _ _ _ _ _ _ ih
theorem am_X_of {f : Nat → List Value → am_S → am_R} {m n i : Nat} {lo st : List Value} {S : am_S} {r : Option Value × am_S} (h : am_run f m n i lo st S = some r) : am_X f m i lo st S = some r := by
  have he : ∃ (r : Option Value × am_S) (n : Nat), am_run f m n i lo st S = some r := ⟨r, n, h⟩
  unfold am_X
  rw [dif_pos he]
  obtain ⟨n', h'⟩ := Classical.choose_spec he
  have h1 := am_run_mono h (Nat.le_max_left n n')
  have h2 := am_run_mono h' (Nat.le_max_right n n')
  exact h2.symm.trans h1
theorem am_X_to {f : Nat → List Value → am_S → am_R} {m i : Nat} {lo st : List Value} {S : am_S} {r : Option Value × am_S} (h : am_X f m i lo st S = some r) : ∃ n, am_run f m n i lo st S = some r := by
  unfold am_X at h
  by_cases he : ∃ (r : Option Value × am_S) (n : Nat), am_run f m n i lo st S = some r
  · rw [dif_pos he] at h
    obtain ⟨n', h'⟩ := Classical.choose_spec he
    cases h
    exact ⟨n', h'⟩
  · rw [dif_neg he] at h
    cases h
theorem am_X_eq (f : Nat → List Value → am_S → am_R) (m i : Nat) (lo st : List Value) (S : am_S) : am_X f m i lo st S = am_stp f (am_X f m) (pg_cd m i) i (am_kil m i lo) st S := by
  cases h : am_stp f (am_X f m) (pg_cd m i) i (am_kil m i lo) st S with
  | some r =>
    obtain ⟨n, h2⟩ := am_cont (K := am_X f m) (Ks := am_run f m) (fun i lo st S r h => am_X_to h) _ _ _ _ _ r h
    exact am_X_of (n := n + 1) h2
  | none =>
    cases h3 : am_X f m i lo st S with
    | none => rfl
    | some r =>
      obtain ⟨n, h4⟩ := am_X_to h3
      cases n with
      | zero => cases h4
      | succ n =>
        obtain ⟨_, h5⟩ := am_cont (K := am_run f m n) (Ks := fun _ => am_X f m) (fun i lo st S r h => ⟨0, am_X_of h⟩) _ _ _ _ _ r h4
        rw [h] at h5
        cases h5
theorem am_kl_kl (ks : List Nat) (lo : List Value) : am_kl ks (am_kl ks lo) = am_kl ks lo := by
  have c1 : ∀ (l : List Value) (a b : Nat), am_k1 (am_k1 l a) b = am_k1 (am_k1 l b) a := by
    intro l
    induction l with
    | nil => intro a b; rfl
    | cons v l ih =>
      intro a b
      rcases a with _ | a <;> rcases b with _ | b
      · rfl
      · rfl
      · rfl
      · show v :: am_k1 (am_k1 l a) b = v :: am_k1 (am_k1 l b) a
        rw [ih]
  have c2 : ∀ (l : List Value) (a : Nat), am_k1 (am_k1 l a) a = am_k1 l a := by
    intro l
    induction l with
    | nil => intro a; rfl
    | cons v l ih =>
      intro a
      rcases a with _ | a
      · rfl
      · show v :: am_k1 (am_k1 l a) a = v :: am_k1 l a
        rw [ih]
  have c3 : ∀ (ks : List Nat) (l : List Value) (a : Nat), am_kl ks (am_k1 l a) = am_k1 (am_kl ks l) a := by
    intro ks
    induction ks with
    | nil => intro l a; rfl
    | cons k ks ih =>
      intro l a
      show am_kl ks (am_k1 (am_k1 l a) k) = am_k1 (am_kl ks (am_k1 l k)) a
      rw [c1, ih]
  induction ks generalizing lo with
  | nil => rfl
  | cons k ks ih =>
    show am_kl ks (am_k1 (am_kl ks (am_k1 lo k)) k) = am_kl ks (am_k1 lo k)
    rw [c3, ih, ← c3, c2]
theorem am_X_kl {f : Nat → List Value → am_S → am_R} {m i : Nat} {ks : List Nat} (hc : pg_ct m i = some ks) (lo st : List Value) (S : am_S) : am_X f m i (am_kl ks lo) st S = am_X f m i lo st S := by
  rw [am_X_eq, am_X_eq f m i lo]
  unfold am_kil
  rw [hc]
  show am_stp _ _ _ _ (am_kl ks (am_kl ks lo)) _ _ = am_stp _ _ _ _ (am_kl ks lo) _ _
  rw [am_kl_kl]
theorem am_Xs_eq (f : Nat → List Value → am_S → am_R) (m : Nat) : ∀ n, am_Xs f m n = am_X f m
  | 0 => rfl
  | n + 1 => by
    funext i lo st S
    cases hc : pg_ct m i with
    | some ks =>
      have e : am_Xs f m (n + 1) i lo st S = am_X f m i (am_kl ks lo) st S := by
        show (match pg_ct m i with | some ks => am_X f m i (am_kl ks lo) st S | none => _) = _
        rw [hc]
      rw [e, am_X_kl hc]
    | none =>
      have e : am_Xs f m (n + 1) i lo st S = am_stp f (am_Xs f m n) (pg_cd m i) i lo st S := by
        show (match pg_ct m i with | some ks => am_X f m i (am_kl ks lo) st S | none => _) = _
        rw [hc]
      rw [e, am_Xs_eq f m n, am_X_eq f m i]
      unfold am_kil
      rw [hc]
theorem am_blk (k : Nat) (f : Nat → List Value → am_S → am_R) (m i : Nat) (lo st : List Value) (S : am_S) : am_X f m i lo st S = am_stp f (am_Xs f m k) (pg_cd m i) i (am_kil m i lo) st S := by
  rw [am_Xs_eq]
  exact am_X_eq f m i lo st S
end
section
/-! ===== BEGIN by program (wip/whole/gen/emit.py): from cut to cut ===== -/
-- 65 OneIsTwo$World.isPerson(I)Z
theorem e_65_0 (f : Nat → List Value → am_S → am_R) (b0 : Nat) (x1 : Int32) (S : am_S) : am_X f 65 0 [.ref b0, .int x1] [] S = if x1 < 0 then (some (some (.int (am_nb (nI 0))), S)) else (if am_c S b0 = 10 then (if x1 < (am_i S b0 9) then (some (some (.int (am_nb (nI 1))), S)) else (some (some (.int (am_nb (nI 0))), S))) else none) := am_blk 400 f 65 0 _ _ _
-- 66 OneIsTwo$World.isClaim(I)Z
theorem e_66_0 (f : Nat → List Value → am_S → am_R) (b0 : Nat) (x1 : Int32) (S : am_S) : am_X f 66 0 [.ref b0, .int x1] [] S = if x1 < 0 then (some (some (.int (am_nb (nI 0))), S)) else (if am_c S b0 = 10 then (if x1 < (am_i S b0 11) then (some (some (.int (am_nb (nI 1))), S)) else (some (some (.int (am_nb (nI 0))), S))) else none) := am_blk 400 f 66 0 _ _ _
-- 67 OneIsTwo$World.isDeed(I)Z
theorem e_67_0 (f : Nat → List Value → am_S → am_R) (b0 : Nat) (x1 : Int32) (S : am_S) : am_X f 67 0 [.ref b0, .int x1] [] S = if x1 < 0 then (some (some (.int (am_nb (nI 0))), S)) else (if am_c S b0 = 10 then (if x1 < (am_i S b0 13) then (some (some (.int (am_nb (nI 1))), S)) else (some (some (.int (am_nb (nI 0))), S))) else none) := am_blk 400 f 67 0 _ _ _
-- 68 OneIsTwo$World.isAwake(I)Z
theorem e_68_0 (f : Nat → List Value → am_S → am_R) (b0 : Nat) (x1 : Int32) (S : am_S) : am_X f 68 0 [.ref b0, .int x1] [] S = if am_c S b0 = 10 then (am_bq (am_r S b0 0) fun r1 => if 103 ≤ am_c S r1 ∧ am_c S r1 < 200 then (if x1 < 0 ∨ am_l S r1 ≤ Int32.toNatClampNeg x1 then none else (am_bq (am_r S r1 (Int32.toNatClampNeg x1)) fun r2 => if am_c S r2 = 7 then (if (am_i S r2 0) < (nI 1) then (some (some (.int (am_nb (nI 0))), S)) else (if am_c S b0 = 10 then (am_bq (am_r S b0 0) fun r3 => if 103 ≤ am_c S r3 ∧ am_c S r3 < 200 then (if x1 < 0 ∨ am_l S r3 ≤ Int32.toNatClampNeg x1 then none else (am_bq (am_r S r3 (Int32.toNatClampNeg x1)) fun r4 => if am_c S r4 = 7 then (if (nI 4) < (am_i S r4 0) then (some (some (.int (am_nb (nI 0))), S)) else (some (some (.int (am_nb (nI 1))), S))) else none)) else none) else none)) else none)) else none) else none := am_blk 400 f 68 0 _ _ _
-- 69 OneIsTwo$World.isEnded(I)Z
theorem e_69_0 (f : Nat → List Value → am_S → am_R) (b0 : Nat) (x1 : Int32) (S : am_S) : am_X f 69 0 [.ref b0, .int x1] [] S = if am_c S b0 = 10 then (am_bq (am_r S b0 0) fun r1 => if 103 ≤ am_c S r1 ∧ am_c S r1 < 200 then (if x1 < 0 ∨ am_l S r1 ≤ Int32.toNatClampNeg x1 then none else (am_bq (am_r S r1 (Int32.toNatClampNeg x1)) fun r2 => if am_c S r2 = 7 then (if (am_i S r2 0) = (nI 6) then (some (some (.int (am_nb (nI 1))), S)) else (some (some (.int (am_nb (nI 0))), S))) else none)) else none) else none := am_blk 400 f 69 0 _ _ _
-- 70 OneIsTwo$World.countAwake()I
theorem e_70_0 (f : Nat → List Value → am_S → am_R) (b0 : Nat) (S : am_S) : am_X f 70 0 [.ref b0, .null, .null] [] S = am_X f 70 4 [.ref b0, .int (nI 0), .int (nI 0)] [] S := am_blk 400 f 70 0 _ _ _
theorem e_70_4 (f : Nat → List Value → am_S → am_R) (b0 : Nat) (x1 : Int32) (x2 : Int32) (S : am_S) : am_X f 70 4 [.ref b0, .int x1, .int x2] [] S = if am_c S b0 = 10 then (if x2 < (am_i S b0 9) then (am_bI (f 68 [.ref b0, .int x2] S) fun v2 S1 => if v2 = 0 then (am_X f 70 4 [.ref b0, .int x1, .int (x2 + nI 1)] [] S1) else (am_X f 70 4 [.ref b0, .int (x1 + nI 1), .int (x2 + nI 1)] [] S1)) else (some (some (.int x1), S))) else none := am_blk 400 f 70 4 _ _ _
-- 71 OneIsTwo$World.hasRoomForOne()Z
theorem e_71_0 (f : Nat → List Value → am_S → am_R) (b0 : Nat) (S : am_S) : am_X f 71 0 [.ref b0] [] S = if am_c S b0 = 10 then (if am_c S b0 = 10 then (am_bq (am_r S b0 0) fun r1 => if 100 ≤ am_c S r1 ∧ am_c S r1 < 200 then (if (am_i S b0 9) < (nI (am_l S r1)) then (am_bI (f 72 [.ref b0] S) fun v3 S2 => if v3 = 0 then (some (some (.int (am_nb (nI 0))), S2)) else (some (some (.int (am_nb (nI 1))), S2))) else (some (some (.int (am_nb (nI 0))), S))) else none) else none) else none := am_blk 400 f 71 0 _ _ _
-- 72 OneIsTwo$World.hasRoomForEvent()Z
theorem e_72_0 (f : Nat → List Value → am_S → am_R) (b0 : Nat) (S : am_S) : am_X f 72 0 [.ref b0] [] S = if am_c S b0 = 10 then (if am_c S b0 = 10 then (am_bq (am_r S b0 1) fun r1 => if 100 ≤ am_c S r1 ∧ am_c S r1 < 200 then (if (am_i S b0 10) < (nI (am_l S r1)) then (some (some (.int (am_nb (nI 1))), S)) else (some (some (.int (am_nb (nI 0))), S))) else none) else none) else none := am_blk 400 f 72 0 _ _ _
-- 73 OneIsTwo$World.addFirst()I
theorem e_73_0 (f : Nat → List Value → am_S → am_R) (b0 : Nat) (S : am_S) : am_X f 73 0 [.ref b0] [] S = am_bI (f 71 [.ref b0] S) fun v2 S1 => if v2 = 0 then (some (some (.int (Int32.ofInt (-2))), S1)) else (am_bI (f 78 [.ref b0, .int (nI 1), .int (nI 0)] S1) fun v4 S3 => some (some (.int v4), S3)) := am_blk 400 f 73 0 _ _ _
-- 74 OneIsTwo$World.addCopy(IIIIZ)I
theorem e_74_0 (f : Nat → List Value → am_S → am_R) (b0 : Nat) (x1 : Int32) (x2 : Int32) (x3 : Int32) (x4 : Int32) (x5 : Int32) (S : am_S) : am_X f 74 0 [.ref b0, .int x1, .int x2, .int x3, .int x4, .int x5, .null, .null] [] S = am_bI (f 71 [.ref b0] S) fun v2 S1 => if v2 = 0 then (some (some (.int (Int32.ofInt (-2))), S1)) else (am_bI (f 78 [.ref b0, .int x2, .int (nI 1)] S1) fun v4 S3 => if am_c S3 b0 = 10 then (am_bq (am_r S3 b0 0) fun r5 => if 103 ≤ am_c S3 r5 ∧ am_c S3 r5 < 200 then (if v4 < 0 ∨ am_l S3 r5 ≤ Int32.toNatClampNeg v4 then none else (am_bq (am_r S3 r5 (Int32.toNatClampNeg v4)) fun r6 => if am_c S3 r6 = 7 then (am_lt (am_pi S3 r6 2 x1) fun S7 => if am_c S7 r6 = 7 then (am_lt (am_pi S7 r6 5 x4) fun S8 => if x2 = (nI 3) then (if am_c S8 r6 = 7 then (am_lt (am_pi S8 r6 6 x3) fun S12 => if am_c S12 r6 = 7 then (am_lt (am_pi S12 r6 9 (am_nb x5)) fun S13 => am_bV (f 85 [.ref b0, .int v4] S13) fun S14 => some (some (.int v4), S14)) else none) else none) else (if am_c S8 r6 = 7 then (am_lt (am_pi S8 r6 6 (nI 2)) fun S9 => if am_c S9 r6 = 7 then (am_lt (am_pi S9 r6 9 (am_nb x5)) fun S10 => am_bV (f 85 [.ref b0, .int v4] S10) fun S11 => some (some (.int v4), S11)) else none) else none)) else none) else none)) else none) else none) := am_blk 400 f 74 0 _ _ _
-- 75 OneIsTwo$World.addJoined(II)I
theorem e_75_0 (f : Nat → List Value → am_S → am_R) (b0 : Nat) (x1 : Int32) (x2 : Int32) (S : am_S) : am_X f 75 0 [.ref b0, .int x1, .int x2, .null] [] S = am_bI (f 71 [.ref b0] S) fun v2 S1 => if v2 = 0 then (some (some (.int (Int32.ofInt (-2))), S1)) else (if am_c S1 b0 = 10 then (am_bV (f 79 [.ref b0, .int x1, .int (am_i S1 b0 9)] S1) fun S3 => if am_c S3 b0 = 10 then (am_bV (f 79 [.ref b0, .int x2, .int (am_i S3 b0 9)] S3) fun S4 => am_bI (f 78 [.ref b0, .int (nI 4), .int (nI 3)] S4) fun v6 S5 => if am_c S5 b0 = 10 then (am_bq (am_r S5 b0 0) fun r7 => if 103 ≤ am_c S5 r7 ∧ am_c S5 r7 < 200 then (if v6 < 0 ∨ am_l S5 r7 ≤ Int32.toNatClampNeg v6 then none else (am_bq (am_r S5 r7 (Int32.toNatClampNeg v6)) fun r8 => if am_c S5 r8 = 7 then (am_lt (am_pi S5 r8 2 x1) fun S9 => if am_c S9 b0 = 10 then (am_bq (am_r S9 b0 0) fun r10 => if 103 ≤ am_c S9 r10 ∧ am_c S9 r10 < 200 then (if v6 < 0 ∨ am_l S9 r10 ≤ Int32.toNatClampNeg v6 then none else (am_bq (am_r S9 r10 (Int32.toNatClampNeg v6)) fun r11 => if am_c S9 r11 = 7 then (am_lt (am_pi S9 r11 3 x2) fun S12 => some (some (.int v6), S12)) else none)) else none) else none) else none)) else none) else none) else none) else none) := am_blk 400 f 75 0 _ _ _
-- 76 OneIsTwo$World.wakeOne(I)I
theorem e_76_0 (f : Nat → List Value → am_S → am_R) (b0 : Nat) (x1 : Int32) (S : am_S) : am_X f 76 0 [.ref b0, .int x1] [] S = am_bI (f 72 [.ref b0] S) fun v2 S1 => if v2 = 0 then (some (some (.int (Int32.ofInt (-2))), S1)) else (if am_c S1 b0 = 10 then (am_bq (am_r S1 b0 0) fun r3 => if 103 ≤ am_c S1 r3 ∧ am_c S1 r3 < 200 then (if x1 < 0 ∨ am_l S1 r3 ≤ Int32.toNatClampNeg x1 then none else (am_bq (am_r S1 r3 (Int32.toNatClampNeg x1)) fun r4 => if am_c S1 r4 = 7 then (am_lt (am_pi S1 r4 0 (nI 2)) fun S5 => am_bV (f 80 [.ref b0, .int (nI 2), .int x1] S5) fun S6 => some (some (.int (nI 1)), S6)) else none)) else none) else none) := am_blk 400 f 76 0 _ _ _
-- 77 OneIsTwo$World.endOne(I)I
theorem e_77_0 (f : Nat → List Value → am_S → am_R) (b0 : Nat) (x1 : Int32) (S : am_S) : am_X f 77 0 [.ref b0, .int x1] [] S = am_bI (f 72 [.ref b0] S) fun v2 S1 => if v2 = 0 then (some (some (.int (Int32.ofInt (-2))), S1)) else (am_bV (f 79 [.ref b0, .int x1, .int (Int32.ofInt (-9))] S1) fun S3 => am_bV (f 80 [.ref b0, .int (nI 4), .int x1] S3) fun S4 => am_bI (f 70 [.ref b0] S4) fun v6 S5 => some (some (.int v6), S5)) := am_blk 400 f 77 0 _ _ _
-- 78 OneIsTwo$World.come(II)I
theorem e_78_0 (f : Nat → List Value → am_S → am_R) (b0 : Nat) (x1 : Int32) (x2 : Int32) (S : am_S) : am_X f 78 0 [.ref b0, .int x1, .int x2, .null] [] S = if am_c S b0 = 10 then (if am_c S b0 = 10 then (am_bq (am_r S b0 0) fun r1 => if 103 ≤ am_c S r1 ∧ am_c S r1 < 200 then (if (am_i S b0 9) < 0 ∨ am_l S r1 ≤ Int32.toNatClampNeg (am_i S b0 9) then none else (am_bq (am_r S r1 (Int32.toNatClampNeg (am_i S b0 9))) fun r2 => if am_c S b0 = 10 then (am_bV (f 55 [.ref r2, .int x1, .int (am_i S b0 8)] S) fun S3 => if am_c S3 b0 = 10 then (if am_c S3 b0 = 10 then (am_lt (am_pi S3 b0 9 ((am_i S3 b0 9) + (nI 1))) fun S4 => am_bV (f 80 [.ref b0, .int x2, .int (am_i S b0 9)] S4) fun S5 => some (some (.int (am_i S b0 9)), S5)) else none) else none) else none)) else none) else none) else none := am_blk 400 f 78 0 _ _ _
-- 79 OneIsTwo$World.goAway(II)V
theorem e_79_0 (f : Nat → List Value → am_S → am_R) (b0 : Nat) (x1 : Int32) (x2 : Int32) (S : am_S) : am_X f 79 0 [.ref b0, .int x1, .int x2] [] S = if am_c S b0 = 10 then (am_bq (am_r S b0 0) fun r1 => if 103 ≤ am_c S r1 ∧ am_c S r1 < 200 then (if x1 < 0 ∨ am_l S r1 ≤ Int32.toNatClampNeg x1 then none else (am_bq (am_r S r1 (Int32.toNatClampNeg x1)) fun r2 => if am_c S r2 = 7 then (am_lt (am_pi S r2 0 (nI 6)) fun S3 => if am_c S3 b0 = 10 then (am_bq (am_r S3 b0 0) fun r4 => if 103 ≤ am_c S3 r4 ∧ am_c S3 r4 < 200 then (if x1 < 0 ∨ am_l S3 r4 ≤ Int32.toNatClampNeg x1 then none else (am_bq (am_r S3 r4 (Int32.toNatClampNeg x1)) fun r5 => if am_c S3 r5 = 7 then (am_lt (am_pi S3 r5 7 x2) fun S6 => if am_c S6 b0 = 10 then (am_bq (am_r S6 b0 0) fun r7 => if 103 ≤ am_c S6 r7 ∧ am_c S6 r7 < 200 then (if x1 < 0 ∨ am_l S6 r7 ≤ Int32.toNatClampNeg x1 then none else (am_bq (am_r S6 r7 (Int32.toNatClampNeg x1)) fun r8 => if am_c S6 b0 = 10 then (if am_c S6 r8 = 7 then (am_lt (am_pi S6 r8 8 (am_i S6 b0 10)) fun S9 => some (none, S9)) else none) else none)) else none) else none) else none)) else none) else none) else none)) else none) else none := am_blk 400 f 79 0 _ _ _
-- 80 OneIsTwo$World.tell(II)V
theorem e_80_0 (f : Nat → List Value → am_S → am_R) (b0 : Nat) (x1 : Int32) (x2 : Int32) (S : am_S) : am_X f 80 0 [.ref b0, .int x1, .int x2] [] S = if am_c S b0 = 10 then (am_bq (am_r S b0 1) fun r1 => if am_c S b0 = 10 then (if 103 ≤ am_c S r1 ∧ am_c S r1 < 200 then (if (am_i S b0 10) < 0 ∨ am_l S r1 ≤ Int32.toNatClampNeg (am_i S b0 10) then none else (am_bq (am_r S r1 (Int32.toNatClampNeg (am_i S b0 10))) fun r2 => if am_c S b0 = 10 then (am_bV (f 8 [.ref r2, .int x1, .int x2, .int (am_i S b0 8)] S) fun S3 => if am_c S3 b0 = 10 then (if am_c S3 b0 = 10 then (am_lt (am_pi S3 b0 10 ((am_i S3 b0 10) + (nI 1))) fun S4 => some (none, S4)) else none) else none) else none)) else none) else none) else none := am_blk 400 f 80 0 _ _ _
-- 81 OneIsTwo$World.addClaim(III)I
theorem e_81_0 (f : Nat → List Value → am_S → am_R) (b0 : Nat) (x1 : Int32) (x2 : Int32) (x3 : Int32) (S : am_S) : am_X f 81 0 [.ref b0, .int x1, .int x2, .int x3] [] S = if am_c S b0 = 10 then (if am_c S b0 = 10 then (am_bq (am_r S b0 2) fun r1 => if 100 ≤ am_c S r1 ∧ am_c S r1 < 200 then (if (am_i S b0 11) < (nI (am_l S r1)) then (if am_c S b0 = 10 then (am_bq (am_r S b0 2) fun r2 => if am_c S b0 = 10 then (if 103 ≤ am_c S r2 ∧ am_c S r2 < 200 then (if (am_i S b0 11) < 0 ∨ am_l S r2 ≤ Int32.toNatClampNeg (am_i S b0 11) then none else (am_bq (am_r S r2 (Int32.toNatClampNeg (am_i S b0 11))) fun r3 => if am_c S b0 = 10 then (if am_c S b0 = 10 then (am_bV (f 6 [.ref r3, .int x1, .int x2, .int x3, .int (am_i S b0 8), .int (am_i S b0 10)] S) fun S4 => if am_c S4 b0 = 10 then (if am_c S4 b0 = 10 then (am_lt (am_pi S4 b0 11 ((am_i S4 b0 11) + (nI 1))) fun S5 => if am_c S5 b0 = 10 then (some (some (.int ((am_i S5 b0 11) - (nI 1))), S5)) else none) else none) else none) else none) else none)) else none) else none) else none) else (some (some (.int (Int32.ofInt (-2))), S))) else none) else none) else none := am_blk 400 f 81 0 _ _ _
-- 82 OneIsTwo$World.addDeed(I)I
theorem e_82_0 (f : Nat → List Value → am_S → am_R) (b0 : Nat) (x1 : Int32) (S : am_S) : am_X f 82 0 [.ref b0, .int x1] [] S = if am_c S b0 = 10 then (if am_c S b0 = 10 then (am_bq (am_r S b0 4) fun r1 => if 100 ≤ am_c S r1 ∧ am_c S r1 < 200 then (if (am_i S b0 13) < (nI (am_l S r1)) then (if am_c S b0 = 10 then (am_bq (am_r S b0 4) fun r2 => if am_c S b0 = 10 then (if am_c S r2 = 100 then (if (am_i S b0 13) < 0 ∨ am_l S r2 ≤ Int32.toNatClampNeg (am_i S b0 13) then none else (am_lt (am_pi S r2 (Int32.toNatClampNeg (am_i S b0 13)) x1) fun S3 => if am_c S3 b0 = 10 then (am_bq (am_r S3 b0 5) fun r4 => if am_c S3 b0 = 10 then (if am_c S3 b0 = 10 then (if am_c S3 r4 = 100 then (if (am_i S3 b0 13) < 0 ∨ am_l S3 r4 ≤ Int32.toNatClampNeg (am_i S3 b0 13) then none else (am_lt (am_pi S3 r4 (Int32.toNatClampNeg (am_i S3 b0 13)) (am_i S3 b0 8)) fun S5 => if am_c S5 b0 = 10 then (if am_c S5 b0 = 10 then (am_lt (am_pi S5 b0 13 ((am_i S5 b0 13) + (nI 1))) fun S6 => if am_c S6 b0 = 10 then (some (some (.int ((am_i S6 b0 13) - (nI 1))), S6)) else none) else none) else none)) else none) else none) else none) else none)) else none) else none) else none) else (some (some (.int (Int32.ofInt (-2))), S))) else none) else none) else none := am_blk 400 f 82 0 _ _ _
-- 83 OneIsTwo$World.addWedding(II)I
theorem e_83_0 (f : Nat → List Value → am_S → am_R) (b0 : Nat) (x1 : Int32) (x2 : Int32) (S : am_S) : am_X f 83 0 [.ref b0, .int x1, .int x2] [] S = if am_c S b0 = 10 then (if am_c S b0 = 10 then (am_bq (am_r S b0 3) fun r1 => if 100 ≤ am_c S r1 ∧ am_c S r1 < 200 then (if (am_i S b0 12) < (nI (am_l S r1)) then (if am_c S b0 = 10 then (am_bq (am_r S b0 3) fun r2 => if am_c S b0 = 10 then (if 103 ≤ am_c S r2 ∧ am_c S r2 < 200 then (if (am_i S b0 12) < 0 ∨ am_l S r2 ≤ Int32.toNatClampNeg (am_i S b0 12) then none else (am_bq (am_r S r2 (Int32.toNatClampNeg (am_i S b0 12))) fun r3 => if am_c S b0 = 10 then (if am_c S b0 = 10 then (am_bV (f 62 [.ref r3, .int x1, .int x2, .int (am_i S b0 8), .int (am_i S b0 10)] S) fun S4 => if am_c S4 b0 = 10 then (if am_c S4 b0 = 10 then (am_lt (am_pi S4 b0 12 ((am_i S4 b0 12) + (nI 1))) fun S5 => if am_c S5 b0 = 10 then (some (some (.int ((am_i S5 b0 12) - (nI 1))), S5)) else none) else none) else none) else none) else none)) else none) else none) else none) else (some (some (.int (Int32.ofInt (-2))), S))) else none) else none) else none := am_blk 400 f 83 0 _ _ _
-- 84 OneIsTwo$World.takeLaw(LOneIsTwo$Law;)V
theorem e_84_0 (f : Nat → List Value → am_S → am_R) (b0 : Nat) (b1 : Nat) (S : am_S) : am_X f 84 0 [.ref b0, .ref b1, .null] [] S = if am_c S b0 = 10 then (am_bq (am_r S b0 6) fun r1 => am_bV (f 14 [.ref r1, .ref b1] S) fun S2 => am_X f 84 6 [.ref b0, .null, .int (nI 0)] [] S2) else none := am_blk 400 f 84 0 _ _ _
theorem e_84_6 (f : Nat → List Value → am_S → am_R) (b0 : Nat) (x2 : Int32) (S : am_S) : am_X f 84 6 [.ref b0, .null, .int x2] [] S = if am_c S b0 = 10 then (if x2 < (am_i S b0 9) then (am_bV (f 85 [.ref b0, .int x2] S) fun S1 => am_X f 84 6 [.ref b0, .null, .int (x2 + nI 1)] [] S1) else (some (none, S))) else none := am_blk 400 f 84 6 _ _ _
-- 85 OneIsTwo$World.settle(I)V
theorem e_85_0 (f : Nat → List Value → am_S → am_R) (b0 : Nat) (x1 : Int32) (S : am_S) : am_X f 85 0 [.ref b0, .int x1, .null] [] S = if am_c S b0 = 10 then (am_bq (am_r S b0 0) fun r1 => if 103 ≤ am_c S r1 ∧ am_c S r1 < 200 then (if x1 < 0 ∨ am_l S r1 ≤ Int32.toNatClampNeg x1 then none else (am_bq (am_r S r1 (Int32.toNatClampNeg x1)) fun r2 => if am_c S r2 = 7 then (am_bI (f 149 [.int (am_i S r2 1)] S) fun v4 S3 => if v4 = 0 then (some (none, S3)) else (if am_c S3 r2 = 7 then (if (am_i S3 r2 9) = 0 then (if am_c S3 r2 = 7 then (am_bI (f 86 [.ref b0, .int (nI 5), .int x1, .int (am_i S3 r2 4), .int (nI 0), .int (nI 0)] S3) fun v12 S11 => if v12 = (nI 1) then (if am_c S11 r2 = 7 then (am_lt (am_pi S11 r2 10 (am_nb (nI 1))) fun S19 => if am_c S19 r2 = 7 then (if (am_i S19 r2 1) = (nI 5) then (if am_c S19 r2 = 7 then (am_bI (f 86 [.ref b0, .int (nI 6), .int x1, .int (am_i S19 r2 4), .int (nI 0), .int (nI 0)] S19) fun v22 S21 => if v22 = 0 then (if am_c S21 r2 = 7 then (am_lt (am_pi S21 r2 11 (am_nb (nI 1))) fun S24 => some (none, S24)) else none) else (if am_c S21 r2 = 7 then (am_lt (am_pi S21 r2 11 (am_nb (nI 0))) fun S23 => some (none, S23)) else none)) else none) else (if am_c S19 r2 = 7 then (am_lt (am_pi S19 r2 11 (am_nb (nI 0))) fun S20 => some (none, S20)) else none)) else none) else none) else (if am_c S11 r2 = 7 then (am_lt (am_pi S11 r2 10 (am_nb (nI 0))) fun S13 => if am_c S13 r2 = 7 then (if (am_i S13 r2 1) = (nI 5) then (if am_c S13 r2 = 7 then (am_bI (f 86 [.ref b0, .int (nI 6), .int x1, .int (am_i S13 r2 4), .int (nI 0), .int (nI 0)] S13) fun v16 S15 => if v16 = 0 then (if am_c S15 r2 = 7 then (am_lt (am_pi S15 r2 11 (am_nb (nI 1))) fun S18 => some (none, S18)) else none) else (if am_c S15 r2 = 7 then (am_lt (am_pi S15 r2 11 (am_nb (nI 0))) fun S17 => some (none, S17)) else none)) else none) else (if am_c S13 r2 = 7 then (am_lt (am_pi S13 r2 11 (am_nb (nI 0))) fun S14 => some (none, S14)) else none)) else none) else none)) else none) else (if am_c S3 r2 = 7 then (am_lt (am_pi S3 r2 10 (am_nb (nI 0))) fun S5 => if am_c S5 r2 = 7 then (if (am_i S5 r2 1) = (nI 5) then (if am_c S5 r2 = 7 then (am_bI (f 86 [.ref b0, .int (nI 6), .int x1, .int (am_i S5 r2 4), .int (nI 0), .int (nI 0)] S5) fun v8 S7 => if v8 = 0 then (if am_c S7 r2 = 7 then (am_lt (am_pi S7 r2 11 (am_nb (nI 1))) fun S10 => some (none, S10)) else none) else (if am_c S7 r2 = 7 then (am_lt (am_pi S7 r2 11 (am_nb (nI 0))) fun S9 => some (none, S9)) else none)) else none) else (if am_c S5 r2 = 7 then (am_lt (am_pi S5 r2 11 (am_nb (nI 0))) fun S6 => some (none, S6)) else none)) else none) else none)) else none)) else none)) else none) else none := am_blk 400 f 85 0 _ _ _
-- 86 OneIsTwo$World.saysOn(IIIII)I
theorem e_86_0 (f : Nat → List Value → am_S → am_R) (b0 : Nat) (x1 : Int32) (x2 : Int32) (x3 : Int32) (x4 : Int32) (x5 : Int32) (S : am_S) : am_X f 86 0 [.ref b0, .int x1, .int x2, .int x3, .int x4, .int x5, .null] [] S = if am_c S b0 = 10 then (am_bq (am_r S b0 0) fun r1 => if 103 ≤ am_c S r1 ∧ am_c S r1 < 200 then (if x2 < 0 ∨ am_l S r1 ≤ Int32.toNatClampNeg x2 then none else (am_bq (am_r S r1 (Int32.toNatClampNeg x2)) fun r2 => if am_c S b0 = 10 then (am_bq (am_r S b0 7) fun r3 => if am_c S r3 = 100 then (if (nI 0) < 0 ∨ am_l S r3 ≤ Int32.toNatClampNeg (nI 0) then none else (am_lt (am_pi S r3 (Int32.toNatClampNeg (nI 0)) x3) fun S4 => if am_c S4 b0 = 10 then (am_bq (am_r S4 b0 7) fun r5 => if am_c S4 r5 = 100 then (if (nI 1) < 0 ∨ am_l S4 r5 ≤ Int32.toNatClampNeg (nI 1) then none else (am_lt (am_pi S4 r5 (Int32.toNatClampNeg (nI 1)) x2) fun S6 => if am_c S6 b0 = 10 then (am_bq (am_r S6 b0 7) fun r7 => if am_c S6 r2 = 7 then (if am_c S6 r2 = 7 then (if am_c S6 r7 = 100 then (if (nI 2) < 0 ∨ am_l S6 r7 ≤ Int32.toNatClampNeg (nI 2) then none else (am_lt (am_pi S6 r7 (Int32.toNatClampNeg (nI 2)) ((am_i S6 r2 4) - (am_i S6 r2 5))) fun S8 => if am_c S8 b0 = 10 then (am_bq (am_r S8 b0 7) fun r9 => if am_c S8 r2 = 7 then (if am_c S8 r9 = 100 then (if (nI 3) < 0 ∨ am_l S8 r9 ≤ Int32.toNatClampNeg (nI 3) then none else (am_lt (am_pi S8 r9 (Int32.toNatClampNeg (nI 3)) (am_i S8 r2 1)) fun S10 => if am_c S10 b0 = 10 then (am_bq (am_r S10 b0 7) fun r11 => if am_c S10 r11 = 100 then (if (nI 4) < 0 ∨ am_l S10 r11 ≤ Int32.toNatClampNeg (nI 4) then none else (am_lt (am_pi S10 r11 (Int32.toNatClampNeg (nI 4)) x4) fun S12 => if am_c S12 b0 = 10 then (am_bq (am_r S12 b0 7) fun r13 => if am_c S12 r13 = 100 then (if (nI 5) < 0 ∨ am_l S12 r13 ≤ Int32.toNatClampNeg (nI 5) then none else (am_lt (am_pi S12 r13 (Int32.toNatClampNeg (nI 5)) x5) fun S14 => if am_c S14 b0 = 10 then (am_bq (am_r S14 b0 6) fun r15 => if am_c S14 b0 = 10 then (am_bq (am_r S14 b0 7) fun r16 => am_bI (f 15 [.ref r15, .int x1, .ref r16] S14) fun v18 S17 => some (some (.int v18), S17)) else none) else none)) else none) else none)) else none) else none)) else none) else none) else none)) else none) else none) else none) else none)) else none) else none)) else none) else none)) else none) else none := am_blk 400 f 86 0 _ _ _
-- 87 OneIsTwo$World.saysNow(II)I
theorem e_87_0 (f : Nat → List Value → am_S → am_R) (b0 : Nat) (x1 : Int32) (x2 : Int32) (S : am_S) : am_X f 87 0 [.ref b0, .int x1, .int x2] [] S = if am_c S b0 = 10 then (am_bq (am_r S b0 7) fun r1 => if am_c S b0 = 10 then (if am_c S r1 = 100 then (if (nI 0) < 0 ∨ am_l S r1 ≤ Int32.toNatClampNeg (nI 0) then none else (am_lt (am_pi S r1 (Int32.toNatClampNeg (nI 0)) (am_i S b0 8)) fun S2 => if am_c S2 b0 = 10 then (am_bq (am_r S2 b0 7) fun r3 => if am_c S2 b0 = 10 then (if am_c S2 r3 = 100 then (if (nI 1) < 0 ∨ am_l S2 r3 ≤ Int32.toNatClampNeg (nI 1) then none else (am_lt (am_pi S2 r3 (Int32.toNatClampNeg (nI 1)) (am_i S2 b0 9)) fun S4 => if am_c S4 b0 = 10 then (am_bq (am_r S4 b0 7) fun r5 => if am_c S4 r5 = 100 then (if (nI 2) < 0 ∨ am_l S4 r5 ≤ Int32.toNatClampNeg (nI 2) then none else (am_lt (am_pi S4 r5 (Int32.toNatClampNeg (nI 2)) (nI 0)) fun S6 => if am_c S6 b0 = 10 then (am_bq (am_r S6 b0 7) fun r7 => if am_c S6 b0 = 10 then (am_bq (am_r S6 b0 0) fun r8 => if 103 ≤ am_c S6 r8 ∧ am_c S6 r8 < 200 then (if x2 < 0 ∨ am_l S6 r8 ≤ Int32.toNatClampNeg x2 then none else (am_bq (am_r S6 r8 (Int32.toNatClampNeg x2)) fun r9 => if am_c S6 r9 = 7 then (if am_c S6 r7 = 100 then (if (nI 3) < 0 ∨ am_l S6 r7 ≤ Int32.toNatClampNeg (nI 3) then none else (am_lt (am_pi S6 r7 (Int32.toNatClampNeg (nI 3)) (am_i S6 r9 0)) fun S10 => if am_c S10 b0 = 10 then (am_bq (am_r S10 b0 7) fun r11 => if am_c S10 r11 = 100 then (if (nI 4) < 0 ∨ am_l S10 r11 ≤ Int32.toNatClampNeg (nI 4) then none else (am_lt (am_pi S10 r11 (Int32.toNatClampNeg (nI 4)) (nI 0)) fun S12 => if am_c S12 b0 = 10 then (am_bq (am_r S12 b0 7) fun r13 => if am_c S12 r13 = 100 then (if (nI 5) < 0 ∨ am_l S12 r13 ≤ Int32.toNatClampNeg (nI 5) then none else (am_lt (am_pi S12 r13 (Int32.toNatClampNeg (nI 5)) (nI 0)) fun S14 => if am_c S14 b0 = 10 then (am_bq (am_r S14 b0 6) fun r15 => if am_c S14 b0 = 10 then (am_bq (am_r S14 b0 7) fun r16 => am_bI (f 15 [.ref r15, .int x1, .ref r16] S14) fun v18 S17 => some (some (.int v18), S17)) else none) else none)) else none) else none)) else none) else none)) else none) else none)) else none) else none) else none)) else none) else none)) else none) else none) else none)) else none) else none) else none := am_blk 400 f 87 0 _ _ _
-- 88 OneIsTwo$World.isTakingPlace(LOneIsTwo$Event;I)Z
theorem e_88_0 (f : Nat → List Value → am_S → am_R) (b0 : Nat) (b1 : Nat) (x2 : Int32) (S : am_S) : am_X f 88 0 [.ref b0, .ref b1, .int x2, .null] [] S = if am_c S b1 = 2 then (if (am_i S b1 0) = (nI 1) then (if am_c S b0 = 10 then (am_bq (am_r S b0 0) fun r1 => if am_c S b1 = 2 then (if 103 ≤ am_c S r1 ∧ am_c S r1 < 200 then (if (am_i S b1 1) < 0 ∨ am_l S r1 ≤ Int32.toNatClampNeg (am_i S b1 1) then none else (am_bq (am_r S r1 (Int32.toNatClampNeg (am_i S b1 1))) fun r2 => if am_c S r2 = 7 then (if am_c S b1 = 2 then (if (am_i S b1 0) = (nI 2) then (am_X f 88 25 [.null, .null, .int x2, .ref r2] [.int (nI 1), .int (am_i S r2 11)] S) else (am_X f 88 25 [.null, .null, .int x2, .ref r2] [.int (nI 0), .int (am_i S r2 11)] S)) else none) else none)) else none) else none) else none) else (if am_c S b1 = 2 then (if (am_i S b1 0) = (nI 2) then (if am_c S b0 = 10 then (am_bq (am_r S b0 0) fun r3 => if am_c S b1 = 2 then (if 103 ≤ am_c S r3 ∧ am_c S r3 < 200 then (if (am_i S b1 1) < 0 ∨ am_l S r3 ≤ Int32.toNatClampNeg (am_i S b1 1) then none else (am_bq (am_r S r3 (Int32.toNatClampNeg (am_i S b1 1))) fun r4 => if am_c S r4 = 7 then (if am_c S b1 = 2 then (if (am_i S b1 0) = (nI 2) then (am_X f 88 25 [.null, .null, .int x2, .ref r4] [.int (nI 1), .int (am_i S r4 11)] S) else (am_X f 88 25 [.null, .null, .int x2, .ref r4] [.int (nI 0), .int (am_i S r4 11)] S)) else none) else none)) else none) else none) else none) else (some (some (.int (am_nb (nI 0))), S))) else none)) else none := am_blk 400 f 88 0 _ _ _
theorem e_88_25 (f : Nat → List Value → am_S → am_R) (x2 : Int32) (b3 : Nat) (t0 : Int32) (t1 : Int32) (S : am_S) : am_X f 88 25 [.null, .null, .int x2, .ref b3] [.int t0, .int t1] S = if t1 = t0 then (if am_c S b3 = 7 then (if (am_i S b3 10) = 0 then (if am_c S b3 = 7 then (if (am_i S b3 5) < x2 then (some (some (.int (am_nb (nI 0))), S)) else (some (some (.int (am_nb (nI 1))), S))) else none) else (some (some (.int (am_nb (nI 0))), S))) else none) else (some (some (.int (am_nb (nI 0))), S)) := am_blk 400 f 88 25 _ _ _
-- 89 OneIsTwo$World.rootOf(I)I
theorem e_89_0 (f : Nat → List Value → am_S → am_R) (b0 : Nat) (x1 : Int32) (S : am_S) : am_X f 89 0 [.ref b0, .int x1, .null, .null] [] S = am_X f 89 4 [.ref b0, .null, .int x1, .int (nI 0)] [] S := am_blk 400 f 89 0 _ _ _
theorem e_89_4 (f : Nat → List Value → am_S → am_R) (b0 : Nat) (x2 : Int32) (x3 : Int32) (S : am_S) : am_X f 89 4 [.ref b0, .null, .int x2, .int x3] [] S = if am_c S b0 = 10 then (if x3 < (am_i S b0 9) then (if am_c S b0 = 10 then (am_bq (am_r S b0 0) fun r1 => if 103 ≤ am_c S r1 ∧ am_c S r1 < 200 then (if x2 < 0 ∨ am_l S r1 ≤ Int32.toNatClampNeg x2 then none else (am_bq (am_r S r1 (Int32.toNatClampNeg x2)) fun r2 => if am_c S r2 = 7 then (if (am_i S r2 2) < 0 then (some (some (.int x2), S)) else (if am_c S b0 = 10 then (am_bq (am_r S b0 0) fun r3 => if 103 ≤ am_c S r3 ∧ am_c S r3 < 200 then (if x2 < 0 ∨ am_l S r3 ≤ Int32.toNatClampNeg x2 then none else (am_bq (am_r S r3 (Int32.toNatClampNeg x2)) fun r4 => if am_c S r4 = 7 then (am_X f 89 4 [.ref b0, .null, .int (am_i S r4 2), .int (x3 + nI 1)] [] S) else none)) else none) else none)) else none)) else none) else none) else (some (some (.int x2), S))) else none := am_blk 400 f 89 4 _ _ _
-- 90 OneIsTwo$World.forebears(I)I
theorem e_90_0 (f : Nat → List Value → am_S → am_R) (b0 : Nat) (x1 : Int32) (S : am_S) : am_X f 90 0 [.ref b0, .int x1, .null, .null] [] S = am_X f 90 6 [.ref b0, .null, .int ((nI 1) <<< (x1 &&& 31)), .int x1] [] S := am_blk 400 f 90 0 _ _ _
theorem e_90_6 (f : Nat → List Value → am_S → am_R) (b0 : Nat) (x2 : Int32) (x3 : Int32) (S : am_S) : am_X f 90 6 [.ref b0, .null, .int x2, .int x3] [] S = if x3 < 0 then (some (some (.int x2), S)) else (if ((x2 >>> (x3 &&& 31)) &&& (nI 1)) = 0 then (am_X f 90 6 [.ref b0, .null, .int x2, .int (x3 - nI 1)] [] S) else (if am_c S b0 = 10 then (am_bq (am_r S b0 0) fun r1 => if 103 ≤ am_c S r1 ∧ am_c S r1 < 200 then (if x3 < 0 ∨ am_l S r1 ≤ Int32.toNatClampNeg x3 then none else (am_bq (am_r S r1 (Int32.toNatClampNeg x3)) fun r2 => if am_c S r2 = 7 then (if (am_i S r2 2) < 0 then (if am_c S b0 = 10 then (am_bq (am_r S b0 0) fun r3 => if 103 ≤ am_c S r3 ∧ am_c S r3 < 200 then (if x3 < 0 ∨ am_l S r3 ≤ Int32.toNatClampNeg x3 then none else (am_bq (am_r S r3 (Int32.toNatClampNeg x3)) fun r4 => if am_c S r4 = 7 then (if (am_i S r4 3) < 0 then (am_X f 90 6 [.ref b0, .null, .int x2, .int (x3 - nI 1)] [] S) else (if am_c S b0 = 10 then (am_bq (am_r S b0 0) fun r5 => if 103 ≤ am_c S r5 ∧ am_c S r5 < 200 then (if x3 < 0 ∨ am_l S r5 ≤ Int32.toNatClampNeg x3 then none else (am_bq (am_r S r5 (Int32.toNatClampNeg x3)) fun r6 => if am_c S r6 = 7 then (am_X f 90 6 [.ref b0, .null, .int (x2 ||| ((nI 1) <<< ((am_i S r6 3) &&& 31))), .int (x3 - nI 1)] [] S) else none)) else none) else none)) else none)) else none) else none) else (if am_c S b0 = 10 then (am_bq (am_r S b0 0) fun r7 => if 103 ≤ am_c S r7 ∧ am_c S r7 < 200 then (if x3 < 0 ∨ am_l S r7 ≤ Int32.toNatClampNeg x3 then none else (am_bq (am_r S r7 (Int32.toNatClampNeg x3)) fun r8 => if am_c S r8 = 7 then (if am_c S b0 = 10 then (am_bq (am_r S b0 0) fun r9 => if 103 ≤ am_c S r9 ∧ am_c S r9 < 200 then (if x3 < 0 ∨ am_l S r9 ≤ Int32.toNatClampNeg x3 then none else (am_bq (am_r S r9 (Int32.toNatClampNeg x3)) fun r10 => if am_c S r10 = 7 then (if (am_i S r10 3) < 0 then (am_X f 90 6 [.ref b0, .null, .int (x2 ||| ((nI 1) <<< ((am_i S r8 2) &&& 31))), .int (x3 - nI 1)] [] S) else (if am_c S b0 = 10 then (am_bq (am_r S b0 0) fun r11 => if 103 ≤ am_c S r11 ∧ am_c S r11 < 200 then (if x3 < 0 ∨ am_l S r11 ≤ Int32.toNatClampNeg x3 then none else (am_bq (am_r S r11 (Int32.toNatClampNeg x3)) fun r12 => if am_c S r12 = 7 then (am_X f 90 6 [.ref b0, .null, .int ((x2 ||| ((nI 1) <<< ((am_i S r8 2) &&& 31))) ||| ((nI 1) <<< ((am_i S r12 3) &&& 31))), .int (x3 - nI 1)] [] S) else none)) else none) else none)) else none)) else none) else none) else none)) else none) else none)) else none)) else none) else none)) := am_blk 400 f 90 6 _ _ _
/-! ===== END by program ===== -/
theorem i_vc : Claimed_1_1 ∧ Claimed_1_2 := sorry
end
