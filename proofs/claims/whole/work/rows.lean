section
abbrev Vl : Type := Int ⊕ (Int ⊕ Nat)
abbrev En : Type := Nat × Instr × Nat × Nat × Nat × Int × Nat
/-- the cells: arrays with their type and length, objects with the number of their class -/
def zSh : List (Option FieldType × Nat) := [(none, 11), (some (.object ""), 10), (none, 8), (some (.byte), 1000), (none, 2), (some (.int), 24), (some (.boolean), 24), (some (.int), 24), (some (.int), 24), (some (.boolean), 24), (some (.int), 96), (some (.int), 6), (some (.int), 6), (some (.int), 6), (none, 2), (some (.int), 24), (some (.boolean), 24), (some (.int), 24), (some (.int), 24), (some (.boolean), 24), (some (.int), 96), (some (.int), 6), (some (.int), 6), (some (.int), 6), (none, 0), (some (.int), 6), (some (.int), 6), (some (.int), 333), (some (.int), 333), (some (.int), 333), (some (.int), 333), (none, 0), (some (.int), 6), (some (.int), 6), (some (.int), 333), (some (.int), 333), (some (.int), 333), (some (.int), 333), (none, 9), (some (.int), 80), (some (.int), 80), (some (.int), 80), (some (.int), 80), (some (.int), 80), (some (.int), 80), (some (.int), 80), (none, 9), (some (.int), 80), (some (.int), 80), (some (.int), 80), (some (.int), 80), (some (.int), 80), (some (.int), 80), (some (.int), 80), (none, 9), (some (.int), 80), (some (.int), 80), (some (.int), 80), (some (.int), 80), (some (.int), 80), (some (.int), 80), (some (.int), 80), (none, 9), (some (.int), 80), (some (.int), 80), (some (.int), 80), (some (.int), 80), (some (.int), 80), (some (.int), 80), (some (.int), 80), (none, 9), (some (.int), 80), (some (.int), 80), (some (.int), 80), (some (.int), 80), (some (.int), 80), (some (.int), 80), (some (.int), 80), (none, 9), (some (.int), 80), (some (.int), 80), (some (.int), 80), (some (.int), 80), (some (.int), 80), (some (.int), 80), (some (.int), 80), (none, 9), (some (.int), 80), (some (.int), 80), (some (.int), 80), (some (.int), 80), (some (.int), 80), (some (.int), 80), (some (.int), 80), (none, 9), (some (.int), 80), (some (.int), 80), (some (.int), 80), (some (.int), 80), (some (.int), 80), (some (.int), 80), (some (.int), 80), (none, 9), (some (.int), 80), (some (.int), 80), (some (.int), 80), (some (.int), 80), (some (.int), 80), (some (.int), 80), (some (.int), 80), (none, 9), (some (.int), 80), (some (.int), 80), (some (.int), 80), (some (.int), 80), (some (.int), 80), (some (.int), 80), (some (.int), 80), (none, 9), (some (.int), 80), (some (.int), 80), (some (.int), 80), (some (.int), 80), (some (.int), 80), (some (.int), 80), (some (.int), 80), (none, 9), (some (.int), 80), (some (.int), 80), (some (.int), 80), (some (.int), 80), (some (.int), 80), (some (.int), 80), (some (.int), 80), (none, 4), (some (.int), 12), (none, 1), (some (.int), 21), (none, 10), (some (.int), 600), (some (.int), 600), (some (.int), 600), (some (.int), 600), (some (.long), 9600), (some (.int), 600), (some (.int), 1024), (some (.long), 16), (none, 5), (some (.int), 7), (none, 7), (none, 6), (some (.int), 80), (some (.boolean), 80), (some (.int), 80), (none, 12), (some (.byte), 1000), (some (.int), 194), (some (.long), 24), (some (.long), 6), (some (.int), 194), (some (.long), 24), (some (.long), 6), (some (.int), 6), (some (.int), 6), (some (.int), 6), (some (.int), 2093), (some (.int), 16), (some (.int), 16), (some (.int), 2000), (some (.int), 2000), (some (.int), 7), (some (.int), 7), (some (.int), 6), (some (.int), 6), (some (.long), 6), (some (.long), 6), (some (.int), 400), (some (.int), 80), (some (.int), 80), (some (.int), 80), (some (.boolean), 80), (some (.int), 48000), (some (.int), 600), (some (.int), 600), (some (.int), 600), (some (.int), 600), (some (.int), 7), (some (.int), 80), (some (.int), 80), (some (.int), 96), (some (.int), 96), (some (.int), 80)]
def zOW : Nat := 192
def zTree : Nat := 9
def zOwnL : List Int := [217658368, 407934976, 89358336, 507661312, 780318720, 522190848, 48365568, 486146048, 647828480, 139640832, 270106624, 719459904, 475811840]
def zOwn (i : Int) : Int := zOwnL.getD i.toNat 0
/-! 0 Bugs.clear -/
def sg_0_0 : List En := [(0, .aload_n 0, 1, 0, 0, 0, 0), (1, .iconst 0, 2, 0, 0, 0, 0), (2, .putfield 30, 5, 0, 0, 0, 0), (5, .aload_n 0, 6, 0, 0, 0, 0), (6, .iconst 0, 7, 0, 0, 0, 0), (7, .putfield 34, 10, 0, 0, 3, 0), (10, .return_, 11, 0, 0, 0, 0)]
def pg_0 : List En := sg_0_0
/-! 1 Bugs.copyFrom -/
def sg_1_0 : List En := [(0, .aload_n 0, 1, 0, 0, 0, 0), (1, .aload_n 1, 2, 1, 0, 0, 0), (2, .getfield 30, 5, 0, 0, 0, 0), (5, .putfield 30, 8, 0, 0, 0, 0), (8, .aload_n 0, 9, 0, 0, 0, 0), (9, .aload_n 1, 10, 1, 0, 0, 0), (10, .getfield 34, 13, 0, 0, 3, 0), (13, .putfield 34, 16, 0, 0, 3, 0), (16, .aload_n 1, 17, 1, 0, 0, 0), (17, .getfield 9, 20, 0, 4, 1, 0), (20, .iconst 0, 21, 0, 0, 0, 0), (21, .aload_n 0, 22, 0, 0, 0, 0), (22, .getfield 9, 25, 0, 4, 1, 0), (25, .iconst 0, 26, 0, 0, 0, 0), (26, .bipush 6, 28, 0, 0, 0, 0), (28, .invokestatic 37, 31, 0, 5, 0, 1), (31, .aload_n 1, 32, 1, 0, 0, 0), (32, .getfield 15, 35, 0, 6, 2, 0), (35, .iconst 0, 36, 0, 0, 0, 0), (36, .aload_n 0, 37, 0, 0, 0, 0), (37, .getfield 15, 40, 0, 6, 2, 0), (40, .iconst 0, 41, 0, 0, 0, 0), (41, .bipush 6, 43, 0, 0, 0, 0), (43, .invokestatic 37, 46, 0, 5, 0, 1), (46, .aload_n 1, 47, 1, 0, 0, 0), (47, .getfield 18, 50, 0, 8, 4, 0), (50, .iconst 0, 51, 0, 0, 0, 0), (51, .aload_n 0, 52, 0, 0, 0, 0), (52, .getfield 18, 55, 0, 8, 4, 0), (55, .iconst 0, 56, 0, 0, 0, 0), (56, .aload_n 0, 57, 0, 0, 0, 0), (57, .getfield 34, 60, 0, 0, 3, 0), (60, .invokestatic 37, 63, 0, 5, 0, 1), (63, .aload_n 1, 64, 1, 0, 0, 0), (64, .getfield 21, 67, 0, 10, 5, 0), (67, .iconst 0, 68, 0, 0, 0, 0), (68, .aload_n 0, 69, 0, 0, 0, 0), (69, .getfield 21, 72, 0, 10, 5, 0), (72, .iconst 0, 73, 0, 0, 0, 0), (73, .aload_n 0, 74, 0, 0, 0, 0), (74, .getfield 34, 77, 0, 0, 3, 0), (77, .invokestatic 37, 80, 0, 5, 0, 1), (80, .aload_n 1, 81, 1, 0, 0, 0), (81, .getfield 24, 84, 0, 12, 6, 0), (84, .iconst 0, 85, 0, 0, 0, 0), (85, .aload_n 0, 86, 0, 0, 0, 0), (86, .getfield 24, 89, 0, 12, 6, 0), (89, .iconst 0, 90, 0, 0, 0, 0), (90, .aload_n 0, 91, 0, 0, 0, 0), (91, .getfield 34, 94, 0, 0, 3, 0), (94, .invokestatic 37, 97, 0, 5, 0, 1), (97, .aload_n 1, 98, 1, 0, 0, 0), (98, .getfield 27, 101, 0, 14, 7, 0), (101, .iconst 0, 102, 0, 0, 0, 0), (102, .aload_n 0, 103, 0, 0, 0, 0), (103, .getfield 27, 106, 0, 14, 7, 0), (106, .iconst 0, 107, 0, 0, 0, 0), (107, .aload_n 0, 108, 0, 0, 0, 0), (108, .getfield 34, 111, 0, 0, 3, 0), (111, .invokestatic 37, 114, 0, 5, 0, 1), (114, .return_, 115, 0, 0, 0, 0)]
def pg_1 : List En := sg_1_0
/-! 2 Bugs.isTold -/
def sg_2_0 : List En := [(0, .iconst 0, 1, 0, 0, 0, 0), (1, .istore_n 2, 2, 2, 0, 0, 0)]
def sg_2_2 : List En := [(2, .iload_n 2, 3, 2, 0, 0, 0), (3, .aload_n 0, 4, 0, 0, 0, 0), (4, .getfield 30, 7, 0, 0, 0, 0), (7, .if_icmp .ge 21, 10, 28, 0, 0, 0), (10, .aload_n 0, 11, 0, 0, 0, 0), (11, .getfield 9, 14, 0, 4, 1, 0), (14, .iload_n 2, 15, 2, 0, 0, 0), (15, .iaload, 16, 0, 0, 0, 0), (16, .iload_n 1, 17, 1, 0, 0, 0), (17, .if_icmp .ne 5, 20, 22, 0, 0, 0), (20, .iconst 1, 21, 0, 0, 0, 0), (21, .ireturn, 22, 0, 0, 0, 1)]
def sg_2_22 : List En := [(22, .iinc 2 1, 25, 2, 0, 1, 0), (25, .goto (-23), 28, 2, 0, 0, 0)]
def sg_2_28 : List En := [(28, .iconst 0, 29, 0, 0, 0, 0), (29, .ireturn, 30, 0, 0, 0, 1)]
def pg_2 : List En := sg_2_0 ++ sg_2_2 ++ sg_2_22 ++ sg_2_28
/-! 3 Bugs.addBug -/
def sg_3_0 : List En := [(0, .aload_n 0, 1, 0, 0, 0, 0), (1, .getfield 30, 4, 0, 0, 0, 0), (4, .bipush 6, 6, 0, 0, 0, 0), (6, .if_icmp .ge 33, 9, 39, 0, 0, 0), (9, .aload_n 0, 10, 0, 0, 0, 0), (10, .getfield 9, 13, 0, 4, 1, 0), (13, .aload_n 0, 14, 0, 0, 0, 0), (14, .getfield 30, 17, 0, 0, 0, 0), (17, .iload_n 1, 18, 1, 0, 0, 0), (18, .iastore, 19, 0, 0, 0, 0), (19, .aload_n 0, 20, 0, 0, 0, 0), (20, .getfield 15, 23, 0, 6, 2, 0), (23, .aload_n 0, 24, 0, 0, 0, 0), (24, .getfield 30, 27, 0, 0, 0, 0), (27, .iload_n 2, 28, 2, 0, 0, 0), (28, .iastore, 29, 0, 0, 0, 0), (29, .aload_n 0, 30, 0, 0, 0, 0), (30, .dup, 31, 0, 0, 0, 0), (31, .getfield 30, 34, 0, 0, 0, 0), (34, .iconst 1, 35, 0, 0, 0, 0), (35, .iadd, 36, 0, 0, 0, 0), (36, .putfield 30, 39, 0, 0, 0, 0)]
def sg_3_39 : List En := [(39, .return_, 40, 0, 0, 0, 0)]
def pg_3 : List En := sg_3_0 ++ sg_3_39
/-! 4 Bugs.addFact -/
def sg_4_0 : List En := [(0, .aload_n 0, 1, 0, 0, 0, 0), (1, .getfield 34, 4, 0, 0, 3, 0), (4, .sipush 333, 7, 0, 0, 0, 0), (7, .if_icmp .ge 54, 10, 61, 0, 0, 0), (10, .aload_n 0, 11, 0, 0, 0, 0), (11, .getfield 18, 14, 0, 8, 4, 0), (14, .aload_n 0, 15, 0, 0, 0, 0), (15, .getfield 34, 18, 0, 0, 3, 0), (18, .iload_n 1, 19, 1, 0, 0, 0), (19, .iastore, 20, 0, 0, 0, 0), (20, .aload_n 0, 21, 0, 0, 0, 0), (21, .getfield 21, 24, 0, 10, 5, 0), (24, .aload_n 0, 25, 0, 0, 0, 0), (25, .getfield 34, 28, 0, 0, 3, 0), (28, .iload_n 2, 29, 2, 0, 0, 0), (29, .iastore, 30, 0, 0, 0, 0), (30, .aload_n 0, 31, 0, 0, 0, 0), (31, .getfield 24, 34, 0, 12, 6, 0), (34, .aload_n 0, 35, 0, 0, 0, 0), (35, .getfield 34, 38, 0, 0, 3, 0), (38, .iload_n 3, 39, 3, 0, 0, 0), (39, .iastore, 40, 0, 0, 0, 0), (40, .aload_n 0, 41, 0, 0, 0, 0), (41, .getfield 27, 44, 0, 14, 7, 0), (44, .aload_n 0, 45, 0, 0, 0, 0), (45, .getfield 34, 48, 0, 0, 3, 0), (48, .iload 4, 50, 4, 0, 0, 0), (50, .iastore, 51, 0, 0, 0, 0), (51, .aload_n 0, 52, 0, 0, 0, 0), (52, .dup, 53, 0, 0, 0, 0), (53, .getfield 34, 56, 0, 0, 3, 0), (56, .iconst 1, 57, 0, 0, 0, 0), (57, .iadd, 58, 0, 0, 0, 0), (58, .putfield 34, 61, 0, 0, 3, 0)]
def sg_4_61 : List En := [(61, .return_, 62, 0, 0, 0, 0)]
def pg_4 : List En := sg_4_0 ++ sg_4_61
/-! 5 Bugs.addStep -/
def sg_5_0 : List En := [(0, .aload_n 0, 1, 0, 0, 0, 0), (1, .iload_n 1, 2, 1, 0, 0, 0), (2, .iconst (-1), 3, 0, 0, 0, 0), (3, .iconst (-1), 4, 0, 0, 0, 0), (4, .iconst 0, 5, 0, 0, 0, 0), (5, .invokevirtual 43, 8, 4, 5, 0, 0), (8, .return_, 9, 0, 0, 0, 0)]
def pg_5 : List En := sg_5_0
/-! 6 Bugs.bitsFor -/
def sg_6_0 : List En := [(0, .iconst 0, 1, 0, 0, 0, 0), (1, .istore_n 2, 2, 2, 0, 0, 0), (2, .iconst 0, 3, 0, 0, 0, 0), (3, .istore_n 3, 4, 3, 0, 0, 0), (4, .iconst 0, 5, 0, 0, 0, 0), (5, .istore 4, 7, 4, 0, 0, 0), (7, .iconst 0, 8, 0, 0, 0, 0), (8, .istore 5, 10, 5, 0, 0, 0)]
def sg_6_10 : List En := [(10, .iload 5, 12, 5, 0, 0, 0), (12, .aload_n 0, 13, 0, 0, 0, 0), (13, .getfield 34, 16, 0, 0, 3, 0), (16, .if_icmp .ge 185, 19, 201, 0, 0, 0), (19, .iload_n 3, 20, 3, 0, 0, 0), (20, .bipush 6, 22, 0, 0, 0, 0), (22, .if_icmp .ge 179, 25, 201, 0, 0, 0), (25, .iload 4, 27, 4, 0, 0, 0), (27, .iconst 1, 28, 0, 0, 0, 0), (28, .iand, 29, 0, 0, 0, 0), (29, .istore 6, 31, 6, 0, 0, 0), (31, .aload_n 0, 32, 0, 0, 0, 0), (32, .getfield 18, 35, 0, 8, 4, 0), (35, .iload 5, 37, 5, 0, 0, 0), (37, .iaload, 38, 0, 0, 0, 0), (38, .tableswitch 92 15 18 #[30, 39, 64, 76], 68, 0, 0, 0, 0)]
def sg_6_68 : List En := [(68, .iload 4, 70, 4, 0, 0, 0), (70, .iconst 1, 71, 0, 0, 0, 0), (71, .ixor, 72, 0, 0, 0, 0), (72, .istore 4, 74, 4, 0, 0, 0), (74, .goto 121, 77, 195, 0, 0, 0)]
def sg_6_77 : List En := [(77, .iload 6, 79, 6, 0, 0, 0), (79, .iconst 1, 80, 0, 0, 0, 0), (80, .if_icmp .ne 10, 83, 90, 0, 0, 0), (83, .iload 4, 85, 4, 0, 0, 0), (85, .iconst 1, 86, 0, 0, 0, 0), (86, .ishr, 87, 0, 0, 0, 0), (87, .goto 10, 90, 97, 0, 0, 0)]
def sg_6_90 : List En := [(90, .iload 4, 92, 4, 0, 0, 0), (92, .iconst 1, 93, 0, 0, 0, 0), (93, .ishr, 94, 0, 0, 0, 0), (94, .bipush (-2), 96, 0, 0, 0, 0), (96, .iand, 97, 0, 0, 0, 0)]
def sg_6_97 : List En := [(97, .istore 4, 99, 4, 0, 0, 0), (99, .goto 96, 102, 195, 0, 0, 0)]
def sg_6_102 : List En := [(102, .iload 4, 104, 4, 0, 0, 0), (104, .iconst 1, 105, 0, 0, 0, 0), (105, .ishr, 106, 0, 0, 0, 0), (106, .iload 6, 108, 6, 0, 0, 0), (108, .ior, 109, 0, 0, 0, 0), (109, .istore 4, 111, 4, 0, 0, 0), (111, .goto 84, 114, 195, 0, 0, 0)]
def sg_6_114 : List En := [(114, .iload_n 2, 115, 2, 0, 0, 0), (115, .iload 6, 117, 6, 0, 0, 0), (117, .iload_n 3, 118, 3, 0, 0, 0), (118, .ishl, 119, 0, 0, 0, 0), (119, .ior, 120, 0, 0, 0, 0), (120, .istore_n 2, 121, 2, 0, 0, 0), (121, .iinc 3 1, 124, 3, 0, 1, 0), (124, .iconst 0, 125, 0, 0, 0, 0), (125, .istore 4, 127, 4, 0, 0, 0), (127, .goto 68, 130, 195, 0, 0, 0)]
def sg_6_130 : List En := [(130, .aload_n 1, 131, 1, 0, 0, 0), (131, .aload_n 0, 132, 0, 0, 0, 0), (132, .getfield 18, 135, 0, 8, 4, 0), (135, .iload 5, 137, 5, 0, 0, 0), (137, .iaload, 138, 0, 0, 0, 0), (138, .iconst 3, 139, 0, 0, 0, 0), (139, .idiv, 140, 0, 0, 0, 0), (140, .aload_n 0, 141, 0, 0, 0, 0), (141, .getfield 21, 144, 0, 10, 5, 0), (144, .iload 5, 146, 5, 0, 0, 0), (146, .iaload, 147, 0, 0, 0, 0), (147, .aload_n 0, 148, 0, 0, 0, 0), (148, .getfield 24, 151, 0, 12, 6, 0), (151, .iload 5, 153, 5, 0, 0, 0), (153, .iaload, 154, 0, 0, 0, 0), (154, .invokevirtual 47, 157, 89, 4, 1, 9), (157, .istore 7, 159, 7, 0, 0, 0), (159, .iload 4, 161, 4, 0, 0, 0), (161, .iconst 1, 162, 0, 0, 0, 0), (162, .ishl, 163, 0, 0, 0, 0), (163, .iload 7, 165, 7, 0, 0, 0), (165, .aload_n 0, 166, 0, 0, 0, 0), (166, .getfield 18, 169, 0, 8, 4, 0), (169, .iload 5, 171, 5, 0, 0, 0), (171, .iaload, 172, 0, 0, 0, 0), (172, .iconst 3, 173, 0, 0, 0, 0), (173, .irem, 174, 0, 0, 0, 0), (174, .aload_n 0, 175, 0, 0, 0, 0), (175, .getfield 27, 178, 0, 14, 7, 0), (178, .iload 5, 180, 5, 0, 0, 0), (180, .iaload, 181, 0, 0, 0, 0), (181, .invokestatic 53, 184, 7, 3, 1, 0), (184, .ifCond .eq 7, 187, 191, 0, 0, 0), (187, .iconst 1, 188, 0, 0, 0, 0), (188, .goto 4, 191, 192, 0, 0, 0)]
def sg_6_191 : List En := [(191, .iconst 0, 192, 0, 0, 0, 0)]
def sg_6_192 : List En := [(192, .ior, 193, 0, 0, 0, 0), (193, .istore 4, 195, 4, 0, 0, 0)]
def sg_6_195 : List En := [(195, .iinc 5 1, 198, 5, 0, 1, 0), (198, .goto (-188), 201, 10, 0, 0, 0)]
def sg_6_201 : List En := [(201, .iload_n 2, 202, 2, 0, 0, 0), (202, .ireturn, 203, 0, 0, 0, 0)]
def pg_6 : List En := sg_6_0 ++ sg_6_10 ++ sg_6_68 ++ sg_6_77 ++ sg_6_90 ++ sg_6_97 ++ sg_6_102 ++ sg_6_114 ++ sg_6_130 ++ sg_6_191 ++ sg_6_192 ++ sg_6_195 ++ sg_6_201
/-! 7 Bugs.compares -/
def sg_7_0 : List En := [(0, .iload_n 1, 1, 1, 0, 0, 0), (1, .ifCond .ne 14, 4, 15, 0, 0, 0), (4, .iload_n 0, 5, 0, 0, 0, 0), (5, .iload_n 2, 6, 2, 0, 0, 0), (6, .if_icmp .ge 7, 9, 13, 0, 0, 0), (9, .iconst 1, 10, 0, 0, 0, 0), (10, .goto 4, 13, 14, 0, 0, 0)]
def sg_7_13 : List En := [(13, .iconst 0, 14, 0, 0, 0, 0)]
def sg_7_14 : List En := [(14, .ireturn, 15, 0, 0, 0, 1)]
def sg_7_15 : List En := [(15, .iload_n 1, 16, 1, 0, 0, 0), (16, .iconst 1, 17, 0, 0, 0, 0), (17, .if_icmp .ne 16, 20, 33, 0, 0, 0), (20, .iload_n 0, 21, 0, 0, 0, 0), (21, .iload_n 2, 22, 2, 0, 0, 0), (22, .if_icmp .le 7, 25, 29, 0, 0, 0), (25, .iconst 1, 26, 0, 0, 0, 0), (26, .goto 17, 29, 43, 0, 0, 0)]
def sg_7_29 : List En := [(29, .iconst 0, 30, 0, 0, 0, 0), (30, .goto 13, 33, 43, 0, 0, 0)]
def sg_7_33 : List En := [(33, .iload_n 0, 34, 0, 0, 0, 0), (34, .iload_n 2, 35, 2, 0, 0, 0), (35, .if_icmp .ne 7, 38, 42, 0, 0, 0), (38, .iconst 1, 39, 0, 0, 0, 0), (39, .goto 4, 42, 43, 0, 0, 0)]
def sg_7_42 : List En := [(42, .iconst 0, 43, 0, 0, 0, 0)]
def sg_7_43 : List En := [(43, .ireturn, 44, 0, 0, 0, 1)]
def pg_7 : List En := sg_7_0 ++ sg_7_13 ++ sg_7_14 ++ sg_7_15 ++ sg_7_29 ++ sg_7_33 ++ sg_7_42 ++ sg_7_43
/-! 8 BugsReader.readAll -/
def sg_8_0 : List En := [(0, .aload_n 0, 1, 0, 0, 0, 0), (1, .getfield 23, 4, 1, 65, 2, 0), (4, .invokevirtual 27, 7, 0, 1, 0, 0), (7, .aload_n 0, 8, 0, 0, 0, 0), (8, .getfield 15, 11, 1, 7, 0, 0), (11, .invokevirtual 32, 14, 65, 1, 0, 8), (14, .iconst 0, 15, 0, 0, 0, 0), (15, .istore_n 1, 16, 1, 0, 0, 0)]
def sg_8_16 : List En := [(16, .iload_n 1, 17, 1, 0, 0, 0), (17, .bipush 6, 19, 0, 0, 0, 0), (19, .if_icmp .gt 35, 22, 54, 0, 0, 0), (22, .aload_n 0, 23, 0, 0, 0, 0), (23, .getfield 15, 26, 1, 7, 0, 0), (26, .invokevirtual 37, 29, 72, 1, 1, 8), (29, .ifCond .ne 25, 32, 54, 0, 0, 0), (32, .aload_n 0, 33, 0, 0, 0, 0), (33, .invokevirtual 41, 36, 9, 1, 1, 1), (36, .ifCond .eq 10, 39, 46, 0, 0, 0), (39, .aload_n 0, 40, 0, 0, 0, 0), (40, .invokevirtual 44, 43, 10, 1, 1, 1), (43, .ifCond .ne 5, 46, 48, 0, 0, 0)]
def sg_8_46 : List En := [(46, .iconst 0, 47, 0, 0, 0, 0), (47, .ireturn, 48, 0, 0, 0, 1)]
def sg_8_48 : List En := [(48, .iinc 1 1, 51, 1, 0, 1, 0), (51, .goto (-35), 54, 16, 0, 0, 0)]
def sg_8_54 : List En := [(54, .iconst 1, 55, 0, 0, 0, 0), (55, .ireturn, 56, 0, 0, 0, 1)]
def pg_8 : List En := sg_8_0 ++ sg_8_16 ++ sg_8_46 ++ sg_8_48 ++ sg_8_54
/-! 9 BugsReader.readHead -/
def sg_9_0 : List En := [(0, .aload_n 0, 1, 0, 0, 0, 0), (1, .getfield 15, 4, 1, 7, 0, 0), (4, .ldc 47, 6, 0, 0, 89358336, 0), (6, .invokevirtual 48, 9, 73, 2, 1, 8), (9, .ifCond .ne 12, 12, 21, 0, 0, 0), (12, .aload_n 0, 13, 0, 0, 0, 0), (13, .getfield 15, 16, 1, 7, 0, 0), (16, .iconst 1, 17, 0, 0, 0, 0), (17, .invokevirtual 52, 20, 66, 2, 1, 8), (20, .ireturn, 21, 0, 0, 0, 1)]
def sg_9_21 : List En := [(21, .aload_n 0, 22, 0, 0, 0, 0), (22, .getfield 23, 25, 1, 65, 2, 0), (25, .getfield 55, 28, 0, 0, 0, 0), (28, .bipush 6, 30, 0, 0, 0, 0), (30, .if_icmp .ne 12, 33, 42, 0, 0, 0), (33, .aload_n 0, 34, 0, 0, 0, 0), (34, .getfield 15, 37, 1, 7, 0, 0), (37, .iconst 4, 38, 0, 0, 0, 0), (38, .invokevirtual 52, 41, 66, 2, 1, 8), (41, .ireturn, 42, 0, 0, 0, 1)]
def sg_9_42 : List En := [(42, .aload_n 0, 43, 0, 0, 0, 0), (43, .getfield 15, 46, 1, 7, 0, 0), (46, .invokevirtual 59, 49, 67, 1, 0, 8), (49, .aload_n 0, 50, 0, 0, 0, 0), (50, .getfield 15, 53, 1, 7, 0, 0), (53, .invokevirtual 62, 56, 76, 1, 1, 8), (56, .ifCond .ne 12, 59, 68, 0, 0, 0), (59, .aload_n 0, 60, 0, 0, 0, 0), (60, .getfield 15, 63, 1, 7, 0, 0), (63, .iconst 1, 64, 0, 0, 0, 0), (64, .invokevirtual 52, 67, 66, 2, 1, 8), (67, .ireturn, 68, 0, 0, 0, 1)]
def sg_9_68 : List En := [(68, .aload_n 0, 69, 0, 0, 0, 0), (69, .getfield 15, 72, 1, 7, 0, 0), (72, .getfield 65, 75, 8, 0, 5, 0), (75, .istore_n 1, 76, 1, 0, 0, 0), (76, .aload_n 0, 77, 0, 0, 0, 0), (77, .getfield 23, 80, 1, 65, 2, 0), (80, .iload_n 1, 81, 1, 0, 0, 0), (81, .invokevirtual 68, 84, 2, 2, 1, 0), (84, .ifCond .eq 12, 87, 96, 0, 0, 0), (87, .aload_n 0, 88, 0, 0, 0, 0), (88, .getfield 15, 91, 1, 7, 0, 0), (91, .iconst 3, 92, 0, 0, 0, 0), (92, .invokevirtual 52, 95, 66, 2, 1, 8), (95, .ireturn, 96, 0, 0, 0, 1)]
def sg_9_96 : List En := [(96, .aload_n 0, 97, 0, 0, 0, 0), (97, .getfield 15, 100, 1, 7, 0, 0), (100, .invokevirtual 59, 103, 67, 1, 0, 8), (103, .aload_n 0, 104, 0, 0, 0, 0), (104, .getfield 15, 107, 1, 7, 0, 0), (107, .ldc 71, 109, 0, 0, 507661312, 0), (109, .invokevirtual 72, 112, 77, 2, 1, 8), (112, .ifCond .ne 5, 115, 117, 0, 0, 0), (115, .iconst 0, 116, 0, 0, 0, 0), (116, .ireturn, 117, 0, 0, 0, 1)]
def sg_9_117 : List En := [(117, .aload_n 0, 118, 0, 0, 0, 0), (118, .getfield 15, 121, 1, 7, 0, 0), (121, .invokevirtual 75, 124, 75, 1, 1, 8), (124, .ifCond .ne 12, 127, 136, 0, 0, 0), (127, .aload_n 0, 128, 0, 0, 0, 0), (128, .getfield 15, 131, 1, 7, 0, 0), (131, .iconst 1, 132, 0, 0, 0, 0), (132, .invokevirtual 52, 135, 66, 2, 1, 8), (135, .ireturn, 136, 0, 0, 0, 1)]
def sg_9_136 : List En := [(136, .aload_n 0, 137, 0, 0, 0, 0), (137, .getfield 15, 140, 1, 7, 0, 0), (140, .getfield 65, 143, 8, 0, 5, 0), (143, .istore_n 2, 144, 2, 0, 0, 0), (144, .iload_n 2, 145, 2, 0, 0, 0), (145, .iconst 1, 146, 0, 0, 0, 0), (146, .if_icmp .lt 9, 149, 155, 0, 0, 0), (149, .iload_n 2, 150, 2, 0, 0, 0), (150, .bipush 100, 152, 0, 0, 0, 0), (152, .if_icmp .le 12, 155, 164, 0, 0, 0)]
def sg_9_155 : List En := [(155, .aload_n 0, 156, 0, 0, 0, 0), (156, .getfield 15, 159, 1, 7, 0, 0), (159, .iconst 2, 160, 0, 0, 0, 0), (160, .invokevirtual 52, 163, 66, 2, 1, 8), (163, .ireturn, 164, 0, 0, 0, 1)]
def sg_9_164 : List En := [(164, .aload_n 0, 165, 0, 0, 0, 0), (165, .getfield 15, 168, 1, 7, 0, 0), (168, .invokevirtual 59, 171, 67, 1, 0, 8), (171, .aload_n 0, 172, 0, 0, 0, 0), (172, .getfield 23, 175, 1, 65, 2, 0), (175, .iload_n 1, 176, 1, 0, 0, 0), (176, .iload_n 2, 177, 2, 0, 0, 0), (177, .invokevirtual 78, 180, 3, 3, 0, 0), (180, .aload_n 0, 181, 0, 0, 0, 0), (181, .getfield 15, 184, 1, 7, 0, 0), (184, .ldc 82, 186, 0, 0, 780318720, 0), (186, .invokevirtual 72, 189, 77, 2, 1, 8), (189, .ireturn, 190, 0, 0, 0, 1)]
def pg_9 : List En := sg_9_0 ++ sg_9_21 ++ sg_9_42 ++ sg_9_68 ++ sg_9_96 ++ sg_9_117 ++ sg_9_136 ++ sg_9_155 ++ sg_9_164
/-! 10 BugsReader.readTest -/
def sg_10_0 : List En := [(0, .aload_n 0, 1, 0, 0, 0, 0), (1, .iconst 0, 2, 0, 0, 0, 0), (2, .putfield 83, 5, 1, 0, 4, 0), (5, .aload_n 0, 6, 0, 0, 0, 0), (6, .iconst 0, 7, 0, 0, 0, 0), (7, .putfield 86, 10, 1, 0, 5, 0), (10, .iconst 0, 11, 0, 0, 0, 0), (11, .istore_n 1, 12, 1, 0, 0, 0)]
def sg_10_12 : List En := [(12, .iload_n 1, 13, 1, 0, 0, 0), (13, .sipush 1000, 16, 0, 0, 0, 0), (16, .if_icmp .ge 110, 19, 126, 0, 0, 0), (19, .aload_n 0, 20, 0, 0, 0, 0), (20, .invokevirtual 89, 23, 13, 1, 1, 1), (23, .ifCond .eq 10, 26, 33, 0, 0, 0), (26, .aload_n 0, 27, 0, 0, 0, 0), (27, .invokevirtual 92, 30, 17, 1, 1, 1), (30, .ifCond .ne 5, 33, 35, 0, 0, 0)]
def sg_10_33 : List En := [(33, .iconst 0, 34, 0, 0, 0, 0), (34, .ireturn, 35, 0, 0, 0, 1)]
def sg_10_35 : List En := [(35, .aload_n 0, 36, 0, 0, 0, 0), (36, .invokevirtual 95, 39, 15, 1, 0, 1), (39, .aload_n 0, 40, 0, 0, 0, 0), (40, .invokevirtual 98, 43, 14, 1, 1, 1), (43, .ifCond .ne 5, 46, 48, 0, 0, 0), (46, .iconst 0, 47, 0, 0, 0, 0), (47, .ireturn, 48, 0, 0, 0, 1)]
def sg_10_48 : List En := [(48, .aload_n 0, 49, 0, 0, 0, 0), (49, .getfield 15, 52, 1, 7, 0, 0), (52, .ldc 101, 54, 0, 0, 48365568, 0), (54, .invokevirtual 48, 57, 73, 2, 1, 8), (57, .ifCond .eq 18, 60, 75, 0, 0, 0), (60, .aload_n 0, 61, 0, 0, 0, 0), (61, .bipush 16, 63, 0, 0, 0, 0), (63, .invokevirtual 102, 66, 16, 2, 0, 1), (66, .aload_n 0, 67, 0, 0, 0, 0), (67, .bipush 16, 69, 0, 0, 0, 0), (69, .invokevirtual 106, 72, 12, 2, 0, 1), (72, .goto 41, 75, 113, 0, 0, 0)]
def sg_10_75 : List En := [(75, .aload_n 0, 76, 0, 0, 0, 0), (76, .getfield 15, 79, 1, 7, 0, 0), (79, .ldc 109, 81, 0, 0, 522190848, 0), (81, .invokevirtual 48, 84, 73, 2, 1, 8), (84, .ifCond .eq 18, 87, 102, 0, 0, 0), (87, .aload_n 0, 88, 0, 0, 0, 0), (88, .bipush 17, 90, 0, 0, 0, 0), (90, .invokevirtual 102, 93, 16, 2, 0, 1), (93, .aload_n 0, 94, 0, 0, 0, 0), (94, .bipush 17, 96, 0, 0, 0, 0), (96, .invokevirtual 106, 99, 12, 2, 0, 1), (99, .goto 14, 102, 113, 0, 0, 0)]
def sg_10_102 : List En := [(102, .aload_n 0, 103, 0, 0, 0, 0), (103, .bipush 17, 105, 0, 0, 0, 0), (105, .invokevirtual 102, 108, 16, 2, 0, 1), (108, .aload_n 0, 109, 0, 0, 0, 0), (109, .invokevirtual 110, 112, 11, 1, 1, 1), (112, .ireturn, 113, 0, 0, 0, 1)]
def sg_10_113 : List En := [(113, .aload_n 0, 114, 0, 0, 0, 0), (114, .getfield 15, 117, 1, 7, 0, 0), (117, .invokevirtual 59, 120, 67, 1, 0, 8), (120, .iinc 1 1, 123, 1, 0, 1, 0), (123, .goto (-111), 126, 12, 0, 0, 0)]
def sg_10_126 : List En := [(126, .aload_n 0, 127, 0, 0, 0, 0), (127, .getfield 15, 130, 1, 7, 0, 0), (130, .iconst 1, 131, 0, 0, 0, 0), (131, .invokevirtual 52, 134, 66, 2, 1, 8), (134, .ireturn, 135, 0, 0, 0, 1)]
def pg_10 : List En := sg_10_0 ++ sg_10_12 ++ sg_10_33 ++ sg_10_35 ++ sg_10_48 ++ sg_10_75 ++ sg_10_102 ++ sg_10_113 ++ sg_10_126
/-! 11 BugsReader.endTest -/
def sg_11_0 : List En := [(0, .aload_n 0, 1, 0, 0, 0, 0), (1, .getfield 83, 4, 1, 0, 4, 0), (4, .ifCond .le 12, 7, 16, 0, 0, 0), (7, .aload_n 0, 8, 0, 0, 0, 0), (8, .getfield 15, 11, 1, 7, 0, 0), (11, .iconst 1, 12, 0, 0, 0, 0), (12, .invokevirtual 52, 15, 66, 2, 1, 8), (15, .ireturn, 16, 0, 0, 0, 1)]
def sg_11_16 : List En := [(16, .aload_n 0, 17, 0, 0, 0, 0), (17, .getfield 23, 20, 1, 65, 2, 0), (20, .bipush 18, 22, 0, 0, 0, 0), (22, .invokevirtual 113, 25, 5, 2, 0, 0), (25, .aload_n 0, 26, 0, 0, 0, 0), (26, .getfield 15, 29, 1, 7, 0, 0), (29, .bipush 59, 31, 0, 0, 0, 0), (31, .invokevirtual 116, 34, 78, 2, 1, 8), (34, .ireturn, 35, 0, 0, 0, 1)]
def pg_11 : List En := sg_11_0 ++ sg_11_16
/-! 12 BugsReader.holdBack -/
def sg_12_0 : List En := [(0, .aload_n 0, 1, 0, 0, 0, 0), (1, .getfield 83, 4, 1, 0, 4, 0), (4, .bipush 21, 6, 0, 0, 0, 0), (6, .if_icmp .ge 23, 9, 29, 0, 0, 0), (9, .aload_n 0, 10, 0, 0, 0, 0), (10, .getfield 11, 13, 1, 4, 3, 0), (13, .aload_n 0, 14, 0, 0, 0, 0), (14, .getfield 83, 17, 1, 0, 4, 0), (17, .iload_n 1, 18, 1, 0, 0, 0), (18, .iastore, 19, 0, 0, 0, 0), (19, .aload_n 0, 20, 0, 0, 0, 0), (20, .dup, 21, 0, 0, 0, 0), (21, .getfield 83, 24, 1, 0, 4, 0), (24, .iconst 1, 25, 0, 0, 0, 0), (25, .iadd, 26, 0, 0, 0, 0), (26, .putfield 83, 29, 1, 0, 4, 0)]
def sg_12_29 : List En := [(29, .return_, 30, 0, 0, 0, 0)]
def pg_12 : List En := sg_12_0 ++ sg_12_29
/-! 13 BugsReader.readAhead -/
def sg_13_0 : List En := [(0, .iconst 0, 1, 0, 0, 0, 0), (1, .istore_n 1, 2, 1, 0, 0, 0)]
def sg_13_2 : List En := [(2, .iload_n 1, 3, 1, 0, 0, 0), (3, .bipush 6, 5, 0, 0, 0, 0), (5, .if_icmp .gt 86, 8, 91, 0, 0, 0), (8, .aload_n 0, 9, 0, 0, 0, 0), (9, .getfield 15, 12, 1, 7, 0, 0), (12, .ldc 119, 14, 0, 0, 486146048, 0), (14, .invokevirtual 48, 17, 73, 2, 1, 8), (17, .istore_n 2, 18, 2, 0, 0, 0), (18, .iload_n 2, 19, 2, 0, 0, 0), (19, .ifCond .ne 17, 22, 36, 0, 0, 0), (22, .aload_n 0, 23, 0, 0, 0, 0), (23, .getfield 15, 26, 1, 7, 0, 0), (26, .bipush 91, 28, 0, 0, 0, 0), (28, .invokevirtual 120, 31, 74, 2, 1, 8), (31, .ifCond .ne 5, 34, 36, 0, 0, 0), (34, .iconst 1, 35, 0, 0, 0, 0), (35, .ireturn, 36, 0, 0, 0, 1)]
def sg_13_36 : List En := [(36, .aload_n 0, 37, 0, 0, 0, 0), (37, .getfield 86, 40, 1, 0, 5, 0), (40, .bipush 6, 42, 0, 0, 0, 0), (42, .if_icmp .ne 12, 45, 54, 0, 0, 0), (45, .aload_n 0, 46, 0, 0, 0, 0), (46, .getfield 15, 49, 1, 7, 0, 0), (49, .iconst 4, 50, 0, 0, 0, 0), (50, .invokevirtual 52, 53, 66, 2, 1, 8), (53, .ireturn, 54, 0, 0, 0, 1)]
def sg_13_54 : List En := [(54, .aload_n 0, 55, 0, 0, 0, 0), (55, .iload_n 2, 56, 2, 0, 0, 0), (56, .ifCond .eq 8, 59, 64, 0, 0, 0), (59, .bipush 15, 61, 0, 0, 0, 0), (61, .goto 4, 64, 65, 0, 0, 0)]
def sg_13_64 : List En := [(64, .iconst 0, 65, 0, 0, 0, 0)]
def sg_13_65 : List En := [(65, .invokevirtual 106, 68, 12, 2, 0, 1), (68, .aload_n 0, 69, 0, 0, 0, 0), (69, .dup, 70, 0, 0, 0, 0), (70, .getfield 86, 73, 1, 0, 5, 0), (73, .iconst 1, 74, 0, 0, 0, 0), (74, .iadd, 75, 0, 0, 0, 0), (75, .putfield 86, 78, 1, 0, 5, 0), (78, .aload_n 0, 79, 0, 0, 0, 0), (79, .getfield 15, 82, 1, 7, 0, 0), (82, .invokevirtual 59, 85, 67, 1, 0, 8), (85, .iinc 1 1, 88, 1, 0, 1, 0), (88, .goto (-86), 91, 2, 0, 0, 0)]
def sg_13_91 : List En := [(91, .iconst 1, 92, 0, 0, 0, 0), (92, .ireturn, 93, 0, 0, 0, 1)]
def pg_13 : List En := sg_13_0 ++ sg_13_2 ++ sg_13_36 ++ sg_13_54 ++ sg_13_64 ++ sg_13_65 ++ sg_13_91
/-! 14 BugsReader.readClosed -/
def sg_14_0 : List En := [(0, .iconst 0, 1, 0, 0, 0, 0), (1, .istore_n 1, 2, 1, 0, 0, 0)]
def sg_14_2 : List En := [(2, .iload_n 1, 3, 1, 0, 0, 0), (3, .sipush 1000, 6, 0, 0, 0, 0), (6, .if_icmp .ge 74, 9, 80, 0, 0, 0), (9, .aload_n 0, 10, 0, 0, 0, 0), (10, .getfield 15, 13, 1, 7, 0, 0), (13, .bipush 93, 15, 0, 0, 0, 0), (15, .invokevirtual 120, 18, 74, 2, 1, 8), (18, .ifCond .eq 62, 21, 80, 0, 0, 0), (21, .aload_n 0, 22, 0, 0, 0, 0), (22, .bipush 17, 24, 0, 0, 0, 0), (24, .invokevirtual 102, 27, 16, 2, 0, 1), (27, .aload_n 0, 28, 0, 0, 0, 0), (28, .getfield 83, 31, 1, 0, 4, 0), (31, .ifCond .ne 12, 34, 43, 0, 0, 0), (34, .aload_n 0, 35, 0, 0, 0, 0), (35, .getfield 15, 38, 1, 7, 0, 0), (38, .iconst 1, 39, 0, 0, 0, 0), (39, .invokevirtual 52, 42, 66, 2, 1, 8), (42, .ireturn, 43, 0, 0, 0, 1)]
def sg_14_43 : List En := [(43, .aload_n 0, 44, 0, 0, 0, 0), (44, .dup, 45, 0, 0, 0, 0), (45, .getfield 83, 48, 1, 0, 4, 0), (48, .iconst 1, 49, 0, 0, 0, 0), (49, .isub, 50, 0, 0, 0, 0), (50, .putfield 83, 53, 1, 0, 4, 0), (53, .aload_n 0, 54, 0, 0, 0, 0), (54, .dup, 55, 0, 0, 0, 0), (55, .getfield 86, 58, 1, 0, 5, 0), (58, .iconst 1, 59, 0, 0, 0, 0), (59, .isub, 60, 0, 0, 0, 0), (60, .putfield 86, 63, 1, 0, 5, 0), (63, .aload_n 0, 64, 0, 0, 0, 0), (64, .getfield 15, 67, 1, 7, 0, 0), (67, .invokevirtual 59, 70, 67, 1, 0, 8), (70, .aload_n 0, 71, 0, 0, 0, 0), (71, .invokevirtual 95, 74, 15, 1, 0, 1), (74, .iinc 1 1, 77, 1, 0, 1, 0), (77, .goto (-75), 80, 2, 0, 0, 0)]
def sg_14_80 : List En := [(80, .iconst 1, 81, 0, 0, 0, 0), (81, .ireturn, 82, 0, 0, 0, 1)]
def pg_14 : List En := sg_14_0 ++ sg_14_2 ++ sg_14_43 ++ sg_14_80
/-! 15 BugsReader.writeNots -/
def sg_15_0 : List En := [(0, .aload_n 0, 1, 0, 0, 0, 0), (1, .getfield 83, 4, 1, 0, 4, 0), (4, .ifCond .le 51, 7, 55, 0, 0, 0), (7, .aload_n 0, 8, 0, 0, 0, 0), (8, .getfield 11, 11, 1, 4, 3, 0), (11, .aload_n 0, 12, 0, 0, 0, 0), (12, .getfield 83, 15, 1, 0, 4, 0), (15, .iconst 1, 16, 0, 0, 0, 0), (16, .isub, 17, 0, 0, 0, 0), (17, .iaload, 18, 0, 0, 0, 0), (18, .bipush 15, 20, 0, 0, 0, 0), (20, .if_icmp .ne 35, 23, 55, 0, 0, 0), (23, .aload_n 0, 24, 0, 0, 0, 0), (24, .dup, 25, 0, 0, 0, 0), (25, .getfield 83, 28, 1, 0, 4, 0), (28, .iconst 1, 29, 0, 0, 0, 0), (29, .isub, 30, 0, 0, 0, 0), (30, .putfield 83, 33, 1, 0, 4, 0), (33, .aload_n 0, 34, 0, 0, 0, 0), (34, .dup, 35, 0, 0, 0, 0), (35, .getfield 86, 38, 1, 0, 5, 0), (38, .iconst 1, 39, 0, 0, 0, 0), (39, .isub, 40, 0, 0, 0, 0), (40, .putfield 86, 43, 1, 0, 5, 0), (43, .aload_n 0, 44, 0, 0, 0, 0), (44, .getfield 23, 47, 1, 65, 2, 0), (47, .bipush 15, 49, 0, 0, 0, 0), (49, .invokevirtual 113, 52, 5, 2, 0, 0), (52, .goto (-52), 55, 0, 0, 0, 0)]
def sg_15_55 : List En := [(55, .return_, 56, 0, 0, 0, 0)]
def pg_15 : List En := sg_15_0 ++ sg_15_55
/-! 16 BugsReader.writeJoins -/
def sg_16_0 : List En := [(0, .aload_n 0, 1, 0, 0, 0, 0), (1, .getfield 83, 4, 1, 0, 4, 0), (4, .ifCond .le 63, 7, 67, 0, 0, 0), (7, .aload_n 0, 8, 0, 0, 0, 0), (8, .getfield 11, 11, 1, 4, 3, 0), (11, .aload_n 0, 12, 0, 0, 0, 0), (12, .getfield 83, 15, 1, 0, 4, 0), (15, .iconst 1, 16, 0, 0, 0, 0), (16, .isub, 17, 0, 0, 0, 0), (17, .iaload, 18, 0, 0, 0, 0), (18, .bipush 16, 20, 0, 0, 0, 0), (20, .if_icmp .lt 47, 23, 67, 0, 0, 0), (23, .aload_n 0, 24, 0, 0, 0, 0), (24, .getfield 11, 27, 1, 4, 3, 0), (27, .aload_n 0, 28, 0, 0, 0, 0), (28, .getfield 83, 31, 1, 0, 4, 0), (31, .iconst 1, 32, 0, 0, 0, 0), (32, .isub, 33, 0, 0, 0, 0), (33, .iaload, 34, 0, 0, 0, 0), (34, .iload_n 1, 35, 1, 0, 0, 0), (35, .if_icmp .gt 32, 38, 67, 0, 0, 0), (38, .aload_n 0, 39, 0, 0, 0, 0), (39, .dup, 40, 0, 0, 0, 0), (40, .getfield 83, 43, 1, 0, 4, 0), (43, .iconst 1, 44, 0, 0, 0, 0), (44, .isub, 45, 0, 0, 0, 0), (45, .putfield 83, 48, 1, 0, 4, 0), (48, .aload_n 0, 49, 0, 0, 0, 0), (49, .getfield 23, 52, 1, 65, 2, 0), (52, .aload_n 0, 53, 0, 0, 0, 0), (53, .getfield 11, 56, 1, 4, 3, 0), (56, .aload_n 0, 57, 0, 0, 0, 0), (57, .getfield 83, 60, 1, 0, 4, 0), (60, .iaload, 61, 0, 0, 0, 0), (61, .invokevirtual 113, 64, 5, 2, 0, 0), (64, .goto (-64), 67, 0, 0, 0, 0)]
def sg_16_67 : List En := [(67, .return_, 68, 0, 0, 0, 0)]
def pg_16 : List En := sg_16_0 ++ sg_16_67
/-! 17 BugsReader.readFact -/
def sg_17_0 : List En := [(0, .aload_n 0, 1, 0, 0, 0, 0), (1, .invokevirtual 123, 4, 18, 1, 1, 1), (4, .istore_n 1, 5, 1, 0, 0, 0), (5, .iload_n 1, 6, 1, 0, 0, 0), (6, .iconst (-1), 7, 0, 0, 0, 0), (7, .if_icmp .ne 12, 10, 19, 0, 0, 0), (10, .aload_n 0, 11, 0, 0, 0, 0), (11, .getfield 15, 14, 1, 7, 0, 0), (14, .iconst 1, 15, 0, 0, 0, 0), (15, .invokevirtual 52, 18, 66, 2, 1, 8), (18, .ireturn, 19, 0, 0, 0, 1)]
def sg_17_19 : List En := [(19, .aload_n 0, 20, 0, 0, 0, 0), (20, .getfield 15, 23, 1, 7, 0, 0), (23, .invokevirtual 59, 26, 67, 1, 0, 8), (26, .iconst (-1), 27, 0, 0, 0, 0), (27, .istore_n 2, 28, 2, 0, 0, 0), (28, .iconst (-1), 29, 0, 0, 0, 0), (29, .istore_n 3, 30, 3, 0, 0, 0), (30, .iload_n 1, 31, 1, 0, 0, 0), (31, .iconst 2, 32, 0, 0, 0, 0), (32, .if_icmp .lt 15, 35, 47, 0, 0, 0), (35, .aload_n 0, 36, 0, 0, 0, 0), (36, .invokevirtual 127, 39, 20, 1, 1, 1), (39, .istore_n 2, 40, 2, 0, 0, 0), (40, .iload_n 2, 41, 2, 0, 0, 0), (41, .iconst (-1), 42, 0, 0, 0, 0), (42, .if_icmp .ne 5, 45, 47, 0, 0, 0), (45, .iconst 0, 46, 0, 0, 0, 0), (46, .ireturn, 47, 0, 0, 0, 1)]
def sg_17_47 : List En := [(47, .iload_n 1, 48, 1, 0, 0, 0), (48, .iconst 3, 49, 0, 0, 0, 0), (49, .if_icmp .lt 15, 52, 64, 0, 0, 0), (52, .aload_n 0, 53, 0, 0, 0, 0), (53, .invokevirtual 127, 56, 20, 1, 1, 1), (56, .istore_n 3, 57, 3, 0, 0, 0), (57, .iload_n 3, 58, 3, 0, 0, 0), (58, .iconst (-1), 59, 0, 0, 0, 0), (59, .if_icmp .ne 5, 62, 64, 0, 0, 0), (62, .iconst 0, 63, 0, 0, 0, 0), (63, .ireturn, 64, 0, 0, 0, 1)]
def sg_17_64 : List En := [(64, .aload_n 0, 65, 0, 0, 0, 0), (65, .invokevirtual 130, 68, 19, 1, 1, 1), (68, .istore 4, 70, 4, 0, 0, 0), (70, .iload 4, 72, 4, 0, 0, 0), (72, .iconst (-1), 73, 0, 0, 0, 0), (73, .if_icmp .ne 12, 76, 85, 0, 0, 0), (76, .aload_n 0, 77, 0, 0, 0, 0), (77, .getfield 15, 80, 1, 7, 0, 0), (80, .iconst 1, 81, 0, 0, 0, 0), (81, .invokevirtual 52, 84, 66, 2, 1, 8), (84, .ireturn, 85, 0, 0, 0, 1)]
def sg_17_85 : List En := [(85, .aload_n 0, 86, 0, 0, 0, 0), (86, .getfield 15, 89, 1, 7, 0, 0), (89, .invokevirtual 59, 92, 67, 1, 0, 8), (92, .aload_n 0, 93, 0, 0, 0, 0), (93, .getfield 15, 96, 1, 7, 0, 0), (96, .invokevirtual 75, 99, 75, 1, 1, 8), (99, .ifCond .ne 12, 102, 111, 0, 0, 0), (102, .aload_n 0, 103, 0, 0, 0, 0), (103, .getfield 15, 106, 1, 7, 0, 0), (106, .iconst 1, 107, 0, 0, 0, 0), (107, .invokevirtual 52, 110, 66, 2, 1, 8), (110, .ireturn, 111, 0, 0, 0, 1)]
def sg_17_111 : List En := [(111, .aload_n 0, 112, 0, 0, 0, 0), (112, .getfield 23, 115, 1, 65, 2, 0), (115, .iload_n 1, 116, 1, 0, 0, 0), (116, .iconst 3, 117, 0, 0, 0, 0), (117, .imul, 118, 0, 0, 0, 0), (118, .iload 4, 120, 4, 0, 0, 0), (120, .iadd, 121, 0, 0, 0, 0), (121, .iload_n 2, 122, 2, 0, 0, 0), (122, .iload_n 3, 123, 3, 0, 0, 0), (123, .aload_n 0, 124, 0, 0, 0, 0), (124, .getfield 15, 127, 1, 7, 0, 0), (127, .getfield 65, 130, 8, 0, 5, 0), (130, .invokevirtual 133, 133, 4, 5, 0, 0), (133, .aload_n 0, 134, 0, 0, 0, 0), (134, .getfield 15, 137, 1, 7, 0, 0), (137, .invokevirtual 59, 140, 67, 1, 0, 8), (140, .iconst 1, 141, 0, 0, 0, 0), (141, .ireturn, 142, 0, 0, 0, 1)]
def pg_17 : List En := sg_17_0 ++ sg_17_19 ++ sg_17_47 ++ sg_17_64 ++ sg_17_85 ++ sg_17_111
/-! 18 BugsReader.countTold -/
def sg_18_0 : List En := [(0, .aload_n 0, 1, 0, 0, 0, 0), (1, .getfield 15, 4, 1, 7, 0, 0), (4, .ldc 137, 6, 0, 0, 647828480, 0), (6, .invokevirtual 48, 9, 73, 2, 1, 8), (9, .ifCond .eq 5, 12, 14, 0, 0, 0), (12, .iconst 0, 13, 0, 0, 0, 0), (13, .ireturn, 14, 0, 0, 0, 0)]
def sg_18_14 : List En := [(14, .aload_n 0, 15, 0, 0, 0, 0), (15, .getfield 15, 18, 1, 7, 0, 0), (18, .ldc 138, 20, 0, 0, 139640832, 0), (20, .invokevirtual 48, 23, 73, 2, 1, 8), (23, .ifCond .eq 5, 26, 28, 0, 0, 0), (26, .iconst 1, 27, 0, 0, 0, 0), (27, .ireturn, 28, 0, 0, 0, 0)]
def sg_18_28 : List En := [(28, .aload_n 0, 29, 0, 0, 0, 0), (29, .getfield 15, 32, 1, 7, 0, 0), (32, .ldc 139, 34, 0, 0, 270106624, 0), (34, .invokevirtual 48, 37, 73, 2, 1, 8), (37, .ifCond .eq 5, 40, 42, 0, 0, 0), (40, .iconst 2, 41, 0, 0, 0, 0), (41, .ireturn, 42, 0, 0, 0, 0)]
def sg_18_42 : List En := [(42, .aload_n 0, 43, 0, 0, 0, 0), (43, .getfield 15, 46, 1, 7, 0, 0), (46, .ldc 140, 48, 0, 0, 719459904, 0), (48, .invokevirtual 48, 51, 73, 2, 1, 8), (51, .ifCond .eq 5, 54, 56, 0, 0, 0), (54, .iconst 3, 55, 0, 0, 0, 0), (55, .ireturn, 56, 0, 0, 0, 0)]
def sg_18_56 : List En := [(56, .aload_n 0, 57, 0, 0, 0, 0), (57, .getfield 15, 60, 1, 7, 0, 0), (60, .ldc 141, 62, 0, 0, 475811840, 0), (62, .invokevirtual 48, 65, 73, 2, 1, 8), (65, .ifCond .eq 7, 68, 72, 0, 0, 0), (68, .iconst 4, 69, 0, 0, 0, 0), (69, .goto 4, 72, 73, 0, 0, 0)]
def sg_18_72 : List En := [(72, .iconst (-1), 73, 0, 0, 0, 0)]
def sg_18_73 : List En := [(73, .ireturn, 74, 0, 0, 0, 0)]
def pg_18 : List En := sg_18_0 ++ sg_18_14 ++ sg_18_28 ++ sg_18_42 ++ sg_18_56 ++ sg_18_72 ++ sg_18_73
/-! 19 BugsReader.signTold -/
def sg_19_0 : List En := [(0, .aload_n 0, 1, 0, 0, 0, 0), (1, .getfield 15, 4, 1, 7, 0, 0), (4, .bipush 60, 6, 0, 0, 0, 0), (6, .invokevirtual 120, 9, 74, 2, 1, 8), (9, .ifCond .eq 5, 12, 14, 0, 0, 0), (12, .iconst 0, 13, 0, 0, 0, 0), (13, .ireturn, 14, 0, 0, 0, 0)]
def sg_19_14 : List En := [(14, .aload_n 0, 15, 0, 0, 0, 0), (15, .getfield 15, 18, 1, 7, 0, 0), (18, .bipush 62, 20, 0, 0, 0, 0), (20, .invokevirtual 120, 23, 74, 2, 1, 8), (23, .ifCond .eq 5, 26, 28, 0, 0, 0), (26, .iconst 1, 27, 0, 0, 0, 0), (27, .ireturn, 28, 0, 0, 0, 0)]
def sg_19_28 : List En := [(28, .aload_n 0, 29, 0, 0, 0, 0), (29, .getfield 15, 32, 1, 7, 0, 0), (32, .bipush 61, 34, 0, 0, 0, 0), (34, .invokevirtual 120, 37, 74, 2, 1, 8), (37, .ifCond .eq 7, 40, 44, 0, 0, 0), (40, .iconst 2, 41, 0, 0, 0, 0), (41, .goto 4, 44, 45, 0, 0, 0)]
def sg_19_44 : List En := [(44, .iconst (-1), 45, 0, 0, 0, 0)]
def sg_19_45 : List En := [(45, .ireturn, 46, 0, 0, 0, 0)]
def pg_19 : List En := sg_19_0 ++ sg_19_14 ++ sg_19_28 ++ sg_19_44 ++ sg_19_45
/-! 20 BugsReader.readName -/
def sg_20_0 : List En := [(0, .aload_n 0, 1, 0, 0, 0, 0), (1, .getfield 15, 4, 1, 7, 0, 0), (4, .invokevirtual 62, 7, 76, 1, 1, 8), (7, .ifCond .ne 14, 10, 21, 0, 0, 0), (10, .aload_n 0, 11, 0, 0, 0, 0), (11, .getfield 15, 14, 1, 7, 0, 0), (14, .iconst 1, 15, 0, 0, 0, 0), (15, .invokevirtual 52, 18, 66, 2, 1, 8), (18, .pop, 19, 0, 0, 0, 0), (19, .iconst (-1), 20, 0, 0, 0, 0), (20, .ireturn, 21, 0, 0, 0, 0)]
def sg_20_21 : List En := [(21, .aload_n 0, 22, 0, 0, 0, 0), (22, .getfield 19, 25, 1, 11, 1, 0), (25, .aload_n 0, 26, 0, 0, 0, 0), (26, .getfield 15, 29, 1, 7, 0, 0), (29, .getfield 65, 32, 8, 0, 5, 0), (32, .invokevirtual 142, 35, 23, 2, 1, 2), (35, .istore_n 1, 36, 1, 0, 0, 0), (36, .iload_n 1, 37, 1, 0, 0, 0), (37, .iconst (-1), 38, 0, 0, 0, 0), (38, .if_icmp .ne 14, 41, 52, 0, 0, 0), (41, .aload_n 0, 42, 0, 0, 0, 0), (42, .getfield 15, 45, 1, 7, 0, 0), (45, .iconst 3, 46, 0, 0, 0, 0), (46, .invokevirtual 52, 49, 66, 2, 1, 8), (49, .pop, 50, 0, 0, 0, 0), (50, .iconst (-1), 51, 0, 0, 0, 0), (51, .ireturn, 52, 0, 0, 0, 0)]
def sg_20_52 : List En := [(52, .aload_n 0, 53, 0, 0, 0, 0), (53, .getfield 15, 56, 1, 7, 0, 0), (56, .invokevirtual 59, 59, 67, 1, 0, 8), (59, .iload_n 1, 60, 1, 0, 0, 0), (60, .ireturn, 61, 0, 0, 0, 0)]
def pg_20 : List En := sg_20_0 ++ sg_20_21 ++ sg_20_52
/-! 21 Grammar.clear -/
def sg_21_0 : List En := [(0, .aload_n 0, 1, 0, 0, 0, 0), (1, .iconst 0, 2, 0, 0, 0, 0), (2, .putfield 40, 5, 2, 0, 0, 0), (5, .aload_n 0, 6, 0, 0, 0, 0), (6, .iconst 0, 7, 0, 0, 0, 0), (7, .putfield 44, 10, 2, 0, 1, 0), (10, .return_, 11, 0, 0, 0, 0)]
def pg_21 : List En := sg_21_0
/-! 22 Grammar.copyFrom -/
def sg_22_0 : List En := [(0, .aload_n 0, 1, 0, 0, 0, 0), (1, .aload_n 1, 2, 1, 0, 0, 0), (2, .getfield 40, 5, 2, 0, 0, 0), (5, .putfield 40, 8, 2, 0, 0, 0), (8, .aload_n 0, 9, 0, 0, 0, 0), (9, .aload_n 1, 10, 1, 0, 0, 0), (10, .getfield 44, 13, 2, 0, 1, 0), (13, .putfield 44, 16, 2, 0, 1, 0), (16, .aload_n 1, 17, 1, 0, 0, 0), (17, .getfield 9, 20, 2, 4, 2, 0), (20, .iconst 0, 21, 0, 0, 0, 0), (21, .aload_n 0, 22, 0, 0, 0, 0), (22, .getfield 9, 25, 2, 4, 2, 0), (25, .iconst 0, 26, 0, 0, 0, 0), (26, .bipush 24, 28, 0, 0, 0, 0), (28, .invokestatic 47, 31, 0, 5, 0, 1), (31, .aload_n 1, 32, 1, 0, 0, 0), (32, .getfield 19, 35, 2, 8, 4, 0), (35, .iconst 0, 36, 0, 0, 0, 0), (36, .aload_n 0, 37, 0, 0, 0, 0), (37, .getfield 19, 40, 2, 8, 4, 0), (40, .iconst 0, 41, 0, 0, 0, 0), (41, .bipush 24, 43, 0, 0, 0, 0), (43, .invokestatic 47, 46, 0, 5, 0, 1), (46, .aload_n 1, 47, 1, 0, 0, 0), (47, .getfield 22, 50, 2, 10, 5, 0), (50, .iconst 0, 51, 0, 0, 0, 0), (51, .aload_n 0, 52, 0, 0, 0, 0), (52, .getfield 22, 55, 2, 10, 5, 0), (55, .iconst 0, 56, 0, 0, 0, 0), (56, .bipush 24, 58, 0, 0, 0, 0), (58, .invokestatic 47, 61, 0, 5, 0, 1), (61, .aload_n 1, 62, 1, 0, 0, 0), (62, .getfield 28, 65, 2, 14, 7, 0), (65, .iconst 0, 66, 0, 0, 0, 0), (66, .aload_n 0, 67, 0, 0, 0, 0), (67, .getfield 28, 70, 2, 14, 7, 0), (70, .iconst 0, 71, 0, 0, 0, 0), (71, .bipush 96, 73, 0, 0, 0, 0), (73, .invokestatic 47, 76, 0, 5, 0, 1), (76, .aload_n 1, 77, 1, 0, 0, 0), (77, .getfield 31, 80, 2, 16, 8, 0), (80, .iconst 0, 81, 0, 0, 0, 0), (81, .aload_n 0, 82, 0, 0, 0, 0), (82, .getfield 31, 85, 2, 16, 8, 0), (85, .iconst 0, 86, 0, 0, 0, 0), (86, .bipush 6, 88, 0, 0, 0, 0), (88, .invokestatic 47, 91, 0, 5, 0, 1), (91, .aload_n 1, 92, 1, 0, 0, 0), (92, .getfield 34, 95, 2, 18, 9, 0), (95, .iconst 0, 96, 0, 0, 0, 0), (96, .aload_n 0, 97, 0, 0, 0, 0), (97, .getfield 34, 100, 2, 18, 9, 0), (100, .iconst 0, 101, 0, 0, 0, 0), (101, .bipush 6, 103, 0, 0, 0, 0), (103, .invokestatic 47, 106, 0, 5, 0, 1), (106, .aload_n 1, 107, 1, 0, 0, 0), (107, .getfield 37, 110, 2, 20, 10, 0), (110, .iconst 0, 111, 0, 0, 0, 0), (111, .aload_n 0, 112, 0, 0, 0, 0), (112, .getfield 37, 115, 2, 20, 10, 0), (115, .iconst 0, 116, 0, 0, 0, 0), (116, .bipush 6, 118, 0, 0, 0, 0), (118, .invokestatic 47, 121, 0, 5, 0, 1), (121, .iconst 0, 122, 0, 0, 0, 0), (122, .istore_n 2, 123, 2, 0, 0, 0)]
def sg_22_123 : List En := [(123, .iload_n 2, 124, 2, 0, 0, 0), (124, .bipush 24, 126, 0, 0, 0, 0), (126, .if_icmp .ge 33, 129, 159, 0, 0, 0), (129, .aload_n 0, 130, 0, 0, 0, 0), (130, .getfield 15, 133, 2, 6, 3, 0), (133, .iload_n 2, 134, 2, 0, 0, 0), (134, .aload_n 1, 135, 1, 0, 0, 0), (135, .getfield 15, 138, 2, 6, 3, 0), (138, .iload_n 2, 139, 2, 0, 0, 0), (139, .baload, 140, 0, 0, 0, 1), (140, .bastore, 141, 0, 0, 0, 1), (141, .aload_n 0, 142, 0, 0, 0, 0), (142, .getfield 25, 145, 2, 12, 6, 0), (145, .iload_n 2, 146, 2, 0, 0, 0), (146, .aload_n 1, 147, 1, 0, 0, 0), (147, .getfield 25, 150, 2, 12, 6, 0), (150, .iload_n 2, 151, 2, 0, 0, 0), (151, .baload, 152, 0, 0, 0, 1), (152, .bastore, 153, 0, 0, 0, 1), (153, .iinc 2 1, 156, 2, 0, 1, 0), (156, .goto (-33), 159, 123, 0, 0, 0)]
def sg_22_159 : List En := [(159, .return_, 160, 0, 0, 0, 0)]
def pg_22 : List En := sg_22_0 ++ sg_22_123 ++ sg_22_159
/-! 23 Grammar.findLine -/
def sg_23_0 : List En := [(0, .iconst 0, 1, 0, 0, 0, 0), (1, .istore_n 2, 2, 2, 0, 0, 0)]
def sg_23_2 : List En := [(2, .iload_n 2, 3, 2, 0, 0, 0), (3, .aload_n 0, 4, 0, 0, 0, 0), (4, .getfield 40, 7, 2, 0, 0, 0), (7, .if_icmp .ge 21, 10, 28, 0, 0, 0), (10, .aload_n 0, 11, 0, 0, 0, 0), (11, .getfield 9, 14, 2, 4, 2, 0), (14, .iload_n 2, 15, 2, 0, 0, 0), (15, .iaload, 16, 0, 0, 0, 0), (16, .iload_n 1, 17, 1, 0, 0, 0), (17, .if_icmp .ne 5, 20, 22, 0, 0, 0), (20, .iload_n 2, 21, 2, 0, 0, 0), (21, .ireturn, 22, 0, 0, 0, 0)]
def sg_23_22 : List En := [(22, .iinc 2 1, 25, 2, 0, 1, 0), (25, .goto (-23), 28, 2, 0, 0, 0)]
def sg_23_28 : List En := [(28, .iconst (-1), 29, 0, 0, 0, 0), (29, .ireturn, 30, 0, 0, 0, 0)]
def pg_23 : List En := sg_23_0 ++ sg_23_2 ++ sg_23_22 ++ sg_23_28
/-! 24 Grammar.findSort -/
def sg_24_0 : List En := [(0, .iconst 0, 1, 0, 0, 0, 0), (1, .istore_n 2, 2, 2, 0, 0, 0)]
def sg_24_2 : List En := [(2, .iload_n 2, 3, 2, 0, 0, 0), (3, .aload_n 0, 4, 0, 0, 0, 0), (4, .getfield 44, 7, 2, 0, 1, 0), (7, .if_icmp .ge 21, 10, 28, 0, 0, 0), (10, .aload_n 0, 11, 0, 0, 0, 0), (11, .getfield 31, 14, 2, 16, 8, 0), (14, .iload_n 2, 15, 2, 0, 0, 0), (15, .iaload, 16, 0, 0, 0, 0), (16, .iload_n 1, 17, 1, 0, 0, 0), (17, .if_icmp .ne 5, 20, 22, 0, 0, 0), (20, .iload_n 2, 21, 2, 0, 0, 0), (21, .ireturn, 22, 0, 0, 0, 0)]
def sg_24_22 : List En := [(22, .iinc 2 1, 25, 2, 0, 1, 0), (25, .goto (-23), 28, 2, 0, 0, 0)]
def sg_24_28 : List En := [(28, .iconst (-1), 29, 0, 0, 0, 0), (29, .ireturn, 30, 0, 0, 0, 0)]
def pg_24 : List En := sg_24_0 ++ sg_24_2 ++ sg_24_22 ++ sg_24_28
/-! 25 Grammar.addSort -/
def sg_25_0 : List En := [(0, .aload_n 0, 1, 0, 0, 0, 0), (1, .getfield 44, 4, 2, 0, 1, 0), (4, .bipush 6, 6, 0, 0, 0, 0), (6, .if_icmp .ge 23, 9, 29, 0, 0, 0), (9, .aload_n 0, 10, 0, 0, 0, 0), (10, .getfield 31, 13, 2, 16, 8, 0), (13, .aload_n 0, 14, 0, 0, 0, 0), (14, .getfield 44, 17, 2, 0, 1, 0), (17, .iload_n 1, 18, 1, 0, 0, 0), (18, .iastore, 19, 0, 0, 0, 0), (19, .aload_n 0, 20, 0, 0, 0, 0), (20, .dup, 21, 0, 0, 0, 0), (21, .getfield 44, 24, 2, 0, 1, 0), (24, .iconst 1, 25, 0, 0, 0, 0), (25, .iadd, 26, 0, 0, 0, 0), (26, .putfield 44, 29, 2, 0, 1, 0)]
def sg_25_29 : List En := [(29, .return_, 30, 0, 0, 0, 0)]
def pg_25 : List En := sg_25_0 ++ sg_25_29
/-! 26 Grammar.addLine -/
def sg_26_0 : List En := [(0, .aload_n 0, 1, 0, 0, 0, 0), (1, .getfield 40, 4, 2, 0, 0, 0), (4, .bipush 24, 6, 0, 0, 0, 0), (6, .if_icmp .ge 63, 9, 69, 0, 0, 0), (9, .aload_n 0, 10, 0, 0, 0, 0), (10, .getfield 9, 13, 2, 4, 2, 0), (13, .aload_n 0, 14, 0, 0, 0, 0), (14, .getfield 40, 17, 2, 0, 0, 0), (17, .iload_n 1, 18, 1, 0, 0, 0), (18, .iastore, 19, 0, 0, 0, 0), (19, .aload_n 0, 20, 0, 0, 0, 0), (20, .getfield 19, 23, 2, 8, 4, 0), (23, .aload_n 0, 24, 0, 0, 0, 0), (24, .getfield 40, 27, 2, 0, 0, 0), (27, .iload_n 2, 28, 2, 0, 0, 0), (28, .iastore, 29, 0, 0, 0, 0), (29, .aload_n 0, 30, 0, 0, 0, 0), (30, .getfield 15, 33, 2, 6, 3, 0), (33, .aload_n 0, 34, 0, 0, 0, 0), (34, .getfield 40, 37, 2, 0, 0, 0), (37, .iload_n 3, 38, 3, 0, 0, 0), (38, .bastore, 39, 0, 0, 0, 1), (39, .aload_n 0, 40, 0, 0, 0, 0), (40, .getfield 22, 43, 2, 10, 5, 0), (43, .aload_n 0, 44, 0, 0, 0, 0), (44, .getfield 40, 47, 2, 0, 0, 0), (47, .iconst 0, 48, 0, 0, 0, 0), (48, .iastore, 49, 0, 0, 0, 0), (49, .aload_n 0, 50, 0, 0, 0, 0), (50, .getfield 25, 53, 2, 12, 6, 0), (53, .aload_n 0, 54, 0, 0, 0, 0), (54, .getfield 40, 57, 2, 0, 0, 0), (57, .iconst 0, 58, 0, 0, 0, 0), (58, .bastore, 59, 0, 0, 0, 1), (59, .aload_n 0, 60, 0, 0, 0, 0), (60, .dup, 61, 0, 0, 0, 0), (61, .getfield 40, 64, 2, 0, 0, 0), (64, .iconst 1, 65, 0, 0, 0, 0), (65, .iadd, 66, 0, 0, 0, 0), (66, .putfield 40, 69, 2, 0, 0, 0)]
def sg_26_69 : List En := [(69, .return_, 70, 0, 0, 0, 0)]
def pg_26 : List En := sg_26_0 ++ sg_26_69
/-! 27 Grammar.addBehind -/
def sg_27_0 : List En := [(0, .aload_n 0, 1, 0, 0, 0, 0), (1, .getfield 40, 4, 2, 0, 0, 0), (4, .iconst 1, 5, 0, 0, 0, 0), (5, .isub, 6, 0, 0, 0, 0), (6, .istore_n 2, 7, 2, 0, 0, 0), (7, .iload_n 2, 8, 2, 0, 0, 0), (8, .ifCond .lt 39, 11, 47, 0, 0, 0), (11, .aload_n 0, 12, 0, 0, 0, 0), (12, .getfield 22, 15, 2, 10, 5, 0), (15, .iload_n 2, 16, 2, 0, 0, 0), (16, .iaload, 17, 0, 0, 0, 0), (17, .iconst 4, 18, 0, 0, 0, 0), (18, .if_icmp .ge 29, 21, 47, 0, 0, 0), (21, .aload_n 0, 22, 0, 0, 0, 0), (22, .getfield 28, 25, 2, 14, 7, 0), (25, .iload_n 2, 26, 2, 0, 0, 0), (26, .iconst 4, 27, 0, 0, 0, 0), (27, .imul, 28, 0, 0, 0, 0), (28, .aload_n 0, 29, 0, 0, 0, 0), (29, .getfield 22, 32, 2, 10, 5, 0), (32, .iload_n 2, 33, 2, 0, 0, 0), (33, .iaload, 34, 0, 0, 0, 0), (34, .iadd, 35, 0, 0, 0, 0), (35, .iload_n 1, 36, 1, 0, 0, 0), (36, .iastore, 37, 0, 0, 0, 0), (37, .aload_n 0, 38, 0, 0, 0, 0), (38, .getfield 22, 41, 2, 10, 5, 0), (41, .iload_n 2, 42, 2, 0, 0, 0), (42, .dup2, 43, 0, 0, 0, 0), (43, .iaload, 44, 0, 0, 0, 0), (44, .iconst 1, 45, 0, 0, 0, 0), (45, .iadd, 46, 0, 0, 0, 0), (46, .iastore, 47, 0, 0, 0, 0)]
def sg_27_47 : List En := [(47, .return_, 48, 0, 0, 0, 0)]
def pg_27 : List En := sg_27_0 ++ sg_27_47
/-! 28 Grammar.sortBehind -/
def sg_28_0 : List En := [(0, .aload_n 0, 1, 0, 0, 0, 0), (1, .getfield 28, 4, 2, 14, 7, 0), (4, .iload_n 1, 5, 1, 0, 0, 0), (5, .iconst 4, 6, 0, 0, 0, 0), (6, .imul, 7, 0, 0, 0, 0), (7, .iload_n 2, 8, 2, 0, 0, 0), (8, .iadd, 9, 0, 0, 0, 0), (9, .iaload, 10, 0, 0, 0, 0), (10, .ireturn, 11, 0, 0, 0, 0)]
def pg_28 : List En := sg_28_0
/-! 29 Grammar.needed -/
def sg_29_0 : List En := [(0, .aload_n 0, 1, 0, 0, 0, 0), (1, .getfield 25, 4, 2, 12, 6, 0), (4, .iload_n 1, 5, 1, 0, 0, 0), (5, .baload, 6, 0, 0, 0, 1), (6, .ifCond .eq 14, 9, 20, 0, 0, 0), (9, .aload_n 0, 10, 0, 0, 0, 0), (10, .getfield 22, 13, 2, 10, 5, 0), (13, .iload_n 1, 14, 1, 0, 0, 0), (14, .iaload, 15, 0, 0, 0, 0), (15, .iconst 1, 16, 0, 0, 0, 0), (16, .isub, 17, 0, 0, 0, 0), (17, .goto 9, 20, 26, 0, 0, 0)]
def sg_29_20 : List En := [(20, .aload_n 0, 21, 0, 0, 0, 0), (21, .getfield 22, 24, 2, 10, 5, 0), (24, .iload_n 1, 25, 1, 0, 0, 0), (25, .iaload, 26, 0, 0, 0, 0)]
def sg_29_26 : List En := [(26, .ireturn, 27, 0, 0, 0, 0)]
def pg_29 : List En := sg_29_0 ++ sg_29_20 ++ sg_29_26
/-! 30 Grammar.sortOfPart -/
def sg_30_0 : List En := [(0, .iload_n 2, 1, 2, 0, 0, 0), (1, .aload_n 0, 2, 0, 0, 0, 0), (2, .iload_n 1, 3, 1, 0, 0, 0), (3, .invokevirtual 53, 6, 29, 2, 1, 2), (6, .if_icmp .ge 10, 9, 16, 0, 0, 0), (9, .aload_n 0, 10, 0, 0, 0, 0), (10, .iload_n 1, 11, 1, 0, 0, 0), (11, .iload_n 2, 12, 2, 0, 0, 0), (12, .invokevirtual 57, 15, 28, 3, 1, 2), (15, .ireturn, 16, 0, 0, 0, 0)]
def sg_30_16 : List En := [(16, .aload_n 0, 17, 0, 0, 0, 0), (17, .getfield 25, 20, 2, 12, 6, 0), (20, .iload_n 1, 21, 1, 0, 0, 0), (21, .baload, 22, 0, 0, 0, 1), (22, .ifCond .eq 19, 25, 41, 0, 0, 0), (25, .aload_n 0, 26, 0, 0, 0, 0), (26, .iload_n 1, 27, 1, 0, 0, 0), (27, .aload_n 0, 28, 0, 0, 0, 0), (28, .getfield 22, 31, 2, 10, 5, 0), (31, .iload_n 1, 32, 1, 0, 0, 0), (32, .iaload, 33, 0, 0, 0, 0), (33, .iconst 1, 34, 0, 0, 0, 0), (34, .isub, 35, 0, 0, 0, 0), (35, .invokevirtual 57, 38, 28, 3, 1, 2), (38, .goto 4, 41, 42, 0, 0, 0)]
def sg_30_41 : List En := [(41, .iconst (-1), 42, 0, 0, 0, 0)]
def sg_30_42 : List En := [(42, .ireturn, 43, 0, 0, 0, 0)]
def pg_30 : List En := sg_30_0 ++ sg_30_16 ++ sg_30_41 ++ sg_30_42
/-! 31 Grammar.findLeast -/
def sg_31_0 : List En := [(0, .iconst 0, 1, 0, 0, 0, 0), (1, .istore_n 1, 2, 1, 0, 0, 0)]
def sg_31_2 : List En := [(2, .iload_n 1, 3, 1, 0, 0, 0), (3, .aload_n 0, 4, 0, 0, 0, 0), (4, .getfield 44, 7, 2, 0, 1, 0), (7, .if_icmp .ge 23, 10, 30, 0, 0, 0), (10, .aload_n 0, 11, 0, 0, 0, 0), (11, .getfield 34, 14, 2, 18, 9, 0), (14, .iload_n 1, 15, 1, 0, 0, 0), (15, .iconst 0, 16, 0, 0, 0, 0), (16, .iastore, 17, 0, 0, 0, 0), (17, .aload_n 0, 18, 0, 0, 0, 0), (18, .getfield 37, 21, 2, 20, 10, 0), (21, .iload_n 1, 22, 1, 0, 0, 0), (22, .iconst (-1), 23, 0, 0, 0, 0), (23, .iastore, 24, 0, 0, 0, 0), (24, .iinc 1 1, 27, 1, 0, 1, 0), (27, .goto (-25), 30, 2, 0, 0, 0)]
def sg_31_30 : List En := [(30, .iconst 0, 31, 0, 0, 0, 0), (31, .istore_n 1, 32, 1, 0, 0, 0)]
def sg_31_32 : List En := [(32, .iload_n 1, 33, 1, 0, 0, 0), (33, .bipush 6, 35, 0, 0, 0, 0), (35, .if_icmp .ge 30, 38, 65, 0, 0, 0), (38, .iconst 0, 39, 0, 0, 0, 0), (39, .istore_n 2, 40, 2, 0, 0, 0)]
def sg_31_40 : List En := [(40, .iload_n 2, 41, 2, 0, 0, 0), (41, .aload_n 0, 42, 0, 0, 0, 0), (42, .getfield 40, 45, 2, 0, 0, 0), (45, .if_icmp .ge 14, 48, 59, 0, 0, 0), (48, .aload_n 0, 49, 0, 0, 0, 0), (49, .iload_n 2, 50, 2, 0, 0, 0), (50, .invokevirtual 61, 53, 32, 2, 0, 2), (53, .iinc 2 1, 56, 2, 0, 1, 0), (56, .goto (-16), 59, 40, 0, 0, 0)]
def sg_31_59 : List En := [(59, .iinc 1 1, 62, 1, 0, 1, 0), (62, .goto (-30), 65, 32, 0, 0, 0)]
def sg_31_65 : List En := [(65, .iconst 0, 66, 0, 0, 0, 0), (66, .istore_n 1, 67, 1, 0, 0, 0)]
def sg_31_67 : List En := [(67, .iload_n 1, 68, 1, 0, 0, 0), (68, .aload_n 0, 69, 0, 0, 0, 0), (69, .getfield 44, 72, 2, 0, 1, 0), (72, .if_icmp .ge 20, 75, 92, 0, 0, 0), (75, .aload_n 0, 76, 0, 0, 0, 0), (76, .getfield 34, 79, 2, 18, 9, 0), (79, .iload_n 1, 80, 1, 0, 0, 0), (80, .iaload, 81, 0, 0, 0, 0), (81, .ifCond .ne 5, 84, 86, 0, 0, 0), (84, .iconst 0, 85, 0, 0, 0, 0), (85, .ireturn, 86, 0, 0, 0, 1)]
def sg_31_86 : List En := [(86, .iinc 1 1, 89, 1, 0, 1, 0), (89, .goto (-22), 92, 67, 0, 0, 0)]
def sg_31_92 : List En := [(92, .iconst 1, 93, 0, 0, 0, 0), (93, .ireturn, 94, 0, 0, 0, 1)]
def pg_31 : List En := sg_31_0 ++ sg_31_2 ++ sg_31_30 ++ sg_31_32 ++ sg_31_40 ++ sg_31_59 ++ sg_31_65 ++ sg_31_67 ++ sg_31_86 ++ sg_31_92
/-! 32 Grammar.betterLeast -/
def sg_32_0 : List En := [(0, .iconst 1, 1, 0, 0, 0, 0), (1, .istore_n 2, 2, 2, 0, 0, 0), (2, .iconst 0, 3, 0, 0, 0, 0), (3, .istore_n 3, 4, 3, 0, 0, 0)]
def sg_32_4 : List En := [(4, .iload_n 3, 5, 3, 0, 0, 0), (5, .aload_n 0, 6, 0, 0, 0, 0), (6, .iload_n 1, 7, 1, 0, 0, 0), (7, .invokevirtual 53, 10, 29, 2, 1, 2), (10, .if_icmp .ge 33, 13, 43, 0, 0, 0), (13, .aload_n 0, 14, 0, 0, 0, 0), (14, .getfield 34, 17, 2, 18, 9, 0), (17, .aload_n 0, 18, 0, 0, 0, 0), (18, .iload_n 1, 19, 1, 0, 0, 0), (19, .iload_n 3, 20, 3, 0, 0, 0), (20, .invokevirtual 57, 23, 28, 3, 1, 2), (23, .iaload, 24, 0, 0, 0, 0), (24, .istore 4, 26, 4, 0, 0, 0), (26, .iload 4, 28, 4, 0, 0, 0), (28, .ifCond .ne 4, 31, 32, 0, 0, 0), (31, .return_, 32, 0, 0, 0, 0)]
def sg_32_32 : List En := [(32, .iload_n 2, 33, 2, 0, 0, 0), (33, .iload 4, 35, 4, 0, 0, 0), (35, .iadd, 36, 0, 0, 0, 0), (36, .istore_n 2, 37, 2, 0, 0, 0), (37, .iinc 3 1, 40, 3, 0, 1, 0), (40, .goto (-36), 43, 4, 0, 0, 0)]
def sg_32_43 : List En := [(43, .aload_n 0, 44, 0, 0, 0, 0), (44, .getfield 19, 47, 2, 8, 4, 0), (47, .iload_n 1, 48, 1, 0, 0, 0), (48, .iaload, 49, 0, 0, 0, 0), (49, .istore_n 3, 50, 3, 0, 0, 0), (50, .aload_n 0, 51, 0, 0, 0, 0), (51, .getfield 34, 54, 2, 18, 9, 0), (54, .iload_n 3, 55, 3, 0, 0, 0), (55, .iaload, 56, 0, 0, 0, 0), (56, .istore 4, 58, 4, 0, 0, 0), (58, .iload 4, 60, 4, 0, 0, 0), (60, .ifCond .eq 25, 63, 85, 0, 0, 0), (63, .iload_n 2, 64, 2, 0, 0, 0), (64, .iload 4, 66, 4, 0, 0, 0), (66, .if_icmp .lt 19, 69, 85, 0, 0, 0), (69, .iload_n 2, 70, 2, 0, 0, 0), (70, .iload 4, 72, 4, 0, 0, 0), (72, .if_icmp .ne 27, 75, 99, 0, 0, 0), (75, .iload_n 1, 76, 1, 0, 0, 0), (76, .aload_n 0, 77, 0, 0, 0, 0), (77, .getfield 37, 80, 2, 20, 10, 0), (80, .iload_n 3, 81, 3, 0, 0, 0), (81, .iaload, 82, 0, 0, 0, 0), (82, .if_icmp .ge 17, 85, 99, 0, 0, 0)]
def sg_32_85 : List En := [(85, .aload_n 0, 86, 0, 0, 0, 0), (86, .getfield 34, 89, 2, 18, 9, 0), (89, .iload_n 3, 90, 3, 0, 0, 0), (90, .iload_n 2, 91, 2, 0, 0, 0), (91, .iastore, 92, 0, 0, 0, 0), (92, .aload_n 0, 93, 0, 0, 0, 0), (93, .getfield 37, 96, 2, 20, 10, 0), (96, .iload_n 3, 97, 3, 0, 0, 0), (97, .iload_n 1, 98, 1, 0, 0, 0), (98, .iastore, 99, 0, 0, 0, 0)]
def sg_32_99 : List En := [(99, .return_, 100, 0, 0, 0, 0)]
def pg_32 : List En := sg_32_0 ++ sg_32_4 ++ sg_32_32 ++ sg_32_43 ++ sg_32_85 ++ sg_32_99
/-! 33 Grammar.leastName -/
def sg_33_0 : List En := [(0, .aload_n 0, 1, 0, 0, 0, 0), (1, .getfield 37, 4, 2, 20, 10, 0), (4, .iload_n 1, 5, 1, 0, 0, 0), (5, .iaload, 6, 0, 0, 0, 0), (6, .istore_n 3, 7, 3, 0, 0, 0), (7, .iload_n 2, 8, 2, 0, 0, 0), (8, .istore 4, 10, 4, 0, 0, 0), (10, .iconst 0, 11, 0, 0, 0, 0), (11, .istore 5, 13, 5, 0, 0, 0)]
def sg_33_13 : List En := [(13, .iload 5, 15, 5, 0, 0, 0), (15, .bipush 6, 17, 0, 0, 0, 0), (17, .if_icmp .ge 101, 20, 118, 0, 0, 0), (20, .iload 4, 22, 4, 0, 0, 0), (22, .ifCond .le 96, 25, 118, 0, 0, 0), (25, .iinc 4 (-1), 28, 4, 0, -1, 0), (28, .iconst (-1), 29, 0, 0, 0, 0), (29, .istore 6, 31, 6, 0, 0, 0), (31, .iconst 0, 32, 0, 0, 0, 0), (32, .istore 7, 34, 7, 0, 0, 0)]
def sg_33_34 : List En := [(34, .iload 7, 36, 7, 0, 0, 0), (36, .aload_n 0, 37, 0, 0, 0, 0), (37, .iload_n 3, 38, 3, 0, 0, 0), (38, .invokevirtual 53, 41, 29, 2, 1, 2), (41, .if_icmp .ge 60, 44, 101, 0, 0, 0), (44, .iload 6, 46, 6, 0, 0, 0), (46, .iconst (-1), 47, 0, 0, 0, 0), (47, .if_icmp .ne 54, 50, 101, 0, 0, 0), (50, .aload_n 0, 51, 0, 0, 0, 0), (51, .iload_n 3, 52, 3, 0, 0, 0), (52, .iload 7, 54, 7, 0, 0, 0), (54, .invokevirtual 57, 57, 28, 3, 1, 2), (57, .istore 8, 59, 8, 0, 0, 0), (59, .iload 4, 61, 4, 0, 0, 0), (61, .aload_n 0, 62, 0, 0, 0, 0), (62, .getfield 34, 65, 2, 18, 9, 0), (65, .iload 8, 67, 8, 0, 0, 0), (67, .iaload, 68, 0, 0, 0, 0), (68, .if_icmp .ge 15, 71, 83, 0, 0, 0), (71, .aload_n 0, 72, 0, 0, 0, 0), (72, .getfield 37, 75, 2, 20, 10, 0), (75, .iload 8, 77, 8, 0, 0, 0), (77, .iaload, 78, 0, 0, 0, 0), (78, .istore 6, 80, 6, 0, 0, 0), (80, .goto 15, 83, 95, 0, 0, 0)]
def sg_33_83 : List En := [(83, .iload 4, 85, 4, 0, 0, 0), (85, .aload_n 0, 86, 0, 0, 0, 0), (86, .getfield 34, 89, 2, 18, 9, 0), (89, .iload 8, 91, 8, 0, 0, 0), (91, .iaload, 92, 0, 0, 0, 0), (92, .isub, 93, 0, 0, 0, 0), (93, .istore 4, 95, 4, 0, 0, 0)]
def sg_33_95 : List En := [(95, .iinc 7 1, 98, 7, 0, 1, 0), (98, .goto (-64), 101, 34, 0, 0, 0)]
def sg_33_101 : List En := [(101, .iload 6, 103, 6, 0, 0, 0), (103, .iconst (-1), 104, 0, 0, 0, 0), (104, .if_icmp .ne 5, 107, 109, 0, 0, 0), (107, .iconst (-1), 108, 0, 0, 0, 0), (108, .ireturn, 109, 0, 0, 0, 0)]
def sg_33_109 : List En := [(109, .iload 6, 111, 6, 0, 0, 0), (111, .istore_n 3, 112, 3, 0, 0, 0), (112, .iinc 5 1, 115, 5, 0, 1, 0), (115, .goto (-102), 118, 13, 0, 0, 0)]
def sg_33_118 : List En := [(118, .iload_n 3, 119, 3, 0, 0, 0), (119, .ireturn, 120, 0, 0, 0, 0)]
def pg_33 : List En := sg_33_0 ++ sg_33_13 ++ sg_33_34 ++ sg_33_83 ++ sg_33_95 ++ sg_33_101 ++ sg_33_109 ++ sg_33_118
/-! 34 GrammarReader.readAll -/
def sg_34_0 : List En := [(0, .aload_n 1, 1, 1, 0, 0, 0), (1, .invokevirtual 9, 4, 21, 1, 0, 2), (4, .aload_n 0, 5, 0, 0, 0, 0), (5, .invokevirtual 14, 8, 65, 1, 0, 8), (8, .iconst 0, 9, 0, 0, 0, 0), (9, .istore_n 2, 10, 2, 0, 0, 0)]
def sg_34_10 : List En := [(10, .iload_n 2, 11, 2, 0, 0, 0), (11, .bipush 24, 13, 0, 0, 0, 0), (13, .if_icmp .gt 29, 16, 42, 0, 0, 0), (16, .aload_n 0, 17, 0, 0, 0, 0), (17, .aload_n 1, 18, 1, 0, 0, 0), (18, .invokestatic 19, 21, 35, 2, 1, 0), (21, .ifCond .ne 5, 24, 26, 0, 0, 0), (24, .iconst 0, 25, 0, 0, 0, 0), (25, .ireturn, 26, 0, 0, 0, 1)]
def sg_34_26 : List En := [(26, .aload_n 0, 27, 0, 0, 0, 0), (27, .invokevirtual 25, 30, 72, 1, 1, 8), (30, .ifCond .eq 6, 33, 36, 0, 0, 0), (33, .goto 9, 36, 42, 0, 0, 0)]
def sg_34_36 : List En := [(36, .iinc 2 1, 39, 2, 0, 1, 0), (39, .goto (-29), 42, 10, 0, 0, 0)]
def sg_34_42 : List En := [(42, .aload_n 1, 43, 1, 0, 0, 0), (43, .invokevirtual 29, 46, 31, 1, 1, 2), (46, .ifCond .ne 11, 49, 57, 0, 0, 0), (49, .aload_n 0, 50, 0, 0, 0, 0), (50, .iconst 5, 51, 0, 0, 0, 0), (51, .invokevirtual 32, 54, 66, 2, 1, 8), (54, .ifCond .eq 7, 57, 61, 0, 0, 0)]
def sg_34_57 : List En := [(57, .iconst 1, 58, 0, 0, 0, 0), (58, .goto 4, 61, 62, 0, 0, 0)]
def sg_34_61 : List En := [(61, .iconst 0, 62, 0, 0, 0, 0)]
def sg_34_62 : List En := [(62, .ireturn, 63, 0, 0, 0, 1)]
def pg_34 : List En := sg_34_0 ++ sg_34_10 ++ sg_34_26 ++ sg_34_36 ++ sg_34_42 ++ sg_34_57 ++ sg_34_61 ++ sg_34_62
/-! 35 GrammarReader.readLine -/
def sg_35_0 : List En := [(0, .aload_n 0, 1, 0, 0, 0, 0), (1, .ldc 36, 3, 0, 0, 217658368, 0), (3, .invokevirtual 37, 6, 73, 2, 1, 8), (6, .istore_n 2, 7, 2, 0, 0, 0), (7, .iload_n 2, 8, 2, 0, 0, 0), (8, .ifCond .ne 18, 11, 26, 0, 0, 0), (11, .aload_n 0, 12, 0, 0, 0, 0), (12, .ldc 40, 14, 0, 0, 407934976, 0), (14, .invokevirtual 37, 17, 73, 2, 1, 8), (17, .ifCond .ne 9, 20, 26, 0, 0, 0), (20, .aload_n 0, 21, 0, 0, 0, 0), (21, .iconst 1, 22, 0, 0, 0, 0), (22, .invokevirtual 32, 25, 66, 2, 1, 8), (25, .ireturn, 26, 0, 0, 0, 1)]
def sg_35_26 : List En := [(26, .aload_n 1, 27, 1, 0, 0, 0), (27, .getfield 41, 30, 2, 0, 0, 0), (30, .bipush 24, 32, 0, 0, 0, 0), (32, .if_icmp .ne 9, 35, 41, 0, 0, 0), (35, .aload_n 0, 36, 0, 0, 0, 0), (36, .iconst 4, 37, 0, 0, 0, 0), (37, .invokevirtual 32, 40, 66, 2, 1, 8), (40, .ireturn, 41, 0, 0, 0, 1)]
def sg_35_41 : List En := [(41, .aload_n 0, 42, 0, 0, 0, 0), (42, .invokevirtual 45, 45, 67, 1, 0, 8), (45, .aload_n 0, 46, 0, 0, 0, 0), (46, .invokevirtual 48, 49, 76, 1, 1, 8), (49, .ifCond .ne 9, 52, 58, 0, 0, 0), (52, .aload_n 0, 53, 0, 0, 0, 0), (53, .iconst 1, 54, 0, 0, 0, 0), (54, .invokevirtual 32, 57, 66, 2, 1, 8), (57, .ireturn, 58, 0, 0, 0, 1)]
def sg_35_58 : List En := [(58, .aload_n 0, 59, 0, 0, 0, 0), (59, .getfield 51, 62, 8, 0, 5, 0), (62, .istore_n 3, 63, 3, 0, 0, 0), (63, .aload_n 1, 64, 1, 0, 0, 0), (64, .iload_n 3, 65, 3, 0, 0, 0), (65, .invokevirtual 54, 68, 23, 2, 1, 2), (68, .iconst (-1), 69, 0, 0, 0, 0), (69, .if_icmp .eq 9, 72, 78, 0, 0, 0), (72, .aload_n 0, 73, 0, 0, 0, 0), (73, .iconst 3, 74, 0, 0, 0, 0), (74, .invokevirtual 32, 77, 66, 2, 1, 8), (77, .ireturn, 78, 0, 0, 0, 1)]
def sg_35_78 : List En := [(78, .aload_n 0, 79, 0, 0, 0, 0), (79, .invokevirtual 45, 82, 67, 1, 0, 8), (82, .aload_n 0, 83, 0, 0, 0, 0), (83, .aload_n 1, 84, 1, 0, 0, 0), (84, .invokestatic 58, 87, 36, 2, 1, 0), (87, .istore 4, 89, 4, 0, 0, 0), (89, .iload 4, 91, 4, 0, 0, 0), (91, .iconst (-1), 92, 0, 0, 0, 0), (92, .if_icmp .ne 5, 95, 97, 0, 0, 0), (95, .iconst 0, 96, 0, 0, 0, 0), (96, .ireturn, 97, 0, 0, 0, 1)]
def sg_35_97 : List En := [(97, .aload_n 1, 98, 1, 0, 0, 0), (98, .iload_n 3, 99, 3, 0, 0, 0), (99, .iload 4, 101, 4, 0, 0, 0), (101, .iload_n 2, 102, 2, 0, 0, 0), (102, .invokevirtual 62, 105, 26, 4, 0, 2), (105, .iload_n 2, 106, 2, 0, 0, 0), (106, .ifCond .eq 22, 109, 128, 0, 0, 0), (109, .aload_n 0, 110, 0, 0, 0, 0), (110, .bipush 58, 112, 0, 0, 0, 0), (112, .invokevirtual 66, 115, 78, 2, 1, 8), (115, .ifCond .eq 11, 118, 126, 0, 0, 0), (118, .aload_n 0, 119, 0, 0, 0, 0), (119, .aload_n 1, 120, 1, 0, 0, 0), (120, .invokestatic 69, 123, 37, 2, 1, 0), (123, .ifCond .ne 5, 126, 128, 0, 0, 0)]
def sg_35_126 : List En := [(126, .iconst 0, 127, 0, 0, 0, 0), (127, .ireturn, 128, 0, 0, 0, 1)]
def sg_35_128 : List En := [(128, .aload_n 0, 129, 0, 0, 0, 0), (129, .bipush 59, 131, 0, 0, 0, 0), (131, .invokevirtual 66, 134, 78, 2, 1, 8), (134, .ireturn, 135, 0, 0, 0, 1)]
def pg_35 : List En := sg_35_0 ++ sg_35_26 ++ sg_35_41 ++ sg_35_58 ++ sg_35_78 ++ sg_35_97 ++ sg_35_126 ++ sg_35_128
/-! 36 GrammarReader.readSort -/
def sg_36_0 : List En := [(0, .aload_n 0, 1, 0, 0, 0, 0), (1, .invokevirtual 48, 4, 76, 1, 1, 8), (4, .ifCond .ne 11, 7, 15, 0, 0, 0), (7, .aload_n 0, 8, 0, 0, 0, 0), (8, .iconst 1, 9, 0, 0, 0, 0), (9, .invokevirtual 32, 12, 66, 2, 1, 8), (12, .pop, 13, 0, 0, 0, 0), (13, .iconst (-1), 14, 0, 0, 0, 0), (14, .ireturn, 15, 0, 0, 0, 0)]
def sg_36_15 : List En := [(15, .aload_n 1, 16, 1, 0, 0, 0), (16, .aload_n 0, 17, 0, 0, 0, 0), (17, .getfield 51, 20, 8, 0, 5, 0), (20, .invokevirtual 72, 23, 24, 2, 1, 2), (23, .istore_n 2, 24, 2, 0, 0, 0), (24, .iload_n 2, 25, 2, 0, 0, 0), (25, .iconst (-1), 26, 0, 0, 0, 0), (26, .if_icmp .ne 33, 29, 59, 0, 0, 0), (29, .aload_n 1, 30, 1, 0, 0, 0), (30, .getfield 75, 33, 2, 0, 1, 0), (33, .bipush 6, 35, 0, 0, 0, 0), (35, .if_icmp .ne 11, 38, 46, 0, 0, 0), (38, .aload_n 0, 39, 0, 0, 0, 0), (39, .iconst 4, 40, 0, 0, 0, 0), (40, .invokevirtual 32, 43, 66, 2, 1, 8), (43, .pop, 44, 0, 0, 0, 0), (44, .iconst (-1), 45, 0, 0, 0, 0), (45, .ireturn, 46, 0, 0, 0, 0)]
def sg_36_46 : List En := [(46, .aload_n 1, 47, 1, 0, 0, 0), (47, .getfield 75, 50, 2, 0, 1, 0), (50, .istore_n 2, 51, 2, 0, 0, 0), (51, .aload_n 1, 52, 1, 0, 0, 0), (52, .aload_n 0, 53, 0, 0, 0, 0), (53, .getfield 51, 56, 8, 0, 5, 0), (56, .invokevirtual 78, 59, 25, 2, 0, 2)]
def sg_36_59 : List En := [(59, .aload_n 0, 60, 0, 0, 0, 0), (60, .invokevirtual 45, 63, 67, 1, 0, 8), (63, .iload_n 2, 64, 2, 0, 0, 0), (64, .ireturn, 65, 0, 0, 0, 0)]
def pg_36 : List En := sg_36_0 ++ sg_36_15 ++ sg_36_46 ++ sg_36_59
/-! 37 GrammarReader.readBehind -/
def sg_37_0 : List En := [(0, .aload_n 1, 1, 1, 0, 0, 0), (1, .getfield 41, 4, 2, 0, 0, 0), (4, .iconst 1, 5, 0, 0, 0, 0), (5, .isub, 6, 0, 0, 0, 0), (6, .istore_n 2, 7, 2, 0, 0, 0), (7, .iconst 0, 8, 0, 0, 0, 0), (8, .istore_n 3, 9, 3, 0, 0, 0)]
def sg_37_9 : List En := [(9, .iload_n 3, 10, 3, 0, 0, 0), (10, .iconst 4, 11, 0, 0, 0, 0), (11, .if_icmp .gt 79, 14, 90, 0, 0, 0), (14, .aload_n 0, 15, 0, 0, 0, 0), (15, .bipush 59, 17, 0, 0, 0, 0), (17, .invokevirtual 82, 20, 74, 2, 1, 8), (20, .ifCond .ne 70, 23, 90, 0, 0, 0), (23, .iload_n 3, 24, 3, 0, 0, 0), (24, .iconst 4, 25, 0, 0, 0, 0), (25, .if_icmp .ne 16, 28, 41, 0, 0, 0), (28, .aload_n 0, 29, 0, 0, 0, 0), (29, .invokevirtual 48, 32, 76, 1, 1, 8), (32, .ifCond .eq 9, 35, 41, 0, 0, 0), (35, .aload_n 0, 36, 0, 0, 0, 0), (36, .iconst 4, 37, 0, 0, 0, 0), (37, .invokevirtual 32, 40, 66, 2, 1, 8), (40, .ireturn, 41, 0, 0, 0, 1)]
def sg_37_41 : List En := [(41, .aload_n 0, 42, 0, 0, 0, 0), (42, .aload_n 1, 43, 1, 0, 0, 0), (43, .invokestatic 58, 46, 36, 2, 1, 0), (46, .istore 4, 48, 4, 0, 0, 0), (48, .iload 4, 50, 4, 0, 0, 0), (50, .iconst (-1), 51, 0, 0, 0, 0), (51, .if_icmp .ne 5, 54, 56, 0, 0, 0), (54, .iconst 0, 55, 0, 0, 0, 0), (55, .ireturn, 56, 0, 0, 0, 1)]
def sg_37_56 : List En := [(56, .aload_n 1, 57, 1, 0, 0, 0), (57, .iload 4, 59, 4, 0, 0, 0), (59, .invokevirtual 85, 62, 27, 2, 0, 2), (62, .aload_n 0, 63, 0, 0, 0, 0), (63, .bipush 42, 65, 0, 0, 0, 0), (65, .invokevirtual 82, 68, 74, 2, 1, 8), (68, .ifCond .eq 16, 71, 84, 0, 0, 0), (71, .aload_n 1, 72, 1, 0, 0, 0), (72, .getfield 88, 75, 2, 12, 6, 0), (75, .iload_n 2, 76, 2, 0, 0, 0), (76, .iconst 1, 77, 0, 0, 0, 0), (77, .bastore, 78, 0, 0, 0, 1), (78, .aload_n 0, 79, 0, 0, 0, 0), (79, .invokevirtual 45, 82, 67, 1, 0, 8), (82, .iconst 1, 83, 0, 0, 0, 0), (83, .ireturn, 84, 0, 0, 0, 1)]
def sg_37_84 : List En := [(84, .iinc 3 1, 87, 3, 0, 1, 0), (87, .goto (-78), 90, 9, 0, 0, 0)]
def sg_37_90 : List En := [(90, .iconst 1, 91, 0, 0, 0, 0), (91, .ireturn, 92, 0, 0, 0, 1)]
def pg_37 : List En := sg_37_0 ++ sg_37_9 ++ sg_37_41 ++ sg_37_56 ++ sg_37_84 ++ sg_37_90
/-! 38 InputReader.readAll -/
def sg_38_0 : List En := [(0, .aload_n 0, 1, 0, 0, 0, 0), (1, .iconst 0, 2, 0, 0, 0, 0), (2, .putfield 27, 5, 4, 0, 4, 0), (5, .aload_n 0, 6, 0, 0, 0, 0), (6, .getfield 23, 9, 4, 95, 2, 0), (9, .invokevirtual 31, 12, 79, 1, 0, 9), (12, .aload_n 0, 13, 0, 0, 0, 0), (13, .getfield 15, 16, 4, 7, 0, 0), (16, .invokevirtual 36, 19, 65, 1, 0, 8), (19, .iconst 0, 20, 0, 0, 0, 0), (20, .istore_n 1, 21, 1, 0, 0, 0)]
def sg_38_21 : List En := [(21, .iload_n 1, 22, 1, 0, 0, 0), (22, .sipush 1000, 25, 0, 0, 0, 0), (25, .if_icmp .ge 56, 28, 81, 0, 0, 0), (28, .aload_n 0, 29, 0, 0, 0, 0), (29, .getfield 27, 32, 4, 0, 4, 0), (32, .ifCond .le 22, 35, 54, 0, 0, 0), (35, .aload_n 0, 36, 0, 0, 0, 0), (36, .getfield 15, 39, 4, 7, 0, 0), (39, .bipush 41, 41, 0, 0, 0, 0), (41, .invokevirtual 41, 44, 74, 2, 1, 8), (44, .ifCond .eq 10, 47, 54, 0, 0, 0), (47, .aload_n 0, 48, 0, 0, 0, 0), (48, .invokevirtual 45, 51, 39, 1, 1, 4), (51, .goto 7, 54, 58, 0, 0, 0)]
def sg_38_54 : List En := [(54, .aload_n 0, 55, 0, 0, 0, 0), (55, .invokevirtual 49, 58, 40, 1, 1, 4)]
def sg_38_58 : List En := [(58, .istore_n 2, 59, 2, 0, 0, 0), (59, .iload_n 2, 60, 2, 0, 0, 0), (60, .ifCond .ne 5, 63, 65, 0, 0, 0), (63, .iconst 0, 64, 0, 0, 0, 0), (64, .ireturn, 65, 0, 0, 0, 1)]
def sg_38_65 : List En := [(65, .aload_n 0, 66, 0, 0, 0, 0), (66, .getfield 27, 69, 4, 0, 4, 0), (69, .ifCond .ne 6, 72, 75, 0, 0, 0), (72, .goto 9, 75, 81, 0, 0, 0)]
def sg_38_75 : List En := [(75, .iinc 1 1, 78, 1, 0, 1, 0), (78, .goto (-57), 81, 21, 0, 0, 0)]
def sg_38_81 : List En := [(81, .aload_n 0, 82, 0, 0, 0, 0), (82, .getfield 15, 85, 4, 7, 0, 0), (85, .invokevirtual 52, 88, 72, 1, 1, 8), (88, .ifCond .ne 14, 91, 102, 0, 0, 0), (91, .aload_n 0, 92, 0, 0, 0, 0), (92, .getfield 15, 95, 4, 7, 0, 0), (95, .iconst 1, 96, 0, 0, 0, 0), (96, .invokevirtual 55, 99, 66, 2, 1, 8), (99, .ifCond .eq 7, 102, 106, 0, 0, 0)]
def sg_38_102 : List En := [(102, .iconst 1, 103, 0, 0, 0, 0), (103, .goto 4, 106, 107, 0, 0, 0)]
def sg_38_106 : List En := [(106, .iconst 0, 107, 0, 0, 0, 0)]
def sg_38_107 : List En := [(107, .ireturn, 108, 0, 0, 0, 1)]
def pg_38 : List En := sg_38_0 ++ sg_38_21 ++ sg_38_54 ++ sg_38_58 ++ sg_38_65 ++ sg_38_75 ++ sg_38_81 ++ sg_38_102 ++ sg_38_106 ++ sg_38_107
/-! 39 InputReader.readClosed -/
def sg_39_0 : List En := [(0, .aload_n 0, 1, 0, 0, 0, 0), (1, .getfield 9, 4, 4, 4, 3, 0), (4, .aload_n 0, 5, 0, 0, 0, 0), (5, .getfield 27, 8, 4, 0, 4, 0), (8, .iconst 1, 9, 0, 0, 0, 0), (9, .isub, 10, 0, 0, 0, 0), (10, .iaload, 11, 0, 0, 0, 0), (11, .istore_n 1, 12, 1, 0, 0, 0), (12, .aload_n 0, 13, 0, 0, 0, 0), (13, .getfield 23, 16, 4, 95, 2, 0), (16, .getfield 58, 19, 9, 6, 4, 0), (19, .iload_n 1, 20, 1, 0, 0, 0), (20, .iaload, 21, 0, 0, 0, 0), (21, .aload_n 0, 22, 0, 0, 0, 0), (22, .getfield 19, 25, 4, 11, 1, 0), (25, .aload_n 0, 26, 0, 0, 0, 0), (26, .getfield 23, 29, 4, 95, 2, 0), (29, .getfield 61, 32, 9, 4, 3, 0), (32, .iload_n 1, 33, 1, 0, 0, 0), (33, .iaload, 34, 0, 0, 0, 0), (34, .invokevirtual 64, 37, 29, 2, 1, 2), (37, .if_icmp .ge 12, 40, 49, 0, 0, 0), (40, .aload_n 0, 41, 0, 0, 0, 0), (41, .getfield 15, 44, 4, 7, 0, 0), (44, .iconst 5, 45, 0, 0, 0, 0), (45, .invokevirtual 55, 48, 66, 2, 1, 8), (48, .ireturn, 49, 0, 0, 0, 1)]
def sg_39_49 : List En := [(49, .aload_n 0, 50, 0, 0, 0, 0), (50, .dup, 51, 0, 0, 0, 0), (51, .getfield 27, 54, 4, 0, 4, 0), (54, .iconst 1, 55, 0, 0, 0, 0), (55, .isub, 56, 0, 0, 0, 0), (56, .putfield 27, 59, 4, 0, 4, 0), (59, .aload_n 0, 60, 0, 0, 0, 0), (60, .getfield 15, 63, 4, 7, 0, 0), (63, .invokevirtual 70, 66, 67, 1, 0, 8), (66, .iconst 1, 67, 0, 0, 0, 0), (67, .ireturn, 68, 0, 0, 0, 1)]
def pg_39 : List En := sg_39_0 ++ sg_39_49
/-! 40 InputReader.readNode -/
def sg_40_0 : List En := [(0, .aload_n 0, 1, 0, 0, 0, 0), (1, .getfield 15, 4, 4, 7, 0, 0), (4, .bipush 40, 6, 0, 0, 0, 0), (6, .invokevirtual 41, 9, 74, 2, 1, 8), (9, .istore_n 1, 10, 1, 0, 0, 0), (10, .iload_n 1, 11, 1, 0, 0, 0), (11, .ifCond .eq 40, 14, 51, 0, 0, 0), (14, .aload_n 0, 15, 0, 0, 0, 0), (15, .getfield 27, 18, 4, 0, 4, 0), (18, .bipush 12, 20, 0, 0, 0, 0), (20, .if_icmp .eq 15, 23, 35, 0, 0, 0), (23, .aload_n 0, 24, 0, 0, 0, 0), (24, .getfield 23, 27, 4, 95, 2, 0), (27, .getfield 73, 30, 9, 0, 1, 0), (30, .bipush 80, 32, 0, 0, 0, 0), (32, .if_icmp .ne 12, 35, 44, 0, 0, 0)]
def sg_40_35 : List En := [(35, .aload_n 0, 36, 0, 0, 0, 0), (36, .getfield 15, 39, 4, 7, 0, 0), (39, .iconst 4, 40, 0, 0, 0, 0), (40, .invokevirtual 55, 43, 66, 2, 1, 8), (43, .ireturn, 44, 0, 0, 0, 1)]
def sg_40_44 : List En := [(44, .aload_n 0, 45, 0, 0, 0, 0), (45, .getfield 15, 48, 4, 7, 0, 0), (48, .invokevirtual 70, 51, 67, 1, 0, 8)]
def sg_40_51 : List En := [(51, .aload_n 0, 52, 0, 0, 0, 0), (52, .iload_n 1, 53, 1, 0, 0, 0), (53, .invokevirtual 76, 56, 41, 2, 1, 4), (56, .ifCond .ne 5, 59, 61, 0, 0, 0), (59, .iconst 0, 60, 0, 0, 0, 0), (60, .ireturn, 61, 0, 0, 0, 1)]
def sg_40_61 : List En := [(61, .iload_n 1, 62, 1, 0, 0, 0), (62, .ifCond .eq 31, 65, 93, 0, 0, 0), (65, .aload_n 0, 66, 0, 0, 0, 0), (66, .getfield 9, 69, 4, 4, 3, 0), (69, .aload_n 0, 70, 0, 0, 0, 0), (70, .getfield 27, 73, 4, 0, 4, 0), (73, .aload_n 0, 74, 0, 0, 0, 0), (74, .getfield 23, 77, 4, 95, 2, 0), (77, .getfield 73, 80, 9, 0, 1, 0), (80, .iconst 1, 81, 0, 0, 0, 0), (81, .isub, 82, 0, 0, 0, 0), (82, .iastore, 83, 0, 0, 0, 0), (83, .aload_n 0, 84, 0, 0, 0, 0), (84, .dup, 85, 0, 0, 0, 0), (85, .getfield 27, 88, 4, 0, 4, 0), (88, .iconst 1, 89, 0, 0, 0, 0), (89, .iadd, 90, 0, 0, 0, 0), (90, .putfield 27, 93, 4, 0, 4, 0)]
def sg_40_93 : List En := [(93, .iconst 1, 94, 0, 0, 0, 0), (94, .ireturn, 95, 0, 0, 0, 1)]
def pg_40 : List En := sg_40_0 ++ sg_40_35 ++ sg_40_44 ++ sg_40_51 ++ sg_40_61 ++ sg_40_93
/-! 41 InputReader.readName -/
def sg_41_0 : List En := [(0, .aload_n 0, 1, 0, 0, 0, 0), (1, .getfield 15, 4, 4, 7, 0, 0), (4, .invokevirtual 80, 7, 76, 1, 1, 8), (7, .ifCond .ne 12, 10, 19, 0, 0, 0), (10, .aload_n 0, 11, 0, 0, 0, 0), (11, .getfield 15, 14, 4, 7, 0, 0), (14, .iconst 1, 15, 0, 0, 0, 0), (15, .invokevirtual 55, 18, 66, 2, 1, 8), (18, .ireturn, 19, 0, 0, 0, 1)]
def sg_41_19 : List En := [(19, .aload_n 0, 20, 0, 0, 0, 0), (20, .getfield 19, 23, 4, 11, 1, 0), (23, .aload_n 0, 24, 0, 0, 0, 0), (24, .getfield 15, 27, 4, 7, 0, 0), (27, .getfield 83, 30, 8, 0, 5, 0), (30, .invokevirtual 86, 33, 23, 2, 1, 2), (33, .istore_n 2, 34, 2, 0, 0, 0), (34, .iload_n 2, 35, 2, 0, 0, 0), (35, .iconst (-1), 36, 0, 0, 0, 0), (36, .if_icmp .ne 12, 39, 48, 0, 0, 0), (39, .aload_n 0, 40, 0, 0, 0, 0), (40, .getfield 15, 43, 4, 7, 0, 0), (43, .iconst 3, 44, 0, 0, 0, 0), (44, .invokevirtual 55, 47, 66, 2, 1, 8), (47, .ireturn, 48, 0, 0, 0, 1)]
def sg_41_48 : List En := [(48, .aload_n 0, 49, 0, 0, 0, 0), (49, .getfield 23, 52, 4, 95, 2, 0), (52, .getfield 73, 55, 9, 0, 1, 0), (55, .bipush 80, 57, 0, 0, 0, 0), (57, .if_icmp .ne 12, 60, 69, 0, 0, 0), (60, .aload_n 0, 61, 0, 0, 0, 0), (61, .getfield 15, 64, 4, 7, 0, 0), (64, .iconst 4, 65, 0, 0, 0, 0), (65, .invokevirtual 55, 68, 66, 2, 1, 8), (68, .ireturn, 69, 0, 0, 0, 1)]
def sg_41_69 : List En := [(69, .aload_n 0, 70, 0, 0, 0, 0), (70, .getfield 27, 73, 4, 0, 4, 0), (73, .ifCond .le 17, 76, 90, 0, 0, 0), (76, .aload_n 0, 77, 0, 0, 0, 0), (77, .getfield 9, 80, 4, 4, 3, 0), (80, .aload_n 0, 81, 0, 0, 0, 0), (81, .getfield 27, 84, 4, 0, 4, 0), (84, .iconst 1, 85, 0, 0, 0, 0), (85, .isub, 86, 0, 0, 0, 0), (86, .iaload, 87, 0, 0, 0, 0), (87, .goto 4, 90, 91, 0, 0, 0)]
def sg_41_90 : List En := [(90, .iconst (-1), 91, 0, 0, 0, 0)]
def sg_41_91 : List En := [(91, .istore_n 3, 92, 3, 0, 0, 0), (92, .iload_n 3, 93, 3, 0, 0, 0), (93, .iconst (-1), 94, 0, 0, 0, 0), (94, .if_icmp .ne 7, 97, 101, 0, 0, 0), (97, .iconst 0, 98, 0, 0, 0, 0), (98, .goto 28, 101, 126, 0, 0, 0)]
def sg_41_101 : List En := [(101, .aload_n 0, 102, 0, 0, 0, 0), (102, .getfield 19, 105, 4, 11, 1, 0), (105, .aload_n 0, 106, 0, 0, 0, 0), (106, .getfield 23, 109, 4, 95, 2, 0), (109, .getfield 61, 112, 9, 4, 3, 0), (112, .iload_n 3, 113, 3, 0, 0, 0), (113, .iaload, 114, 0, 0, 0, 0), (114, .aload_n 0, 115, 0, 0, 0, 0), (115, .getfield 23, 118, 4, 95, 2, 0), (118, .getfield 58, 121, 9, 6, 4, 0), (121, .iload_n 3, 122, 3, 0, 0, 0), (122, .iaload, 123, 0, 0, 0, 0), (123, .invokevirtual 89, 126, 30, 3, 1, 2)]
def sg_41_126 : List En := [(126, .istore 4, 128, 4, 0, 0, 0), (128, .aload_n 0, 129, 0, 0, 0, 0), (129, .getfield 19, 132, 4, 11, 1, 0), (132, .getfield 93, 135, 2, 6, 3, 0), (135, .iload_n 2, 136, 2, 0, 0, 0), (136, .baload, 137, 0, 0, 0, 1), (137, .iload_n 1, 138, 1, 0, 0, 0), (138, .if_icmp .ne 17, 141, 155, 0, 0, 0), (141, .aload_n 0, 142, 0, 0, 0, 0), (142, .getfield 19, 145, 4, 11, 1, 0), (145, .getfield 97, 148, 2, 8, 4, 0), (148, .iload_n 2, 149, 2, 0, 0, 0), (149, .iaload, 150, 0, 0, 0, 0), (150, .iload 4, 152, 4, 0, 0, 0), (152, .if_icmp .eq 12, 155, 164, 0, 0, 0)]
def sg_41_155 : List En := [(155, .aload_n 0, 156, 0, 0, 0, 0), (156, .getfield 15, 159, 4, 7, 0, 0), (159, .iconst 5, 160, 0, 0, 0, 0), (160, .invokevirtual 55, 163, 66, 2, 1, 8), (163, .ireturn, 164, 0, 0, 0, 1)]
def sg_41_164 : List En := [(164, .iload_n 3, 165, 3, 0, 0, 0), (165, .iconst (-1), 166, 0, 0, 0, 0), (166, .if_icmp .eq 16, 169, 182, 0, 0, 0), (169, .aload_n 0, 170, 0, 0, 0, 0), (170, .getfield 23, 173, 4, 95, 2, 0), (173, .getfield 58, 176, 9, 6, 4, 0), (176, .iload_n 3, 177, 3, 0, 0, 0), (177, .dup2, 178, 0, 0, 0, 0), (178, .iaload, 179, 0, 0, 0, 0), (179, .iconst 1, 180, 0, 0, 0, 0), (180, .iadd, 181, 0, 0, 0, 0), (181, .iastore, 182, 0, 0, 0, 0)]
def sg_41_182 : List En := [(182, .aload_n 0, 183, 0, 0, 0, 0), (183, .getfield 23, 186, 4, 95, 2, 0), (186, .iload_n 2, 187, 2, 0, 0, 0), (187, .iconst 0, 188, 0, 0, 0, 0), (188, .invokevirtual 100, 191, 81, 3, 0, 9), (191, .aload_n 0, 192, 0, 0, 0, 0), (192, .getfield 15, 195, 4, 7, 0, 0), (195, .invokevirtual 70, 198, 67, 1, 0, 8), (198, .iconst 1, 199, 0, 0, 0, 0), (199, .ireturn, 200, 0, 0, 0, 1)]
def pg_41 : List En := sg_41_0 ++ sg_41_19 ++ sg_41_48 ++ sg_41_69 ++ sg_41_90 ++ sg_41_91 ++ sg_41_101 ++ sg_41_126 ++ sg_41_155 ++ sg_41_164 ++ sg_41_182
/-! 42 Judge.ask -/
def sg_42_0 : List En := [(0, .aload_n 0, 1, 0, 0, 0, 0), (1, .getfield 26, 4, 5, 279, 1, 0), (4, .aload_n 1, 5, 1, 0, 0, 0), (5, .invokevirtual 30, 8, 93, 2, 1, 10), (8, .istore 4, 10, 4, 0, 0, 0), (10, .iload 4, 12, 4, 0, 0, 0), (12, .iconst (-1), 13, 0, 0, 0, 0), (13, .if_icmp .eq 24, 16, 37, 0, 0, 0), (16, .aload_n 0, 17, 0, 0, 0, 0), (17, .dup, 18, 0, 0, 0, 0), (18, .getfield 36, 21, 5, 0, 5, 0), (21, .iconst 1, 22, 0, 0, 0, 0), (22, .iadd, 23, 0, 0, 0, 0), (23, .putfield 36, 26, 5, 0, 5, 0), (26, .aload_n 0, 27, 0, 0, 0, 0), (27, .getfield 26, 30, 5, 279, 1, 0), (30, .getfield 39, 33, 10, 6, 2, 0), (33, .iload 4, 35, 4, 0, 0, 0), (35, .iaload, 36, 0, 0, 0, 0), (36, .ireturn, 37, 0, 0, 0, 0)]
def sg_42_37 : List En := [(37, .aload_n 0, 38, 0, 0, 0, 0), (38, .getfield 26, 41, 5, 279, 1, 0), (41, .getfield 42, 44, 10, 0, 0, 0), (44, .sipush 600, 47, 0, 0, 0, 0), (47, .if_icmp .ne 15, 50, 62, 0, 0, 0), (50, .aload_n 0, 51, 0, 0, 0, 0), (51, .dup, 52, 0, 0, 0, 0), (52, .getfield 45, 55, 5, 0, 7, 0), (55, .iconst 1, 56, 0, 0, 0, 0), (56, .iadd, 57, 0, 0, 0, 0), (57, .putfield 45, 60, 5, 0, 7, 0), (60, .iconst (-1), 61, 0, 0, 0, 0), (61, .ireturn, 62, 0, 0, 0, 0)]
def sg_42_62 : List En := [(62, .aload_n 0, 63, 0, 0, 0, 0), (63, .aload_n 0, 64, 0, 0, 0, 0), (64, .getfield 22, 67, 5, 51, 0, 0), (67, .aload_n 1, 68, 1, 0, 0, 0), (68, .invokevirtual 48, 71, 6, 2, 1, 0), (71, .invokevirtual 53, 74, 43, 2, 1, 5), (74, .istore 5, 76, 5, 0, 0, 0), (76, .aload_n 0, 77, 0, 0, 0, 0), (77, .getfield 26, 80, 5, 279, 1, 0), (80, .aload_n 1, 81, 1, 0, 0, 0), (81, .getfield 57, 84, 9, 0, 1, 0), (84, .iload 5, 86, 5, 0, 0, 0), (86, .iload_n 2, 87, 2, 0, 0, 0), (87, .iload_n 3, 88, 3, 0, 0, 0), (88, .invokevirtual 62, 91, 94, 5, 0, 10), (91, .iload 5, 93, 5, 0, 0, 0), (93, .ireturn, 94, 0, 0, 0, 0)]
def pg_42 : List En := sg_42_0 ++ sg_42_37 ++ sg_42_62
/-! 43 Judge.vote -/
def sg_43_0 : List En := [(0, .aload_n 0, 1, 0, 0, 0, 0), (1, .getfield 22, 4, 5, 51, 0, 0), (4, .getfield 66, 7, 0, 0, 0, 0), (7, .istore_n 2, 8, 2, 0, 0, 0), (8, .aload_n 0, 9, 0, 0, 0, 0), (9, .getfield 9, 12, 5, 4, 2, 0), (12, .iconst 0, 13, 0, 0, 0, 0), (13, .invokestatic 67, 16, 266, 2, 0, 0), (16, .iconst 0, 17, 0, 0, 0, 0), (17, .istore_n 3, 18, 3, 0, 0, 0)]
def sg_43_18 : List En := [(18, .iload_n 3, 19, 3, 0, 0, 0), (19, .aload_n 0, 20, 0, 0, 0, 0), (20, .getfield 15, 23, 5, 0, 3, 0), (23, .if_icmp .ge 37, 26, 60, 0, 0, 0), (26, .aload_n 0, 27, 0, 0, 0, 0), (27, .iload_n 1, 28, 1, 0, 0, 0), (28, .invokevirtual 73, 31, 44, 2, 1, 5), (31, .istore 4, 33, 4, 0, 0, 0), (33, .aload_n 0, 34, 0, 0, 0, 0), (34, .getfield 9, 37, 5, 4, 2, 0), (37, .iload 4, 39, 4, 0, 0, 0), (39, .iconst (-1), 40, 0, 0, 0, 0), (40, .if_icmp .ne 7, 43, 47, 0, 0, 0), (43, .iload_n 2, 44, 2, 0, 0, 0), (44, .goto 5, 47, 49, 0, 0, 0)]
def sg_43_47 : List En := [(47, .iload 4, 49, 4, 0, 0, 0)]
def sg_43_49 : List En := [(49, .dup2, 50, 0, 0, 0, 0), (50, .iaload, 51, 0, 0, 0, 0), (51, .iconst 1, 52, 0, 0, 0, 0), (52, .iadd, 53, 0, 0, 0, 0), (53, .iastore, 54, 0, 0, 0, 0), (54, .iinc 3 1, 57, 3, 0, 1, 0), (57, .goto (-39), 60, 18, 0, 0, 0)]
def sg_43_60 : List En := [(60, .aload_n 0, 61, 0, 0, 0, 0), (61, .dup, 62, 0, 0, 0, 0), (62, .getfield 76, 65, 5, 0, 6, 0), (65, .aload_n 0, 66, 0, 0, 0, 0), (66, .getfield 15, 69, 5, 0, 3, 0), (69, .iadd, 70, 0, 0, 0, 0), (70, .putfield 76, 73, 5, 0, 6, 0), (73, .iconst 0, 74, 0, 0, 0, 0), (74, .istore_n 3, 75, 3, 0, 0, 0), (75, .iconst 1, 76, 0, 0, 0, 0), (76, .istore 4, 78, 4, 0, 0, 0)]
def sg_43_78 : List En := [(78, .iload 4, 80, 4, 0, 0, 0), (80, .iload_n 2, 81, 2, 0, 0, 0), (81, .if_icmp .gt 28, 84, 109, 0, 0, 0), (84, .aload_n 0, 85, 0, 0, 0, 0), (85, .getfield 9, 88, 5, 4, 2, 0), (88, .iload 4, 90, 4, 0, 0, 0), (90, .iaload, 91, 0, 0, 0, 0), (91, .aload_n 0, 92, 0, 0, 0, 0), (92, .getfield 9, 95, 5, 4, 2, 0), (95, .iload_n 3, 96, 3, 0, 0, 0), (96, .iaload, 97, 0, 0, 0, 0), (97, .if_icmp .le 6, 100, 103, 0, 0, 0), (100, .iload 4, 102, 4, 0, 0, 0), (102, .istore_n 3, 103, 3, 0, 0, 0)]
def sg_43_103 : List En := [(103, .iinc 4 1, 106, 4, 0, 1, 0), (106, .goto (-28), 109, 78, 0, 0, 0)]
def sg_43_109 : List En := [(109, .iload_n 3, 110, 3, 0, 0, 0), (110, .iload_n 2, 111, 2, 0, 0, 0), (111, .if_icmp .ne 7, 114, 118, 0, 0, 0), (114, .iconst (-1), 115, 0, 0, 0, 0), (115, .goto 4, 118, 119, 0, 0, 0)]
def sg_43_118 : List En := [(118, .iload_n 3, 119, 3, 0, 0, 0)]
def sg_43_119 : List En := [(119, .ireturn, 120, 0, 0, 0, 0)]
def pg_43 : List En := sg_43_0 ++ sg_43_18 ++ sg_43_47 ++ sg_43_49 ++ sg_43_60 ++ sg_43_78 ++ sg_43_103 ++ sg_43_109 ++ sg_43_118 ++ sg_43_119
/-! 44 Judge.runOnce -/
def sg_44_0 : List En := [(0, .iconst 0, 1, 0, 0, 0, 0), (1, .istore_n 2, 2, 2, 0, 0, 0)]
def sg_44_2 : List En := [(2, .iload_n 2, 3, 2, 0, 0, 0), (3, .aload_n 0, 4, 0, 0, 0, 0), (4, .getfield 22, 7, 5, 51, 0, 0), (7, .getfield 66, 10, 0, 0, 0, 0), (10, .if_icmp .ge 78, 13, 88, 0, 0, 0), (13, .iload_n 1, 14, 1, 0, 0, 0), (14, .iload_n 2, 15, 2, 0, 0, 0), (15, .ishr, 16, 0, 0, 0, 0), (16, .iconst 1, 17, 0, 0, 0, 0), (17, .iand, 18, 0, 0, 0, 0), (18, .ifCond .ne 6, 21, 24, 0, 0, 0), (21, .goto 61, 24, 82, 0, 0, 0)]
def sg_44_24 : List En := [(24, .aload_n 0, 25, 0, 0, 0, 0), (25, .getfield 22, 28, 5, 51, 0, 0), (28, .getfield 79, 31, 0, 6, 2, 0), (31, .iload_n 2, 32, 2, 0, 0, 0), (32, .iaload, 33, 0, 0, 0, 0), (33, .bipush 100, 35, 0, 0, 0, 0), (35, .if_icmp .ne 5, 38, 40, 0, 0, 0), (38, .iload_n 2, 39, 2, 0, 0, 0), (39, .ireturn, 40, 0, 0, 0, 0)]
def sg_44_40 : List En := [(40, .aload_n 0, 41, 0, 0, 0, 0), (41, .ldc 82, 43, 0, 0, 1103515245, 0), (43, .aload_n 0, 44, 0, 0, 0, 0), (44, .getfield 19, 47, 5, 0, 4, 0), (47, .imul, 48, 0, 0, 0, 0), (48, .sipush 12345, 51, 0, 0, 0, 0), (51, .iadd, 52, 0, 0, 0, 0), (52, .ldc 83, 54, 0, 0, 2147483647, 0), (54, .iand, 55, 0, 0, 0, 0), (55, .putfield 19, 58, 5, 0, 4, 0), (58, .aload_n 0, 59, 0, 0, 0, 0), (59, .getfield 19, 62, 5, 0, 4, 0), (62, .bipush 64, 64, 0, 0, 0, 0), (64, .idiv, 65, 0, 0, 0, 0), (65, .bipush 100, 67, 0, 0, 0, 0), (67, .irem, 68, 0, 0, 0, 0), (68, .aload_n 0, 69, 0, 0, 0, 0), (69, .getfield 22, 72, 5, 51, 0, 0), (72, .getfield 79, 75, 0, 6, 2, 0), (75, .iload_n 2, 76, 2, 0, 0, 0), (76, .iaload, 77, 0, 0, 0, 0), (77, .if_icmp .ge 5, 80, 82, 0, 0, 0), (80, .iload_n 2, 81, 2, 0, 0, 0), (81, .ireturn, 82, 0, 0, 0, 0)]
def sg_44_82 : List En := [(82, .iinc 2 1, 85, 2, 0, 1, 0), (85, .goto (-83), 88, 2, 0, 0, 0)]
def sg_44_88 : List En := [(88, .iconst (-1), 89, 0, 0, 0, 0), (89, .ireturn, 90, 0, 0, 0, 0)]
def pg_44 : List En := sg_44_0 ++ sg_44_2 ++ sg_44_24 ++ sg_44_40 ++ sg_44_82 ++ sg_44_88
/-! 45 Reducer.partStart -/
def sg_45_0 : List En := [(0, .iload_n 1, 1, 1, 0, 0, 0), (1, .iconst 1, 2, 0, 0, 0, 0), (2, .if_icmp .ge 7, 5, 9, 0, 0, 0), (5, .iconst 0, 6, 0, 0, 0, 0), (6, .goto 8, 9, 14, 0, 0, 0)]
def sg_45_9 : List En := [(9, .iload_n 2, 10, 2, 0, 0, 0), (10, .iload_n 0, 11, 0, 0, 0, 0), (11, .imul, 12, 0, 0, 0, 0), (12, .iload_n 1, 13, 1, 0, 0, 0), (13, .idiv, 14, 0, 0, 0, 0)]
def sg_45_14 : List En := [(14, .ireturn, 15, 0, 0, 0, 0)]
def pg_45 : List En := sg_45_0 ++ sg_45_9 ++ sg_45_14
/-! 46 Reducer.start -/
def sg_46_0 : List En := [(0, .aload_n 0, 1, 0, 0, 0, 0), (1, .iload_n 1, 2, 1, 0, 0, 0), (2, .putfield 33, 5, 6, 0, 3, 0), (5, .aload_n 0, 6, 0, 0, 0, 0), (6, .iconst 0, 7, 0, 0, 0, 0), (7, .putfield 37, 10, 6, 0, 4, 0), (10, .return_, 11, 0, 0, 0, 0)]
def pg_46 : List En := sg_46_0
/-! 47 Reducer.byLevels -/
def sg_47_0 : List En := [(0, .iconst 1, 1, 0, 0, 0, 0), (1, .istore_n 1, 2, 1, 0, 0, 0)]
def sg_47_2 : List En := [(2, .iload_n 1, 3, 1, 0, 0, 0), (3, .bipush 80, 5, 0, 0, 0, 0), (5, .if_icmp .ge 37, 8, 42, 0, 0, 0), (8, .iload_n 1, 9, 1, 0, 0, 0), (9, .aload_n 0, 10, 0, 0, 0, 0), (10, .getfield 22, 13, 6, 79, 0, 0), (13, .getfield 40, 16, 9, 0, 2, 0), (16, .if_icmp .gt 26, 19, 42, 0, 0, 0), (19, .aload_n 0, 20, 0, 0, 0, 0), (20, .iload_n 1, 21, 1, 0, 0, 0), (21, .invokevirtual 45, 24, 53, 2, 0, 6), (24, .aload_n 0, 25, 0, 0, 0, 0), (25, .getfield 49, 28, 6, 0, 6, 0), (28, .ifCond .le 8, 31, 36, 0, 0, 0), (31, .aload_n 0, 32, 0, 0, 0, 0), (32, .iload_n 1, 33, 1, 0, 0, 0), (33, .invokevirtual 52, 36, 54, 2, 0, 6)]
def sg_47_36 : List En := [(36, .iinc 1 1, 39, 1, 0, 1, 0), (39, .goto (-37), 42, 2, 0, 0, 0)]
def sg_47_42 : List En := [(42, .return_, 43, 0, 0, 0, 0)]
def pg_47 : List En := sg_47_0 ++ sg_47_2 ++ sg_47_36 ++ sg_47_42
/-! 48 Reducer.byHoists -/
def sg_48_0 : List En := [(0, .iconst 0, 1, 0, 0, 0, 0), (1, .istore_n 1, 2, 1, 0, 0, 0), (2, .iconst 0, 3, 0, 0, 0, 0), (3, .istore_n 2, 4, 2, 0, 0, 0)]
def sg_48_4 : List En := [(4, .iload_n 2, 5, 2, 0, 0, 0), (5, .ldc 55, 7, 0, 0, 100000, 0), (7, .if_icmp .ge 31, 10, 38, 0, 0, 0), (10, .iload_n 1, 11, 1, 0, 0, 0), (11, .aload_n 0, 12, 0, 0, 0, 0), (12, .getfield 22, 15, 6, 79, 0, 0), (15, .getfield 56, 18, 9, 0, 1, 0), (18, .if_icmp .ge 20, 21, 38, 0, 0, 0), (21, .aload_n 0, 22, 0, 0, 0, 0), (22, .iload_n 1, 23, 1, 0, 0, 0), (23, .invokevirtual 59, 26, 50, 2, 1, 6), (26, .ifCond .ne 6, 29, 32, 0, 0, 0), (29, .iinc 1 1, 32, 1, 0, 1, 0)]
def sg_48_32 : List En := [(32, .iinc 2 1, 35, 2, 0, 1, 0), (35, .goto (-31), 38, 4, 0, 0, 0)]
def sg_48_38 : List En := [(38, .return_, 39, 0, 0, 0, 0)]
def pg_48 : List En := sg_48_0 ++ sg_48_4 ++ sg_48_32 ++ sg_48_38
/-! 49 Reducer.byCuts -/
def sg_49_0 : List En := [(0, .iconst 0, 1, 0, 0, 0, 0), (1, .istore_n 1, 2, 1, 0, 0, 0), (2, .iconst 0, 3, 0, 0, 0, 0), (3, .istore_n 2, 4, 2, 0, 0, 0)]
def sg_49_4 : List En := [(4, .iload_n 2, 5, 2, 0, 0, 0), (5, .ldc 55, 7, 0, 0, 100000, 0), (7, .if_icmp .ge 87, 10, 94, 0, 0, 0), (10, .iload_n 1, 11, 1, 0, 0, 0), (11, .aload_n 0, 12, 0, 0, 0, 0), (12, .getfield 22, 15, 6, 79, 0, 0), (15, .getfield 56, 18, 9, 0, 1, 0), (18, .if_icmp .ge 76, 21, 94, 0, 0, 0), (21, .aload_n 0, 22, 0, 0, 0, 0), (22, .getfield 22, 25, 6, 79, 0, 0), (25, .iload_n 1, 26, 1, 0, 0, 0), (26, .invokevirtual 63, 29, 86, 2, 1, 9), (29, .ifCond .eq 18, 32, 47, 0, 0, 0), (32, .aload_n 0, 33, 0, 0, 0, 0), (33, .iconst 0, 34, 0, 0, 0, 0), (34, .iload_n 1, 35, 1, 0, 0, 0), (35, .iconst (-1), 36, 0, 0, 0, 0), (36, .iconst 5, 37, 0, 0, 0, 0), (37, .invokevirtual 66, 40, 51, 5, 1, 6), (40, .ifCond .eq 7, 43, 47, 0, 0, 0), (43, .iconst 1, 44, 0, 0, 0, 0), (44, .goto 4, 47, 48, 0, 0, 0)]
def sg_49_47 : List En := [(47, .iconst 0, 48, 0, 0, 0, 0)]
def sg_49_48 : List En := [(48, .istore_n 3, 49, 3, 0, 0, 0), (49, .iload_n 3, 50, 3, 0, 0, 0), (50, .ifCond .ne 31, 53, 81, 0, 0, 0), (53, .aload_n 0, 54, 0, 0, 0, 0), (54, .getfield 22, 57, 6, 79, 0, 0), (57, .iload_n 1, 58, 1, 0, 0, 0), (58, .invokevirtual 70, 61, 87, 2, 1, 9), (61, .ifCond .eq 18, 64, 79, 0, 0, 0), (64, .aload_n 0, 65, 0, 0, 0, 0), (65, .iconst 1, 66, 0, 0, 0, 0), (66, .iload_n 1, 67, 1, 0, 0, 0), (67, .iconst (-1), 68, 0, 0, 0, 0), (68, .iconst 5, 69, 0, 0, 0, 0), (69, .invokevirtual 66, 72, 51, 5, 1, 6), (72, .ifCond .eq 7, 75, 79, 0, 0, 0), (75, .iconst 1, 76, 0, 0, 0, 0), (76, .goto 4, 79, 80, 0, 0, 0)]
def sg_49_79 : List En := [(79, .iconst 0, 80, 0, 0, 0, 0)]
def sg_49_80 : List En := [(80, .istore_n 3, 81, 3, 0, 0, 0)]
def sg_49_81 : List En := [(81, .iload_n 3, 82, 3, 0, 0, 0), (82, .ifCond .ne 6, 85, 88, 0, 0, 0), (85, .iinc 1 1, 88, 1, 0, 1, 0)]
def sg_49_88 : List En := [(88, .iinc 2 1, 91, 2, 0, 1, 0), (91, .goto (-87), 94, 4, 0, 0, 0)]
def sg_49_94 : List En := [(94, .return_, 95, 0, 0, 0, 0)]
def pg_49 : List En := sg_49_0 ++ sg_49_4 ++ sg_49_47 ++ sg_49_48 ++ sg_49_79 ++ sg_49_80 ++ sg_49_81 ++ sg_49_88 ++ sg_49_94
/-! 50 Reducer.isHoisted -/
def sg_50_0 : List En := [(0, .iload_n 1, 1, 1, 0, 0, 0), (1, .iconst 1, 2, 0, 0, 0, 0), (2, .iadd, 3, 0, 0, 0, 0), (3, .istore_n 2, 4, 2, 0, 0, 0)]
def sg_50_4 : List En := [(4, .iload_n 2, 5, 2, 0, 0, 0), (5, .iload_n 1, 6, 1, 0, 0, 0), (6, .aload_n 0, 7, 0, 0, 0, 0), (7, .getfield 22, 10, 6, 79, 0, 0), (10, .getfield 73, 13, 9, 14, 8, 0), (13, .iload_n 1, 14, 1, 0, 0, 0), (14, .iaload, 15, 0, 0, 0, 0), (15, .iadd, 16, 0, 0, 0, 0), (16, .if_icmp .ge 41, 19, 57, 0, 0, 0), (19, .aload_n 0, 20, 0, 0, 0, 0), (20, .getfield 22, 23, 6, 79, 0, 0), (23, .iload_n 2, 24, 2, 0, 0, 0), (24, .invokevirtual 76, 27, 85, 2, 1, 9), (27, .aload_n 0, 28, 0, 0, 0, 0), (28, .getfield 22, 31, 6, 79, 0, 0), (31, .iload_n 1, 32, 1, 0, 0, 0), (32, .invokevirtual 76, 35, 85, 2, 1, 9), (35, .if_icmp .ne 16, 38, 51, 0, 0, 0), (38, .aload_n 0, 39, 0, 0, 0, 0), (39, .iconst 2, 40, 0, 0, 0, 0), (40, .iload_n 1, 41, 1, 0, 0, 0), (41, .iload_n 2, 42, 2, 0, 0, 0), (42, .iconst 4, 43, 0, 0, 0, 0), (43, .invokevirtual 66, 46, 51, 5, 1, 6), (46, .ifCond .eq 5, 49, 51, 0, 0, 0), (49, .iconst 1, 50, 0, 0, 0, 0), (50, .ireturn, 51, 0, 0, 0, 1)]
def sg_50_51 : List En := [(51, .iinc 2 1, 54, 2, 0, 1, 0), (54, .goto (-50), 57, 4, 0, 0, 0)]
def sg_50_57 : List En := [(57, .iconst 0, 58, 0, 0, 0, 0), (58, .ireturn, 59, 0, 0, 0, 1)]
def pg_50 : List En := sg_50_0 ++ sg_50_4 ++ sg_50_51 ++ sg_50_57
/-! 51 Reducer.isTakenSingle -/
def sg_51_0 : List En := [(0, .aload_n 0, 1, 0, 0, 0, 0), (1, .getfield 26, 4, 6, 95, 1, 0), (4, .aload_n 0, 5, 0, 0, 0, 0), (5, .getfield 22, 8, 6, 79, 0, 0), (8, .iload_n 1, 9, 1, 0, 0, 0), (9, .iload_n 2, 10, 2, 0, 0, 0), (10, .iload_n 3, 11, 3, 0, 0, 0), (11, .invokevirtual 80, 14, 90, 5, 0, 9), (14, .aload_n 0, 15, 0, 0, 0, 0), (15, .iload 4, 17, 4, 0, 0, 0), (17, .iload_n 2, 18, 2, 0, 0, 0), (18, .invokevirtual 84, 21, 52, 3, 1, 6), (21, .ireturn, 22, 0, 0, 0, 1)]
def pg_51 : List En := sg_51_0
/-! 52 Reducer.isTaken -/
def sg_52_0 : List En := [(0, .aload_n 0, 1, 0, 0, 0, 0), (1, .getfield 29, 4, 6, 297, 2, 0), (4, .aload_n 0, 5, 0, 0, 0, 0), (5, .getfield 26, 8, 6, 95, 1, 0), (8, .iload_n 1, 9, 1, 0, 0, 0), (9, .iload_n 2, 10, 2, 0, 0, 0), (10, .invokevirtual 88, 13, 42, 4, 1, 5), (13, .aload_n 0, 14, 0, 0, 0, 0), (14, .getfield 33, 17, 6, 0, 3, 0), (17, .if_icmp .eq 5, 20, 22, 0, 0, 0), (20, .iconst 0, 21, 0, 0, 0, 0), (21, .ireturn, 22, 0, 0, 0, 1)]
def sg_52_22 : List En := [(22, .aload_n 0, 23, 0, 0, 0, 0), (23, .getfield 22, 26, 6, 79, 0, 0), (26, .aload_n 0, 27, 0, 0, 0, 0), (27, .getfield 26, 30, 6, 95, 1, 0), (30, .invokevirtual 94, 33, 80, 2, 0, 9), (33, .aload_n 0, 34, 0, 0, 0, 0), (34, .dup, 35, 0, 0, 0, 0), (35, .getfield 37, 38, 6, 0, 4, 0), (38, .iconst 1, 39, 0, 0, 0, 0), (39, .iadd, 40, 0, 0, 0, 0), (40, .putfield 37, 43, 6, 0, 4, 0), (43, .iconst 1, 44, 0, 0, 0, 0), (44, .ireturn, 45, 0, 0, 0, 1)]
def pg_52 : List En := sg_52_0 ++ sg_52_22
/-! 53 Reducer.gatherRow -/
def sg_53_0 : List En := [(0, .aload_n 0, 1, 0, 0, 0, 0), (1, .iconst 0, 2, 0, 0, 0, 0), (2, .putfield 49, 5, 6, 0, 6, 0), (5, .iconst 0, 6, 0, 0, 0, 0), (6, .istore_n 2, 7, 2, 0, 0, 0)]
def sg_53_7 : List En := [(7, .iload_n 2, 8, 2, 0, 0, 0), (8, .aload_n 0, 9, 0, 0, 0, 0), (9, .getfield 22, 12, 6, 79, 0, 0), (12, .getfield 56, 15, 9, 0, 1, 0), (15, .if_icmp .ge 41, 18, 56, 0, 0, 0), (18, .aload_n 0, 19, 0, 0, 0, 0), (19, .getfield 22, 22, 6, 79, 0, 0), (22, .iload_n 2, 23, 2, 0, 0, 0), (23, .iload_n 1, 24, 1, 0, 0, 0), (24, .invokevirtual 98, 27, 88, 3, 1, 9), (27, .ifCond .eq 23, 30, 50, 0, 0, 0), (30, .aload_n 0, 31, 0, 0, 0, 0), (31, .getfield 9, 34, 6, 4, 5, 0), (34, .aload_n 0, 35, 0, 0, 0, 0), (35, .getfield 49, 38, 6, 0, 6, 0), (38, .iload_n 2, 39, 2, 0, 0, 0), (39, .iastore, 40, 0, 0, 0, 0), (40, .aload_n 0, 41, 0, 0, 0, 0), (41, .dup, 42, 0, 0, 0, 0), (42, .getfield 49, 45, 6, 0, 6, 0), (45, .iconst 1, 46, 0, 0, 0, 0), (46, .iadd, 47, 0, 0, 0, 0), (47, .putfield 49, 50, 6, 0, 6, 0)]
def sg_53_50 : List En := [(50, .iinc 2 1, 53, 2, 0, 1, 0), (53, .goto (-46), 56, 7, 0, 0, 0)]
def sg_53_56 : List En := [(56, .return_, 57, 0, 0, 0, 0)]
def pg_53 : List En := sg_53_0 ++ sg_53_7 ++ sg_53_50 ++ sg_53_56
/-! 54 Reducer.reduceRow -/
def sg_54_0 : List En := [(0, .aload_n 0, 1, 0, 0, 0, 0), (1, .iconst 1, 2, 0, 0, 0, 0), (2, .iconst 1, 3, 0, 0, 0, 0), (3, .iconst 1, 4, 0, 0, 0, 0), (4, .iload_n 1, 5, 1, 0, 0, 0), (5, .invokevirtual 101, 8, 55, 5, 1, 6), (8, .ifCond .eq 4, 11, 12, 0, 0, 0), (11, .return_, 12, 0, 0, 0, 0)]
def sg_54_12 : List En := [(12, .iconst 2, 13, 0, 0, 0, 0), (13, .istore_n 2, 14, 2, 0, 0, 0), (14, .iconst 0, 15, 0, 0, 0, 0), (15, .istore_n 3, 16, 3, 0, 0, 0)]
def sg_54_16 : List En := [(16, .iload_n 3, 17, 3, 0, 0, 0), (17, .ldc 55, 19, 0, 0, 100000, 0), (19, .if_icmp .ge 78, 22, 97, 0, 0, 0), (22, .aload_n 0, 23, 0, 0, 0, 0), (23, .getfield 49, 26, 6, 0, 6, 0), (26, .iconst 2, 27, 0, 0, 0, 0), (27, .if_icmp .lt 70, 30, 97, 0, 0, 0), (30, .aload_n 0, 31, 0, 0, 0, 0), (31, .iload_n 2, 32, 2, 0, 0, 0), (32, .iconst 0, 33, 0, 0, 0, 0), (33, .iconst 2, 34, 0, 0, 0, 0), (34, .iload_n 1, 35, 1, 0, 0, 0), (35, .invokevirtual 101, 38, 55, 5, 1, 6), (38, .ifCond .eq 8, 41, 46, 0, 0, 0), (41, .iconst 2, 42, 0, 0, 0, 0), (42, .istore_n 2, 43, 2, 0, 0, 0), (43, .goto 48, 46, 91, 0, 0, 0)]
def sg_54_46 : List En := [(46, .iload_n 2, 47, 2, 0, 0, 0), (47, .iconst 2, 48, 0, 0, 0, 0), (48, .if_icmp .le 20, 51, 68, 0, 0, 0), (51, .aload_n 0, 52, 0, 0, 0, 0), (52, .iload_n 2, 53, 2, 0, 0, 0), (53, .iconst 1, 54, 0, 0, 0, 0), (54, .iconst 3, 55, 0, 0, 0, 0), (55, .iload_n 1, 56, 1, 0, 0, 0), (56, .invokevirtual 101, 59, 55, 5, 1, 6), (59, .ifCond .eq 9, 62, 68, 0, 0, 0), (62, .iinc 2 (-1), 65, 2, 0, -1, 0), (65, .goto 26, 68, 91, 0, 0, 0)]
def sg_54_68 : List En := [(68, .iload_n 2, 69, 2, 0, 0, 0), (69, .aload_n 0, 70, 0, 0, 0, 0), (70, .getfield 49, 73, 6, 0, 6, 0), (73, .if_icmp .ge 17, 76, 90, 0, 0, 0), (76, .iconst 2, 77, 0, 0, 0, 0), (77, .iload_n 2, 78, 2, 0, 0, 0), (78, .imul, 79, 0, 0, 0, 0), (79, .aload_n 0, 80, 0, 0, 0, 0), (80, .getfield 49, 83, 6, 0, 6, 0), (83, .invokestatic 105, 86, 264, 2, 1, 0), (86, .istore_n 2, 87, 2, 0, 0, 0), (87, .goto 4, 90, 91, 0, 0, 0)]
def sg_54_90 : List En := [(90, .return_, 91, 0, 0, 0, 0)]
def sg_54_91 : List En := [(91, .iinc 3 1, 94, 3, 0, 1, 0), (94, .goto (-78), 97, 16, 0, 0, 0)]
def sg_54_97 : List En := [(97, .return_, 98, 0, 0, 0, 0)]
def pg_54 : List En := sg_54_0 ++ sg_54_12 ++ sg_54_16 ++ sg_54_46 ++ sg_54_68 ++ sg_54_90 ++ sg_54_91 ++ sg_54_97
/-! 55 Reducer.isPartTaken -/
def sg_55_0 : List En := [(0, .iconst 0, 1, 0, 0, 0, 0), (1, .istore 5, 3, 5, 0, 0, 0)]
def sg_55_3 : List En := [(3, .iload 5, 5, 5, 0, 0, 0), (5, .iload_n 1, 6, 1, 0, 0, 0), (6, .if_icmp .ge 71, 9, 77, 0, 0, 0), (9, .aload_n 0, 10, 0, 0, 0, 0), (10, .aload_n 0, 11, 0, 0, 0, 0), (11, .getfield 49, 14, 6, 0, 6, 0), (14, .iload_n 1, 15, 1, 0, 0, 0), (15, .iload 5, 17, 5, 0, 0, 0), (17, .invokestatic 111, 20, 45, 3, 1, 0), (20, .aload_n 0, 21, 0, 0, 0, 0), (21, .getfield 49, 24, 6, 0, 6, 0), (24, .iload_n 1, 25, 1, 0, 0, 0), (25, .iload 5, 27, 5, 0, 0, 0), (27, .iconst 1, 28, 0, 0, 0, 0), (28, .iadd, 29, 0, 0, 0, 0), (29, .invokestatic 111, 32, 45, 3, 1, 0), (32, .iload_n 2, 33, 2, 0, 0, 0), (33, .invokevirtual 115, 36, 56, 4, 0, 6), (36, .aload_n 0, 37, 0, 0, 0, 0), (37, .getfield 26, 40, 6, 95, 1, 0), (40, .aload_n 0, 41, 0, 0, 0, 0), (41, .getfield 22, 44, 6, 79, 0, 0), (44, .aload_n 0, 45, 0, 0, 0, 0), (45, .getfield 15, 48, 6, 6, 7, 0), (48, .aload_n 0, 49, 0, 0, 0, 0), (49, .getfield 19, 52, 6, 8, 8, 0), (52, .invokevirtual 119, 55, 91, 4, 0, 9), (55, .aload_n 0, 56, 0, 0, 0, 0), (56, .iload_n 3, 57, 3, 0, 0, 0), (57, .iload 4, 59, 4, 0, 0, 0), (59, .invokevirtual 84, 62, 52, 3, 1, 6), (62, .ifCond .eq 9, 65, 71, 0, 0, 0), (65, .aload_n 0, 66, 0, 0, 0, 0), (66, .invokevirtual 123, 69, 57, 1, 0, 6), (69, .iconst 1, 70, 0, 0, 0, 0), (70, .ireturn, 71, 0, 0, 0, 1)]
def sg_55_71 : List En := [(71, .iinc 5 1, 74, 5, 0, 1, 0), (74, .goto (-71), 77, 3, 0, 0, 0)]
def sg_55_77 : List En := [(77, .iconst 0, 78, 0, 0, 0, 0), (78, .ireturn, 79, 0, 0, 0, 1)]
def pg_55 : List En := sg_55_0 ++ sg_55_3 ++ sg_55_71 ++ sg_55_77
/-! 56 Reducer.markRow -/
def sg_56_0 : List En := [(0, .iconst 0, 1, 0, 0, 0, 0), (1, .istore 4, 3, 4, 0, 0, 0)]
def sg_56_3 : List En := [(3, .iload 4, 5, 4, 0, 0, 0), (5, .bipush 80, 7, 0, 0, 0, 0), (7, .if_icmp .ge 17, 10, 24, 0, 0, 0), (10, .aload_n 0, 11, 0, 0, 0, 0), (11, .getfield 15, 14, 6, 6, 7, 0), (14, .iload 4, 16, 4, 0, 0, 0), (16, .iconst 0, 17, 0, 0, 0, 0), (17, .bastore, 18, 0, 0, 0, 1), (18, .iinc 4 1, 21, 4, 0, 1, 0), (21, .goto (-18), 24, 3, 0, 0, 0)]
def sg_56_24 : List En := [(24, .iconst 0, 25, 0, 0, 0, 0), (25, .istore 4, 27, 4, 0, 0, 0)]
def sg_56_27 : List En := [(27, .iload 4, 29, 4, 0, 0, 0), (29, .aload_n 0, 30, 0, 0, 0, 0), (30, .getfield 49, 33, 6, 0, 6, 0), (33, .if_icmp .ge 47, 36, 80, 0, 0, 0), (36, .aload_n 0, 37, 0, 0, 0, 0), (37, .getfield 15, 40, 6, 6, 7, 0), (40, .aload_n 0, 41, 0, 0, 0, 0), (41, .getfield 9, 44, 6, 4, 5, 0), (44, .iload 4, 46, 4, 0, 0, 0), (46, .iaload, 47, 0, 0, 0, 0), (47, .iload 4, 49, 4, 0, 0, 0), (49, .iload_n 1, 50, 1, 0, 0, 0), (50, .if_icmp .lt 13, 53, 63, 0, 0, 0), (53, .iload 4, 55, 4, 0, 0, 0), (55, .iload_n 2, 56, 2, 0, 0, 0), (56, .if_icmp .ge 7, 59, 63, 0, 0, 0), (59, .iconst 1, 60, 0, 0, 0, 0), (60, .goto 4, 63, 64, 0, 0, 0)]
def sg_56_63 : List En := [(63, .iconst 0, 64, 0, 0, 0, 0)]
def sg_56_64 : List En := [(64, .iload_n 3, 65, 3, 0, 0, 0), (65, .if_icmp .ne 7, 68, 72, 0, 0, 0), (68, .iconst 1, 69, 0, 0, 0, 0), (69, .goto 4, 72, 73, 0, 0, 0)]
def sg_56_72 : List En := [(72, .iconst 0, 73, 0, 0, 0, 0)]
def sg_56_73 : List En := [(73, .bastore, 74, 0, 0, 0, 1), (74, .iinc 4 1, 77, 4, 0, 1, 0), (77, .goto (-50), 80, 27, 0, 0, 0)]
def sg_56_80 : List En := [(80, .return_, 81, 0, 0, 0, 0)]
def pg_56 : List En := sg_56_0 ++ sg_56_3 ++ sg_56_24 ++ sg_56_27 ++ sg_56_63 ++ sg_56_64 ++ sg_56_72 ++ sg_56_73 ++ sg_56_80
/-! 57 Reducer.keepUnchanged -/
def sg_57_0 : List En := [(0, .iconst 0, 1, 0, 0, 0, 0), (1, .istore_n 1, 2, 1, 0, 0, 0), (2, .iconst 0, 3, 0, 0, 0, 0), (3, .istore_n 2, 4, 2, 0, 0, 0)]
def sg_57_4 : List En := [(4, .iload_n 2, 5, 2, 0, 0, 0), (5, .aload_n 0, 6, 0, 0, 0, 0), (6, .getfield 49, 9, 6, 0, 6, 0), (9, .if_icmp .ge 43, 12, 52, 0, 0, 0), (12, .aload_n 0, 13, 0, 0, 0, 0), (13, .getfield 15, 16, 6, 6, 7, 0), (16, .aload_n 0, 17, 0, 0, 0, 0), (17, .getfield 9, 20, 6, 4, 5, 0), (20, .iload_n 2, 21, 2, 0, 0, 0), (21, .iaload, 22, 0, 0, 0, 0), (22, .baload, 23, 0, 0, 0, 1), (23, .ifCond .ne 23, 26, 46, 0, 0, 0), (26, .aload_n 0, 27, 0, 0, 0, 0), (27, .getfield 9, 30, 6, 4, 5, 0), (30, .iload_n 1, 31, 1, 0, 0, 0), (31, .aload_n 0, 32, 0, 0, 0, 0), (32, .getfield 19, 35, 6, 8, 8, 0), (35, .aload_n 0, 36, 0, 0, 0, 0), (36, .getfield 9, 39, 6, 4, 5, 0), (39, .iload_n 2, 40, 2, 0, 0, 0), (40, .iaload, 41, 0, 0, 0, 0), (41, .iaload, 42, 0, 0, 0, 0), (42, .iastore, 43, 0, 0, 0, 0), (43, .iinc 1 1, 46, 1, 0, 1, 0)]
def sg_57_46 : List En := [(46, .iinc 2 1, 49, 2, 0, 1, 0), (49, .goto (-45), 52, 4, 0, 0, 0)]
def sg_57_52 : List En := [(52, .aload_n 0, 53, 0, 0, 0, 0), (53, .iload_n 1, 54, 1, 0, 0, 0), (54, .putfield 49, 57, 6, 0, 6, 0), (57, .return_, 58, 0, 0, 0, 0)]
def pg_57 : List En := sg_57_0 ++ sg_57_4 ++ sg_57_46 ++ sg_57_52
/-! 58 Single.start -/
def sg_58_0 : List En := [(0, .aload_n 0, 1, 0, 0, 0, 0), (1, .iconst 0, 2, 0, 0, 0, 0), (2, .invokevirtual 15, 5, 59, 2, 0, 7), (5, .return_, 6, 0, 0, 0, 0)]
def pg_58 : List En := sg_58_0
/-! 59 Single.atNode -/
def sg_59_0 : List En := [(0, .aload_n 0, 1, 0, 0, 0, 0), (1, .iload_n 1, 2, 1, 0, 0, 0), (2, .putfield 19, 5, 7, 0, 1, 0), (5, .aload_n 0, 6, 0, 0, 0, 0), (6, .iconst (-1), 7, 0, 0, 0, 0), (7, .putfield 23, 10, 7, 0, 2, 0), (10, .aload_n 0, 11, 0, 0, 0, 0), (11, .iload_n 1, 12, 1, 0, 0, 0), (12, .putfield 26, 15, 7, 0, 3, 0), (15, .return_, 16, 0, 0, 0, 0)]
def pg_59 : List En := sg_59_0
/-! 60 Single.step -/
def sg_60_0 : List En := [(0, .aload_n 0, 1, 0, 0, 0, 0), (1, .getfield 19, 4, 7, 0, 1, 0), (4, .aload_n 0, 5, 0, 0, 0, 0), (5, .getfield 9, 8, 7, 79, 0, 0), (8, .getfield 29, 11, 9, 0, 1, 0), (11, .if_icmp .ge 152, 14, 163, 0, 0, 0), (14, .aload_n 0, 15, 0, 0, 0, 0), (15, .getfield 23, 18, 7, 0, 2, 0), (18, .ifCond .ge 24, 21, 42, 0, 0, 0), (21, .aload_n 0, 22, 0, 0, 0, 0), (22, .iconst 0, 23, 0, 0, 0, 0), (23, .putfield 23, 26, 7, 0, 2, 0), (26, .aload_n 0, 27, 0, 0, 0, 0), (27, .getfield 9, 30, 7, 79, 0, 0), (30, .aload_n 0, 31, 0, 0, 0, 0), (31, .getfield 19, 34, 7, 0, 1, 0), (34, .invokevirtual 34, 37, 86, 2, 1, 9), (37, .ifCond .eq 5, 40, 42, 0, 0, 0), (40, .iconst 1, 41, 0, 0, 0, 0), (41, .ireturn, 42, 0, 0, 0, 1)]
def sg_60_42 : List En := [(42, .aload_n 0, 43, 0, 0, 0, 0), (43, .getfield 23, 46, 7, 0, 2, 0), (46, .iconst 1, 47, 0, 0, 0, 0), (47, .if_icmp .ge 24, 50, 71, 0, 0, 0), (50, .aload_n 0, 51, 0, 0, 0, 0), (51, .iconst 1, 52, 0, 0, 0, 0), (52, .putfield 23, 55, 7, 0, 2, 0), (55, .aload_n 0, 56, 0, 0, 0, 0), (56, .getfield 9, 59, 7, 79, 0, 0), (59, .aload_n 0, 60, 0, 0, 0, 0), (60, .getfield 19, 63, 7, 0, 1, 0), (63, .invokevirtual 38, 66, 87, 2, 1, 9), (66, .ifCond .eq 5, 69, 71, 0, 0, 0), (69, .iconst 1, 70, 0, 0, 0, 0), (70, .ireturn, 71, 0, 0, 0, 1)]
def sg_60_71 : List En := [(71, .aload_n 0, 72, 0, 0, 0, 0), (72, .iconst 2, 73, 0, 0, 0, 0), (73, .putfield 23, 76, 7, 0, 2, 0), (76, .aload_n 0, 77, 0, 0, 0, 0), (77, .dup, 78, 0, 0, 0, 0), (78, .getfield 26, 81, 7, 0, 3, 0), (81, .iconst 1, 82, 0, 0, 0, 0), (82, .iadd, 83, 0, 0, 0, 0), (83, .putfield 26, 86, 7, 0, 3, 0)]
def sg_60_86 : List En := [(86, .aload_n 0, 87, 0, 0, 0, 0), (87, .getfield 26, 90, 7, 0, 3, 0), (90, .aload_n 0, 91, 0, 0, 0, 0), (91, .getfield 19, 94, 7, 0, 1, 0), (94, .aload_n 0, 95, 0, 0, 0, 0), (95, .getfield 9, 98, 7, 79, 0, 0), (98, .getfield 41, 101, 9, 14, 8, 0), (101, .aload_n 0, 102, 0, 0, 0, 0), (102, .getfield 19, 105, 7, 0, 1, 0), (105, .iaload, 106, 0, 0, 0, 0), (106, .iadd, 107, 0, 0, 0, 0), (107, .if_icmp .ge 43, 110, 150, 0, 0, 0), (110, .aload_n 0, 111, 0, 0, 0, 0), (111, .getfield 9, 114, 7, 79, 0, 0), (114, .aload_n 0, 115, 0, 0, 0, 0), (115, .getfield 26, 118, 7, 0, 3, 0), (118, .invokevirtual 45, 121, 85, 2, 1, 9), (121, .aload_n 0, 122, 0, 0, 0, 0), (122, .getfield 9, 125, 7, 79, 0, 0), (125, .aload_n 0, 126, 0, 0, 0, 0), (126, .getfield 19, 129, 7, 0, 1, 0), (129, .invokevirtual 45, 132, 85, 2, 1, 9), (132, .if_icmp .ne 5, 135, 137, 0, 0, 0), (135, .iconst 1, 136, 0, 0, 0, 0), (136, .ireturn, 137, 0, 0, 0, 1)]
def sg_60_137 : List En := [(137, .aload_n 0, 138, 0, 0, 0, 0), (138, .dup, 139, 0, 0, 0, 0), (139, .getfield 26, 142, 7, 0, 3, 0), (142, .iconst 1, 143, 0, 0, 0, 0), (143, .iadd, 144, 0, 0, 0, 0), (144, .putfield 26, 147, 7, 0, 3, 0), (147, .goto (-61), 150, 86, 0, 0, 0)]
def sg_60_150 : List En := [(150, .aload_n 0, 151, 0, 0, 0, 0), (151, .aload_n 0, 152, 0, 0, 0, 0), (152, .getfield 19, 155, 7, 0, 1, 0), (155, .iconst 1, 156, 0, 0, 0, 0), (156, .iadd, 157, 0, 0, 0, 0), (157, .invokevirtual 15, 160, 59, 2, 0, 7), (160, .goto (-160), 163, 0, 0, 0, 0)]
def sg_60_163 : List En := [(163, .iconst 0, 164, 0, 0, 0, 0), (164, .ireturn, 165, 0, 0, 0, 1)]
def pg_60 : List En := sg_60_0 ++ sg_60_42 ++ sg_60_71 ++ sg_60_86 ++ sg_60_137 ++ sg_60_150 ++ sg_60_163
/-! 61 Single.goTo -/
def sg_61_0 : List En := [(0, .iload_n 1, 1, 1, 0, 0, 0), (1, .ifCond .ge 5, 4, 6, 0, 0, 0), (4, .iconst 0, 5, 0, 0, 0, 0), (5, .ireturn, 6, 0, 0, 0, 1)]
def sg_61_6 : List En := [(6, .aload_n 0, 7, 0, 0, 0, 0), (7, .invokevirtual 49, 10, 58, 1, 0, 7), (10, .iconst 0, 11, 0, 0, 0, 0), (11, .istore_n 2, 12, 2, 0, 0, 0)]
def sg_61_12 : List En := [(12, .iload_n 2, 13, 2, 0, 0, 0), (13, .ldc 52, 15, 0, 0, 100000, 0), (15, .if_icmp .ge 23, 18, 38, 0, 0, 0), (18, .aload_n 0, 19, 0, 0, 0, 0), (19, .invokevirtual 53, 22, 60, 1, 1, 7), (22, .ifCond .eq 16, 25, 38, 0, 0, 0), (25, .iload_n 2, 26, 2, 0, 0, 0), (26, .iload_n 1, 27, 1, 0, 0, 0), (27, .if_icmp .ne 5, 30, 32, 0, 0, 0), (30, .iconst 1, 31, 0, 0, 0, 0), (31, .ireturn, 32, 0, 0, 0, 1)]
def sg_61_32 : List En := [(32, .iinc 2 1, 35, 2, 0, 1, 0), (35, .goto (-23), 38, 12, 0, 0, 0)]
def sg_61_38 : List En := [(38, .iconst 0, 39, 0, 0, 0, 0), (39, .ireturn, 40, 0, 0, 0, 1)]
def pg_61 : List En := sg_61_0 ++ sg_61_6 ++ sg_61_12 ++ sg_61_32 ++ sg_61_38
/-! 62 Single.howMany -/
def sg_62_0 : List En := [(0, .aload_n 0, 1, 0, 0, 0, 0), (1, .invokevirtual 49, 4, 58, 1, 0, 7), (4, .iconst 0, 5, 0, 0, 0, 0), (5, .istore_n 1, 6, 1, 0, 0, 0)]
def sg_62_6 : List En := [(6, .iload_n 1, 7, 1, 0, 0, 0), (7, .ldc 52, 9, 0, 0, 100000, 0), (9, .if_icmp .ge 16, 12, 25, 0, 0, 0), (12, .aload_n 0, 13, 0, 0, 0, 0), (13, .invokevirtual 53, 16, 60, 1, 1, 7), (16, .ifCond .eq 9, 19, 25, 0, 0, 0), (19, .iinc 1 1, 22, 1, 0, 1, 0), (22, .goto (-16), 25, 6, 0, 0, 0)]
def sg_62_25 : List En := [(25, .iload_n 1, 26, 1, 0, 0, 0), (26, .ireturn, 27, 0, 0, 0, 0)]
def pg_62 : List En := sg_62_0 ++ sg_62_6 ++ sg_62_25
/-! 63 Text.letterOf -/
def sg_63_0 : List En := [(0, .iload_n 0, 1, 0, 0, 0, 0), (1, .bipush 25, 3, 0, 0, 0, 0), (3, .iconst 5, 4, 0, 0, 0, 0), (4, .iload_n 1, 5, 1, 0, 0, 0), (5, .imul, 6, 0, 0, 0, 0), (6, .isub, 7, 0, 0, 0, 0), (7, .ishr, 8, 0, 0, 0, 0), (8, .bipush 31, 10, 0, 0, 0, 0), (10, .iand, 11, 0, 0, 0, 0), (11, .ireturn, 12, 0, 0, 0, 0)]
def pg_63 : List En := sg_63_0
/-! 64 Text.append -/
def sg_64_0 : List En := [(0, .bipush 24, 2, 0, 0, 0, 0), (2, .istore_n 2, 3, 2, 0, 0, 0)]
def sg_64_3 : List En := [(3, .iload_n 2, 4, 2, 0, 0, 0), (4, .ifCond .lt 42, 7, 46, 0, 0, 0), (7, .aload_n 0, 8, 0, 0, 0, 0), (8, .getfield 19, 11, 8, 0, 1, 0), (11, .sipush 1000, 14, 0, 0, 0, 0), (14, .if_icmp .ge 32, 17, 46, 0, 0, 0), (17, .aload_n 0, 18, 0, 0, 0, 0), (18, .getfield 9, 21, 8, 4, 0, 0), (21, .aload_n 0, 22, 0, 0, 0, 0), (22, .getfield 19, 25, 8, 0, 1, 0), (25, .iload_n 1, 26, 1, 0, 0, 0), (26, .iload_n 2, 27, 2, 0, 0, 0), (27, .ishr, 28, 0, 0, 0, 0), (28, .i2b, 29, 0, 0, 0, 0), (29, .bastore, 30, 0, 0, 0, 0), (30, .aload_n 0, 31, 0, 0, 0, 0), (31, .dup, 32, 0, 0, 0, 0), (32, .getfield 19, 35, 8, 0, 1, 0), (35, .iconst 1, 36, 0, 0, 0, 0), (36, .iadd, 37, 0, 0, 0, 0), (37, .putfield 19, 40, 8, 0, 1, 0), (40, .iinc 2 (-8), 43, 2, 0, -8, 0), (43, .goto (-40), 46, 3, 0, 0, 0)]
def sg_64_46 : List En := [(46, .return_, 47, 0, 0, 0, 0)]
def pg_64 : List En := sg_64_0 ++ sg_64_3 ++ sg_64_46
/-! 65 Text.start -/
def sg_65_0 : List En := [(0, .aload_n 0, 1, 0, 0, 0, 0), (1, .iconst 0, 2, 0, 0, 0, 0), (2, .putfield 22, 5, 8, 0, 2, 0), (5, .aload_n 0, 6, 0, 0, 0, 0), (6, .iconst 0, 7, 0, 0, 0, 0), (7, .putfield 25, 10, 8, 0, 3, 0), (10, .aload_n 0, 11, 0, 0, 0, 0), (11, .iconst 0, 12, 0, 0, 0, 0), (12, .putfield 28, 15, 8, 0, 6, 0), (15, .aload_n 0, 16, 0, 0, 0, 0), (16, .iconst (-1), 17, 0, 0, 0, 0), (17, .putfield 15, 20, 8, 0, 7, 0), (20, .aload_n 0, 21, 0, 0, 0, 0), (21, .invokevirtual 31, 24, 67, 1, 0, 8), (24, .return_, 25, 0, 0, 0, 0)]
def pg_65 : List En := sg_65_0
/-! 66 Text.fail -/
def sg_66_0 : List En := [(0, .aload_n 0, 1, 0, 0, 0, 0), (1, .iload_n 1, 2, 1, 0, 0, 0), (2, .putfield 28, 5, 8, 0, 6, 0), (5, .aload_n 0, 6, 0, 0, 0, 0), (6, .aload_n 0, 7, 0, 0, 0, 0), (7, .getfield 34, 10, 8, 0, 4, 0), (10, .putfield 15, 13, 8, 0, 7, 0), (13, .iconst 0, 14, 0, 0, 0, 0), (14, .ireturn, 15, 0, 0, 0, 1)]
def pg_66 : List En := sg_66_0
/-! 67 Text.advance -/
def sg_67_0 : List En := [(0, .aload_n 0, 1, 0, 0, 0, 0), (1, .getfield 25, 4, 8, 0, 3, 0), (4, .iconst 1, 5, 0, 0, 0, 0), (5, .if_icmp .eq 15, 8, 20, 0, 0, 0), (8, .aload_n 0, 9, 0, 0, 0, 0), (9, .getfield 25, 12, 8, 0, 3, 0), (12, .iconst 2, 13, 0, 0, 0, 0), (13, .if_icmp .eq 7, 16, 20, 0, 0, 0), (16, .iconst 1, 17, 0, 0, 0, 0), (17, .goto 4, 20, 21, 0, 0, 0)]
def sg_67_20 : List En := [(20, .iconst 0, 21, 0, 0, 0, 0)]
def sg_67_21 : List En := [(21, .istore_n 1, 22, 1, 0, 0, 0), (22, .aload_n 0, 23, 0, 0, 0, 0), (23, .getfield 22, 26, 8, 0, 2, 0), (26, .istore_n 2, 27, 2, 0, 0, 0)]
def sg_67_27 : List En := [(27, .aload_n 0, 28, 0, 0, 0, 0), (28, .getfield 22, 31, 8, 0, 2, 0), (31, .aload_n 0, 32, 0, 0, 0, 0), (32, .getfield 19, 35, 8, 0, 1, 0), (35, .if_icmp .ge 44, 38, 79, 0, 0, 0), (38, .aload_n 0, 39, 0, 0, 0, 0), (39, .getfield 9, 42, 8, 4, 0, 0), (42, .aload_n 0, 43, 0, 0, 0, 0), (43, .getfield 22, 46, 8, 0, 2, 0), (46, .baload, 47, 0, 0, 0, 0), (47, .bipush 32, 49, 0, 0, 0, 0), (49, .if_icmp .eq 17, 52, 66, 0, 0, 0), (52, .aload_n 0, 53, 0, 0, 0, 0), (53, .getfield 9, 56, 8, 4, 0, 0), (56, .aload_n 0, 57, 0, 0, 0, 0), (57, .getfield 22, 60, 8, 0, 2, 0), (60, .baload, 61, 0, 0, 0, 0), (61, .bipush 10, 63, 0, 0, 0, 0), (63, .if_icmp .ne 16, 66, 79, 0, 0, 0)]
def sg_67_66 : List En := [(66, .aload_n 0, 67, 0, 0, 0, 0), (67, .dup, 68, 0, 0, 0, 0), (68, .getfield 22, 71, 8, 0, 2, 0), (71, .iconst 1, 72, 0, 0, 0, 0), (72, .iadd, 73, 0, 0, 0, 0), (73, .putfield 22, 76, 8, 0, 2, 0), (76, .goto (-49), 79, 27, 0, 0, 0)]
def sg_67_79 : List En := [(79, .aload_n 0, 80, 0, 0, 0, 0), (80, .aload_n 0, 81, 0, 0, 0, 0), (81, .getfield 22, 84, 8, 0, 2, 0), (84, .putfield 34, 87, 8, 0, 4, 0), (87, .aload_n 0, 88, 0, 0, 0, 0), (88, .getfield 22, 91, 8, 0, 2, 0), (91, .aload_n 0, 92, 0, 0, 0, 0), (92, .getfield 19, 95, 8, 0, 1, 0), (95, .if_icmp .lt 11, 98, 106, 0, 0, 0), (98, .aload_n 0, 99, 0, 0, 0, 0), (99, .iconst 0, 100, 0, 0, 0, 0), (100, .putfield 25, 103, 8, 0, 3, 0), (103, .goto 109, 106, 212, 0, 0, 0)]
def sg_67_106 : List En := [(106, .aload_n 0, 107, 0, 0, 0, 0), (107, .getfield 9, 110, 8, 4, 0, 0), (110, .aload_n 0, 111, 0, 0, 0, 0), (111, .getfield 22, 114, 8, 0, 2, 0), (114, .baload, 115, 0, 0, 0, 0), (115, .invokestatic 37, 118, 70, 1, 1, 0), (118, .ifCond .eq 27, 121, 145, 0, 0, 0), (121, .aload_n 0, 122, 0, 0, 0, 0), (122, .iload_n 1, 123, 1, 0, 0, 0), (123, .ifCond .ne 11, 126, 134, 0, 0, 0), (126, .aload_n 0, 127, 0, 0, 0, 0), (127, .getfield 22, 130, 8, 0, 2, 0), (130, .iload_n 2, 131, 2, 0, 0, 0), (131, .if_icmp .le 7, 134, 138, 0, 0, 0)]
def sg_67_134 : List En := [(134, .iconst 1, 135, 0, 0, 0, 0), (135, .goto 4, 138, 139, 0, 0, 0)]
def sg_67_138 : List En := [(138, .iconst 0, 139, 0, 0, 0, 0)]
def sg_67_139 : List En := [(139, .invokevirtual 41, 142, 68, 2, 0, 8), (142, .goto 70, 145, 212, 0, 0, 0)]
def sg_67_145 : List En := [(145, .aload_n 0, 146, 0, 0, 0, 0), (146, .getfield 9, 149, 8, 4, 0, 0), (149, .aload_n 0, 150, 0, 0, 0, 0), (150, .getfield 22, 153, 8, 0, 2, 0), (153, .baload, 154, 0, 0, 0, 0), (154, .invokestatic 45, 157, 71, 1, 1, 0), (157, .ifCond .eq 27, 160, 184, 0, 0, 0), (160, .aload_n 0, 161, 0, 0, 0, 0), (161, .iload_n 1, 162, 1, 0, 0, 0), (162, .ifCond .ne 11, 165, 173, 0, 0, 0), (165, .aload_n 0, 166, 0, 0, 0, 0), (166, .getfield 22, 169, 8, 0, 2, 0), (169, .iload_n 2, 170, 2, 0, 0, 0), (170, .if_icmp .le 7, 173, 177, 0, 0, 0)]
def sg_67_173 : List En := [(173, .iconst 1, 174, 0, 0, 0, 0), (174, .goto 4, 177, 178, 0, 0, 0)]
def sg_67_177 : List En := [(177, .iconst 0, 178, 0, 0, 0, 0)]
def sg_67_178 : List En := [(178, .invokevirtual 48, 181, 69, 2, 0, 8), (181, .goto 31, 184, 212, 0, 0, 0)]
def sg_67_184 : List En := [(184, .aload_n 0, 185, 0, 0, 0, 0), (185, .iconst 3, 186, 0, 0, 0, 0), (186, .putfield 25, 189, 8, 0, 3, 0), (189, .aload_n 0, 190, 0, 0, 0, 0), (190, .aload_n 0, 191, 0, 0, 0, 0), (191, .getfield 9, 194, 8, 4, 0, 0), (194, .aload_n 0, 195, 0, 0, 0, 0), (195, .getfield 22, 198, 8, 0, 2, 0), (198, .baload, 199, 0, 0, 0, 0), (199, .putfield 51, 202, 8, 0, 5, 0), (202, .aload_n 0, 203, 0, 0, 0, 0), (203, .dup, 204, 0, 0, 0, 0), (204, .getfield 22, 207, 8, 0, 2, 0), (207, .iconst 1, 208, 0, 0, 0, 0), (208, .iadd, 209, 0, 0, 0, 0), (209, .putfield 22, 212, 8, 0, 2, 0)]
def sg_67_212 : List En := [(212, .return_, 213, 0, 0, 0, 0)]
def pg_67 : List En := sg_67_0 ++ sg_67_20 ++ sg_67_21 ++ sg_67_27 ++ sg_67_66 ++ sg_67_79 ++ sg_67_106 ++ sg_67_134 ++ sg_67_138 ++ sg_67_139 ++ sg_67_145 ++ sg_67_173 ++ sg_67_177 ++ sg_67_178 ++ sg_67_184 ++ sg_67_212
/-! 68 Text.advanceWord -/
def sg_68_0 : List En := [(0, .iconst 0, 1, 0, 0, 0, 0), (1, .istore_n 2, 2, 2, 0, 0, 0), (2, .aload_n 0, 3, 0, 0, 0, 0), (3, .iconst 0, 4, 0, 0, 0, 0), (4, .putfield 51, 7, 8, 0, 5, 0)]
def sg_68_7 : List En := [(7, .aload_n 0, 8, 0, 0, 0, 0), (8, .getfield 22, 11, 8, 0, 2, 0), (11, .aload_n 0, 12, 0, 0, 0, 0), (12, .getfield 19, 15, 8, 0, 1, 0), (15, .if_icmp .ge 70, 18, 85, 0, 0, 0), (18, .aload_n 0, 19, 0, 0, 0, 0), (19, .getfield 9, 22, 8, 4, 0, 0), (22, .aload_n 0, 23, 0, 0, 0, 0), (23, .getfield 22, 26, 8, 0, 2, 0), (26, .baload, 27, 0, 0, 0, 0), (27, .invokestatic 37, 30, 70, 1, 1, 0), (30, .ifCond .eq 55, 33, 85, 0, 0, 0), (33, .iload_n 2, 34, 2, 0, 0, 0), (34, .bipush 6, 36, 0, 0, 0, 0), (36, .if_icmp .ge 33, 39, 69, 0, 0, 0), (39, .aload_n 0, 40, 0, 0, 0, 0), (40, .dup, 41, 0, 0, 0, 0), (41, .getfield 51, 44, 8, 0, 5, 0), (44, .aload_n 0, 45, 0, 0, 0, 0), (45, .getfield 9, 48, 8, 4, 0, 0), (48, .aload_n 0, 49, 0, 0, 0, 0), (49, .getfield 22, 52, 8, 0, 2, 0), (52, .baload, 53, 0, 0, 0, 0), (53, .bipush 97, 55, 0, 0, 0, 0), (55, .isub, 56, 0, 0, 0, 0), (56, .iconst 1, 57, 0, 0, 0, 0), (57, .iadd, 58, 0, 0, 0, 0), (58, .bipush 25, 60, 0, 0, 0, 0), (60, .iconst 5, 61, 0, 0, 0, 0), (61, .iload_n 2, 62, 2, 0, 0, 0), (62, .imul, 63, 0, 0, 0, 0), (63, .isub, 64, 0, 0, 0, 0), (64, .ishl, 65, 0, 0, 0, 0), (65, .ior, 66, 0, 0, 0, 0), (66, .putfield 51, 69, 8, 0, 5, 0)]
def sg_68_69 : List En := [(69, .iinc 2 1, 72, 2, 0, 1, 0), (72, .aload_n 0, 73, 0, 0, 0, 0), (73, .dup, 74, 0, 0, 0, 0), (74, .getfield 22, 77, 8, 0, 2, 0), (77, .iconst 1, 78, 0, 0, 0, 0), (78, .iadd, 79, 0, 0, 0, 0), (79, .putfield 22, 82, 8, 0, 2, 0), (82, .goto (-75), 85, 7, 0, 0, 0)]
def sg_68_85 : List En := [(85, .aload_n 0, 86, 0, 0, 0, 0), (86, .iload_n 1, 87, 1, 0, 0, 0), (87, .ifCond .eq 13, 90, 100, 0, 0, 0), (90, .iload_n 2, 91, 2, 0, 0, 0), (91, .bipush 6, 93, 0, 0, 0, 0), (93, .if_icmp .gt 7, 96, 100, 0, 0, 0), (96, .iconst 1, 97, 0, 0, 0, 0), (97, .goto 4, 100, 101, 0, 0, 0)]
def sg_68_100 : List En := [(100, .iconst 4, 101, 0, 0, 0, 0)]
def sg_68_101 : List En := [(101, .putfield 25, 104, 8, 0, 3, 0), (104, .return_, 105, 0, 0, 0, 0)]
def pg_68 : List En := sg_68_0 ++ sg_68_7 ++ sg_68_69 ++ sg_68_85 ++ sg_68_100 ++ sg_68_101
/-! 69 Text.advanceNumber -/
def sg_69_0 : List En := [(0, .iconst 0, 1, 0, 0, 0, 0), (1, .istore_n 2, 2, 2, 0, 0, 0), (2, .aload_n 0, 3, 0, 0, 0, 0), (3, .iconst 0, 4, 0, 0, 0, 0), (4, .putfield 51, 7, 8, 0, 5, 0)]
def sg_69_7 : List En := [(7, .aload_n 0, 8, 0, 0, 0, 0), (8, .getfield 22, 11, 8, 0, 2, 0), (11, .aload_n 0, 12, 0, 0, 0, 0), (12, .getfield 19, 15, 8, 0, 1, 0), (15, .if_icmp .ge 63, 18, 78, 0, 0, 0), (18, .aload_n 0, 19, 0, 0, 0, 0), (19, .getfield 9, 22, 8, 4, 0, 0), (22, .aload_n 0, 23, 0, 0, 0, 0), (23, .getfield 22, 26, 8, 0, 2, 0), (26, .baload, 27, 0, 0, 0, 0), (27, .invokestatic 45, 30, 71, 1, 1, 0), (30, .ifCond .eq 48, 33, 78, 0, 0, 0), (33, .iload_n 2, 34, 2, 0, 0, 0), (34, .iconst 3, 35, 0, 0, 0, 0), (35, .if_icmp .ge 27, 38, 62, 0, 0, 0), (38, .aload_n 0, 39, 0, 0, 0, 0), (39, .aload_n 0, 40, 0, 0, 0, 0), (40, .getfield 51, 43, 8, 0, 5, 0), (43, .bipush 10, 45, 0, 0, 0, 0), (45, .imul, 46, 0, 0, 0, 0), (46, .aload_n 0, 47, 0, 0, 0, 0), (47, .getfield 9, 50, 8, 4, 0, 0), (50, .aload_n 0, 51, 0, 0, 0, 0), (51, .getfield 22, 54, 8, 0, 2, 0), (54, .baload, 55, 0, 0, 0, 0), (55, .iadd, 56, 0, 0, 0, 0), (56, .bipush 48, 58, 0, 0, 0, 0), (58, .isub, 59, 0, 0, 0, 0), (59, .putfield 51, 62, 8, 0, 5, 0)]
def sg_69_62 : List En := [(62, .iinc 2 1, 65, 2, 0, 1, 0), (65, .aload_n 0, 66, 0, 0, 0, 0), (66, .dup, 67, 0, 0, 0, 0), (67, .getfield 22, 70, 8, 0, 2, 0), (70, .iconst 1, 71, 0, 0, 0, 0), (71, .iadd, 72, 0, 0, 0, 0), (72, .putfield 22, 75, 8, 0, 2, 0), (75, .goto (-68), 78, 7, 0, 0, 0)]
def sg_69_78 : List En := [(78, .aload_n 0, 79, 0, 0, 0, 0), (79, .iload_n 1, 80, 1, 0, 0, 0), (80, .ifCond .eq 12, 83, 92, 0, 0, 0), (83, .iload_n 2, 84, 2, 0, 0, 0), (84, .iconst 3, 85, 0, 0, 0, 0), (85, .if_icmp .gt 7, 88, 92, 0, 0, 0), (88, .iconst 2, 89, 0, 0, 0, 0), (89, .goto 4, 92, 93, 0, 0, 0)]
def sg_69_92 : List En := [(92, .iconst 4, 93, 0, 0, 0, 0)]
def sg_69_93 : List En := [(93, .putfield 25, 96, 8, 0, 3, 0), (96, .return_, 97, 0, 0, 0, 0)]
def pg_69 : List En := sg_69_0 ++ sg_69_7 ++ sg_69_62 ++ sg_69_78 ++ sg_69_92 ++ sg_69_93
/-! 70 Text.isLetter -/
def sg_70_0 : List En := [(0, .iload_n 0, 1, 0, 0, 0, 0), (1, .bipush 97, 3, 0, 0, 0, 0), (3, .if_icmp .lt 13, 6, 16, 0, 0, 0), (6, .iload_n 0, 7, 0, 0, 0, 0), (7, .bipush 122, 9, 0, 0, 0, 0), (9, .if_icmp .gt 7, 12, 16, 0, 0, 0), (12, .iconst 1, 13, 0, 0, 0, 0), (13, .goto 4, 16, 17, 0, 0, 0)]
def sg_70_16 : List En := [(16, .iconst 0, 17, 0, 0, 0, 0)]
def sg_70_17 : List En := [(17, .ireturn, 18, 0, 0, 0, 1)]
def pg_70 : List En := sg_70_0 ++ sg_70_16 ++ sg_70_17
/-! 71 Text.isDigit -/
def sg_71_0 : List En := [(0, .iload_n 0, 1, 0, 0, 0, 0), (1, .bipush 48, 3, 0, 0, 0, 0), (3, .if_icmp .lt 13, 6, 16, 0, 0, 0), (6, .iload_n 0, 7, 0, 0, 0, 0), (7, .bipush 57, 9, 0, 0, 0, 0), (9, .if_icmp .gt 7, 12, 16, 0, 0, 0), (12, .iconst 1, 13, 0, 0, 0, 0), (13, .goto 4, 16, 17, 0, 0, 0)]
def sg_71_16 : List En := [(16, .iconst 0, 17, 0, 0, 0, 0)]
def sg_71_17 : List En := [(17, .ireturn, 18, 0, 0, 0, 1)]
def pg_71 : List En := sg_71_0 ++ sg_71_16 ++ sg_71_17
/-! 72 Text.isAtEnd -/
def sg_72_0 : List En := [(0, .aload_n 0, 1, 0, 0, 0, 0), (1, .getfield 25, 4, 8, 0, 3, 0), (4, .ifCond .ne 7, 7, 11, 0, 0, 0), (7, .iconst 1, 8, 0, 0, 0, 0), (8, .goto 4, 11, 12, 0, 0, 0)]
def sg_72_11 : List En := [(11, .iconst 0, 12, 0, 0, 0, 0)]
def sg_72_12 : List En := [(12, .ireturn, 13, 0, 0, 0, 1)]
def pg_72 : List En := sg_72_0 ++ sg_72_11 ++ sg_72_12
/-! 73 Text.isWord -/
def sg_73_0 : List En := [(0, .aload_n 0, 1, 0, 0, 0, 0), (1, .getfield 25, 4, 8, 0, 3, 0), (4, .iconst 1, 5, 0, 0, 0, 0), (5, .if_icmp .ne 15, 8, 20, 0, 0, 0), (8, .aload_n 0, 9, 0, 0, 0, 0), (9, .getfield 51, 12, 8, 0, 5, 0), (12, .iload_n 1, 13, 1, 0, 0, 0), (13, .if_icmp .ne 7, 16, 20, 0, 0, 0), (16, .iconst 1, 17, 0, 0, 0, 0), (17, .goto 4, 20, 21, 0, 0, 0)]
def sg_73_20 : List En := [(20, .iconst 0, 21, 0, 0, 0, 0)]
def sg_73_21 : List En := [(21, .ireturn, 22, 0, 0, 0, 1)]
def pg_73 : List En := sg_73_0 ++ sg_73_20 ++ sg_73_21
/-! 74 Text.isSign -/
def sg_74_0 : List En := [(0, .aload_n 0, 1, 0, 0, 0, 0), (1, .getfield 25, 4, 8, 0, 3, 0), (4, .iconst 3, 5, 0, 0, 0, 0), (5, .if_icmp .ne 15, 8, 20, 0, 0, 0), (8, .aload_n 0, 9, 0, 0, 0, 0), (9, .getfield 51, 12, 8, 0, 5, 0), (12, .iload_n 1, 13, 1, 0, 0, 0), (13, .if_icmp .ne 7, 16, 20, 0, 0, 0), (16, .iconst 1, 17, 0, 0, 0, 0), (17, .goto 4, 20, 21, 0, 0, 0)]
def sg_74_20 : List En := [(20, .iconst 0, 21, 0, 0, 0, 0)]
def sg_74_21 : List En := [(21, .ireturn, 22, 0, 0, 0, 1)]
def pg_74 : List En := sg_74_0 ++ sg_74_20 ++ sg_74_21
/-! 75 Text.isNumber -/
def sg_75_0 : List En := [(0, .aload_n 0, 1, 0, 0, 0, 0), (1, .getfield 25, 4, 8, 0, 3, 0), (4, .iconst 2, 5, 0, 0, 0, 0), (5, .if_icmp .ne 7, 8, 12, 0, 0, 0), (8, .iconst 1, 9, 0, 0, 0, 0), (9, .goto 4, 12, 13, 0, 0, 0)]
def sg_75_12 : List En := [(12, .iconst 0, 13, 0, 0, 0, 0)]
def sg_75_13 : List En := [(13, .ireturn, 14, 0, 0, 0, 1)]
def pg_75 : List En := sg_75_0 ++ sg_75_12 ++ sg_75_13
/-! 76 Text.isName -/
def sg_76_0 : List En := [(0, .aload_n 0, 1, 0, 0, 0, 0), (1, .getfield 25, 4, 8, 0, 3, 0), (4, .iconst 1, 5, 0, 0, 0, 0), (5, .if_icmp .eq 5, 8, 10, 0, 0, 0), (8, .iconst 0, 9, 0, 0, 0, 0), (9, .ireturn, 10, 0, 0, 0, 1)]
def sg_76_10 : List En := [(10, .iconst 0, 11, 0, 0, 0, 0), (11, .istore_n 1, 12, 1, 0, 0, 0)]
def sg_76_12 : List En := [(12, .iload_n 1, 13, 1, 0, 0, 0), (13, .getstatic 54, 16, 0, 0, 0, 0), (16, .arraylength, 17, 0, 0, 0, 1), (17, .if_icmp .ge 23, 20, 40, 0, 0, 0), (20, .getstatic 54, 23, 0, 0, 0, 0), (23, .iload_n 1, 24, 1, 0, 0, 0), (24, .iaload, 25, 0, 0, 0, 1), (25, .aload_n 0, 26, 0, 0, 0, 0), (26, .getfield 51, 29, 8, 0, 5, 0), (29, .if_icmp .ne 5, 32, 34, 0, 0, 0), (32, .iconst 0, 33, 0, 0, 0, 0), (33, .ireturn, 34, 0, 0, 0, 1)]
def sg_76_34 : List En := [(34, .iinc 1 1, 37, 1, 0, 1, 0), (37, .goto (-25), 40, 12, 0, 0, 0)]
def sg_76_40 : List En := [(40, .iconst 1, 41, 0, 0, 0, 0), (41, .ireturn, 42, 0, 0, 0, 1)]
def pg_76 : List En := sg_76_0 ++ sg_76_10 ++ sg_76_12 ++ sg_76_34 ++ sg_76_40
/-! 77 Text.passWord -/
def sg_77_0 : List En := [(0, .aload_n 0, 1, 0, 0, 0, 0), (1, .iload_n 1, 2, 1, 0, 0, 0), (2, .invokevirtual 58, 5, 73, 2, 1, 8), (5, .ifCond .ne 9, 8, 14, 0, 0, 0), (8, .aload_n 0, 9, 0, 0, 0, 0), (9, .iconst 1, 10, 0, 0, 0, 0), (10, .invokevirtual 61, 13, 66, 2, 1, 8), (13, .ireturn, 14, 0, 0, 0, 1)]
def sg_77_14 : List En := [(14, .aload_n 0, 15, 0, 0, 0, 0), (15, .invokevirtual 31, 18, 67, 1, 0, 8), (18, .iconst 1, 19, 0, 0, 0, 0), (19, .ireturn, 20, 0, 0, 0, 1)]
def pg_77 : List En := sg_77_0 ++ sg_77_14
/-! 78 Text.passSign -/
def sg_78_0 : List En := [(0, .aload_n 0, 1, 0, 0, 0, 0), (1, .iload_n 1, 2, 1, 0, 0, 0), (2, .invokevirtual 64, 5, 74, 2, 1, 8), (5, .ifCond .ne 9, 8, 14, 0, 0, 0), (8, .aload_n 0, 9, 0, 0, 0, 0), (9, .iconst 1, 10, 0, 0, 0, 0), (10, .invokevirtual 61, 13, 66, 2, 1, 8), (13, .ireturn, 14, 0, 0, 0, 1)]
def sg_78_14 : List En := [(14, .aload_n 0, 15, 0, 0, 0, 0), (15, .invokevirtual 31, 18, 67, 1, 0, 8), (18, .iconst 1, 19, 0, 0, 0, 0), (19, .ireturn, 20, 0, 0, 0, 1)]
def pg_78 : List En := sg_78_0 ++ sg_78_14
/-! 79 Tree.clear -/
def sg_79_0 : List En := [(0, .aload_n 0, 1, 0, 0, 0, 0), (1, .iconst 0, 2, 0, 0, 0, 0), (2, .putfield 37, 5, 9, 0, 1, 0), (5, .return_, 6, 0, 0, 0, 0)]
def pg_79 : List En := sg_79_0
/-! 80 Tree.copyFrom -/
def sg_80_0 : List En := [(0, .aload_n 0, 1, 0, 0, 0, 0), (1, .invokevirtual 41, 4, 79, 1, 0, 9), (4, .aload_n 0, 5, 0, 0, 0, 0), (5, .aload_n 1, 6, 1, 0, 0, 0), (6, .iconst 0, 7, 0, 0, 0, 0), (7, .aload_n 1, 8, 1, 0, 0, 0), (8, .getfield 37, 11, 9, 0, 1, 0), (11, .invokevirtual 44, 14, 82, 4, 0, 9), (14, .aload_n 0, 15, 0, 0, 0, 0), (15, .invokevirtual 48, 18, 84, 1, 0, 9), (18, .return_, 19, 0, 0, 0, 0)]
def pg_80 : List En := sg_80_0
/-! 81 Tree.addNode -/
def sg_81_0 : List En := [(0, .aload_n 0, 1, 0, 0, 0, 0), (1, .getfield 37, 4, 9, 0, 1, 0), (4, .bipush 80, 6, 0, 0, 0, 0), (6, .if_icmp .ge 33, 9, 39, 0, 0, 0), (9, .aload_n 0, 10, 0, 0, 0, 0), (10, .getfield 9, 13, 9, 4, 3, 0), (13, .aload_n 0, 14, 0, 0, 0, 0), (14, .getfield 37, 17, 9, 0, 1, 0), (17, .iload_n 1, 18, 1, 0, 0, 0), (18, .iastore, 19, 0, 0, 0, 0), (19, .aload_n 0, 20, 0, 0, 0, 0), (20, .getfield 15, 23, 9, 6, 4, 0), (23, .aload_n 0, 24, 0, 0, 0, 0), (24, .getfield 37, 27, 9, 0, 1, 0), (27, .iload_n 2, 28, 2, 0, 0, 0), (28, .iastore, 29, 0, 0, 0, 0), (29, .aload_n 0, 30, 0, 0, 0, 0), (30, .dup, 31, 0, 0, 0, 0), (31, .getfield 37, 34, 9, 0, 1, 0), (34, .iconst 1, 35, 0, 0, 0, 0), (35, .iadd, 36, 0, 0, 0, 0), (36, .putfield 37, 39, 9, 0, 1, 0)]
def sg_81_39 : List En := [(39, .return_, 40, 0, 0, 0, 0)]
def pg_81 : List En := sg_81_0 ++ sg_81_39
/-! 82 Tree.addAll -/
def sg_82_0 : List En := [(0, .iload_n 2, 1, 2, 0, 0, 0), (1, .istore 4, 3, 4, 0, 0, 0)]
def sg_82_3 : List En := [(3, .iload 4, 5, 4, 0, 0, 0), (5, .iload_n 3, 6, 3, 0, 0, 0), (6, .if_icmp .ge 27, 9, 33, 0, 0, 0), (9, .aload_n 0, 10, 0, 0, 0, 0), (10, .aload_n 1, 11, 1, 0, 0, 0), (11, .getfield 9, 14, 9, 4, 3, 0), (14, .iload 4, 16, 4, 0, 0, 0), (16, .iaload, 17, 0, 0, 0, 0), (17, .aload_n 1, 18, 1, 0, 0, 0), (18, .getfield 15, 21, 9, 6, 4, 0), (21, .iload 4, 23, 4, 0, 0, 0), (23, .iaload, 24, 0, 0, 0, 0), (24, .invokevirtual 51, 27, 81, 3, 0, 9), (27, .iinc 4 1, 30, 4, 0, 1, 0), (30, .goto (-27), 33, 3, 0, 0, 0)]
def sg_82_33 : List En := [(33, .return_, 34, 0, 0, 0, 0)]
def pg_82 : List En := sg_82_0 ++ sg_82_3 ++ sg_82_33
/-! 83 Tree.addLeast -/
def sg_83_0 : List En := [(0, .iconst 0, 1, 0, 0, 0, 0), (1, .istore_n 2, 2, 2, 0, 0, 0)]
def sg_83_2 : List En := [(2, .iload_n 2, 3, 2, 0, 0, 0), (3, .aload_n 0, 4, 0, 0, 0, 0), (4, .getfield 33, 7, 9, 11, 0, 0), (7, .getfield 55, 10, 2, 18, 9, 0), (10, .iload_n 1, 11, 1, 0, 0, 0), (11, .iaload, 12, 0, 0, 0, 0), (12, .if_icmp .ge 32, 15, 44, 0, 0, 0), (15, .aload_n 0, 16, 0, 0, 0, 0), (16, .getfield 33, 19, 9, 11, 0, 0), (19, .iload_n 1, 20, 1, 0, 0, 0), (20, .iload_n 2, 21, 2, 0, 0, 0), (21, .invokevirtual 60, 24, 33, 3, 1, 2), (24, .istore_n 3, 25, 3, 0, 0, 0), (25, .aload_n 0, 26, 0, 0, 0, 0), (26, .iload_n 3, 27, 3, 0, 0, 0), (27, .aload_n 0, 28, 0, 0, 0, 0), (28, .getfield 33, 31, 9, 11, 0, 0), (31, .iload_n 3, 32, 3, 0, 0, 0), (32, .invokevirtual 64, 35, 29, 2, 1, 2), (35, .invokevirtual 51, 38, 81, 3, 0, 9), (38, .iinc 2 1, 41, 2, 0, 1, 0), (41, .goto (-39), 44, 2, 0, 0, 0)]
def sg_83_44 : List En := [(44, .return_, 45, 0, 0, 0, 0)]
def pg_83 : List En := sg_83_0 ++ sg_83_2 ++ sg_83_44
/-! 84 Tree.settle -/
def sg_84_0 : List En := [(0, .aload_n 0, 1, 0, 0, 0, 0), (1, .iconst 0, 2, 0, 0, 0, 0), (2, .putfield 68, 5, 9, 0, 2, 0), (5, .iconst 0, 6, 0, 0, 0, 0), (6, .istore_n 1, 7, 1, 0, 0, 0)]
def sg_84_7 : List En := [(7, .iload_n 1, 8, 1, 0, 0, 0), (8, .aload_n 0, 9, 0, 0, 0, 0), (9, .getfield 37, 12, 9, 0, 1, 0), (12, .if_icmp .ge 146, 15, 158, 0, 0, 0), (15, .iload_n 1, 16, 1, 0, 0, 0), (16, .iconst 1, 17, 0, 0, 0, 0), (17, .isub, 18, 0, 0, 0, 0), (18, .istore_n 2, 19, 2, 0, 0, 0), (19, .iconst 0, 20, 0, 0, 0, 0), (20, .istore_n 3, 21, 3, 0, 0, 0)]
def sg_84_21 : List En := [(21, .iload_n 3, 22, 3, 0, 0, 0), (22, .iload_n 1, 23, 1, 0, 0, 0), (23, .if_icmp .ge 35, 26, 58, 0, 0, 0), (26, .iload_n 2, 27, 2, 0, 0, 0), (27, .ifCond .lt 31, 30, 58, 0, 0, 0), (30, .aload_n 0, 31, 0, 0, 0, 0), (31, .getfield 30, 34, 9, 16, 9, 0), (34, .iload_n 2, 35, 2, 0, 0, 0), (35, .iaload, 36, 0, 0, 0, 0), (36, .aload_n 0, 37, 0, 0, 0, 0), (37, .getfield 15, 40, 9, 6, 4, 0), (40, .iload_n 2, 41, 2, 0, 0, 0), (41, .iaload, 42, 0, 0, 0, 0), (42, .if_icmp .lt 16, 45, 58, 0, 0, 0), (45, .aload_n 0, 46, 0, 0, 0, 0), (46, .getfield 18, 49, 9, 8, 5, 0), (49, .iload_n 2, 50, 2, 0, 0, 0), (50, .iaload, 51, 0, 0, 0, 0), (51, .istore_n 2, 52, 2, 0, 0, 0), (52, .iinc 3 1, 55, 3, 0, 1, 0), (55, .goto (-34), 58, 21, 0, 0, 0)]
def sg_84_58 : List En := [(58, .aload_n 0, 59, 0, 0, 0, 0), (59, .getfield 18, 62, 9, 8, 5, 0), (62, .iload_n 1, 63, 1, 0, 0, 0), (63, .iload_n 2, 64, 2, 0, 0, 0), (64, .iastore, 65, 0, 0, 0, 0), (65, .aload_n 0, 66, 0, 0, 0, 0), (66, .getfield 21, 69, 9, 10, 6, 0), (69, .iload_n 1, 70, 1, 0, 0, 0), (70, .iload_n 2, 71, 2, 0, 0, 0), (71, .ifCond .ge 7, 74, 78, 0, 0, 0), (74, .iconst (-1), 75, 0, 0, 0, 0), (75, .goto 9, 78, 84, 0, 0, 0)]
def sg_84_78 : List En := [(78, .aload_n 0, 79, 0, 0, 0, 0), (79, .getfield 30, 82, 9, 16, 9, 0), (82, .iload_n 2, 83, 2, 0, 0, 0), (83, .iaload, 84, 0, 0, 0, 0)]
def sg_84_84 : List En := [(84, .iastore, 85, 0, 0, 0, 0), (85, .aload_n 0, 86, 0, 0, 0, 0), (86, .getfield 24, 89, 9, 12, 7, 0), (89, .iload_n 1, 90, 1, 0, 0, 0), (90, .iload_n 2, 91, 2, 0, 0, 0), (91, .ifCond .ge 7, 94, 98, 0, 0, 0), (94, .iconst 0, 95, 0, 0, 0, 0), (95, .goto 11, 98, 106, 0, 0, 0)]
def sg_84_98 : List En := [(98, .aload_n 0, 99, 0, 0, 0, 0), (99, .getfield 24, 102, 9, 12, 7, 0), (102, .iload_n 2, 103, 2, 0, 0, 0), (103, .iaload, 104, 0, 0, 0, 0), (104, .iconst 1, 105, 0, 0, 0, 0), (105, .iadd, 106, 0, 0, 0, 0)]
def sg_84_106 : List En := [(106, .iastore, 107, 0, 0, 0, 0), (107, .iload_n 2, 108, 2, 0, 0, 0), (108, .ifCond .lt 13, 111, 121, 0, 0, 0), (111, .aload_n 0, 112, 0, 0, 0, 0), (112, .getfield 30, 115, 9, 16, 9, 0), (115, .iload_n 2, 116, 2, 0, 0, 0), (116, .dup2, 117, 0, 0, 0, 0), (117, .iaload, 118, 0, 0, 0, 0), (118, .iconst 1, 119, 0, 0, 0, 0), (119, .iadd, 120, 0, 0, 0, 0), (120, .iastore, 121, 0, 0, 0, 0)]
def sg_84_121 : List En := [(121, .aload_n 0, 122, 0, 0, 0, 0), (122, .getfield 30, 125, 9, 16, 9, 0), (125, .iload_n 1, 126, 1, 0, 0, 0), (126, .iconst 0, 127, 0, 0, 0, 0), (127, .iastore, 128, 0, 0, 0, 0), (128, .aload_n 0, 129, 0, 0, 0, 0), (129, .getfield 27, 132, 9, 14, 8, 0), (132, .iload_n 1, 133, 1, 0, 0, 0), (133, .iconst 1, 134, 0, 0, 0, 0), (134, .iastore, 135, 0, 0, 0, 0), (135, .aload_n 0, 136, 0, 0, 0, 0), (136, .aload_n 0, 137, 0, 0, 0, 0), (137, .getfield 68, 140, 9, 0, 2, 0), (140, .aload_n 0, 141, 0, 0, 0, 0), (141, .getfield 24, 144, 9, 12, 7, 0), (144, .iload_n 1, 145, 1, 0, 0, 0), (145, .iaload, 146, 0, 0, 0, 0), (146, .invokestatic 71, 149, 263, 2, 1, 0), (149, .putfield 68, 152, 9, 0, 2, 0), (152, .iinc 1 1, 155, 1, 0, 1, 0), (155, .goto (-148), 158, 7, 0, 0, 0)]
def sg_84_158 : List En := [(158, .aload_n 0, 159, 0, 0, 0, 0), (159, .getfield 37, 162, 9, 0, 1, 0), (162, .iconst 1, 163, 0, 0, 0, 0), (163, .isub, 164, 0, 0, 0, 0), (164, .istore_n 1, 165, 1, 0, 0, 0)]
def sg_84_165 : List En := [(165, .iload_n 1, 166, 1, 0, 0, 0), (166, .ifCond .le 38, 169, 204, 0, 0, 0), (169, .aload_n 0, 170, 0, 0, 0, 0), (170, .getfield 18, 173, 9, 8, 5, 0), (173, .iload_n 1, 174, 1, 0, 0, 0), (174, .iaload, 175, 0, 0, 0, 0), (175, .ifCond .lt 23, 178, 198, 0, 0, 0), (178, .aload_n 0, 179, 0, 0, 0, 0), (179, .getfield 27, 182, 9, 14, 8, 0), (182, .aload_n 0, 183, 0, 0, 0, 0), (183, .getfield 18, 186, 9, 8, 5, 0), (186, .iload_n 1, 187, 1, 0, 0, 0), (187, .iaload, 188, 0, 0, 0, 0), (188, .dup2, 189, 0, 0, 0, 0), (189, .iaload, 190, 0, 0, 0, 0), (190, .aload_n 0, 191, 0, 0, 0, 0), (191, .getfield 27, 194, 9, 14, 8, 0), (194, .iload_n 1, 195, 1, 0, 0, 0), (195, .iaload, 196, 0, 0, 0, 0), (196, .iadd, 197, 0, 0, 0, 0), (197, .iastore, 198, 0, 0, 0, 0)]
def sg_84_198 : List En := [(198, .iinc 1 (-1), 201, 1, 0, -1, 0), (201, .goto (-36), 204, 165, 0, 0, 0)]
def sg_84_204 : List En := [(204, .return_, 205, 0, 0, 0, 0)]
def pg_84 : List En := sg_84_0 ++ sg_84_7 ++ sg_84_21 ++ sg_84_58 ++ sg_84_78 ++ sg_84_84 ++ sg_84_98 ++ sg_84_106 ++ sg_84_121 ++ sg_84_158 ++ sg_84_165 ++ sg_84_198 ++ sg_84_204
/-! 85 Tree.sortAt -/
def sg_85_0 : List En := [(0, .aload_n 0, 1, 0, 0, 0, 0), (1, .getfield 33, 4, 9, 11, 0, 0), (4, .getfield 76, 7, 2, 8, 4, 0), (7, .aload_n 0, 8, 0, 0, 0, 0), (8, .getfield 9, 11, 9, 4, 3, 0), (11, .iload_n 1, 12, 1, 0, 0, 0), (12, .iaload, 13, 0, 0, 0, 0), (13, .iaload, 14, 0, 0, 0, 0), (14, .ireturn, 15, 0, 0, 0, 0)]
def pg_85 : List En := sg_85_0
/-! 86 Tree.canCut -/
def sg_86_0 : List En := [(0, .aload_n 0, 1, 0, 0, 0, 0), (1, .getfield 18, 4, 9, 8, 5, 0), (4, .iload_n 1, 5, 1, 0, 0, 0), (5, .iaload, 6, 0, 0, 0, 0), (6, .istore_n 2, 7, 2, 0, 0, 0), (7, .iload_n 2, 8, 2, 0, 0, 0), (8, .ifCond .lt 29, 11, 37, 0, 0, 0), (11, .aload_n 0, 12, 0, 0, 0, 0), (12, .getfield 21, 15, 9, 10, 6, 0), (15, .iload_n 1, 16, 1, 0, 0, 0), (16, .iaload, 17, 0, 0, 0, 0), (17, .aload_n 0, 18, 0, 0, 0, 0), (18, .getfield 33, 21, 9, 11, 0, 0), (21, .aload_n 0, 22, 0, 0, 0, 0), (22, .getfield 9, 25, 9, 4, 3, 0), (25, .iload_n 2, 26, 2, 0, 0, 0), (26, .iaload, 27, 0, 0, 0, 0), (27, .invokevirtual 64, 30, 29, 2, 1, 2), (30, .if_icmp .lt 7, 33, 37, 0, 0, 0), (33, .iconst 1, 34, 0, 0, 0, 0), (34, .goto 4, 37, 38, 0, 0, 0)]
def sg_86_37 : List En := [(37, .iconst 0, 38, 0, 0, 0, 0)]
def sg_86_38 : List En := [(38, .ireturn, 39, 0, 0, 0, 1)]
def pg_86 : List En := sg_86_0 ++ sg_86_37 ++ sg_86_38
/-! 87 Tree.canBeLeast -/
def sg_87_0 : List En := [(0, .aload_n 0, 1, 0, 0, 0, 0), (1, .getfield 33, 4, 9, 11, 0, 0), (4, .getfield 55, 7, 2, 18, 9, 0), (7, .aload_n 0, 8, 0, 0, 0, 0), (8, .iload_n 1, 9, 1, 0, 0, 0), (9, .invokevirtual 79, 12, 85, 2, 1, 9), (12, .iaload, 13, 0, 0, 0, 0), (13, .aload_n 0, 14, 0, 0, 0, 0), (14, .getfield 27, 17, 9, 14, 8, 0), (17, .iload_n 1, 18, 1, 0, 0, 0), (18, .iaload, 19, 0, 0, 0, 0), (19, .if_icmp .ge 7, 22, 26, 0, 0, 0), (22, .iconst 1, 23, 0, 0, 0, 0), (23, .goto 4, 26, 27, 0, 0, 0)]
def sg_87_26 : List En := [(26, .iconst 0, 27, 0, 0, 0, 0)]
def sg_87_27 : List En := [(27, .ireturn, 28, 0, 0, 0, 1)]
def pg_87 : List En := sg_87_0 ++ sg_87_26 ++ sg_87_27
/-! 88 Tree.isInRow -/
def sg_88_0 : List En := [(0, .aload_n 0, 1, 0, 0, 0, 0), (1, .getfield 24, 4, 9, 12, 7, 0), (4, .iload_n 1, 5, 1, 0, 0, 0), (5, .iaload, 6, 0, 0, 0, 0), (6, .iload_n 2, 7, 2, 0, 0, 0), (7, .if_icmp .ne 23, 10, 30, 0, 0, 0), (10, .aload_n 0, 11, 0, 0, 0, 0), (11, .iload_n 1, 12, 1, 0, 0, 0), (12, .invokevirtual 82, 15, 86, 2, 1, 9), (15, .ifCond .ne 11, 18, 26, 0, 0, 0), (18, .aload_n 0, 19, 0, 0, 0, 0), (19, .iload_n 1, 20, 1, 0, 0, 0), (20, .invokevirtual 86, 23, 87, 2, 1, 9), (23, .ifCond .eq 7, 26, 30, 0, 0, 0)]
def sg_88_26 : List En := [(26, .iconst 1, 27, 0, 0, 0, 0), (27, .goto 4, 30, 31, 0, 0, 0)]
def sg_88_30 : List En := [(30, .iconst 0, 31, 0, 0, 0, 0)]
def sg_88_31 : List En := [(31, .ireturn, 32, 0, 0, 0, 1)]
def pg_88 : List En := sg_88_0 ++ sg_88_26 ++ sg_88_30 ++ sg_88_31
/-! 89 Tree.countOf -/
def sg_89_0 : List En := [(0, .iload_n 1, 1, 1, 0, 0, 0), (1, .ifCond .ne 8, 4, 9, 0, 0, 0), (4, .aload_n 0, 5, 0, 0, 0, 0), (5, .getfield 37, 8, 9, 0, 1, 0), (8, .ireturn, 9, 0, 0, 0, 0)]
def sg_89_9 : List En := [(9, .iload_n 1, 10, 1, 0, 0, 0), (10, .iconst 1, 11, 0, 0, 0, 0), (11, .if_icmp .ne 8, 14, 19, 0, 0, 0), (14, .aload_n 0, 15, 0, 0, 0, 0), (15, .getfield 68, 18, 9, 0, 2, 0), (18, .ireturn, 19, 0, 0, 0, 0)]
def sg_89_19 : List En := [(19, .iconst 0, 20, 0, 0, 0, 0), (20, .istore 4, 22, 4, 0, 0, 0), (22, .iconst 0, 23, 0, 0, 0, 0), (23, .istore 5, 25, 5, 0, 0, 0), (25, .iconst 0, 26, 0, 0, 0, 0), (26, .istore 6, 28, 6, 0, 0, 0)]
def sg_89_28 : List En := [(28, .iload 6, 30, 6, 0, 0, 0), (30, .aload_n 0, 31, 0, 0, 0, 0), (31, .getfield 37, 34, 9, 0, 1, 0), (34, .if_icmp .ge 156, 37, 190, 0, 0, 0), (37, .iload_n 1, 38, 1, 0, 0, 0), (38, .iconst 2, 39, 0, 0, 0, 0), (39, .if_icmp .ne 20, 42, 59, 0, 0, 0), (42, .aload_n 0, 43, 0, 0, 0, 0), (43, .getfield 9, 46, 9, 4, 3, 0), (46, .iload 6, 48, 6, 0, 0, 0), (48, .iaload, 49, 0, 0, 0, 0), (49, .iload_n 2, 50, 2, 0, 0, 0), (50, .if_icmp .ne 9, 53, 59, 0, 0, 0), (53, .iinc 4 1, 56, 4, 0, 1, 0), (56, .goto 128, 59, 184, 0, 0, 0)]
def sg_89_59 : List En := [(59, .iload_n 1, 60, 1, 0, 0, 0), (60, .iconst 3, 61, 0, 0, 0, 0), (61, .if_icmp .ne 55, 64, 116, 0, 0, 0), (64, .iload 6, 66, 6, 0, 0, 0), (66, .iload 5, 68, 5, 0, 0, 0), (68, .if_icmp .ge 17, 71, 85, 0, 0, 0), (71, .aload_n 0, 72, 0, 0, 0, 0), (72, .getfield 9, 75, 9, 4, 3, 0), (75, .iload 6, 77, 6, 0, 0, 0), (77, .iaload, 78, 0, 0, 0, 0), (78, .iload_n 3, 79, 3, 0, 0, 0), (79, .if_icmp .ne 6, 82, 85, 0, 0, 0), (82, .iinc 4 1, 85, 4, 0, 1, 0)]
def sg_89_85 : List En := [(85, .aload_n 0, 86, 0, 0, 0, 0), (86, .getfield 9, 89, 9, 4, 3, 0), (89, .iload 6, 91, 6, 0, 0, 0), (91, .iaload, 92, 0, 0, 0, 0), (92, .iload_n 2, 93, 2, 0, 0, 0), (93, .if_icmp .ne 91, 96, 184, 0, 0, 0), (96, .iload 5, 98, 5, 0, 0, 0), (98, .iload 6, 100, 6, 0, 0, 0), (100, .aload_n 0, 101, 0, 0, 0, 0), (101, .getfield 27, 104, 9, 14, 8, 0), (104, .iload 6, 106, 6, 0, 0, 0), (106, .iaload, 107, 0, 0, 0, 0), (107, .iadd, 108, 0, 0, 0, 0), (108, .invokestatic 71, 111, 263, 2, 1, 0), (111, .istore 5, 113, 5, 0, 0, 0), (113, .goto 71, 116, 184, 0, 0, 0)]
def sg_89_116 : List En := [(116, .iload_n 1, 117, 1, 0, 0, 0), (117, .iconst 4, 118, 0, 0, 0, 0), (118, .if_icmp .ne 66, 121, 184, 0, 0, 0), (121, .aload_n 0, 122, 0, 0, 0, 0), (122, .getfield 9, 125, 9, 4, 3, 0), (125, .iload 6, 127, 6, 0, 0, 0), (127, .iaload, 128, 0, 0, 0, 0), (128, .iload_n 2, 129, 2, 0, 0, 0), (129, .if_icmp .ne 55, 132, 184, 0, 0, 0), (132, .iload 6, 134, 6, 0, 0, 0), (134, .aload_n 0, 135, 0, 0, 0, 0), (135, .getfield 27, 138, 9, 14, 8, 0), (138, .iload 6, 140, 6, 0, 0, 0), (140, .iaload, 141, 0, 0, 0, 0), (141, .iadd, 142, 0, 0, 0, 0), (142, .istore 7, 144, 7, 0, 0, 0), (144, .iload 7, 146, 7, 0, 0, 0), (146, .aload_n 0, 147, 0, 0, 0, 0), (147, .getfield 37, 150, 9, 0, 1, 0), (150, .if_icmp .ge 34, 153, 184, 0, 0, 0), (153, .aload_n 0, 154, 0, 0, 0, 0), (154, .getfield 18, 157, 9, 8, 5, 0), (157, .iload 7, 159, 7, 0, 0, 0), (159, .iaload, 160, 0, 0, 0, 0), (160, .aload_n 0, 161, 0, 0, 0, 0), (161, .getfield 18, 164, 9, 8, 5, 0), (164, .iload 6, 166, 6, 0, 0, 0), (166, .iaload, 167, 0, 0, 0, 0), (167, .if_icmp .ne 17, 170, 184, 0, 0, 0), (170, .aload_n 0, 171, 0, 0, 0, 0), (171, .getfield 9, 174, 9, 4, 3, 0), (174, .iload 7, 176, 7, 0, 0, 0), (176, .iaload, 177, 0, 0, 0, 0), (177, .iload_n 3, 178, 3, 0, 0, 0), (178, .if_icmp .ne 6, 181, 184, 0, 0, 0), (181, .iinc 4 1, 184, 4, 0, 1, 0)]
def sg_89_184 : List En := [(184, .iinc 6 1, 187, 6, 0, 1, 0), (187, .goto (-159), 190, 28, 0, 0, 0)]
def sg_89_190 : List En := [(190, .iload 4, 192, 4, 0, 0, 0), (192, .ireturn, 193, 0, 0, 0, 0)]
def pg_89 : List En := sg_89_0 ++ sg_89_9 ++ sg_89_19 ++ sg_89_28 ++ sg_89_59 ++ sg_89_85 ++ sg_89_116 ++ sg_89_184 ++ sg_89_190
/-! 90 Tree.becomeSingle -/
def sg_90_0 : List En := [(0, .aload_n 0, 1, 0, 0, 0, 0), (1, .invokevirtual 41, 4, 79, 1, 0, 9), (4, .aload_n 0, 5, 0, 0, 0, 0), (5, .aload_n 1, 6, 1, 0, 0, 0), (6, .iconst 0, 7, 0, 0, 0, 0), (7, .iload_n 3, 8, 3, 0, 0, 0), (8, .invokevirtual 44, 11, 82, 4, 0, 9), (11, .iload_n 2, 12, 2, 0, 0, 0), (12, .ifCond .ne 30, 15, 42, 0, 0, 0), (15, .aload_n 1, 16, 1, 0, 0, 0), (16, .getfield 18, 19, 9, 8, 5, 0), (19, .iload_n 3, 20, 3, 0, 0, 0), (20, .iaload, 21, 0, 0, 0, 0), (21, .istore 5, 23, 5, 0, 0, 0), (23, .iload 5, 25, 5, 0, 0, 0), (25, .ifCond .lt 14, 28, 39, 0, 0, 0), (28, .aload_n 0, 29, 0, 0, 0, 0), (29, .getfield 15, 32, 9, 6, 4, 0), (32, .iload 5, 34, 5, 0, 0, 0), (34, .dup2, 35, 0, 0, 0, 0), (35, .iaload, 36, 0, 0, 0, 0), (36, .iconst 1, 37, 0, 0, 0, 0), (37, .isub, 38, 0, 0, 0, 0), (38, .iastore, 39, 0, 0, 0, 0)]
def sg_90_39 : List En := [(39, .goto 37, 42, 76, 0, 0, 0)]
def sg_90_42 : List En := [(42, .iload_n 2, 43, 2, 0, 0, 0), (43, .iconst 1, 44, 0, 0, 0, 0), (44, .if_icmp .ne 15, 47, 59, 0, 0, 0), (47, .aload_n 0, 48, 0, 0, 0, 0), (48, .aload_n 1, 49, 1, 0, 0, 0), (49, .iload_n 3, 50, 3, 0, 0, 0), (50, .invokevirtual 79, 53, 85, 2, 1, 9), (53, .invokevirtual 89, 56, 83, 2, 0, 9), (56, .goto 20, 59, 76, 0, 0, 0)]
def sg_90_59 : List En := [(59, .aload_n 0, 60, 0, 0, 0, 0), (60, .aload_n 1, 61, 1, 0, 0, 0), (61, .iload 4, 63, 4, 0, 0, 0), (63, .iload 4, 65, 4, 0, 0, 0), (65, .aload_n 1, 66, 1, 0, 0, 0), (66, .getfield 27, 69, 9, 14, 8, 0), (69, .iload 4, 71, 4, 0, 0, 0), (71, .iaload, 72, 0, 0, 0, 0), (72, .iadd, 73, 0, 0, 0, 0), (73, .invokevirtual 44, 76, 82, 4, 0, 9)]
def sg_90_76 : List En := [(76, .aload_n 0, 77, 0, 0, 0, 0), (77, .aload_n 1, 78, 1, 0, 0, 0), (78, .iload_n 3, 79, 3, 0, 0, 0), (79, .aload_n 1, 80, 1, 0, 0, 0), (80, .getfield 27, 83, 9, 14, 8, 0), (83, .iload_n 3, 84, 3, 0, 0, 0), (84, .iaload, 85, 0, 0, 0, 0), (85, .iadd, 86, 0, 0, 0, 0), (86, .aload_n 1, 87, 1, 0, 0, 0), (87, .getfield 37, 90, 9, 0, 1, 0), (90, .invokevirtual 44, 93, 82, 4, 0, 9), (93, .aload_n 0, 94, 0, 0, 0, 0), (94, .invokevirtual 48, 97, 84, 1, 0, 9), (97, .return_, 98, 0, 0, 0, 0)]
def pg_90 : List En := sg_90_0 ++ sg_90_39 ++ sg_90_42 ++ sg_90_59 ++ sg_90_76
/-! 91 Tree.becomeChanged -/
def sg_91_0 : List En := [(0, .aload_n 0, 1, 0, 0, 0, 0), (1, .invokevirtual 41, 4, 79, 1, 0, 9), (4, .iconst 0, 5, 0, 0, 0, 0), (5, .istore 4, 7, 4, 0, 0, 0)]
def sg_91_7 : List En := [(7, .iload 4, 9, 4, 0, 0, 0), (9, .aload_n 1, 10, 1, 0, 0, 0), (10, .getfield 37, 13, 9, 0, 1, 0), (13, .if_icmp .ge 101, 16, 114, 0, 0, 0), (16, .aload_n 2, 17, 2, 0, 0, 0), (17, .iload 4, 19, 4, 0, 0, 0), (19, .baload, 20, 0, 0, 0, 1), (20, .ifCond .ne 35, 23, 55, 0, 0, 0), (23, .aload_n 3, 24, 3, 0, 0, 0), (24, .iload 4, 26, 4, 0, 0, 0), (26, .aload_n 0, 27, 0, 0, 0, 0), (27, .getfield 37, 30, 9, 0, 1, 0), (30, .iastore, 31, 0, 0, 0, 0), (31, .aload_n 0, 32, 0, 0, 0, 0), (32, .aload_n 1, 33, 1, 0, 0, 0), (33, .getfield 9, 36, 9, 4, 3, 0), (36, .iload 4, 38, 4, 0, 0, 0), (38, .iaload, 39, 0, 0, 0, 0), (39, .aload_n 1, 40, 1, 0, 0, 0), (40, .getfield 15, 43, 9, 6, 4, 0), (43, .iload 4, 45, 4, 0, 0, 0), (45, .iaload, 46, 0, 0, 0, 0), (46, .invokevirtual 51, 49, 81, 3, 0, 9), (49, .iinc 4 1, 52, 4, 0, 1, 0), (52, .goto (-45), 55, 7, 0, 0, 0)]
def sg_91_55 : List En := [(55, .aload_n 1, 56, 1, 0, 0, 0), (56, .iload 4, 58, 4, 0, 0, 0), (58, .invokevirtual 82, 61, 86, 2, 1, 9), (61, .ifCond .ne 16, 64, 77, 0, 0, 0), (64, .aload_n 0, 65, 0, 0, 0, 0), (65, .aload_n 1, 66, 1, 0, 0, 0), (66, .iload 4, 68, 4, 0, 0, 0), (68, .invokevirtual 79, 71, 85, 2, 1, 9), (71, .invokevirtual 89, 74, 83, 2, 0, 9), (74, .goto 21, 77, 95, 0, 0, 0)]
def sg_91_77 : List En := [(77, .aload_n 0, 78, 0, 0, 0, 0), (78, .getfield 15, 81, 9, 6, 4, 0), (81, .aload_n 3, 82, 3, 0, 0, 0), (82, .aload_n 1, 83, 1, 0, 0, 0), (83, .getfield 18, 86, 9, 8, 5, 0), (86, .iload 4, 88, 4, 0, 0, 0), (88, .iaload, 89, 0, 0, 0, 0), (89, .iaload, 90, 0, 0, 0, 0), (90, .dup2, 91, 0, 0, 0, 0), (91, .iaload, 92, 0, 0, 0, 0), (92, .iconst 1, 93, 0, 0, 0, 0), (93, .isub, 94, 0, 0, 0, 0), (94, .iastore, 95, 0, 0, 0, 0)]
def sg_91_95 : List En := [(95, .iload 4, 97, 4, 0, 0, 0), (97, .iconst 1, 98, 0, 0, 0, 0), (98, .aload_n 1, 99, 1, 0, 0, 0), (99, .getfield 27, 102, 9, 14, 8, 0), (102, .iload 4, 104, 4, 0, 0, 0), (104, .iaload, 105, 0, 0, 0, 0), (105, .invokestatic 71, 108, 263, 2, 1, 0), (108, .iadd, 109, 0, 0, 0, 0), (109, .istore 4, 111, 4, 0, 0, 0), (111, .goto (-104), 114, 7, 0, 0, 0)]
def sg_91_114 : List En := [(114, .aload_n 0, 115, 0, 0, 0, 0), (115, .invokevirtual 48, 118, 84, 1, 0, 9), (118, .return_, 119, 0, 0, 0, 0)]
def pg_91 : List En := sg_91_0 ++ sg_91_7 ++ sg_91_55 ++ sg_91_77 ++ sg_91_95 ++ sg_91_114
/-! 92 Tried.forget -/
def sg_92_0 : List En := [(0, .aload_n 0, 1, 0, 0, 0, 0), (1, .iconst 0, 2, 0, 0, 0, 0), (2, .putfield 43, 5, 10, 0, 0, 0), (5, .aload_n 0, 6, 0, 0, 0, 0), (6, .getfield 31, 9, 10, 16, 7, 0), (9, .iconst (-1), 10, 0, 0, 0, 0), (10, .invokestatic 37, 13, 266, 2, 0, 0), (13, .return_, 14, 0, 0, 0, 0)]
def pg_92 : List En := sg_92_0
/-! 93 Tried.find -/
def sg_93_0 : List En := [(0, .aload_n 0, 1, 0, 0, 0, 0), (1, .aload_n 1, 2, 1, 0, 0, 0), (2, .invokevirtual 47, 5, 95, 2, 0, 10), (5, .aload_n 0, 6, 0, 0, 0, 0), (6, .getfield 31, 9, 10, 16, 7, 0), (9, .aload_n 0, 10, 0, 0, 0, 0), (10, .getfield 51, 13, 10, 0, 9, 0), (13, .iaload, 14, 0, 0, 0, 0), (14, .istore_n 2, 15, 2, 0, 0, 0), (15, .iconst 0, 16, 0, 0, 0, 0), (16, .istore_n 3, 17, 3, 0, 0, 0)]
def sg_93_17 : List En := [(17, .iload_n 3, 18, 3, 0, 0, 0), (18, .sipush 600, 21, 0, 0, 0, 0), (21, .if_icmp .ge 44, 24, 65, 0, 0, 0), (24, .iload_n 2, 25, 2, 0, 0, 0), (25, .iconst (-1), 26, 0, 0, 0, 0), (26, .if_icmp .eq 39, 29, 65, 0, 0, 0), (29, .aload_n 0, 30, 0, 0, 0, 0), (30, .getfield 11, 33, 10, 4, 1, 0), (33, .iload_n 2, 34, 2, 0, 0, 0), (34, .iaload, 35, 0, 0, 0, 0), (35, .aload_n 1, 36, 1, 0, 0, 0), (36, .getfield 54, 39, 9, 0, 1, 0), (39, .if_icmp .ne 13, 42, 52, 0, 0, 0), (42, .aload_n 0, 43, 0, 0, 0, 0), (43, .iload_n 2, 44, 2, 0, 0, 0), (44, .invokevirtual 59, 47, 96, 2, 1, 10), (47, .ifCond .eq 5, 50, 52, 0, 0, 0), (50, .iload_n 2, 51, 2, 0, 0, 0), (51, .ireturn, 52, 0, 0, 0, 0)]
def sg_93_52 : List En := [(52, .aload_n 0, 53, 0, 0, 0, 0), (53, .getfield 28, 56, 10, 14, 6, 0), (56, .iload_n 2, 57, 2, 0, 0, 0), (57, .iaload, 58, 0, 0, 0, 0), (58, .istore_n 2, 59, 2, 0, 0, 0), (59, .iinc 3 1, 62, 3, 0, 1, 0), (62, .goto (-45), 65, 17, 0, 0, 0)]
def sg_93_65 : List En := [(65, .iconst (-1), 66, 0, 0, 0, 0), (66, .ireturn, 67, 0, 0, 0, 0)]
def pg_93 : List En := sg_93_0 ++ sg_93_17 ++ sg_93_52 ++ sg_93_65
/-! 94 Tried.add -/
def sg_94_0 : List En := [(0, .aload_n 0, 1, 0, 0, 0, 0), (1, .getfield 43, 4, 10, 0, 0, 0), (4, .sipush 600, 7, 0, 0, 0, 0), (7, .if_icmp .lt 4, 10, 11, 0, 0, 0), (10, .return_, 11, 0, 0, 0, 0)]
def sg_94_11 : List En := [(11, .aload_n 0, 12, 0, 0, 0, 0), (12, .getfield 11, 15, 10, 4, 1, 0), (15, .aload_n 0, 16, 0, 0, 0, 0), (16, .getfield 43, 19, 10, 0, 0, 0), (19, .iload_n 1, 20, 1, 0, 0, 0), (20, .iastore, 21, 0, 0, 0, 0), (21, .aload_n 0, 22, 0, 0, 0, 0), (22, .getfield 15, 25, 10, 6, 2, 0), (25, .aload_n 0, 26, 0, 0, 0, 0), (26, .getfield 43, 29, 10, 0, 0, 0), (29, .iload_n 2, 30, 2, 0, 0, 0), (30, .iastore, 31, 0, 0, 0, 0), (31, .aload_n 0, 32, 0, 0, 0, 0), (32, .getfield 18, 35, 10, 8, 3, 0), (35, .aload_n 0, 36, 0, 0, 0, 0), (36, .getfield 43, 39, 10, 0, 0, 0), (39, .iload_n 3, 40, 3, 0, 0, 0), (40, .iastore, 41, 0, 0, 0, 0), (41, .aload_n 0, 42, 0, 0, 0, 0), (42, .getfield 21, 45, 10, 10, 4, 0), (45, .aload_n 0, 46, 0, 0, 0, 0), (46, .getfield 43, 49, 10, 0, 0, 0), (49, .iload 4, 51, 4, 0, 0, 0), (51, .iastore, 52, 0, 0, 0, 0), (52, .aload_n 0, 53, 0, 0, 0, 0), (53, .getfield 34, 56, 10, 18, 8, 0), (56, .iconst 0, 57, 0, 0, 0, 0), (57, .aload_n 0, 58, 0, 0, 0, 0), (58, .getfield 24, 61, 10, 12, 5, 0), (61, .aload_n 0, 62, 0, 0, 0, 0), (62, .getfield 43, 65, 10, 0, 0, 0), (65, .bipush 16, 67, 0, 0, 0, 0), (67, .imul, 68, 0, 0, 0, 0), (68, .bipush 16, 70, 0, 0, 0, 0), (70, .invokestatic 63, 73, 0, 5, 0, 2), (73, .aload_n 0, 74, 0, 0, 0, 0), (74, .getfield 28, 77, 10, 14, 6, 0), (77, .aload_n 0, 78, 0, 0, 0, 0), (78, .getfield 43, 81, 10, 0, 0, 0), (81, .aload_n 0, 82, 0, 0, 0, 0), (82, .getfield 31, 85, 10, 16, 7, 0), (85, .aload_n 0, 86, 0, 0, 0, 0), (86, .getfield 51, 89, 10, 0, 9, 0), (89, .iaload, 90, 0, 0, 0, 0), (90, .iastore, 91, 0, 0, 0, 0), (91, .aload_n 0, 92, 0, 0, 0, 0), (92, .getfield 31, 95, 10, 16, 7, 0), (95, .aload_n 0, 96, 0, 0, 0, 0), (96, .getfield 51, 99, 10, 0, 9, 0), (99, .aload_n 0, 100, 0, 0, 0, 0), (100, .getfield 43, 103, 10, 0, 0, 0), (103, .iastore, 104, 0, 0, 0, 0), (104, .aload_n 0, 105, 0, 0, 0, 0), (105, .dup, 106, 0, 0, 0, 0), (106, .getfield 43, 109, 10, 0, 0, 0), (109, .iconst 1, 110, 0, 0, 0, 0), (110, .iadd, 111, 0, 0, 0, 0), (111, .putfield 43, 114, 10, 0, 0, 0), (114, .return_, 115, 0, 0, 0, 0)]
def pg_94 : List En := sg_94_0 ++ sg_94_11
/-! 95 Tried.makeKey -/
def sg_95_0 : List En := [(0, .aload_n 0, 1, 0, 0, 0, 0), (1, .getfield 34, 4, 10, 18, 8, 0), (4, .lconst 0, 5, 0, 0, 0, 0), (5, .invokestatic 69, 8, 265, 2, 0, 0), (8, .aload_n 1, 9, 1, 0, 0, 0), (9, .getfield 54, 12, 9, 0, 1, 0), (12, .i2l, 13, 0, 0, 0, 0), (13, .lstore_n 2, 14, 2, 0, 0, 0), (14, .iconst 0, 15, 0, 0, 0, 0), (15, .istore 4, 17, 4, 0, 0, 0)]
def sg_95_17 : List En := [(17, .iload 4, 19, 4, 0, 0, 0), (19, .aload_n 1, 20, 1, 0, 0, 0), (20, .getfield 54, 23, 9, 0, 1, 0), (23, .if_icmp .ge 64, 26, 87, 0, 0, 0), (26, .aload_n 1, 27, 1, 0, 0, 0), (27, .getfield 72, 30, 9, 4, 3, 0), (30, .iload 4, 32, 4, 0, 0, 0), (32, .iaload, 33, 0, 0, 0, 0), (33, .bipush 7, 35, 0, 0, 0, 0), (35, .ishl, 36, 0, 0, 0, 0), (36, .aload_n 1, 37, 1, 0, 0, 0), (37, .getfield 75, 40, 9, 6, 4, 0), (40, .iload 4, 42, 4, 0, 0, 0), (42, .iaload, 43, 0, 0, 0, 0), (43, .ior, 44, 0, 0, 0, 0), (44, .istore 5, 46, 5, 0, 0, 0), (46, .aload_n 0, 47, 0, 0, 0, 0), (47, .getfield 34, 50, 10, 18, 8, 0), (50, .iload 4, 52, 4, 0, 0, 0), (52, .iconst 5, 53, 0, 0, 0, 0), (53, .idiv, 54, 0, 0, 0, 0), (54, .aload_n 0, 55, 0, 0, 0, 0), (55, .getfield 34, 58, 10, 18, 8, 0), (58, .iload 4, 60, 4, 0, 0, 0), (60, .iconst 5, 61, 0, 0, 0, 0), (61, .idiv, 62, 0, 0, 0, 0), (62, .laload, 63, 0, 0, 0, 0), (63, .bipush 12, 65, 0, 0, 0, 0), (65, .lshl, 66, 0, 0, 0, 0), (66, .iload 5, 68, 5, 0, 0, 0), (68, .i2l, 69, 0, 0, 0, 0), (69, .lor, 70, 0, 0, 0, 0), (70, .lastore, 71, 0, 0, 0, 0), (71, .lload_n 2, 72, 2, 0, 0, 0), (72, .ldc2_w 78, 75, 0, 0, 31, 0), (75, .lmul, 76, 0, 0, 0, 0), (76, .iload 5, 78, 5, 0, 0, 0), (78, .i2l, 79, 0, 0, 0, 0), (79, .ladd, 80, 0, 0, 0, 0), (80, .lstore_n 2, 81, 2, 0, 0, 0), (81, .iinc 4 1, 84, 4, 0, 1, 0), (84, .goto (-67), 87, 17, 0, 0, 0)]
def sg_95_87 : List En := [(87, .aload_n 0, 88, 0, 0, 0, 0), (88, .lload_n 2, 89, 2, 0, 0, 0), (89, .lload_n 2, 90, 2, 0, 0, 0), (90, .bipush 16, 92, 0, 0, 0, 0), (92, .lushr, 93, 0, 0, 0, 0), (93, .lxor, 94, 0, 0, 0, 0), (94, .l2i, 95, 0, 0, 0, 0), (95, .sipush 1023, 98, 0, 0, 0, 0), (98, .iand, 99, 0, 0, 0, 0), (99, .putfield 51, 102, 10, 0, 9, 0), (102, .return_, 103, 0, 0, 0, 0)]
def pg_95 : List En := sg_95_0 ++ sg_95_17 ++ sg_95_87
/-! 96 Tried.hasKey -/
def sg_96_0 : List En := [(0, .iconst 0, 1, 0, 0, 0, 0), (1, .istore_n 2, 2, 2, 0, 0, 0)]
def sg_96_2 : List En := [(2, .iload_n 2, 3, 2, 0, 0, 0), (3, .bipush 16, 5, 0, 0, 0, 0), (5, .if_icmp .ge 32, 8, 37, 0, 0, 0), (8, .aload_n 0, 9, 0, 0, 0, 0), (9, .getfield 24, 12, 10, 12, 5, 0), (12, .iload_n 1, 13, 1, 0, 0, 0), (13, .bipush 16, 15, 0, 0, 0, 0), (15, .imul, 16, 0, 0, 0, 0), (16, .iload_n 2, 17, 2, 0, 0, 0), (17, .iadd, 18, 0, 0, 0, 0), (18, .laload, 19, 0, 0, 0, 0), (19, .aload_n 0, 20, 0, 0, 0, 0), (20, .getfield 34, 23, 10, 18, 8, 0), (23, .iload_n 2, 24, 2, 0, 0, 0), (24, .laload, 25, 0, 0, 0, 0), (25, .lcmp, 26, 0, 0, 0, 0), (26, .ifCond .eq 5, 29, 31, 0, 0, 0), (29, .iconst 0, 30, 0, 0, 0, 0), (30, .ireturn, 31, 0, 0, 0, 1)]
def sg_96_31 : List En := [(31, .iinc 2 1, 34, 2, 0, 1, 0), (34, .goto (-32), 37, 2, 0, 0, 0)]
def sg_96_37 : List En := [(37, .iconst 1, 38, 0, 0, 0, 0), (38, .ireturn, 39, 0, 0, 0, 1)]
def pg_96 : List En := sg_96_0 ++ sg_96_2 ++ sg_96_31 ++ sg_96_37
/-! 97 LeastFailing.feed -/
def sg_97_0 : List En := [(0, .aload_n 0, 1, 0, 0, 0, 0), (1, .getfield 12, 4, 11, 7, 0, 0), (4, .getfield 104, 7, 8, 0, 1, 0), (7, .bipush 20, 9, 0, 0, 0, 0), (9, .iadd, 10, 0, 0, 0, 0), (10, .sipush 1000, 13, 0, 0, 0, 0), (13, .if_icmp .le 5, 16, 18, 0, 0, 0), (16, .iconst (-1), 17, 0, 0, 0, 0), (17, .ireturn, 18, 0, 0, 0, 0)]
def sg_97_18 : List En := [(18, .aload_n 0, 19, 0, 0, 0, 0), (19, .getfield 12, 22, 11, 7, 0, 0), (22, .iload_n 1, 23, 1, 0, 0, 0), (23, .invokevirtual 108, 26, 64, 2, 0, 8), (26, .aload_n 0, 27, 0, 0, 0, 0), (27, .getfield 12, 30, 11, 7, 0, 0), (30, .iload_n 2, 31, 2, 0, 0, 0), (31, .invokevirtual 108, 34, 64, 2, 0, 8), (34, .aload_n 0, 35, 0, 0, 0, 0), (35, .getfield 12, 38, 11, 7, 0, 0), (38, .iload_n 3, 39, 3, 0, 0, 0), (39, .invokevirtual 108, 42, 64, 2, 0, 8), (42, .aload_n 0, 43, 0, 0, 0, 0), (43, .getfield 12, 46, 11, 7, 0, 0), (46, .iload 4, 48, 4, 0, 0, 0), (48, .invokevirtual 108, 51, 64, 2, 0, 8), (51, .aload_n 0, 52, 0, 0, 0, 0), (52, .getfield 12, 55, 11, 7, 0, 0), (55, .iload 5, 57, 5, 0, 0, 0), (57, .invokevirtual 108, 60, 64, 2, 0, 8), (60, .aload_n 0, 61, 0, 0, 0, 0), (61, .getfield 12, 64, 11, 7, 0, 0), (64, .getfield 104, 67, 8, 0, 1, 0), (67, .ireturn, 68, 0, 0, 0, 0)]
def pg_97 : List En := sg_97_0 ++ sg_97_18
/-! 98 LeastFailing.end -/
def sg_98_0 : List En := [(0, .iload_n 1, 1, 1, 0, 0, 0), (1, .ifCond .lt 14, 4, 15, 0, 0, 0), (4, .iload_n 1, 5, 1, 0, 0, 0), (5, .aload_n 0, 6, 0, 0, 0, 0), (6, .getfield 12, 9, 11, 7, 0, 0), (9, .getfield 104, 12, 8, 0, 1, 0), (12, .if_icmp .le 5, 15, 17, 0, 0, 0)]
def sg_98_15 : List En := [(15, .iconst 0, 16, 0, 0, 0, 0), (16, .ireturn, 17, 0, 0, 0, 1)]
def sg_98_17 : List En := [(17, .aload_n 0, 18, 0, 0, 0, 0), (18, .getfield 12, 21, 11, 7, 0, 0), (21, .iload_n 1, 22, 1, 0, 0, 0), (22, .putfield 104, 25, 8, 0, 1, 0), (25, .iconst 1, 26, 0, 0, 0, 0), (26, .ireturn, 27, 0, 0, 0, 1)]
def pg_98 : List En := sg_98_0 ++ sg_98_15 ++ sg_98_17
/-! 99 LeastFailing.grammar -/
def sg_99_0 : List En := [(0, .aload_n 0, 1, 0, 0, 0, 0), (1, .getfield 12, 4, 11, 7, 0, 0), (4, .aload_n 0, 5, 0, 0, 0, 0), (5, .getfield 23, 8, 11, 31, 2, 0), (8, .invokestatic 112, 11, 34, 2, 1, 0), (11, .istore_n 1, 12, 1, 0, 0, 0), (12, .aload_n 0, 13, 0, 0, 0, 0), (13, .getfield 12, 16, 11, 7, 0, 0), (16, .iconst 0, 17, 0, 0, 0, 0), (17, .putfield 104, 20, 8, 0, 1, 0), (20, .iload_n 1, 21, 1, 0, 0, 0), (21, .ifCond .ne 5, 24, 26, 0, 0, 0), (24, .iconst (-1), 25, 0, 0, 0, 0), (25, .ireturn, 26, 0, 0, 0, 0)]
def sg_99_26 : List En := [(26, .aload_n 0, 27, 0, 0, 0, 0), (27, .getfield 19, 30, 11, 11, 1, 0), (30, .aload_n 0, 31, 0, 0, 0, 0), (31, .getfield 23, 34, 11, 31, 2, 0), (34, .invokevirtual 118, 37, 22, 2, 0, 2), (37, .aload_n 0, 38, 0, 0, 0, 0), (38, .getfield 41, 41, 11, 79, 5, 0), (41, .invokevirtual 121, 44, 79, 1, 0, 9), (44, .aload_n 0, 45, 0, 0, 0, 0), (45, .getfield 29, 48, 11, 51, 3, 0), (48, .invokevirtual 124, 51, 0, 1, 0, 0), (51, .aload_n 0, 52, 0, 0, 0, 0), (52, .iconst 0, 53, 0, 0, 0, 0), (53, .putfield 125, 56, 11, 0, 8, 0), (56, .aload_n 0, 57, 0, 0, 0, 0), (57, .getfield 73, 60, 11, 279, 11, 0), (60, .invokevirtual 128, 63, 92, 1, 0, 10), (63, .aload_n 0, 64, 0, 0, 0, 0), (64, .getfield 19, 67, 11, 11, 1, 0), (67, .getfield 131, 70, 2, 0, 0, 0), (70, .ireturn, 71, 0, 0, 0, 0)]
def pg_99 : List En := sg_99_0 ++ sg_99_26
/-! 100 LeastFailing.input -/
def sg_100_0 : List En := [(0, .aload_n 0, 1, 0, 0, 0, 0), (1, .getfield 19, 4, 11, 11, 1, 0), (4, .getfield 131, 7, 2, 0, 0, 0), (7, .ifCond .ne 14, 10, 21, 0, 0, 0), (10, .aload_n 0, 11, 0, 0, 0, 0), (11, .getfield 12, 14, 11, 7, 0, 0), (14, .iconst 0, 15, 0, 0, 0, 0), (15, .putfield 104, 18, 8, 0, 1, 0), (18, .bipush (-3), 20, 0, 0, 0, 0), (20, .ireturn, 21, 0, 0, 0, 0)]
def sg_100_21 : List En := [(21, .aload_n 0, 22, 0, 0, 0, 0), (22, .getfield 57, 25, 11, 271, 9, 0), (25, .invokevirtual 134, 28, 38, 1, 1, 4), (28, .istore_n 1, 29, 1, 0, 0, 0), (29, .aload_n 0, 30, 0, 0, 0, 0), (30, .getfield 12, 33, 11, 7, 0, 0), (33, .iconst 0, 34, 0, 0, 0, 0), (34, .putfield 104, 37, 8, 0, 1, 0), (37, .iload_n 1, 38, 1, 0, 0, 0), (38, .ifCond .ne 5, 41, 43, 0, 0, 0), (41, .iconst (-1), 42, 0, 0, 0, 0), (42, .ireturn, 43, 0, 0, 0, 0)]
def sg_100_43 : List En := [(43, .aload_n 0, 44, 0, 0, 0, 0), (44, .invokevirtual 137, 47, 131, 1, 0, 11), (47, .aload_n 0, 48, 0, 0, 0, 0), (48, .getfield 41, 51, 11, 79, 5, 0), (51, .aload_n 0, 52, 0, 0, 0, 0), (52, .getfield 45, 55, 11, 95, 6, 0), (55, .invokevirtual 140, 58, 80, 2, 0, 9), (58, .aload_n 0, 59, 0, 0, 0, 0), (59, .getfield 73, 62, 11, 279, 11, 0), (62, .invokevirtual 128, 65, 92, 1, 0, 10), (65, .aload_n 0, 66, 0, 0, 0, 0), (66, .getfield 41, 69, 11, 79, 5, 0), (69, .getfield 142, 72, 9, 0, 1, 0), (72, .ireturn, 73, 0, 0, 0, 0)]
def pg_100 : List En := sg_100_0 ++ sg_100_21 ++ sg_100_43
/-! 101 LeastFailing.bugs -/
def sg_101_0 : List En := [(0, .aload_n 0, 1, 0, 0, 0, 0), (1, .getfield 19, 4, 11, 11, 1, 0), (4, .getfield 131, 7, 2, 0, 0, 0), (7, .ifCond .ne 14, 10, 21, 0, 0, 0), (10, .aload_n 0, 11, 0, 0, 0, 0), (11, .getfield 12, 14, 11, 7, 0, 0), (14, .iconst 0, 15, 0, 0, 0, 0), (15, .putfield 104, 18, 8, 0, 1, 0), (18, .bipush (-3), 20, 0, 0, 0, 0), (20, .ireturn, 21, 0, 0, 0, 0)]
def sg_101_21 : List En := [(21, .aload_n 0, 22, 0, 0, 0, 0), (22, .getfield 66, 25, 11, 275, 10, 0), (25, .invokevirtual 145, 28, 8, 1, 1, 1), (28, .istore_n 1, 29, 1, 0, 0, 0), (29, .aload_n 0, 30, 0, 0, 0, 0), (30, .getfield 12, 33, 11, 7, 0, 0), (33, .iconst 0, 34, 0, 0, 0, 0), (34, .putfield 104, 37, 8, 0, 1, 0), (37, .iload_n 1, 38, 1, 0, 0, 0), (38, .ifCond .ne 5, 41, 43, 0, 0, 0), (41, .iconst (-1), 42, 0, 0, 0, 0), (42, .ireturn, 43, 0, 0, 0, 0)]
def sg_101_43 : List En := [(43, .aload_n 0, 44, 0, 0, 0, 0), (44, .getfield 29, 47, 11, 51, 3, 0), (47, .aload_n 0, 48, 0, 0, 0, 0), (48, .getfield 33, 51, 11, 65, 4, 0), (51, .invokevirtual 146, 54, 1, 2, 0, 0), (54, .aload_n 0, 55, 0, 0, 0, 0), (55, .getfield 73, 58, 11, 279, 11, 0), (58, .invokevirtual 128, 61, 92, 1, 0, 10), (61, .aload_n 0, 62, 0, 0, 0, 0), (62, .getfield 29, 65, 11, 51, 3, 0), (65, .getfield 149, 68, 0, 0, 0, 0), (68, .ireturn, 69, 0, 0, 0, 0)]
def pg_101 : List En := sg_101_0 ++ sg_101_21 ++ sg_101_43
/-! 102 LeastFailing.fault -/
def sg_102_0 : List En := [(0, .iload_n 1, 1, 1, 0, 0, 0), (1, .ifCond .ne 11, 4, 12, 0, 0, 0), (4, .aload_n 0, 5, 0, 0, 0, 0), (5, .getfield 12, 8, 11, 7, 0, 0), (8, .getfield 152, 11, 8, 0, 6, 0), (11, .ireturn, 12, 0, 0, 0, 0)]
def sg_102_12 : List En := [(12, .iload_n 1, 13, 1, 0, 0, 0), (13, .iconst 1, 14, 0, 0, 0, 0), (14, .if_icmp .ne 13, 17, 27, 0, 0, 0), (17, .aload_n 0, 18, 0, 0, 0, 0), (18, .getfield 12, 21, 11, 7, 0, 0), (21, .getfield 155, 24, 8, 0, 7, 0), (24, .goto 4, 27, 28, 0, 0, 0)]
def sg_102_27 : List En := [(27, .iconst (-1), 28, 0, 0, 0, 0)]
def sg_102_28 : List En := [(28, .ireturn, 29, 0, 0, 0, 0)]
def pg_102 : List En := sg_102_0 ++ sg_102_12 ++ sg_102_27 ++ sg_102_28
/-! 103 LeastFailing.votes -/
def sg_103_0 : List En := [(0, .iload_n 1, 1, 1, 0, 0, 0), (1, .invokestatic 158, 4, 129, 1, 1, 0), (4, .ifCond .ne 6, 7, 10, 0, 0, 0), (7, .bipush (-2), 9, 0, 0, 0, 0), (9, .ireturn, 10, 0, 0, 0, 0)]
def sg_103_10 : List En := [(10, .aload_n 0, 11, 0, 0, 0, 0), (11, .getfield 82, 14, 11, 297, 12, 0), (14, .getfield 162, 17, 5, 0, 3, 0), (17, .istore_n 2, 18, 2, 0, 0, 0), (18, .aload_n 0, 19, 0, 0, 0, 0), (19, .getfield 82, 22, 11, 297, 12, 0), (22, .iload_n 1, 23, 1, 0, 0, 0), (23, .putfield 162, 26, 5, 0, 3, 0), (26, .aload_n 0, 27, 0, 0, 0, 0), (27, .getfield 73, 30, 11, 279, 11, 0), (30, .invokevirtual 128, 33, 92, 1, 0, 10), (33, .iload_n 2, 34, 2, 0, 0, 0), (34, .ireturn, 35, 0, 0, 0, 0)]
def pg_103 : List En := sg_103_0 ++ sg_103_10
/-! 104 LeastFailing.seed -/
def sg_104_0 : List En := [(0, .iload_n 1, 1, 1, 0, 0, 0), (1, .ifCond .ge 6, 4, 7, 0, 0, 0), (4, .bipush (-2), 6, 0, 0, 0, 0), (6, .ireturn, 7, 0, 0, 0, 0)]
def sg_104_7 : List En := [(7, .aload_n 0, 8, 0, 0, 0, 0), (8, .getfield 82, 11, 11, 297, 12, 0), (11, .iload_n 1, 12, 1, 0, 0, 0), (12, .putfield 165, 15, 5, 0, 4, 0), (15, .aload_n 0, 16, 0, 0, 0, 0), (16, .getfield 73, 19, 11, 279, 11, 0), (19, .invokevirtual 128, 22, 92, 1, 0, 10), (22, .iconst 1, 23, 0, 0, 0, 0), (23, .ireturn, 24, 0, 0, 0, 0)]
def pg_104 : List En := sg_104_0 ++ sg_104_7
/-! 105 LeastFailing.count -/
def sg_105_0 : List En := [(0, .iload_n 1, 1, 1, 0, 0, 0), (1, .tableswitch 170 0 11 #[63, 71, 79, 87, 95, 103, 111, 119, 127, 135, 143, 148], 64, 0, 0, 0, 0)]
def sg_105_64 : List En := [(64, .aload_n 0, 65, 0, 0, 0, 0), (65, .getfield 19, 68, 11, 11, 1, 0), (68, .getfield 131, 71, 2, 0, 0, 0), (71, .ireturn, 72, 0, 0, 0, 0)]
def sg_105_72 : List En := [(72, .aload_n 0, 73, 0, 0, 0, 0), (73, .getfield 19, 76, 11, 11, 1, 0), (76, .getfield 168, 79, 2, 0, 1, 0), (79, .ireturn, 80, 0, 0, 0, 0)]
def sg_105_80 : List En := [(80, .aload_n 0, 81, 0, 0, 0, 0), (81, .getfield 41, 84, 11, 79, 5, 0), (84, .getfield 142, 87, 9, 0, 1, 0), (87, .ireturn, 88, 0, 0, 0, 0)]
def sg_105_88 : List En := [(88, .aload_n 0, 89, 0, 0, 0, 0), (89, .getfield 29, 92, 11, 51, 3, 0), (92, .getfield 149, 95, 0, 0, 0, 0), (95, .ireturn, 96, 0, 0, 0, 0)]
def sg_105_96 : List En := [(96, .aload_n 0, 97, 0, 0, 0, 0), (97, .getfield 82, 100, 11, 297, 12, 0), (100, .getfield 162, 103, 5, 0, 3, 0), (103, .ireturn, 104, 0, 0, 0, 0)]
def sg_105_104 : List En := [(104, .aload_n 0, 105, 0, 0, 0, 0), (105, .getfield 73, 108, 11, 279, 11, 0), (108, .getfield 171, 111, 10, 0, 0, 0), (111, .ireturn, 112, 0, 0, 0, 0)]
def sg_105_112 : List En := [(112, .aload_n 0, 113, 0, 0, 0, 0), (113, .getfield 82, 116, 11, 297, 12, 0), (116, .getfield 172, 119, 5, 0, 5, 0), (119, .ireturn, 120, 0, 0, 0, 0)]
def sg_105_120 : List En := [(120, .aload_n 0, 121, 0, 0, 0, 0), (121, .getfield 82, 124, 11, 297, 12, 0), (124, .getfield 175, 127, 5, 0, 6, 0), (127, .ireturn, 128, 0, 0, 0, 0)]
def sg_105_128 : List En := [(128, .aload_n 0, 129, 0, 0, 0, 0), (129, .getfield 82, 132, 11, 297, 12, 0), (132, .getfield 178, 135, 5, 0, 7, 0), (135, .ireturn, 136, 0, 0, 0, 0)]
def sg_105_136 : List En := [(136, .aload_n 0, 137, 0, 0, 0, 0), (137, .getfield 82, 140, 11, 297, 12, 0), (140, .getfield 165, 143, 5, 0, 4, 0), (143, .ireturn, 144, 0, 0, 0, 0)]
def sg_105_144 : List En := [(144, .aload_n 0, 145, 0, 0, 0, 0), (145, .getfield 125, 148, 11, 0, 8, 0), (148, .ireturn, 149, 0, 0, 0, 0)]
def sg_105_149 : List En := [(149, .aload_n 0, 150, 0, 0, 0, 0), (150, .getfield 41, 153, 11, 79, 5, 0), (153, .getfield 142, 156, 9, 0, 1, 0), (156, .ifCond .ne 7, 159, 163, 0, 0, 0), (159, .iconst (-1), 160, 0, 0, 0, 0), (160, .goto 10, 163, 170, 0, 0, 0)]
def sg_105_163 : List En := [(163, .aload_n 0, 164, 0, 0, 0, 0), (164, .getfield 41, 167, 11, 79, 5, 0), (167, .getfield 181, 170, 9, 0, 2, 0)]
def sg_105_170 : List En := [(170, .ireturn, 171, 0, 0, 0, 0)]
def sg_105_171 : List En := [(171, .iconst (-1), 172, 0, 0, 0, 0), (172, .ireturn, 173, 0, 0, 0, 0)]
def pg_105 : List En := sg_105_0 ++ sg_105_64 ++ sg_105_72 ++ sg_105_80 ++ sg_105_88 ++ sg_105_96 ++ sg_105_104 ++ sg_105_112 ++ sg_105_120 ++ sg_105_128 ++ sg_105_136 ++ sg_105_144 ++ sg_105_149 ++ sg_105_163 ++ sg_105_170 ++ sg_105_171
/-! 106 LeastFailing.letter -/
def sg_106_0 : List En := [(0, .iload_n 3, 1, 3, 0, 0, 0), (1, .ifCond .lt 13, 4, 14, 0, 0, 0), (4, .iload_n 3, 5, 3, 0, 0, 0), (5, .bipush 6, 7, 0, 0, 0, 0), (7, .if_icmp .ge 7, 10, 14, 0, 0, 0), (10, .iload_n 2, 11, 2, 0, 0, 0), (11, .ifCond .ge 5, 14, 16, 0, 0, 0)]
def sg_106_14 : List En := [(14, .iconst (-1), 15, 0, 0, 0, 0), (15, .ireturn, 16, 0, 0, 0, 0)]
def sg_106_16 : List En := [(16, .iload_n 1, 17, 1, 0, 0, 0), (17, .ifCond .ne 28, 20, 45, 0, 0, 0), (20, .iload_n 2, 21, 2, 0, 0, 0), (21, .aload_n 0, 22, 0, 0, 0, 0), (22, .getfield 19, 25, 11, 11, 1, 0), (25, .getfield 131, 28, 2, 0, 0, 0), (28, .if_icmp .ge 17, 31, 45, 0, 0, 0), (31, .aload_n 0, 32, 0, 0, 0, 0), (32, .getfield 19, 35, 11, 11, 1, 0), (35, .getfield 184, 38, 2, 4, 2, 0), (38, .iload_n 2, 39, 2, 0, 0, 0), (39, .iaload, 40, 0, 0, 0, 0), (40, .iload_n 3, 41, 3, 0, 0, 0), (41, .invokestatic 188, 44, 63, 2, 1, 0), (44, .ireturn, 45, 0, 0, 0, 0)]
def sg_106_45 : List En := [(45, .iload_n 1, 46, 1, 0, 0, 0), (46, .iconst 1, 47, 0, 0, 0, 0), (47, .if_icmp .ne 28, 50, 75, 0, 0, 0), (50, .iload_n 2, 51, 2, 0, 0, 0), (51, .aload_n 0, 52, 0, 0, 0, 0), (52, .getfield 19, 55, 11, 11, 1, 0), (55, .getfield 168, 58, 2, 0, 1, 0), (58, .if_icmp .ge 17, 61, 75, 0, 0, 0), (61, .aload_n 0, 62, 0, 0, 0, 0), (62, .getfield 19, 65, 11, 11, 1, 0), (65, .getfield 192, 68, 2, 16, 8, 0), (68, .iload_n 2, 69, 2, 0, 0, 0), (69, .iaload, 70, 0, 0, 0, 0), (70, .iload_n 3, 71, 3, 0, 0, 0), (71, .invokestatic 188, 74, 63, 2, 1, 0), (74, .ireturn, 75, 0, 0, 0, 0)]
def sg_106_75 : List En := [(75, .iload_n 1, 76, 1, 0, 0, 0), (76, .iconst 2, 77, 0, 0, 0, 0), (77, .if_icmp .ne 28, 80, 105, 0, 0, 0), (80, .iload_n 2, 81, 2, 0, 0, 0), (81, .aload_n 0, 82, 0, 0, 0, 0), (82, .getfield 29, 85, 11, 51, 3, 0), (85, .getfield 149, 88, 0, 0, 0, 0), (88, .if_icmp .ge 17, 91, 105, 0, 0, 0), (91, .aload_n 0, 92, 0, 0, 0, 0), (92, .getfield 29, 95, 11, 51, 3, 0), (95, .getfield 195, 98, 0, 4, 1, 0), (98, .iload_n 2, 99, 2, 0, 0, 0), (99, .iaload, 100, 0, 0, 0, 0), (100, .iload_n 3, 101, 3, 0, 0, 0), (101, .invokestatic 188, 104, 63, 2, 1, 0), (104, .ireturn, 105, 0, 0, 0, 0)]
def sg_106_105 : List En := [(105, .iconst (-1), 106, 0, 0, 0, 0), (106, .ireturn, 107, 0, 0, 0, 0)]
def pg_106 : List En := sg_106_0 ++ sg_106_14 ++ sg_106_16 ++ sg_106_45 ++ sg_106_75 ++ sg_106_105
/-! 107 LeastFailing.line -/
def sg_107_0 : List En := [(0, .iload_n 1, 1, 1, 0, 0, 0), (1, .ifCond .lt 14, 4, 15, 0, 0, 0), (4, .iload_n 1, 5, 1, 0, 0, 0), (5, .aload_n 0, 6, 0, 0, 0, 0), (6, .getfield 19, 9, 11, 11, 1, 0), (9, .getfield 131, 12, 2, 0, 0, 0), (12, .if_icmp .lt 5, 15, 17, 0, 0, 0)]
def sg_107_15 : List En := [(15, .iconst (-1), 16, 0, 0, 0, 0), (16, .ireturn, 17, 0, 0, 0, 0)]
def sg_107_17 : List En := [(17, .iload_n 2, 18, 2, 0, 0, 0), (18, .tableswitch 86 0 3 #[30, 48, 58, 68], 48, 0, 0, 0, 0)]
def sg_107_48 : List En := [(48, .aload_n 0, 49, 0, 0, 0, 0), (49, .getfield 19, 52, 11, 11, 1, 0), (52, .getfield 196, 55, 2, 6, 3, 0), (55, .iload_n 1, 56, 1, 0, 0, 0), (56, .baload, 57, 0, 0, 0, 1), (57, .ifCond .eq 7, 60, 64, 0, 0, 0), (60, .iconst 1, 61, 0, 0, 0, 0), (61, .goto 4, 64, 65, 0, 0, 0)]
def sg_107_64 : List En := [(64, .iconst 0, 65, 0, 0, 0, 0)]
def sg_107_65 : List En := [(65, .ireturn, 66, 0, 0, 0, 0)]
def sg_107_66 : List En := [(66, .aload_n 0, 67, 0, 0, 0, 0), (67, .getfield 19, 70, 11, 11, 1, 0), (70, .getfield 200, 73, 2, 8, 4, 0), (73, .iload_n 1, 74, 1, 0, 0, 0), (74, .iaload, 75, 0, 0, 0, 0), (75, .ireturn, 76, 0, 0, 0, 0)]
def sg_107_76 : List En := [(76, .aload_n 0, 77, 0, 0, 0, 0), (77, .getfield 19, 80, 11, 11, 1, 0), (80, .getfield 203, 83, 2, 10, 5, 0), (83, .iload_n 1, 84, 1, 0, 0, 0), (84, .iaload, 85, 0, 0, 0, 0), (85, .ireturn, 86, 0, 0, 0, 0)]
def sg_107_86 : List En := [(86, .aload_n 0, 87, 0, 0, 0, 0), (87, .getfield 19, 90, 11, 11, 1, 0), (90, .getfield 206, 93, 2, 12, 6, 0), (93, .iload_n 1, 94, 1, 0, 0, 0), (94, .baload, 95, 0, 0, 0, 1), (95, .ifCond .eq 7, 98, 102, 0, 0, 0), (98, .iconst 1, 99, 0, 0, 0, 0), (99, .goto 4, 102, 103, 0, 0, 0)]
def sg_107_102 : List En := [(102, .iconst 0, 103, 0, 0, 0, 0)]
def sg_107_103 : List En := [(103, .ireturn, 104, 0, 0, 0, 0)]
def sg_107_104 : List En := [(104, .iload_n 2, 105, 2, 0, 0, 0), (105, .bipush 10, 107, 0, 0, 0, 0), (107, .if_icmp .lt 19, 110, 126, 0, 0, 0), (110, .iload_n 2, 111, 2, 0, 0, 0), (111, .bipush 10, 113, 0, 0, 0, 0), (113, .isub, 114, 0, 0, 0, 0), (114, .aload_n 0, 115, 0, 0, 0, 0), (115, .getfield 19, 118, 11, 11, 1, 0), (118, .getfield 203, 121, 2, 10, 5, 0), (121, .iload_n 1, 122, 1, 0, 0, 0), (122, .iaload, 123, 0, 0, 0, 0), (123, .if_icmp .lt 5, 126, 128, 0, 0, 0)]
def sg_107_126 : List En := [(126, .iconst (-1), 127, 0, 0, 0, 0), (127, .ireturn, 128, 0, 0, 0, 0)]
def sg_107_128 : List En := [(128, .aload_n 0, 129, 0, 0, 0, 0), (129, .getfield 19, 132, 11, 11, 1, 0), (132, .iload_n 1, 133, 1, 0, 0, 0), (133, .iload_n 2, 134, 2, 0, 0, 0), (134, .bipush 10, 136, 0, 0, 0, 0), (136, .isub, 137, 0, 0, 0, 0), (137, .invokevirtual 209, 140, 28, 3, 1, 2), (140, .ireturn, 141, 0, 0, 0, 0)]
def pg_107 : List En := sg_107_0 ++ sg_107_15 ++ sg_107_17 ++ sg_107_48 ++ sg_107_64 ++ sg_107_65 ++ sg_107_66 ++ sg_107_76 ++ sg_107_86 ++ sg_107_102 ++ sg_107_103 ++ sg_107_104 ++ sg_107_126 ++ sg_107_128
/-! 108 LeastFailing.least -/
def sg_108_0 : List En := [(0, .iload_n 1, 1, 1, 0, 0, 0), (1, .ifCond .lt 14, 4, 15, 0, 0, 0), (4, .iload_n 1, 5, 1, 0, 0, 0), (5, .aload_n 0, 6, 0, 0, 0, 0), (6, .getfield 19, 9, 11, 11, 1, 0), (9, .getfield 168, 12, 2, 0, 1, 0), (12, .if_icmp .lt 5, 15, 17, 0, 0, 0)]
def sg_108_15 : List En := [(15, .iconst (-1), 16, 0, 0, 0, 0), (16, .ireturn, 17, 0, 0, 0, 0)]
def sg_108_17 : List En := [(17, .iload_n 2, 18, 2, 0, 0, 0), (18, .iconst (-1), 19, 0, 0, 0, 0), (19, .if_icmp .ne 13, 22, 32, 0, 0, 0), (22, .aload_n 0, 23, 0, 0, 0, 0), (23, .getfield 19, 26, 11, 11, 1, 0), (26, .getfield 212, 29, 2, 18, 9, 0), (29, .iload_n 1, 30, 1, 0, 0, 0), (30, .iaload, 31, 0, 0, 0, 0), (31, .ireturn, 32, 0, 0, 0, 0)]
def sg_108_32 : List En := [(32, .iload_n 2, 33, 2, 0, 0, 0), (33, .ifCond .lt 16, 36, 49, 0, 0, 0), (36, .iload_n 2, 37, 2, 0, 0, 0), (37, .aload_n 0, 38, 0, 0, 0, 0), (38, .getfield 19, 41, 11, 11, 1, 0), (41, .getfield 212, 44, 2, 18, 9, 0), (44, .iload_n 1, 45, 1, 0, 0, 0), (45, .iaload, 46, 0, 0, 0, 0), (46, .if_icmp .lt 7, 49, 53, 0, 0, 0)]
def sg_108_49 : List En := [(49, .iconst (-1), 50, 0, 0, 0, 0), (50, .goto 12, 53, 62, 0, 0, 0)]
def sg_108_53 : List En := [(53, .aload_n 0, 54, 0, 0, 0, 0), (54, .getfield 19, 57, 11, 11, 1, 0), (57, .iload_n 1, 58, 1, 0, 0, 0), (58, .iload_n 2, 59, 2, 0, 0, 0), (59, .invokevirtual 215, 62, 33, 3, 1, 2)]
def sg_108_62 : List En := [(62, .ireturn, 63, 0, 0, 0, 0)]
def pg_108 : List En := sg_108_0 ++ sg_108_15 ++ sg_108_17 ++ sg_108_32 ++ sg_108_49 ++ sg_108_53 ++ sg_108_62
/-! 109 LeastFailing.node -/
def sg_109_0 : List En := [(0, .iload_n 1, 1, 1, 0, 0, 0), (1, .ifCond .lt 14, 4, 15, 0, 0, 0), (4, .iload_n 1, 5, 1, 0, 0, 0), (5, .aload_n 0, 6, 0, 0, 0, 0), (6, .getfield 41, 9, 11, 79, 5, 0), (9, .getfield 142, 12, 9, 0, 1, 0), (12, .if_icmp .lt 6, 15, 18, 0, 0, 0)]
def sg_109_15 : List En := [(15, .bipush (-2), 17, 0, 0, 0, 0), (17, .ireturn, 18, 0, 0, 0, 0)]
def sg_109_18 : List En := [(18, .iload_n 2, 19, 2, 0, 0, 0), (19, .tableswitch 131 0 7 #[45, 55, 64, 74, 84, 94, 104, 114], 64, 0, 0, 0, 0)]
def sg_109_64 : List En := [(64, .aload_n 0, 65, 0, 0, 0, 0), (65, .getfield 41, 68, 11, 79, 5, 0), (68, .getfield 218, 71, 9, 4, 3, 0), (71, .iload_n 1, 72, 1, 0, 0, 0), (72, .iaload, 73, 0, 0, 0, 0), (73, .ireturn, 74, 0, 0, 0, 0)]
def sg_109_74 : List En := [(74, .aload_n 0, 75, 0, 0, 0, 0), (75, .getfield 41, 78, 11, 79, 5, 0), (78, .iload_n 1, 79, 1, 0, 0, 0), (79, .invokevirtual 219, 82, 85, 2, 1, 9), (82, .ireturn, 83, 0, 0, 0, 0)]
def sg_109_83 : List En := [(83, .aload_n 0, 84, 0, 0, 0, 0), (84, .getfield 41, 87, 11, 79, 5, 0), (87, .getfield 223, 90, 9, 12, 7, 0), (90, .iload_n 1, 91, 1, 0, 0, 0), (91, .iaload, 92, 0, 0, 0, 0), (92, .ireturn, 93, 0, 0, 0, 0)]
def sg_109_93 : List En := [(93, .aload_n 0, 94, 0, 0, 0, 0), (94, .getfield 41, 97, 11, 79, 5, 0), (97, .getfield 226, 100, 9, 14, 8, 0), (100, .iload_n 1, 101, 1, 0, 0, 0), (101, .iaload, 102, 0, 0, 0, 0), (102, .ireturn, 103, 0, 0, 0, 0)]
def sg_109_103 : List En := [(103, .aload_n 0, 104, 0, 0, 0, 0), (104, .getfield 41, 107, 11, 79, 5, 0), (107, .getfield 229, 110, 9, 6, 4, 0), (110, .iload_n 1, 111, 1, 0, 0, 0), (111, .iaload, 112, 0, 0, 0, 0), (112, .ireturn, 113, 0, 0, 0, 0)]
def sg_109_113 : List En := [(113, .aload_n 0, 114, 0, 0, 0, 0), (114, .getfield 41, 117, 11, 79, 5, 0), (117, .getfield 232, 120, 9, 8, 5, 0), (120, .iload_n 1, 121, 1, 0, 0, 0), (121, .iaload, 122, 0, 0, 0, 0), (122, .ireturn, 123, 0, 0, 0, 0)]
def sg_109_123 : List En := [(123, .aload_n 0, 124, 0, 0, 0, 0), (124, .getfield 41, 127, 11, 79, 5, 0), (127, .getfield 235, 130, 9, 10, 6, 0), (130, .iload_n 1, 131, 1, 0, 0, 0), (131, .iaload, 132, 0, 0, 0, 0), (132, .ireturn, 133, 0, 0, 0, 0)]
def sg_109_133 : List En := [(133, .aload_n 0, 134, 0, 0, 0, 0), (134, .getfield 41, 137, 11, 79, 5, 0), (137, .iload_n 1, 138, 1, 0, 0, 0), (138, .invokevirtual 238, 141, 86, 2, 1, 9), (141, .ifCond .eq 7, 144, 148, 0, 0, 0), (144, .iconst 1, 145, 0, 0, 0, 0), (145, .goto 4, 148, 149, 0, 0, 0)]
def sg_109_148 : List En := [(148, .iconst 0, 149, 0, 0, 0, 0)]
def sg_109_149 : List En := [(149, .ireturn, 150, 0, 0, 0, 0)]
def sg_109_150 : List En := [(150, .bipush (-2), 152, 0, 0, 0, 0), (152, .ireturn, 153, 0, 0, 0, 0)]
def pg_109 : List En := sg_109_0 ++ sg_109_15 ++ sg_109_18 ++ sg_109_64 ++ sg_109_74 ++ sg_109_83 ++ sg_109_93 ++ sg_109_103 ++ sg_109_113 ++ sg_109_123 ++ sg_109_133 ++ sg_109_148 ++ sg_109_149 ++ sg_109_150
/-! 110 LeastFailing.holding -/
def sg_110_0 : List En := [(0, .aload_n 0, 1, 0, 0, 0, 0), (1, .getfield 41, 4, 11, 79, 5, 0), (4, .getfield 142, 7, 9, 0, 1, 0), (7, .ifCond .ne 7, 10, 14, 0, 0, 0), (10, .iconst (-1), 11, 0, 0, 0, 0), (11, .goto 14, 14, 25, 0, 0, 0)]
def sg_110_14 : List En := [(14, .aload_n 0, 15, 0, 0, 0, 0), (15, .getfield 29, 18, 11, 51, 3, 0), (18, .aload_n 0, 19, 0, 0, 0, 0), (19, .getfield 41, 22, 11, 79, 5, 0), (22, .invokevirtual 241, 25, 6, 2, 1, 0)]
def sg_110_25 : List En := [(25, .ireturn, 26, 0, 0, 0, 0)]
def pg_110 : List En := sg_110_0 ++ sg_110_14 ++ sg_110_25
/-! 111 LeastFailing.counts -/
def sg_111_0 : List En := [(0, .aload_n 0, 1, 0, 0, 0, 0), (1, .getfield 41, 4, 11, 79, 5, 0), (4, .getfield 142, 7, 9, 0, 1, 0), (7, .ifCond .eq 12, 10, 19, 0, 0, 0), (10, .iload_n 1, 11, 1, 0, 0, 0), (11, .ifCond .lt 8, 14, 19, 0, 0, 0), (14, .iload_n 1, 15, 1, 0, 0, 0), (15, .iconst 4, 16, 0, 0, 0, 0), (16, .if_icmp .le 5, 19, 21, 0, 0, 0)]
def sg_111_19 : List En := [(19, .iconst (-1), 20, 0, 0, 0, 0), (20, .ireturn, 21, 0, 0, 0, 0)]
def sg_111_21 : List En := [(21, .iload_n 1, 22, 1, 0, 0, 0), (22, .iconst 2, 23, 0, 0, 0, 0), (23, .if_icmp .lt 20, 26, 43, 0, 0, 0), (26, .iload_n 2, 27, 2, 0, 0, 0), (27, .ifCond .lt 14, 30, 41, 0, 0, 0), (30, .iload_n 2, 31, 2, 0, 0, 0), (31, .aload_n 0, 32, 0, 0, 0, 0), (32, .getfield 19, 35, 11, 11, 1, 0), (35, .getfield 131, 38, 2, 0, 0, 0), (38, .if_icmp .lt 5, 41, 43, 0, 0, 0)]
def sg_111_41 : List En := [(41, .iconst (-1), 42, 0, 0, 0, 0), (42, .ireturn, 43, 0, 0, 0, 0)]
def sg_111_43 : List En := [(43, .iload_n 1, 44, 1, 0, 0, 0), (44, .iconst 3, 45, 0, 0, 0, 0), (45, .if_icmp .lt 20, 48, 65, 0, 0, 0), (48, .iload_n 3, 49, 3, 0, 0, 0), (49, .ifCond .lt 14, 52, 63, 0, 0, 0), (52, .iload_n 3, 53, 3, 0, 0, 0), (53, .aload_n 0, 54, 0, 0, 0, 0), (54, .getfield 19, 57, 11, 11, 1, 0), (57, .getfield 131, 60, 2, 0, 0, 0), (60, .if_icmp .lt 5, 63, 65, 0, 0, 0)]
def sg_111_63 : List En := [(63, .iconst (-1), 64, 0, 0, 0, 0), (64, .ireturn, 65, 0, 0, 0, 0)]
def sg_111_65 : List En := [(65, .aload_n 0, 66, 0, 0, 0, 0), (66, .getfield 41, 69, 11, 79, 5, 0), (69, .iload_n 1, 70, 1, 0, 0, 0), (70, .iload_n 2, 71, 2, 0, 0, 0), (71, .iload_n 3, 72, 3, 0, 0, 0), (72, .invokevirtual 245, 75, 89, 4, 1, 9), (75, .ireturn, 76, 0, 0, 0, 0)]
def pg_111 : List En := sg_111_0 ++ sg_111_19 ++ sg_111_21 ++ sg_111_41 ++ sg_111_43 ++ sg_111_63 ++ sg_111_65
/-! 112 LeastFailing.verdict -/
def sg_112_0 : List En := [(0, .aload_n 0, 1, 0, 0, 0, 0), (1, .getfield 41, 4, 11, 79, 5, 0), (4, .getfield 142, 7, 9, 0, 1, 0), (7, .ifCond .ne 7, 10, 14, 0, 0, 0), (10, .iconst (-1), 11, 0, 0, 0, 0), (11, .goto 16, 14, 27, 0, 0, 0)]
def sg_112_14 : List En := [(14, .aload_n 0, 15, 0, 0, 0, 0), (15, .getfield 82, 18, 11, 297, 12, 0), (18, .aload_n 0, 19, 0, 0, 0, 0), (19, .getfield 41, 22, 11, 79, 5, 0), (22, .iconst 0, 23, 0, 0, 0, 0), (23, .iconst (-1), 24, 0, 0, 0, 0), (24, .invokevirtual 249, 27, 42, 4, 1, 5)]
def sg_112_27 : List En := [(27, .ireturn, 28, 0, 0, 0, 0)]
def pg_112 : List En := sg_112_0 ++ sg_112_14 ++ sg_112_27
/-! 113 LeastFailing.run -/
def sg_113_0 : List En := [(0, .iload_n 1, 1, 1, 0, 0, 0), (1, .ifCond .lt 13, 4, 14, 0, 0, 0), (4, .aload_n 0, 5, 0, 0, 0, 0), (5, .getfield 41, 8, 11, 79, 5, 0), (8, .getfield 142, 11, 9, 0, 1, 0), (11, .ifCond .ne 5, 14, 16, 0, 0, 0)]
def sg_113_14 : List En := [(14, .iconst (-1), 15, 0, 0, 0, 0), (15, .ireturn, 16, 0, 0, 0, 0)]
def sg_113_16 : List En := [(16, .aload_n 0, 17, 0, 0, 0, 0), (17, .getfield 82, 20, 11, 297, 12, 0), (20, .getfield 165, 23, 5, 0, 4, 0), (23, .istore_n 2, 24, 2, 0, 0, 0), (24, .aload_n 0, 25, 0, 0, 0, 0), (25, .getfield 82, 28, 11, 297, 12, 0), (28, .iload_n 1, 29, 1, 0, 0, 0), (29, .putfield 165, 32, 5, 0, 4, 0), (32, .aload_n 0, 33, 0, 0, 0, 0), (33, .getfield 82, 36, 11, 297, 12, 0), (36, .aload_n 0, 37, 0, 0, 0, 0), (37, .getfield 29, 40, 11, 51, 3, 0), (40, .aload_n 0, 41, 0, 0, 0, 0), (41, .getfield 41, 44, 11, 79, 5, 0), (44, .invokevirtual 241, 47, 6, 2, 1, 0), (47, .invokevirtual 253, 50, 44, 2, 1, 5), (50, .istore_n 3, 51, 3, 0, 0, 0), (51, .aload_n 0, 52, 0, 0, 0, 0), (52, .getfield 82, 55, 11, 297, 12, 0), (55, .iload_n 2, 56, 2, 0, 0, 0), (56, .putfield 165, 59, 5, 0, 4, 0), (59, .iload_n 3, 60, 3, 0, 0, 0), (60, .ireturn, 61, 0, 0, 0, 0)]
def pg_113 : List En := sg_113_0 ++ sg_113_14 ++ sg_113_16
/-! 114 LeastFailing.single -/
def sg_114_0 : List En := [(0, .iload_n 1, 1, 1, 0, 0, 0), (1, .iconst (-1), 2, 0, 0, 0, 0), (2, .if_icmp .ne 19, 5, 21, 0, 0, 0), (5, .iload_n 2, 6, 2, 0, 0, 0), (6, .ifCond .ne 13, 9, 19, 0, 0, 0), (9, .aload_n 0, 10, 0, 0, 0, 0), (10, .getfield 91, 13, 11, 301, 13, 0), (13, .invokevirtual 256, 16, 62, 1, 1, 7), (16, .goto 4, 19, 20, 0, 0, 0)]
def sg_114_19 : List En := [(19, .iconst (-1), 20, 0, 0, 0, 0)]
def sg_114_20 : List En := [(20, .ireturn, 21, 0, 0, 0, 0)]
def sg_114_21 : List En := [(21, .iload_n 2, 22, 2, 0, 0, 0), (22, .ifCond .lt 19, 25, 41, 0, 0, 0), (25, .iload_n 2, 26, 2, 0, 0, 0), (26, .iconst 4, 27, 0, 0, 0, 0), (27, .if_icmp .gt 14, 30, 41, 0, 0, 0), (30, .aload_n 0, 31, 0, 0, 0, 0), (31, .getfield 91, 34, 11, 301, 13, 0), (34, .iload_n 1, 35, 1, 0, 0, 0), (35, .invokevirtual 260, 38, 61, 2, 1, 7), (38, .ifCond .ne 5, 41, 43, 0, 0, 0)]
def sg_114_41 : List En := [(41, .iconst (-1), 42, 0, 0, 0, 0), (42, .ireturn, 43, 0, 0, 0, 0)]
def sg_114_43 : List En := [(43, .iload_n 2, 44, 2, 0, 0, 0), (44, .tableswitch 67 0 2 #[28, 36, 44], 72, 0, 0, 0, 0)]
def sg_114_72 : List En := [(72, .aload_n 0, 73, 0, 0, 0, 0), (73, .getfield 91, 76, 11, 301, 13, 0), (76, .getfield 263, 79, 7, 0, 1, 0), (79, .ireturn, 80, 0, 0, 0, 0)]
def sg_114_80 : List En := [(80, .aload_n 0, 81, 0, 0, 0, 0), (81, .getfield 91, 84, 11, 301, 13, 0), (84, .getfield 266, 87, 7, 0, 2, 0), (87, .ireturn, 88, 0, 0, 0, 0)]
def sg_114_88 : List En := [(88, .aload_n 0, 89, 0, 0, 0, 0), (89, .getfield 91, 92, 11, 301, 13, 0), (92, .getfield 266, 95, 7, 0, 2, 0), (95, .iconst 2, 96, 0, 0, 0, 0), (96, .if_icmp .ne 13, 99, 109, 0, 0, 0), (99, .aload_n 0, 100, 0, 0, 0, 0), (100, .getfield 91, 103, 11, 301, 13, 0), (103, .getfield 269, 106, 7, 0, 3, 0), (106, .goto 4, 109, 110, 0, 0, 0)]
def sg_114_109 : List En := [(109, .iconst (-1), 110, 0, 0, 0, 0)]
def sg_114_110 : List En := [(110, .ireturn, 111, 0, 0, 0, 0)]
def sg_114_111 : List En := [(111, .aload_n 0, 112, 0, 0, 0, 0), (112, .invokevirtual 272, 115, 132, 1, 0, 11), (115, .iload_n 2, 116, 2, 0, 0, 0), (116, .iconst 3, 117, 0, 0, 0, 0), (117, .if_icmp .ne 13, 120, 130, 0, 0, 0), (120, .aload_n 0, 121, 0, 0, 0, 0), (121, .getfield 45, 124, 11, 95, 6, 0), (124, .getfield 142, 127, 9, 0, 1, 0), (127, .goto 14, 130, 141, 0, 0, 0)]
def sg_114_130 : List En := [(130, .aload_n 0, 131, 0, 0, 0, 0), (131, .getfield 29, 134, 11, 51, 3, 0), (134, .aload_n 0, 135, 0, 0, 0, 0), (135, .getfield 45, 138, 11, 95, 6, 0), (138, .invokevirtual 241, 141, 6, 2, 1, 0)]
def sg_114_141 : List En := [(141, .ireturn, 142, 0, 0, 0, 0)]
def pg_114 : List En := sg_114_0 ++ sg_114_19 ++ sg_114_20 ++ sg_114_21 ++ sg_114_41 ++ sg_114_43 ++ sg_114_72 ++ sg_114_80 ++ sg_114_88 ++ sg_114_109 ++ sg_114_110 ++ sg_114_111 ++ sg_114_130 ++ sg_114_141
/-! 115 LeastFailing.tries -/
def sg_115_0 : List En := [(0, .aload_n 0, 1, 0, 0, 0, 0), (1, .getfield 91, 4, 11, 301, 13, 0), (4, .iload_n 1, 5, 1, 0, 0, 0), (5, .invokevirtual 260, 8, 61, 2, 1, 7), (8, .ifCond .ne 6, 11, 14, 0, 0, 0), (11, .bipush (-2), 13, 0, 0, 0, 0), (13, .ireturn, 14, 0, 0, 0, 0)]
def sg_115_14 : List En := [(14, .aload_n 0, 15, 0, 0, 0, 0), (15, .invokevirtual 275, 18, 133, 1, 1, 11), (18, .ireturn, 19, 0, 0, 0, 0)]
def pg_115 : List En := sg_115_0 ++ sg_115_14
/-! 116 LeastFailing.change -/
def sg_116_0 : List En := [(0, .aload_n 0, 1, 0, 0, 0, 0), (1, .getfield 91, 4, 11, 301, 13, 0), (4, .iload_n 1, 5, 1, 0, 0, 0), (5, .invokevirtual 260, 8, 61, 2, 1, 7), (8, .ifCond .ne 6, 11, 14, 0, 0, 0), (11, .bipush (-2), 13, 0, 0, 0, 0), (13, .ireturn, 14, 0, 0, 0, 0)]
def sg_116_14 : List En := [(14, .aload_n 0, 15, 0, 0, 0, 0), (15, .invokevirtual 272, 18, 132, 1, 0, 11), (18, .aload_n 0, 19, 0, 0, 0, 0), (19, .invokevirtual 137, 22, 131, 1, 0, 11), (22, .aload_n 0, 23, 0, 0, 0, 0), (23, .getfield 41, 26, 11, 79, 5, 0), (26, .aload_n 0, 27, 0, 0, 0, 0), (27, .getfield 45, 30, 11, 95, 6, 0), (30, .invokevirtual 140, 33, 80, 2, 0, 9), (33, .aload_n 0, 34, 0, 0, 0, 0), (34, .getfield 41, 37, 11, 79, 5, 0), (37, .getfield 142, 40, 9, 0, 1, 0), (40, .ireturn, 41, 0, 0, 0, 0)]
def pg_116 : List En := sg_116_0 ++ sg_116_14
/-! 117 LeastFailing.more -/
def sg_117_0 : List En := [(0, .aload_n 0, 1, 0, 0, 0, 0), (1, .getfield 41, 4, 11, 79, 5, 0), (4, .getfield 142, 7, 9, 0, 1, 0), (7, .ifCond .ne 6, 10, 13, 0, 0, 0), (10, .bipush (-3), 12, 0, 0, 0, 0), (12, .ireturn, 13, 0, 0, 0, 0)]
def sg_117_13 : List En := [(13, .aload_n 0, 14, 0, 0, 0, 0), (14, .getfield 82, 17, 11, 297, 12, 0), (17, .aload_n 0, 18, 0, 0, 0, 0), (18, .getfield 41, 21, 11, 79, 5, 0), (21, .iconst 0, 22, 0, 0, 0, 0), (22, .iconst (-1), 23, 0, 0, 0, 0), (23, .invokevirtual 249, 26, 42, 4, 1, 5), (26, .istore_n 1, 27, 1, 0, 0, 0), (27, .iload_n 1, 28, 1, 0, 0, 0), (28, .iconst (-1), 29, 0, 0, 0, 0), (29, .if_icmp .ne 6, 32, 35, 0, 0, 0), (32, .bipush (-3), 34, 0, 0, 0, 0), (34, .ireturn, 35, 0, 0, 0, 0)]
def sg_117_35 : List En := [(35, .aload_n 0, 36, 0, 0, 0, 0), (36, .getfield 91, 39, 11, 301, 13, 0), (39, .invokevirtual 278, 42, 58, 1, 0, 7), (42, .iconst 0, 43, 0, 0, 0, 0), (43, .istore_n 2, 44, 2, 0, 0, 0)]
def sg_117_44 : List En := [(44, .iload_n 2, 45, 2, 0, 0, 0), (45, .ldc_w 281, 48, 0, 0, 100000, 0), (48, .if_icmp .ge 29, 51, 77, 0, 0, 0), (51, .aload_n 0, 52, 0, 0, 0, 0), (52, .getfield 91, 55, 11, 301, 13, 0), (55, .invokevirtual 282, 58, 60, 1, 1, 7), (58, .ifCond .eq 19, 61, 77, 0, 0, 0), (61, .aload_n 0, 62, 0, 0, 0, 0), (62, .invokevirtual 275, 65, 133, 1, 1, 11), (65, .iload_n 1, 66, 1, 0, 0, 0), (66, .if_icmp .ne 5, 69, 71, 0, 0, 0), (69, .iload_n 2, 70, 2, 0, 0, 0), (70, .ireturn, 71, 0, 0, 0, 0)]
def sg_117_71 : List En := [(71, .iinc 2 1, 74, 2, 0, 1, 0), (74, .goto (-30), 77, 44, 0, 0, 0)]
def sg_117_77 : List En := [(77, .iconst (-1), 78, 0, 0, 0, 0), (78, .ireturn, 79, 0, 0, 0, 0)]
def pg_117 : List En := sg_117_0 ++ sg_117_13 ++ sg_117_35 ++ sg_117_44 ++ sg_117_71 ++ sg_117_77
/-! 118 LeastFailing.apart -/
def sg_118_0 : List En := [(0, .aload_n 0, 1, 0, 0, 0, 0), (1, .iload_n 1, 2, 1, 0, 0, 0), (2, .invokevirtual 285, 5, 128, 2, 1, 11), (5, .ifCond .eq 16, 8, 21, 0, 0, 0), (8, .aload_n 0, 9, 0, 0, 0, 0), (9, .iload_n 2, 10, 2, 0, 0, 0), (10, .invokevirtual 285, 13, 128, 2, 1, 11), (13, .ifCond .eq 8, 16, 21, 0, 0, 0), (16, .iload_n 1, 17, 1, 0, 0, 0), (17, .iload_n 2, 18, 2, 0, 0, 0), (18, .if_icmp .ne 6, 21, 24, 0, 0, 0)]
def sg_118_21 : List En := [(21, .bipush (-2), 23, 0, 0, 0, 0), (23, .ireturn, 24, 0, 0, 0, 0)]
def sg_118_24 : List En := [(24, .aload_n 0, 25, 0, 0, 0, 0), (25, .getfield 41, 28, 11, 79, 5, 0), (28, .getfield 142, 31, 9, 0, 1, 0), (31, .ifCond .ne 6, 34, 37, 0, 0, 0), (34, .bipush (-3), 36, 0, 0, 0, 0), (36, .ireturn, 37, 0, 0, 0, 0)]
def sg_118_37 : List En := [(37, .aload_n 0, 38, 0, 0, 0, 0), (38, .getfield 91, 41, 11, 301, 13, 0), (41, .invokevirtual 278, 44, 58, 1, 0, 7), (44, .iconst 0, 45, 0, 0, 0, 0), (45, .istore_n 3, 46, 3, 0, 0, 0)]
def sg_118_46 : List En := [(46, .iload_n 3, 47, 3, 0, 0, 0), (47, .ldc_w 281, 50, 0, 0, 100000, 0), (50, .if_icmp .ge 57, 53, 107, 0, 0, 0), (53, .aload_n 0, 54, 0, 0, 0, 0), (54, .getfield 91, 57, 11, 301, 13, 0), (57, .invokevirtual 282, 60, 60, 1, 1, 7), (60, .ifCond .eq 47, 63, 107, 0, 0, 0), (63, .aload_n 0, 64, 0, 0, 0, 0), (64, .invokevirtual 272, 67, 132, 1, 0, 11), (67, .aload_n 0, 68, 0, 0, 0, 0), (68, .getfield 29, 71, 11, 51, 3, 0), (71, .aload_n 0, 72, 0, 0, 0, 0), (72, .getfield 45, 75, 11, 95, 6, 0), (75, .invokevirtual 241, 78, 6, 2, 1, 0), (78, .istore 4, 80, 4, 0, 0, 0), (80, .iload 4, 82, 4, 0, 0, 0), (82, .iload_n 1, 83, 1, 0, 0, 0), (83, .ishr, 84, 0, 0, 0, 0), (84, .iconst 1, 85, 0, 0, 0, 0), (85, .iand, 86, 0, 0, 0, 0), (86, .iconst 1, 87, 0, 0, 0, 0), (87, .if_icmp .ne 14, 90, 101, 0, 0, 0), (90, .iload 4, 92, 4, 0, 0, 0), (92, .iload_n 2, 93, 2, 0, 0, 0), (93, .ishr, 94, 0, 0, 0, 0), (94, .iconst 1, 95, 0, 0, 0, 0), (95, .iand, 96, 0, 0, 0, 0), (96, .ifCond .ne 5, 99, 101, 0, 0, 0), (99, .iload_n 3, 100, 3, 0, 0, 0), (100, .ireturn, 101, 0, 0, 0, 0)]
def sg_118_101 : List En := [(101, .iinc 3 1, 104, 3, 0, 1, 0), (104, .goto (-58), 107, 46, 0, 0, 0)]
def sg_118_107 : List En := [(107, .iconst (-1), 108, 0, 0, 0, 0), (108, .ireturn, 109, 0, 0, 0, 0)]
def pg_118 : List En := sg_118_0 ++ sg_118_21 ++ sg_118_24 ++ sg_118_37 ++ sg_118_46 ++ sg_118_101 ++ sg_118_107
/-! 119 LeastFailing.reduce -/
def sg_119_0 : List En := [(0, .aload_n 0, 1, 0, 0, 0, 0), (1, .iload_n 1, 2, 1, 0, 0, 0), (2, .invokevirtual 285, 5, 128, 2, 1, 11), (5, .ifCond .eq 12, 8, 17, 0, 0, 0), (8, .iload_n 2, 9, 2, 0, 0, 0), (9, .ifCond .lt 8, 12, 17, 0, 0, 0), (12, .iload_n 2, 13, 2, 0, 0, 0), (13, .iconst 3, 14, 0, 0, 0, 0), (14, .if_icmp .le 6, 17, 20, 0, 0, 0)]
def sg_119_17 : List En := [(17, .bipush (-2), 19, 0, 0, 0, 0), (19, .ireturn, 20, 0, 0, 0, 0)]
def sg_119_20 : List En := [(20, .aload_n 0, 21, 0, 0, 0, 0), (21, .getfield 41, 24, 11, 79, 5, 0), (24, .getfield 142, 27, 9, 0, 1, 0), (27, .ifCond .eq 20, 30, 47, 0, 0, 0), (30, .aload_n 0, 31, 0, 0, 0, 0), (31, .getfield 82, 34, 11, 297, 12, 0), (34, .aload_n 0, 35, 0, 0, 0, 0), (35, .getfield 41, 38, 11, 79, 5, 0), (38, .iconst 0, 39, 0, 0, 0, 0), (39, .iconst (-1), 40, 0, 0, 0, 0), (40, .invokevirtual 249, 43, 42, 4, 1, 5), (43, .iload_n 1, 44, 1, 0, 0, 0), (44, .if_icmp .eq 6, 47, 50, 0, 0, 0)]
def sg_119_47 : List En := [(47, .bipush (-3), 49, 0, 0, 0, 0), (49, .ireturn, 50, 0, 0, 0, 0)]
def sg_119_50 : List En := [(50, .aload_n 0, 51, 0, 0, 0, 0), (51, .invokevirtual 137, 54, 131, 1, 0, 11), (54, .aload_n 0, 55, 0, 0, 0, 0), (55, .getfield 100, 58, 11, 303, 14, 0), (58, .iload_n 1, 59, 1, 0, 0, 0), (59, .invokevirtual 288, 62, 46, 2, 0, 6), (62, .iconst 0, 63, 0, 0, 0, 0), (63, .istore_n 3, 64, 3, 0, 0, 0)]
def sg_119_64 : List En := [(64, .iload_n 3, 65, 3, 0, 0, 0), (65, .ldc_w 281, 68, 0, 0, 100000, 0), (68, .if_icmp .ge 88, 71, 156, 0, 0, 0), (71, .aload_n 0, 72, 0, 0, 0, 0), (72, .getfield 100, 75, 11, 303, 14, 0), (75, .getfield 290, 78, 6, 0, 4, 0), (78, .istore 4, 80, 4, 0, 0, 0), (80, .iload_n 2, 81, 2, 0, 0, 0), (81, .ifCond .eq 8, 84, 89, 0, 0, 0), (84, .iload_n 2, 85, 2, 0, 0, 0), (85, .iconst 3, 86, 0, 0, 0, 0), (86, .if_icmp .ne 10, 89, 96, 0, 0, 0)]
def sg_119_89 : List En := [(89, .aload_n 0, 90, 0, 0, 0, 0), (90, .getfield 100, 93, 11, 303, 14, 0), (93, .invokevirtual 293, 96, 47, 1, 0, 6)]
def sg_119_96 : List En := [(96, .iload_n 2, 97, 2, 0, 0, 0), (97, .iconst 1, 98, 0, 0, 0, 0), (98, .if_icmp .eq 8, 101, 106, 0, 0, 0), (101, .iload_n 2, 102, 2, 0, 0, 0), (102, .iconst 3, 103, 0, 0, 0, 0), (103, .if_icmp .ne 10, 106, 113, 0, 0, 0)]
def sg_119_106 : List En := [(106, .aload_n 0, 107, 0, 0, 0, 0), (107, .getfield 100, 110, 11, 303, 14, 0), (110, .invokevirtual 296, 113, 48, 1, 0, 6)]
def sg_119_113 : List En := [(113, .iload_n 2, 114, 2, 0, 0, 0), (114, .iconst 2, 115, 0, 0, 0, 0), (115, .if_icmp .eq 8, 118, 123, 0, 0, 0), (118, .iload_n 2, 119, 2, 0, 0, 0), (119, .iconst 3, 120, 0, 0, 0, 0), (120, .if_icmp .ne 10, 123, 130, 0, 0, 0)]
def sg_119_123 : List En := [(123, .aload_n 0, 124, 0, 0, 0, 0), (124, .getfield 100, 127, 11, 303, 14, 0), (127, .invokevirtual 299, 130, 49, 1, 0, 6)]
def sg_119_130 : List En := [(130, .iload_n 2, 131, 2, 0, 0, 0), (131, .iconst 3, 132, 0, 0, 0, 0), (132, .if_icmp .ne 24, 135, 156, 0, 0, 0), (135, .aload_n 0, 136, 0, 0, 0, 0), (136, .getfield 100, 139, 11, 303, 14, 0), (139, .getfield 290, 142, 6, 0, 4, 0), (142, .iload 4, 144, 4, 0, 0, 0), (144, .if_icmp .ne 6, 147, 150, 0, 0, 0), (147, .goto 9, 150, 156, 0, 0, 0)]
def sg_119_150 : List En := [(150, .iinc 3 1, 153, 3, 0, 1, 0), (153, .goto (-89), 156, 64, 0, 0, 0)]
def sg_119_156 : List En := [(156, .aload_n 0, 157, 0, 0, 0, 0), (157, .getfield 100, 160, 11, 303, 14, 0), (160, .getfield 290, 163, 6, 0, 4, 0), (163, .ireturn, 164, 0, 0, 0, 0)]
def pg_119 : List En := sg_119_0 ++ sg_119_17 ++ sg_119_20 ++ sg_119_47 ++ sg_119_50 ++ sg_119_64 ++ sg_119_89 ++ sg_119_96 ++ sg_119_106 ++ sg_119_113 ++ sg_119_123 ++ sg_119_130 ++ sg_119_150 ++ sg_119_156
/-! 120 LeastFailing.row -/
def sg_120_0 : List En := [(0, .aload_n 0, 1, 0, 0, 0, 0), (1, .getfield 41, 4, 11, 79, 5, 0), (4, .getfield 142, 7, 9, 0, 1, 0), (7, .ifCond .eq 8, 10, 15, 0, 0, 0), (10, .iload_n 1, 11, 1, 0, 0, 0), (11, .iconst 1, 12, 0, 0, 0, 0), (12, .if_icmp .ge 5, 15, 17, 0, 0, 0)]
def sg_120_15 : List En := [(15, .iconst (-1), 16, 0, 0, 0, 0), (16, .ireturn, 17, 0, 0, 0, 0)]
def sg_120_17 : List En := [(17, .iconst 0, 18, 0, 0, 0, 0), (18, .istore_n 3, 19, 3, 0, 0, 0), (19, .iconst 0, 20, 0, 0, 0, 0), (20, .istore 4, 22, 4, 0, 0, 0)]
def sg_120_22 : List En := [(22, .iload 4, 24, 4, 0, 0, 0), (24, .aload_n 0, 25, 0, 0, 0, 0), (25, .getfield 41, 28, 11, 79, 5, 0), (28, .getfield 142, 31, 9, 0, 1, 0), (31, .if_icmp .ge 33, 34, 64, 0, 0, 0), (34, .aload_n 0, 35, 0, 0, 0, 0), (35, .getfield 41, 38, 11, 79, 5, 0), (38, .iload 4, 40, 4, 0, 0, 0), (40, .iload_n 1, 41, 1, 0, 0, 0), (41, .invokevirtual 302, 44, 88, 3, 1, 9), (44, .ifCond .eq 14, 47, 58, 0, 0, 0), (47, .iload_n 3, 48, 3, 0, 0, 0), (48, .iload_n 2, 49, 2, 0, 0, 0), (49, .if_icmp .ne 6, 52, 55, 0, 0, 0), (52, .iload 4, 54, 4, 0, 0, 0), (54, .ireturn, 55, 0, 0, 0, 0)]
def sg_120_55 : List En := [(55, .iinc 3 1, 58, 3, 0, 1, 0)]
def sg_120_58 : List En := [(58, .iinc 4 1, 61, 4, 0, 1, 0), (61, .goto (-39), 64, 22, 0, 0, 0)]
def sg_120_64 : List En := [(64, .iload_n 2, 65, 2, 0, 0, 0), (65, .iconst (-1), 66, 0, 0, 0, 0), (66, .if_icmp .ne 7, 69, 73, 0, 0, 0), (69, .iload_n 3, 70, 3, 0, 0, 0), (70, .goto 4, 73, 74, 0, 0, 0)]
def sg_120_73 : List En := [(73, .iconst (-1), 74, 0, 0, 0, 0)]
def sg_120_74 : List En := [(74, .ireturn, 75, 0, 0, 0, 0)]
def pg_120 : List En := sg_120_0 ++ sg_120_15 ++ sg_120_17 ++ sg_120_22 ++ sg_120_55 ++ sg_120_58 ++ sg_120_64 ++ sg_120_73 ++ sg_120_74
/-! 121 LeastFailing.part -/
def sg_121_0 : List En := [(0, .iload_n 1, 1, 1, 0, 0, 0), (1, .iconst 1, 2, 0, 0, 0, 0), (2, .if_icmp .lt 28, 5, 30, 0, 0, 0), (5, .iload_n 1, 6, 1, 0, 0, 0), (6, .bipush 80, 8, 0, 0, 0, 0), (8, .if_icmp .gt 22, 11, 30, 0, 0, 0), (11, .iload_n 2, 12, 2, 0, 0, 0), (12, .iconst 1, 13, 0, 0, 0, 0), (13, .if_icmp .lt 17, 16, 30, 0, 0, 0), (16, .iload_n 2, 17, 2, 0, 0, 0), (17, .iload_n 1, 18, 1, 0, 0, 0), (18, .if_icmp .gt 12, 21, 30, 0, 0, 0), (21, .iload_n 3, 22, 3, 0, 0, 0), (22, .ifCond .lt 8, 25, 30, 0, 0, 0), (25, .iload_n 3, 26, 3, 0, 0, 0), (26, .iload_n 2, 27, 2, 0, 0, 0), (27, .if_icmp .lt 5, 30, 32, 0, 0, 0)]
def sg_121_30 : List En := [(30, .iconst (-1), 31, 0, 0, 0, 0), (31, .ireturn, 32, 0, 0, 0, 0)]
def sg_121_32 : List En := [(32, .iload_n 1, 33, 1, 0, 0, 0), (33, .iload_n 2, 34, 2, 0, 0, 0), (34, .iload_n 3, 35, 3, 0, 0, 0), (35, .invokestatic 306, 38, 45, 3, 1, 0), (38, .istore 5, 40, 5, 0, 0, 0), (40, .iload 4, 42, 4, 0, 0, 0), (42, .ifCond .ne 6, 45, 48, 0, 0, 0), (45, .iload 5, 47, 5, 0, 0, 0), (47, .ireturn, 48, 0, 0, 0, 0)]
def sg_121_48 : List En := [(48, .iload 4, 50, 4, 0, 0, 0), (50, .iconst 1, 51, 0, 0, 0, 0), (51, .if_icmp .ne 17, 54, 68, 0, 0, 0), (54, .iload_n 1, 55, 1, 0, 0, 0), (55, .iload_n 2, 56, 2, 0, 0, 0), (56, .iload_n 3, 57, 3, 0, 0, 0), (57, .iconst 1, 58, 0, 0, 0, 0), (58, .iadd, 59, 0, 0, 0, 0), (59, .invokestatic 306, 62, 45, 3, 1, 0), (62, .iload 5, 64, 5, 0, 0, 0), (64, .isub, 65, 0, 0, 0, 0), (65, .goto 4, 68, 69, 0, 0, 0)]
def sg_121_68 : List En := [(68, .iconst (-1), 69, 0, 0, 0, 0)]
def sg_121_69 : List En := [(69, .ireturn, 70, 0, 0, 0, 0)]
def pg_121 : List En := sg_121_0 ++ sg_121_30 ++ sg_121_32 ++ sg_121_48 ++ sg_121_68 ++ sg_121_69
/-! 122 LeastFailing.tried -/
def sg_122_0 : List En := [(0, .iload_n 1, 1, 1, 0, 0, 0), (1, .iconst (-1), 2, 0, 0, 0, 0), (2, .if_icmp .eq 14, 5, 16, 0, 0, 0), (5, .aload_n 0, 6, 0, 0, 0, 0), (6, .iload_n 1, 7, 1, 0, 0, 0), (7, .invokevirtual 285, 10, 128, 2, 1, 11), (10, .ifCond .ne 6, 13, 16, 0, 0, 0), (13, .bipush (-2), 15, 0, 0, 0, 0), (15, .ireturn, 16, 0, 0, 0, 0)]
def sg_122_16 : List En := [(16, .iconst 0, 17, 0, 0, 0, 0), (17, .istore_n 2, 18, 2, 0, 0, 0), (18, .iconst 0, 19, 0, 0, 0, 0), (19, .istore_n 3, 20, 3, 0, 0, 0)]
def sg_122_20 : List En := [(20, .iload_n 3, 21, 3, 0, 0, 0), (21, .aload_n 0, 22, 0, 0, 0, 0), (22, .getfield 73, 25, 11, 279, 11, 0), (25, .getfield 171, 28, 10, 0, 0, 0), (28, .if_icmp .ge 25, 31, 53, 0, 0, 0), (31, .aload_n 0, 32, 0, 0, 0, 0), (32, .getfield 73, 35, 11, 279, 11, 0), (35, .getfield 309, 38, 10, 6, 2, 0), (38, .iload_n 3, 39, 3, 0, 0, 0), (39, .iaload, 40, 0, 0, 0, 0), (40, .iload_n 1, 41, 1, 0, 0, 0), (41, .if_icmp .ne 6, 44, 47, 0, 0, 0), (44, .iinc 2 1, 47, 2, 0, 1, 0)]
def sg_122_47 : List En := [(47, .iinc 3 1, 50, 3, 0, 1, 0), (50, .goto (-30), 53, 20, 0, 0, 0)]
def sg_122_53 : List En := [(53, .iload_n 2, 54, 2, 0, 0, 0), (54, .ireturn, 55, 0, 0, 0, 0)]
def pg_122 : List En := sg_122_0 ++ sg_122_16 ++ sg_122_20 ++ sg_122_47 ++ sg_122_53
/-! 123 LeastFailing.trace -/
def sg_123_0 : List En := [(0, .iload_n 1, 1, 1, 0, 0, 0), (1, .ifCond .lt 14, 4, 15, 0, 0, 0), (4, .iload_n 1, 5, 1, 0, 0, 0), (5, .aload_n 0, 6, 0, 0, 0, 0), (6, .getfield 73, 9, 11, 279, 11, 0), (9, .getfield 171, 12, 10, 0, 0, 0), (12, .if_icmp .lt 6, 15, 18, 0, 0, 0)]
def sg_123_15 : List En := [(15, .bipush (-2), 17, 0, 0, 0, 0), (17, .ireturn, 18, 0, 0, 0, 0)]
def sg_123_18 : List En := [(18, .iload_n 2, 19, 2, 0, 0, 0), (19, .tableswitch 69 0 3 #[29, 39, 49, 59], 48, 0, 0, 0, 0)]
def sg_123_48 : List En := [(48, .aload_n 0, 49, 0, 0, 0, 0), (49, .getfield 73, 52, 11, 279, 11, 0), (52, .getfield 312, 55, 10, 4, 1, 0), (55, .iload_n 1, 56, 1, 0, 0, 0), (56, .iaload, 57, 0, 0, 0, 0), (57, .ireturn, 58, 0, 0, 0, 0)]
def sg_123_58 : List En := [(58, .aload_n 0, 59, 0, 0, 0, 0), (59, .getfield 73, 62, 11, 279, 11, 0), (62, .getfield 309, 65, 10, 6, 2, 0), (65, .iload_n 1, 66, 1, 0, 0, 0), (66, .iaload, 67, 0, 0, 0, 0), (67, .ireturn, 68, 0, 0, 0, 0)]
def sg_123_68 : List En := [(68, .aload_n 0, 69, 0, 0, 0, 0), (69, .getfield 73, 72, 11, 279, 11, 0), (72, .getfield 313, 75, 10, 8, 3, 0), (75, .iload_n 1, 76, 1, 0, 0, 0), (76, .iaload, 77, 0, 0, 0, 0), (77, .ireturn, 78, 0, 0, 0, 0)]
def sg_123_78 : List En := [(78, .aload_n 0, 79, 0, 0, 0, 0), (79, .getfield 73, 82, 11, 279, 11, 0), (82, .getfield 316, 85, 10, 10, 4, 0), (85, .iload_n 1, 86, 1, 0, 0, 0), (86, .iaload, 87, 0, 0, 0, 0), (87, .ireturn, 88, 0, 0, 0, 0)]
def sg_123_88 : List En := [(88, .bipush (-2), 90, 0, 0, 0, 0), (90, .ireturn, 91, 0, 0, 0, 0)]
def pg_123 : List En := sg_123_0 ++ sg_123_15 ++ sg_123_18 ++ sg_123_48 ++ sg_123_58 ++ sg_123_68 ++ sg_123_78 ++ sg_123_88
/-! 124 LeastFailing.sure -/
def sg_124_0 : List En := [(0, .iload_n 1, 1, 1, 0, 0, 0), (1, .invokestatic 319, 4, 130, 1, 1, 0), (4, .ifCond .eq 18, 7, 22, 0, 0, 0), (7, .iload_n 2, 8, 2, 0, 0, 0), (8, .invokestatic 158, 11, 129, 1, 1, 0), (11, .ifCond .eq 11, 14, 22, 0, 0, 0), (14, .iload_n 1, 15, 1, 0, 0, 0), (15, .iload_n 2, 16, 2, 0, 0, 0), (16, .invokestatic 322, 19, 134, 2, 1, 0), (19, .goto 5, 22, 24, 0, 0, 0)]
def sg_124_22 : List En := [(22, .bipush (-2), 24, 0, 0, 0, 0)]
def sg_124_24 : List En := [(24, .ireturn, 25, 0, 0, 0, 0)]
def pg_124 : List En := sg_124_0 ++ sg_124_22 ++ sg_124_24
/-! 125 LeastFailing.enough -/
def sg_125_0 : List En := [(0, .iload_n 1, 1, 1, 0, 0, 0), (1, .invokestatic 319, 4, 130, 1, 1, 0), (4, .ifCond .eq 14, 7, 18, 0, 0, 0), (7, .iload_n 2, 8, 2, 0, 0, 0), (8, .ifCond .lt 10, 11, 18, 0, 0, 0), (11, .iload_n 2, 12, 2, 0, 0, 0), (12, .ldc_w 325, 15, 0, 0, 1000000, 0), (15, .if_icmp .le 6, 18, 21, 0, 0, 0)]
def sg_125_18 : List En := [(18, .bipush (-2), 20, 0, 0, 0, 0), (20, .ireturn, 21, 0, 0, 0, 0)]
def sg_125_21 : List En := [(21, .iconst 1, 22, 0, 0, 0, 0), (22, .istore_n 3, 23, 3, 0, 0, 0)]
def sg_125_23 : List En := [(23, .iload_n 3, 24, 3, 0, 0, 0), (24, .bipush 9, 26, 0, 0, 0, 0), (26, .if_icmp .gt 20, 29, 46, 0, 0, 0), (29, .iload_n 1, 30, 1, 0, 0, 0), (30, .iload_n 3, 31, 3, 0, 0, 0), (31, .invokestatic 322, 34, 134, 2, 1, 0), (34, .iload_n 2, 35, 2, 0, 0, 0), (35, .if_icmp .lt 5, 38, 40, 0, 0, 0), (38, .iload_n 3, 39, 3, 0, 0, 0), (39, .ireturn, 40, 0, 0, 0, 0)]
def sg_125_40 : List En := [(40, .iinc 3 2, 43, 3, 0, 2, 0), (43, .goto (-20), 46, 23, 0, 0, 0)]
def sg_125_46 : List En := [(46, .iconst (-1), 47, 0, 0, 0, 0), (47, .ireturn, 48, 0, 0, 0, 0)]
def pg_125 : List En := sg_125_0 ++ sg_125_18 ++ sg_125_21 ++ sg_125_23 ++ sg_125_40 ++ sg_125_46
/-! 126 LeastFailing.often -/
def sg_126_0 : List En := [(0, .iload_n 1, 1, 1, 0, 0, 0), (1, .iconst (-1), 2, 0, 0, 0, 0), (2, .if_icmp .eq 11, 5, 13, 0, 0, 0), (5, .aload_n 0, 6, 0, 0, 0, 0), (6, .iload_n 1, 7, 1, 0, 0, 0), (7, .invokevirtual 285, 10, 128, 2, 1, 11), (10, .ifCond .eq 19, 13, 29, 0, 0, 0)]
def sg_126_13 : List En := [(13, .iload_n 2, 14, 2, 0, 0, 0), (14, .ifCond .lt 15, 17, 29, 0, 0, 0), (17, .iload_n 3, 18, 3, 0, 0, 0), (18, .iconst 1, 19, 0, 0, 0, 0), (19, .if_icmp .lt 10, 22, 29, 0, 0, 0), (22, .iload_n 3, 23, 3, 0, 0, 0), (23, .sipush 1000, 26, 0, 0, 0, 0), (26, .if_icmp .le 6, 29, 32, 0, 0, 0)]
def sg_126_29 : List En := [(29, .bipush (-2), 31, 0, 0, 0, 0), (31, .ireturn, 32, 0, 0, 0, 0)]
def sg_126_32 : List En := [(32, .aload_n 0, 33, 0, 0, 0, 0), (33, .getfield 41, 36, 11, 79, 5, 0), (36, .getfield 142, 39, 9, 0, 1, 0), (39, .ifCond .ne 6, 42, 45, 0, 0, 0), (42, .bipush (-3), 44, 0, 0, 0, 0), (44, .ireturn, 45, 0, 0, 0, 0)]
def sg_126_45 : List En := [(45, .aload_n 0, 46, 0, 0, 0, 0), (46, .getfield 29, 49, 11, 51, 3, 0), (49, .aload_n 0, 50, 0, 0, 0, 0), (50, .getfield 41, 53, 11, 79, 5, 0), (53, .invokevirtual 241, 56, 6, 2, 1, 0), (56, .istore 4, 58, 4, 0, 0, 0), (58, .aload_n 0, 59, 0, 0, 0, 0), (59, .getfield 82, 62, 11, 297, 12, 0), (62, .getfield 165, 65, 5, 0, 4, 0), (65, .istore 5, 67, 5, 0, 0, 0), (67, .aload_n 0, 68, 0, 0, 0, 0), (68, .getfield 82, 71, 11, 297, 12, 0), (71, .iload_n 2, 72, 2, 0, 0, 0), (72, .putfield 165, 75, 5, 0, 4, 0), (75, .iconst 0, 76, 0, 0, 0, 0), (76, .istore 6, 78, 6, 0, 0, 0), (78, .iconst 0, 79, 0, 0, 0, 0), (79, .istore 7, 81, 7, 0, 0, 0)]
def sg_126_81 : List En := [(81, .iload 7, 83, 7, 0, 0, 0), (83, .iload_n 3, 84, 3, 0, 0, 0), (84, .if_icmp .ge 25, 87, 109, 0, 0, 0), (87, .aload_n 0, 88, 0, 0, 0, 0), (88, .getfield 82, 91, 11, 297, 12, 0), (91, .iload 4, 93, 4, 0, 0, 0), (93, .invokevirtual 253, 96, 44, 2, 1, 5), (96, .iload_n 1, 97, 1, 0, 0, 0), (97, .if_icmp .ne 6, 100, 103, 0, 0, 0), (100, .iinc 6 1, 103, 6, 0, 1, 0)]
def sg_126_103 : List En := [(103, .iinc 7 1, 106, 7, 0, 1, 0), (106, .goto (-25), 109, 81, 0, 0, 0)]
def sg_126_109 : List En := [(109, .aload_n 0, 110, 0, 0, 0, 0), (110, .getfield 82, 113, 11, 297, 12, 0), (113, .iload 5, 115, 5, 0, 0, 0), (115, .putfield 165, 118, 5, 0, 4, 0), (118, .iload 6, 120, 6, 0, 0, 0), (120, .ireturn, 121, 0, 0, 0, 0)]
def pg_126 : List En := sg_126_0 ++ sg_126_13 ++ sg_126_29 ++ sg_126_32 ++ sg_126_45 ++ sg_126_81 ++ sg_126_103 ++ sg_126_109
/-! 127 LeastFailing.undo -/
def sg_127_0 : List En := [(0, .aload_n 0, 1, 0, 0, 0, 0), (1, .getfield 125, 4, 11, 0, 8, 0), (4, .iconst 1, 5, 0, 0, 0, 0), (5, .if_icmp .ge 6, 8, 11, 0, 0, 0), (8, .bipush (-3), 10, 0, 0, 0, 0), (10, .ireturn, 11, 0, 0, 0, 0)]
def sg_127_11 : List En := [(11, .aload_n 0, 12, 0, 0, 0, 0), (12, .dup, 13, 0, 0, 0, 0), (13, .getfield 125, 16, 11, 0, 8, 0), (16, .iconst 1, 17, 0, 0, 0, 0), (17, .isub, 18, 0, 0, 0, 0), (18, .putfield 125, 21, 11, 0, 8, 0), (21, .aload_n 0, 22, 0, 0, 0, 0), (22, .getfield 41, 25, 11, 79, 5, 0), (25, .aload_n 0, 26, 0, 0, 0, 0), (26, .getfield 48, 29, 11, 4, 7, 0), (29, .aload_n 0, 30, 0, 0, 0, 0), (30, .getfield 125, 33, 11, 0, 8, 0), (33, .aaload, 34, 0, 0, 0, 0), (34, .invokevirtual 140, 37, 80, 2, 0, 9), (37, .aload_n 0, 38, 0, 0, 0, 0), (38, .getfield 73, 41, 11, 279, 11, 0), (41, .invokevirtual 128, 44, 92, 1, 0, 10), (44, .aload_n 0, 45, 0, 0, 0, 0), (45, .getfield 125, 48, 11, 0, 8, 0), (48, .ireturn, 49, 0, 0, 0, 0)]
def pg_127 : List En := sg_127_0 ++ sg_127_11
/-! 128 LeastFailing.isBug -/
def sg_128_0 : List En := [(0, .iload_n 1, 1, 1, 0, 0, 0), (1, .ifCond .lt 18, 4, 19, 0, 0, 0), (4, .iload_n 1, 5, 1, 0, 0, 0), (5, .aload_n 0, 6, 0, 0, 0, 0), (6, .getfield 29, 9, 11, 51, 3, 0), (9, .getfield 149, 12, 0, 0, 0, 0), (12, .if_icmp .ge 7, 15, 19, 0, 0, 0), (15, .iconst 1, 16, 0, 0, 0, 0), (16, .goto 4, 19, 20, 0, 0, 0)]
def sg_128_19 : List En := [(19, .iconst 0, 20, 0, 0, 0, 0)]
def sg_128_20 : List En := [(20, .ireturn, 21, 0, 0, 0, 1)]
def pg_128 : List En := sg_128_0 ++ sg_128_19 ++ sg_128_20
/-! 129 LeastFailing.canVote -/
def sg_129_0 : List En := [(0, .iload_n 0, 1, 0, 0, 0, 0), (1, .iconst 1, 2, 0, 0, 0, 0), (2, .if_icmp .lt 20, 5, 22, 0, 0, 0), (5, .iload_n 0, 6, 0, 0, 0, 0), (6, .bipush 9, 8, 0, 0, 0, 0), (8, .if_icmp .gt 14, 11, 22, 0, 0, 0), (11, .iload_n 0, 12, 0, 0, 0, 0), (12, .iconst 2, 13, 0, 0, 0, 0), (13, .irem, 14, 0, 0, 0, 0), (14, .iconst 1, 15, 0, 0, 0, 0), (15, .if_icmp .ne 7, 18, 22, 0, 0, 0), (18, .iconst 1, 19, 0, 0, 0, 0), (19, .goto 4, 22, 23, 0, 0, 0)]
def sg_129_22 : List En := [(22, .iconst 0, 23, 0, 0, 0, 0)]
def sg_129_23 : List En := [(23, .ireturn, 24, 0, 0, 0, 1)]
def pg_129 : List En := sg_129_0 ++ sg_129_22 ++ sg_129_23
/-! 130 LeastFailing.areOdds -/
def sg_130_0 : List En := [(0, .iload_n 0, 1, 0, 0, 0, 0), (1, .ifCond .lt 13, 4, 14, 0, 0, 0), (4, .iload_n 0, 5, 0, 0, 0, 0), (5, .bipush 100, 7, 0, 0, 0, 0), (7, .if_icmp .gt 7, 10, 14, 0, 0, 0), (10, .iconst 1, 11, 0, 0, 0, 0), (11, .goto 4, 14, 15, 0, 0, 0)]
def sg_130_14 : List En := [(14, .iconst 0, 15, 0, 0, 0, 0)]
def sg_130_15 : List En := [(15, .ireturn, 16, 0, 0, 0, 1)]
def pg_130 : List En := sg_130_0 ++ sg_130_14 ++ sg_130_15
/-! 131 LeastFailing.remember -/
def sg_131_0 : List En := [(0, .aload_n 0, 1, 0, 0, 0, 0), (1, .getfield 125, 4, 11, 0, 8, 0), (4, .bipush 10, 6, 0, 0, 0, 0), (6, .if_icmp .ne 56, 9, 62, 0, 0, 0), (9, .aload_n 0, 10, 0, 0, 0, 0), (10, .getfield 48, 13, 11, 4, 7, 0), (13, .iconst 0, 14, 0, 0, 0, 0), (14, .aaload, 15, 0, 0, 0, 0), (15, .astore_n 1, 16, 1, 0, 0, 0), (16, .iconst 1, 17, 0, 0, 0, 0), (17, .istore_n 2, 18, 2, 0, 0, 0)]
def sg_131_18 : List En := [(18, .iload_n 2, 19, 2, 0, 0, 0), (19, .bipush 10, 21, 0, 0, 0, 0), (21, .if_icmp .ge 23, 24, 44, 0, 0, 0), (24, .aload_n 0, 25, 0, 0, 0, 0), (25, .getfield 48, 28, 11, 4, 7, 0), (28, .iload_n 2, 29, 2, 0, 0, 0), (29, .iconst 1, 30, 0, 0, 0, 0), (30, .isub, 31, 0, 0, 0, 0), (31, .aload_n 0, 32, 0, 0, 0, 0), (32, .getfield 48, 35, 11, 4, 7, 0), (35, .iload_n 2, 36, 2, 0, 0, 0), (36, .aaload, 37, 0, 0, 0, 0), (37, .aastore, 38, 0, 0, 0, 0), (38, .iinc 2 1, 41, 2, 0, 1, 0), (41, .goto (-23), 44, 18, 0, 0, 0)]
def sg_131_44 : List En := [(44, .aload_n 0, 45, 0, 0, 0, 0), (45, .getfield 48, 48, 11, 4, 7, 0), (48, .bipush 9, 50, 0, 0, 0, 0), (50, .aload_n 1, 51, 1, 0, 0, 0), (51, .aastore, 52, 0, 0, 0, 0), (52, .aload_n 0, 53, 0, 0, 0, 0), (53, .dup, 54, 0, 0, 0, 0), (54, .getfield 125, 57, 11, 0, 8, 0), (57, .iconst 1, 58, 0, 0, 0, 0), (58, .isub, 59, 0, 0, 0, 0), (59, .putfield 125, 62, 11, 0, 8, 0)]
def sg_131_62 : List En := [(62, .aload_n 0, 63, 0, 0, 0, 0), (63, .getfield 48, 66, 11, 4, 7, 0), (66, .aload_n 0, 67, 0, 0, 0, 0), (67, .getfield 125, 70, 11, 0, 8, 0), (70, .aaload, 71, 0, 0, 0, 0), (71, .aload_n 0, 72, 0, 0, 0, 0), (72, .getfield 41, 75, 11, 79, 5, 0), (75, .invokevirtual 140, 78, 80, 2, 0, 9), (78, .aload_n 0, 79, 0, 0, 0, 0), (79, .dup, 80, 0, 0, 0, 0), (80, .getfield 125, 83, 11, 0, 8, 0), (83, .iconst 1, 84, 0, 0, 0, 0), (84, .iadd, 85, 0, 0, 0, 0), (85, .putfield 125, 88, 11, 0, 8, 0), (88, .return_, 89, 0, 0, 0, 0)]
def pg_131 : List En := sg_131_0 ++ sg_131_18 ++ sg_131_44 ++ sg_131_62
/-! 132 LeastFailing.makeSingle -/
def sg_132_0 : List En := [(0, .aload_n 0, 1, 0, 0, 0, 0), (1, .getfield 45, 4, 11, 95, 6, 0), (4, .aload_n 0, 5, 0, 0, 0, 0), (5, .getfield 41, 8, 11, 79, 5, 0), (8, .aload_n 0, 9, 0, 0, 0, 0), (9, .getfield 91, 12, 11, 301, 13, 0), (12, .getfield 266, 15, 7, 0, 2, 0), (15, .aload_n 0, 16, 0, 0, 0, 0), (16, .getfield 91, 19, 11, 301, 13, 0), (19, .getfield 263, 22, 7, 0, 1, 0), (22, .aload_n 0, 23, 0, 0, 0, 0), (23, .getfield 91, 26, 11, 301, 13, 0), (26, .getfield 269, 29, 7, 0, 3, 0), (29, .invokevirtual 326, 32, 90, 5, 0, 9), (32, .return_, 33, 0, 0, 0, 0)]
def pg_132 : List En := sg_132_0
/-! 133 LeastFailing.askSingle -/
def sg_133_0 : List En := [(0, .aload_n 0, 1, 0, 0, 0, 0), (1, .invokevirtual 272, 4, 132, 1, 0, 11), (4, .aload_n 0, 5, 0, 0, 0, 0), (5, .getfield 82, 8, 11, 297, 12, 0), (8, .aload_n 0, 9, 0, 0, 0, 0), (9, .getfield 45, 12, 11, 95, 6, 0), (12, .bipush 6, 14, 0, 0, 0, 0), (14, .aload_n 0, 15, 0, 0, 0, 0), (15, .getfield 91, 18, 11, 301, 13, 0), (18, .getfield 263, 21, 7, 0, 1, 0), (21, .invokevirtual 249, 24, 42, 4, 1, 5), (24, .ireturn, 25, 0, 0, 0, 0)]
def pg_133 : List En := sg_133_0
/-! 134 LeastFailing.millionths -/
def sg_134_0 : List En := [(0, .lconst 0, 1, 0, 0, 0, 0), (1, .lstore_n 2, 2, 2, 0, 0, 0), (2, .iload_n 1, 3, 1, 0, 0, 0), (3, .iconst 2, 4, 0, 0, 0, 0), (4, .idiv, 5, 0, 0, 0, 0), (5, .iconst 1, 6, 0, 0, 0, 0), (6, .iadd, 7, 0, 0, 0, 0), (7, .istore 4, 9, 4, 0, 0, 0)]
def sg_134_9 : List En := [(9, .iload 4, 11, 4, 0, 0, 0), (11, .iload_n 1, 12, 1, 0, 0, 0), (12, .if_icmp .gt 37, 15, 49, 0, 0, 0), (15, .lload_n 2, 16, 2, 0, 0, 0), (16, .iload_n 1, 17, 1, 0, 0, 0), (17, .iload 4, 19, 4, 0, 0, 0), (19, .invokestatic 330, 22, 135, 2, 2, 0), (22, .iload_n 0, 23, 0, 0, 0, 0), (23, .iload 4, 25, 4, 0, 0, 0), (25, .invokestatic 334, 28, 136, 2, 2, 0), (28, .lmul, 29, 0, 0, 0, 0), (29, .bipush 100, 31, 0, 0, 0, 0), (31, .iload_n 0, 32, 0, 0, 0, 0), (32, .isub, 33, 0, 0, 0, 0), (33, .iload_n 1, 34, 1, 0, 0, 0), (34, .iload 4, 36, 4, 0, 0, 0), (36, .isub, 37, 0, 0, 0, 0), (37, .invokestatic 334, 40, 136, 2, 2, 0), (40, .lmul, 41, 0, 0, 0, 0), (41, .ladd, 42, 0, 0, 0, 0), (42, .lstore_n 2, 43, 2, 0, 0, 0), (43, .iinc 4 1, 46, 4, 0, 1, 0), (46, .goto (-37), 49, 9, 0, 0, 0)]
def sg_134_49 : List En := [(49, .iload_n 1, 50, 1, 0, 0, 0), (50, .iconst 3, 51, 0, 0, 0, 0), (51, .if_icmp .ge 11, 54, 62, 0, 0, 0), (54, .lload_n 2, 55, 2, 0, 0, 0), (55, .ldc2_w 337, 58, 0, 0, 10000, 0), (58, .lmul, 59, 0, 0, 0, 0), (59, .goto 13, 62, 72, 0, 0, 0)]
def sg_134_62 : List En := [(62, .lload_n 2, 63, 2, 0, 0, 0), (63, .bipush 100, 65, 0, 0, 0, 0), (65, .iload_n 1, 66, 1, 0, 0, 0), (66, .iconst 3, 67, 0, 0, 0, 0), (67, .isub, 68, 0, 0, 0, 0), (68, .invokestatic 334, 71, 136, 2, 2, 0), (71, .ldiv, 72, 0, 0, 0, 0)]
def sg_134_72 : List En := [(72, .l2i, 73, 0, 0, 0, 0), (73, .ireturn, 74, 0, 0, 0, 0)]
def pg_134 : List En := sg_134_0 ++ sg_134_9 ++ sg_134_49 ++ sg_134_62 ++ sg_134_72
/-! 135 LeastFailing.waysOf -/
def sg_135_0 : List En := [(0, .lconst 1, 1, 0, 0, 1, 0), (1, .lstore_n 2, 2, 2, 0, 0, 0), (2, .iconst 0, 3, 0, 0, 0, 0), (3, .istore 4, 5, 4, 0, 0, 0)]
def sg_135_5 : List En := [(5, .iload 4, 7, 4, 0, 0, 0), (7, .iload_n 1, 8, 1, 0, 0, 0), (8, .if_icmp .ge 23, 11, 31, 0, 0, 0), (11, .lload_n 2, 12, 2, 0, 0, 0), (12, .iload_n 0, 13, 0, 0, 0, 0), (13, .iload 4, 15, 4, 0, 0, 0), (15, .isub, 16, 0, 0, 0, 0), (16, .i2l, 17, 0, 0, 0, 0), (17, .lmul, 18, 0, 0, 0, 0), (18, .iload 4, 20, 4, 0, 0, 0), (20, .iconst 1, 21, 0, 0, 0, 0), (21, .iadd, 22, 0, 0, 0, 0), (22, .i2l, 23, 0, 0, 0, 0), (23, .ldiv, 24, 0, 0, 0, 0), (24, .lstore_n 2, 25, 2, 0, 0, 0), (25, .iinc 4 1, 28, 4, 0, 1, 0), (28, .goto (-23), 31, 5, 0, 0, 0)]
def sg_135_31 : List En := [(31, .lload_n 2, 32, 2, 0, 0, 0), (32, .lreturn, 33, 0, 0, 0, 0)]
def pg_135 : List En := sg_135_0 ++ sg_135_5 ++ sg_135_31
/-! 136 LeastFailing.powerOf -/
def sg_136_0 : List En := [(0, .lconst 1, 1, 0, 0, 1, 0), (1, .lstore_n 2, 2, 2, 0, 0, 0), (2, .iconst 0, 3, 0, 0, 0, 0), (3, .istore 4, 5, 4, 0, 0, 0)]
def sg_136_5 : List En := [(5, .iload 4, 7, 4, 0, 0, 0), (7, .iload_n 1, 8, 1, 0, 0, 0), (8, .if_icmp .ge 14, 11, 22, 0, 0, 0), (11, .lload_n 2, 12, 2, 0, 0, 0), (12, .iload_n 0, 13, 0, 0, 0, 0), (13, .i2l, 14, 0, 0, 0, 0), (14, .lmul, 15, 0, 0, 0, 0), (15, .lstore_n 2, 16, 2, 0, 0, 0), (16, .iinc 4 1, 19, 4, 0, 1, 0), (19, .goto (-14), 22, 5, 0, 0, 0)]
def sg_136_22 : List En := [(22, .lload_n 2, 23, 2, 0, 0, 0), (23, .lreturn, 24, 0, 0, 0, 0)]
def pg_136 : List En := sg_136_0 ++ sg_136_5 ++ sg_136_22
/-! 137 LeastFailingModel.isIn -/
def sg_137_0 : List En := [(0, .lload_n 0, 1, 0, 0, 0, 0), (1, .lload_n 2, 2, 2, 0, 0, 0), (2, .lcmp, 3, 0, 0, 0, 0), (3, .ifCond .lt 14, 6, 17, 0, 0, 0), (6, .lload_n 0, 7, 0, 0, 0, 0), (7, .lload 4, 9, 4, 0, 0, 0), (9, .lcmp, 10, 0, 0, 0, 0), (10, .ifCond .gt 7, 13, 17, 0, 0, 0), (13, .iconst 1, 14, 0, 0, 0, 0), (14, .goto 4, 17, 18, 0, 0, 0)]
def sg_137_17 : List En := [(17, .iconst 0, 18, 0, 0, 0, 0)]
def sg_137_18 : List En := [(18, .ireturn, 19, 0, 0, 0, 1)]
def pg_137 : List En := sg_137_0 ++ sg_137_17 ++ sg_137_18
/-! 138 LeastFailingModel.flag -/
def sg_138_0 : List En := [(0, .iload_n 0, 1, 0, 0, 0, 0), (1, .ifCond .eq 7, 4, 8, 0, 0, 0), (4, .iconst 1, 5, 0, 0, 0, 0), (5, .goto 4, 8, 9, 0, 0, 0)]
def sg_138_8 : List En := [(8, .iconst 0, 9, 0, 0, 0, 0)]
def sg_138_9 : List En := [(9, .ireturn, 10, 0, 0, 0, 0)]
def pg_138 : List En := sg_138_0 ++ sg_138_8 ++ sg_138_9
/-! 139 LeastFailingModel.four -/
def sg_139_0 : List En := [(0, .bipush 24, 2, 0, 0, 0, 0), (2, .istore_n 2, 3, 2, 0, 0, 0)]
def sg_139_3 : List En := [(3, .iload_n 2, 4, 2, 0, 0, 0), (4, .ifCond .lt 32, 7, 36, 0, 0, 0), (7, .aload_n 0, 8, 0, 0, 0, 0), (8, .getfield 7, 11, 12, 4, 1, 0), (11, .aload_n 0, 12, 0, 0, 0, 0), (12, .getfield 139, 15, 12, 0, 2, 0), (15, .iload_n 1, 16, 1, 0, 0, 0), (16, .iload_n 2, 17, 2, 0, 0, 0), (17, .ishr, 18, 0, 0, 0, 0), (18, .i2b, 19, 0, 0, 0, 0), (19, .bastore, 20, 0, 0, 0, 0), (20, .aload_n 0, 21, 0, 0, 0, 0), (21, .dup, 22, 0, 0, 0, 0), (22, .getfield 139, 25, 12, 0, 2, 0), (25, .iconst 1, 26, 0, 0, 0, 0), (26, .iadd, 27, 0, 0, 0, 0), (27, .putfield 139, 30, 12, 0, 2, 0), (30, .iinc 2 (-8), 33, 2, 0, -8, 0), (33, .goto (-30), 36, 3, 0, 0, 0)]
def sg_139_36 : List En := [(36, .return_, 37, 0, 0, 0, 0)]
def pg_139 : List En := sg_139_0 ++ sg_139_3 ++ sg_139_36
/-! 140 LeastFailingModel.feed -/
def sg_140_0 : List En := [(0, .aload_n 0, 1, 0, 0, 0, 0), (1, .iconst 0, 2, 0, 0, 0, 0), (2, .putfield 136, 5, 12, 0, 0, 0), (5, .aload_n 0, 6, 0, 0, 0, 0), (6, .getfield 139, 9, 12, 0, 2, 0), (9, .bipush 20, 11, 0, 0, 0, 0), (11, .iadd, 12, 0, 0, 0, 0), (12, .sipush 1000, 15, 0, 0, 0, 0), (15, .if_icmp .le 5, 18, 20, 0, 0, 0), (18, .iconst (-1), 19, 0, 0, 0, 0), (19, .ireturn, 20, 0, 0, 0, 0)]
def sg_140_20 : List En := [(20, .aload_n 0, 21, 0, 0, 0, 0), (21, .iload_n 1, 22, 1, 0, 0, 0), (22, .invokevirtual 142, 25, 139, 2, 0, 12), (25, .aload_n 0, 26, 0, 0, 0, 0), (26, .iload_n 2, 27, 2, 0, 0, 0), (27, .invokevirtual 142, 30, 139, 2, 0, 12), (30, .aload_n 0, 31, 0, 0, 0, 0), (31, .iload_n 3, 32, 3, 0, 0, 0), (32, .invokevirtual 142, 35, 139, 2, 0, 12), (35, .aload_n 0, 36, 0, 0, 0, 0), (36, .iload 4, 38, 4, 0, 0, 0), (38, .invokevirtual 142, 41, 139, 2, 0, 12), (41, .aload_n 0, 42, 0, 0, 0, 0), (42, .iload 5, 44, 5, 0, 0, 0), (44, .invokevirtual 142, 47, 139, 2, 0, 12), (47, .aload_n 0, 48, 0, 0, 0, 0), (48, .getfield 139, 51, 12, 0, 2, 0), (51, .ireturn, 52, 0, 0, 0, 0)]
def pg_140 : List En := sg_140_0 ++ sg_140_20
/-! 141 LeastFailingModel.end -/
def sg_141_0 : List En := [(0, .aload_n 0, 1, 0, 0, 0, 0), (1, .iconst 0, 2, 0, 0, 0, 0), (2, .putfield 136, 5, 12, 0, 0, 0), (5, .iload_n 1, 6, 1, 0, 0, 0), (6, .i2l, 7, 0, 0, 0, 0), (7, .lconst 0, 8, 0, 0, 0, 0), (8, .aload_n 0, 9, 0, 0, 0, 0), (9, .getfield 139, 12, 12, 0, 2, 0), (12, .i2l, 13, 0, 0, 0, 0), (13, .invokestatic 146, 16, 137, 3, 1, 0), (16, .ifCond .ne 5, 19, 21, 0, 0, 0), (19, .iconst 0, 20, 0, 0, 0, 0), (20, .ireturn, 21, 0, 0, 0, 1)]
def sg_141_21 : List En := [(21, .aload_n 0, 22, 0, 0, 0, 0), (22, .iload_n 1, 23, 1, 0, 0, 0), (23, .putfield 139, 26, 12, 0, 2, 0), (26, .iconst 1, 27, 0, 0, 0, 0), (27, .ireturn, 28, 0, 0, 0, 1)]
def pg_141 : List En := sg_141_0 ++ sg_141_21
/-! 142 LeastFailingModel.begins -/
def sg_142_0 : List En := [(0, .aload_n 0, 1, 0, 0, 0, 0), (1, .aload_n 0, 2, 0, 0, 0, 0), (2, .getfield 139, 5, 12, 0, 2, 0), (5, .putfield 150, 8, 12, 0, 3, 0), (8, .aload_n 0, 9, 0, 0, 0, 0), (9, .iconst 0, 10, 0, 0, 0, 0), (10, .putfield 139, 13, 12, 0, 2, 0), (13, .aload_n 0, 14, 0, 0, 0, 0), (14, .iconst 0, 15, 0, 0, 0, 0), (15, .putfield 153, 18, 12, 0, 4, 0), (18, .aload_n 0, 19, 0, 0, 0, 0), (19, .iconst (-1), 20, 0, 0, 0, 0), (20, .putfield 156, 23, 12, 0, 5, 0), (23, .aload_n 0, 24, 0, 0, 0, 0), (24, .iconst 0, 25, 0, 0, 0, 0), (25, .putfield 159, 28, 12, 0, 6, 0), (28, .aload_n 0, 29, 0, 0, 0, 0), (29, .iconst (-1), 30, 0, 0, 0, 0), (30, .putfield 162, 33, 12, 0, 7, 0), (33, .return_, 34, 0, 0, 0, 0)]
def pg_142 : List En := sg_142_0
/-! 143 LeastFailingModel.isFine -/
def sg_143_0 : List En := [(0, .aload_n 0, 1, 0, 0, 0, 0), (1, .getfield 159, 4, 12, 0, 6, 0), (4, .ifCond .ne 7, 7, 11, 0, 0, 0), (7, .iconst 1, 8, 0, 0, 0, 0), (8, .goto 4, 11, 12, 0, 0, 0)]
def sg_143_11 : List En := [(11, .iconst 0, 12, 0, 0, 0, 0)]
def sg_143_12 : List En := [(12, .ireturn, 13, 0, 0, 0, 1)]
def pg_143 : List En := sg_143_0 ++ sg_143_11 ++ sg_143_12
/-! 144 LeastFailingModel.fail -/
def sg_144_0 : List En := [(0, .aload_n 0, 1, 0, 0, 0, 0), (1, .getfield 159, 4, 12, 0, 6, 0), (4, .ifCond .eq 4, 7, 8, 0, 0, 0), (7, .return_, 8, 0, 0, 0, 0)]
def sg_144_8 : List En := [(8, .aload_n 0, 9, 0, 0, 0, 0), (9, .iload_n 1, 10, 1, 0, 0, 0), (10, .putfield 159, 13, 12, 0, 6, 0), (13, .aload_n 0, 14, 0, 0, 0, 0), (14, .iload_n 2, 15, 2, 0, 0, 0), (15, .putfield 162, 18, 12, 0, 7, 0), (18, .return_, 19, 0, 0, 0, 0)]
def pg_144 : List En := sg_144_0 ++ sg_144_8
/-! 145 LeastFailingModel.isRead -/
def sg_145_0 : List En := [(0, .aload_n 0, 1, 0, 0, 0, 0), (1, .aload_n 0, 2, 0, 0, 0, 0), (2, .getfield 159, 5, 12, 0, 6, 0), (5, .putfield 165, 8, 12, 0, 8, 0), (8, .aload_n 0, 9, 0, 0, 0, 0), (9, .aload_n 0, 10, 0, 0, 0, 0), (10, .getfield 159, 13, 12, 0, 6, 0), (13, .ifCond .ne 7, 16, 20, 0, 0, 0), (16, .iconst (-1), 17, 0, 0, 0, 0), (17, .goto 7, 20, 24, 0, 0, 0)]
def sg_145_20 : List En := [(20, .aload_n 0, 21, 0, 0, 0, 0), (21, .getfield 162, 24, 12, 0, 7, 0)]
def sg_145_24 : List En := [(24, .putfield 13, 27, 12, 0, 9, 0), (27, .aload_n 0, 28, 0, 0, 0, 0), (28, .getfield 159, 31, 12, 0, 6, 0), (31, .ifCond .ne 7, 34, 38, 0, 0, 0), (34, .iconst 1, 35, 0, 0, 0, 0), (35, .goto 4, 38, 39, 0, 0, 0)]
def sg_145_38 : List En := [(38, .iconst 0, 39, 0, 0, 0, 0)]
def sg_145_39 : List En := [(39, .ireturn, 40, 0, 0, 0, 1)]
def pg_145 : List En := sg_145_0 ++ sg_145_20 ++ sg_145_24 ++ sg_145_38 ++ sg_145_39
/-! 146 LeastFailingModel.here -/
def sg_146_0 : List En := [(0, .iload_n 1, 1, 1, 0, 0, 0), (1, .aload_n 0, 2, 0, 0, 0, 0), (2, .getfield 150, 5, 12, 0, 3, 0), (5, .if_icmp .ge 12, 8, 17, 0, 0, 0), (8, .aload_n 0, 9, 0, 0, 0, 0), (9, .getfield 7, 12, 12, 4, 1, 0), (12, .iload_n 1, 13, 1, 0, 0, 0), (13, .baload, 14, 0, 0, 0, 0), (14, .goto 4, 17, 18, 0, 0, 0)]
def sg_146_17 : List En := [(17, .iconst 0, 18, 0, 0, 0, 0)]
def sg_146_18 : List En := [(18, .ireturn, 19, 0, 0, 0, 0)]
def pg_146 : List En := sg_146_0 ++ sg_146_17 ++ sg_146_18
/-! 147 LeastFailingModel.isLetter -/
def sg_147_0 : List En := [(0, .aload_n 0, 1, 0, 0, 0, 0), (1, .iload_n 1, 2, 1, 0, 0, 0), (2, .invokevirtual 168, 5, 146, 2, 1, 12), (5, .i2l, 6, 0, 0, 0, 0), (6, .ldc2_w 172, 9, 0, 0, 97, 0), (9, .ldc2_w 174, 12, 0, 0, 122, 0), (12, .invokestatic 146, 15, 137, 3, 1, 0), (15, .ireturn, 16, 0, 0, 0, 1)]
def pg_147 : List En := sg_147_0
/-! 148 LeastFailingModel.isDigit -/
def sg_148_0 : List En := [(0, .aload_n 0, 1, 0, 0, 0, 0), (1, .iload_n 1, 2, 1, 0, 0, 0), (2, .invokevirtual 168, 5, 146, 2, 1, 12), (5, .i2l, 6, 0, 0, 0, 0), (6, .ldc2_w 176, 9, 0, 0, 48, 0), (9, .ldc2_w 178, 12, 0, 0, 57, 0), (12, .invokestatic 146, 15, 137, 3, 1, 0), (15, .ireturn, 16, 0, 0, 0, 1)]
def pg_148 : List En := sg_148_0
/-! 149 LeastFailingModel.next -/
def sg_149_0 : List En := [(0, .aload_n 0, 1, 0, 0, 0, 0), (1, .getfield 153, 4, 12, 0, 4, 0), (4, .aload_n 0, 5, 0, 0, 0, 0), (5, .getfield 150, 8, 12, 0, 3, 0), (8, .if_icmp .ge 44, 11, 52, 0, 0, 0), (11, .aload_n 0, 12, 0, 0, 0, 0), (12, .getfield 7, 15, 12, 4, 1, 0), (15, .aload_n 0, 16, 0, 0, 0, 0), (16, .getfield 153, 19, 12, 0, 4, 0), (19, .baload, 20, 0, 0, 0, 0), (20, .bipush 32, 22, 0, 0, 0, 0), (22, .if_icmp .eq 17, 25, 39, 0, 0, 0), (25, .aload_n 0, 26, 0, 0, 0, 0), (26, .getfield 7, 29, 12, 4, 1, 0), (29, .aload_n 0, 30, 0, 0, 0, 0), (30, .getfield 153, 33, 12, 0, 4, 0), (33, .baload, 34, 0, 0, 0, 0), (34, .bipush 10, 36, 0, 0, 0, 0), (36, .if_icmp .ne 16, 39, 52, 0, 0, 0)]
def sg_149_39 : List En := [(39, .aload_n 0, 40, 0, 0, 0, 0), (40, .dup, 41, 0, 0, 0, 0), (41, .getfield 153, 44, 12, 0, 4, 0), (44, .iconst 1, 45, 0, 0, 0, 0), (45, .iadd, 46, 0, 0, 0, 0), (46, .putfield 153, 49, 12, 0, 4, 0), (49, .goto (-49), 52, 0, 0, 0, 0)]
def sg_149_52 : List En := [(52, .aload_n 0, 53, 0, 0, 0, 0), (53, .getfield 153, 56, 12, 0, 4, 0), (56, .ireturn, 57, 0, 0, 0, 0)]
def pg_149 : List En := sg_149_0 ++ sg_149_39 ++ sg_149_52
/-! 150 LeastFailingModel.isOver -/
def sg_150_0 : List En := [(0, .aload_n 0, 1, 0, 0, 0, 0), (1, .invokevirtual 180, 4, 149, 1, 1, 12), (4, .aload_n 0, 5, 0, 0, 0, 0), (5, .getfield 150, 8, 12, 0, 3, 0), (8, .if_icmp .lt 7, 11, 15, 0, 0, 0), (11, .iconst 1, 12, 0, 0, 0, 0), (12, .goto 4, 15, 16, 0, 0, 0)]
def sg_150_15 : List En := [(15, .iconst 0, 16, 0, 0, 0, 0)]
def sg_150_16 : List En := [(16, .ireturn, 17, 0, 0, 0, 1)]
def pg_150 : List En := sg_150_0 ++ sg_150_15 ++ sg_150_16
/-! 151 LeastFailingModel.unlike -/
def sg_151_0 : List En := [(0, .aload_n 0, 1, 0, 0, 0, 0), (1, .iconst 1, 2, 0, 0, 0, 0), (2, .aload_n 0, 3, 0, 0, 0, 0), (3, .invokevirtual 180, 6, 149, 1, 1, 12), (6, .invokevirtual 184, 9, 144, 3, 0, 12), (9, .return_, 10, 0, 0, 0, 0)]
def pg_151 : List En := sg_151_0
/-! 152 LeastFailingModel.isSign -/
def sg_152_0 : List En := [(0, .aload_n 0, 1, 0, 0, 0, 0), (1, .invokevirtual 180, 4, 149, 1, 1, 12), (4, .aload_n 0, 5, 0, 0, 0, 0), (5, .getfield 150, 8, 12, 0, 3, 0), (8, .if_icmp .ge 20, 11, 28, 0, 0, 0), (11, .aload_n 0, 12, 0, 0, 0, 0), (12, .getfield 7, 15, 12, 4, 1, 0), (15, .aload_n 0, 16, 0, 0, 0, 0), (16, .getfield 153, 19, 12, 0, 4, 0), (19, .baload, 20, 0, 0, 0, 0), (20, .iload_n 1, 21, 1, 0, 0, 0), (21, .if_icmp .ne 7, 24, 28, 0, 0, 0), (24, .iconst 1, 25, 0, 0, 0, 0), (25, .goto 4, 28, 29, 0, 0, 0)]
def sg_152_28 : List En := [(28, .iconst 0, 29, 0, 0, 0, 0)]
def sg_152_29 : List En := [(29, .ireturn, 30, 0, 0, 0, 1)]
def pg_152 : List En := sg_152_0 ++ sg_152_28 ++ sg_152_29
/-! 153 LeastFailingModel.takesSign -/
def sg_153_0 : List En := [(0, .aload_n 0, 1, 0, 0, 0, 0), (1, .invokevirtual 188, 4, 143, 1, 1, 12), (4, .ifCond .eq 11, 7, 15, 0, 0, 0), (7, .aload_n 0, 8, 0, 0, 0, 0), (8, .iload_n 1, 9, 1, 0, 0, 0), (9, .invokevirtual 192, 12, 152, 2, 1, 12), (12, .ifCond .ne 5, 15, 17, 0, 0, 0)]
def sg_153_15 : List En := [(15, .iconst 0, 16, 0, 0, 0, 0), (16, .ireturn, 17, 0, 0, 0, 1)]
def sg_153_17 : List En := [(17, .aload_n 0, 18, 0, 0, 0, 0), (18, .dup, 19, 0, 0, 0, 0), (19, .getfield 153, 22, 12, 0, 4, 0), (22, .iconst 1, 23, 0, 0, 0, 0), (23, .iadd, 24, 0, 0, 0, 0), (24, .putfield 153, 27, 12, 0, 4, 0), (27, .iconst 1, 28, 0, 0, 0, 0), (28, .ireturn, 29, 0, 0, 0, 1)]
def pg_153 : List En := sg_153_0 ++ sg_153_15 ++ sg_153_17
/-! 154 LeastFailingModel.needsSign -/
def sg_154_0 : List En := [(0, .aload_n 0, 1, 0, 0, 0, 0), (1, .invokevirtual 188, 4, 143, 1, 1, 12), (4, .ifCond .eq 15, 7, 19, 0, 0, 0), (7, .aload_n 0, 8, 0, 0, 0, 0), (8, .iload_n 1, 9, 1, 0, 0, 0), (9, .invokevirtual 196, 12, 153, 2, 1, 12), (12, .ifCond .ne 7, 15, 19, 0, 0, 0), (15, .aload_n 0, 16, 0, 0, 0, 0), (16, .invokevirtual 199, 19, 151, 1, 0, 12)]
def sg_154_19 : List En := [(19, .return_, 20, 0, 0, 0, 0)]
def pg_154 : List En := sg_154_0 ++ sg_154_19
/-! 155 LeastFailingModel.packed -/
def sg_155_0 : List En := [(0, .iload_n 0, 1, 0, 0, 0, 0), (1, .i2l, 2, 0, 0, 0, 0), (2, .lstore 6, 4, 6, 0, 0, 0), (4, .ldc2_w 202, 7, 0, 0, 32, 0), (7, .lload 6, 9, 6, 0, 0, 0), (9, .lmul, 10, 0, 0, 0, 0), (10, .iload_n 1, 11, 1, 0, 0, 0), (11, .ifCond .ne 7, 14, 18, 0, 0, 0), (14, .iconst 0, 15, 0, 0, 0, 0), (15, .goto 7, 18, 22, 0, 0, 0)]
def sg_155_18 : List En := [(18, .iload_n 1, 19, 1, 0, 0, 0), (19, .bipush 96, 21, 0, 0, 0, 0), (21, .isub, 22, 0, 0, 0, 0)]
def sg_155_22 : List En := [(22, .i2l, 23, 0, 0, 0, 0), (23, .ladd, 24, 0, 0, 0, 0), (24, .lstore 6, 26, 6, 0, 0, 0), (26, .ldc2_w 202, 29, 0, 0, 32, 0), (29, .lload 6, 31, 6, 0, 0, 0), (31, .lmul, 32, 0, 0, 0, 0), (32, .iload_n 2, 33, 2, 0, 0, 0), (33, .ifCond .ne 7, 36, 40, 0, 0, 0), (36, .iconst 0, 37, 0, 0, 0, 0), (37, .goto 7, 40, 44, 0, 0, 0)]
def sg_155_40 : List En := [(40, .iload_n 2, 41, 2, 0, 0, 0), (41, .bipush 96, 43, 0, 0, 0, 0), (43, .isub, 44, 0, 0, 0, 0)]
def sg_155_44 : List En := [(44, .i2l, 45, 0, 0, 0, 0), (45, .ladd, 46, 0, 0, 0, 0), (46, .lstore 6, 48, 6, 0, 0, 0), (48, .ldc2_w 202, 51, 0, 0, 32, 0), (51, .lload 6, 53, 6, 0, 0, 0), (53, .lmul, 54, 0, 0, 0, 0), (54, .iload_n 3, 55, 3, 0, 0, 0), (55, .ifCond .ne 7, 58, 62, 0, 0, 0), (58, .iconst 0, 59, 0, 0, 0, 0), (59, .goto 7, 62, 66, 0, 0, 0)]
def sg_155_62 : List En := [(62, .iload_n 3, 63, 3, 0, 0, 0), (63, .bipush 96, 65, 0, 0, 0, 0), (65, .isub, 66, 0, 0, 0, 0)]
def sg_155_66 : List En := [(66, .i2l, 67, 0, 0, 0, 0), (67, .ladd, 68, 0, 0, 0, 0), (68, .lstore 6, 70, 6, 0, 0, 0), (70, .ldc2_w 202, 73, 0, 0, 32, 0), (73, .lload 6, 75, 6, 0, 0, 0), (75, .lmul, 76, 0, 0, 0, 0), (76, .iload 4, 78, 4, 0, 0, 0), (78, .ifCond .ne 7, 81, 85, 0, 0, 0), (81, .iconst 0, 82, 0, 0, 0, 0), (82, .goto 8, 85, 90, 0, 0, 0)]
def sg_155_85 : List En := [(85, .iload 4, 87, 4, 0, 0, 0), (87, .bipush 96, 89, 0, 0, 0, 0), (89, .isub, 90, 0, 0, 0, 0)]
def sg_155_90 : List En := [(90, .i2l, 91, 0, 0, 0, 0), (91, .ladd, 92, 0, 0, 0, 0), (92, .lstore 6, 94, 6, 0, 0, 0), (94, .ldc2_w 202, 97, 0, 0, 32, 0), (97, .lload 6, 99, 6, 0, 0, 0), (99, .lmul, 100, 0, 0, 0, 0), (100, .iload 5, 102, 5, 0, 0, 0), (102, .ifCond .ne 7, 105, 109, 0, 0, 0), (105, .iconst 0, 106, 0, 0, 0, 0), (106, .goto 8, 109, 114, 0, 0, 0)]
def sg_155_109 : List En := [(109, .iload 5, 111, 5, 0, 0, 0), (111, .bipush 96, 113, 0, 0, 0, 0), (113, .isub, 114, 0, 0, 0, 0)]
def sg_155_114 : List En := [(114, .i2l, 115, 0, 0, 0, 0), (115, .ladd, 116, 0, 0, 0, 0), (116, .ldc2_w 204, 119, 0, 0, 3221225472, 0), (119, .lsub, 120, 0, 0, 0, 0), (120, .lreturn, 121, 0, 0, 0, 0)]
def pg_155 : List En := sg_155_0 ++ sg_155_18 ++ sg_155_22 ++ sg_155_40 ++ sg_155_44 ++ sg_155_62 ++ sg_155_66 ++ sg_155_85 ++ sg_155_90 ++ sg_155_109 ++ sg_155_114
/-! 156 LeastFailingModel.seesWord -/
def sg_156_0 : List En := [(0, .aload_n 0, 1, 0, 0, 0, 0), (1, .invokevirtual 180, 4, 149, 1, 1, 12), (4, .istore_n 1, 5, 1, 0, 0, 0), (5, .aload_n 0, 6, 0, 0, 0, 0), (6, .iconst 0, 7, 0, 0, 0, 0), (7, .putfield 206, 10, 12, 0, 11, 0), (10, .aload_n 0, 11, 0, 0, 0, 0), (11, .lconst 0, 12, 0, 0, 0, 0), (12, .putfield 209, 15, 12, 1, 10, 0), (15, .aload_n 0, 16, 0, 0, 0, 0), (16, .iload_n 1, 17, 1, 0, 0, 0), (17, .invokevirtual 212, 20, 147, 2, 1, 12), (20, .ifCond .eq 11, 23, 31, 0, 0, 0), (23, .iload_n 1, 24, 1, 0, 0, 0), (24, .aload_n 0, 25, 0, 0, 0, 0), (25, .getfield 156, 28, 12, 0, 5, 0), (28, .if_icmp .ne 5, 31, 33, 0, 0, 0)]
def sg_156_31 : List En := [(31, .iconst 0, 32, 0, 0, 0, 0), (32, .ireturn, 33, 0, 0, 0, 1)]
def sg_156_33 : List En := [(33, .aload_n 0, 34, 0, 0, 0, 0), (34, .iload_n 1, 35, 1, 0, 0, 0), (35, .aload_n 0, 36, 0, 0, 0, 0), (36, .getfield 206, 39, 12, 0, 11, 0), (39, .iadd, 40, 0, 0, 0, 0), (40, .invokevirtual 212, 43, 147, 2, 1, 12), (43, .ifCond .eq 61, 46, 104, 0, 0, 0), (46, .aload_n 0, 47, 0, 0, 0, 0), (47, .aload_n 0, 48, 0, 0, 0, 0), (48, .getfield 206, 51, 12, 0, 11, 0), (51, .bipush 6, 53, 0, 0, 0, 0), (53, .if_icmp .ge 31, 56, 84, 0, 0, 0), (56, .ldc2_w 202, 59, 0, 0, 32, 0), (59, .aload_n 0, 60, 0, 0, 0, 0), (60, .getfield 209, 63, 12, 1, 10, 0), (63, .lmul, 64, 0, 0, 0, 0), (64, .aload_n 0, 65, 0, 0, 0, 0), (65, .getfield 7, 68, 12, 4, 1, 0), (68, .iload_n 1, 69, 1, 0, 0, 0), (69, .aload_n 0, 70, 0, 0, 0, 0), (70, .getfield 206, 73, 12, 0, 11, 0), (73, .iadd, 74, 0, 0, 0, 0), (74, .baload, 75, 0, 0, 0, 0), (75, .i2l, 76, 0, 0, 0, 0), (76, .ladd, 77, 0, 0, 0, 0), (77, .ldc2_w 215, 80, 0, 0, 96, 0), (80, .lsub, 81, 0, 0, 0, 0), (81, .goto 7, 84, 88, 0, 0, 0)]
def sg_156_84 : List En := [(84, .aload_n 0, 85, 0, 0, 0, 0), (85, .getfield 209, 88, 12, 1, 10, 0)]
def sg_156_88 : List En := [(88, .putfield 209, 91, 12, 1, 10, 0), (91, .aload_n 0, 92, 0, 0, 0, 0), (92, .dup, 93, 0, 0, 0, 0), (93, .getfield 206, 96, 12, 0, 11, 0), (96, .iconst 1, 97, 0, 0, 0, 0), (97, .iadd, 98, 0, 0, 0, 0), (98, .putfield 206, 101, 12, 0, 11, 0), (101, .goto (-68), 104, 33, 0, 0, 0)]
def sg_156_104 : List En := [(104, .aload_n 0, 105, 0, 0, 0, 0), (105, .getfield 206, 108, 12, 0, 11, 0), (108, .istore_n 2, 109, 2, 0, 0, 0)]
def sg_156_109 : List En := [(109, .iload_n 2, 110, 2, 0, 0, 0), (110, .bipush 6, 112, 0, 0, 0, 0), (112, .if_icmp .ge 21, 115, 133, 0, 0, 0), (115, .aload_n 0, 116, 0, 0, 0, 0), (116, .dup, 117, 0, 0, 0, 0), (117, .getfield 209, 120, 12, 1, 10, 0), (120, .ldc2_w 202, 123, 0, 0, 32, 0), (123, .lmul, 124, 0, 0, 0, 0), (124, .putfield 209, 127, 12, 1, 10, 0), (127, .iinc 2 1, 130, 2, 0, 1, 0), (130, .goto (-21), 133, 109, 0, 0, 0)]
def sg_156_133 : List En := [(133, .iconst 1, 134, 0, 0, 0, 0), (134, .ireturn, 135, 0, 0, 0, 1)]
def pg_156 : List En := sg_156_0 ++ sg_156_31 ++ sg_156_33 ++ sg_156_84 ++ sg_156_88 ++ sg_156_104 ++ sg_156_109 ++ sg_156_133
/-! 157 LeastFailingModel.isWord -/
def sg_157_0 : List En := [(0, .aload_n 0, 1, 0, 0, 0, 0), (1, .invokevirtual 217, 4, 156, 1, 1, 12), (4, .ifCond .eq 25, 7, 29, 0, 0, 0), (7, .aload_n 0, 8, 0, 0, 0, 0), (8, .getfield 206, 11, 12, 0, 11, 0), (11, .bipush 6, 13, 0, 0, 0, 0), (13, .if_icmp .gt 16, 16, 29, 0, 0, 0), (16, .aload_n 0, 17, 0, 0, 0, 0), (17, .getfield 209, 20, 12, 1, 10, 0), (20, .lload_n 1, 21, 1, 0, 0, 0), (21, .lcmp, 22, 0, 0, 0, 0), (22, .ifCond .ne 7, 25, 29, 0, 0, 0), (25, .iconst 1, 26, 0, 0, 0, 0), (26, .goto 4, 29, 30, 0, 0, 0)]
def sg_157_29 : List En := [(29, .iconst 0, 30, 0, 0, 0, 0)]
def sg_157_30 : List En := [(30, .ireturn, 31, 0, 0, 0, 1)]
def pg_157 : List En := sg_157_0 ++ sg_157_29 ++ sg_157_30
/-! 158 LeastFailingModel.pass -/
def sg_158_0 : List En := [(0, .aload_n 0, 1, 0, 0, 0, 0), (1, .dup, 2, 0, 0, 0, 0), (2, .getfield 153, 5, 12, 0, 4, 0), (5, .aload_n 0, 6, 0, 0, 0, 0), (6, .getfield 206, 9, 12, 0, 11, 0), (9, .iadd, 10, 0, 0, 0, 0), (10, .putfield 153, 13, 12, 0, 4, 0), (13, .aload_n 0, 14, 0, 0, 0, 0), (14, .aload_n 0, 15, 0, 0, 0, 0), (15, .getfield 153, 18, 12, 0, 4, 0), (18, .putfield 156, 21, 12, 0, 5, 0), (21, .return_, 22, 0, 0, 0, 0)]
def pg_158 : List En := sg_158_0
/-! 159 LeastFailingModel.takes -/
def sg_159_0 : List En := [(0, .aload_n 0, 1, 0, 0, 0, 0), (1, .invokevirtual 188, 4, 143, 1, 1, 12), (4, .ifCond .eq 11, 7, 15, 0, 0, 0), (7, .aload_n 0, 8, 0, 0, 0, 0), (8, .lload_n 1, 9, 1, 0, 0, 0), (9, .invokevirtual 220, 12, 157, 2, 1, 12), (12, .ifCond .ne 5, 15, 17, 0, 0, 0)]
def sg_159_15 : List En := [(15, .iconst 0, 16, 0, 0, 0, 0), (16, .ireturn, 17, 0, 0, 0, 1)]
def sg_159_17 : List En := [(17, .aload_n 0, 18, 0, 0, 0, 0), (18, .invokevirtual 224, 21, 158, 1, 0, 12), (21, .iconst 1, 22, 0, 0, 0, 0), (22, .ireturn, 23, 0, 0, 0, 1)]
def pg_159 : List En := sg_159_0 ++ sg_159_15 ++ sg_159_17
/-! 160 LeastFailingModel.isOwn -/
def sg_160_0 : List En := [(0, .aload_n 0, 1, 0, 0, 0, 0), (1, .getfield 209, 4, 12, 1, 10, 0), (4, .bipush 102, 6, 0, 0, 0, 0), (6, .bipush 111, 8, 0, 0, 0, 0), (8, .bipush 114, 10, 0, 0, 0, 0), (10, .bipush 109, 12, 0, 0, 0, 0), (12, .iconst 0, 13, 0, 0, 0, 0), (13, .iconst 0, 14, 0, 0, 0, 0), (14, .invokestatic 227, 17, 155, 6, 2, 0), (17, .lcmp, 18, 0, 0, 0, 0), (18, .ifCond .eq 250, 21, 268, 0, 0, 0), (21, .aload_n 0, 22, 0, 0, 0, 0), (22, .getfield 209, 25, 12, 1, 10, 0), (25, .bipush 108, 27, 0, 0, 0, 0), (27, .bipush 101, 29, 0, 0, 0, 0), (29, .bipush 97, 31, 0, 0, 0, 0), (31, .bipush 102, 33, 0, 0, 0, 0), (33, .iconst 0, 34, 0, 0, 0, 0), (34, .iconst 0, 35, 0, 0, 0, 0), (35, .invokestatic 227, 38, 155, 6, 2, 0), (38, .lcmp, 39, 0, 0, 0, 0), (39, .ifCond .eq 229, 42, 268, 0, 0, 0), (42, .aload_n 0, 43, 0, 0, 0, 0), (43, .getfield 209, 46, 12, 1, 10, 0), (46, .bipush 98, 48, 0, 0, 0, 0), (48, .bipush 117, 50, 0, 0, 0, 0), (50, .bipush 103, 52, 0, 0, 0, 0), (52, .iconst 0, 53, 0, 0, 0, 0), (53, .iconst 0, 54, 0, 0, 0, 0), (54, .iconst 0, 55, 0, 0, 0, 0), (55, .invokestatic 227, 58, 155, 6, 2, 0), (58, .lcmp, 59, 0, 0, 0, 0), (59, .ifCond .eq 209, 62, 268, 0, 0, 0), (62, .aload_n 0, 63, 0, 0, 0, 0), (63, .getfield 209, 66, 12, 1, 10, 0), (66, .bipush 111, 68, 0, 0, 0, 0), (68, .bipush 100, 70, 0, 0, 0, 0), (70, .bipush 100, 72, 0, 0, 0, 0), (72, .bipush 115, 74, 0, 0, 0, 0), (74, .iconst 0, 75, 0, 0, 0, 0), (75, .iconst 0, 76, 0, 0, 0, 0), (76, .invokestatic 227, 79, 155, 6, 2, 0), (79, .lcmp, 80, 0, 0, 0, 0), (80, .ifCond .eq 188, 83, 268, 0, 0, 0), (83, .aload_n 0, 84, 0, 0, 0, 0), (84, .getfield 209, 87, 12, 1, 10, 0), (87, .bipush 119, 89, 0, 0, 0, 0), (89, .bipush 104, 91, 0, 0, 0, 0), (91, .bipush 101, 93, 0, 0, 0, 0), (93, .bipush 110, 95, 0, 0, 0, 0), (95, .iconst 0, 96, 0, 0, 0, 0), (96, .iconst 0, 97, 0, 0, 0, 0), (97, .invokestatic 227, 100, 155, 6, 2, 0), (100, .lcmp, 101, 0, 0, 0, 0), (101, .ifCond .eq 167, 104, 268, 0, 0, 0), (104, .aload_n 0, 105, 0, 0, 0, 0), (105, .getfield 209, 108, 12, 1, 10, 0), (108, .bipush 111, 110, 0, 0, 0, 0), (110, .bipush 114, 112, 0, 0, 0, 0), (112, .iconst 0, 113, 0, 0, 0, 0), (113, .iconst 0, 114, 0, 0, 0, 0), (114, .iconst 0, 115, 0, 0, 0, 0), (115, .iconst 0, 116, 0, 0, 0, 0), (116, .invokestatic 227, 119, 155, 6, 2, 0), (119, .lcmp, 120, 0, 0, 0, 0), (120, .ifCond .eq 148, 123, 268, 0, 0, 0), (123, .aload_n 0, 124, 0, 0, 0, 0), (124, .getfield 209, 127, 12, 1, 10, 0), (127, .bipush 97, 129, 0, 0, 0, 0), (129, .bipush 110, 131, 0, 0, 0, 0), (131, .bipush 100, 133, 0, 0, 0, 0), (133, .iconst 0, 134, 0, 0, 0, 0), (134, .iconst 0, 135, 0, 0, 0, 0), (135, .iconst 0, 136, 0, 0, 0, 0), (136, .invokestatic 227, 139, 155, 6, 2, 0), (139, .lcmp, 140, 0, 0, 0, 0), (140, .ifCond .eq 128, 143, 268, 0, 0, 0), (143, .aload_n 0, 144, 0, 0, 0, 0), (144, .getfield 209, 147, 12, 1, 10, 0), (147, .bipush 110, 149, 0, 0, 0, 0), (149, .bipush 111, 151, 0, 0, 0, 0), (151, .bipush 116, 153, 0, 0, 0, 0), (153, .iconst 0, 154, 0, 0, 0, 0), (154, .iconst 0, 155, 0, 0, 0, 0), (155, .iconst 0, 156, 0, 0, 0, 0), (156, .invokestatic 227, 159, 155, 6, 2, 0), (159, .lcmp, 160, 0, 0, 0, 0), (160, .ifCond .eq 108, 163, 268, 0, 0, 0), (163, .aload_n 0, 164, 0, 0, 0, 0), (164, .getfield 209, 167, 12, 1, 10, 0), (167, .bipush 115, 169, 0, 0, 0, 0), (169, .bipush 105, 171, 0, 0, 0, 0), (171, .bipush 122, 173, 0, 0, 0, 0), (173, .bipush 101, 175, 0, 0, 0, 0), (175, .iconst 0, 176, 0, 0, 0, 0), (176, .iconst 0, 177, 0, 0, 0, 0), (177, .invokestatic 227, 180, 155, 6, 2, 0), (180, .lcmp, 181, 0, 0, 0, 0), (181, .ifCond .eq 87, 184, 268, 0, 0, 0), (184, .aload_n 0, 185, 0, 0, 0, 0), (185, .getfield 209, 188, 12, 1, 10, 0), (188, .bipush 100, 190, 0, 0, 0, 0), (190, .bipush 101, 192, 0, 0, 0, 0), (192, .bipush 101, 194, 0, 0, 0, 0), (194, .bipush 112, 196, 0, 0, 0, 0), (196, .iconst 0, 197, 0, 0, 0, 0), (197, .iconst 0, 198, 0, 0, 0, 0), (198, .invokestatic 227, 201, 155, 6, 2, 0), (201, .lcmp, 202, 0, 0, 0, 0), (202, .ifCond .eq 66, 205, 268, 0, 0, 0), (205, .aload_n 0, 206, 0, 0, 0, 0), (206, .getfield 209, 209, 12, 1, 10, 0), (209, .bipush 104, 211, 0, 0, 0, 0), (211, .bipush 97, 213, 0, 0, 0, 0), (213, .bipush 115, 215, 0, 0, 0, 0), (215, .iconst 0, 216, 0, 0, 0, 0), (216, .iconst 0, 217, 0, 0, 0, 0), (217, .iconst 0, 218, 0, 0, 0, 0), (218, .invokestatic 227, 221, 155, 6, 2, 0), (221, .lcmp, 222, 0, 0, 0, 0), (222, .ifCond .eq 46, 225, 268, 0, 0, 0), (225, .aload_n 0, 226, 0, 0, 0, 0), (226, .getfield 209, 229, 12, 1, 10, 0), (229, .bipush 117, 231, 0, 0, 0, 0), (231, .bipush 110, 233, 0, 0, 0, 0), (233, .bipush 100, 235, 0, 0, 0, 0), (235, .bipush 101, 237, 0, 0, 0, 0), (237, .bipush 114, 239, 0, 0, 0, 0), (239, .iconst 0, 240, 0, 0, 0, 0), (240, .invokestatic 227, 243, 155, 6, 2, 0), (243, .lcmp, 244, 0, 0, 0, 0), (244, .ifCond .eq 24, 247, 268, 0, 0, 0), (247, .aload_n 0, 248, 0, 0, 0, 0), (248, .getfield 209, 251, 12, 1, 10, 0), (251, .bipush 110, 253, 0, 0, 0, 0), (253, .bipush 101, 255, 0, 0, 0, 0), (255, .bipush 120, 257, 0, 0, 0, 0), (257, .bipush 116, 259, 0, 0, 0, 0), (259, .iconst 0, 260, 0, 0, 0, 0), (260, .iconst 0, 261, 0, 0, 0, 0), (261, .invokestatic 227, 264, 155, 6, 2, 0), (264, .lcmp, 265, 0, 0, 0, 0), (265, .ifCond .ne 7, 268, 272, 0, 0, 0)]
def sg_160_268 : List En := [(268, .iconst 1, 269, 0, 0, 0, 0), (269, .goto 4, 272, 273, 0, 0, 0)]
def sg_160_272 : List En := [(272, .iconst 0, 273, 0, 0, 0, 0)]
def sg_160_273 : List En := [(273, .ireturn, 274, 0, 0, 0, 1)]
def pg_160 : List En := sg_160_0 ++ sg_160_268 ++ sg_160_272 ++ sg_160_273
/-! 161 LeastFailingModel.isName -/
def sg_161_0 : List En := [(0, .aload_n 0, 1, 0, 0, 0, 0), (1, .invokevirtual 217, 4, 156, 1, 1, 12), (4, .ifCond .eq 23, 7, 27, 0, 0, 0), (7, .aload_n 0, 8, 0, 0, 0, 0), (8, .getfield 206, 11, 12, 0, 11, 0), (11, .bipush 6, 13, 0, 0, 0, 0), (13, .if_icmp .gt 14, 16, 27, 0, 0, 0), (16, .aload_n 0, 17, 0, 0, 0, 0), (17, .invokevirtual 231, 20, 160, 1, 1, 12), (20, .ifCond .ne 7, 23, 27, 0, 0, 0), (23, .iconst 1, 24, 0, 0, 0, 0), (24, .goto 4, 27, 28, 0, 0, 0)]
def sg_161_27 : List En := [(27, .iconst 0, 28, 0, 0, 0, 0)]
def sg_161_28 : List En := [(28, .ireturn, 29, 0, 0, 0, 1)]
def pg_161 : List En := sg_161_0 ++ sg_161_27 ++ sg_161_28
/-! 162 LeastFailingModel.name -/
def sg_162_0 : List En := [(0, .aload_n 0, 1, 0, 0, 0, 0), (1, .aload_n 0, 2, 0, 0, 0, 0), (2, .invokevirtual 180, 5, 149, 1, 1, 12), (5, .putfield 234, 8, 12, 0, 12, 0), (8, .aload_n 0, 9, 0, 0, 0, 0), (9, .invokevirtual 188, 12, 143, 1, 1, 12), (12, .ifCond .eq 14, 15, 26, 0, 0, 0), (15, .aload_n 0, 16, 0, 0, 0, 0), (16, .invokevirtual 237, 19, 161, 1, 1, 12), (19, .ifCond .ne 7, 22, 26, 0, 0, 0), (22, .aload_n 0, 23, 0, 0, 0, 0), (23, .invokevirtual 199, 26, 151, 1, 0, 12)]
def sg_162_26 : List En := [(26, .aload_n 0, 27, 0, 0, 0, 0), (27, .invokevirtual 188, 30, 143, 1, 1, 12), (30, .ifCond .ne 5, 33, 35, 0, 0, 0), (33, .lconst 0, 34, 0, 0, 0, 0), (34, .lreturn, 35, 0, 0, 0, 0)]
def sg_162_35 : List En := [(35, .aload_n 0, 36, 0, 0, 0, 0), (36, .getfield 209, 39, 12, 1, 10, 0), (39, .lstore_n 1, 40, 1, 0, 0, 0), (40, .aload_n 0, 41, 0, 0, 0, 0), (41, .invokevirtual 224, 44, 158, 1, 0, 12), (44, .lload_n 1, 45, 1, 0, 0, 0), (45, .lreturn, 46, 0, 0, 0, 0)]
def pg_162 : List En := sg_162_0 ++ sg_162_26 ++ sg_162_35
/-! 163 LeastFailingModel.number -/
def sg_163_0 : List En := [(0, .aload_n 0, 1, 0, 0, 0, 0), (1, .aload_n 0, 2, 0, 0, 0, 0), (2, .invokevirtual 180, 5, 149, 1, 1, 12), (5, .putfield 240, 8, 12, 0, 13, 0), (8, .iconst 0, 9, 0, 0, 0, 0), (9, .istore_n 1, 10, 1, 0, 0, 0)]
def sg_163_10 : List En := [(10, .aload_n 0, 11, 0, 0, 0, 0), (11, .aload_n 0, 12, 0, 0, 0, 0), (12, .getfield 240, 15, 12, 0, 13, 0), (15, .iload_n 1, 16, 1, 0, 0, 0), (16, .iadd, 17, 0, 0, 0, 0), (17, .invokevirtual 243, 20, 148, 2, 1, 12), (20, .ifCond .eq 9, 23, 29, 0, 0, 0), (23, .iinc 1 1, 26, 1, 0, 1, 0), (26, .goto (-16), 29, 10, 0, 0, 0)]
def sg_163_29 : List En := [(29, .aload_n 0, 30, 0, 0, 0, 0), (30, .invokevirtual 188, 33, 143, 1, 1, 12), (33, .ifCond .eq 27, 36, 60, 0, 0, 0), (36, .iload_n 1, 37, 1, 0, 0, 0), (37, .ifCond .eq 19, 40, 56, 0, 0, 0), (40, .iload_n 1, 41, 1, 0, 0, 0), (41, .iconst 3, 42, 0, 0, 0, 0), (42, .if_icmp .gt 14, 45, 56, 0, 0, 0), (45, .aload_n 0, 46, 0, 0, 0, 0), (46, .getfield 240, 49, 12, 0, 13, 0), (49, .aload_n 0, 50, 0, 0, 0, 0), (50, .getfield 156, 53, 12, 0, 5, 0), (53, .if_icmp .ne 7, 56, 60, 0, 0, 0)]
def sg_163_56 : List En := [(56, .aload_n 0, 57, 0, 0, 0, 0), (57, .invokevirtual 199, 60, 151, 1, 0, 12)]
def sg_163_60 : List En := [(60, .aload_n 0, 61, 0, 0, 0, 0), (61, .invokevirtual 188, 64, 143, 1, 1, 12), (64, .ifCond .ne 5, 67, 69, 0, 0, 0), (67, .iconst 0, 68, 0, 0, 0, 0), (68, .ireturn, 69, 0, 0, 0, 0)]
def sg_163_69 : List En := [(69, .iconst 0, 70, 0, 0, 0, 0), (70, .istore_n 2, 71, 2, 0, 0, 0), (71, .iconst 0, 72, 0, 0, 0, 0), (72, .istore_n 3, 73, 3, 0, 0, 0)]
def sg_163_73 : List En := [(73, .iload_n 3, 74, 3, 0, 0, 0), (74, .iload_n 1, 75, 1, 0, 0, 0), (75, .if_icmp .ge 29, 78, 104, 0, 0, 0), (78, .bipush 10, 80, 0, 0, 0, 0), (80, .iload_n 2, 81, 2, 0, 0, 0), (81, .imul, 82, 0, 0, 0, 0), (82, .aload_n 0, 83, 0, 0, 0, 0), (83, .getfield 7, 86, 12, 4, 1, 0), (86, .aload_n 0, 87, 0, 0, 0, 0), (87, .getfield 240, 90, 12, 0, 13, 0), (90, .iload_n 3, 91, 3, 0, 0, 0), (91, .iadd, 92, 0, 0, 0, 0), (92, .baload, 93, 0, 0, 0, 0), (93, .iadd, 94, 0, 0, 0, 0), (94, .bipush 48, 96, 0, 0, 0, 0), (96, .isub, 97, 0, 0, 0, 0), (97, .istore_n 2, 98, 2, 0, 0, 0), (98, .iinc 3 1, 101, 3, 0, 1, 0), (101, .goto (-28), 104, 73, 0, 0, 0)]
def sg_163_104 : List En := [(104, .aload_n 0, 105, 0, 0, 0, 0), (105, .aload_n 0, 106, 0, 0, 0, 0), (106, .getfield 240, 109, 12, 0, 13, 0), (109, .iload_n 1, 110, 1, 0, 0, 0), (110, .iadd, 111, 0, 0, 0, 0), (111, .putfield 153, 114, 12, 0, 4, 0), (114, .aload_n 0, 115, 0, 0, 0, 0), (115, .aload_n 0, 116, 0, 0, 0, 0), (116, .getfield 153, 119, 12, 0, 4, 0), (119, .putfield 156, 122, 12, 0, 5, 0), (122, .iload_n 2, 123, 2, 0, 0, 0), (123, .ireturn, 124, 0, 0, 0, 0)]
def pg_163 : List En := sg_163_0 ++ sg_163_10 ++ sg_163_29 ++ sg_163_56 ++ sg_163_60 ++ sg_163_69 ++ sg_163_73 ++ sg_163_104
/-! 164 LeastFailingModel.sortRead -/
def sg_164_0 : List En := [(0, .aload_n 0, 1, 0, 0, 0, 0), (1, .invokevirtual 246, 4, 162, 1, 2, 12), (4, .lstore_n 1, 5, 1, 0, 0, 0), (5, .aload_n 0, 6, 0, 0, 0, 0), (6, .invokevirtual 188, 9, 143, 1, 1, 12), (9, .ifCond .ne 5, 12, 14, 0, 0, 0), (12, .iconst 0, 13, 0, 0, 0, 0), (13, .ireturn, 14, 0, 0, 0, 0)]
def sg_164_14 : List En := [(14, .iconst 0, 15, 0, 0, 0, 0), (15, .istore_n 3, 16, 3, 0, 0, 0)]
def sg_164_16 : List En := [(16, .iload_n 3, 17, 3, 0, 0, 0), (17, .aload_n 0, 18, 0, 0, 0, 0), (18, .getfield 28, 21, 12, 12, 17, 0), (21, .sipush 193, 24, 0, 0, 0, 0), (24, .iaload, 25, 0, 0, 0, 0), (25, .if_icmp .ge 22, 28, 47, 0, 0, 0), (28, .aload_n 0, 29, 0, 0, 0, 0), (29, .getfield 34, 32, 12, 16, 19, 0), (32, .iload_n 3, 33, 3, 0, 0, 0), (33, .laload, 34, 0, 0, 0, 0), (34, .lload_n 1, 35, 1, 0, 0, 0), (35, .lcmp, 36, 0, 0, 0, 0), (36, .ifCond .ne 5, 39, 41, 0, 0, 0), (39, .iload_n 3, 40, 3, 0, 0, 0), (40, .ireturn, 41, 0, 0, 0, 0)]
def sg_164_41 : List En := [(41, .iinc 3 1, 44, 3, 0, 1, 0), (44, .goto (-28), 47, 16, 0, 0, 0)]
def sg_164_47 : List En := [(47, .aload_n 0, 48, 0, 0, 0, 0), (48, .getfield 28, 51, 12, 12, 17, 0), (51, .sipush 193, 54, 0, 0, 0, 0), (54, .iaload, 55, 0, 0, 0, 0), (55, .bipush 6, 57, 0, 0, 0, 0), (57, .if_icmp .ne 12, 60, 69, 0, 0, 0), (60, .aload_n 0, 61, 0, 0, 0, 0), (61, .iconst 4, 62, 0, 0, 0, 0), (62, .aload_n 0, 63, 0, 0, 0, 0), (63, .getfield 234, 66, 12, 0, 12, 0), (66, .invokevirtual 184, 69, 144, 3, 0, 12)]
def sg_164_69 : List En := [(69, .aload_n 0, 70, 0, 0, 0, 0), (70, .invokevirtual 188, 73, 143, 1, 1, 12), (73, .ifCond .ne 5, 76, 78, 0, 0, 0), (76, .iconst 0, 77, 0, 0, 0, 0), (77, .ireturn, 78, 0, 0, 0, 0)]
def sg_164_78 : List En := [(78, .aload_n 0, 79, 0, 0, 0, 0), (79, .getfield 34, 82, 12, 16, 19, 0), (82, .aload_n 0, 83, 0, 0, 0, 0), (83, .getfield 28, 86, 12, 12, 17, 0), (86, .sipush 193, 89, 0, 0, 0, 0), (89, .iaload, 90, 0, 0, 0, 0), (90, .lload_n 1, 91, 1, 0, 0, 0), (91, .lastore, 92, 0, 0, 0, 0), (92, .aload_n 0, 93, 0, 0, 0, 0), (93, .getfield 28, 96, 12, 12, 17, 0), (96, .sipush 193, 99, 0, 0, 0, 0), (99, .dup2, 100, 0, 0, 0, 0), (100, .iaload, 101, 0, 0, 0, 0), (101, .iconst 1, 102, 0, 0, 0, 0), (102, .iadd, 103, 0, 0, 0, 0), (103, .iastore, 104, 0, 0, 0, 0), (104, .aload_n 0, 105, 0, 0, 0, 0), (105, .getfield 28, 108, 12, 12, 17, 0), (108, .sipush 193, 111, 0, 0, 0, 0), (111, .iaload, 112, 0, 0, 0, 0), (112, .iconst 1, 113, 0, 0, 0, 0), (113, .isub, 114, 0, 0, 0, 0), (114, .ireturn, 115, 0, 0, 0, 0)]
def pg_164 : List En := sg_164_0 ++ sg_164_14 ++ sg_164_16 ++ sg_164_41 ++ sg_164_47 ++ sg_164_69 ++ sg_164_78
/-! 165 LeastFailingModel.partsRead -/
def sg_165_0 : List En := [(0, .aload_n 0, 1, 0, 0, 0, 0), (1, .bipush 58, 3, 0, 0, 0, 0), (3, .invokevirtual 250, 6, 154, 2, 0, 12), (6, .iconst 0, 7, 0, 0, 0, 0), (7, .istore_n 2, 8, 2, 0, 0, 0), (8, .iconst 0, 9, 0, 0, 0, 0), (9, .istore_n 3, 10, 3, 0, 0, 0)]
def sg_165_10 : List En := [(10, .aload_n 0, 11, 0, 0, 0, 0), (11, .invokevirtual 188, 14, 143, 1, 1, 12), (14, .ifCond .eq 70, 17, 84, 0, 0, 0), (17, .iload_n 3, 18, 3, 0, 0, 0), (18, .ifCond .ne 66, 21, 84, 0, 0, 0), (21, .aload_n 0, 22, 0, 0, 0, 0), (22, .invokevirtual 237, 25, 161, 1, 1, 12), (25, .ifCond .eq 59, 28, 84, 0, 0, 0), (28, .iload_n 2, 29, 2, 0, 0, 0), (29, .iconst 4, 30, 0, 0, 0, 0), (30, .if_icmp .ne 12, 33, 42, 0, 0, 0), (33, .aload_n 0, 34, 0, 0, 0, 0), (34, .iconst 4, 35, 0, 0, 0, 0), (35, .aload_n 0, 36, 0, 0, 0, 0), (36, .invokevirtual 180, 39, 149, 1, 1, 12), (39, .invokevirtual 184, 42, 144, 3, 0, 12)]
def sg_165_42 : List En := [(42, .aload_n 0, 43, 0, 0, 0, 0), (43, .invokevirtual 253, 46, 164, 1, 1, 12), (46, .istore 4, 48, 4, 0, 0, 0), (48, .aload_n 0, 49, 0, 0, 0, 0), (49, .invokevirtual 188, 52, 143, 1, 1, 12), (52, .ifCond .ne 4, 55, 56, 0, 0, 0), (55, .return_, 56, 0, 0, 0, 0)]
def sg_165_56 : List En := [(56, .aload_n 0, 57, 0, 0, 0, 0), (57, .getfield 28, 60, 12, 12, 17, 0), (60, .bipush 8, 62, 0, 0, 0, 0), (62, .iload_n 1, 63, 1, 0, 0, 0), (63, .imul, 64, 0, 0, 0, 0), (64, .iconst 4, 65, 0, 0, 0, 0), (65, .iadd, 66, 0, 0, 0, 0), (66, .iload_n 2, 67, 2, 0, 0, 0), (67, .iadd, 68, 0, 0, 0, 0), (68, .iload 4, 70, 4, 0, 0, 0), (70, .iastore, 71, 0, 0, 0, 0), (71, .iinc 2 1, 74, 2, 0, 1, 0), (74, .aload_n 0, 75, 0, 0, 0, 0), (75, .bipush 42, 77, 0, 0, 0, 0), (77, .invokevirtual 196, 80, 153, 2, 1, 12), (80, .istore_n 3, 81, 3, 0, 0, 0), (81, .goto (-71), 84, 10, 0, 0, 0)]
def sg_165_84 : List En := [(84, .aload_n 0, 85, 0, 0, 0, 0), (85, .getfield 28, 88, 12, 12, 17, 0), (88, .bipush 8, 90, 0, 0, 0, 0), (90, .iload_n 1, 91, 1, 0, 0, 0), (91, .imul, 92, 0, 0, 0, 0), (92, .iconst 2, 93, 0, 0, 0, 0), (93, .iadd, 94, 0, 0, 0, 0), (94, .iload_n 2, 95, 2, 0, 0, 0), (95, .iastore, 96, 0, 0, 0, 0), (96, .aload_n 0, 97, 0, 0, 0, 0), (97, .getfield 28, 100, 12, 12, 17, 0), (100, .bipush 8, 102, 0, 0, 0, 0), (102, .iload_n 1, 103, 1, 0, 0, 0), (103, .imul, 104, 0, 0, 0, 0), (104, .iconst 3, 105, 0, 0, 0, 0), (105, .iadd, 106, 0, 0, 0, 0), (106, .iload_n 3, 107, 3, 0, 0, 0), (107, .invokestatic 256, 110, 138, 1, 1, 0), (110, .iastore, 111, 0, 0, 0, 0), (111, .return_, 112, 0, 0, 0, 0)]
def pg_165 : List En := sg_165_0 ++ sg_165_10 ++ sg_165_42 ++ sg_165_56 ++ sg_165_84
/-! 166 LeastFailingModel.lineRead -/
def sg_166_0 : List En := [(0, .aload_n 0, 1, 0, 0, 0, 0), (1, .bipush 102, 3, 0, 0, 0, 0), (3, .bipush 111, 5, 0, 0, 0, 0), (5, .bipush 114, 7, 0, 0, 0, 0), (7, .bipush 109, 9, 0, 0, 0, 0), (9, .iconst 0, 10, 0, 0, 0, 0), (10, .iconst 0, 11, 0, 0, 0, 0), (11, .invokestatic 227, 14, 155, 6, 2, 0), (14, .invokevirtual 220, 17, 157, 2, 1, 12), (17, .istore_n 1, 18, 1, 0, 0, 0), (18, .iload_n 1, 19, 1, 0, 0, 0), (19, .ifCond .ne 27, 22, 46, 0, 0, 0), (22, .aload_n 0, 23, 0, 0, 0, 0), (23, .bipush 108, 25, 0, 0, 0, 0), (25, .bipush 101, 27, 0, 0, 0, 0), (27, .bipush 97, 29, 0, 0, 0, 0), (29, .bipush 102, 31, 0, 0, 0, 0), (31, .iconst 0, 32, 0, 0, 0, 0), (32, .iconst 0, 33, 0, 0, 0, 0), (33, .invokestatic 227, 36, 155, 6, 2, 0), (36, .invokevirtual 220, 39, 157, 2, 1, 12), (39, .ifCond .ne 7, 42, 46, 0, 0, 0), (42, .aload_n 0, 43, 0, 0, 0, 0), (43, .invokevirtual 199, 46, 151, 1, 0, 12)]
def sg_166_46 : List En := [(46, .aload_n 0, 47, 0, 0, 0, 0), (47, .getfield 28, 50, 12, 12, 17, 0), (50, .sipush 192, 53, 0, 0, 0, 0), (53, .iaload, 54, 0, 0, 0, 0), (54, .istore_n 2, 55, 2, 0, 0, 0), (55, .iload_n 2, 56, 2, 0, 0, 0), (56, .bipush 24, 58, 0, 0, 0, 0), (58, .if_icmp .ne 12, 61, 70, 0, 0, 0), (61, .aload_n 0, 62, 0, 0, 0, 0), (62, .iconst 4, 63, 0, 0, 0, 0), (63, .aload_n 0, 64, 0, 0, 0, 0), (64, .invokevirtual 180, 67, 149, 1, 1, 12), (67, .invokevirtual 184, 70, 144, 3, 0, 12)]
def sg_166_70 : List En := [(70, .aload_n 0, 71, 0, 0, 0, 0), (71, .invokevirtual 188, 74, 143, 1, 1, 12), (74, .ifCond .ne 4, 77, 78, 0, 0, 0), (77, .return_, 78, 0, 0, 0, 0)]
def sg_166_78 : List En := [(78, .aload_n 0, 79, 0, 0, 0, 0), (79, .invokevirtual 224, 82, 158, 1, 0, 12), (82, .aload_n 0, 83, 0, 0, 0, 0), (83, .invokevirtual 246, 86, 162, 1, 2, 12), (86, .lstore_n 3, 87, 3, 0, 0, 0), (87, .iconst 0, 88, 0, 0, 0, 0), (88, .istore 5, 90, 5, 0, 0, 0)]
def sg_166_90 : List En := [(90, .iload 5, 92, 5, 0, 0, 0), (92, .iload_n 2, 93, 2, 0, 0, 0), (93, .if_icmp .ge 37, 96, 130, 0, 0, 0), (96, .aload_n 0, 97, 0, 0, 0, 0), (97, .invokevirtual 188, 100, 143, 1, 1, 12), (100, .ifCond .eq 30, 103, 130, 0, 0, 0), (103, .aload_n 0, 104, 0, 0, 0, 0), (104, .getfield 31, 107, 12, 14, 18, 0), (107, .iload 5, 109, 5, 0, 0, 0), (109, .laload, 110, 0, 0, 0, 0), (110, .lload_n 3, 111, 3, 0, 0, 0), (111, .lcmp, 112, 0, 0, 0, 0), (112, .ifCond .ne 12, 115, 124, 0, 0, 0), (115, .aload_n 0, 116, 0, 0, 0, 0), (116, .iconst 3, 117, 0, 0, 0, 0), (117, .aload_n 0, 118, 0, 0, 0, 0), (118, .getfield 234, 121, 12, 0, 12, 0), (121, .invokevirtual 184, 124, 144, 3, 0, 12)]
def sg_166_124 : List En := [(124, .iinc 5 1, 127, 5, 0, 1, 0), (127, .goto (-37), 130, 90, 0, 0, 0)]
def sg_166_130 : List En := [(130, .aload_n 0, 131, 0, 0, 0, 0), (131, .invokevirtual 253, 134, 164, 1, 1, 12), (134, .istore 5, 136, 5, 0, 0, 0), (136, .aload_n 0, 137, 0, 0, 0, 0), (137, .invokevirtual 188, 140, 143, 1, 1, 12), (140, .ifCond .ne 4, 143, 144, 0, 0, 0), (143, .return_, 144, 0, 0, 0, 0)]
def sg_166_144 : List En := [(144, .aload_n 0, 145, 0, 0, 0, 0), (145, .getfield 31, 148, 12, 14, 18, 0), (148, .iload_n 2, 149, 2, 0, 0, 0), (149, .lload_n 3, 150, 3, 0, 0, 0), (150, .lastore, 151, 0, 0, 0, 0), (151, .aload_n 0, 152, 0, 0, 0, 0), (152, .getfield 28, 155, 12, 12, 17, 0), (155, .bipush 8, 157, 0, 0, 0, 0), (157, .iload_n 2, 158, 2, 0, 0, 0), (158, .imul, 159, 0, 0, 0, 0), (159, .iconst 0, 160, 0, 0, 0, 0), (160, .iadd, 161, 0, 0, 0, 0), (161, .iload 5, 163, 5, 0, 0, 0), (163, .iastore, 164, 0, 0, 0, 0), (164, .aload_n 0, 165, 0, 0, 0, 0), (165, .getfield 28, 168, 12, 12, 17, 0), (168, .bipush 8, 170, 0, 0, 0, 0), (170, .iload_n 2, 171, 2, 0, 0, 0), (171, .imul, 172, 0, 0, 0, 0), (172, .iconst 1, 173, 0, 0, 0, 0), (173, .iadd, 174, 0, 0, 0, 0), (174, .iload_n 1, 175, 1, 0, 0, 0), (175, .invokestatic 256, 178, 138, 1, 1, 0), (178, .iastore, 179, 0, 0, 0, 0), (179, .iload_n 1, 180, 1, 0, 0, 0), (180, .ifCond .eq 8, 183, 188, 0, 0, 0), (183, .aload_n 0, 184, 0, 0, 0, 0), (184, .iload_n 2, 185, 2, 0, 0, 0), (185, .invokevirtual 260, 188, 165, 2, 0, 12)]
def sg_166_188 : List En := [(188, .aload_n 0, 189, 0, 0, 0, 0), (189, .bipush 59, 191, 0, 0, 0, 0), (191, .invokevirtual 250, 194, 154, 2, 0, 12), (194, .aload_n 0, 195, 0, 0, 0, 0), (195, .getfield 28, 198, 12, 12, 17, 0), (198, .sipush 192, 201, 0, 0, 0, 0), (201, .dup2, 202, 0, 0, 0, 0), (202, .iaload, 203, 0, 0, 0, 0), (203, .iconst 1, 204, 0, 0, 0, 0), (204, .iadd, 205, 0, 0, 0, 0), (205, .iastore, 206, 0, 0, 0, 0), (206, .return_, 207, 0, 0, 0, 0)]
def pg_166 : List En := sg_166_0 ++ sg_166_46 ++ sg_166_70 ++ sg_166_78 ++ sg_166_90 ++ sg_166_124 ++ sg_166_130 ++ sg_166_144 ++ sg_166_188
/-! 167 LeastFailingModel.leastOf -/
def sg_167_0 : List En := [(0, .iconst 1, 1, 0, 0, 0, 0), (1, .istore_n 2, 2, 2, 0, 0, 0), (2, .iconst 0, 3, 0, 0, 0, 0), (3, .istore_n 3, 4, 3, 0, 0, 0)]
def sg_167_4 : List En := [(4, .iload_n 3, 5, 3, 0, 0, 0), (5, .aload_n 0, 6, 0, 0, 0, 0), (6, .getfield 28, 9, 12, 12, 17, 0), (9, .bipush 8, 11, 0, 0, 0, 0), (11, .iload_n 1, 12, 1, 0, 0, 0), (12, .imul, 13, 0, 0, 0, 0), (13, .iconst 2, 14, 0, 0, 0, 0), (14, .iadd, 15, 0, 0, 0, 0), (15, .iaload, 16, 0, 0, 0, 0), (16, .aload_n 0, 17, 0, 0, 0, 0), (17, .getfield 28, 20, 12, 12, 17, 0), (20, .bipush 8, 22, 0, 0, 0, 0), (22, .iload_n 1, 23, 1, 0, 0, 0), (23, .imul, 24, 0, 0, 0, 0), (24, .iconst 3, 25, 0, 0, 0, 0), (25, .iadd, 26, 0, 0, 0, 0), (26, .iaload, 27, 0, 0, 0, 0), (27, .isub, 28, 0, 0, 0, 0), (28, .if_icmp .ge 55, 31, 83, 0, 0, 0), (31, .aload_n 0, 32, 0, 0, 0, 0), (32, .getfield 43, 35, 12, 22, 22, 0), (35, .aload_n 0, 36, 0, 0, 0, 0), (36, .getfield 28, 39, 12, 12, 17, 0), (39, .bipush 8, 41, 0, 0, 0, 0), (41, .iload_n 1, 42, 1, 0, 0, 0), (42, .imul, 43, 0, 0, 0, 0), (43, .iconst 4, 44, 0, 0, 0, 0), (44, .iadd, 45, 0, 0, 0, 0), (45, .iload_n 3, 46, 3, 0, 0, 0), (46, .iadd, 47, 0, 0, 0, 0), (47, .iaload, 48, 0, 0, 0, 0), (48, .iaload, 49, 0, 0, 0, 0), (49, .istore 4, 51, 4, 0, 0, 0), (51, .iload 4, 53, 4, 0, 0, 0), (53, .ldc_w 263, 56, 0, 0, 1000000, 0), (56, .if_icmp .eq 10, 59, 66, 0, 0, 0), (59, .iload_n 2, 60, 2, 0, 0, 0), (60, .ldc_w 263, 63, 0, 0, 1000000, 0), (63, .if_icmp .ne 9, 66, 72, 0, 0, 0)]
def sg_167_66 : List En := [(66, .ldc_w 263, 69, 0, 0, 1000000, 0), (69, .goto 7, 72, 76, 0, 0, 0)]
def sg_167_72 : List En := [(72, .iload_n 2, 73, 2, 0, 0, 0), (73, .iload 4, 75, 4, 0, 0, 0), (75, .iadd, 76, 0, 0, 0, 0)]
def sg_167_76 : List En := [(76, .istore_n 2, 77, 2, 0, 0, 0), (77, .iinc 3 1, 80, 3, 0, 1, 0), (80, .goto (-76), 83, 4, 0, 0, 0)]
def sg_167_83 : List En := [(83, .iload_n 2, 84, 2, 0, 0, 0), (84, .ireturn, 85, 0, 0, 0, 0)]
def pg_167 : List En := sg_167_0 ++ sg_167_4 ++ sg_167_66 ++ sg_167_72 ++ sg_167_76 ++ sg_167_83
/-! 168 LeastFailingModel.laysLeast -/
def sg_168_0 : List En := [(0, .iconst 0, 1, 0, 0, 0, 0), (1, .istore_n 1, 2, 1, 0, 0, 0)]
def sg_168_2 : List En := [(2, .iload_n 1, 3, 1, 0, 0, 0), (3, .bipush 6, 5, 0, 0, 0, 0), (5, .if_icmp .ge 18, 8, 23, 0, 0, 0), (8, .aload_n 0, 9, 0, 0, 0, 0), (9, .getfield 43, 12, 12, 22, 22, 0), (12, .iload_n 1, 13, 1, 0, 0, 0), (13, .ldc_w 263, 16, 0, 0, 1000000, 0), (16, .iastore, 17, 0, 0, 0, 0), (17, .iinc 1 1, 20, 1, 0, 1, 0), (20, .goto (-18), 23, 2, 0, 0, 0)]
def sg_168_23 : List En := [(23, .iconst 0, 24, 0, 0, 0, 0), (24, .istore_n 1, 25, 1, 0, 0, 0)]
def sg_168_25 : List En := [(25, .iload_n 1, 26, 1, 0, 0, 0), (26, .bipush 6, 28, 0, 0, 0, 0), (28, .if_icmp .gt 66, 31, 94, 0, 0, 0), (31, .iconst 0, 32, 0, 0, 0, 0), (32, .istore_n 2, 33, 2, 0, 0, 0)]
def sg_168_33 : List En := [(33, .iload_n 2, 34, 2, 0, 0, 0), (34, .aload_n 0, 35, 0, 0, 0, 0), (35, .getfield 28, 38, 12, 12, 17, 0), (38, .sipush 192, 41, 0, 0, 0, 0), (41, .iaload, 42, 0, 0, 0, 0), (42, .if_icmp .ge 46, 45, 88, 0, 0, 0), (45, .aload_n 0, 46, 0, 0, 0, 0), (46, .getfield 28, 49, 12, 12, 17, 0), (49, .bipush 8, 51, 0, 0, 0, 0), (51, .iload_n 2, 52, 2, 0, 0, 0), (52, .imul, 53, 0, 0, 0, 0), (53, .iconst 0, 54, 0, 0, 0, 0), (54, .iadd, 55, 0, 0, 0, 0), (55, .iaload, 56, 0, 0, 0, 0), (56, .istore_n 3, 57, 3, 0, 0, 0), (57, .aload_n 0, 58, 0, 0, 0, 0), (58, .iload_n 2, 59, 2, 0, 0, 0), (59, .invokevirtual 264, 62, 167, 2, 1, 12), (62, .aload_n 0, 63, 0, 0, 0, 0), (63, .getfield 43, 66, 12, 22, 22, 0), (66, .iload_n 3, 67, 3, 0, 0, 0), (67, .iaload, 68, 0, 0, 0, 0), (68, .if_icmp .ge 14, 71, 82, 0, 0, 0), (71, .aload_n 0, 72, 0, 0, 0, 0), (72, .getfield 43, 75, 12, 22, 22, 0), (75, .iload_n 3, 76, 3, 0, 0, 0), (76, .aload_n 0, 77, 0, 0, 0, 0), (77, .iload_n 2, 78, 2, 0, 0, 0), (78, .invokevirtual 264, 81, 167, 2, 1, 12), (81, .iastore, 82, 0, 0, 0, 0)]
def sg_168_82 : List En := [(82, .iinc 2 1, 85, 2, 0, 1, 0), (85, .goto (-52), 88, 33, 0, 0, 0)]
def sg_168_88 : List En := [(88, .iinc 1 1, 91, 1, 0, 1, 0), (91, .goto (-66), 94, 25, 0, 0, 0)]
def sg_168_94 : List En := [(94, .iconst 0, 95, 0, 0, 0, 0), (95, .istore_n 1, 96, 1, 0, 0, 0)]
def sg_168_96 : List En := [(96, .iload_n 1, 97, 1, 0, 0, 0), (97, .aload_n 0, 98, 0, 0, 0, 0), (98, .getfield 28, 101, 12, 12, 17, 0), (101, .sipush 193, 104, 0, 0, 0, 0), (104, .iaload, 105, 0, 0, 0, 0), (105, .if_icmp .ge 30, 108, 135, 0, 0, 0), (108, .aload_n 0, 109, 0, 0, 0, 0), (109, .getfield 43, 112, 12, 22, 22, 0), (112, .iload_n 1, 113, 1, 0, 0, 0), (113, .iaload, 114, 0, 0, 0, 0), (114, .ldc_w 263, 117, 0, 0, 1000000, 0), (117, .if_icmp .ne 12, 120, 129, 0, 0, 0), (120, .aload_n 0, 121, 0, 0, 0, 0), (121, .iconst 5, 122, 0, 0, 0, 0), (122, .aload_n 0, 123, 0, 0, 0, 0), (123, .getfield 150, 126, 12, 0, 3, 0), (126, .invokevirtual 184, 129, 144, 3, 0, 12)]
def sg_168_129 : List En := [(129, .iinc 1 1, 132, 1, 0, 1, 0), (132, .goto (-36), 135, 96, 0, 0, 0)]
def sg_168_135 : List En := [(135, .return_, 136, 0, 0, 0, 0)]
def pg_168 : List En := sg_168_0 ++ sg_168_2 ++ sg_168_23 ++ sg_168_25 ++ sg_168_33 ++ sg_168_82 ++ sg_168_88 ++ sg_168_94 ++ sg_168_96 ++ sg_168_129 ++ sg_168_135
/-! 169 LeastFailingModel.grammar -/
def sg_169_0 : List En := [(0, .aload_n 0, 1, 0, 0, 0, 0), (1, .iconst 0, 2, 0, 0, 0, 0), (2, .putfield 136, 5, 12, 0, 0, 0), (5, .aload_n 0, 6, 0, 0, 0, 0), (6, .invokevirtual 267, 9, 142, 1, 0, 12), (9, .iconst 0, 10, 0, 0, 0, 0), (10, .istore_n 1, 11, 1, 0, 0, 0)]
def sg_169_11 : List En := [(11, .iload_n 1, 12, 1, 0, 0, 0), (12, .sipush 194, 15, 0, 0, 0, 0), (15, .if_icmp .ge 16, 18, 31, 0, 0, 0), (18, .aload_n 0, 19, 0, 0, 0, 0), (19, .getfield 28, 22, 12, 12, 17, 0), (22, .iload_n 1, 23, 1, 0, 0, 0), (23, .iconst 0, 24, 0, 0, 0, 0), (24, .iastore, 25, 0, 0, 0, 0), (25, .iinc 1 1, 28, 1, 0, 1, 0), (28, .goto (-17), 31, 11, 0, 0, 0)]
def sg_169_31 : List En := [(31, .aload_n 0, 32, 0, 0, 0, 0), (32, .invokevirtual 270, 35, 150, 1, 1, 12), (35, .ifCond .eq 7, 38, 42, 0, 0, 0), (38, .aload_n 0, 39, 0, 0, 0, 0), (39, .invokevirtual 199, 42, 151, 1, 0, 12)]
def sg_169_42 : List En := [(42, .aload_n 0, 43, 0, 0, 0, 0), (43, .invokevirtual 188, 46, 143, 1, 1, 12), (46, .ifCond .eq 17, 49, 63, 0, 0, 0), (49, .aload_n 0, 50, 0, 0, 0, 0), (50, .invokevirtual 270, 53, 150, 1, 1, 12), (53, .ifCond .ne 10, 56, 63, 0, 0, 0), (56, .aload_n 0, 57, 0, 0, 0, 0), (57, .invokevirtual 273, 60, 166, 1, 0, 12), (60, .goto (-18), 63, 42, 0, 0, 0)]
def sg_169_63 : List En := [(63, .aload_n 0, 64, 0, 0, 0, 0), (64, .invokevirtual 188, 67, 143, 1, 1, 12), (67, .ifCond .eq 7, 70, 74, 0, 0, 0), (70, .aload_n 0, 71, 0, 0, 0, 0), (71, .invokevirtual 276, 74, 168, 1, 0, 12)]
def sg_169_74 : List En := [(74, .aload_n 0, 75, 0, 0, 0, 0), (75, .invokevirtual 279, 78, 145, 1, 1, 12), (78, .ifCond .ne 5, 81, 83, 0, 0, 0), (81, .iconst (-1), 82, 0, 0, 0, 0), (82, .ireturn, 83, 0, 0, 0, 0)]
def sg_169_83 : List En := [(83, .iconst 0, 84, 0, 0, 0, 0), (84, .istore_n 1, 85, 1, 0, 0, 0)]
def sg_169_85 : List En := [(85, .iload_n 1, 86, 1, 0, 0, 0), (86, .sipush 194, 89, 0, 0, 0, 0), (89, .if_icmp .ge 21, 92, 110, 0, 0, 0), (92, .aload_n 0, 93, 0, 0, 0, 0), (93, .getfield 17, 96, 12, 6, 14, 0), (96, .iload_n 1, 97, 1, 0, 0, 0), (97, .aload_n 0, 98, 0, 0, 0, 0), (98, .getfield 28, 101, 12, 12, 17, 0), (101, .iload_n 1, 102, 1, 0, 0, 0), (102, .iaload, 103, 0, 0, 0, 0), (103, .iastore, 104, 0, 0, 0, 0), (104, .iinc 1 1, 107, 1, 0, 1, 0), (107, .goto (-22), 110, 85, 0, 0, 0)]
def sg_169_110 : List En := [(110, .iconst 0, 111, 0, 0, 0, 0), (111, .istore_n 1, 112, 1, 0, 0, 0)]
def sg_169_112 : List En := [(112, .iload_n 1, 113, 1, 0, 0, 0), (113, .bipush 24, 115, 0, 0, 0, 0), (115, .if_icmp .ge 21, 118, 136, 0, 0, 0), (118, .aload_n 0, 119, 0, 0, 0, 0), (119, .getfield 21, 122, 12, 8, 15, 0), (122, .iload_n 1, 123, 1, 0, 0, 0), (123, .aload_n 0, 124, 0, 0, 0, 0), (124, .getfield 31, 127, 12, 14, 18, 0), (127, .iload_n 1, 128, 1, 0, 0, 0), (128, .laload, 129, 0, 0, 0, 0), (129, .lastore, 130, 0, 0, 0, 0), (130, .iinc 1 1, 133, 1, 0, 1, 0), (133, .goto (-21), 136, 112, 0, 0, 0)]
def sg_169_136 : List En := [(136, .iconst 0, 137, 0, 0, 0, 0), (137, .istore_n 1, 138, 1, 0, 0, 0)]
def sg_169_138 : List En := [(138, .iload_n 1, 139, 1, 0, 0, 0), (139, .bipush 6, 141, 0, 0, 0, 0), (141, .if_icmp .ge 40, 144, 181, 0, 0, 0), (144, .aload_n 0, 145, 0, 0, 0, 0), (145, .getfield 25, 148, 12, 10, 16, 0), (148, .iload_n 1, 149, 1, 0, 0, 0), (149, .aload_n 0, 150, 0, 0, 0, 0), (150, .getfield 34, 153, 12, 16, 19, 0), (153, .iload_n 1, 154, 1, 0, 0, 0), (154, .laload, 155, 0, 0, 0, 0), (155, .lastore, 156, 0, 0, 0, 0), (156, .aload_n 0, 157, 0, 0, 0, 0), (157, .getfield 37, 160, 12, 18, 20, 0), (160, .iload_n 1, 161, 1, 0, 0, 0), (161, .aload_n 0, 162, 0, 0, 0, 0), (162, .getfield 43, 165, 12, 22, 22, 0), (165, .iload_n 1, 166, 1, 0, 0, 0), (166, .iaload, 167, 0, 0, 0, 0), (167, .iastore, 168, 0, 0, 0, 0), (168, .aload_n 0, 169, 0, 0, 0, 0), (169, .getfield 40, 172, 12, 20, 21, 0), (172, .iload_n 1, 173, 1, 0, 0, 0), (173, .iconst (-1), 174, 0, 0, 0, 0), (174, .iastore, 175, 0, 0, 0, 0), (175, .iinc 1 1, 178, 1, 0, 1, 0), (178, .goto (-40), 181, 138, 0, 0, 0)]
def sg_169_181 : List En := [(181, .aload_n 0, 182, 0, 0, 0, 0), (182, .getfield 17, 185, 12, 6, 14, 0), (185, .sipush 192, 188, 0, 0, 0, 0), (188, .iaload, 189, 0, 0, 0, 0), (189, .iconst 1, 190, 0, 0, 0, 0), (190, .isub, 191, 0, 0, 0, 0), (191, .istore_n 1, 192, 1, 0, 0, 0)]
def sg_169_192 : List En := [(192, .iload_n 1, 193, 1, 0, 0, 0), (193, .ifCond .lt 40, 196, 233, 0, 0, 0), (196, .aload_n 0, 197, 0, 0, 0, 0), (197, .iload_n 1, 198, 1, 0, 0, 0), (198, .invokevirtual 264, 201, 167, 2, 1, 12), (201, .aload_n 0, 202, 0, 0, 0, 0), (202, .getfield 37, 205, 12, 18, 20, 0), (205, .aload_n 0, 206, 0, 0, 0, 0), (206, .iload_n 1, 207, 1, 0, 0, 0), (207, .iconst 0, 208, 0, 0, 0, 0), (208, .invokevirtual 282, 211, 170, 3, 1, 12), (211, .iaload, 212, 0, 0, 0, 0), (212, .if_icmp .ne 15, 215, 227, 0, 0, 0), (215, .aload_n 0, 216, 0, 0, 0, 0), (216, .getfield 40, 219, 12, 20, 21, 0), (219, .aload_n 0, 220, 0, 0, 0, 0), (220, .iload_n 1, 221, 1, 0, 0, 0), (221, .iconst 0, 222, 0, 0, 0, 0), (222, .invokevirtual 282, 225, 170, 3, 1, 12), (225, .iload_n 1, 226, 1, 0, 0, 0), (226, .iastore, 227, 0, 0, 0, 0)]
def sg_169_227 : List En := [(227, .iinc 1 (-1), 230, 1, 0, -1, 0), (230, .goto (-38), 233, 192, 0, 0, 0)]
def sg_169_233 : List En := [(233, .aload_n 0, 234, 0, 0, 0, 0), (234, .getfield 46, 237, 12, 24, 23, 0), (237, .iconst 0, 238, 0, 0, 0, 0), (238, .iconst 0, 239, 0, 0, 0, 0), (239, .iastore, 240, 0, 0, 0, 0), (240, .aload_n 0, 241, 0, 0, 0, 0), (241, .iconst 0, 242, 0, 0, 0, 0), (242, .putfield 286, 245, 12, 0, 37, 0), (245, .aload_n 0, 246, 0, 0, 0, 0), (246, .iconst 0, 247, 0, 0, 0, 0), (247, .putfield 289, 250, 12, 0, 24, 0), (250, .aload_n 0, 251, 0, 0, 0, 0), (251, .invokevirtual 292, 254, 209, 1, 0, 12), (254, .aload_n 0, 255, 0, 0, 0, 0), (255, .getfield 17, 258, 12, 6, 14, 0), (258, .sipush 192, 261, 0, 0, 0, 0), (261, .iaload, 262, 0, 0, 0, 0), (262, .ireturn, 263, 0, 0, 0, 0)]
def pg_169 : List En := sg_169_0 ++ sg_169_11 ++ sg_169_31 ++ sg_169_42 ++ sg_169_63 ++ sg_169_74 ++ sg_169_83 ++ sg_169_85 ++ sg_169_110 ++ sg_169_112 ++ sg_169_136 ++ sg_169_138 ++ sg_169_181 ++ sg_169_192 ++ sg_169_227 ++ sg_169_233
/-! 170 LeastFailingModel.ofLine -/
def sg_170_0 : List En := [(0, .aload_n 0, 1, 0, 0, 0, 0), (1, .getfield 17, 4, 12, 6, 14, 0), (4, .bipush 8, 6, 0, 0, 0, 0), (6, .iload_n 1, 7, 1, 0, 0, 0), (7, .imul, 8, 0, 0, 0, 0), (8, .iload_n 2, 9, 2, 0, 0, 0), (9, .iadd, 10, 0, 0, 0, 0), (10, .iaload, 11, 0, 0, 0, 0), (11, .ireturn, 12, 0, 0, 0, 0)]
def pg_170 : List En := sg_170_0
/-! 171 LeastFailingModel.lineOf -/
def sg_171_0 : List En := [(0, .iconst 0, 1, 0, 0, 0, 0), (1, .istore_n 3, 2, 3, 0, 0, 0)]
def sg_171_2 : List En := [(2, .iload_n 3, 3, 3, 0, 0, 0), (3, .aload_n 0, 4, 0, 0, 0, 0), (4, .getfield 17, 7, 12, 6, 14, 0), (7, .sipush 192, 10, 0, 0, 0, 0), (10, .iaload, 11, 0, 0, 0, 0), (11, .if_icmp .ge 22, 14, 33, 0, 0, 0), (14, .aload_n 0, 15, 0, 0, 0, 0), (15, .getfield 21, 18, 12, 8, 15, 0), (18, .iload_n 3, 19, 3, 0, 0, 0), (19, .laload, 20, 0, 0, 0, 0), (20, .lload_n 1, 21, 1, 0, 0, 0), (21, .lcmp, 22, 0, 0, 0, 0), (22, .ifCond .ne 5, 25, 27, 0, 0, 0), (25, .iload_n 3, 26, 3, 0, 0, 0), (26, .ireturn, 27, 0, 0, 0, 0)]
def sg_171_27 : List En := [(27, .iinc 3 1, 30, 3, 0, 1, 0), (30, .goto (-28), 33, 2, 0, 0, 0)]
def sg_171_33 : List En := [(33, .iconst (-1), 34, 0, 0, 0, 0), (34, .ireturn, 35, 0, 0, 0, 0)]
def pg_171 : List En := sg_171_0 ++ sg_171_2 ++ sg_171_27 ++ sg_171_33
/-! 172 LeastFailingModel.fixed -/
def sg_172_0 : List En := [(0, .aload_n 0, 1, 0, 0, 0, 0), (1, .iload_n 1, 2, 1, 0, 0, 0), (2, .iconst 2, 3, 0, 0, 0, 0), (3, .invokevirtual 282, 6, 170, 3, 1, 12), (6, .aload_n 0, 7, 0, 0, 0, 0), (7, .iload_n 1, 8, 1, 0, 0, 0), (8, .iconst 3, 9, 0, 0, 0, 0), (9, .invokevirtual 282, 12, 170, 3, 1, 12), (12, .isub, 13, 0, 0, 0, 0), (13, .ireturn, 14, 0, 0, 0, 0)]
def pg_172 : List En := sg_172_0
/-! 173 LeastFailingModel.sortOfPart -/
def sg_173_0 : List En := [(0, .iload_n 2, 1, 2, 0, 0, 0), (1, .aload_n 0, 2, 0, 0, 0, 0), (2, .iload_n 1, 3, 1, 0, 0, 0), (3, .invokevirtual 295, 6, 172, 2, 1, 12), (6, .if_icmp .ge 12, 9, 18, 0, 0, 0), (9, .aload_n 0, 10, 0, 0, 0, 0), (10, .iload_n 1, 11, 1, 0, 0, 0), (11, .iconst 4, 12, 0, 0, 0, 0), (12, .iload_n 2, 13, 2, 0, 0, 0), (13, .iadd, 14, 0, 0, 0, 0), (14, .invokevirtual 282, 17, 170, 3, 1, 12), (17, .ireturn, 18, 0, 0, 0, 0)]
def sg_173_18 : List En := [(18, .aload_n 0, 19, 0, 0, 0, 0), (19, .iload_n 1, 20, 1, 0, 0, 0), (20, .iconst 3, 21, 0, 0, 0, 0), (21, .invokevirtual 282, 24, 170, 3, 1, 12), (24, .iconst 1, 25, 0, 0, 0, 0), (25, .if_icmp .ne 21, 28, 46, 0, 0, 0), (28, .aload_n 0, 29, 0, 0, 0, 0), (29, .iload_n 1, 30, 1, 0, 0, 0), (30, .iconst 4, 31, 0, 0, 0, 0), (31, .aload_n 0, 32, 0, 0, 0, 0), (32, .iload_n 1, 33, 1, 0, 0, 0), (33, .iconst 2, 34, 0, 0, 0, 0), (34, .invokevirtual 282, 37, 170, 3, 1, 12), (37, .iadd, 38, 0, 0, 0, 0), (38, .iconst 1, 39, 0, 0, 0, 0), (39, .isub, 40, 0, 0, 0, 0), (40, .invokevirtual 282, 43, 170, 3, 1, 12), (43, .goto 4, 46, 47, 0, 0, 0)]
def sg_173_46 : List En := [(46, .iconst (-1), 47, 0, 0, 0, 0)]
def sg_173_47 : List En := [(47, .ireturn, 48, 0, 0, 0, 0)]
def pg_173 : List En := sg_173_0 ++ sg_173_18 ++ sg_173_46 ++ sg_173_47
/-! 174 LeastFailingModel.many -/
def sg_174_0 : List En := [(0, .aload_n 0, 1, 0, 0, 0, 0), (1, .getfield 46, 4, 12, 24, 23, 0), (4, .iload_n 1, 5, 1, 0, 0, 0), (5, .iaload, 6, 0, 0, 0, 0), (6, .ireturn, 7, 0, 0, 0, 0)]
def pg_174 : List En := sg_174_0
/-! 175 LeastFailingModel.nameOf -/
def sg_175_0 : List En := [(0, .aload_n 0, 1, 0, 0, 0, 0), (1, .getfield 46, 4, 12, 24, 23, 0), (4, .iload_n 1, 5, 1, 0, 0, 0), (5, .iconst 1, 6, 0, 0, 0, 0), (6, .iadd, 7, 0, 0, 0, 0), (7, .iload_n 2, 8, 2, 0, 0, 0), (8, .iadd, 9, 0, 0, 0, 0), (9, .iaload, 10, 0, 0, 0, 0), (10, .ireturn, 11, 0, 0, 0, 0)]
def pg_175 : List En := sg_175_0
/-! 176 LeastFailingModel.sizeOf -/
def sg_176_0 : List En := [(0, .aload_n 0, 1, 0, 0, 0, 0), (1, .getfield 46, 4, 12, 24, 23, 0), (4, .iload_n 1, 5, 1, 0, 0, 0), (5, .bipush 81, 7, 0, 0, 0, 0), (7, .iadd, 8, 0, 0, 0, 0), (8, .iload_n 2, 9, 2, 0, 0, 0), (9, .iadd, 10, 0, 0, 0, 0), (10, .iaload, 11, 0, 0, 0, 0), (11, .ireturn, 12, 0, 0, 0, 0)]
def pg_176 : List En := sg_176_0
/-! 177 LeastFailingModel.copies -/
def sg_177_0 : List En := [(0, .iconst 0, 1, 0, 0, 0, 0), (1, .istore_n 3, 2, 3, 0, 0, 0)]
def sg_177_2 : List En := [(2, .iload_n 3, 3, 3, 0, 0, 0), (3, .sipush 161, 6, 0, 0, 0, 0), (6, .if_icmp .ge 25, 9, 31, 0, 0, 0), (9, .aload_n 0, 10, 0, 0, 0, 0), (10, .getfield 46, 13, 12, 24, 23, 0), (13, .iload_n 1, 14, 1, 0, 0, 0), (14, .iload_n 3, 15, 3, 0, 0, 0), (15, .iadd, 16, 0, 0, 0, 0), (16, .aload_n 0, 17, 0, 0, 0, 0), (17, .getfield 46, 20, 12, 24, 23, 0), (20, .iload_n 2, 21, 2, 0, 0, 0), (21, .iload_n 3, 22, 3, 0, 0, 0), (22, .iadd, 23, 0, 0, 0, 0), (23, .iaload, 24, 0, 0, 0, 0), (24, .iastore, 25, 0, 0, 0, 0), (25, .iinc 3 1, 28, 3, 0, 1, 0), (28, .goto (-26), 31, 2, 0, 0, 0)]
def sg_177_31 : List En := [(31, .return_, 32, 0, 0, 0, 0)]
def pg_177 : List En := sg_177_0 ++ sg_177_2 ++ sg_177_31
/-! 178 LeastFailingModel.adds -/
def sg_178_0 : List En := [(0, .aload_n 0, 1, 0, 0, 0, 0), (1, .getfield 46, 4, 12, 24, 23, 0), (4, .iload_n 1, 5, 1, 0, 0, 0), (5, .iaload, 6, 0, 0, 0, 0), (6, .istore_n 3, 7, 3, 0, 0, 0), (7, .aload_n 0, 8, 0, 0, 0, 0), (8, .getfield 46, 11, 12, 24, 23, 0), (11, .iload_n 1, 12, 1, 0, 0, 0), (12, .iconst 1, 13, 0, 0, 0, 0), (13, .iadd, 14, 0, 0, 0, 0), (14, .iload_n 3, 15, 3, 0, 0, 0), (15, .iadd, 16, 0, 0, 0, 0), (16, .iload_n 2, 17, 2, 0, 0, 0), (17, .iastore, 18, 0, 0, 0, 0), (18, .aload_n 0, 19, 0, 0, 0, 0), (19, .getfield 46, 22, 12, 24, 23, 0), (22, .iload_n 1, 23, 1, 0, 0, 0), (23, .bipush 81, 25, 0, 0, 0, 0), (25, .iadd, 26, 0, 0, 0, 0), (26, .iload_n 3, 27, 3, 0, 0, 0), (27, .iadd, 28, 0, 0, 0, 0), (28, .iconst 1, 29, 0, 0, 0, 0), (29, .iastore, 30, 0, 0, 0, 0), (30, .aload_n 0, 31, 0, 0, 0, 0), (31, .getfield 46, 34, 12, 24, 23, 0), (34, .iload_n 1, 35, 1, 0, 0, 0), (35, .dup2, 36, 0, 0, 0, 0), (36, .iaload, 37, 0, 0, 0, 0), (37, .iconst 1, 38, 0, 0, 0, 0), (38, .iadd, 39, 0, 0, 0, 0), (39, .iastore, 40, 0, 0, 0, 0), (40, .iload_n 3, 41, 3, 0, 0, 0), (41, .ireturn, 42, 0, 0, 0, 0)]
def pg_178 : List En := sg_178_0
/-! 179 LeastFailingModel.stands -/
def sg_179_0 : List En := [(0, .aload_n 0, 1, 0, 0, 0, 0), (1, .iload_n 1, 2, 1, 0, 0, 0), (2, .iconst 1, 3, 0, 0, 0, 0), (3, .invokevirtual 282, 6, 170, 3, 1, 12), (6, .iconst 1, 7, 0, 0, 0, 0), (7, .if_icmp .ne 7, 10, 14, 0, 0, 0), (10, .iconst 1, 11, 0, 0, 0, 0), (11, .goto 4, 14, 15, 0, 0, 0)]
def sg_179_14 : List En := [(14, .iconst 0, 15, 0, 0, 0, 0)]
def sg_179_15 : List En := [(15, .istore 4, 17, 4, 0, 0, 0), (17, .aload_n 0, 18, 0, 0, 0, 0), (18, .getfield 298, 21, 12, 0, 28, 0), (21, .ifCond .ne 7, 24, 28, 0, 0, 0), (24, .iconst 0, 25, 0, 0, 0, 0), (25, .goto 36, 28, 61, 0, 0, 0)]
def sg_179_28 : List En := [(28, .aload_n 0, 29, 0, 0, 0, 0), (29, .aload_n 0, 30, 0, 0, 0, 0), (30, .sipush 322, 33, 0, 0, 0, 0), (33, .aload_n 0, 34, 0, 0, 0, 0), (34, .getfield 49, 37, 12, 26, 26, 0), (37, .aload_n 0, 38, 0, 0, 0, 0), (38, .getfield 298, 41, 12, 0, 28, 0), (41, .iconst 1, 42, 0, 0, 0, 0), (42, .isub, 43, 0, 0, 0, 0), (43, .iaload, 44, 0, 0, 0, 0), (44, .invokevirtual 301, 47, 175, 3, 1, 12), (47, .aload_n 0, 48, 0, 0, 0, 0), (48, .getfield 52, 51, 12, 28, 27, 0), (51, .aload_n 0, 52, 0, 0, 0, 0), (52, .getfield 298, 55, 12, 0, 28, 0), (55, .iconst 1, 56, 0, 0, 0, 0), (56, .isub, 57, 0, 0, 0, 0), (57, .iaload, 58, 0, 0, 0, 0), (58, .invokevirtual 304, 61, 173, 3, 1, 12)]
def sg_179_61 : List En := [(61, .istore 5, 63, 5, 0, 0, 0), (63, .iload 4, 65, 4, 0, 0, 0), (65, .iload_n 2, 66, 2, 0, 0, 0), (66, .if_icmp .ne 14, 69, 80, 0, 0, 0), (69, .iload 5, 71, 5, 0, 0, 0), (71, .aload_n 0, 72, 0, 0, 0, 0), (72, .iload_n 1, 73, 1, 0, 0, 0), (73, .iconst 0, 74, 0, 0, 0, 0), (74, .invokevirtual 282, 77, 170, 3, 1, 12), (77, .if_icmp .eq 9, 80, 86, 0, 0, 0)]
def sg_179_80 : List En := [(80, .aload_n 0, 81, 0, 0, 0, 0), (81, .iconst 5, 82, 0, 0, 0, 0), (82, .iload_n 3, 83, 3, 0, 0, 0), (83, .invokevirtual 184, 86, 144, 3, 0, 12)]
def sg_179_86 : List En := [(86, .return_, 87, 0, 0, 0, 0)]
def pg_179 : List En := sg_179_0 ++ sg_179_14 ++ sg_179_15 ++ sg_179_28 ++ sg_179_61 ++ sg_179_80 ++ sg_179_86
/-! 180 LeastFailingModel.treeGoesOn -/
def sg_180_0 : List En := [(0, .aload_n 0, 1, 0, 0, 0, 0), (1, .bipush 40, 3, 0, 0, 0, 0), (3, .invokevirtual 192, 6, 152, 2, 1, 12), (6, .istore_n 1, 7, 1, 0, 0, 0), (7, .iload_n 1, 8, 1, 0, 0, 0), (8, .ifCond .eq 43, 11, 51, 0, 0, 0), (11, .aload_n 0, 12, 0, 0, 0, 0), (12, .getfield 298, 15, 12, 0, 28, 0), (15, .bipush 12, 17, 0, 0, 0, 0), (17, .if_icmp .eq 15, 20, 32, 0, 0, 0), (20, .aload_n 0, 21, 0, 0, 0, 0), (21, .sipush 322, 24, 0, 0, 0, 0), (24, .invokevirtual 307, 27, 174, 2, 1, 12), (27, .bipush 80, 29, 0, 0, 0, 0), (29, .if_icmp .ne 12, 32, 41, 0, 0, 0)]
def sg_180_32 : List En := [(32, .aload_n 0, 33, 0, 0, 0, 0), (33, .iconst 4, 34, 0, 0, 0, 0), (34, .aload_n 0, 35, 0, 0, 0, 0), (35, .invokevirtual 180, 38, 149, 1, 1, 12), (38, .invokevirtual 184, 41, 144, 3, 0, 12)]
def sg_180_41 : List En := [(41, .aload_n 0, 42, 0, 0, 0, 0), (42, .dup, 43, 0, 0, 0, 0), (43, .getfield 153, 46, 12, 0, 4, 0), (46, .iconst 1, 47, 0, 0, 0, 0), (47, .iadd, 48, 0, 0, 0, 0), (48, .putfield 153, 51, 12, 0, 4, 0)]
def sg_180_51 : List En := [(51, .aload_n 0, 52, 0, 0, 0, 0), (52, .invokevirtual 246, 55, 162, 1, 2, 12), (55, .lstore_n 2, 56, 2, 0, 0, 0), (56, .aload_n 0, 57, 0, 0, 0, 0), (57, .invokevirtual 188, 60, 143, 1, 1, 12), (60, .ifCond .eq 11, 63, 71, 0, 0, 0), (63, .aload_n 0, 64, 0, 0, 0, 0), (64, .lload_n 2, 65, 2, 0, 0, 0), (65, .invokevirtual 310, 68, 171, 2, 1, 12), (68, .goto 4, 71, 72, 0, 0, 0)]
def sg_180_71 : List En := [(71, .iconst 0, 72, 0, 0, 0, 0)]
def sg_180_72 : List En := [(72, .istore 4, 74, 4, 0, 0, 0), (74, .aload_n 0, 75, 0, 0, 0, 0), (75, .invokevirtual 188, 78, 143, 1, 1, 12), (78, .ifCond .eq 18, 81, 96, 0, 0, 0), (81, .iload 4, 83, 4, 0, 0, 0), (83, .iconst (-1), 84, 0, 0, 0, 0), (84, .if_icmp .ne 12, 87, 96, 0, 0, 0), (87, .aload_n 0, 88, 0, 0, 0, 0), (88, .iconst 3, 89, 0, 0, 0, 0), (89, .aload_n 0, 90, 0, 0, 0, 0), (90, .getfield 234, 93, 12, 0, 12, 0), (93, .invokevirtual 184, 96, 144, 3, 0, 12)]
def sg_180_96 : List En := [(96, .aload_n 0, 97, 0, 0, 0, 0), (97, .invokevirtual 188, 100, 143, 1, 1, 12), (100, .ifCond .eq 24, 103, 124, 0, 0, 0), (103, .aload_n 0, 104, 0, 0, 0, 0), (104, .sipush 322, 107, 0, 0, 0, 0), (107, .invokevirtual 307, 110, 174, 2, 1, 12), (110, .bipush 80, 112, 0, 0, 0, 0), (112, .if_icmp .ne 12, 115, 124, 0, 0, 0), (115, .aload_n 0, 116, 0, 0, 0, 0), (116, .iconst 4, 117, 0, 0, 0, 0), (117, .aload_n 0, 118, 0, 0, 0, 0), (118, .getfield 234, 121, 12, 0, 12, 0), (121, .invokevirtual 184, 124, 144, 3, 0, 12)]
def sg_180_124 : List En := [(124, .aload_n 0, 125, 0, 0, 0, 0), (125, .invokevirtual 188, 128, 143, 1, 1, 12), (128, .ifCond .eq 14, 131, 142, 0, 0, 0), (131, .aload_n 0, 132, 0, 0, 0, 0), (132, .iload 4, 134, 4, 0, 0, 0), (134, .iload_n 1, 135, 1, 0, 0, 0), (135, .aload_n 0, 136, 0, 0, 0, 0), (136, .getfield 234, 139, 12, 0, 12, 0), (139, .invokevirtual 314, 142, 179, 4, 0, 12)]
def sg_180_142 : List En := [(142, .aload_n 0, 143, 0, 0, 0, 0), (143, .invokevirtual 188, 146, 143, 1, 1, 12), (146, .ifCond .ne 4, 149, 150, 0, 0, 0), (149, .return_, 150, 0, 0, 0, 0)]
def sg_180_150 : List En := [(150, .aload_n 0, 151, 0, 0, 0, 0), (151, .getfield 298, 154, 12, 0, 28, 0), (154, .ifCond .le 18, 157, 172, 0, 0, 0), (157, .aload_n 0, 158, 0, 0, 0, 0), (158, .getfield 52, 161, 12, 28, 27, 0), (161, .aload_n 0, 162, 0, 0, 0, 0), (162, .getfield 298, 165, 12, 0, 28, 0), (165, .iconst 1, 166, 0, 0, 0, 0), (166, .isub, 167, 0, 0, 0, 0), (167, .dup2, 168, 0, 0, 0, 0), (168, .iaload, 169, 0, 0, 0, 0), (169, .iconst 1, 170, 0, 0, 0, 0), (170, .iadd, 171, 0, 0, 0, 0), (171, .iastore, 172, 0, 0, 0, 0)]
def sg_180_172 : List En := [(172, .aload_n 0, 173, 0, 0, 0, 0), (173, .sipush 322, 176, 0, 0, 0, 0), (176, .iload 4, 178, 4, 0, 0, 0), (178, .invokevirtual 318, 181, 178, 3, 1, 12), (181, .istore 5, 183, 5, 0, 0, 0), (183, .iload_n 1, 184, 1, 0, 0, 0), (184, .ifCond .ne 4, 187, 188, 0, 0, 0), (187, .return_, 188, 0, 0, 0, 0)]
def sg_180_188 : List En := [(188, .aload_n 0, 189, 0, 0, 0, 0), (189, .getfield 49, 192, 12, 26, 26, 0), (192, .aload_n 0, 193, 0, 0, 0, 0), (193, .getfield 298, 196, 12, 0, 28, 0), (196, .iload 5, 198, 5, 0, 0, 0), (198, .iastore, 199, 0, 0, 0, 0), (199, .aload_n 0, 200, 0, 0, 0, 0), (200, .getfield 52, 203, 12, 28, 27, 0), (203, .aload_n 0, 204, 0, 0, 0, 0), (204, .getfield 298, 207, 12, 0, 28, 0), (207, .iconst 0, 208, 0, 0, 0, 0), (208, .iastore, 209, 0, 0, 0, 0), (209, .aload_n 0, 210, 0, 0, 0, 0), (210, .dup, 211, 0, 0, 0, 0), (211, .getfield 298, 214, 12, 0, 28, 0), (214, .iconst 1, 215, 0, 0, 0, 0), (215, .iadd, 216, 0, 0, 0, 0), (216, .putfield 298, 219, 12, 0, 28, 0), (219, .return_, 220, 0, 0, 0, 0)]
def pg_180 : List En := sg_180_0 ++ sg_180_32 ++ sg_180_41 ++ sg_180_51 ++ sg_180_71 ++ sg_180_72 ++ sg_180_96 ++ sg_180_124 ++ sg_180_142 ++ sg_180_150 ++ sg_180_172 ++ sg_180_188
/-! 181 LeastFailingModel.treeCloses -/
def sg_181_0 : List En := [(0, .aload_n 0, 1, 0, 0, 0, 0), (1, .sipush 322, 4, 0, 0, 0, 0), (4, .aload_n 0, 5, 0, 0, 0, 0), (5, .getfield 49, 8, 12, 26, 26, 0), (8, .aload_n 0, 9, 0, 0, 0, 0), (9, .getfield 298, 12, 12, 0, 28, 0), (12, .iconst 1, 13, 0, 0, 0, 0), (13, .isub, 14, 0, 0, 0, 0), (14, .iaload, 15, 0, 0, 0, 0), (15, .invokevirtual 301, 18, 175, 3, 1, 12), (18, .istore_n 1, 19, 1, 0, 0, 0), (19, .aload_n 0, 20, 0, 0, 0, 0), (20, .getfield 52, 23, 12, 28, 27, 0), (23, .aload_n 0, 24, 0, 0, 0, 0), (24, .getfield 298, 27, 12, 0, 28, 0), (27, .iconst 1, 28, 0, 0, 0, 0), (28, .isub, 29, 0, 0, 0, 0), (29, .iaload, 30, 0, 0, 0, 0), (30, .aload_n 0, 31, 0, 0, 0, 0), (31, .iload_n 1, 32, 1, 0, 0, 0), (32, .invokevirtual 295, 35, 172, 2, 1, 12), (35, .if_icmp .ge 12, 38, 47, 0, 0, 0), (38, .aload_n 0, 39, 0, 0, 0, 0), (39, .iconst 5, 40, 0, 0, 0, 0), (40, .aload_n 0, 41, 0, 0, 0, 0), (41, .invokevirtual 180, 44, 149, 1, 1, 12), (44, .invokevirtual 184, 47, 144, 3, 0, 12)]
def sg_181_47 : List En := [(47, .aload_n 0, 48, 0, 0, 0, 0), (48, .bipush 41, 50, 0, 0, 0, 0), (50, .invokevirtual 196, 53, 153, 2, 1, 12), (53, .ifCond .ne 4, 56, 57, 0, 0, 0), (56, .return_, 57, 0, 0, 0, 0)]
def sg_181_57 : List En := [(57, .aload_n 0, 58, 0, 0, 0, 0), (58, .dup, 59, 0, 0, 0, 0), (59, .getfield 298, 62, 12, 0, 28, 0), (62, .iconst 1, 63, 0, 0, 0, 0), (63, .isub, 64, 0, 0, 0, 0), (64, .putfield 298, 67, 12, 0, 28, 0), (67, .aload_n 0, 68, 0, 0, 0, 0), (68, .getfield 46, 71, 12, 24, 23, 0), (71, .sipush 403, 74, 0, 0, 0, 0), (74, .aload_n 0, 75, 0, 0, 0, 0), (75, .getfield 49, 78, 12, 26, 26, 0), (78, .aload_n 0, 79, 0, 0, 0, 0), (79, .getfield 298, 82, 12, 0, 28, 0), (82, .iaload, 83, 0, 0, 0, 0), (83, .iadd, 84, 0, 0, 0, 0), (84, .aload_n 0, 85, 0, 0, 0, 0), (85, .sipush 322, 88, 0, 0, 0, 0), (88, .invokevirtual 307, 91, 174, 2, 1, 12), (91, .aload_n 0, 92, 0, 0, 0, 0), (92, .getfield 49, 95, 12, 26, 26, 0), (95, .aload_n 0, 96, 0, 0, 0, 0), (96, .getfield 298, 99, 12, 0, 28, 0), (99, .iaload, 100, 0, 0, 0, 0), (100, .isub, 101, 0, 0, 0, 0), (101, .iastore, 102, 0, 0, 0, 0), (102, .return_, 103, 0, 0, 0, 0)]
def pg_181 : List En := sg_181_0 ++ sg_181_47 ++ sg_181_57
/-! 182 LeastFailingModel.input -/
def sg_182_0 : List En := [(0, .aload_n 0, 1, 0, 0, 0, 0), (1, .iconst 0, 2, 0, 0, 0, 0), (2, .putfield 136, 5, 12, 0, 0, 0), (5, .aload_n 0, 6, 0, 0, 0, 0), (6, .getfield 17, 9, 12, 6, 14, 0), (9, .sipush 192, 12, 0, 0, 0, 0), (12, .iaload, 13, 0, 0, 0, 0), (13, .ifCond .ne 11, 16, 24, 0, 0, 0), (16, .aload_n 0, 17, 0, 0, 0, 0), (17, .iconst 0, 18, 0, 0, 0, 0), (18, .putfield 139, 21, 12, 0, 2, 0), (21, .bipush (-3), 23, 0, 0, 0, 0), (23, .ireturn, 24, 0, 0, 0, 0)]
def sg_182_24 : List En := [(24, .aload_n 0, 25, 0, 0, 0, 0), (25, .invokevirtual 267, 28, 142, 1, 0, 12), (28, .aload_n 0, 29, 0, 0, 0, 0), (29, .getfield 46, 32, 12, 24, 23, 0), (32, .sipush 322, 35, 0, 0, 0, 0), (35, .iconst 0, 36, 0, 0, 0, 0), (36, .iastore, 37, 0, 0, 0, 0), (37, .aload_n 0, 38, 0, 0, 0, 0), (38, .iconst 0, 39, 0, 0, 0, 0), (39, .putfield 298, 42, 12, 0, 28, 0)]
def sg_182_42 : List En := [(42, .aload_n 0, 43, 0, 0, 0, 0), (43, .getfield 298, 46, 12, 0, 28, 0), (46, .ifCond .le 19, 49, 65, 0, 0, 0), (49, .aload_n 0, 50, 0, 0, 0, 0), (50, .bipush 41, 52, 0, 0, 0, 0), (52, .invokevirtual 192, 55, 152, 2, 1, 12), (55, .ifCond .eq 10, 58, 65, 0, 0, 0), (58, .aload_n 0, 59, 0, 0, 0, 0), (59, .invokevirtual 321, 62, 181, 1, 0, 12), (62, .goto 7, 65, 69, 0, 0, 0)]
def sg_182_65 : List En := [(65, .aload_n 0, 66, 0, 0, 0, 0), (66, .invokevirtual 324, 69, 180, 1, 0, 12)]
def sg_182_69 : List En := [(69, .aload_n 0, 70, 0, 0, 0, 0), (70, .invokevirtual 188, 73, 143, 1, 1, 12), (73, .ifCond .eq 10, 76, 83, 0, 0, 0), (76, .aload_n 0, 77, 0, 0, 0, 0), (77, .getfield 298, 80, 12, 0, 28, 0), (80, .ifCond .gt (-38), 83, 42, 0, 0, 0)]
def sg_182_83 : List En := [(83, .aload_n 0, 84, 0, 0, 0, 0), (84, .invokevirtual 188, 87, 143, 1, 1, 12), (87, .ifCond .eq 14, 90, 101, 0, 0, 0), (90, .aload_n 0, 91, 0, 0, 0, 0), (91, .invokevirtual 270, 94, 150, 1, 1, 12), (94, .ifCond .ne 7, 97, 101, 0, 0, 0), (97, .aload_n 0, 98, 0, 0, 0, 0), (98, .invokevirtual 199, 101, 151, 1, 0, 12)]
def sg_182_101 : List En := [(101, .aload_n 0, 102, 0, 0, 0, 0), (102, .invokevirtual 279, 105, 145, 1, 1, 12), (105, .ifCond .ne 5, 108, 110, 0, 0, 0), (108, .iconst (-1), 109, 0, 0, 0, 0), (109, .ireturn, 110, 0, 0, 0, 0)]
def sg_182_110 : List En := [(110, .aload_n 0, 111, 0, 0, 0, 0), (111, .invokevirtual 327, 114, 183, 1, 0, 12), (114, .aload_n 0, 115, 0, 0, 0, 0), (115, .iconst 0, 116, 0, 0, 0, 0), (116, .sipush 322, 119, 0, 0, 0, 0), (119, .invokevirtual 330, 122, 177, 3, 0, 12), (122, .aload_n 0, 123, 0, 0, 0, 0), (123, .invokevirtual 292, 126, 209, 1, 0, 12), (126, .aload_n 0, 127, 0, 0, 0, 0), (127, .iconst 0, 128, 0, 0, 0, 0), (128, .invokevirtual 307, 131, 174, 2, 1, 12), (131, .ireturn, 132, 0, 0, 0, 0)]
def pg_182 : List En := sg_182_0 ++ sg_182_24 ++ sg_182_42 ++ sg_182_65 ++ sg_182_69 ++ sg_182_83 ++ sg_182_101 ++ sg_182_110
/-! 183 LeastFailingModel.keeps -/
def sg_183_0 : List En := [(0, .aload_n 0, 1, 0, 0, 0, 0), (1, .aload_n 0, 2, 0, 0, 0, 0), (2, .getfield 333, 5, 12, 0, 25, 0), (5, .iconst 1, 6, 0, 0, 0, 0), (6, .iadd, 7, 0, 0, 0, 0), (7, .bipush 10, 9, 0, 0, 0, 0), (9, .irem, 10, 0, 0, 0, 0), (10, .putfield 333, 13, 12, 0, 25, 0), (13, .aload_n 0, 14, 0, 0, 0, 0), (14, .aload_n 0, 15, 0, 0, 0, 0), (15, .getfield 289, 18, 12, 0, 24, 0), (18, .bipush 10, 20, 0, 0, 0, 0), (20, .if_icmp .ne 8, 23, 28, 0, 0, 0), (23, .bipush 10, 25, 0, 0, 0, 0), (25, .goto 9, 28, 34, 0, 0, 0)]
def sg_183_28 : List En := [(28, .aload_n 0, 29, 0, 0, 0, 0), (29, .getfield 289, 32, 12, 0, 24, 0), (32, .iconst 1, 33, 0, 0, 0, 0), (33, .iadd, 34, 0, 0, 0, 0)]
def sg_183_34 : List En := [(34, .putfield 289, 37, 12, 0, 24, 0), (37, .aload_n 0, 38, 0, 0, 0, 0), (38, .sipush 483, 41, 0, 0, 0, 0), (41, .sipush 161, 44, 0, 0, 0, 0), (44, .aload_n 0, 45, 0, 0, 0, 0), (45, .getfield 333, 48, 12, 0, 25, 0), (48, .imul, 49, 0, 0, 0, 0), (49, .iadd, 50, 0, 0, 0, 0), (50, .iconst 0, 51, 0, 0, 0, 0), (51, .invokevirtual 330, 54, 177, 3, 0, 12), (54, .return_, 55, 0, 0, 0, 0)]
def pg_183 : List En := sg_183_0 ++ sg_183_28 ++ sg_183_34
/-! 184 LeastFailingModel.undo -/
def sg_184_0 : List En := [(0, .aload_n 0, 1, 0, 0, 0, 0), (1, .iconst 0, 2, 0, 0, 0, 0), (2, .putfield 136, 5, 12, 0, 0, 0), (5, .aload_n 0, 6, 0, 0, 0, 0), (6, .getfield 289, 9, 12, 0, 24, 0), (9, .ifCond .ne 6, 12, 15, 0, 0, 0), (12, .bipush (-3), 14, 0, 0, 0, 0), (14, .ireturn, 15, 0, 0, 0, 0)]
def sg_184_15 : List En := [(15, .aload_n 0, 16, 0, 0, 0, 0), (16, .iconst 0, 17, 0, 0, 0, 0), (17, .sipush 483, 20, 0, 0, 0, 0), (20, .sipush 161, 23, 0, 0, 0, 0), (23, .aload_n 0, 24, 0, 0, 0, 0), (24, .getfield 333, 27, 12, 0, 25, 0), (27, .imul, 28, 0, 0, 0, 0), (28, .iadd, 29, 0, 0, 0, 0), (29, .invokevirtual 330, 32, 177, 3, 0, 12), (32, .aload_n 0, 33, 0, 0, 0, 0), (33, .aload_n 0, 34, 0, 0, 0, 0), (34, .getfield 333, 37, 12, 0, 25, 0), (37, .bipush 10, 39, 0, 0, 0, 0), (39, .iadd, 40, 0, 0, 0, 0), (40, .iconst 1, 41, 0, 0, 0, 0), (41, .isub, 42, 0, 0, 0, 0), (42, .bipush 10, 44, 0, 0, 0, 0), (44, .irem, 45, 0, 0, 0, 0), (45, .putfield 333, 48, 12, 0, 25, 0), (48, .aload_n 0, 49, 0, 0, 0, 0), (49, .dup, 50, 0, 0, 0, 0), (50, .getfield 289, 53, 12, 0, 24, 0), (53, .iconst 1, 54, 0, 0, 0, 0), (54, .isub, 55, 0, 0, 0, 0), (55, .putfield 289, 58, 12, 0, 24, 0), (58, .aload_n 0, 59, 0, 0, 0, 0), (59, .invokevirtual 292, 62, 209, 1, 0, 12), (62, .aload_n 0, 63, 0, 0, 0, 0), (63, .getfield 289, 66, 12, 0, 24, 0), (66, .ireturn, 67, 0, 0, 0, 0)]
def pg_184 : List En := sg_184_0 ++ sg_184_15
/-! 185 LeastFailingModel.emits -/
def sg_185_0 : List En := [(0, .aload_n 0, 1, 0, 0, 0, 0), (1, .getfield 58, 4, 12, 32, 30, 0), (4, .iconst 5, 5, 0, 0, 0, 0), (5, .aload_n 0, 6, 0, 0, 0, 0), (6, .getfield 336, 9, 12, 0, 38, 0), (9, .imul, 10, 0, 0, 0, 0), (10, .iload_n 1, 11, 1, 0, 0, 0), (11, .iastore, 12, 0, 0, 0, 0), (12, .aload_n 0, 13, 0, 0, 0, 0), (13, .getfield 58, 16, 12, 32, 30, 0), (16, .iconst 5, 17, 0, 0, 0, 0), (17, .aload_n 0, 18, 0, 0, 0, 0), (18, .getfield 336, 21, 12, 0, 38, 0), (21, .imul, 22, 0, 0, 0, 0), (22, .iconst 1, 23, 0, 0, 0, 0), (23, .iadd, 24, 0, 0, 0, 0), (24, .iload_n 2, 25, 2, 0, 0, 0), (25, .iastore, 26, 0, 0, 0, 0), (26, .aload_n 0, 27, 0, 0, 0, 0), (27, .getfield 58, 30, 12, 32, 30, 0), (30, .iconst 5, 31, 0, 0, 0, 0), (31, .aload_n 0, 32, 0, 0, 0, 0), (32, .getfield 336, 35, 12, 0, 38, 0), (35, .imul, 36, 0, 0, 0, 0), (36, .iconst 2, 37, 0, 0, 0, 0), (37, .iadd, 38, 0, 0, 0, 0), (38, .iload_n 3, 39, 3, 0, 0, 0), (39, .iastore, 40, 0, 0, 0, 0), (40, .aload_n 0, 41, 0, 0, 0, 0), (41, .getfield 58, 44, 12, 32, 30, 0), (44, .iconst 5, 45, 0, 0, 0, 0), (45, .aload_n 0, 46, 0, 0, 0, 0), (46, .getfield 336, 49, 12, 0, 38, 0), (49, .imul, 50, 0, 0, 0, 0), (50, .iconst 3, 51, 0, 0, 0, 0), (51, .iadd, 52, 0, 0, 0, 0), (52, .iload 4, 54, 4, 0, 0, 0), (54, .iastore, 55, 0, 0, 0, 0), (55, .aload_n 0, 56, 0, 0, 0, 0), (56, .getfield 58, 59, 12, 32, 30, 0), (59, .iconst 5, 60, 0, 0, 0, 0), (60, .aload_n 0, 61, 0, 0, 0, 0), (61, .getfield 336, 64, 12, 0, 38, 0), (64, .imul, 65, 0, 0, 0, 0), (65, .iconst 4, 66, 0, 0, 0, 0), (66, .iadd, 67, 0, 0, 0, 0), (67, .iload 5, 69, 5, 0, 0, 0), (69, .iastore, 70, 0, 0, 0, 0), (70, .aload_n 0, 71, 0, 0, 0, 0), (71, .dup, 72, 0, 0, 0, 0), (72, .getfield 336, 75, 12, 0, 38, 0), (75, .iconst 1, 76, 0, 0, 0, 0), (76, .iadd, 77, 0, 0, 0, 0), (77, .putfield 336, 80, 12, 0, 38, 0), (80, .return_, 81, 0, 0, 0, 0)]
def pg_185 : List En := sg_185_0
/-! 186 LeastFailingModel.nameInTest -/
def sg_186_0 : List En := [(0, .aload_n 0, 1, 0, 0, 0, 0), (1, .invokevirtual 246, 4, 162, 1, 2, 12), (4, .lstore_n 1, 5, 1, 0, 0, 0), (5, .aload_n 0, 6, 0, 0, 0, 0), (6, .invokevirtual 188, 9, 143, 1, 1, 12), (9, .ifCond .eq 11, 12, 20, 0, 0, 0), (12, .aload_n 0, 13, 0, 0, 0, 0), (13, .lload_n 1, 14, 1, 0, 0, 0), (14, .invokevirtual 310, 17, 171, 2, 1, 12), (17, .goto 4, 20, 21, 0, 0, 0)]
def sg_186_20 : List En := [(20, .iconst 0, 21, 0, 0, 0, 0)]
def sg_186_21 : List En := [(21, .istore_n 3, 22, 3, 0, 0, 0), (22, .aload_n 0, 23, 0, 0, 0, 0), (23, .invokevirtual 188, 26, 143, 1, 1, 12), (26, .ifCond .eq 17, 29, 43, 0, 0, 0), (29, .iload_n 3, 30, 3, 0, 0, 0), (30, .iconst (-1), 31, 0, 0, 0, 0), (31, .if_icmp .ne 12, 34, 43, 0, 0, 0), (34, .aload_n 0, 35, 0, 0, 0, 0), (35, .iconst 3, 36, 0, 0, 0, 0), (36, .aload_n 0, 37, 0, 0, 0, 0), (37, .getfield 234, 40, 12, 0, 12, 0), (40, .invokevirtual 184, 43, 144, 3, 0, 12)]
def sg_186_43 : List En := [(43, .iload_n 3, 44, 3, 0, 0, 0), (44, .ireturn, 45, 0, 0, 0, 0)]
def pg_186 : List En := sg_186_0 ++ sg_186_20 ++ sg_186_21 ++ sg_186_43
/-! 187 LeastFailingModel.countRead -/
def sg_187_0 : List En := [(0, .aload_n 0, 1, 0, 0, 0, 0), (1, .bipush 115, 3, 0, 0, 0, 0), (3, .bipush 105, 5, 0, 0, 0, 0), (5, .bipush 122, 7, 0, 0, 0, 0), (7, .bipush 101, 9, 0, 0, 0, 0), (9, .iconst 0, 10, 0, 0, 0, 0), (10, .iconst 0, 11, 0, 0, 0, 0), (11, .invokestatic 227, 14, 155, 6, 2, 0), (14, .invokevirtual 339, 17, 159, 2, 1, 12), (17, .ifCond .eq 7, 20, 24, 0, 0, 0), (20, .iconst 0, 21, 0, 0, 0, 0), (21, .goto 100, 24, 121, 0, 0, 0)]
def sg_187_24 : List En := [(24, .aload_n 0, 25, 0, 0, 0, 0), (25, .bipush 100, 27, 0, 0, 0, 0), (27, .bipush 101, 29, 0, 0, 0, 0), (29, .bipush 101, 31, 0, 0, 0, 0), (31, .bipush 112, 33, 0, 0, 0, 0), (33, .iconst 0, 34, 0, 0, 0, 0), (34, .iconst 0, 35, 0, 0, 0, 0), (35, .invokestatic 227, 38, 155, 6, 2, 0), (38, .invokevirtual 339, 41, 159, 2, 1, 12), (41, .ifCond .eq 7, 44, 48, 0, 0, 0), (44, .iconst 1, 45, 0, 0, 0, 0), (45, .goto 76, 48, 121, 0, 0, 0)]
def sg_187_48 : List En := [(48, .aload_n 0, 49, 0, 0, 0, 0), (49, .bipush 104, 51, 0, 0, 0, 0), (51, .bipush 97, 53, 0, 0, 0, 0), (53, .bipush 115, 55, 0, 0, 0, 0), (55, .iconst 0, 56, 0, 0, 0, 0), (56, .iconst 0, 57, 0, 0, 0, 0), (57, .iconst 0, 58, 0, 0, 0, 0), (58, .invokestatic 227, 61, 155, 6, 2, 0), (61, .invokevirtual 339, 64, 159, 2, 1, 12), (64, .ifCond .eq 7, 67, 71, 0, 0, 0), (67, .iconst 2, 68, 0, 0, 0, 0), (68, .goto 53, 71, 121, 0, 0, 0)]
def sg_187_71 : List En := [(71, .aload_n 0, 72, 0, 0, 0, 0), (72, .bipush 117, 74, 0, 0, 0, 0), (74, .bipush 110, 76, 0, 0, 0, 0), (76, .bipush 100, 78, 0, 0, 0, 0), (78, .bipush 101, 80, 0, 0, 0, 0), (80, .bipush 114, 82, 0, 0, 0, 0), (82, .iconst 0, 83, 0, 0, 0, 0), (83, .invokestatic 227, 86, 155, 6, 2, 0), (86, .invokevirtual 339, 89, 159, 2, 1, 12), (89, .ifCond .eq 7, 92, 96, 0, 0, 0), (92, .iconst 3, 93, 0, 0, 0, 0), (93, .goto 28, 96, 121, 0, 0, 0)]
def sg_187_96 : List En := [(96, .aload_n 0, 97, 0, 0, 0, 0), (97, .bipush 110, 99, 0, 0, 0, 0), (99, .bipush 101, 101, 0, 0, 0, 0), (101, .bipush 120, 103, 0, 0, 0, 0), (103, .bipush 116, 105, 0, 0, 0, 0), (105, .iconst 0, 106, 0, 0, 0, 0), (106, .iconst 0, 107, 0, 0, 0, 0), (107, .invokestatic 227, 110, 155, 6, 2, 0), (110, .invokevirtual 339, 113, 159, 2, 1, 12), (113, .ifCond .eq 7, 116, 120, 0, 0, 0), (116, .iconst 4, 117, 0, 0, 0, 0), (117, .goto 4, 120, 121, 0, 0, 0)]
def sg_187_120 : List En := [(120, .iconst (-1), 121, 0, 0, 0, 0)]
def sg_187_121 : List En := [(121, .istore_n 1, 122, 1, 0, 0, 0), (122, .iload_n 1, 123, 1, 0, 0, 0), (123, .iconst (-1), 124, 0, 0, 0, 0), (124, .if_icmp .ne 7, 127, 131, 0, 0, 0), (127, .aload_n 0, 128, 0, 0, 0, 0), (128, .invokevirtual 199, 131, 151, 1, 0, 12)]
def sg_187_131 : List En := [(131, .aload_n 0, 132, 0, 0, 0, 0), (132, .invokevirtual 188, 135, 143, 1, 1, 12), (135, .ifCond .eq 15, 138, 150, 0, 0, 0), (138, .iload_n 1, 139, 1, 0, 0, 0), (139, .iconst 1, 140, 0, 0, 0, 0), (140, .if_icmp .le 10, 143, 150, 0, 0, 0), (143, .aload_n 0, 144, 0, 0, 0, 0), (144, .invokevirtual 342, 147, 186, 1, 1, 12), (147, .goto 4, 150, 151, 0, 0, 0)]
def sg_187_150 : List En := [(150, .iconst 0, 151, 0, 0, 0, 0)]
def sg_187_151 : List En := [(151, .istore_n 2, 152, 2, 0, 0, 0), (152, .aload_n 0, 153, 0, 0, 0, 0), (153, .invokevirtual 188, 156, 143, 1, 1, 12), (156, .ifCond .eq 15, 159, 171, 0, 0, 0), (159, .iload_n 1, 160, 1, 0, 0, 0), (160, .iconst 2, 161, 0, 0, 0, 0), (161, .if_icmp .le 10, 164, 171, 0, 0, 0), (164, .aload_n 0, 165, 0, 0, 0, 0), (165, .invokevirtual 342, 168, 186, 1, 1, 12), (168, .goto 4, 171, 172, 0, 0, 0)]
def sg_187_171 : List En := [(171, .iconst 0, 172, 0, 0, 0, 0)]
def sg_187_172 : List En := [(172, .istore_n 3, 173, 3, 0, 0, 0), (173, .aload_n 0, 174, 0, 0, 0, 0), (174, .invokevirtual 188, 177, 143, 1, 1, 12), (177, .ifCond .ne 7, 180, 184, 0, 0, 0), (180, .iconst 0, 181, 0, 0, 0, 0), (181, .goto 43, 184, 224, 0, 0, 0)]
def sg_187_184 : List En := [(184, .aload_n 0, 185, 0, 0, 0, 0), (185, .bipush 60, 187, 0, 0, 0, 0), (187, .invokevirtual 192, 190, 152, 2, 1, 12), (190, .ifCond .eq 7, 193, 197, 0, 0, 0), (193, .iconst (-1), 194, 0, 0, 0, 0), (194, .goto 30, 197, 224, 0, 0, 0)]
def sg_187_197 : List En := [(197, .aload_n 0, 198, 0, 0, 0, 0), (198, .bipush 62, 200, 0, 0, 0, 0), (200, .invokevirtual 192, 203, 152, 2, 1, 12), (203, .ifCond .eq 7, 206, 210, 0, 0, 0), (206, .iconst 1, 207, 0, 0, 0, 0), (207, .goto 17, 210, 224, 0, 0, 0)]
def sg_187_210 : List En := [(210, .aload_n 0, 211, 0, 0, 0, 0), (211, .bipush 61, 213, 0, 0, 0, 0), (213, .invokevirtual 192, 216, 152, 2, 1, 12), (216, .ifCond .eq 7, 219, 223, 0, 0, 0), (219, .iconst 0, 220, 0, 0, 0, 0), (220, .goto 4, 223, 224, 0, 0, 0)]
def sg_187_223 : List En := [(223, .iconst 2, 224, 0, 0, 0, 0)]
def sg_187_224 : List En := [(224, .istore 4, 226, 4, 0, 0, 0), (226, .iload 4, 228, 4, 0, 0, 0), (228, .iconst 2, 229, 0, 0, 0, 0), (229, .if_icmp .ne 7, 232, 236, 0, 0, 0), (232, .aload_n 0, 233, 0, 0, 0, 0), (233, .invokevirtual 199, 236, 151, 1, 0, 12)]
def sg_187_236 : List En := [(236, .aload_n 0, 237, 0, 0, 0, 0), (237, .invokevirtual 188, 240, 143, 1, 1, 12), (240, .ifCond .ne 4, 243, 244, 0, 0, 0), (243, .return_, 244, 0, 0, 0, 0)]
def sg_187_244 : List En := [(244, .aload_n 0, 245, 0, 0, 0, 0), (245, .dup, 246, 0, 0, 0, 0), (246, .getfield 153, 249, 12, 0, 4, 0), (249, .iconst 1, 250, 0, 0, 0, 0), (250, .iadd, 251, 0, 0, 0, 0), (251, .putfield 153, 254, 12, 0, 4, 0), (254, .aload_n 0, 255, 0, 0, 0, 0), (255, .invokevirtual 345, 258, 163, 1, 1, 12), (258, .istore 5, 260, 5, 0, 0, 0), (260, .aload_n 0, 261, 0, 0, 0, 0), (261, .invokevirtual 188, 264, 143, 1, 1, 12), (264, .ifCond .eq 14, 267, 278, 0, 0, 0), (267, .aload_n 0, 268, 0, 0, 0, 0), (268, .iload_n 1, 269, 1, 0, 0, 0), (269, .iload_n 2, 270, 2, 0, 0, 0), (270, .iload_n 3, 271, 3, 0, 0, 0), (271, .iload 4, 273, 4, 0, 0, 0), (273, .iload 5, 275, 5, 0, 0, 0), (275, .invokevirtual 348, 278, 185, 6, 0, 12)]
def sg_187_278 : List En := [(278, .return_, 279, 0, 0, 0, 0)]
def pg_187 : List En := sg_187_0 ++ sg_187_24 ++ sg_187_48 ++ sg_187_71 ++ sg_187_96 ++ sg_187_120 ++ sg_187_121 ++ sg_187_131 ++ sg_187_150 ++ sg_187_151 ++ sg_187_171 ++ sg_187_172 ++ sg_187_184 ++ sg_187_197 ++ sg_187_210 ++ sg_187_223 ++ sg_187_224 ++ sg_187_236 ++ sg_187_244 ++ sg_187_278
/-! 188 LeastFailingModel.piles -/
def sg_188_0 : List En := [(0, .aload_n 0, 1, 0, 0, 0, 0), (1, .getfield 79, 4, 12, 46, 39, 0), (4, .aload_n 0, 5, 0, 0, 0, 0), (5, .getfield 352, 8, 12, 0, 40, 0), (8, .iload_n 1, 9, 1, 0, 0, 0), (9, .iastore, 10, 0, 0, 0, 0), (10, .aload_n 0, 11, 0, 0, 0, 0), (11, .dup, 12, 0, 0, 0, 0), (12, .getfield 352, 15, 12, 0, 40, 0), (15, .iconst 1, 16, 0, 0, 0, 0), (16, .iadd, 17, 0, 0, 0, 0), (17, .putfield 352, 20, 12, 0, 40, 0), (20, .return_, 21, 0, 0, 0, 0)]
def pg_188 : List En := sg_188_0
/-! 189 LeastFailingModel.drops -/
def sg_189_0 : List En := [(0, .aload_n 0, 1, 0, 0, 0, 0), (1, .getfield 352, 4, 12, 0, 40, 0), (4, .ifCond .le 94, 7, 98, 0, 0, 0), (7, .aload_n 0, 8, 0, 0, 0, 0), (8, .getfield 79, 11, 12, 46, 39, 0), (11, .aload_n 0, 12, 0, 0, 0, 0), (12, .getfield 352, 15, 12, 0, 40, 0), (15, .iconst 1, 16, 0, 0, 0, 0), (16, .isub, 17, 0, 0, 0, 0), (17, .iaload, 18, 0, 0, 0, 0), (18, .iload_n 1, 19, 1, 0, 0, 0), (19, .if_icmp .lt 79, 22, 98, 0, 0, 0), (22, .aload_n 0, 23, 0, 0, 0, 0), (23, .getfield 79, 26, 12, 46, 39, 0), (26, .aload_n 0, 27, 0, 0, 0, 0), (27, .getfield 352, 30, 12, 0, 40, 0), (30, .iconst 1, 31, 0, 0, 0, 0), (31, .isub, 32, 0, 0, 0, 0), (32, .iaload, 33, 0, 0, 0, 0), (33, .iload_n 2, 34, 2, 0, 0, 0), (34, .if_icmp .gt 64, 37, 98, 0, 0, 0), (37, .aload_n 0, 38, 0, 0, 0, 0), (38, .dup, 39, 0, 0, 0, 0), (39, .getfield 352, 42, 12, 0, 40, 0), (42, .iconst 1, 43, 0, 0, 0, 0), (43, .isub, 44, 0, 0, 0, 0), (44, .putfield 352, 47, 12, 0, 40, 0), (47, .aload_n 0, 48, 0, 0, 0, 0), (48, .dup, 49, 0, 0, 0, 0), (49, .getfield 355, 52, 12, 0, 41, 0), (52, .aload_n 0, 53, 0, 0, 0, 0), (53, .getfield 79, 56, 12, 46, 39, 0), (56, .aload_n 0, 57, 0, 0, 0, 0), (57, .getfield 352, 60, 12, 0, 40, 0), (60, .iaload, 61, 0, 0, 0, 0), (61, .bipush 10, 63, 0, 0, 0, 0), (63, .if_icmp .ne 7, 66, 70, 0, 0, 0), (66, .iconst 1, 67, 0, 0, 0, 0), (67, .goto 4, 70, 71, 0, 0, 0)]
def sg_189_70 : List En := [(70, .iconst 0, 71, 0, 0, 0, 0)]
def sg_189_71 : List En := [(71, .invokestatic 256, 74, 138, 1, 1, 0), (74, .isub, 75, 0, 0, 0, 0), (75, .putfield 355, 78, 12, 0, 41, 0), (78, .aload_n 0, 79, 0, 0, 0, 0), (79, .aload_n 0, 80, 0, 0, 0, 0), (80, .getfield 79, 83, 12, 46, 39, 0), (83, .aload_n 0, 84, 0, 0, 0, 0), (84, .getfield 352, 87, 12, 0, 40, 0), (87, .iaload, 88, 0, 0, 0, 0), (88, .iconst 0, 89, 0, 0, 0, 0), (89, .iconst 0, 90, 0, 0, 0, 0), (90, .iconst 0, 91, 0, 0, 0, 0), (91, .iconst 0, 92, 0, 0, 0, 0), (92, .invokevirtual 348, 95, 185, 6, 0, 12), (95, .goto (-95), 98, 0, 0, 0, 0)]
def sg_189_98 : List En := [(98, .return_, 99, 0, 0, 0, 0)]
def pg_189 : List En := sg_189_0 ++ sg_189_70 ++ sg_189_71 ++ sg_189_98
/-! 190 LeastFailingModel.factBegins -/
def sg_190_0 : List En := [(0, .aload_n 0, 1, 0, 0, 0, 0), (1, .bipush 110, 3, 0, 0, 0, 0), (3, .bipush 111, 5, 0, 0, 0, 0), (5, .bipush 116, 7, 0, 0, 0, 0), (7, .iconst 0, 8, 0, 0, 0, 0), (8, .iconst 0, 9, 0, 0, 0, 0), (9, .iconst 0, 10, 0, 0, 0, 0), (10, .invokestatic 227, 13, 155, 6, 2, 0), (13, .invokevirtual 220, 16, 157, 2, 1, 12), (16, .istore_n 1, 17, 1, 0, 0, 0), (17, .iload_n 1, 18, 1, 0, 0, 0), (18, .ifCond .ne 18, 21, 36, 0, 0, 0), (21, .aload_n 0, 22, 0, 0, 0, 0), (22, .bipush 91, 24, 0, 0, 0, 0), (24, .invokevirtual 192, 27, 152, 2, 1, 12), (27, .ifCond .ne 9, 30, 36, 0, 0, 0), (30, .aload_n 0, 31, 0, 0, 0, 0), (31, .invokevirtual 358, 34, 187, 1, 0, 12), (34, .iconst 1, 35, 0, 0, 0, 0), (35, .ireturn, 36, 0, 0, 0, 1)]
def sg_190_36 : List En := [(36, .aload_n 0, 37, 0, 0, 0, 0), (37, .getfield 355, 40, 12, 0, 41, 0), (40, .bipush 6, 42, 0, 0, 0, 0), (42, .if_icmp .ne 12, 45, 54, 0, 0, 0), (45, .aload_n 0, 46, 0, 0, 0, 0), (46, .iconst 4, 47, 0, 0, 0, 0), (47, .aload_n 0, 48, 0, 0, 0, 0), (48, .invokevirtual 180, 51, 149, 1, 1, 12), (51, .invokevirtual 184, 54, 144, 3, 0, 12)]
def sg_190_54 : List En := [(54, .aload_n 0, 55, 0, 0, 0, 0), (55, .invokevirtual 188, 58, 143, 1, 1, 12), (58, .ifCond .ne 5, 61, 63, 0, 0, 0), (61, .iconst 1, 62, 0, 0, 0, 0), (62, .ireturn, 63, 0, 0, 0, 1)]
def sg_190_63 : List En := [(63, .iload_n 1, 64, 1, 0, 0, 0), (64, .ifCond .eq 10, 67, 74, 0, 0, 0), (67, .aload_n 0, 68, 0, 0, 0, 0), (68, .invokevirtual 224, 71, 158, 1, 0, 12), (71, .goto 13, 74, 84, 0, 0, 0)]
def sg_190_74 : List En := [(74, .aload_n 0, 75, 0, 0, 0, 0), (75, .dup, 76, 0, 0, 0, 0), (76, .getfield 153, 79, 12, 0, 4, 0), (79, .iconst 1, 80, 0, 0, 0, 0), (80, .iadd, 81, 0, 0, 0, 0), (81, .putfield 153, 84, 12, 0, 4, 0)]
def sg_190_84 : List En := [(84, .aload_n 0, 85, 0, 0, 0, 0), (85, .dup, 86, 0, 0, 0, 0), (86, .getfield 355, 89, 12, 0, 41, 0), (89, .iconst 1, 90, 0, 0, 0, 0), (90, .iadd, 91, 0, 0, 0, 0), (91, .putfield 355, 94, 12, 0, 41, 0), (94, .aload_n 0, 95, 0, 0, 0, 0), (95, .iload_n 1, 96, 1, 0, 0, 0), (96, .ifCond .eq 8, 99, 104, 0, 0, 0), (99, .bipush 10, 101, 0, 0, 0, 0), (101, .goto 5, 104, 106, 0, 0, 0)]
def sg_190_104 : List En := [(104, .bipush 13, 106, 0, 0, 0, 0)]
def sg_190_106 : List En := [(106, .invokevirtual 361, 109, 188, 2, 0, 12), (109, .iconst 0, 110, 0, 0, 0, 0), (110, .ireturn, 111, 0, 0, 0, 1)]
def pg_190 : List En := sg_190_0 ++ sg_190_36 ++ sg_190_54 ++ sg_190_63 ++ sg_190_74 ++ sg_190_84 ++ sg_190_104 ++ sg_190_106
/-! 191 LeastFailingModel.factGoesOn -/
def sg_191_0 : List En := [(0, .aload_n 0, 1, 0, 0, 0, 0), (1, .bipush 10, 3, 0, 0, 0, 0), (3, .bipush 10, 5, 0, 0, 0, 0), (5, .invokevirtual 364, 8, 189, 3, 0, 12), (8, .aload_n 0, 9, 0, 0, 0, 0), (9, .bipush 97, 11, 0, 0, 0, 0), (11, .bipush 110, 13, 0, 0, 0, 0), (13, .bipush 100, 15, 0, 0, 0, 0), (15, .iconst 0, 16, 0, 0, 0, 0), (16, .iconst 0, 17, 0, 0, 0, 0), (17, .iconst 0, 18, 0, 0, 0, 0), (18, .invokestatic 227, 21, 155, 6, 2, 0), (21, .invokevirtual 339, 24, 159, 2, 1, 12), (24, .ifCond .eq 19, 27, 43, 0, 0, 0), (27, .aload_n 0, 28, 0, 0, 0, 0), (28, .bipush 11, 30, 0, 0, 0, 0), (30, .bipush 11, 32, 0, 0, 0, 0), (32, .invokevirtual 364, 35, 189, 3, 0, 12), (35, .aload_n 0, 36, 0, 0, 0, 0), (36, .bipush 11, 38, 0, 0, 0, 0), (38, .invokevirtual 361, 41, 188, 2, 0, 12), (41, .iconst 1, 42, 0, 0, 0, 0), (42, .ireturn, 43, 0, 0, 0, 1)]
def sg_191_43 : List En := [(43, .aload_n 0, 44, 0, 0, 0, 0), (44, .bipush 11, 46, 0, 0, 0, 0), (46, .bipush 11, 48, 0, 0, 0, 0), (48, .invokevirtual 364, 51, 189, 3, 0, 12), (51, .aload_n 0, 52, 0, 0, 0, 0), (52, .bipush 111, 54, 0, 0, 0, 0), (54, .bipush 114, 56, 0, 0, 0, 0), (56, .iconst 0, 57, 0, 0, 0, 0), (57, .iconst 0, 58, 0, 0, 0, 0), (58, .iconst 0, 59, 0, 0, 0, 0), (59, .iconst 0, 60, 0, 0, 0, 0), (60, .invokestatic 227, 63, 155, 6, 2, 0), (63, .invokevirtual 339, 66, 159, 2, 1, 12), (66, .ifCond .eq 19, 69, 85, 0, 0, 0), (69, .aload_n 0, 70, 0, 0, 0, 0), (70, .bipush 12, 72, 0, 0, 0, 0), (72, .bipush 12, 74, 0, 0, 0, 0), (74, .invokevirtual 364, 77, 189, 3, 0, 12), (77, .aload_n 0, 78, 0, 0, 0, 0), (78, .bipush 12, 80, 0, 0, 0, 0), (80, .invokevirtual 361, 83, 188, 2, 0, 12), (83, .iconst 1, 84, 0, 0, 0, 0), (84, .ireturn, 85, 0, 0, 0, 1)]
def sg_191_85 : List En := [(85, .aload_n 0, 86, 0, 0, 0, 0), (86, .bipush 12, 88, 0, 0, 0, 0), (88, .bipush 12, 90, 0, 0, 0, 0), (90, .invokevirtual 364, 93, 189, 3, 0, 12), (93, .iconst 0, 94, 0, 0, 0, 0), (94, .ireturn, 95, 0, 0, 0, 1)]
def pg_191 : List En := sg_191_0 ++ sg_191_43 ++ sg_191_85
/-! 192 LeastFailingModel.testRead -/
def sg_192_0 : List En := [(0, .aload_n 0, 1, 0, 0, 0, 0), (1, .iconst 0, 2, 0, 0, 0, 0), (2, .putfield 352, 5, 12, 0, 40, 0), (5, .aload_n 0, 6, 0, 0, 0, 0), (6, .iconst 0, 7, 0, 0, 0, 0), (7, .putfield 355, 10, 12, 0, 41, 0), (10, .iconst 1, 11, 0, 0, 0, 0), (11, .istore_n 1, 12, 1, 0, 0, 0)]
def sg_192_12 : List En := [(12, .aload_n 0, 13, 0, 0, 0, 0), (13, .invokevirtual 188, 16, 143, 1, 1, 12), (16, .ifCond .eq 92, 19, 108, 0, 0, 0), (19, .iload_n 1, 20, 1, 0, 0, 0), (20, .ifCond .ne 10, 23, 30, 0, 0, 0), (23, .aload_n 0, 24, 0, 0, 0, 0), (24, .getfield 352, 27, 12, 0, 40, 0), (27, .ifCond .le 81, 30, 108, 0, 0, 0)]
def sg_192_30 : List En := [(30, .iload_n 1, 31, 1, 0, 0, 0), (31, .ifCond .eq 35, 34, 66, 0, 0, 0), (34, .aload_n 0, 35, 0, 0, 0, 0), (35, .invokevirtual 367, 38, 190, 1, 1, 12), (38, .ifCond .ne 7, 41, 45, 0, 0, 0), (41, .iconst 1, 42, 0, 0, 0, 0), (42, .goto 4, 45, 46, 0, 0, 0)]
def sg_192_45 : List En := [(45, .iconst 0, 46, 0, 0, 0, 0)]
def sg_192_46 : List En := [(46, .istore_n 1, 47, 1, 0, 0, 0), (47, .iload_n 1, 48, 1, 0, 0, 0), (48, .ifCond .ne (-36), 51, 12, 0, 0, 0), (51, .aload_n 0, 52, 0, 0, 0, 0), (52, .invokevirtual 188, 55, 143, 1, 1, 12), (55, .ifCond .eq (-43), 58, 12, 0, 0, 0), (58, .aload_n 0, 59, 0, 0, 0, 0), (59, .invokevirtual 370, 62, 191, 1, 1, 12), (62, .istore_n 1, 63, 1, 0, 0, 0), (63, .goto (-51), 66, 12, 0, 0, 0)]
def sg_192_66 : List En := [(66, .aload_n 0, 67, 0, 0, 0, 0), (67, .bipush 93, 69, 0, 0, 0, 0), (69, .invokevirtual 250, 72, 154, 2, 0, 12), (72, .aload_n 0, 73, 0, 0, 0, 0), (73, .invokevirtual 188, 76, 143, 1, 1, 12), (76, .ifCond .ne 4, 79, 80, 0, 0, 0), (79, .return_, 80, 0, 0, 0, 0)]
def sg_192_80 : List En := [(80, .aload_n 0, 81, 0, 0, 0, 0), (81, .dup, 82, 0, 0, 0, 0), (82, .getfield 352, 85, 12, 0, 40, 0), (85, .iconst 1, 86, 0, 0, 0, 0), (86, .isub, 87, 0, 0, 0, 0), (87, .putfield 352, 90, 12, 0, 40, 0), (90, .aload_n 0, 91, 0, 0, 0, 0), (91, .dup, 92, 0, 0, 0, 0), (92, .getfield 355, 95, 12, 0, 41, 0), (95, .iconst 1, 96, 0, 0, 0, 0), (96, .isub, 97, 0, 0, 0, 0), (97, .putfield 355, 100, 12, 0, 41, 0), (100, .aload_n 0, 101, 0, 0, 0, 0), (101, .invokevirtual 370, 104, 191, 1, 1, 12), (104, .istore_n 1, 105, 1, 0, 0, 0), (105, .goto (-93), 108, 12, 0, 0, 0)]
def sg_192_108 : List En := [(108, .return_, 109, 0, 0, 0, 0)]
def pg_192 : List En := sg_192_0 ++ sg_192_12 ++ sg_192_30 ++ sg_192_45 ++ sg_192_46 ++ sg_192_66 ++ sg_192_80 ++ sg_192_108
/-! 193 LeastFailingModel.bugs -/
def sg_193_0 : List En := [(0, .aload_n 0, 1, 0, 0, 0, 0), (1, .iconst 0, 2, 0, 0, 0, 0), (2, .putfield 136, 5, 12, 0, 0, 0), (5, .aload_n 0, 6, 0, 0, 0, 0), (6, .getfield 17, 9, 12, 6, 14, 0), (9, .sipush 192, 12, 0, 0, 0, 0), (12, .iaload, 13, 0, 0, 0, 0), (13, .ifCond .ne 11, 16, 24, 0, 0, 0), (16, .aload_n 0, 17, 0, 0, 0, 0), (17, .iconst 0, 18, 0, 0, 0, 0), (18, .putfield 139, 21, 12, 0, 2, 0), (21, .bipush (-3), 23, 0, 0, 0, 0), (23, .ireturn, 24, 0, 0, 0, 0)]
def sg_193_24 : List En := [(24, .aload_n 0, 25, 0, 0, 0, 0), (25, .invokevirtual 267, 28, 142, 1, 0, 12), (28, .aload_n 0, 29, 0, 0, 0, 0), (29, .iconst 0, 30, 0, 0, 0, 0), (30, .putfield 336, 33, 12, 0, 38, 0), (33, .iconst 0, 34, 0, 0, 0, 0), (34, .istore_n 1, 35, 1, 0, 0, 0)]
def sg_193_35 : List En := [(35, .aload_n 0, 36, 0, 0, 0, 0), (36, .invokevirtual 188, 39, 143, 1, 1, 12), (39, .ifCond .eq 76, 42, 115, 0, 0, 0), (42, .aload_n 0, 43, 0, 0, 0, 0), (43, .invokevirtual 270, 46, 150, 1, 1, 12), (46, .ifCond .ne 69, 49, 115, 0, 0, 0), (49, .aload_n 0, 50, 0, 0, 0, 0), (50, .bipush 98, 52, 0, 0, 0, 0), (52, .bipush 117, 54, 0, 0, 0, 0), (54, .bipush 103, 56, 0, 0, 0, 0), (56, .iconst 0, 57, 0, 0, 0, 0), (57, .iconst 0, 58, 0, 0, 0, 0), (58, .iconst 0, 59, 0, 0, 0, 0), (59, .invokestatic 227, 62, 155, 6, 2, 0), (62, .invokevirtual 220, 65, 157, 2, 1, 12), (65, .ifCond .ne 10, 68, 75, 0, 0, 0), (68, .aload_n 0, 69, 0, 0, 0, 0), (69, .invokevirtual 199, 72, 151, 1, 0, 12), (72, .goto 18, 75, 90, 0, 0, 0)]
def sg_193_75 : List En := [(75, .iload_n 1, 76, 1, 0, 0, 0), (76, .bipush 6, 78, 0, 0, 0, 0), (78, .if_icmp .ne 12, 81, 90, 0, 0, 0), (81, .aload_n 0, 82, 0, 0, 0, 0), (82, .iconst 4, 83, 0, 0, 0, 0), (83, .aload_n 0, 84, 0, 0, 0, 0), (84, .invokevirtual 180, 87, 149, 1, 1, 12), (87, .invokevirtual 184, 90, 144, 3, 0, 12)]
def sg_193_90 : List En := [(90, .aload_n 0, 91, 0, 0, 0, 0), (91, .invokevirtual 188, 94, 143, 1, 1, 12), (94, .ifCond .ne 6, 97, 100, 0, 0, 0), (97, .goto 18, 100, 115, 0, 0, 0)]
def sg_193_100 : List En := [(100, .aload_n 0, 101, 0, 0, 0, 0), (101, .invokevirtual 224, 104, 158, 1, 0, 12), (104, .aload_n 0, 105, 0, 0, 0, 0), (105, .iload_n 1, 106, 1, 0, 0, 0), (106, .invokevirtual 373, 109, 194, 2, 0, 12), (109, .iinc 1 1, 112, 1, 0, 1, 0), (112, .goto (-77), 115, 35, 0, 0, 0)]
def sg_193_115 : List En := [(115, .aload_n 0, 116, 0, 0, 0, 0), (116, .invokevirtual 279, 119, 145, 1, 1, 12), (119, .ifCond .ne 5, 122, 124, 0, 0, 0), (122, .iconst (-1), 123, 0, 0, 0, 0), (123, .ireturn, 124, 0, 0, 0, 0)]
def sg_193_124 : List En := [(124, .aload_n 0, 125, 0, 0, 0, 0), (125, .getfield 64, 128, 12, 36, 32, 0), (128, .iload_n 1, 129, 1, 0, 0, 0), (129, .aload_n 0, 130, 0, 0, 0, 0), (130, .getfield 336, 133, 12, 0, 38, 0), (133, .iastore, 134, 0, 0, 0, 0), (134, .iconst 0, 135, 0, 0, 0, 0), (135, .istore_n 2, 136, 2, 0, 0, 0)]
def sg_193_136 : List En := [(136, .iload_n 2, 137, 2, 0, 0, 0), (137, .iconst 5, 138, 0, 0, 0, 0), (138, .aload_n 0, 139, 0, 0, 0, 0), (139, .getfield 336, 142, 12, 0, 38, 0), (142, .imul, 143, 0, 0, 0, 0), (143, .if_icmp .ge 21, 146, 164, 0, 0, 0), (146, .aload_n 0, 147, 0, 0, 0, 0), (147, .getfield 55, 150, 12, 30, 29, 0), (150, .iload_n 2, 151, 2, 0, 0, 0), (151, .aload_n 0, 152, 0, 0, 0, 0), (152, .getfield 58, 155, 12, 32, 30, 0), (155, .iload_n 2, 156, 2, 0, 0, 0), (156, .iaload, 157, 0, 0, 0, 0), (157, .iastore, 158, 0, 0, 0, 0), (158, .iinc 2 1, 161, 2, 0, 1, 0), (161, .goto (-25), 164, 136, 0, 0, 0)]
def sg_193_164 : List En := [(164, .iconst 0, 165, 0, 0, 0, 0), (165, .istore_n 2, 166, 2, 0, 0, 0)]
def sg_193_166 : List En := [(166, .iload_n 2, 167, 2, 0, 0, 0), (167, .iload_n 1, 168, 1, 0, 0, 0), (168, .if_icmp .gt 21, 171, 189, 0, 0, 0), (171, .aload_n 0, 172, 0, 0, 0, 0), (172, .getfield 61, 175, 12, 34, 31, 0), (175, .iload_n 2, 176, 2, 0, 0, 0), (176, .aload_n 0, 177, 0, 0, 0, 0), (177, .getfield 64, 180, 12, 36, 32, 0), (180, .iload_n 2, 181, 2, 0, 0, 0), (181, .iaload, 182, 0, 0, 0, 0), (182, .iastore, 183, 0, 0, 0, 0), (183, .iinc 2 1, 186, 2, 0, 1, 0), (186, .goto (-20), 189, 166, 0, 0, 0)]
def sg_193_189 : List En := [(189, .iconst 0, 190, 0, 0, 0, 0), (190, .istore_n 2, 191, 2, 0, 0, 0)]
def sg_193_191 : List En := [(191, .iload_n 2, 192, 2, 0, 0, 0), (192, .iload_n 1, 193, 1, 0, 0, 0), (193, .if_icmp .ge 33, 196, 226, 0, 0, 0), (196, .aload_n 0, 197, 0, 0, 0, 0), (197, .getfield 67, 200, 12, 38, 33, 0), (200, .iload_n 2, 201, 2, 0, 0, 0), (201, .aload_n 0, 202, 0, 0, 0, 0), (202, .getfield 70, 205, 12, 40, 34, 0), (205, .iload_n 2, 206, 2, 0, 0, 0), (206, .iaload, 207, 0, 0, 0, 0), (207, .iastore, 208, 0, 0, 0, 0), (208, .aload_n 0, 209, 0, 0, 0, 0), (209, .getfield 73, 212, 12, 42, 35, 0), (212, .iload_n 2, 213, 2, 0, 0, 0), (213, .aload_n 0, 214, 0, 0, 0, 0), (214, .getfield 76, 217, 12, 44, 36, 0), (217, .iload_n 2, 218, 2, 0, 0, 0), (218, .laload, 219, 0, 0, 0, 0), (219, .lastore, 220, 0, 0, 0, 0), (220, .iinc 2 1, 223, 2, 0, 1, 0), (223, .goto (-32), 226, 191, 0, 0, 0)]
def sg_193_226 : List En := [(226, .aload_n 0, 227, 0, 0, 0, 0), (227, .iload_n 1, 228, 1, 0, 0, 0), (228, .putfield 286, 231, 12, 0, 37, 0), (231, .aload_n 0, 232, 0, 0, 0, 0), (232, .invokevirtual 292, 235, 209, 1, 0, 12), (235, .iload_n 1, 236, 1, 0, 0, 0), (236, .ireturn, 237, 0, 0, 0, 0)]
def pg_193 : List En := sg_193_0 ++ sg_193_24 ++ sg_193_35 ++ sg_193_75 ++ sg_193_90 ++ sg_193_100 ++ sg_193_115 ++ sg_193_124 ++ sg_193_136 ++ sg_193_164 ++ sg_193_166 ++ sg_193_189 ++ sg_193_191 ++ sg_193_226
/-! 194 LeastFailingModel.bugRead -/
def sg_194_0 : List En := [(0, .aload_n 0, 1, 0, 0, 0, 0), (1, .invokevirtual 246, 4, 162, 1, 2, 12), (4, .lstore_n 2, 5, 2, 0, 0, 0), (5, .iconst 0, 6, 0, 0, 0, 0), (6, .istore 4, 8, 4, 0, 0, 0)]
def sg_194_8 : List En := [(8, .iload 4, 10, 4, 0, 0, 0), (10, .iload_n 1, 11, 1, 0, 0, 0), (11, .if_icmp .ge 37, 14, 48, 0, 0, 0), (14, .aload_n 0, 15, 0, 0, 0, 0), (15, .invokevirtual 188, 18, 143, 1, 1, 12), (18, .ifCond .eq 30, 21, 48, 0, 0, 0), (21, .aload_n 0, 22, 0, 0, 0, 0), (22, .getfield 76, 25, 12, 44, 36, 0), (25, .iload 4, 27, 4, 0, 0, 0), (27, .laload, 28, 0, 0, 0, 0), (28, .lload_n 2, 29, 2, 0, 0, 0), (29, .lcmp, 30, 0, 0, 0, 0), (30, .ifCond .ne 12, 33, 42, 0, 0, 0), (33, .aload_n 0, 34, 0, 0, 0, 0), (34, .iconst 3, 35, 0, 0, 0, 0), (35, .aload_n 0, 36, 0, 0, 0, 0), (36, .getfield 234, 39, 12, 0, 12, 0), (39, .invokevirtual 184, 42, 144, 3, 0, 12)]
def sg_194_42 : List En := [(42, .iinc 4 1, 45, 4, 0, 1, 0), (45, .goto (-37), 48, 8, 0, 0, 0)]
def sg_194_48 : List En := [(48, .aload_n 0, 49, 0, 0, 0, 0), (49, .invokevirtual 188, 52, 143, 1, 1, 12), (52, .ifCond .eq 27, 55, 79, 0, 0, 0), (55, .aload_n 0, 56, 0, 0, 0, 0), (56, .bipush 111, 58, 0, 0, 0, 0), (58, .bipush 100, 60, 0, 0, 0, 0), (60, .bipush 100, 62, 0, 0, 0, 0), (62, .bipush 115, 64, 0, 0, 0, 0), (64, .iconst 0, 65, 0, 0, 0, 0), (65, .iconst 0, 66, 0, 0, 0, 0), (66, .invokestatic 227, 69, 155, 6, 2, 0), (69, .invokevirtual 339, 72, 159, 2, 1, 12), (72, .ifCond .ne 7, 75, 79, 0, 0, 0), (75, .aload_n 0, 76, 0, 0, 0, 0), (76, .invokevirtual 199, 79, 151, 1, 0, 12)]
def sg_194_79 : List En := [(79, .aload_n 0, 80, 0, 0, 0, 0), (80, .invokevirtual 188, 83, 143, 1, 1, 12), (83, .ifCond .eq 10, 86, 93, 0, 0, 0), (86, .aload_n 0, 87, 0, 0, 0, 0), (87, .invokevirtual 345, 90, 163, 1, 1, 12), (90, .goto 4, 93, 94, 0, 0, 0)]
def sg_194_93 : List En := [(93, .iconst 0, 94, 0, 0, 0, 0)]
def sg_194_94 : List En := [(94, .istore 4, 96, 4, 0, 0, 0), (96, .aload_n 0, 97, 0, 0, 0, 0), (97, .invokevirtual 188, 100, 143, 1, 1, 12), (100, .ifCond .eq 25, 103, 125, 0, 0, 0), (103, .iload 4, 105, 4, 0, 0, 0), (105, .i2l, 106, 0, 0, 0, 0), (106, .lconst 1, 107, 0, 0, 1, 0), (107, .ldc2_w 376, 110, 0, 0, 100, 0), (110, .invokestatic 146, 113, 137, 3, 1, 0), (113, .ifCond .ne 12, 116, 125, 0, 0, 0), (116, .aload_n 0, 117, 0, 0, 0, 0), (117, .iconst 2, 118, 0, 0, 0, 0), (118, .aload_n 0, 119, 0, 0, 0, 0), (119, .getfield 240, 122, 12, 0, 13, 0), (122, .invokevirtual 184, 125, 144, 3, 0, 12)]
def sg_194_125 : List En := [(125, .aload_n 0, 126, 0, 0, 0, 0), (126, .invokevirtual 188, 129, 143, 1, 1, 12), (129, .ifCond .eq 27, 132, 156, 0, 0, 0), (132, .aload_n 0, 133, 0, 0, 0, 0), (133, .bipush 119, 135, 0, 0, 0, 0), (135, .bipush 104, 137, 0, 0, 0, 0), (137, .bipush 101, 139, 0, 0, 0, 0), (139, .bipush 110, 141, 0, 0, 0, 0), (141, .iconst 0, 142, 0, 0, 0, 0), (142, .iconst 0, 143, 0, 0, 0, 0), (143, .invokestatic 227, 146, 155, 6, 2, 0), (146, .invokevirtual 339, 149, 159, 2, 1, 12), (149, .ifCond .ne 7, 152, 156, 0, 0, 0), (152, .aload_n 0, 153, 0, 0, 0, 0), (153, .invokevirtual 199, 156, 151, 1, 0, 12)]
def sg_194_156 : List En := [(156, .aload_n 0, 157, 0, 0, 0, 0), (157, .invokevirtual 188, 160, 143, 1, 1, 12), (160, .ifCond .ne 4, 163, 164, 0, 0, 0), (163, .return_, 164, 0, 0, 0, 0)]
def sg_194_164 : List En := [(164, .aload_n 0, 165, 0, 0, 0, 0), (165, .getfield 76, 168, 12, 44, 36, 0), (168, .iload_n 1, 169, 1, 0, 0, 0), (169, .lload_n 2, 170, 2, 0, 0, 0), (170, .lastore, 171, 0, 0, 0, 0), (171, .aload_n 0, 172, 0, 0, 0, 0), (172, .getfield 70, 175, 12, 40, 34, 0), (175, .iload_n 1, 176, 1, 0, 0, 0), (176, .iload 4, 178, 4, 0, 0, 0), (178, .iastore, 179, 0, 0, 0, 0), (179, .aload_n 0, 180, 0, 0, 0, 0), (180, .getfield 64, 183, 12, 36, 32, 0), (183, .iload_n 1, 184, 1, 0, 0, 0), (184, .aload_n 0, 185, 0, 0, 0, 0), (185, .getfield 336, 188, 12, 0, 38, 0), (188, .iastore, 189, 0, 0, 0, 0), (189, .aload_n 0, 190, 0, 0, 0, 0), (190, .invokevirtual 378, 193, 192, 1, 0, 12), (193, .aload_n 0, 194, 0, 0, 0, 0), (194, .bipush 59, 196, 0, 0, 0, 0), (196, .invokevirtual 250, 199, 154, 2, 0, 12), (199, .return_, 200, 0, 0, 0, 0)]
def pg_194 : List En := sg_194_0 ++ sg_194_8 ++ sg_194_42 ++ sg_194_48 ++ sg_194_79 ++ sg_194_93 ++ sg_194_94 ++ sg_194_125 ++ sg_194_156 ++ sg_194_164
/-! 195 LeastFailingModel.fault -/
def sg_195_0 : List En := [(0, .aload_n 0, 1, 0, 0, 0, 0), (1, .iconst 0, 2, 0, 0, 0, 0), (2, .putfield 136, 5, 12, 0, 0, 0), (5, .iload_n 1, 6, 1, 0, 0, 0), (6, .ifCond .ne 10, 9, 16, 0, 0, 0), (9, .aload_n 0, 10, 0, 0, 0, 0), (10, .getfield 165, 13, 12, 0, 8, 0), (13, .goto 16, 16, 29, 0, 0, 0)]
def sg_195_16 : List En := [(16, .iload_n 1, 17, 1, 0, 0, 0), (17, .iconst 1, 18, 0, 0, 0, 0), (18, .if_icmp .ne 10, 21, 28, 0, 0, 0), (21, .aload_n 0, 22, 0, 0, 0, 0), (22, .getfield 13, 25, 12, 0, 9, 0), (25, .goto 4, 28, 29, 0, 0, 0)]
def sg_195_28 : List En := [(28, .iconst (-1), 29, 0, 0, 0, 0)]
def sg_195_29 : List En := [(29, .ireturn, 30, 0, 0, 0, 0)]
def pg_195 : List En := sg_195_0 ++ sg_195_16 ++ sg_195_28 ++ sg_195_29
/-! 196 LeastFailingModel.lays -/
def sg_196_0 : List En := [(0, .aload_n 0, 1, 0, 0, 0, 0), (1, .iconst 0, 2, 0, 0, 0, 0), (2, .putfield 381, 5, 12, 0, 46, 0), (5, .iconst 0, 6, 0, 0, 0, 0), (6, .istore_n 2, 7, 2, 0, 0, 0)]
def sg_196_7 : List En := [(7, .iload_n 2, 8, 2, 0, 0, 0), (8, .aload_n 0, 9, 0, 0, 0, 0), (9, .iload_n 1, 10, 1, 0, 0, 0), (10, .invokevirtual 307, 13, 174, 2, 1, 12), (13, .if_icmp .ge 163, 16, 176, 0, 0, 0), (16, .iload_n 2, 17, 2, 0, 0, 0), (17, .ifCond .ne 31, 20, 48, 0, 0, 0), (20, .aload_n 0, 21, 0, 0, 0, 0), (21, .getfield 82, 24, 12, 48, 42, 0), (24, .iconst 0, 25, 0, 0, 0, 0), (25, .iconst (-1), 26, 0, 0, 0, 0), (26, .iastore, 27, 0, 0, 0, 0), (27, .aload_n 0, 28, 0, 0, 0, 0), (28, .getfield 85, 31, 12, 50, 43, 0), (31, .iconst 0, 32, 0, 0, 0, 0), (32, .iconst 0, 33, 0, 0, 0, 0), (33, .iastore, 34, 0, 0, 0, 0), (34, .aload_n 0, 35, 0, 0, 0, 0), (35, .getfield 88, 38, 12, 52, 44, 0), (38, .iconst 0, 39, 0, 0, 0, 0), (39, .iconst (-1), 40, 0, 0, 0, 0), (40, .iastore, 41, 0, 0, 0, 0), (41, .aload_n 0, 42, 0, 0, 0, 0), (42, .getfield 91, 45, 12, 54, 45, 0), (45, .iconst 0, 46, 0, 0, 0, 0), (46, .iconst 0, 47, 0, 0, 0, 0), (47, .bastore, 48, 0, 0, 0, 1)]
def sg_196_48 : List En := [(48, .iconst 0, 49, 0, 0, 0, 0), (49, .istore_n 3, 50, 3, 0, 0, 0), (50, .aload_n 0, 51, 0, 0, 0, 0), (51, .iload_n 1, 52, 1, 0, 0, 0), (52, .iload_n 2, 53, 2, 0, 0, 0), (53, .invokevirtual 301, 56, 175, 3, 1, 12), (56, .istore 4, 58, 4, 0, 0, 0), (58, .iload_n 2, 59, 2, 0, 0, 0), (59, .iconst 1, 60, 0, 0, 0, 0), (60, .iadd, 61, 0, 0, 0, 0), (61, .istore 5, 63, 5, 0, 0, 0)]
def sg_196_63 : List En := [(63, .iload 5, 65, 5, 0, 0, 0), (65, .iload_n 2, 66, 2, 0, 0, 0), (66, .aload_n 0, 67, 0, 0, 0, 0), (67, .iload_n 1, 68, 1, 0, 0, 0), (68, .iload_n 2, 69, 2, 0, 0, 0), (69, .invokevirtual 384, 72, 176, 3, 1, 12), (72, .iadd, 73, 0, 0, 0, 0), (73, .if_icmp .ge 74, 76, 147, 0, 0, 0), (76, .aload_n 0, 77, 0, 0, 0, 0), (77, .getfield 82, 80, 12, 48, 42, 0), (80, .iload 5, 82, 5, 0, 0, 0), (82, .iload_n 2, 83, 2, 0, 0, 0), (83, .iastore, 84, 0, 0, 0, 0), (84, .aload_n 0, 85, 0, 0, 0, 0), (85, .getfield 85, 88, 12, 50, 43, 0), (88, .iload 5, 90, 5, 0, 0, 0), (90, .aload_n 0, 91, 0, 0, 0, 0), (91, .getfield 85, 94, 12, 50, 43, 0), (94, .iload_n 2, 95, 2, 0, 0, 0), (95, .iaload, 96, 0, 0, 0, 0), (96, .iconst 1, 97, 0, 0, 0, 0), (97, .iadd, 98, 0, 0, 0, 0), (98, .iastore, 99, 0, 0, 0, 0), (99, .aload_n 0, 100, 0, 0, 0, 0), (100, .getfield 88, 103, 12, 52, 44, 0), (103, .iload 5, 105, 5, 0, 0, 0), (105, .iload_n 3, 106, 3, 0, 0, 0), (106, .iastore, 107, 0, 0, 0, 0), (107, .aload_n 0, 108, 0, 0, 0, 0), (108, .getfield 91, 111, 12, 54, 45, 0), (111, .iload 5, 113, 5, 0, 0, 0), (113, .iload_n 3, 114, 3, 0, 0, 0), (114, .aload_n 0, 115, 0, 0, 0, 0), (115, .iload 4, 117, 4, 0, 0, 0), (117, .invokevirtual 295, 120, 172, 2, 1, 12), (120, .if_icmp .lt 7, 123, 127, 0, 0, 0), (123, .iconst 1, 124, 0, 0, 0, 0), (124, .goto 4, 127, 128, 0, 0, 0)]
def sg_196_127 : List En := [(127, .iconst 0, 128, 0, 0, 0, 0)]
def sg_196_128 : List En := [(128, .bastore, 129, 0, 0, 0, 1), (129, .iinc 3 1, 132, 3, 0, 1, 0), (132, .iload 5, 134, 5, 0, 0, 0), (134, .aload_n 0, 135, 0, 0, 0, 0), (135, .iload_n 1, 136, 1, 0, 0, 0), (136, .iload 5, 138, 5, 0, 0, 0), (138, .invokevirtual 384, 141, 176, 3, 1, 12), (141, .iadd, 142, 0, 0, 0, 0), (142, .istore 5, 144, 5, 0, 0, 0), (144, .goto (-81), 147, 63, 0, 0, 0)]
def sg_196_147 : List En := [(147, .aload_n 0, 148, 0, 0, 0, 0), (148, .getfield 85, 151, 12, 50, 43, 0), (151, .iload_n 2, 152, 2, 0, 0, 0), (152, .iaload, 153, 0, 0, 0, 0), (153, .aload_n 0, 154, 0, 0, 0, 0), (154, .getfield 381, 157, 12, 0, 46, 0), (157, .if_icmp .le 13, 160, 170, 0, 0, 0), (160, .aload_n 0, 161, 0, 0, 0, 0), (161, .aload_n 0, 162, 0, 0, 0, 0), (162, .getfield 85, 165, 12, 50, 43, 0), (165, .iload_n 2, 166, 2, 0, 0, 0), (166, .iaload, 167, 0, 0, 0, 0), (167, .putfield 381, 170, 12, 0, 46, 0)]
def sg_196_170 : List En := [(170, .iinc 2 1, 173, 2, 0, 1, 0), (173, .goto (-166), 176, 7, 0, 0, 0)]
def sg_196_176 : List En := [(176, .return_, 177, 0, 0, 0, 0)]
def pg_196 : List En := sg_196_0 ++ sg_196_7 ++ sg_196_48 ++ sg_196_63 ++ sg_196_127 ++ sg_196_128 ++ sg_196_147 ++ sg_196_170 ++ sg_196_176
/-! 197 LeastFailingModel.sortAt -/
def sg_197_0 : List En := [(0, .aload_n 0, 1, 0, 0, 0, 0), (1, .aload_n 0, 2, 0, 0, 0, 0), (2, .iload_n 1, 3, 1, 0, 0, 0), (3, .iload_n 2, 4, 2, 0, 0, 0), (4, .invokevirtual 301, 7, 175, 3, 1, 12), (7, .iconst 0, 8, 0, 0, 0, 0), (8, .invokevirtual 282, 11, 170, 3, 1, 12), (11, .ireturn, 12, 0, 0, 0, 0)]
def pg_197 : List En := sg_197_0
/-! 198 LeastFailingModel.leastAt -/
def sg_198_0 : List En := [(0, .iload_n 1, 1, 1, 0, 0, 0), (1, .istore_n 3, 2, 3, 0, 0, 0), (2, .iload_n 2, 3, 2, 0, 0, 0), (3, .istore 4, 5, 4, 0, 0, 0)]
def sg_198_5 : List En := [(5, .iload 4, 7, 4, 0, 0, 0), (7, .ifCond .le 77, 10, 84, 0, 0, 0), (10, .aload_n 0, 11, 0, 0, 0, 0), (11, .getfield 40, 14, 12, 20, 21, 0), (14, .iload_n 3, 15, 3, 0, 0, 0), (15, .iaload, 16, 0, 0, 0, 0), (16, .istore 5, 18, 5, 0, 0, 0), (18, .iinc 4 (-1), 21, 4, 0, -1, 0), (21, .iconst 0, 22, 0, 0, 0, 0), (22, .istore 6, 24, 6, 0, 0, 0)]
def sg_198_24 : List En := [(24, .iload 4, 26, 4, 0, 0, 0), (26, .aload_n 0, 27, 0, 0, 0, 0), (27, .getfield 37, 30, 12, 18, 20, 0), (30, .aload_n 0, 31, 0, 0, 0, 0), (31, .iload 5, 33, 5, 0, 0, 0), (33, .iconst 4, 34, 0, 0, 0, 0), (34, .iload 6, 36, 6, 0, 0, 0), (36, .iadd, 37, 0, 0, 0, 0), (37, .invokevirtual 282, 40, 170, 3, 1, 12), (40, .iaload, 41, 0, 0, 0, 0), (41, .if_icmp .lt 29, 44, 70, 0, 0, 0), (44, .iload 4, 46, 4, 0, 0, 0), (46, .aload_n 0, 47, 0, 0, 0, 0), (47, .getfield 37, 50, 12, 18, 20, 0), (50, .aload_n 0, 51, 0, 0, 0, 0), (51, .iload 5, 53, 5, 0, 0, 0), (53, .iconst 4, 54, 0, 0, 0, 0), (54, .iload 6, 56, 6, 0, 0, 0), (56, .iadd, 57, 0, 0, 0, 0), (57, .invokevirtual 282, 60, 170, 3, 1, 12), (60, .iaload, 61, 0, 0, 0, 0), (61, .isub, 62, 0, 0, 0, 0), (62, .istore 4, 64, 4, 0, 0, 0), (64, .iinc 6 1, 67, 6, 0, 1, 0), (67, .goto (-43), 70, 24, 0, 0, 0)]
def sg_198_70 : List En := [(70, .aload_n 0, 71, 0, 0, 0, 0), (71, .iload 5, 73, 5, 0, 0, 0), (73, .iconst 4, 74, 0, 0, 0, 0), (74, .iload 6, 76, 6, 0, 0, 0), (76, .iadd, 77, 0, 0, 0, 0), (77, .invokevirtual 282, 80, 170, 3, 1, 12), (80, .istore_n 3, 81, 3, 0, 0, 0), (81, .goto (-76), 84, 5, 0, 0, 0)]
def sg_198_84 : List En := [(84, .aload_n 0, 85, 0, 0, 0, 0), (85, .getfield 40, 88, 12, 20, 21, 0), (88, .iload_n 3, 89, 3, 0, 0, 0), (89, .iaload, 90, 0, 0, 0, 0), (90, .ireturn, 91, 0, 0, 0, 0)]
def pg_198 : List En := sg_198_0 ++ sg_198_5 ++ sg_198_24 ++ sg_198_70 ++ sg_198_84
/-! 199 LeastFailingModel.deepOf -/
def sg_199_0 : List En := [(0, .iconst 0, 1, 0, 0, 0, 0), (1, .istore_n 2, 2, 2, 0, 0, 0), (2, .iconst 0, 3, 0, 0, 0, 0), (3, .istore_n 3, 4, 3, 0, 0, 0), (4, .iconst 0, 5, 0, 0, 0, 0), (5, .istore 4, 7, 4, 0, 0, 0)]
def sg_199_7 : List En := [(7, .iload 4, 9, 4, 0, 0, 0), (9, .aload_n 0, 10, 0, 0, 0, 0), (10, .iload_n 1, 11, 1, 0, 0, 0), (11, .invokevirtual 307, 14, 174, 2, 1, 12), (14, .if_icmp .ge 62, 17, 76, 0, 0, 0)]
def sg_199_17 : List En := [(17, .iload_n 3, 18, 3, 0, 0, 0), (18, .ifCond .le 22, 21, 40, 0, 0, 0), (21, .aload_n 0, 22, 0, 0, 0, 0), (22, .getfield 127, 25, 12, 72, 62, 0), (25, .iload_n 3, 26, 3, 0, 0, 0), (26, .iconst 1, 27, 0, 0, 0, 0), (27, .isub, 28, 0, 0, 0, 0), (28, .iaload, 29, 0, 0, 0, 0), (29, .iload 4, 31, 4, 0, 0, 0), (31, .if_icmp .gt 9, 34, 40, 0, 0, 0), (34, .iinc 3 (-1), 37, 3, 0, -1, 0), (37, .goto (-20), 40, 17, 0, 0, 0)]
def sg_199_40 : List En := [(40, .iload_n 3, 41, 3, 0, 0, 0), (41, .iload_n 2, 42, 2, 0, 0, 0), (42, .if_icmp .le 7, 45, 49, 0, 0, 0), (45, .iload_n 3, 46, 3, 0, 0, 0), (46, .goto 4, 49, 50, 0, 0, 0)]
def sg_199_49 : List En := [(49, .iload_n 2, 50, 2, 0, 0, 0)]
def sg_199_50 : List En := [(50, .istore_n 2, 51, 2, 0, 0, 0), (51, .aload_n 0, 52, 0, 0, 0, 0), (52, .getfield 127, 55, 12, 72, 62, 0), (55, .iload_n 3, 56, 3, 0, 0, 0), (56, .iload 4, 58, 4, 0, 0, 0), (58, .aload_n 0, 59, 0, 0, 0, 0), (59, .iload_n 1, 60, 1, 0, 0, 0), (60, .iload 4, 62, 4, 0, 0, 0), (62, .invokevirtual 384, 65, 176, 3, 1, 12), (65, .iadd, 66, 0, 0, 0, 0), (66, .iastore, 67, 0, 0, 0, 0), (67, .iinc 3 1, 70, 3, 0, 1, 0), (70, .iinc 4 1, 73, 4, 0, 1, 0), (73, .goto (-66), 76, 7, 0, 0, 0)]
def sg_199_76 : List En := [(76, .iload_n 2, 77, 2, 0, 0, 0), (77, .ireturn, 78, 0, 0, 0, 0)]
def pg_199 : List En := sg_199_0 ++ sg_199_7 ++ sg_199_17 ++ sg_199_40 ++ sg_199_49 ++ sg_199_50 ++ sg_199_76
/-! 200 LeastFailingModel.underOf -/
def sg_200_0 : List En := [(0, .iconst 0, 1, 0, 0, 0, 0), (1, .istore 4, 3, 4, 0, 0, 0), (3, .iconst 0, 4, 0, 0, 0, 0), (4, .istore 5, 6, 5, 0, 0, 0), (6, .iconst 0, 7, 0, 0, 0, 0), (7, .istore 6, 9, 6, 0, 0, 0)]
def sg_200_9 : List En := [(9, .iload 6, 11, 6, 0, 0, 0), (11, .aload_n 0, 12, 0, 0, 0, 0), (12, .iload_n 1, 13, 1, 0, 0, 0), (13, .invokevirtual 307, 16, 174, 2, 1, 12), (16, .if_icmp .ge 78, 19, 94, 0, 0, 0), (19, .iload 4, 21, 4, 0, 0, 0), (21, .iload 6, 23, 6, 0, 0, 0), (23, .iload 5, 25, 5, 0, 0, 0), (25, .if_icmp .ge 18, 28, 43, 0, 0, 0), (28, .aload_n 0, 29, 0, 0, 0, 0), (29, .iload_n 1, 30, 1, 0, 0, 0), (30, .iload 6, 32, 6, 0, 0, 0), (32, .invokevirtual 301, 35, 175, 3, 1, 12), (35, .iload_n 3, 36, 3, 0, 0, 0), (36, .if_icmp .ne 7, 39, 43, 0, 0, 0), (39, .iconst 1, 40, 0, 0, 0, 0), (40, .goto 4, 43, 44, 0, 0, 0)]
def sg_200_43 : List En := [(43, .iconst 0, 44, 0, 0, 0, 0)]
def sg_200_44 : List En := [(44, .invokestatic 256, 47, 138, 1, 1, 0), (47, .iadd, 48, 0, 0, 0, 0), (48, .istore 4, 50, 4, 0, 0, 0), (50, .aload_n 0, 51, 0, 0, 0, 0), (51, .iload_n 1, 52, 1, 0, 0, 0), (52, .iload 6, 54, 6, 0, 0, 0), (54, .invokevirtual 301, 57, 175, 3, 1, 12), (57, .iload_n 2, 58, 2, 0, 0, 0), (58, .if_icmp .ne 30, 61, 88, 0, 0, 0), (61, .iload 6, 63, 6, 0, 0, 0), (63, .aload_n 0, 64, 0, 0, 0, 0), (64, .iload_n 1, 65, 1, 0, 0, 0), (65, .iload 6, 67, 6, 0, 0, 0), (67, .invokevirtual 384, 70, 176, 3, 1, 12), (70, .iadd, 71, 0, 0, 0, 0), (71, .iload 5, 73, 5, 0, 0, 0), (73, .if_icmp .le 15, 76, 88, 0, 0, 0), (76, .iload 6, 78, 6, 0, 0, 0), (78, .aload_n 0, 79, 0, 0, 0, 0), (79, .iload_n 1, 80, 1, 0, 0, 0), (80, .iload 6, 82, 6, 0, 0, 0), (82, .invokevirtual 384, 85, 176, 3, 1, 12), (85, .iadd, 86, 0, 0, 0, 0), (86, .istore 5, 88, 5, 0, 0, 0)]
def sg_200_88 : List En := [(88, .iinc 6 1, 91, 6, 0, 1, 0), (91, .goto (-82), 94, 9, 0, 0, 0)]
def sg_200_94 : List En := [(94, .iload 4, 96, 4, 0, 0, 0), (96, .ireturn, 97, 0, 0, 0, 0)]
def pg_200 : List En := sg_200_0 ++ sg_200_9 ++ sg_200_43 ++ sg_200_44 ++ sg_200_88 ++ sg_200_94
/-! 201 LeastFailingModel.nextOf -/
def sg_201_0 : List En := [(0, .iconst 0, 1, 0, 0, 0, 0), (1, .istore 4, 3, 4, 0, 0, 0), (3, .iconst 0, 4, 0, 0, 0, 0), (4, .istore 5, 6, 5, 0, 0, 0)]
def sg_201_6 : List En := [(6, .iload 5, 8, 5, 0, 0, 0), (8, .aload_n 0, 9, 0, 0, 0, 0), (9, .iload_n 1, 10, 1, 0, 0, 0), (10, .invokevirtual 307, 13, 174, 2, 1, 12), (13, .if_icmp .ge 103, 16, 116, 0, 0, 0), (16, .iload 5, 18, 5, 0, 0, 0), (18, .aload_n 0, 19, 0, 0, 0, 0), (19, .iload_n 1, 20, 1, 0, 0, 0), (20, .iload 5, 22, 5, 0, 0, 0), (22, .invokevirtual 384, 25, 176, 3, 1, 12), (25, .iadd, 26, 0, 0, 0, 0), (26, .istore 6, 28, 6, 0, 0, 0), (28, .iload 5, 30, 5, 0, 0, 0), (30, .iconst 1, 31, 0, 0, 0, 0), (31, .iadd, 32, 0, 0, 0, 0), (32, .istore 7, 34, 7, 0, 0, 0)]
def sg_201_34 : List En := [(34, .iload 7, 36, 7, 0, 0, 0), (36, .iload 6, 38, 6, 0, 0, 0), (38, .if_icmp .ge 72, 41, 110, 0, 0, 0), (41, .iload 7, 43, 7, 0, 0, 0), (43, .aload_n 0, 44, 0, 0, 0, 0), (44, .iload_n 1, 45, 1, 0, 0, 0), (45, .iload 7, 47, 7, 0, 0, 0), (47, .invokevirtual 384, 50, 176, 3, 1, 12), (50, .iadd, 51, 0, 0, 0, 0), (51, .istore 8, 53, 8, 0, 0, 0), (53, .iload 4, 55, 4, 0, 0, 0), (55, .iload 8, 57, 8, 0, 0, 0), (57, .iload 6, 59, 6, 0, 0, 0), (59, .if_icmp .ge 29, 62, 88, 0, 0, 0), (62, .aload_n 0, 63, 0, 0, 0, 0), (63, .iload_n 1, 64, 1, 0, 0, 0), (64, .iload 7, 66, 7, 0, 0, 0), (66, .invokevirtual 301, 69, 175, 3, 1, 12), (69, .iload_n 2, 70, 2, 0, 0, 0), (70, .if_icmp .ne 18, 73, 88, 0, 0, 0), (73, .aload_n 0, 74, 0, 0, 0, 0), (74, .iload_n 1, 75, 1, 0, 0, 0), (75, .iload 8, 77, 8, 0, 0, 0), (77, .invokevirtual 301, 80, 175, 3, 1, 12), (80, .iload_n 3, 81, 3, 0, 0, 0), (81, .if_icmp .ne 7, 84, 88, 0, 0, 0), (84, .iconst 1, 85, 0, 0, 0, 0), (85, .goto 4, 88, 89, 0, 0, 0)]
def sg_201_88 : List En := [(88, .iconst 0, 89, 0, 0, 0, 0)]
def sg_201_89 : List En := [(89, .invokestatic 256, 92, 138, 1, 1, 0), (92, .iadd, 93, 0, 0, 0, 0), (93, .istore 4, 95, 4, 0, 0, 0), (95, .iload 7, 97, 7, 0, 0, 0), (97, .aload_n 0, 98, 0, 0, 0, 0), (98, .iload_n 1, 99, 1, 0, 0, 0), (99, .iload 7, 101, 7, 0, 0, 0), (101, .invokevirtual 384, 104, 176, 3, 1, 12), (104, .iadd, 105, 0, 0, 0, 0), (105, .istore 7, 107, 7, 0, 0, 0), (107, .goto (-73), 110, 34, 0, 0, 0)]
def sg_201_110 : List En := [(110, .iinc 5 1, 113, 5, 0, 1, 0), (113, .goto (-107), 116, 6, 0, 0, 0)]
def sg_201_116 : List En := [(116, .iload 4, 118, 4, 0, 0, 0), (118, .ireturn, 119, 0, 0, 0, 0)]
def pg_201 : List En := sg_201_0 ++ sg_201_6 ++ sg_201_34 ++ sg_201_88 ++ sg_201_89 ++ sg_201_110 ++ sg_201_116
/-! 202 LeastFailingModel.hasOf -/
def sg_202_0 : List En := [(0, .iconst 0, 1, 0, 0, 0, 0), (1, .istore_n 3, 2, 3, 0, 0, 0), (2, .iconst 0, 3, 0, 0, 0, 0), (3, .istore 4, 5, 4, 0, 0, 0)]
def sg_202_5 : List En := [(5, .iload 4, 7, 4, 0, 0, 0), (7, .aload_n 0, 8, 0, 0, 0, 0), (8, .iload_n 1, 9, 1, 0, 0, 0), (9, .invokevirtual 307, 12, 174, 2, 1, 12), (12, .if_icmp .ge 31, 15, 43, 0, 0, 0), (15, .iload_n 3, 16, 3, 0, 0, 0), (16, .aload_n 0, 17, 0, 0, 0, 0), (17, .iload_n 1, 18, 1, 0, 0, 0), (18, .iload 4, 20, 4, 0, 0, 0), (20, .invokevirtual 301, 23, 175, 3, 1, 12), (23, .iload_n 2, 24, 2, 0, 0, 0), (24, .if_icmp .ne 7, 27, 31, 0, 0, 0), (27, .iconst 1, 28, 0, 0, 0, 0), (28, .goto 4, 31, 32, 0, 0, 0)]
def sg_202_31 : List En := [(31, .iconst 0, 32, 0, 0, 0, 0)]
def sg_202_32 : List En := [(32, .invokestatic 256, 35, 138, 1, 1, 0), (35, .iadd, 36, 0, 0, 0, 0), (36, .istore_n 3, 37, 3, 0, 0, 0), (37, .iinc 4 1, 40, 4, 0, 1, 0), (40, .goto (-35), 43, 5, 0, 0, 0)]
def sg_202_43 : List En := [(43, .iload_n 3, 44, 3, 0, 0, 0), (44, .ireturn, 45, 0, 0, 0, 0)]
def pg_202 : List En := sg_202_0 ++ sg_202_5 ++ sg_202_31 ++ sg_202_32 ++ sg_202_43
/-! 203 LeastFailingModel.countOf -/
def sg_203_0 : List En := [(0, .iload_n 2, 1, 2, 0, 0, 0), (1, .tableswitch 59 0 3 #[31, 37, 43, 50], 32, 0, 0, 0, 0)]
def sg_203_32 : List En := [(32, .aload_n 0, 33, 0, 0, 0, 0), (33, .iload_n 1, 34, 1, 0, 0, 0), (34, .invokevirtual 307, 37, 174, 2, 1, 12), (37, .ireturn, 38, 0, 0, 0, 0)]
def sg_203_38 : List En := [(38, .aload_n 0, 39, 0, 0, 0, 0), (39, .iload_n 1, 40, 1, 0, 0, 0), (40, .invokevirtual 387, 43, 199, 2, 1, 12), (43, .ireturn, 44, 0, 0, 0, 0)]
def sg_203_44 : List En := [(44, .aload_n 0, 45, 0, 0, 0, 0), (45, .iload_n 1, 46, 1, 0, 0, 0), (46, .iload_n 3, 47, 3, 0, 0, 0), (47, .invokevirtual 390, 50, 202, 3, 1, 12), (50, .ireturn, 51, 0, 0, 0, 0)]
def sg_203_51 : List En := [(51, .aload_n 0, 52, 0, 0, 0, 0), (52, .iload_n 1, 53, 1, 0, 0, 0), (53, .iload_n 3, 54, 3, 0, 0, 0), (54, .iload 4, 56, 4, 0, 0, 0), (56, .invokevirtual 393, 59, 200, 4, 1, 12), (59, .ireturn, 60, 0, 0, 0, 0)]
def sg_203_60 : List En := [(60, .aload_n 0, 61, 0, 0, 0, 0), (61, .iload_n 1, 62, 1, 0, 0, 0), (62, .iload_n 3, 63, 3, 0, 0, 0), (63, .iload 4, 65, 4, 0, 0, 0), (65, .invokevirtual 397, 68, 201, 4, 1, 12), (68, .ireturn, 69, 0, 0, 0, 0)]
def pg_203 : List En := sg_203_0 ++ sg_203_32 ++ sg_203_38 ++ sg_203_44 ++ sg_203_51 ++ sg_203_60
/-! 204 LeastFailingModel.isSo -/
def sg_204_0 : List En := [(0, .aload_n 0, 1, 0, 0, 0, 0), (1, .iload_n 1, 2, 1, 0, 0, 0), (2, .aload_n 0, 3, 0, 0, 0, 0), (3, .getfield 55, 6, 12, 30, 29, 0), (6, .iconst 5, 7, 0, 0, 0, 0), (7, .iload_n 2, 8, 2, 0, 0, 0), (8, .imul, 9, 0, 0, 0, 0), (9, .iaload, 10, 0, 0, 0, 0), (10, .aload_n 0, 11, 0, 0, 0, 0), (11, .getfield 55, 14, 12, 30, 29, 0), (14, .iconst 5, 15, 0, 0, 0, 0), (15, .iload_n 2, 16, 2, 0, 0, 0), (16, .imul, 17, 0, 0, 0, 0), (17, .iconst 1, 18, 0, 0, 0, 0), (18, .iadd, 19, 0, 0, 0, 0), (19, .iaload, 20, 0, 0, 0, 0), (20, .aload_n 0, 21, 0, 0, 0, 0), (21, .getfield 55, 24, 12, 30, 29, 0), (24, .iconst 5, 25, 0, 0, 0, 0), (25, .iload_n 2, 26, 2, 0, 0, 0), (26, .imul, 27, 0, 0, 0, 0), (27, .iconst 2, 28, 0, 0, 0, 0), (28, .iadd, 29, 0, 0, 0, 0), (29, .iaload, 30, 0, 0, 0, 0), (30, .invokevirtual 400, 33, 203, 5, 1, 12), (33, .istore_n 3, 34, 3, 0, 0, 0), (34, .aload_n 0, 35, 0, 0, 0, 0), (35, .getfield 55, 38, 12, 30, 29, 0), (38, .iconst 5, 39, 0, 0, 0, 0), (39, .iload_n 2, 40, 2, 0, 0, 0), (40, .imul, 41, 0, 0, 0, 0), (41, .iconst 3, 42, 0, 0, 0, 0), (42, .iadd, 43, 0, 0, 0, 0), (43, .iaload, 44, 0, 0, 0, 0), (44, .istore 4, 46, 4, 0, 0, 0), (46, .aload_n 0, 47, 0, 0, 0, 0), (47, .getfield 55, 50, 12, 30, 29, 0), (50, .iconst 5, 51, 0, 0, 0, 0), (51, .iload_n 2, 52, 2, 0, 0, 0), (52, .imul, 53, 0, 0, 0, 0), (53, .iconst 4, 54, 0, 0, 0, 0), (54, .iadd, 55, 0, 0, 0, 0), (55, .iaload, 56, 0, 0, 0, 0), (56, .istore 5, 58, 5, 0, 0, 0), (58, .iload 4, 60, 4, 0, 0, 0), (60, .ifCond .ge 17, 63, 77, 0, 0, 0), (63, .iload_n 3, 64, 3, 0, 0, 0), (64, .iload 5, 66, 5, 0, 0, 0), (66, .if_icmp .ge 7, 69, 73, 0, 0, 0), (69, .iconst 1, 70, 0, 0, 0, 0), (70, .goto 37, 73, 107, 0, 0, 0)]
def sg_204_73 : List En := [(73, .iconst 0, 74, 0, 0, 0, 0), (74, .goto 33, 77, 107, 0, 0, 0)]
def sg_204_77 : List En := [(77, .iload 4, 79, 4, 0, 0, 0), (79, .ifCond .le 17, 82, 96, 0, 0, 0), (82, .iload_n 3, 83, 3, 0, 0, 0), (83, .iload 5, 85, 5, 0, 0, 0), (85, .if_icmp .le 7, 88, 92, 0, 0, 0), (88, .iconst 1, 89, 0, 0, 0, 0), (89, .goto 18, 92, 107, 0, 0, 0)]
def sg_204_92 : List En := [(92, .iconst 0, 93, 0, 0, 0, 0), (93, .goto 14, 96, 107, 0, 0, 0)]
def sg_204_96 : List En := [(96, .iload_n 3, 97, 3, 0, 0, 0), (97, .iload 5, 99, 5, 0, 0, 0), (99, .if_icmp .ne 7, 102, 106, 0, 0, 0), (102, .iconst 1, 103, 0, 0, 0, 0), (103, .goto 4, 106, 107, 0, 0, 0)]
def sg_204_106 : List En := [(106, .iconst 0, 107, 0, 0, 0, 0)]
def sg_204_107 : List En := [(107, .ireturn, 108, 0, 0, 0, 1)]
def pg_204 : List En := sg_204_0 ++ sg_204_73 ++ sg_204_77 ++ sg_204_92 ++ sg_204_96 ++ sg_204_106 ++ sg_204_107
/-! 205 LeastFailingModel.holds -/
def sg_205_0 : List En := [(0, .iconst 0, 1, 0, 0, 0, 0), (1, .istore_n 3, 2, 3, 0, 0, 0), (2, .aload_n 0, 3, 0, 0, 0, 0), (3, .getfield 61, 6, 12, 34, 31, 0), (6, .iload_n 1, 7, 1, 0, 0, 0), (7, .iaload, 8, 0, 0, 0, 0), (8, .istore 4, 10, 4, 0, 0, 0)]
def sg_205_10 : List En := [(10, .iload 4, 12, 4, 0, 0, 0), (12, .aload_n 0, 13, 0, 0, 0, 0), (13, .getfield 61, 16, 12, 34, 31, 0), (16, .iload_n 1, 17, 1, 0, 0, 0), (17, .iconst 1, 18, 0, 0, 0, 0), (18, .iadd, 19, 0, 0, 0, 0), (19, .iaload, 20, 0, 0, 0, 0), (20, .if_icmp .ge 139, 23, 159, 0, 0, 0), (23, .aload_n 0, 24, 0, 0, 0, 0), (24, .getfield 55, 27, 12, 30, 29, 0), (27, .iconst 5, 28, 0, 0, 0, 0), (28, .iload 4, 30, 4, 0, 0, 0), (30, .imul, 31, 0, 0, 0, 0), (31, .iaload, 32, 0, 0, 0, 0), (32, .istore 5, 34, 5, 0, 0, 0), (34, .iload 5, 36, 5, 0, 0, 0), (36, .bipush 10, 38, 0, 0, 0, 0), (38, .if_icmp .ne 24, 41, 62, 0, 0, 0), (41, .aload_n 0, 42, 0, 0, 0, 0), (42, .getfield 79, 45, 12, 46, 39, 0), (45, .iload_n 3, 46, 3, 0, 0, 0), (46, .iconst 1, 47, 0, 0, 0, 0), (47, .isub, 48, 0, 0, 0, 0), (48, .iconst 1, 49, 0, 0, 0, 0), (49, .aload_n 0, 50, 0, 0, 0, 0), (50, .getfield 79, 53, 12, 46, 39, 0), (53, .iload_n 3, 54, 3, 0, 0, 0), (54, .iconst 1, 55, 0, 0, 0, 0), (55, .isub, 56, 0, 0, 0, 0), (56, .iaload, 57, 0, 0, 0, 0), (57, .isub, 58, 0, 0, 0, 0), (58, .iastore, 59, 0, 0, 0, 0), (59, .goto 94, 62, 153, 0, 0, 0)]
def sg_205_62 : List En := [(62, .iload 5, 64, 5, 0, 0, 0), (64, .bipush 11, 66, 0, 0, 0, 0), (66, .if_icmp .lt 68, 69, 134, 0, 0, 0), (69, .iinc 3 (-1), 72, 3, 0, -1, 0), (72, .aload_n 0, 73, 0, 0, 0, 0), (73, .getfield 79, 76, 12, 46, 39, 0), (76, .iload_n 3, 77, 3, 0, 0, 0), (77, .iconst 1, 78, 0, 0, 0, 0), (78, .isub, 79, 0, 0, 0, 0), (79, .iload 5, 81, 5, 0, 0, 0), (81, .bipush 11, 83, 0, 0, 0, 0), (83, .if_icmp .ne 21, 86, 104, 0, 0, 0), (86, .aload_n 0, 87, 0, 0, 0, 0), (87, .getfield 79, 90, 12, 46, 39, 0), (90, .iload_n 3, 91, 3, 0, 0, 0), (91, .iconst 1, 92, 0, 0, 0, 0), (92, .isub, 93, 0, 0, 0, 0), (93, .iaload, 94, 0, 0, 0, 0), (94, .aload_n 0, 95, 0, 0, 0, 0), (95, .getfield 79, 98, 12, 46, 39, 0), (98, .iload_n 3, 99, 3, 0, 0, 0), (99, .iaload, 100, 0, 0, 0, 0), (100, .imul, 101, 0, 0, 0, 0), (101, .goto 29, 104, 130, 0, 0, 0)]
def sg_205_104 : List En := [(104, .aload_n 0, 105, 0, 0, 0, 0), (105, .getfield 79, 108, 12, 46, 39, 0), (108, .iload_n 3, 109, 3, 0, 0, 0), (109, .iconst 1, 110, 0, 0, 0, 0), (110, .isub, 111, 0, 0, 0, 0), (111, .iaload, 112, 0, 0, 0, 0), (112, .aload_n 0, 113, 0, 0, 0, 0), (113, .getfield 79, 116, 12, 46, 39, 0), (116, .iload_n 3, 117, 3, 0, 0, 0), (117, .iaload, 118, 0, 0, 0, 0), (118, .iadd, 119, 0, 0, 0, 0), (119, .ifCond .le 7, 122, 126, 0, 0, 0), (122, .iconst 1, 123, 0, 0, 0, 0), (123, .goto 4, 126, 127, 0, 0, 0)]
def sg_205_126 : List En := [(126, .iconst 0, 127, 0, 0, 0, 0)]
def sg_205_127 : List En := [(127, .invokestatic 256, 130, 138, 1, 1, 0)]
def sg_205_130 : List En := [(130, .iastore, 131, 0, 0, 0, 0), (131, .goto 22, 134, 153, 0, 0, 0)]
def sg_205_134 : List En := [(134, .aload_n 0, 135, 0, 0, 0, 0), (135, .getfield 79, 138, 12, 46, 39, 0), (138, .iload_n 3, 139, 3, 0, 0, 0), (139, .aload_n 0, 140, 0, 0, 0, 0), (140, .iload_n 2, 141, 2, 0, 0, 0), (141, .iload 4, 143, 4, 0, 0, 0), (143, .invokevirtual 404, 146, 204, 3, 1, 12), (146, .invokestatic 256, 149, 138, 1, 1, 0), (149, .iastore, 150, 0, 0, 0, 0), (150, .iinc 3 1, 153, 3, 0, 1, 0)]
def sg_205_153 : List En := [(153, .iinc 4 1, 156, 4, 0, 1, 0), (156, .goto (-146), 159, 10, 0, 0, 0)]
def sg_205_159 : List En := [(159, .aload_n 0, 160, 0, 0, 0, 0), (160, .getfield 79, 163, 12, 46, 39, 0), (163, .iconst 0, 164, 0, 0, 0, 0), (164, .iaload, 165, 0, 0, 0, 0), (165, .iconst 1, 166, 0, 0, 0, 0), (166, .if_icmp .ne 7, 169, 173, 0, 0, 0), (169, .iconst 1, 170, 0, 0, 0, 0), (170, .goto 4, 173, 174, 0, 0, 0)]
def sg_205_173 : List En := [(173, .iconst 0, 174, 0, 0, 0, 0)]
def sg_205_174 : List En := [(174, .ireturn, 175, 0, 0, 0, 1)]
def pg_205 : List En := sg_205_0 ++ sg_205_10 ++ sg_205_62 ++ sg_205_104 ++ sg_205_126 ++ sg_205_127 ++ sg_205_130 ++ sg_205_134 ++ sg_205_153 ++ sg_205_159 ++ sg_205_173 ++ sg_205_174
/-! 206 LeastFailingModel.holdingOf -/
def sg_206_0 : List En := [(0, .iconst 0, 1, 0, 0, 0, 0), (1, .istore_n 2, 2, 2, 0, 0, 0), (2, .iconst 0, 3, 0, 0, 0, 0), (3, .istore_n 3, 4, 3, 0, 0, 0)]
def sg_206_4 : List En := [(4, .iload_n 3, 5, 3, 0, 0, 0), (5, .aload_n 0, 6, 0, 0, 0, 0), (6, .getfield 286, 9, 12, 0, 37, 0), (9, .if_icmp .ge 24, 12, 33, 0, 0, 0), (12, .aload_n 0, 13, 0, 0, 0, 0), (13, .iload_n 3, 14, 3, 0, 0, 0), (14, .iload_n 1, 15, 1, 0, 0, 0), (15, .invokevirtual 408, 18, 205, 3, 1, 12), (18, .ifCond .eq 9, 21, 27, 0, 0, 0), (21, .iload_n 2, 22, 2, 0, 0, 0), (22, .iconst 1, 23, 0, 0, 0, 0), (23, .iload_n 3, 24, 3, 0, 0, 0), (24, .ishl, 25, 0, 0, 0, 0), (25, .ior, 26, 0, 0, 0, 0), (26, .istore_n 2, 27, 2, 0, 0, 0)]
def sg_206_27 : List En := [(27, .iinc 3 1, 30, 3, 0, 1, 0), (30, .goto (-26), 33, 4, 0, 0, 0)]
def sg_206_33 : List En := [(33, .iload_n 2, 34, 2, 0, 0, 0), (34, .ireturn, 35, 0, 0, 0, 0)]
def pg_206 : List En := sg_206_0 ++ sg_206_4 ++ sg_206_27 ++ sg_206_33
/-! 207 LeastFailingModel.draw -/
def sg_207_0 : List En := [(0, .aload_n 0, 1, 0, 0, 0, 0), (1, .ldc2_w 411, 4, 0, 0, 1103515245, 0), (4, .aload_n 0, 5, 0, 0, 0, 0), (5, .getfield 95, 8, 12, 1, 47, 0), (8, .lmul, 9, 0, 0, 0, 0), (9, .ldc2_w 413, 12, 0, 0, 12345, 0), (12, .ladd, 13, 0, 0, 0, 0), (13, .ldc2_w 415, 16, 0, 0, 2147483648, 0), (16, .lrem, 17, 0, 0, 0, 0), (17, .putfield 95, 20, 12, 1, 47, 0), (20, .aload_n 0, 21, 0, 0, 0, 0), (21, .getfield 95, 24, 12, 1, 47, 0), (24, .ldc2_w 417, 27, 0, 0, 64, 0), (27, .ldiv, 28, 0, 0, 0, 0), (28, .ldc2_w 376, 31, 0, 0, 100, 0), (31, .lrem, 32, 0, 0, 0, 0), (32, .l2i, 33, 0, 0, 0, 0), (33, .ireturn, 34, 0, 0, 0, 0)]
def pg_207 : List En := sg_207_0
/-! 208 LeastFailingModel.runOf -/
def sg_208_0 : List En := [(0, .iconst 0, 1, 0, 0, 0, 0), (1, .istore_n 2, 2, 2, 0, 0, 0)]
def sg_208_2 : List En := [(2, .iload_n 2, 3, 2, 0, 0, 0), (3, .aload_n 0, 4, 0, 0, 0, 0), (4, .getfield 286, 7, 12, 0, 37, 0), (7, .if_icmp .ge 44, 10, 51, 0, 0, 0), (10, .iload_n 1, 11, 1, 0, 0, 0), (11, .iload_n 2, 12, 2, 0, 0, 0), (12, .ishr, 13, 0, 0, 0, 0), (13, .iconst 1, 14, 0, 0, 0, 0), (14, .iand, 15, 0, 0, 0, 0), (15, .iconst 1, 16, 0, 0, 0, 0), (16, .if_icmp .ne 29, 19, 45, 0, 0, 0), (19, .aload_n 0, 20, 0, 0, 0, 0), (20, .getfield 67, 23, 12, 38, 33, 0), (23, .iload_n 2, 24, 2, 0, 0, 0), (24, .iaload, 25, 0, 0, 0, 0), (25, .bipush 100, 27, 0, 0, 0, 0), (27, .if_icmp .eq 16, 30, 43, 0, 0, 0), (30, .aload_n 0, 31, 0, 0, 0, 0), (31, .invokevirtual 419, 34, 207, 1, 1, 12), (34, .aload_n 0, 35, 0, 0, 0, 0), (35, .getfield 67, 38, 12, 38, 33, 0), (38, .iload_n 2, 39, 2, 0, 0, 0), (39, .iaload, 40, 0, 0, 0, 0), (40, .if_icmp .ge 5, 43, 45, 0, 0, 0)]
def sg_208_43 : List En := [(43, .iload_n 2, 44, 2, 0, 0, 0), (44, .ireturn, 45, 0, 0, 0, 0)]
def sg_208_45 : List En := [(45, .iinc 2 1, 48, 2, 0, 1, 0), (48, .goto (-46), 51, 2, 0, 0, 0)]
def sg_208_51 : List En := [(51, .iconst (-1), 52, 0, 0, 0, 0), (52, .ireturn, 53, 0, 0, 0, 0)]
def pg_208 : List En := sg_208_0 ++ sg_208_2 ++ sg_208_43 ++ sg_208_45 ++ sg_208_51
/-! 209 LeastFailingModel.forgets -/
def sg_209_0 : List En := [(0, .aload_n 0, 1, 0, 0, 0, 0), (1, .iconst 0, 2, 0, 0, 0, 0), (2, .putfield 422, 5, 12, 0, 57, 0), (5, .return_, 6, 0, 0, 0, 0)]
def pg_209 : List En := sg_209_0
/-! 210 LeastFailingModel.cell -/
def sg_210_0 : List En := [(0, .bipush 100, 2, 0, 0, 0, 0), (2, .aload_n 0, 3, 0, 0, 0, 0), (3, .iload_n 1, 4, 1, 0, 0, 0), (4, .iload_n 2, 5, 2, 0, 0, 0), (5, .invokevirtual 301, 8, 175, 3, 1, 12), (8, .imul, 9, 0, 0, 0, 0), (9, .aload_n 0, 10, 0, 0, 0, 0), (10, .iload_n 1, 11, 1, 0, 0, 0), (11, .iload_n 2, 12, 2, 0, 0, 0), (12, .invokevirtual 384, 15, 176, 3, 1, 12), (15, .iadd, 16, 0, 0, 0, 0), (16, .ireturn, 17, 0, 0, 0, 0)]
def pg_210 : List En := sg_210_0
/-! 211 LeastFailingModel.isTried -/
def sg_211_0 : List En := [(0, .aload_n 0, 1, 0, 0, 0, 0), (1, .getfield 106, 4, 12, 58, 53, 0), (4, .iload_n 1, 5, 1, 0, 0, 0), (5, .iaload, 6, 0, 0, 0, 0), (6, .aload_n 0, 7, 0, 0, 0, 0), (7, .iload_n 2, 8, 2, 0, 0, 0), (8, .invokevirtual 307, 11, 174, 2, 1, 12), (11, .if_icmp .eq 5, 14, 16, 0, 0, 0), (14, .iconst 0, 15, 0, 0, 0, 0), (15, .ireturn, 16, 0, 0, 0, 1)]
def sg_211_16 : List En := [(16, .iconst 0, 17, 0, 0, 0, 0), (17, .istore_n 3, 18, 3, 0, 0, 0)]
def sg_211_18 : List En := [(18, .iload_n 3, 19, 3, 0, 0, 0), (19, .aload_n 0, 20, 0, 0, 0, 0), (20, .iload_n 2, 21, 2, 0, 0, 0), (21, .invokevirtual 307, 24, 174, 2, 1, 12), (24, .if_icmp .ge 31, 27, 55, 0, 0, 0), (27, .aload_n 0, 28, 0, 0, 0, 0), (28, .getfield 103, 31, 12, 56, 52, 0), (31, .bipush 80, 33, 0, 0, 0, 0), (33, .iload_n 1, 34, 1, 0, 0, 0), (34, .imul, 35, 0, 0, 0, 0), (35, .iload_n 3, 36, 3, 0, 0, 0), (36, .iadd, 37, 0, 0, 0, 0), (37, .iaload, 38, 0, 0, 0, 0), (38, .aload_n 0, 39, 0, 0, 0, 0), (39, .iload_n 2, 40, 2, 0, 0, 0), (40, .iload_n 3, 41, 3, 0, 0, 0), (41, .invokevirtual 425, 44, 210, 3, 1, 12), (44, .if_icmp .eq 5, 47, 49, 0, 0, 0), (47, .iconst 0, 48, 0, 0, 0, 0), (48, .ireturn, 49, 0, 0, 0, 1)]
def sg_211_49 : List En := [(49, .iinc 3 1, 52, 3, 0, 1, 0), (52, .goto (-34), 55, 18, 0, 0, 0)]
def sg_211_55 : List En := [(55, .iconst 1, 56, 0, 0, 0, 0), (56, .ireturn, 57, 0, 0, 0, 1)]
def pg_211 : List En := sg_211_0 ++ sg_211_16 ++ sg_211_18 ++ sg_211_49 ++ sg_211_55
/-! 212 LeastFailingModel.voted -/
def sg_212_0 : List En := [(0, .aload_n 0, 1, 0, 0, 0, 0), (1, .iload_n 1, 2, 1, 0, 0, 0), (2, .invokevirtual 428, 5, 206, 2, 1, 12), (5, .istore_n 2, 6, 2, 0, 0, 0), (6, .iconst 0, 7, 0, 0, 0, 0), (7, .istore_n 3, 8, 3, 0, 0, 0)]
def sg_212_8 : List En := [(8, .iload_n 3, 9, 3, 0, 0, 0), (9, .bipush 7, 11, 0, 0, 0, 0), (11, .if_icmp .ge 16, 14, 27, 0, 0, 0), (14, .aload_n 0, 15, 0, 0, 0, 0), (15, .getfield 118, 18, 12, 66, 58, 0), (18, .iload_n 3, 19, 3, 0, 0, 0), (19, .iconst 0, 20, 0, 0, 0, 0), (20, .iastore, 21, 0, 0, 0, 0), (21, .iinc 3 1, 24, 3, 0, 1, 0), (24, .goto (-16), 27, 8, 0, 0, 0)]
def sg_212_27 : List En := [(27, .iconst 0, 28, 0, 0, 0, 0), (28, .istore_n 3, 29, 3, 0, 0, 0)]
def sg_212_29 : List En := [(29, .iload_n 3, 30, 3, 0, 0, 0), (30, .aload_n 0, 31, 0, 0, 0, 0), (31, .getfield 99, 34, 12, 0, 48, 0), (34, .if_icmp .ge 38, 37, 72, 0, 0, 0), (37, .aload_n 0, 38, 0, 0, 0, 0), (38, .iload_n 2, 39, 2, 0, 0, 0), (39, .invokevirtual 431, 42, 208, 2, 1, 12), (42, .istore 4, 44, 4, 0, 0, 0), (44, .aload_n 0, 45, 0, 0, 0, 0), (45, .getfield 118, 48, 12, 66, 58, 0), (48, .iload 4, 50, 4, 0, 0, 0), (50, .iconst (-1), 51, 0, 0, 0, 0), (51, .if_icmp .ne 8, 54, 59, 0, 0, 0), (54, .bipush 6, 56, 0, 0, 0, 0), (56, .goto 5, 59, 61, 0, 0, 0)]
def sg_212_59 : List En := [(59, .iload 4, 61, 4, 0, 0, 0)]
def sg_212_61 : List En := [(61, .dup2, 62, 0, 0, 0, 0), (62, .iaload, 63, 0, 0, 0, 0), (63, .iconst 1, 64, 0, 0, 0, 0), (64, .iadd, 65, 0, 0, 0, 0), (65, .iastore, 66, 0, 0, 0, 0), (66, .iinc 3 1, 69, 3, 0, 1, 0), (69, .goto (-40), 72, 29, 0, 0, 0)]
def sg_212_72 : List En := [(72, .aload_n 0, 73, 0, 0, 0, 0), (73, .dup, 74, 0, 0, 0, 0), (74, .getfield 434, 77, 12, 0, 50, 0), (77, .aload_n 0, 78, 0, 0, 0, 0), (78, .getfield 99, 81, 12, 0, 48, 0), (81, .iadd, 82, 0, 0, 0, 0), (82, .putfield 434, 85, 12, 0, 50, 0), (85, .iconst 0, 86, 0, 0, 0, 0), (86, .istore_n 3, 87, 3, 0, 0, 0), (87, .iconst 1, 88, 0, 0, 0, 0), (88, .istore 4, 90, 4, 0, 0, 0)]
def sg_212_90 : List En := [(90, .iload 4, 92, 4, 0, 0, 0), (92, .bipush 7, 94, 0, 0, 0, 0), (94, .if_icmp .ge 32, 97, 126, 0, 0, 0), (97, .aload_n 0, 98, 0, 0, 0, 0), (98, .getfield 118, 101, 12, 66, 58, 0), (101, .iload 4, 103, 4, 0, 0, 0), (103, .iaload, 104, 0, 0, 0, 0), (104, .aload_n 0, 105, 0, 0, 0, 0), (105, .getfield 118, 108, 12, 66, 58, 0), (108, .iload_n 3, 109, 3, 0, 0, 0), (109, .iaload, 110, 0, 0, 0, 0), (110, .if_icmp .le 8, 113, 118, 0, 0, 0), (113, .iload 4, 115, 4, 0, 0, 0), (115, .goto 4, 118, 119, 0, 0, 0)]
def sg_212_118 : List En := [(118, .iload_n 3, 119, 3, 0, 0, 0)]
def sg_212_119 : List En := [(119, .istore_n 3, 120, 3, 0, 0, 0), (120, .iinc 4 1, 123, 4, 0, 1, 0), (123, .goto (-33), 126, 90, 0, 0, 0)]
def sg_212_126 : List En := [(126, .iload_n 3, 127, 3, 0, 0, 0), (127, .bipush 6, 129, 0, 0, 0, 0), (129, .if_icmp .ne 7, 132, 136, 0, 0, 0), (132, .iconst (-1), 133, 0, 0, 0, 0), (133, .goto 4, 136, 137, 0, 0, 0)]
def sg_212_136 : List En := [(136, .iload_n 3, 137, 3, 0, 0, 0)]
def sg_212_137 : List En := [(137, .ireturn, 138, 0, 0, 0, 0)]
def pg_212 : List En := sg_212_0 ++ sg_212_8 ++ sg_212_27 ++ sg_212_29 ++ sg_212_59 ++ sg_212_61 ++ sg_212_72 ++ sg_212_90 ++ sg_212_118 ++ sg_212_119 ++ sg_212_126 ++ sg_212_136 ++ sg_212_137
/-! 213 LeastFailingModel.verdictOf -/
def sg_213_0 : List En := [(0, .iconst 0, 1, 0, 0, 0, 0), (1, .istore 4, 3, 4, 0, 0, 0)]
def sg_213_3 : List En := [(3, .iload 4, 5, 4, 0, 0, 0), (5, .aload_n 0, 6, 0, 0, 0, 0), (6, .getfield 422, 9, 12, 0, 57, 0), (9, .if_icmp .ge 40, 12, 49, 0, 0, 0), (12, .aload_n 0, 13, 0, 0, 0, 0), (13, .iload 4, 15, 4, 0, 0, 0), (15, .iload_n 1, 16, 1, 0, 0, 0), (16, .invokevirtual 437, 19, 211, 3, 1, 12), (19, .ifCond .ne 6, 22, 25, 0, 0, 0), (22, .goto 21, 25, 43, 0, 0, 0)]
def sg_213_25 : List En := [(25, .aload_n 0, 26, 0, 0, 0, 0), (26, .dup, 27, 0, 0, 0, 0), (27, .getfield 440, 30, 12, 0, 49, 0), (30, .iconst 1, 31, 0, 0, 0, 0), (31, .iadd, 32, 0, 0, 0, 0), (32, .putfield 440, 35, 12, 0, 49, 0), (35, .aload_n 0, 36, 0, 0, 0, 0), (36, .getfield 109, 39, 12, 60, 54, 0), (39, .iload 4, 41, 4, 0, 0, 0), (41, .iaload, 42, 0, 0, 0, 0), (42, .ireturn, 43, 0, 0, 0, 0)]
def sg_213_43 : List En := [(43, .iinc 4 1, 46, 4, 0, 1, 0), (46, .goto (-43), 49, 3, 0, 0, 0)]
def sg_213_49 : List En := [(49, .aload_n 0, 50, 0, 0, 0, 0), (50, .getfield 422, 53, 12, 0, 57, 0), (53, .sipush 600, 56, 0, 0, 0, 0), (56, .if_icmp .ne 15, 59, 71, 0, 0, 0), (59, .aload_n 0, 60, 0, 0, 0, 0), (60, .dup, 61, 0, 0, 0, 0), (61, .getfield 443, 64, 12, 0, 51, 0), (64, .iconst 1, 65, 0, 0, 0, 0), (65, .iadd, 66, 0, 0, 0, 0), (66, .putfield 443, 69, 12, 0, 51, 0), (69, .iconst (-1), 70, 0, 0, 0, 0), (70, .ireturn, 71, 0, 0, 0, 0)]
def sg_213_71 : List En := [(71, .aload_n 0, 72, 0, 0, 0, 0), (72, .getfield 422, 75, 12, 0, 57, 0), (75, .istore 4, 77, 4, 0, 0, 0), (77, .aload_n 0, 78, 0, 0, 0, 0), (78, .dup, 79, 0, 0, 0, 0), (79, .getfield 422, 82, 12, 0, 57, 0), (82, .iconst 1, 83, 0, 0, 0, 0), (83, .iadd, 84, 0, 0, 0, 0), (84, .putfield 422, 87, 12, 0, 57, 0), (87, .aload_n 0, 88, 0, 0, 0, 0), (88, .getfield 106, 91, 12, 58, 53, 0), (91, .iload 4, 93, 4, 0, 0, 0), (93, .aload_n 0, 94, 0, 0, 0, 0), (94, .iload_n 1, 95, 1, 0, 0, 0), (95, .invokevirtual 307, 98, 174, 2, 1, 12), (98, .iastore, 99, 0, 0, 0, 0), (99, .iconst 0, 100, 0, 0, 0, 0), (100, .istore 5, 102, 5, 0, 0, 0)]
def sg_213_102 : List En := [(102, .iload 5, 104, 5, 0, 0, 0), (104, .aload_n 0, 105, 0, 0, 0, 0), (105, .iload_n 1, 106, 1, 0, 0, 0), (106, .invokevirtual 307, 109, 174, 2, 1, 12), (109, .if_icmp .ge 29, 112, 138, 0, 0, 0), (112, .aload_n 0, 113, 0, 0, 0, 0), (113, .getfield 103, 116, 12, 56, 52, 0), (116, .bipush 80, 118, 0, 0, 0, 0), (118, .iload 4, 120, 4, 0, 0, 0), (120, .imul, 121, 0, 0, 0, 0), (121, .iload 5, 123, 5, 0, 0, 0), (123, .iadd, 124, 0, 0, 0, 0), (124, .aload_n 0, 125, 0, 0, 0, 0), (125, .iload_n 1, 126, 1, 0, 0, 0), (126, .iload 5, 128, 5, 0, 0, 0), (128, .invokevirtual 425, 131, 210, 3, 1, 12), (131, .iastore, 132, 0, 0, 0, 0), (132, .iinc 5 1, 135, 5, 0, 1, 0), (135, .goto (-33), 138, 102, 0, 0, 0)]
def sg_213_138 : List En := [(138, .aload_n 0, 139, 0, 0, 0, 0), (139, .getfield 109, 142, 12, 60, 54, 0), (142, .iload 4, 144, 4, 0, 0, 0), (144, .aload_n 0, 145, 0, 0, 0, 0), (145, .iload_n 1, 146, 1, 0, 0, 0), (146, .invokevirtual 446, 149, 212, 2, 1, 12), (149, .iastore, 150, 0, 0, 0, 0), (150, .aload_n 0, 151, 0, 0, 0, 0), (151, .getfield 112, 154, 12, 62, 55, 0), (154, .iload 4, 156, 4, 0, 0, 0), (156, .iload_n 2, 157, 2, 0, 0, 0), (157, .iastore, 158, 0, 0, 0, 0), (158, .aload_n 0, 159, 0, 0, 0, 0), (159, .getfield 115, 162, 12, 64, 56, 0), (162, .iload 4, 164, 4, 0, 0, 0), (164, .iload_n 3, 165, 3, 0, 0, 0), (165, .iastore, 166, 0, 0, 0, 0), (166, .aload_n 0, 167, 0, 0, 0, 0), (167, .getfield 109, 170, 12, 60, 54, 0), (170, .iload 4, 172, 4, 0, 0, 0), (172, .iaload, 173, 0, 0, 0, 0), (173, .ireturn, 174, 0, 0, 0, 0)]
def pg_213 : List En := sg_213_0 ++ sg_213_3 ++ sg_213_25 ++ sg_213_43 ++ sg_213_49 ++ sg_213_71 ++ sg_213_102 ++ sg_213_138
/-! 214 LeastFailingModel.unmarks -/
def sg_214_0 : List En := [(0, .iconst 0, 1, 0, 0, 0, 0), (1, .istore_n 1, 2, 1, 0, 0, 0)]
def sg_214_2 : List En := [(2, .iload_n 1, 3, 1, 0, 0, 0), (3, .bipush 80, 5, 0, 0, 0, 0), (5, .if_icmp .ge 16, 8, 21, 0, 0, 0), (8, .aload_n 0, 9, 0, 0, 0, 0), (9, .getfield 121, 12, 12, 68, 59, 0), (12, .iload_n 1, 13, 1, 0, 0, 0), (13, .iconst (-1), 14, 0, 0, 0, 0), (14, .iastore, 15, 0, 0, 0, 0), (15, .iinc 1 1, 18, 1, 0, 1, 0), (18, .goto (-16), 21, 2, 0, 0, 0)]
def sg_214_21 : List En := [(21, .return_, 22, 0, 0, 0, 0)]
def pg_214 : List En := sg_214_0 ++ sg_214_2 ++ sg_214_21
/-! 215 LeastFailingModel.addsLeast -/
def sg_215_0 : List En := [(0, .iconst 0, 1, 0, 0, 0, 0), (1, .istore_n 2, 2, 2, 0, 0, 0)]
def sg_215_2 : List En := [(2, .iload_n 2, 3, 2, 0, 0, 0), (3, .aload_n 0, 4, 0, 0, 0, 0), (4, .getfield 37, 7, 12, 18, 20, 0), (7, .iload_n 1, 8, 1, 0, 0, 0), (8, .iaload, 9, 0, 0, 0, 0), (9, .if_icmp .ge 48, 12, 57, 0, 0, 0), (12, .aload_n 0, 13, 0, 0, 0, 0), (13, .iload_n 1, 14, 1, 0, 0, 0), (14, .iload_n 2, 15, 2, 0, 0, 0), (15, .invokevirtual 449, 18, 198, 3, 1, 12), (18, .istore_n 3, 19, 3, 0, 0, 0), (19, .aload_n 0, 20, 0, 0, 0, 0), (20, .sipush 161, 23, 0, 0, 0, 0), (23, .iload_n 3, 24, 3, 0, 0, 0), (24, .invokevirtual 318, 27, 178, 3, 1, 12), (27, .istore 4, 29, 4, 0, 0, 0), (29, .aload_n 0, 30, 0, 0, 0, 0), (30, .getfield 46, 33, 12, 24, 23, 0), (33, .sipush 242, 36, 0, 0, 0, 0), (36, .iload 4, 38, 4, 0, 0, 0), (38, .iadd, 39, 0, 0, 0, 0), (39, .aload_n 0, 40, 0, 0, 0, 0), (40, .getfield 37, 43, 12, 18, 20, 0), (43, .aload_n 0, 44, 0, 0, 0, 0), (44, .iload_n 3, 45, 3, 0, 0, 0), (45, .iconst 0, 46, 0, 0, 0, 0), (46, .invokevirtual 282, 49, 170, 3, 1, 12), (49, .iaload, 50, 0, 0, 0, 0), (50, .iastore, 51, 0, 0, 0, 0), (51, .iinc 2 1, 54, 2, 0, 1, 0), (54, .goto (-52), 57, 2, 0, 0, 0)]
def sg_215_57 : List En := [(57, .return_, 58, 0, 0, 0, 0)]
def pg_215 : List En := sg_215_0 ++ sg_215_2 ++ sg_215_57
/-! 216 LeastFailingModel.addsPart -/
def sg_216_0 : List En := [(0, .iload_n 1, 1, 1, 0, 0, 0), (1, .istore_n 2, 2, 2, 0, 0, 0)]
def sg_216_2 : List En := [(2, .iload_n 2, 3, 2, 0, 0, 0), (3, .iload_n 1, 4, 1, 0, 0, 0), (4, .aload_n 0, 5, 0, 0, 0, 0), (5, .iconst 0, 6, 0, 0, 0, 0), (6, .iload_n 1, 7, 1, 0, 0, 0), (7, .invokevirtual 384, 10, 176, 3, 1, 12), (10, .iadd, 11, 0, 0, 0, 0), (11, .if_icmp .ge 39, 14, 50, 0, 0, 0), (14, .aload_n 0, 15, 0, 0, 0, 0), (15, .sipush 161, 18, 0, 0, 0, 0), (18, .aload_n 0, 19, 0, 0, 0, 0), (19, .iconst 0, 20, 0, 0, 0, 0), (20, .iload_n 2, 21, 2, 0, 0, 0), (21, .invokevirtual 301, 24, 175, 3, 1, 12), (24, .invokevirtual 318, 27, 178, 3, 1, 12), (27, .istore_n 3, 28, 3, 0, 0, 0), (28, .aload_n 0, 29, 0, 0, 0, 0), (29, .getfield 46, 32, 12, 24, 23, 0), (32, .sipush 242, 35, 0, 0, 0, 0), (35, .iload_n 3, 36, 3, 0, 0, 0), (36, .iadd, 37, 0, 0, 0, 0), (37, .aload_n 0, 38, 0, 0, 0, 0), (38, .iconst 0, 39, 0, 0, 0, 0), (39, .iload_n 2, 40, 2, 0, 0, 0), (40, .invokevirtual 384, 43, 176, 3, 1, 12), (43, .iastore, 44, 0, 0, 0, 0), (44, .iinc 2 1, 47, 2, 0, 1, 0), (47, .goto (-45), 50, 2, 0, 0, 0)]
def sg_216_50 : List En := [(50, .return_, 51, 0, 0, 0, 0)]
def pg_216 : List En := sg_216_0 ++ sg_216_2 ++ sg_216_50
/-! 217 LeastFailingModel.builds -/
def sg_217_0 : List En := [(0, .aload_n 0, 1, 0, 0, 0, 0), (1, .getfield 46, 4, 12, 24, 23, 0), (4, .sipush 161, 7, 0, 0, 0, 0), (7, .iconst 0, 8, 0, 0, 0, 0), (8, .iastore, 9, 0, 0, 0, 0), (9, .iconst 0, 10, 0, 0, 0, 0), (10, .istore_n 1, 11, 1, 0, 0, 0), (11, .iconst 0, 12, 0, 0, 0, 0), (12, .istore_n 2, 13, 2, 0, 0, 0)]
def sg_217_13 : List En := [(13, .iload_n 1, 14, 1, 0, 0, 0), (14, .ifCond .gt 12, 17, 26, 0, 0, 0), (17, .iload_n 2, 18, 2, 0, 0, 0), (18, .aload_n 0, 19, 0, 0, 0, 0), (19, .iconst 0, 20, 0, 0, 0, 0), (20, .invokevirtual 307, 23, 174, 2, 1, 12), (23, .if_icmp .ge 167, 26, 190, 0, 0, 0)]
def sg_217_26 : List En := [(26, .iload_n 1, 27, 1, 0, 0, 0), (27, .ifCond .le 50, 30, 77, 0, 0, 0), (30, .aload_n 0, 31, 0, 0, 0, 0), (31, .getfield 127, 34, 12, 72, 62, 0), (34, .iload_n 1, 35, 1, 0, 0, 0), (35, .iconst 1, 36, 0, 0, 0, 0), (36, .isub, 37, 0, 0, 0, 0), (37, .iaload, 38, 0, 0, 0, 0), (38, .iload_n 2, 39, 2, 0, 0, 0), (39, .if_icmp .ne 38, 42, 77, 0, 0, 0), (42, .iinc 1 (-1), 45, 1, 0, -1, 0), (45, .aload_n 0, 46, 0, 0, 0, 0), (46, .getfield 46, 49, 12, 24, 23, 0), (49, .sipush 242, 52, 0, 0, 0, 0), (52, .aload_n 0, 53, 0, 0, 0, 0), (53, .getfield 130, 56, 12, 74, 63, 0), (56, .iload_n 1, 57, 1, 0, 0, 0), (57, .iaload, 58, 0, 0, 0, 0), (58, .iadd, 59, 0, 0, 0, 0), (59, .aload_n 0, 60, 0, 0, 0, 0), (60, .sipush 161, 63, 0, 0, 0, 0), (63, .invokevirtual 307, 66, 174, 2, 1, 12), (66, .aload_n 0, 67, 0, 0, 0, 0), (67, .getfield 130, 70, 12, 74, 63, 0), (70, .iload_n 1, 71, 1, 0, 0, 0), (71, .iaload, 72, 0, 0, 0, 0), (72, .isub, 73, 0, 0, 0, 0), (73, .iastore, 74, 0, 0, 0, 0), (74, .goto (-61), 77, 13, 0, 0, 0)]
def sg_217_77 : List En := [(77, .aload_n 0, 78, 0, 0, 0, 0), (78, .getfield 124, 81, 12, 70, 61, 0), (81, .iload_n 2, 82, 2, 0, 0, 0), (82, .aload_n 0, 83, 0, 0, 0, 0), (83, .sipush 161, 86, 0, 0, 0, 0), (86, .invokevirtual 307, 89, 174, 2, 1, 12), (89, .iastore, 90, 0, 0, 0, 0), (90, .iload_n 2, 91, 2, 0, 0, 0), (91, .aload_n 0, 92, 0, 0, 0, 0), (92, .iconst 0, 93, 0, 0, 0, 0), (93, .iload_n 2, 94, 2, 0, 0, 0), (94, .invokevirtual 384, 97, 176, 3, 1, 12), (97, .iadd, 98, 0, 0, 0, 0), (98, .istore_n 3, 99, 3, 0, 0, 0), (99, .aload_n 0, 100, 0, 0, 0, 0), (100, .getfield 121, 103, 12, 68, 59, 0), (103, .iload_n 2, 104, 2, 0, 0, 0), (104, .iaload, 105, 0, 0, 0, 0), (105, .iconst 1, 106, 0, 0, 0, 0), (106, .if_icmp .ne 16, 109, 122, 0, 0, 0), (109, .aload_n 0, 110, 0, 0, 0, 0), (110, .aload_n 0, 111, 0, 0, 0, 0), (111, .iconst 0, 112, 0, 0, 0, 0), (112, .iload_n 2, 113, 2, 0, 0, 0), (113, .invokevirtual 452, 116, 197, 3, 1, 12), (116, .invokevirtual 455, 119, 215, 2, 0, 12), (119, .goto 21, 122, 140, 0, 0, 0)]
def sg_217_122 : List En := [(122, .aload_n 0, 123, 0, 0, 0, 0), (123, .getfield 121, 126, 12, 68, 59, 0), (126, .iload_n 2, 127, 2, 0, 0, 0), (127, .iaload, 128, 0, 0, 0, 0), (128, .iconst 2, 129, 0, 0, 0, 0), (129, .if_icmp .ne 11, 132, 140, 0, 0, 0), (132, .aload_n 0, 133, 0, 0, 0, 0), (133, .aload_n 0, 134, 0, 0, 0, 0), (134, .getfield 458, 137, 12, 0, 60, 0), (137, .invokevirtual 461, 140, 216, 2, 0, 12)]
def sg_217_140 : List En := [(140, .aload_n 0, 141, 0, 0, 0, 0), (141, .getfield 121, 144, 12, 68, 59, 0), (144, .iload_n 2, 145, 2, 0, 0, 0), (145, .iaload, 146, 0, 0, 0, 0), (146, .iconst (-1), 147, 0, 0, 0, 0), (147, .if_icmp .eq 8, 150, 155, 0, 0, 0), (150, .iload_n 3, 151, 3, 0, 0, 0), (151, .istore_n 2, 152, 2, 0, 0, 0), (152, .goto (-139), 155, 13, 0, 0, 0)]
def sg_217_155 : List En := [(155, .aload_n 0, 156, 0, 0, 0, 0), (156, .getfield 130, 159, 12, 74, 63, 0), (159, .iload_n 1, 160, 1, 0, 0, 0), (160, .aload_n 0, 161, 0, 0, 0, 0), (161, .sipush 161, 164, 0, 0, 0, 0), (164, .aload_n 0, 165, 0, 0, 0, 0), (165, .iconst 0, 166, 0, 0, 0, 0), (166, .iload_n 2, 167, 2, 0, 0, 0), (167, .invokevirtual 301, 170, 175, 3, 1, 12), (170, .invokevirtual 318, 173, 178, 3, 1, 12), (173, .iastore, 174, 0, 0, 0, 0), (174, .aload_n 0, 175, 0, 0, 0, 0), (175, .getfield 127, 178, 12, 72, 62, 0), (178, .iload_n 1, 179, 1, 0, 0, 0), (179, .iload_n 3, 180, 3, 0, 0, 0), (180, .iastore, 181, 0, 0, 0, 0), (181, .iinc 1 1, 184, 1, 0, 1, 0), (184, .iinc 2 1, 187, 2, 0, 1, 0), (187, .goto (-174), 190, 13, 0, 0, 0)]
def sg_217_190 : List En := [(190, .return_, 191, 0, 0, 0, 0)]
def pg_217 : List En := sg_217_0 ++ sg_217_13 ++ sg_217_26 ++ sg_217_77 ++ sg_217_122 ++ sg_217_140 ++ sg_217_155 ++ sg_217_190
/-! 218 LeastFailingModel.canBeLeast -/
def sg_218_0 : List En := [(0, .aload_n 0, 1, 0, 0, 0, 0), (1, .getfield 37, 4, 12, 18, 20, 0), (4, .aload_n 0, 5, 0, 0, 0, 0), (5, .iconst 0, 6, 0, 0, 0, 0), (6, .iload_n 1, 7, 1, 0, 0, 0), (7, .invokevirtual 452, 10, 197, 3, 1, 12), (10, .iaload, 11, 0, 0, 0, 0), (11, .aload_n 0, 12, 0, 0, 0, 0), (12, .iconst 0, 13, 0, 0, 0, 0), (13, .iload_n 1, 14, 1, 0, 0, 0), (14, .invokevirtual 384, 17, 176, 3, 1, 12), (17, .if_icmp .ge 7, 20, 24, 0, 0, 0), (20, .iconst 1, 21, 0, 0, 0, 0), (21, .goto 4, 24, 25, 0, 0, 0)]
def sg_218_24 : List En := [(24, .iconst 0, 25, 0, 0, 0, 0)]
def sg_218_25 : List En := [(25, .ireturn, 26, 0, 0, 0, 1)]
def pg_218 : List En := sg_218_0 ++ sg_218_24 ++ sg_218_25
/-! 219 LeastFailingModel.changes -/
def sg_219_0 : List En := [(0, .aload_n 0, 1, 0, 0, 0, 0), (1, .invokevirtual 464, 4, 214, 1, 0, 12), (4, .aload_n 0, 5, 0, 0, 0, 0), (5, .getfield 121, 8, 12, 68, 59, 0), (8, .iload_n 1, 9, 1, 0, 0, 0), (9, .iload_n 2, 10, 2, 0, 0, 0), (10, .iastore, 11, 0, 0, 0, 0), (11, .aload_n 0, 12, 0, 0, 0, 0), (12, .iload_n 3, 13, 3, 0, 0, 0), (13, .putfield 458, 16, 12, 0, 60, 0), (16, .aload_n 0, 17, 0, 0, 0, 0), (17, .invokevirtual 467, 20, 217, 1, 0, 12), (20, .return_, 21, 0, 0, 0, 0)]
def pg_219 : List En := sg_219_0
/-! 220 LeastFailingModel.isOne -/
def sg_220_0 : List En := [(0, .aload_n 0, 1, 0, 0, 0, 0), (1, .iload_n 1, 2, 1, 0, 0, 0), (2, .putfield 470, 5, 12, 0, 64, 0), (5, .aload_n 0, 6, 0, 0, 0, 0), (6, .iload_n 2, 7, 2, 0, 0, 0), (7, .putfield 473, 10, 12, 0, 65, 0), (10, .aload_n 0, 11, 0, 0, 0, 0), (11, .iload_n 3, 12, 3, 0, 0, 0), (12, .putfield 476, 15, 12, 0, 66, 0), (15, .return_, 16, 0, 0, 0, 0)]
def pg_220 : List En := sg_220_0
/-! 221 LeastFailingModel.singles -/
def sg_221_0 : List En := [(0, .aload_n 0, 1, 0, 0, 0, 0), (1, .iconst 0, 2, 0, 0, 0, 0), (2, .invokevirtual 479, 5, 196, 2, 0, 12), (5, .iconst 0, 6, 0, 0, 0, 0), (6, .istore_n 2, 7, 2, 0, 0, 0), (7, .iconst 0, 8, 0, 0, 0, 0), (8, .istore_n 3, 9, 3, 0, 0, 0)]
def sg_221_9 : List En := [(9, .iload_n 3, 10, 3, 0, 0, 0), (10, .aload_n 0, 11, 0, 0, 0, 0), (11, .iconst 0, 12, 0, 0, 0, 0), (12, .invokevirtual 307, 15, 174, 2, 1, 12), (15, .if_icmp .ge 115, 18, 130, 0, 0, 0), (18, .aload_n 0, 19, 0, 0, 0, 0), (19, .getfield 91, 22, 12, 54, 45, 0), (22, .iload_n 3, 23, 3, 0, 0, 0), (23, .baload, 24, 0, 0, 0, 1), (24, .ifCond .eq 18, 27, 42, 0, 0, 0), (27, .iload_n 2, 28, 2, 0, 0, 0), (28, .iload_n 1, 29, 1, 0, 0, 0), (29, .if_icmp .ne 10, 32, 39, 0, 0, 0), (32, .aload_n 0, 33, 0, 0, 0, 0), (33, .iload_n 3, 34, 3, 0, 0, 0), (34, .iconst 0, 35, 0, 0, 0, 0), (35, .iconst (-1), 36, 0, 0, 0, 0), (36, .invokevirtual 482, 39, 220, 4, 0, 12)]
def sg_221_39 : List En := [(39, .iinc 2 1, 42, 2, 0, 1, 0)]
def sg_221_42 : List En := [(42, .aload_n 0, 43, 0, 0, 0, 0), (43, .iload_n 3, 44, 3, 0, 0, 0), (44, .invokevirtual 486, 47, 218, 2, 1, 12), (47, .ifCond .eq 18, 50, 65, 0, 0, 0), (50, .iload_n 2, 51, 2, 0, 0, 0), (51, .iload_n 1, 52, 1, 0, 0, 0), (52, .if_icmp .ne 10, 55, 62, 0, 0, 0), (55, .aload_n 0, 56, 0, 0, 0, 0), (56, .iload_n 3, 57, 3, 0, 0, 0), (57, .iconst 1, 58, 0, 0, 0, 0), (58, .iconst (-1), 59, 0, 0, 0, 0), (59, .invokevirtual 482, 62, 220, 4, 0, 12)]
def sg_221_62 : List En := [(62, .iinc 2 1, 65, 2, 0, 1, 0)]
def sg_221_65 : List En := [(65, .iload_n 3, 66, 3, 0, 0, 0), (66, .iconst 1, 67, 0, 0, 0, 0), (67, .iadd, 68, 0, 0, 0, 0), (68, .istore 4, 70, 4, 0, 0, 0)]
def sg_221_70 : List En := [(70, .iload 4, 72, 4, 0, 0, 0), (72, .iload_n 3, 73, 3, 0, 0, 0), (73, .aload_n 0, 74, 0, 0, 0, 0), (74, .iconst 0, 75, 0, 0, 0, 0), (75, .iload_n 3, 76, 3, 0, 0, 0), (76, .invokevirtual 384, 79, 176, 3, 1, 12), (79, .iadd, 80, 0, 0, 0, 0), (80, .if_icmp .ge 44, 83, 124, 0, 0, 0), (83, .aload_n 0, 84, 0, 0, 0, 0), (84, .iconst 0, 85, 0, 0, 0, 0), (85, .iload 4, 87, 4, 0, 0, 0), (87, .invokevirtual 452, 90, 197, 3, 1, 12), (90, .aload_n 0, 91, 0, 0, 0, 0), (91, .iconst 0, 92, 0, 0, 0, 0), (92, .iload_n 3, 93, 3, 0, 0, 0), (93, .invokevirtual 452, 96, 197, 3, 1, 12), (96, .if_icmp .eq 6, 99, 102, 0, 0, 0), (99, .goto 19, 102, 118, 0, 0, 0)]
def sg_221_102 : List En := [(102, .iload_n 2, 103, 2, 0, 0, 0), (103, .iload_n 1, 104, 1, 0, 0, 0), (104, .if_icmp .ne 11, 107, 115, 0, 0, 0), (107, .aload_n 0, 108, 0, 0, 0, 0), (108, .iload_n 3, 109, 3, 0, 0, 0), (109, .iconst 2, 110, 0, 0, 0, 0), (110, .iload 4, 112, 4, 0, 0, 0), (112, .invokevirtual 482, 115, 220, 4, 0, 12)]
def sg_221_115 : List En := [(115, .iinc 2 1, 118, 2, 0, 1, 0)]
def sg_221_118 : List En := [(118, .iinc 4 1, 121, 4, 0, 1, 0), (121, .goto (-51), 124, 70, 0, 0, 0)]
def sg_221_124 : List En := [(124, .iinc 3 1, 127, 3, 0, 1, 0), (127, .goto (-118), 130, 9, 0, 0, 0)]
def sg_221_130 : List En := [(130, .iload_n 2, 131, 2, 0, 0, 0), (131, .ireturn, 132, 0, 0, 0, 0)]
def pg_221 : List En := sg_221_0 ++ sg_221_9 ++ sg_221_39 ++ sg_221_42 ++ sg_221_62 ++ sg_221_65 ++ sg_221_70 ++ sg_221_102 ++ sg_221_115 ++ sg_221_118 ++ sg_221_124 ++ sg_221_130
/-! 222 LeastFailingModel.isLaid -/
def sg_222_0 : List En := [(0, .iload_n 1, 1, 1, 0, 0, 0), (1, .ifCond .lt 12, 4, 13, 0, 0, 0), (4, .iload_n 1, 5, 1, 0, 0, 0), (5, .aload_n 0, 6, 0, 0, 0, 0), (6, .iload_n 1, 7, 1, 0, 0, 0), (7, .invokevirtual 489, 10, 221, 2, 1, 12), (10, .if_icmp .lt 5, 13, 15, 0, 0, 0)]
def sg_222_13 : List En := [(13, .iconst 0, 14, 0, 0, 0, 0), (14, .ireturn, 15, 0, 0, 0, 1)]
def sg_222_15 : List En := [(15, .aload_n 0, 16, 0, 0, 0, 0), (16, .aload_n 0, 17, 0, 0, 0, 0), (17, .getfield 470, 20, 12, 0, 64, 0), (20, .aload_n 0, 21, 0, 0, 0, 0), (21, .getfield 473, 24, 12, 0, 65, 0), (24, .aload_n 0, 25, 0, 0, 0, 0), (25, .getfield 476, 28, 12, 0, 66, 0), (28, .invokevirtual 492, 31, 219, 4, 0, 12), (31, .iconst 1, 32, 0, 0, 0, 0), (32, .ireturn, 33, 0, 0, 0, 1)]
def pg_222 : List En := sg_222_0 ++ sg_222_13 ++ sg_222_15
/-! 223 LeastFailingModel.single -/
def sg_223_0 : List En := [(0, .aload_n 0, 1, 0, 0, 0, 0), (1, .iconst 0, 2, 0, 0, 0, 0), (2, .putfield 136, 5, 12, 0, 0, 0), (5, .iload_n 1, 6, 1, 0, 0, 0), (6, .iconst (-1), 7, 0, 0, 0, 0), (7, .if_icmp .ne 17, 10, 24, 0, 0, 0), (10, .iload_n 2, 11, 2, 0, 0, 0), (11, .ifCond .ne 11, 14, 22, 0, 0, 0), (14, .aload_n 0, 15, 0, 0, 0, 0), (15, .iconst (-1), 16, 0, 0, 0, 0), (16, .invokevirtual 489, 19, 221, 2, 1, 12), (19, .goto 4, 22, 23, 0, 0, 0)]
def sg_223_22 : List En := [(22, .iconst (-1), 23, 0, 0, 0, 0)]
def sg_223_23 : List En := [(23, .ireturn, 24, 0, 0, 0, 0)]
def sg_223_24 : List En := [(24, .iload_n 2, 25, 2, 0, 0, 0), (25, .i2l, 26, 0, 0, 0, 0), (26, .lconst 0, 27, 0, 0, 0, 0), (27, .ldc2_w 495, 30, 0, 0, 4, 0), (30, .invokestatic 146, 33, 137, 3, 1, 0), (33, .ifCond .eq 11, 36, 44, 0, 0, 0), (36, .aload_n 0, 37, 0, 0, 0, 0), (37, .iload_n 1, 38, 1, 0, 0, 0), (38, .invokevirtual 497, 41, 222, 2, 1, 12), (41, .ifCond .ne 5, 44, 46, 0, 0, 0)]
def sg_223_44 : List En := [(44, .iconst (-1), 45, 0, 0, 0, 0), (45, .ireturn, 46, 0, 0, 0, 0)]
def sg_223_46 : List En := [(46, .iload_n 2, 47, 2, 0, 0, 0), (47, .tableswitch 52 0 3 #[29, 34, 39, 44], 76, 0, 0, 0, 0)]
def sg_223_76 : List En := [(76, .aload_n 0, 77, 0, 0, 0, 0), (77, .getfield 470, 80, 12, 0, 64, 0), (80, .ireturn, 81, 0, 0, 0, 0)]
def sg_223_81 : List En := [(81, .aload_n 0, 82, 0, 0, 0, 0), (82, .getfield 473, 85, 12, 0, 65, 0), (85, .ireturn, 86, 0, 0, 0, 0)]
def sg_223_86 : List En := [(86, .aload_n 0, 87, 0, 0, 0, 0), (87, .getfield 476, 90, 12, 0, 66, 0), (90, .ireturn, 91, 0, 0, 0, 0)]
def sg_223_91 : List En := [(91, .aload_n 0, 92, 0, 0, 0, 0), (92, .sipush 161, 95, 0, 0, 0, 0), (95, .invokevirtual 307, 98, 174, 2, 1, 12), (98, .ireturn, 99, 0, 0, 0, 0)]
def sg_223_99 : List En := [(99, .aload_n 0, 100, 0, 0, 0, 0), (100, .sipush 161, 103, 0, 0, 0, 0), (103, .invokevirtual 428, 106, 206, 2, 1, 12), (106, .ireturn, 107, 0, 0, 0, 0)]
def pg_223 : List En := sg_223_0 ++ sg_223_22 ++ sg_223_23 ++ sg_223_24 ++ sg_223_44 ++ sg_223_46 ++ sg_223_76 ++ sg_223_81 ++ sg_223_86 ++ sg_223_91 ++ sg_223_99
/-! 224 LeastFailingModel.tries -/
def sg_224_0 : List En := [(0, .aload_n 0, 1, 0, 0, 0, 0), (1, .iconst 0, 2, 0, 0, 0, 0), (2, .putfield 136, 5, 12, 0, 0, 0), (5, .aload_n 0, 6, 0, 0, 0, 0), (6, .iload_n 1, 7, 1, 0, 0, 0), (7, .invokevirtual 497, 10, 222, 2, 1, 12), (10, .ifCond .eq 19, 13, 29, 0, 0, 0), (13, .aload_n 0, 14, 0, 0, 0, 0), (14, .sipush 161, 17, 0, 0, 0, 0), (17, .bipush 6, 19, 0, 0, 0, 0), (19, .aload_n 0, 20, 0, 0, 0, 0), (20, .getfield 470, 23, 12, 0, 64, 0), (23, .invokevirtual 500, 26, 213, 4, 1, 12), (26, .goto 5, 29, 31, 0, 0, 0)]
def sg_224_29 : List En := [(29, .bipush (-2), 31, 0, 0, 0, 0)]
def sg_224_31 : List En := [(31, .ireturn, 32, 0, 0, 0, 0)]
def pg_224 : List En := sg_224_0 ++ sg_224_29 ++ sg_224_31
/-! 225 LeastFailingModel.change -/
def sg_225_0 : List En := [(0, .aload_n 0, 1, 0, 0, 0, 0), (1, .iconst 0, 2, 0, 0, 0, 0), (2, .putfield 136, 5, 12, 0, 0, 0), (5, .aload_n 0, 6, 0, 0, 0, 0), (6, .iload_n 1, 7, 1, 0, 0, 0), (7, .invokevirtual 497, 10, 222, 2, 1, 12), (10, .ifCond .ne 6, 13, 16, 0, 0, 0), (13, .bipush (-2), 15, 0, 0, 0, 0), (15, .ireturn, 16, 0, 0, 0, 0)]
def sg_225_16 : List En := [(16, .aload_n 0, 17, 0, 0, 0, 0), (17, .invokevirtual 327, 20, 183, 1, 0, 12), (20, .aload_n 0, 21, 0, 0, 0, 0), (21, .iconst 0, 22, 0, 0, 0, 0), (22, .sipush 161, 25, 0, 0, 0, 0), (25, .invokevirtual 330, 28, 177, 3, 0, 12), (28, .aload_n 0, 29, 0, 0, 0, 0), (29, .iconst 0, 30, 0, 0, 0, 0), (30, .invokevirtual 307, 33, 174, 2, 1, 12), (33, .ireturn, 34, 0, 0, 0, 0)]
def pg_225 : List En := sg_225_0 ++ sg_225_16
/-! 226 LeastFailingModel.more -/
def sg_226_0 : List En := [(0, .aload_n 0, 1, 0, 0, 0, 0), (1, .iconst 0, 2, 0, 0, 0, 0), (2, .putfield 136, 5, 12, 0, 0, 0), (5, .aload_n 0, 6, 0, 0, 0, 0), (6, .iconst 0, 7, 0, 0, 0, 0), (7, .invokevirtual 307, 10, 174, 2, 1, 12), (10, .ifCond .ne 7, 13, 17, 0, 0, 0), (13, .iconst (-1), 14, 0, 0, 0, 0), (14, .goto 10, 17, 24, 0, 0, 0)]
def sg_226_17 : List En := [(17, .aload_n 0, 18, 0, 0, 0, 0), (18, .iconst 0, 19, 0, 0, 0, 0), (19, .iconst 0, 20, 0, 0, 0, 0), (20, .iconst (-1), 21, 0, 0, 0, 0), (21, .invokevirtual 500, 24, 213, 4, 1, 12)]
def sg_226_24 : List En := [(24, .istore_n 1, 25, 1, 0, 0, 0), (25, .iload_n 1, 26, 1, 0, 0, 0), (26, .iconst (-1), 27, 0, 0, 0, 0), (27, .if_icmp .ne 6, 30, 33, 0, 0, 0), (30, .bipush (-3), 32, 0, 0, 0, 0), (32, .ireturn, 33, 0, 0, 0, 0)]
def sg_226_33 : List En := [(33, .iconst 0, 34, 0, 0, 0, 0), (34, .istore_n 2, 35, 2, 0, 0, 0)]
def sg_226_35 : List En := [(35, .aload_n 0, 36, 0, 0, 0, 0), (36, .iload_n 2, 37, 2, 0, 0, 0), (37, .invokevirtual 497, 40, 222, 2, 1, 12), (40, .ifCond .eq 28, 43, 68, 0, 0, 0), (43, .aload_n 0, 44, 0, 0, 0, 0), (44, .sipush 161, 47, 0, 0, 0, 0), (47, .bipush 6, 49, 0, 0, 0, 0), (49, .aload_n 0, 50, 0, 0, 0, 0), (50, .getfield 470, 53, 12, 0, 64, 0), (53, .invokevirtual 500, 56, 213, 4, 1, 12), (56, .iload_n 1, 57, 1, 0, 0, 0), (57, .if_icmp .ne 5, 60, 62, 0, 0, 0), (60, .iload_n 2, 61, 2, 0, 0, 0), (61, .ireturn, 62, 0, 0, 0, 0)]
def sg_226_62 : List En := [(62, .iinc 2 1, 65, 2, 0, 1, 0), (65, .goto (-30), 68, 35, 0, 0, 0)]
def sg_226_68 : List En := [(68, .iconst (-1), 69, 0, 0, 0, 0), (69, .ireturn, 70, 0, 0, 0, 0)]
def pg_226 : List En := sg_226_0 ++ sg_226_17 ++ sg_226_24 ++ sg_226_33 ++ sg_226_35 ++ sg_226_62 ++ sg_226_68
/-! 227 LeastFailingModel.isBug -/
def sg_227_0 : List En := [(0, .iload_n 1, 1, 1, 0, 0, 0), (1, .i2l, 2, 0, 0, 0, 0), (2, .lconst 0, 3, 0, 0, 0, 0), (3, .aload_n 0, 4, 0, 0, 0, 0), (4, .getfield 286, 7, 12, 0, 37, 0), (7, .iconst 1, 8, 0, 0, 0, 0), (8, .isub, 9, 0, 0, 0, 0), (9, .i2l, 10, 0, 0, 0, 0), (10, .invokestatic 146, 13, 137, 3, 1, 0), (13, .ireturn, 14, 0, 0, 0, 1)]
def pg_227 : List En := sg_227_0
/-! 228 LeastFailingModel.apart -/
def sg_228_0 : List En := [(0, .aload_n 0, 1, 0, 0, 0, 0), (1, .iconst 0, 2, 0, 0, 0, 0), (2, .putfield 136, 5, 12, 0, 0, 0), (5, .aload_n 0, 6, 0, 0, 0, 0), (6, .iload_n 1, 7, 1, 0, 0, 0), (7, .invokevirtual 503, 10, 227, 2, 1, 12), (10, .ifCond .eq 16, 13, 26, 0, 0, 0), (13, .aload_n 0, 14, 0, 0, 0, 0), (14, .iload_n 2, 15, 2, 0, 0, 0), (15, .invokevirtual 503, 18, 227, 2, 1, 12), (18, .ifCond .eq 8, 21, 26, 0, 0, 0), (21, .iload_n 1, 22, 1, 0, 0, 0), (22, .iload_n 2, 23, 2, 0, 0, 0), (23, .if_icmp .ne 6, 26, 29, 0, 0, 0)]
def sg_228_26 : List En := [(26, .bipush (-2), 28, 0, 0, 0, 0), (28, .ireturn, 29, 0, 0, 0, 0)]
def sg_228_29 : List En := [(29, .aload_n 0, 30, 0, 0, 0, 0), (30, .iconst 0, 31, 0, 0, 0, 0), (31, .invokevirtual 307, 34, 174, 2, 1, 12), (34, .ifCond .ne 6, 37, 40, 0, 0, 0), (37, .bipush (-3), 39, 0, 0, 0, 0), (39, .ireturn, 40, 0, 0, 0, 0)]
def sg_228_40 : List En := [(40, .iconst 0, 41, 0, 0, 0, 0), (41, .istore_n 3, 42, 3, 0, 0, 0)]
def sg_228_42 : List En := [(42, .aload_n 0, 43, 0, 0, 0, 0), (43, .iload_n 3, 44, 3, 0, 0, 0), (44, .invokevirtual 497, 47, 222, 2, 1, 12), (47, .ifCond .eq 33, 50, 80, 0, 0, 0), (50, .aload_n 0, 51, 0, 0, 0, 0), (51, .iload_n 1, 52, 1, 0, 0, 0), (52, .sipush 161, 55, 0, 0, 0, 0), (55, .invokevirtual 408, 58, 205, 3, 1, 12), (58, .ifCond .eq 16, 61, 74, 0, 0, 0), (61, .aload_n 0, 62, 0, 0, 0, 0), (62, .iload_n 2, 63, 2, 0, 0, 0), (63, .sipush 161, 66, 0, 0, 0, 0), (66, .invokevirtual 408, 69, 205, 3, 1, 12), (69, .ifCond .ne 5, 72, 74, 0, 0, 0), (72, .iload_n 3, 73, 3, 0, 0, 0), (73, .ireturn, 74, 0, 0, 0, 0)]
def sg_228_74 : List En := [(74, .iinc 3 1, 77, 3, 0, 1, 0), (77, .goto (-35), 80, 42, 0, 0, 0)]
def sg_228_80 : List En := [(80, .iconst (-1), 81, 0, 0, 0, 0), (81, .ireturn, 82, 0, 0, 0, 0)]
def pg_228 : List En := sg_228_0 ++ sg_228_26 ++ sg_228_29 ++ sg_228_40 ++ sg_228_42 ++ sg_228_74 ++ sg_228_80
/-! 229 LeastFailingModel.isTaken -/
def sg_229_0 : List En := [(0, .aload_n 0, 1, 0, 0, 0, 0), (1, .sipush 161, 4, 0, 0, 0, 0), (4, .iload_n 1, 5, 1, 0, 0, 0), (5, .iload_n 2, 6, 2, 0, 0, 0), (6, .invokevirtual 500, 9, 213, 4, 1, 12), (9, .aload_n 0, 10, 0, 0, 0, 0), (10, .getfield 506, 13, 12, 0, 67, 0), (13, .if_icmp .eq 5, 16, 18, 0, 0, 0), (16, .iconst 0, 17, 0, 0, 0, 0), (17, .ireturn, 18, 0, 0, 0, 1)]
def sg_229_18 : List En := [(18, .aload_n 0, 19, 0, 0, 0, 0), (19, .iconst 0, 20, 0, 0, 0, 0), (20, .sipush 161, 23, 0, 0, 0, 0), (23, .invokevirtual 330, 26, 177, 3, 0, 12), (26, .aload_n 0, 27, 0, 0, 0, 0), (27, .iconst 0, 28, 0, 0, 0, 0), (28, .invokevirtual 479, 31, 196, 2, 0, 12), (31, .aload_n 0, 32, 0, 0, 0, 0), (32, .dup, 33, 0, 0, 0, 0), (33, .getfield 509, 36, 12, 0, 68, 0), (36, .iconst 1, 37, 0, 0, 0, 0), (37, .iadd, 38, 0, 0, 0, 0), (38, .putfield 509, 41, 12, 0, 68, 0), (41, .iconst 1, 42, 0, 0, 0, 0), (42, .ireturn, 43, 0, 0, 0, 1)]
def pg_229 : List En := sg_229_0 ++ sg_229_18
/-! 230 LeastFailingModel.laysRow -/
def sg_230_0 : List En := [(0, .aload_n 0, 1, 0, 0, 0, 0), (1, .iconst 0, 2, 0, 0, 0, 0), (2, .invokevirtual 479, 5, 196, 2, 0, 12), (5, .aload_n 0, 6, 0, 0, 0, 0), (6, .iconst 0, 7, 0, 0, 0, 0), (7, .putfield 512, 10, 12, 0, 70, 0), (10, .iconst 0, 11, 0, 0, 0, 0), (11, .istore_n 2, 12, 2, 0, 0, 0)]
def sg_230_12 : List En := [(12, .iload_n 2, 13, 2, 0, 0, 0), (13, .aload_n 0, 14, 0, 0, 0, 0), (14, .iconst 0, 15, 0, 0, 0, 0), (15, .invokevirtual 307, 18, 174, 2, 1, 12), (18, .if_icmp .ge 59, 21, 77, 0, 0, 0), (21, .aload_n 0, 22, 0, 0, 0, 0), (22, .getfield 85, 25, 12, 50, 43, 0), (25, .iload_n 2, 26, 2, 0, 0, 0), (26, .iaload, 27, 0, 0, 0, 0), (27, .iload_n 1, 28, 1, 0, 0, 0), (28, .if_icmp .ne 43, 31, 71, 0, 0, 0), (31, .aload_n 0, 32, 0, 0, 0, 0), (32, .getfield 91, 35, 12, 54, 45, 0), (35, .iload_n 2, 36, 2, 0, 0, 0), (36, .baload, 37, 0, 0, 0, 1), (37, .ifCond .ne 14, 40, 51, 0, 0, 0), (40, .aload_n 0, 41, 0, 0, 0, 0), (41, .iload_n 2, 42, 2, 0, 0, 0), (42, .invokevirtual 486, 45, 218, 2, 1, 12), (45, .ifCond .ne 6, 48, 51, 0, 0, 0), (48, .goto 23, 51, 71, 0, 0, 0)]
def sg_230_51 : List En := [(51, .aload_n 0, 52, 0, 0, 0, 0), (52, .getfield 133, 55, 12, 76, 69, 0), (55, .aload_n 0, 56, 0, 0, 0, 0), (56, .getfield 512, 59, 12, 0, 70, 0), (59, .iload_n 2, 60, 2, 0, 0, 0), (60, .iastore, 61, 0, 0, 0, 0), (61, .aload_n 0, 62, 0, 0, 0, 0), (62, .dup, 63, 0, 0, 0, 0), (63, .getfield 512, 66, 12, 0, 70, 0), (66, .iconst 1, 67, 0, 0, 0, 0), (67, .iadd, 68, 0, 0, 0, 0), (68, .putfield 512, 71, 12, 0, 70, 0)]
def sg_230_71 : List En := [(71, .iinc 2 1, 74, 2, 0, 1, 0), (74, .goto (-62), 77, 12, 0, 0, 0)]
def sg_230_77 : List En := [(77, .return_, 78, 0, 0, 0, 0)]
def pg_230 : List En := sg_230_0 ++ sg_230_12 ++ sg_230_51 ++ sg_230_71 ++ sg_230_77
/-! 231 LeastFailingModel.takesRow -/
def sg_231_0 : List En := [(0, .aload_n 0, 1, 0, 0, 0, 0), (1, .invokevirtual 464, 4, 214, 1, 0, 12), (4, .iconst 0, 5, 0, 0, 0, 0), (5, .istore 6, 7, 6, 0, 0, 0)]
def sg_231_7 : List En := [(7, .iload 6, 9, 6, 0, 0, 0), (9, .aload_n 0, 10, 0, 0, 0, 0), (10, .getfield 512, 13, 12, 0, 70, 0), (13, .if_icmp .ge 62, 16, 75, 0, 0, 0), (16, .iload 6, 18, 6, 0, 0, 0), (18, .iload_n 1, 19, 1, 0, 0, 0), (19, .if_icmp .lt 13, 22, 32, 0, 0, 0), (22, .iload 6, 24, 6, 0, 0, 0), (24, .iload_n 2, 25, 2, 0, 0, 0), (25, .if_icmp .ge 7, 28, 32, 0, 0, 0), (28, .iconst 1, 29, 0, 0, 0, 0), (29, .goto 4, 32, 33, 0, 0, 0)]
def sg_231_32 : List En := [(32, .iconst 0, 33, 0, 0, 0, 0)]
def sg_231_33 : List En := [(33, .iload_n 3, 34, 3, 0, 0, 0), (34, .if_icmp .ne 35, 37, 69, 0, 0, 0), (37, .aload_n 0, 38, 0, 0, 0, 0), (38, .getfield 121, 41, 12, 68, 59, 0), (41, .aload_n 0, 42, 0, 0, 0, 0), (42, .getfield 133, 45, 12, 76, 69, 0), (45, .iload 6, 47, 6, 0, 0, 0), (47, .iaload, 48, 0, 0, 0, 0), (48, .aload_n 0, 49, 0, 0, 0, 0), (49, .getfield 91, 52, 12, 54, 45, 0), (52, .aload_n 0, 53, 0, 0, 0, 0), (53, .getfield 133, 56, 12, 76, 69, 0), (56, .iload 6, 58, 6, 0, 0, 0), (58, .iaload, 59, 0, 0, 0, 0), (59, .baload, 60, 0, 0, 0, 1), (60, .ifCond .eq 7, 63, 67, 0, 0, 0), (63, .iconst 0, 64, 0, 0, 0, 0), (64, .goto 4, 67, 68, 0, 0, 0)]
def sg_231_67 : List En := [(67, .iconst 1, 68, 0, 0, 0, 0)]
def sg_231_68 : List En := [(68, .iastore, 69, 0, 0, 0, 0)]
def sg_231_69 : List En := [(69, .iinc 6 1, 72, 6, 0, 1, 0), (72, .goto (-65), 75, 7, 0, 0, 0)]
def sg_231_75 : List En := [(75, .aload_n 0, 76, 0, 0, 0, 0), (76, .invokevirtual 467, 79, 217, 1, 0, 12), (79, .aload_n 0, 80, 0, 0, 0, 0), (80, .iload 4, 82, 4, 0, 0, 0), (82, .iload 5, 84, 5, 0, 0, 0), (84, .invokevirtual 515, 87, 229, 3, 1, 12), (87, .ifCond .ne 5, 90, 92, 0, 0, 0), (90, .iconst 0, 91, 0, 0, 0, 0), (91, .ireturn, 92, 0, 0, 0, 1)]
def sg_231_92 : List En := [(92, .iconst 0, 93, 0, 0, 0, 0), (93, .istore 6, 95, 6, 0, 0, 0), (95, .iconst 0, 96, 0, 0, 0, 0), (96, .istore 7, 98, 7, 0, 0, 0)]
def sg_231_98 : List En := [(98, .iload 7, 100, 7, 0, 0, 0), (100, .aload_n 0, 101, 0, 0, 0, 0), (101, .getfield 512, 104, 12, 0, 70, 0), (104, .if_icmp .ge 55, 107, 159, 0, 0, 0), (107, .iload 7, 109, 7, 0, 0, 0), (109, .iload_n 1, 110, 1, 0, 0, 0), (110, .if_icmp .lt 13, 113, 123, 0, 0, 0), (113, .iload 7, 115, 7, 0, 0, 0), (115, .iload_n 2, 116, 2, 0, 0, 0), (116, .if_icmp .ge 7, 119, 123, 0, 0, 0), (119, .iconst 1, 120, 0, 0, 0, 0), (120, .goto 4, 123, 124, 0, 0, 0)]
def sg_231_123 : List En := [(123, .iconst 0, 124, 0, 0, 0, 0)]
def sg_231_124 : List En := [(124, .iload_n 3, 125, 3, 0, 0, 0), (125, .if_icmp .ne 6, 128, 131, 0, 0, 0), (128, .goto 25, 131, 153, 0, 0, 0)]
def sg_231_131 : List En := [(131, .aload_n 0, 132, 0, 0, 0, 0), (132, .getfield 133, 135, 12, 76, 69, 0), (135, .iload 6, 137, 6, 0, 0, 0), (137, .aload_n 0, 138, 0, 0, 0, 0), (138, .getfield 124, 141, 12, 70, 61, 0), (141, .aload_n 0, 142, 0, 0, 0, 0), (142, .getfield 133, 145, 12, 76, 69, 0), (145, .iload 7, 147, 7, 0, 0, 0), (147, .iaload, 148, 0, 0, 0, 0), (148, .iaload, 149, 0, 0, 0, 0), (149, .iastore, 150, 0, 0, 0, 0), (150, .iinc 6 1, 153, 6, 0, 1, 0)]
def sg_231_153 : List En := [(153, .iinc 7 1, 156, 7, 0, 1, 0), (156, .goto (-58), 159, 98, 0, 0, 0)]
def sg_231_159 : List En := [(159, .aload_n 0, 160, 0, 0, 0, 0), (160, .iload 6, 162, 6, 0, 0, 0), (162, .putfield 512, 165, 12, 0, 70, 0), (165, .iconst 1, 166, 0, 0, 0, 0), (166, .ireturn, 167, 0, 0, 0, 1)]
def pg_231 : List En := sg_231_0 ++ sg_231_7 ++ sg_231_32 ++ sg_231_33 ++ sg_231_67 ++ sg_231_68 ++ sg_231_69 ++ sg_231_75 ++ sg_231_92 ++ sg_231_98 ++ sg_231_123 ++ sg_231_124 ++ sg_231_131 ++ sg_231_153 ++ sg_231_159
/-! 232 LeastFailingModel.partFrom -/
def sg_232_0 : List En := [(0, .iload_n 1, 1, 1, 0, 0, 0), (1, .aload_n 0, 2, 0, 0, 0, 0), (2, .getfield 512, 5, 12, 0, 70, 0), (5, .imul, 6, 0, 0, 0, 0), (6, .iload_n 2, 7, 2, 0, 0, 0), (7, .idiv, 8, 0, 0, 0, 0), (8, .ireturn, 9, 0, 0, 0, 0)]
def pg_232 : List En := sg_232_0
/-! 233 LeastFailingModel.takesAPart -/
def sg_233_0 : List En := [(0, .iconst 0, 1, 0, 0, 0, 0), (1, .istore 5, 3, 5, 0, 0, 0)]
def sg_233_3 : List En := [(3, .iload 5, 5, 5, 0, 0, 0), (5, .iload_n 1, 6, 1, 0, 0, 0), (6, .if_icmp .ge 38, 9, 44, 0, 0, 0), (9, .aload_n 0, 10, 0, 0, 0, 0), (10, .aload_n 0, 11, 0, 0, 0, 0), (11, .iload 5, 13, 5, 0, 0, 0), (13, .iload_n 1, 14, 1, 0, 0, 0), (14, .invokevirtual 518, 17, 232, 3, 1, 12), (17, .aload_n 0, 18, 0, 0, 0, 0), (18, .iload 5, 20, 5, 0, 0, 0), (20, .iconst 1, 21, 0, 0, 0, 0), (21, .iadd, 22, 0, 0, 0, 0), (22, .iload_n 1, 23, 1, 0, 0, 0), (23, .invokevirtual 518, 26, 232, 3, 1, 12), (26, .iload_n 2, 27, 2, 0, 0, 0), (27, .iload_n 3, 28, 3, 0, 0, 0), (28, .iload 4, 30, 4, 0, 0, 0), (30, .invokevirtual 521, 33, 231, 6, 1, 12), (33, .ifCond .eq 5, 36, 38, 0, 0, 0), (36, .iconst 1, 37, 0, 0, 0, 0), (37, .ireturn, 38, 0, 0, 0, 1)]
def sg_233_38 : List En := [(38, .iinc 5 1, 41, 5, 0, 1, 0), (41, .goto (-38), 44, 3, 0, 0, 0)]
def sg_233_44 : List En := [(44, .iconst 0, 45, 0, 0, 0, 0), (45, .ireturn, 46, 0, 0, 0, 1)]
def pg_233 : List En := sg_233_0 ++ sg_233_3 ++ sg_233_38 ++ sg_233_44
/-! 234 LeastFailingModel.byHalves -/
def sg_234_0 : List En := [(0, .iconst 2, 1, 0, 0, 0, 0), (1, .istore_n 2, 2, 2, 0, 0, 0)]
def sg_234_2 : List En := [(2, .aload_n 0, 3, 0, 0, 0, 0), (3, .getfield 512, 6, 12, 0, 70, 0), (6, .iconst 1, 7, 0, 0, 0, 0), (7, .if_icmp .le 74, 10, 81, 0, 0, 0), (10, .aload_n 0, 11, 0, 0, 0, 0), (11, .iload_n 2, 12, 2, 0, 0, 0), (12, .iconst 0, 13, 0, 0, 0, 0), (13, .iconst 2, 14, 0, 0, 0, 0), (14, .iload_n 1, 15, 1, 0, 0, 0), (15, .invokevirtual 525, 18, 233, 5, 1, 12), (18, .ifCond .eq 8, 21, 26, 0, 0, 0), (21, .iconst 2, 22, 0, 0, 0, 0), (22, .istore_n 2, 23, 2, 0, 0, 0), (23, .goto (-21), 26, 2, 0, 0, 0)]
def sg_234_26 : List En := [(26, .iload_n 2, 27, 2, 0, 0, 0), (27, .iconst 2, 28, 0, 0, 0, 0), (28, .if_icmp .le 20, 31, 48, 0, 0, 0), (31, .aload_n 0, 32, 0, 0, 0, 0), (32, .iload_n 2, 33, 2, 0, 0, 0), (33, .iconst 1, 34, 0, 0, 0, 0), (34, .iconst 3, 35, 0, 0, 0, 0), (35, .iload_n 1, 36, 1, 0, 0, 0), (36, .invokevirtual 525, 39, 233, 5, 1, 12), (39, .ifCond .eq 9, 42, 48, 0, 0, 0), (42, .iinc 2 (-1), 45, 2, 0, -1, 0), (45, .goto (-43), 48, 2, 0, 0, 0)]
def sg_234_48 : List En := [(48, .iload_n 2, 49, 2, 0, 0, 0), (49, .aload_n 0, 50, 0, 0, 0, 0), (50, .getfield 512, 53, 12, 0, 70, 0), (53, .if_icmp .ge 27, 56, 80, 0, 0, 0), (56, .iconst 2, 57, 0, 0, 0, 0), (57, .iload_n 2, 58, 2, 0, 0, 0), (58, .imul, 59, 0, 0, 0, 0), (59, .aload_n 0, 60, 0, 0, 0, 0), (60, .getfield 512, 63, 12, 0, 70, 0), (63, .if_icmp .ge 9, 66, 72, 0, 0, 0), (66, .iconst 2, 67, 0, 0, 0, 0), (67, .iload_n 2, 68, 2, 0, 0, 0), (68, .imul, 69, 0, 0, 0, 0), (69, .goto 7, 72, 76, 0, 0, 0)]
def sg_234_72 : List En := [(72, .aload_n 0, 73, 0, 0, 0, 0), (73, .getfield 512, 76, 12, 0, 70, 0)]
def sg_234_76 : List En := [(76, .istore_n 2, 77, 2, 0, 0, 0), (77, .goto (-75), 80, 2, 0, 0, 0)]
def sg_234_80 : List En := [(80, .return_, 81, 0, 0, 0, 0)]
def sg_234_81 : List En := [(81, .return_, 82, 0, 0, 0, 0)]
def pg_234 : List En := sg_234_0 ++ sg_234_2 ++ sg_234_26 ++ sg_234_48 ++ sg_234_72 ++ sg_234_76 ++ sg_234_80 ++ sg_234_81
/-! 235 LeastFailingModel.byLevels -/
def sg_235_0 : List En := [(0, .aload_n 0, 1, 0, 0, 0, 0), (1, .iconst 0, 2, 0, 0, 0, 0), (2, .invokevirtual 479, 5, 196, 2, 0, 12), (5, .iconst 1, 6, 0, 0, 0, 0), (6, .istore_n 1, 7, 1, 0, 0, 0)]
def sg_235_7 : List En := [(7, .iload_n 1, 8, 1, 0, 0, 0), (8, .aload_n 0, 9, 0, 0, 0, 0), (9, .getfield 381, 12, 12, 0, 46, 0), (12, .if_icmp .gt 46, 15, 58, 0, 0, 0), (15, .aload_n 0, 16, 0, 0, 0, 0), (16, .iload_n 1, 17, 1, 0, 0, 0), (17, .invokevirtual 529, 20, 230, 2, 0, 12), (20, .aload_n 0, 21, 0, 0, 0, 0), (21, .getfield 512, 24, 12, 0, 70, 0), (24, .ifCond .le 23, 27, 47, 0, 0, 0), (27, .aload_n 0, 28, 0, 0, 0, 0), (28, .iconst 0, 29, 0, 0, 0, 0), (29, .aload_n 0, 30, 0, 0, 0, 0), (30, .getfield 512, 33, 12, 0, 70, 0), (33, .iconst 1, 34, 0, 0, 0, 0), (34, .iconst 1, 35, 0, 0, 0, 0), (35, .iload_n 1, 36, 1, 0, 0, 0), (36, .invokevirtual 521, 39, 231, 6, 1, 12), (39, .ifCond .ne 8, 42, 47, 0, 0, 0), (42, .aload_n 0, 43, 0, 0, 0, 0), (43, .iload_n 1, 44, 1, 0, 0, 0), (44, .invokevirtual 532, 47, 234, 2, 0, 12)]
def sg_235_47 : List En := [(47, .aload_n 0, 48, 0, 0, 0, 0), (48, .iconst 0, 49, 0, 0, 0, 0), (49, .invokevirtual 479, 52, 196, 2, 0, 12), (52, .iinc 1 1, 55, 1, 0, 1, 0), (55, .goto (-48), 58, 7, 0, 0, 0)]
def sg_235_58 : List En := [(58, .return_, 59, 0, 0, 0, 0)]
def pg_235 : List En := sg_235_0 ++ sg_235_7 ++ sg_235_47 ++ sg_235_58
/-! 236 LeastFailingModel.takesHoist -/
def sg_236_0 : List En := [(0, .iload_n 1, 1, 1, 0, 0, 0), (1, .aload_n 0, 2, 0, 0, 0, 0), (2, .iconst 0, 3, 0, 0, 0, 0), (3, .iload_n 1, 4, 1, 0, 0, 0), (4, .invokevirtual 384, 7, 176, 3, 1, 12), (7, .iadd, 8, 0, 0, 0, 0), (8, .istore_n 2, 9, 2, 0, 0, 0), (9, .iload_n 1, 10, 1, 0, 0, 0), (10, .iconst 1, 11, 0, 0, 0, 0), (11, .iadd, 12, 0, 0, 0, 0), (12, .istore_n 3, 13, 3, 0, 0, 0)]
def sg_236_13 : List En := [(13, .iload_n 3, 14, 3, 0, 0, 0), (14, .iload_n 2, 15, 2, 0, 0, 0), (15, .if_icmp .ge 45, 18, 60, 0, 0, 0), (18, .aload_n 0, 19, 0, 0, 0, 0), (19, .iconst 0, 20, 0, 0, 0, 0), (20, .iload_n 3, 21, 3, 0, 0, 0), (21, .invokevirtual 452, 24, 197, 3, 1, 12), (24, .aload_n 0, 25, 0, 0, 0, 0), (25, .iconst 0, 26, 0, 0, 0, 0), (26, .iload_n 1, 27, 1, 0, 0, 0), (27, .invokevirtual 452, 30, 197, 3, 1, 12), (30, .if_icmp .eq 6, 33, 36, 0, 0, 0), (33, .goto 21, 36, 54, 0, 0, 0)]
def sg_236_36 : List En := [(36, .aload_n 0, 37, 0, 0, 0, 0), (37, .iload_n 1, 38, 1, 0, 0, 0), (38, .iconst 2, 39, 0, 0, 0, 0), (39, .iload_n 3, 40, 3, 0, 0, 0), (40, .invokevirtual 492, 43, 219, 4, 0, 12), (43, .aload_n 0, 44, 0, 0, 0, 0), (44, .iconst 4, 45, 0, 0, 0, 0), (45, .iload_n 1, 46, 1, 0, 0, 0), (46, .invokevirtual 515, 49, 229, 3, 1, 12), (49, .ifCond .eq 5, 52, 54, 0, 0, 0), (52, .iconst 1, 53, 0, 0, 0, 0), (53, .ireturn, 54, 0, 0, 0, 1)]
def sg_236_54 : List En := [(54, .iinc 3 1, 57, 3, 0, 1, 0), (57, .goto (-44), 60, 13, 0, 0, 0)]
def sg_236_60 : List En := [(60, .iconst 0, 61, 0, 0, 0, 0), (61, .ireturn, 62, 0, 0, 0, 1)]
def pg_236 : List En := sg_236_0 ++ sg_236_13 ++ sg_236_36 ++ sg_236_54 ++ sg_236_60
/-! 237 LeastFailingModel.takesCut -/
def sg_237_0 : List En := [(0, .aload_n 0, 1, 0, 0, 0, 0), (1, .getfield 91, 4, 12, 54, 45, 0), (4, .iload_n 1, 5, 1, 0, 0, 0), (5, .baload, 6, 0, 0, 0, 1), (6, .ifCond .eq 21, 9, 27, 0, 0, 0), (9, .aload_n 0, 10, 0, 0, 0, 0), (10, .iload_n 1, 11, 1, 0, 0, 0), (11, .iconst 0, 12, 0, 0, 0, 0), (12, .iconst (-1), 13, 0, 0, 0, 0), (13, .invokevirtual 492, 16, 219, 4, 0, 12), (16, .aload_n 0, 17, 0, 0, 0, 0), (17, .iconst 5, 18, 0, 0, 0, 0), (18, .iload_n 1, 19, 1, 0, 0, 0), (19, .invokevirtual 515, 22, 229, 3, 1, 12), (22, .ifCond .eq 5, 25, 27, 0, 0, 0), (25, .iconst 1, 26, 0, 0, 0, 0), (26, .ireturn, 27, 0, 0, 0, 1)]
def sg_237_27 : List En := [(27, .aload_n 0, 28, 0, 0, 0, 0), (28, .iload_n 1, 29, 1, 0, 0, 0), (29, .invokevirtual 486, 32, 218, 2, 1, 12), (32, .ifCond .ne 5, 35, 37, 0, 0, 0), (35, .iconst 0, 36, 0, 0, 0, 0), (36, .ireturn, 37, 0, 0, 0, 1)]
def sg_237_37 : List En := [(37, .aload_n 0, 38, 0, 0, 0, 0), (38, .iload_n 1, 39, 1, 0, 0, 0), (39, .iconst 1, 40, 0, 0, 0, 0), (40, .iconst (-1), 41, 0, 0, 0, 0), (41, .invokevirtual 492, 44, 219, 4, 0, 12), (44, .aload_n 0, 45, 0, 0, 0, 0), (45, .iconst 5, 46, 0, 0, 0, 0), (46, .iload_n 1, 47, 1, 0, 0, 0), (47, .invokevirtual 515, 50, 229, 3, 1, 12), (50, .ireturn, 51, 0, 0, 0, 1)]
def pg_237 : List En := sg_237_0 ++ sg_237_27 ++ sg_237_37
/-! 238 LeastFailingModel.byNodes -/
def sg_238_0 : List En := [(0, .aload_n 0, 1, 0, 0, 0, 0), (1, .iconst 0, 2, 0, 0, 0, 0), (2, .invokevirtual 479, 5, 196, 2, 0, 12), (5, .iconst 0, 6, 0, 0, 0, 0), (6, .istore_n 2, 7, 2, 0, 0, 0)]
def sg_238_7 : List En := [(7, .iload_n 2, 8, 2, 0, 0, 0), (8, .aload_n 0, 9, 0, 0, 0, 0), (9, .iconst 0, 10, 0, 0, 0, 0), (10, .invokevirtual 307, 13, 174, 2, 1, 12), (13, .if_icmp .ge 32, 16, 45, 0, 0, 0), (16, .iload_n 1, 17, 1, 0, 0, 0), (17, .ifCond .eq 14, 20, 31, 0, 0, 0), (20, .aload_n 0, 21, 0, 0, 0, 0), (21, .iload_n 2, 22, 2, 0, 0, 0), (22, .invokevirtual 535, 25, 236, 2, 1, 12), (25, .ifCond .eq 14, 28, 39, 0, 0, 0), (28, .goto (-21), 31, 7, 0, 0, 0)]
def sg_238_31 : List En := [(31, .aload_n 0, 32, 0, 0, 0, 0), (32, .iload_n 2, 33, 2, 0, 0, 0), (33, .invokevirtual 538, 36, 237, 2, 1, 12), (36, .ifCond .ne (-29), 39, 7, 0, 0, 0)]
def sg_238_39 : List En := [(39, .iinc 2 1, 42, 2, 0, 1, 0), (42, .goto (-35), 45, 7, 0, 0, 0)]
def sg_238_45 : List En := [(45, .return_, 46, 0, 0, 0, 0)]
def pg_238 : List En := sg_238_0 ++ sg_238_7 ++ sg_238_31 ++ sg_238_39 ++ sg_238_45
/-! 239 LeastFailingModel.reduces -/
def sg_239_0 : List En := [(0, .iload_n 1, 1, 1, 0, 0, 0), (1, .ifCond .eq 8, 4, 9, 0, 0, 0), (4, .iload_n 1, 5, 1, 0, 0, 0), (5, .iconst 3, 6, 0, 0, 0, 0), (6, .if_icmp .ne 7, 9, 13, 0, 0, 0)]
def sg_239_9 : List En := [(9, .aload_n 0, 10, 0, 0, 0, 0), (10, .invokevirtual 541, 13, 235, 1, 0, 12)]
def sg_239_13 : List En := [(13, .iload_n 1, 14, 1, 0, 0, 0), (14, .iconst 1, 15, 0, 0, 0, 0), (15, .if_icmp .eq 8, 18, 23, 0, 0, 0), (18, .iload_n 1, 19, 1, 0, 0, 0), (19, .iconst 3, 20, 0, 0, 0, 0), (20, .if_icmp .ne 8, 23, 28, 0, 0, 0)]
def sg_239_23 : List En := [(23, .aload_n 0, 24, 0, 0, 0, 0), (24, .iconst 1, 25, 0, 0, 0, 0), (25, .invokevirtual 544, 28, 238, 2, 0, 12)]
def sg_239_28 : List En := [(28, .iload_n 1, 29, 1, 0, 0, 0), (29, .iconst 2, 30, 0, 0, 0, 0), (30, .if_icmp .eq 8, 33, 38, 0, 0, 0), (33, .iload_n 1, 34, 1, 0, 0, 0), (34, .iconst 3, 35, 0, 0, 0, 0), (35, .if_icmp .ne 8, 38, 43, 0, 0, 0)]
def sg_239_38 : List En := [(38, .aload_n 0, 39, 0, 0, 0, 0), (39, .iconst 0, 40, 0, 0, 0, 0), (40, .invokevirtual 544, 43, 238, 2, 0, 12)]
def sg_239_43 : List En := [(43, .return_, 44, 0, 0, 0, 0)]
def pg_239 : List En := sg_239_0 ++ sg_239_9 ++ sg_239_13 ++ sg_239_23 ++ sg_239_28 ++ sg_239_38 ++ sg_239_43
/-! 240 LeastFailingModel.reduce -/
def sg_240_0 : List En := [(0, .aload_n 0, 1, 0, 0, 0, 0), (1, .iconst 0, 2, 0, 0, 0, 0), (2, .putfield 136, 5, 12, 0, 0, 0), (5, .aload_n 0, 6, 0, 0, 0, 0), (6, .iload_n 1, 7, 1, 0, 0, 0), (7, .invokevirtual 503, 10, 227, 2, 1, 12), (10, .ifCond .eq 15, 13, 25, 0, 0, 0), (13, .iload_n 2, 14, 2, 0, 0, 0), (14, .i2l, 15, 0, 0, 0, 0), (15, .lconst 0, 16, 0, 0, 0, 0), (16, .ldc2_w 548, 19, 0, 0, 3, 0), (19, .invokestatic 146, 22, 137, 3, 1, 0), (22, .ifCond .ne 6, 25, 28, 0, 0, 0)]
def sg_240_25 : List En := [(25, .bipush (-2), 27, 0, 0, 0, 0), (27, .ireturn, 28, 0, 0, 0, 0)]
def sg_240_28 : List En := [(28, .aload_n 0, 29, 0, 0, 0, 0), (29, .iconst 0, 30, 0, 0, 0, 0), (30, .invokevirtual 307, 33, 174, 2, 1, 12), (33, .ifCond .eq 14, 36, 47, 0, 0, 0), (36, .aload_n 0, 37, 0, 0, 0, 0), (37, .iconst 0, 38, 0, 0, 0, 0), (38, .iconst 0, 39, 0, 0, 0, 0), (39, .iconst (-1), 40, 0, 0, 0, 0), (40, .invokevirtual 500, 43, 213, 4, 1, 12), (43, .iload_n 1, 44, 1, 0, 0, 0), (44, .if_icmp .eq 6, 47, 50, 0, 0, 0)]
def sg_240_47 : List En := [(47, .bipush (-3), 49, 0, 0, 0, 0), (49, .ireturn, 50, 0, 0, 0, 0)]
def sg_240_50 : List En := [(50, .aload_n 0, 51, 0, 0, 0, 0), (51, .invokevirtual 327, 54, 183, 1, 0, 12), (54, .aload_n 0, 55, 0, 0, 0, 0), (55, .iload_n 1, 56, 1, 0, 0, 0), (56, .putfield 506, 59, 12, 0, 67, 0), (59, .aload_n 0, 60, 0, 0, 0, 0), (60, .iconst 0, 61, 0, 0, 0, 0), (61, .putfield 509, 64, 12, 0, 68, 0), (64, .iconst (-1), 65, 0, 0, 0, 0), (65, .istore_n 3, 66, 3, 0, 0, 0)]
def sg_240_66 : List En := [(66, .iload_n 3, 67, 3, 0, 0, 0), (67, .aload_n 0, 68, 0, 0, 0, 0), (68, .getfield 509, 71, 12, 0, 68, 0), (71, .if_icmp .eq 35, 74, 106, 0, 0, 0), (74, .iload_n 2, 75, 2, 0, 0, 0), (75, .iconst 3, 76, 0, 0, 0, 0), (76, .if_icmp .ne 10, 79, 86, 0, 0, 0), (79, .aload_n 0, 80, 0, 0, 0, 0), (80, .getfield 509, 83, 12, 0, 68, 0), (83, .goto 4, 86, 87, 0, 0, 0)]
def sg_240_86 : List En := [(86, .iconst (-1), 87, 0, 0, 0, 0)]
def sg_240_87 : List En := [(87, .istore_n 3, 88, 3, 0, 0, 0), (88, .aload_n 0, 89, 0, 0, 0, 0), (89, .iload_n 2, 90, 2, 0, 0, 0), (90, .invokevirtual 550, 93, 239, 2, 0, 12), (93, .iload_n 2, 94, 2, 0, 0, 0), (94, .iconst 3, 95, 0, 0, 0, 0), (95, .if_icmp .eq (-29), 98, 66, 0, 0, 0), (98, .aload_n 0, 99, 0, 0, 0, 0), (99, .getfield 509, 102, 12, 0, 68, 0), (102, .istore_n 3, 103, 3, 0, 0, 0), (103, .goto (-37), 106, 66, 0, 0, 0)]
def sg_240_106 : List En := [(106, .aload_n 0, 107, 0, 0, 0, 0), (107, .getfield 509, 110, 12, 0, 68, 0), (110, .ireturn, 111, 0, 0, 0, 0)]
def pg_240 : List En := sg_240_0 ++ sg_240_25 ++ sg_240_28 ++ sg_240_47 ++ sg_240_50 ++ sg_240_66 ++ sg_240_86 ++ sg_240_87 ++ sg_240_106
/-! 241 LeastFailingModel.row -/
def sg_241_0 : List En := [(0, .aload_n 0, 1, 0, 0, 0, 0), (1, .iconst 0, 2, 0, 0, 0, 0), (2, .putfield 136, 5, 12, 0, 0, 0), (5, .iload_n 1, 6, 1, 0, 0, 0), (6, .iconst 1, 7, 0, 0, 0, 0), (7, .if_icmp .lt 11, 10, 18, 0, 0, 0), (10, .aload_n 0, 11, 0, 0, 0, 0), (11, .iconst 0, 12, 0, 0, 0, 0), (12, .invokevirtual 307, 15, 174, 2, 1, 12), (15, .ifCond .ne 5, 18, 20, 0, 0, 0)]
def sg_241_18 : List En := [(18, .iconst (-1), 19, 0, 0, 0, 0), (19, .ireturn, 20, 0, 0, 0, 0)]
def sg_241_20 : List En := [(20, .aload_n 0, 21, 0, 0, 0, 0), (21, .iload_n 1, 22, 1, 0, 0, 0), (22, .invokevirtual 529, 25, 230, 2, 0, 12), (25, .iload_n 2, 26, 2, 0, 0, 0), (26, .iconst (-1), 27, 0, 0, 0, 0), (27, .if_icmp .ne 10, 30, 37, 0, 0, 0), (30, .aload_n 0, 31, 0, 0, 0, 0), (31, .getfield 512, 34, 12, 0, 70, 0), (34, .goto 29, 37, 63, 0, 0, 0)]
def sg_241_37 : List En := [(37, .iload_n 2, 38, 2, 0, 0, 0), (38, .i2l, 39, 0, 0, 0, 0), (39, .lconst 0, 40, 0, 0, 0, 0), (40, .aload_n 0, 41, 0, 0, 0, 0), (41, .getfield 512, 44, 12, 0, 70, 0), (44, .iconst 1, 45, 0, 0, 0, 0), (45, .isub, 46, 0, 0, 0, 0), (46, .i2l, 47, 0, 0, 0, 0), (47, .invokestatic 146, 50, 137, 3, 1, 0), (50, .ifCond .eq 12, 53, 62, 0, 0, 0), (53, .aload_n 0, 54, 0, 0, 0, 0), (54, .getfield 133, 57, 12, 76, 69, 0), (57, .iload_n 2, 58, 2, 0, 0, 0), (58, .iaload, 59, 0, 0, 0, 0), (59, .goto 4, 62, 63, 0, 0, 0)]
def sg_241_62 : List En := [(62, .iconst (-1), 63, 0, 0, 0, 0)]
def sg_241_63 : List En := [(63, .ireturn, 64, 0, 0, 0, 0)]
def pg_241 : List En := sg_241_0 ++ sg_241_18 ++ sg_241_20 ++ sg_241_37 ++ sg_241_62 ++ sg_241_63
/-! 242 LeastFailingModel.part -/
def sg_242_0 : List En := [(0, .aload_n 0, 1, 0, 0, 0, 0), (1, .iconst 0, 2, 0, 0, 0, 0), (2, .putfield 136, 5, 12, 0, 0, 0), (5, .iload_n 1, 6, 1, 0, 0, 0), (6, .i2l, 7, 0, 0, 0, 0), (7, .lconst 1, 8, 0, 0, 1, 0), (8, .ldc2_w 553, 11, 0, 0, 80, 0), (11, .invokestatic 146, 14, 137, 3, 1, 0), (14, .ifCond .eq 38, 17, 52, 0, 0, 0), (17, .iload_n 2, 18, 2, 0, 0, 0), (18, .i2l, 19, 0, 0, 0, 0), (19, .lconst 1, 20, 0, 0, 1, 0), (20, .iload_n 1, 21, 1, 0, 0, 0), (21, .i2l, 22, 0, 0, 0, 0), (22, .invokestatic 146, 25, 137, 3, 1, 0), (25, .ifCond .eq 27, 28, 52, 0, 0, 0), (28, .iload_n 3, 29, 3, 0, 0, 0), (29, .i2l, 30, 0, 0, 0, 0), (30, .lconst 0, 31, 0, 0, 0, 0), (31, .iload_n 2, 32, 2, 0, 0, 0), (32, .iconst 1, 33, 0, 0, 0, 0), (33, .isub, 34, 0, 0, 0, 0), (34, .i2l, 35, 0, 0, 0, 0), (35, .invokestatic 146, 38, 137, 3, 1, 0), (38, .ifCond .eq 14, 41, 52, 0, 0, 0), (41, .iload 4, 43, 4, 0, 0, 0), (43, .i2l, 44, 0, 0, 0, 0), (44, .lconst 0, 45, 0, 0, 0, 0), (45, .lconst 1, 46, 0, 0, 1, 0), (46, .invokestatic 146, 49, 137, 3, 1, 0), (49, .ifCond .ne 5, 52, 54, 0, 0, 0)]
def sg_242_52 : List En := [(52, .iconst (-1), 53, 0, 0, 0, 0), (53, .ireturn, 54, 0, 0, 0, 0)]
def sg_242_54 : List En := [(54, .iload_n 3, 55, 3, 0, 0, 0), (55, .iload_n 1, 56, 1, 0, 0, 0), (56, .imul, 57, 0, 0, 0, 0), (57, .iload_n 2, 58, 2, 0, 0, 0), (58, .idiv, 59, 0, 0, 0, 0), (59, .istore 5, 61, 5, 0, 0, 0), (61, .iload 4, 63, 4, 0, 0, 0), (63, .ifCond .ne 8, 66, 71, 0, 0, 0), (66, .iload 5, 68, 5, 0, 0, 0), (68, .goto 13, 71, 81, 0, 0, 0)]
def sg_242_71 : List En := [(71, .iload_n 3, 72, 3, 0, 0, 0), (72, .iconst 1, 73, 0, 0, 0, 0), (73, .iadd, 74, 0, 0, 0, 0), (74, .iload_n 1, 75, 1, 0, 0, 0), (75, .imul, 76, 0, 0, 0, 0), (76, .iload_n 2, 77, 2, 0, 0, 0), (77, .idiv, 78, 0, 0, 0, 0), (78, .iload 5, 80, 5, 0, 0, 0), (80, .isub, 81, 0, 0, 0, 0)]
def sg_242_81 : List En := [(81, .ireturn, 82, 0, 0, 0, 0)]
def pg_242 : List En := sg_242_0 ++ sg_242_52 ++ sg_242_54 ++ sg_242_71 ++ sg_242_81
/-! 243 LeastFailingModel.tried -/
def sg_243_0 : List En := [(0, .aload_n 0, 1, 0, 0, 0, 0), (1, .iconst 0, 2, 0, 0, 0, 0), (2, .putfield 136, 5, 12, 0, 0, 0), (5, .iload_n 1, 6, 1, 0, 0, 0), (6, .i2l, 7, 0, 0, 0, 0), (7, .ldc2_w 555, 10, 0, 0, -1, 0), (10, .aload_n 0, 11, 0, 0, 0, 0), (11, .getfield 286, 14, 12, 0, 37, 0), (14, .iconst 1, 15, 0, 0, 0, 0), (15, .isub, 16, 0, 0, 0, 0), (16, .i2l, 17, 0, 0, 0, 0), (17, .invokestatic 146, 20, 137, 3, 1, 0), (20, .ifCond .ne 6, 23, 26, 0, 0, 0), (23, .bipush (-2), 25, 0, 0, 0, 0), (25, .ireturn, 26, 0, 0, 0, 0)]
def sg_243_26 : List En := [(26, .iconst 0, 27, 0, 0, 0, 0), (27, .istore_n 2, 28, 2, 0, 0, 0), (28, .iconst 0, 29, 0, 0, 0, 0), (29, .istore_n 3, 30, 3, 0, 0, 0)]
def sg_243_30 : List En := [(30, .iload_n 3, 31, 3, 0, 0, 0), (31, .aload_n 0, 32, 0, 0, 0, 0), (32, .getfield 422, 35, 12, 0, 57, 0), (35, .if_icmp .ge 30, 38, 65, 0, 0, 0), (38, .iload_n 2, 39, 2, 0, 0, 0), (39, .aload_n 0, 40, 0, 0, 0, 0), (40, .getfield 109, 43, 12, 60, 54, 0), (43, .iload_n 3, 44, 3, 0, 0, 0), (44, .iaload, 45, 0, 0, 0, 0), (45, .iload_n 1, 46, 1, 0, 0, 0), (46, .if_icmp .ne 7, 49, 53, 0, 0, 0), (49, .iconst 1, 50, 0, 0, 0, 0), (50, .goto 4, 53, 54, 0, 0, 0)]
def sg_243_53 : List En := [(53, .iconst 0, 54, 0, 0, 0, 0)]
def sg_243_54 : List En := [(54, .invokestatic 256, 57, 138, 1, 1, 0), (57, .iadd, 58, 0, 0, 0, 0), (58, .istore_n 2, 59, 2, 0, 0, 0), (59, .iinc 3 1, 62, 3, 0, 1, 0), (62, .goto (-32), 65, 30, 0, 0, 0)]
def sg_243_65 : List En := [(65, .iload_n 2, 66, 2, 0, 0, 0), (66, .ireturn, 67, 0, 0, 0, 0)]
def pg_243 : List En := sg_243_0 ++ sg_243_26 ++ sg_243_30 ++ sg_243_53 ++ sg_243_54 ++ sg_243_65
/-! 244 LeastFailingModel.trace -/
def sg_244_0 : List En := [(0, .aload_n 0, 1, 0, 0, 0, 0), (1, .iconst 0, 2, 0, 0, 0, 0), (2, .putfield 136, 5, 12, 0, 0, 0), (5, .iload_n 1, 6, 1, 0, 0, 0), (6, .i2l, 7, 0, 0, 0, 0), (7, .lconst 0, 8, 0, 0, 0, 0), (8, .aload_n 0, 9, 0, 0, 0, 0), (9, .getfield 422, 12, 12, 0, 57, 0), (12, .iconst 1, 13, 0, 0, 0, 0), (13, .isub, 14, 0, 0, 0, 0), (14, .i2l, 15, 0, 0, 0, 0), (15, .invokestatic 146, 18, 137, 3, 1, 0), (18, .ifCond .ne 6, 21, 24, 0, 0, 0), (21, .bipush (-2), 23, 0, 0, 0, 0), (23, .ireturn, 24, 0, 0, 0, 0)]
def sg_244_24 : List En := [(24, .iload_n 2, 25, 2, 0, 0, 0), (25, .tableswitch 59 0 3 #[31, 38, 45, 52], 56, 0, 0, 0, 0)]
def sg_244_56 : List En := [(56, .aload_n 0, 57, 0, 0, 0, 0), (57, .getfield 106, 60, 12, 58, 53, 0), (60, .iload_n 1, 61, 1, 0, 0, 0), (61, .iaload, 62, 0, 0, 0, 0), (62, .ireturn, 63, 0, 0, 0, 0)]
def sg_244_63 : List En := [(63, .aload_n 0, 64, 0, 0, 0, 0), (64, .getfield 109, 67, 12, 60, 54, 0), (67, .iload_n 1, 68, 1, 0, 0, 0), (68, .iaload, 69, 0, 0, 0, 0), (69, .ireturn, 70, 0, 0, 0, 0)]
def sg_244_70 : List En := [(70, .aload_n 0, 71, 0, 0, 0, 0), (71, .getfield 112, 74, 12, 62, 55, 0), (74, .iload_n 1, 75, 1, 0, 0, 0), (75, .iaload, 76, 0, 0, 0, 0), (76, .ireturn, 77, 0, 0, 0, 0)]
def sg_244_77 : List En := [(77, .aload_n 0, 78, 0, 0, 0, 0), (78, .getfield 115, 81, 12, 64, 56, 0), (81, .iload_n 1, 82, 1, 0, 0, 0), (82, .iaload, 83, 0, 0, 0, 0), (83, .ireturn, 84, 0, 0, 0, 0)]
def sg_244_84 : List En := [(84, .bipush (-2), 86, 0, 0, 0, 0), (86, .ireturn, 87, 0, 0, 0, 0)]
def pg_244 : List En := sg_244_0 ++ sg_244_24 ++ sg_244_56 ++ sg_244_63 ++ sg_244_70 ++ sg_244_77 ++ sg_244_84
/-! 245 LeastFailingModel.votes -/
def sg_245_0 : List En := [(0, .aload_n 0, 1, 0, 0, 0, 0), (1, .iconst 0, 2, 0, 0, 0, 0), (2, .putfield 136, 5, 12, 0, 0, 0), (5, .iload_n 1, 6, 1, 0, 0, 0), (6, .i2l, 7, 0, 0, 0, 0), (7, .lconst 1, 8, 0, 0, 1, 0), (8, .ldc2_w 557, 11, 0, 0, 9, 0), (11, .invokestatic 146, 14, 137, 3, 1, 0), (14, .ifCond .eq 9, 17, 23, 0, 0, 0), (17, .iload_n 1, 18, 1, 0, 0, 0), (18, .iconst 2, 19, 0, 0, 0, 0), (19, .irem, 20, 0, 0, 0, 0), (20, .ifCond .ne 6, 23, 26, 0, 0, 0)]
def sg_245_23 : List En := [(23, .bipush (-2), 25, 0, 0, 0, 0), (25, .ireturn, 26, 0, 0, 0, 0)]
def sg_245_26 : List En := [(26, .aload_n 0, 27, 0, 0, 0, 0), (27, .getfield 99, 30, 12, 0, 48, 0), (30, .istore_n 2, 31, 2, 0, 0, 0), (31, .aload_n 0, 32, 0, 0, 0, 0), (32, .iload_n 1, 33, 1, 0, 0, 0), (33, .putfield 99, 36, 12, 0, 48, 0), (36, .aload_n 0, 37, 0, 0, 0, 0), (37, .invokevirtual 292, 40, 209, 1, 0, 12), (40, .iload_n 2, 41, 2, 0, 0, 0), (41, .ireturn, 42, 0, 0, 0, 0)]
def pg_245 : List En := sg_245_0 ++ sg_245_23 ++ sg_245_26
/-! 246 LeastFailingModel.seed -/
def sg_246_0 : List En := [(0, .aload_n 0, 1, 0, 0, 0, 0), (1, .iconst 0, 2, 0, 0, 0, 0), (2, .putfield 136, 5, 12, 0, 0, 0), (5, .iload_n 1, 6, 1, 0, 0, 0), (6, .ifCond .ge 6, 9, 12, 0, 0, 0), (9, .bipush (-2), 11, 0, 0, 0, 0), (11, .ireturn, 12, 0, 0, 0, 0)]
def sg_246_12 : List En := [(12, .aload_n 0, 13, 0, 0, 0, 0), (13, .iload_n 1, 14, 1, 0, 0, 0), (14, .i2l, 15, 0, 0, 0, 0), (15, .putfield 95, 18, 12, 1, 47, 0), (18, .aload_n 0, 19, 0, 0, 0, 0), (19, .invokevirtual 292, 22, 209, 1, 0, 12), (22, .iconst 1, 23, 0, 0, 0, 0), (23, .ireturn, 24, 0, 0, 0, 0)]
def pg_246 : List En := sg_246_0 ++ sg_246_12
/-! 247 LeastFailingModel.ways -/
def sg_247_0 : List En := [(0, .lconst 1, 1, 0, 0, 1, 0), (1, .lstore_n 3, 2, 3, 0, 0, 0), (2, .iconst 0, 3, 0, 0, 0, 0), (3, .istore 5, 5, 5, 0, 0, 0)]
def sg_247_5 : List En := [(5, .iload 5, 7, 5, 0, 0, 0), (7, .iload_n 2, 8, 2, 0, 0, 0), (8, .if_icmp .ge 23, 11, 31, 0, 0, 0), (11, .lload_n 3, 12, 3, 0, 0, 0), (12, .iload_n 1, 13, 1, 0, 0, 0), (13, .iload 5, 15, 5, 0, 0, 0), (15, .isub, 16, 0, 0, 0, 0), (16, .i2l, 17, 0, 0, 0, 0), (17, .lmul, 18, 0, 0, 0, 0), (18, .iload 5, 20, 5, 0, 0, 0), (20, .iconst 1, 21, 0, 0, 0, 0), (21, .iadd, 22, 0, 0, 0, 0), (22, .i2l, 23, 0, 0, 0, 0), (23, .ldiv, 24, 0, 0, 0, 0), (24, .lstore_n 3, 25, 3, 0, 0, 0), (25, .iinc 5 1, 28, 5, 0, 1, 0), (28, .goto (-23), 31, 5, 0, 0, 0)]
def sg_247_31 : List En := [(31, .iconst 0, 32, 0, 0, 0, 0), (32, .istore 5, 34, 5, 0, 0, 0)]
def sg_247_34 : List En := [(34, .iload 5, 36, 5, 0, 0, 0), (36, .iload_n 1, 37, 1, 0, 0, 0), (37, .if_icmp .ge 28, 40, 65, 0, 0, 0), (40, .lload_n 3, 41, 3, 0, 0, 0), (41, .iload 5, 43, 5, 0, 0, 0), (43, .iload_n 2, 44, 2, 0, 0, 0), (44, .if_icmp .ge 8, 47, 52, 0, 0, 0), (47, .iload_n 0, 48, 0, 0, 0, 0), (48, .i2l, 49, 0, 0, 0, 0), (49, .goto 8, 52, 57, 0, 0, 0)]
def sg_247_52 : List En := [(52, .bipush 100, 54, 0, 0, 0, 0), (54, .iload_n 0, 55, 0, 0, 0, 0), (55, .isub, 56, 0, 0, 0, 0), (56, .i2l, 57, 0, 0, 0, 0)]
def sg_247_57 : List En := [(57, .lmul, 58, 0, 0, 0, 0), (58, .lstore_n 3, 59, 3, 0, 0, 0), (59, .iinc 5 1, 62, 5, 0, 1, 0), (62, .goto (-28), 65, 34, 0, 0, 0)]
def sg_247_65 : List En := [(65, .lload_n 3, 66, 3, 0, 0, 0), (66, .lreturn, 67, 0, 0, 0, 0)]
def pg_247 : List En := sg_247_0 ++ sg_247_5 ++ sg_247_31 ++ sg_247_34 ++ sg_247_52 ++ sg_247_57 ++ sg_247_65
/-! 248 LeastFailingModel.sureOf -/
def sg_248_0 : List En := [(0, .lconst 0, 1, 0, 0, 0, 0), (1, .lstore_n 2, 2, 2, 0, 0, 0), (2, .iload_n 1, 3, 1, 0, 0, 0), (3, .iconst 2, 4, 0, 0, 0, 0), (4, .idiv, 5, 0, 0, 0, 0), (5, .iconst 1, 6, 0, 0, 0, 0), (6, .iadd, 7, 0, 0, 0, 0), (7, .istore 4, 9, 4, 0, 0, 0)]
def sg_248_9 : List En := [(9, .iload 4, 11, 4, 0, 0, 0), (11, .iload_n 1, 12, 1, 0, 0, 0), (12, .if_icmp .gt 19, 15, 31, 0, 0, 0), (15, .lload_n 2, 16, 2, 0, 0, 0), (16, .iload_n 0, 17, 0, 0, 0, 0), (17, .iload_n 1, 18, 1, 0, 0, 0), (18, .iload 4, 20, 4, 0, 0, 0), (20, .invokestatic 559, 23, 247, 3, 2, 0), (23, .ladd, 24, 0, 0, 0, 0), (24, .lstore_n 2, 25, 2, 0, 0, 0), (25, .iinc 4 1, 28, 4, 0, 1, 0), (28, .goto (-19), 31, 9, 0, 0, 0)]
def sg_248_31 : List En := [(31, .iload_n 1, 32, 1, 0, 0, 0), (32, .iconst 1, 33, 0, 0, 0, 0), (33, .if_icmp .ne 10, 36, 43, 0, 0, 0), (36, .lload_n 2, 37, 2, 0, 0, 0), (37, .ldc2_w 563, 40, 0, 0, 10000, 0), (40, .lmul, 41, 0, 0, 0, 0), (41, .l2i, 42, 0, 0, 0, 0), (42, .ireturn, 43, 0, 0, 0, 0)]
def sg_248_43 : List En := [(43, .iconst 3, 44, 0, 0, 0, 0), (44, .istore 4, 46, 4, 0, 0, 0)]
def sg_248_46 : List En := [(46, .iload 4, 48, 4, 0, 0, 0), (48, .iload_n 1, 49, 1, 0, 0, 0), (49, .if_icmp .ge 15, 52, 64, 0, 0, 0), (52, .lload_n 2, 53, 2, 0, 0, 0), (53, .ldc2_w 376, 56, 0, 0, 100, 0), (56, .ldiv, 57, 0, 0, 0, 0), (57, .lstore_n 2, 58, 2, 0, 0, 0), (58, .iinc 4 1, 61, 4, 0, 1, 0), (61, .goto (-15), 64, 46, 0, 0, 0)]
def sg_248_64 : List En := [(64, .lload_n 2, 65, 2, 0, 0, 0), (65, .l2i, 66, 0, 0, 0, 0), (66, .ireturn, 67, 0, 0, 0, 0)]
def pg_248 : List En := sg_248_0 ++ sg_248_9 ++ sg_248_31 ++ sg_248_43 ++ sg_248_46 ++ sg_248_64
/-! 249 LeastFailingModel.sure -/
def sg_249_0 : List En := [(0, .aload_n 0, 1, 0, 0, 0, 0), (1, .iconst 0, 2, 0, 0, 0, 0), (2, .putfield 136, 5, 12, 0, 0, 0), (5, .iload_n 1, 6, 1, 0, 0, 0), (6, .i2l, 7, 0, 0, 0, 0), (7, .lconst 0, 8, 0, 0, 0, 0), (8, .ldc2_w 376, 11, 0, 0, 100, 0), (11, .invokestatic 146, 14, 137, 3, 1, 0), (14, .ifCond .eq 30, 17, 44, 0, 0, 0), (17, .iload_n 2, 18, 2, 0, 0, 0), (18, .i2l, 19, 0, 0, 0, 0), (19, .lconst 1, 20, 0, 0, 1, 0), (20, .ldc2_w 557, 23, 0, 0, 9, 0), (23, .invokestatic 146, 26, 137, 3, 1, 0), (26, .ifCond .eq 18, 29, 44, 0, 0, 0), (29, .iload_n 2, 30, 2, 0, 0, 0), (30, .iconst 2, 31, 0, 0, 0, 0), (31, .irem, 32, 0, 0, 0, 0), (32, .iconst 1, 33, 0, 0, 0, 0), (33, .if_icmp .ne 11, 36, 44, 0, 0, 0), (36, .iload_n 1, 37, 1, 0, 0, 0), (37, .iload_n 2, 38, 2, 0, 0, 0), (38, .invokestatic 565, 41, 248, 2, 1, 0), (41, .goto 5, 44, 46, 0, 0, 0)]
def sg_249_44 : List En := [(44, .bipush (-2), 46, 0, 0, 0, 0)]
def sg_249_46 : List En := [(46, .ireturn, 47, 0, 0, 0, 0)]
def pg_249 : List En := sg_249_0 ++ sg_249_44 ++ sg_249_46
/-! 250 LeastFailingModel.enough -/
def sg_250_0 : List En := [(0, .aload_n 0, 1, 0, 0, 0, 0), (1, .iconst 0, 2, 0, 0, 0, 0), (2, .putfield 136, 5, 12, 0, 0, 0), (5, .iload_n 1, 6, 1, 0, 0, 0), (6, .i2l, 7, 0, 0, 0, 0), (7, .lconst 0, 8, 0, 0, 0, 0), (8, .ldc2_w 376, 11, 0, 0, 100, 0), (11, .invokestatic 146, 14, 137, 3, 1, 0), (14, .ifCond .eq 15, 17, 29, 0, 0, 0), (17, .iload_n 2, 18, 2, 0, 0, 0), (18, .i2l, 19, 0, 0, 0, 0), (19, .lconst 0, 20, 0, 0, 0, 0), (20, .ldc2_w 568, 23, 0, 0, 1000000, 0), (23, .invokestatic 146, 26, 137, 3, 1, 0), (26, .ifCond .ne 6, 29, 32, 0, 0, 0)]
def sg_250_29 : List En := [(29, .bipush (-2), 31, 0, 0, 0, 0), (31, .ireturn, 32, 0, 0, 0, 0)]
def sg_250_32 : List En := [(32, .iconst 1, 33, 0, 0, 0, 0), (33, .istore_n 3, 34, 3, 0, 0, 0)]
def sg_250_34 : List En := [(34, .iload_n 3, 35, 3, 0, 0, 0), (35, .bipush 10, 37, 0, 0, 0, 0), (37, .if_icmp .ge 20, 40, 57, 0, 0, 0), (40, .iload_n 1, 41, 1, 0, 0, 0), (41, .iload_n 3, 42, 3, 0, 0, 0), (42, .invokestatic 565, 45, 248, 2, 1, 0), (45, .iload_n 2, 46, 2, 0, 0, 0), (46, .if_icmp .lt 5, 49, 51, 0, 0, 0), (49, .iload_n 3, 50, 3, 0, 0, 0), (50, .ireturn, 51, 0, 0, 0, 0)]
def sg_250_51 : List En := [(51, .iinc 3 2, 54, 3, 0, 2, 0), (54, .goto (-20), 57, 34, 0, 0, 0)]
def sg_250_57 : List En := [(57, .iconst (-1), 58, 0, 0, 0, 0), (58, .ireturn, 59, 0, 0, 0, 0)]
def pg_250 : List En := sg_250_0 ++ sg_250_29 ++ sg_250_32 ++ sg_250_34 ++ sg_250_51 ++ sg_250_57
/-! 251 LeastFailingModel.run -/
def sg_251_0 : List En := [(0, .aload_n 0, 1, 0, 0, 0, 0), (1, .iconst 0, 2, 0, 0, 0, 0), (2, .putfield 136, 5, 12, 0, 0, 0), (5, .iload_n 1, 6, 1, 0, 0, 0), (6, .ifCond .lt 11, 9, 17, 0, 0, 0), (9, .aload_n 0, 10, 0, 0, 0, 0), (10, .iconst 0, 11, 0, 0, 0, 0), (11, .invokevirtual 307, 14, 174, 2, 1, 12), (14, .ifCond .ne 5, 17, 19, 0, 0, 0)]
def sg_251_17 : List En := [(17, .iconst (-1), 18, 0, 0, 0, 0), (18, .ireturn, 19, 0, 0, 0, 0)]
def sg_251_19 : List En := [(19, .aload_n 0, 20, 0, 0, 0, 0), (20, .getfield 95, 23, 12, 1, 47, 0), (23, .lstore_n 2, 24, 2, 0, 0, 0), (24, .aload_n 0, 25, 0, 0, 0, 0), (25, .iload_n 1, 26, 1, 0, 0, 0), (26, .i2l, 27, 0, 0, 0, 0), (27, .putfield 95, 30, 12, 1, 47, 0), (30, .aload_n 0, 31, 0, 0, 0, 0), (31, .aload_n 0, 32, 0, 0, 0, 0), (32, .iconst 0, 33, 0, 0, 0, 0), (33, .invokevirtual 428, 36, 206, 2, 1, 12), (36, .invokevirtual 431, 39, 208, 2, 1, 12), (39, .istore 4, 41, 4, 0, 0, 0), (41, .aload_n 0, 42, 0, 0, 0, 0), (42, .lload_n 2, 43, 2, 0, 0, 0), (43, .putfield 95, 46, 12, 1, 47, 0), (46, .iload 4, 48, 4, 0, 0, 0), (48, .ireturn, 49, 0, 0, 0, 0)]
def pg_251 : List En := sg_251_0 ++ sg_251_17 ++ sg_251_19
/-! 252 LeastFailingModel.often -/
def sg_252_0 : List En := [(0, .aload_n 0, 1, 0, 0, 0, 0), (1, .iconst 0, 2, 0, 0, 0, 0), (2, .putfield 136, 5, 12, 0, 0, 0), (5, .iload_n 1, 6, 1, 0, 0, 0), (6, .i2l, 7, 0, 0, 0, 0), (7, .ldc2_w 555, 10, 0, 0, -1, 0), (10, .aload_n 0, 11, 0, 0, 0, 0), (11, .getfield 286, 14, 12, 0, 37, 0), (14, .iconst 1, 15, 0, 0, 0, 0), (15, .isub, 16, 0, 0, 0, 0), (16, .i2l, 17, 0, 0, 0, 0), (17, .invokestatic 146, 20, 137, 3, 1, 0), (20, .ifCond .eq 19, 23, 39, 0, 0, 0), (23, .iload_n 2, 24, 2, 0, 0, 0), (24, .ifCond .lt 15, 27, 39, 0, 0, 0), (27, .iload_n 3, 28, 3, 0, 0, 0), (28, .i2l, 29, 0, 0, 0, 0), (29, .lconst 1, 30, 0, 0, 1, 0), (30, .ldc2_w 570, 33, 0, 0, 1000, 0), (33, .invokestatic 146, 36, 137, 3, 1, 0), (36, .ifCond .ne 6, 39, 42, 0, 0, 0)]
def sg_252_39 : List En := [(39, .bipush (-2), 41, 0, 0, 0, 0), (41, .ireturn, 42, 0, 0, 0, 0)]
def sg_252_42 : List En := [(42, .aload_n 0, 43, 0, 0, 0, 0), (43, .iconst 0, 44, 0, 0, 0, 0), (44, .invokevirtual 307, 47, 174, 2, 1, 12), (47, .ifCond .ne 6, 50, 53, 0, 0, 0), (50, .bipush (-3), 52, 0, 0, 0, 0), (52, .ireturn, 53, 0, 0, 0, 0)]
def sg_252_53 : List En := [(53, .aload_n 0, 54, 0, 0, 0, 0), (54, .getfield 95, 57, 12, 1, 47, 0), (57, .lstore 4, 59, 4, 0, 0, 0), (59, .aload_n 0, 60, 0, 0, 0, 0), (60, .iload_n 2, 61, 2, 0, 0, 0), (61, .i2l, 62, 0, 0, 0, 0), (62, .putfield 95, 65, 12, 1, 47, 0), (65, .aload_n 0, 66, 0, 0, 0, 0), (66, .iconst 0, 67, 0, 0, 0, 0), (67, .invokevirtual 428, 70, 206, 2, 1, 12), (70, .istore 6, 72, 6, 0, 0, 0), (72, .iconst 0, 73, 0, 0, 0, 0), (73, .istore 7, 75, 7, 0, 0, 0), (75, .iconst 0, 76, 0, 0, 0, 0), (76, .istore 8, 78, 8, 0, 0, 0)]
def sg_252_78 : List En := [(78, .iload 8, 80, 8, 0, 0, 0), (80, .iload_n 3, 81, 3, 0, 0, 0), (81, .if_icmp .ge 32, 84, 113, 0, 0, 0), (84, .iload 7, 86, 7, 0, 0, 0), (86, .aload_n 0, 87, 0, 0, 0, 0), (87, .iload 6, 89, 6, 0, 0, 0), (89, .invokevirtual 431, 92, 208, 2, 1, 12), (92, .iload_n 1, 93, 1, 0, 0, 0), (93, .if_icmp .ne 7, 96, 100, 0, 0, 0), (96, .iconst 1, 97, 0, 0, 0, 0), (97, .goto 4, 100, 101, 0, 0, 0)]
def sg_252_100 : List En := [(100, .iconst 0, 101, 0, 0, 0, 0)]
def sg_252_101 : List En := [(101, .invokestatic 256, 104, 138, 1, 1, 0), (104, .iadd, 105, 0, 0, 0, 0), (105, .istore 7, 107, 7, 0, 0, 0), (107, .iinc 8 1, 110, 8, 0, 1, 0), (110, .goto (-32), 113, 78, 0, 0, 0)]
def sg_252_113 : List En := [(113, .aload_n 0, 114, 0, 0, 0, 0), (114, .lload 4, 116, 4, 0, 0, 0), (116, .putfield 95, 119, 12, 1, 47, 0), (119, .iload 7, 121, 7, 0, 0, 0), (121, .ireturn, 122, 0, 0, 0, 0)]
def pg_252 : List En := sg_252_0 ++ sg_252_39 ++ sg_252_42 ++ sg_252_53 ++ sg_252_78 ++ sg_252_100 ++ sg_252_101 ++ sg_252_113
/-! 253 LeastFailingModel.verdict -/
def sg_253_0 : List En := [(0, .aload_n 0, 1, 0, 0, 0, 0), (1, .iconst 0, 2, 0, 0, 0, 0), (2, .putfield 136, 5, 12, 0, 0, 0), (5, .aload_n 0, 6, 0, 0, 0, 0), (6, .iconst 0, 7, 0, 0, 0, 0), (7, .invokevirtual 307, 10, 174, 2, 1, 12), (10, .ifCond .ne 7, 13, 17, 0, 0, 0), (13, .iconst (-1), 14, 0, 0, 0, 0), (14, .goto 10, 17, 24, 0, 0, 0)]
def sg_253_17 : List En := [(17, .aload_n 0, 18, 0, 0, 0, 0), (18, .iconst 0, 19, 0, 0, 0, 0), (19, .iconst 0, 20, 0, 0, 0, 0), (20, .iconst (-1), 21, 0, 0, 0, 0), (21, .invokevirtual 500, 24, 213, 4, 1, 12)]
def sg_253_24 : List En := [(24, .ireturn, 25, 0, 0, 0, 0)]
def pg_253 : List En := sg_253_0 ++ sg_253_17 ++ sg_253_24
/-! 254 LeastFailingModel.count -/
def sg_254_0 : List En := [(0, .aload_n 0, 1, 0, 0, 0, 0), (1, .iconst 0, 2, 0, 0, 0, 0), (2, .putfield 136, 5, 12, 0, 0, 0), (5, .iload_n 1, 6, 1, 0, 0, 0), (6, .tableswitch 145 0 11 #[62, 71, 80, 86, 91, 96, 101, 106, 111, 116, 122, 127], 68, 0, 0, 0, 0)]
def sg_254_68 : List En := [(68, .aload_n 0, 69, 0, 0, 0, 0), (69, .getfield 17, 72, 12, 6, 14, 0), (72, .sipush 192, 75, 0, 0, 0, 0), (75, .iaload, 76, 0, 0, 0, 0), (76, .ireturn, 77, 0, 0, 0, 0)]
def sg_254_77 : List En := [(77, .aload_n 0, 78, 0, 0, 0, 0), (78, .getfield 17, 81, 12, 6, 14, 0), (81, .sipush 193, 84, 0, 0, 0, 0), (84, .iaload, 85, 0, 0, 0, 0), (85, .ireturn, 86, 0, 0, 0, 0)]
def sg_254_86 : List En := [(86, .aload_n 0, 87, 0, 0, 0, 0), (87, .iconst 0, 88, 0, 0, 0, 0), (88, .invokevirtual 307, 91, 174, 2, 1, 12), (91, .ireturn, 92, 0, 0, 0, 0)]
def sg_254_92 : List En := [(92, .aload_n 0, 93, 0, 0, 0, 0), (93, .getfield 286, 96, 12, 0, 37, 0), (96, .ireturn, 97, 0, 0, 0, 0)]
def sg_254_97 : List En := [(97, .aload_n 0, 98, 0, 0, 0, 0), (98, .getfield 99, 101, 12, 0, 48, 0), (101, .ireturn, 102, 0, 0, 0, 0)]
def sg_254_102 : List En := [(102, .aload_n 0, 103, 0, 0, 0, 0), (103, .getfield 422, 106, 12, 0, 57, 0), (106, .ireturn, 107, 0, 0, 0, 0)]
def sg_254_107 : List En := [(107, .aload_n 0, 108, 0, 0, 0, 0), (108, .getfield 440, 111, 12, 0, 49, 0), (111, .ireturn, 112, 0, 0, 0, 0)]
def sg_254_112 : List En := [(112, .aload_n 0, 113, 0, 0, 0, 0), (113, .getfield 434, 116, 12, 0, 50, 0), (116, .ireturn, 117, 0, 0, 0, 0)]
def sg_254_117 : List En := [(117, .aload_n 0, 118, 0, 0, 0, 0), (118, .getfield 443, 121, 12, 0, 51, 0), (121, .ireturn, 122, 0, 0, 0, 0)]
def sg_254_122 : List En := [(122, .aload_n 0, 123, 0, 0, 0, 0), (123, .getfield 95, 126, 12, 1, 47, 0), (126, .l2i, 127, 0, 0, 0, 0), (127, .ireturn, 128, 0, 0, 0, 0)]
def sg_254_128 : List En := [(128, .aload_n 0, 129, 0, 0, 0, 0), (129, .getfield 289, 132, 12, 0, 24, 0), (132, .ireturn, 133, 0, 0, 0, 0)]
def sg_254_133 : List En := [(133, .aload_n 0, 134, 0, 0, 0, 0), (134, .iconst 0, 135, 0, 0, 0, 0), (135, .invokevirtual 307, 138, 174, 2, 1, 12), (138, .ifCond .ne 7, 141, 145, 0, 0, 0), (141, .iconst (-1), 142, 0, 0, 0, 0), (142, .goto 8, 145, 150, 0, 0, 0)]
def sg_254_145 : List En := [(145, .aload_n 0, 146, 0, 0, 0, 0), (146, .iconst 0, 147, 0, 0, 0, 0), (147, .invokevirtual 387, 150, 199, 2, 1, 12)]
def sg_254_150 : List En := [(150, .ireturn, 151, 0, 0, 0, 0)]
def sg_254_151 : List En := [(151, .iconst (-1), 152, 0, 0, 0, 0), (152, .ireturn, 153, 0, 0, 0, 0)]
def pg_254 : List En := sg_254_0 ++ sg_254_68 ++ sg_254_77 ++ sg_254_86 ++ sg_254_92 ++ sg_254_97 ++ sg_254_102 ++ sg_254_107 ++ sg_254_112 ++ sg_254_117 ++ sg_254_122 ++ sg_254_128 ++ sg_254_133 ++ sg_254_145 ++ sg_254_150 ++ sg_254_151
/-! 255 LeastFailingModel.letter -/
def sg_255_0 : List En := [(0, .aload_n 0, 1, 0, 0, 0, 0), (1, .iconst 0, 2, 0, 0, 0, 0), (2, .putfield 136, 5, 12, 0, 0, 0), (5, .iload_n 1, 6, 1, 0, 0, 0), (6, .ifCond .ne 14, 9, 20, 0, 0, 0), (9, .aload_n 0, 10, 0, 0, 0, 0), (10, .getfield 17, 13, 12, 6, 14, 0), (13, .sipush 192, 16, 0, 0, 0, 0), (16, .iaload, 17, 0, 0, 0, 0), (17, .goto 32, 20, 49, 0, 0, 0)]
def sg_255_20 : List En := [(20, .iload_n 1, 21, 1, 0, 0, 0), (21, .iconst 1, 22, 0, 0, 0, 0), (22, .if_icmp .ne 14, 25, 36, 0, 0, 0), (25, .aload_n 0, 26, 0, 0, 0, 0), (26, .getfield 17, 29, 12, 6, 14, 0), (29, .sipush 193, 32, 0, 0, 0, 0), (32, .iaload, 33, 0, 0, 0, 0), (33, .goto 16, 36, 49, 0, 0, 0)]
def sg_255_36 : List En := [(36, .iload_n 1, 37, 1, 0, 0, 0), (37, .iconst 2, 38, 0, 0, 0, 0), (38, .if_icmp .ne 10, 41, 48, 0, 0, 0), (41, .aload_n 0, 42, 0, 0, 0, 0), (42, .getfield 286, 45, 12, 0, 37, 0), (45, .goto 4, 48, 49, 0, 0, 0)]
def sg_255_48 : List En := [(48, .iconst 0, 49, 0, 0, 0, 0)]
def sg_255_49 : List En := [(49, .istore 4, 51, 4, 0, 0, 0), (51, .iload_n 2, 52, 2, 0, 0, 0), (52, .i2l, 53, 0, 0, 0, 0), (53, .lconst 0, 54, 0, 0, 0, 0), (54, .iload 4, 56, 4, 0, 0, 0), (56, .iconst 1, 57, 0, 0, 0, 0), (57, .isub, 58, 0, 0, 0, 0), (58, .i2l, 59, 0, 0, 0, 0), (59, .invokestatic 146, 62, 137, 3, 1, 0), (62, .ifCond .eq 15, 65, 77, 0, 0, 0), (65, .iload_n 3, 66, 3, 0, 0, 0), (66, .i2l, 67, 0, 0, 0, 0), (67, .lconst 0, 68, 0, 0, 0, 0), (68, .ldc2_w 572, 71, 0, 0, 5, 0), (71, .invokestatic 146, 74, 137, 3, 1, 0), (74, .ifCond .ne 5, 77, 79, 0, 0, 0)]
def sg_255_77 : List En := [(77, .iconst (-1), 78, 0, 0, 0, 0), (78, .ireturn, 79, 0, 0, 0, 0)]
def sg_255_79 : List En := [(79, .iload_n 1, 80, 1, 0, 0, 0), (80, .ifCond .ne 12, 83, 92, 0, 0, 0), (83, .aload_n 0, 84, 0, 0, 0, 0), (84, .getfield 21, 87, 12, 8, 15, 0), (87, .iload_n 2, 88, 2, 0, 0, 0), (88, .laload, 89, 0, 0, 0, 0), (89, .goto 23, 92, 112, 0, 0, 0)]
def sg_255_92 : List En := [(92, .iload_n 1, 93, 1, 0, 0, 0), (93, .iconst 1, 94, 0, 0, 0, 0), (94, .if_icmp .ne 12, 97, 106, 0, 0, 0), (97, .aload_n 0, 98, 0, 0, 0, 0), (98, .getfield 25, 101, 12, 10, 16, 0), (101, .iload_n 2, 102, 2, 0, 0, 0), (102, .laload, 103, 0, 0, 0, 0), (103, .goto 9, 106, 112, 0, 0, 0)]
def sg_255_106 : List En := [(106, .aload_n 0, 107, 0, 0, 0, 0), (107, .getfield 73, 110, 12, 42, 35, 0), (110, .iload_n 2, 111, 2, 0, 0, 0), (111, .laload, 112, 0, 0, 0, 0)]
def sg_255_112 : List En := [(112, .lstore 5, 114, 5, 0, 0, 0), (114, .lload 5, 116, 5, 0, 0, 0), (116, .iconst 5, 117, 0, 0, 0, 0), (117, .iconst 5, 118, 0, 0, 0, 0), (118, .iload_n 3, 119, 3, 0, 0, 0), (119, .isub, 120, 0, 0, 0, 0), (120, .imul, 121, 0, 0, 0, 0), (121, .lshr, 122, 0, 0, 0, 0), (122, .ldc2_w 574, 125, 0, 0, 31, 0), (125, .land, 126, 0, 0, 0, 0), (126, .l2i, 127, 0, 0, 0, 0), (127, .ireturn, 128, 0, 0, 0, 0)]
def pg_255 : List En := sg_255_0 ++ sg_255_20 ++ sg_255_36 ++ sg_255_48 ++ sg_255_49 ++ sg_255_77 ++ sg_255_79 ++ sg_255_92 ++ sg_255_106 ++ sg_255_112
/-! 256 LeastFailingModel.isLine -/
def sg_256_0 : List En := [(0, .iload_n 1, 1, 1, 0, 0, 0), (1, .i2l, 2, 0, 0, 0, 0), (2, .lconst 0, 3, 0, 0, 0, 0), (3, .aload_n 0, 4, 0, 0, 0, 0), (4, .getfield 17, 7, 12, 6, 14, 0), (7, .sipush 192, 10, 0, 0, 0, 0), (10, .iaload, 11, 0, 0, 0, 0), (11, .iconst 1, 12, 0, 0, 0, 0), (12, .isub, 13, 0, 0, 0, 0), (13, .i2l, 14, 0, 0, 0, 0), (14, .invokestatic 146, 17, 137, 3, 1, 0), (17, .ireturn, 18, 0, 0, 0, 1)]
def pg_256 : List En := sg_256_0
/-! 257 LeastFailingModel.line -/
def sg_257_0 : List En := [(0, .aload_n 0, 1, 0, 0, 0, 0), (1, .iconst 0, 2, 0, 0, 0, 0), (2, .putfield 136, 5, 12, 0, 0, 0), (5, .aload_n 0, 6, 0, 0, 0, 0), (6, .iload_n 1, 7, 1, 0, 0, 0), (7, .invokevirtual 576, 10, 256, 2, 1, 12), (10, .ifCond .ne 5, 13, 15, 0, 0, 0), (13, .iconst (-1), 14, 0, 0, 0, 0), (14, .ireturn, 15, 0, 0, 0, 0)]
def sg_257_15 : List En := [(15, .iload_n 2, 16, 2, 0, 0, 0), (16, .tableswitch 60 0 3 #[32, 39, 46, 53], 48, 0, 0, 0, 0)]
def sg_257_48 : List En := [(48, .aload_n 0, 49, 0, 0, 0, 0), (49, .iload_n 1, 50, 1, 0, 0, 0), (50, .iconst 1, 51, 0, 0, 0, 0), (51, .invokevirtual 282, 54, 170, 3, 1, 12), (54, .ireturn, 55, 0, 0, 0, 0)]
def sg_257_55 : List En := [(55, .aload_n 0, 56, 0, 0, 0, 0), (56, .iload_n 1, 57, 1, 0, 0, 0), (57, .iconst 0, 58, 0, 0, 0, 0), (58, .invokevirtual 282, 61, 170, 3, 1, 12), (61, .ireturn, 62, 0, 0, 0, 0)]
def sg_257_62 : List En := [(62, .aload_n 0, 63, 0, 0, 0, 0), (63, .iload_n 1, 64, 1, 0, 0, 0), (64, .iconst 2, 65, 0, 0, 0, 0), (65, .invokevirtual 282, 68, 170, 3, 1, 12), (68, .ireturn, 69, 0, 0, 0, 0)]
def sg_257_69 : List En := [(69, .aload_n 0, 70, 0, 0, 0, 0), (70, .iload_n 1, 71, 1, 0, 0, 0), (71, .iconst 3, 72, 0, 0, 0, 0), (72, .invokevirtual 282, 75, 170, 3, 1, 12), (75, .ireturn, 76, 0, 0, 0, 0)]
def sg_257_76 : List En := [(76, .iload_n 2, 77, 2, 0, 0, 0), (77, .i2l, 78, 0, 0, 0, 0), (78, .ldc2_w 579, 81, 0, 0, 10, 0), (81, .bipush 9, 83, 0, 0, 0, 0), (83, .aload_n 0, 84, 0, 0, 0, 0), (84, .iload_n 1, 85, 1, 0, 0, 0), (85, .iconst 2, 86, 0, 0, 0, 0), (86, .invokevirtual 282, 89, 170, 3, 1, 12), (89, .iadd, 90, 0, 0, 0, 0), (90, .i2l, 91, 0, 0, 0, 0), (91, .invokestatic 146, 94, 137, 3, 1, 0), (94, .ifCond .eq 17, 97, 111, 0, 0, 0), (97, .aload_n 0, 98, 0, 0, 0, 0), (98, .iload_n 1, 99, 1, 0, 0, 0), (99, .iconst 4, 100, 0, 0, 0, 0), (100, .iload_n 2, 101, 2, 0, 0, 0), (101, .iadd, 102, 0, 0, 0, 0), (102, .bipush 10, 104, 0, 0, 0, 0), (104, .isub, 105, 0, 0, 0, 0), (105, .invokevirtual 282, 108, 170, 3, 1, 12), (108, .goto 4, 111, 112, 0, 0, 0)]
def sg_257_111 : List En := [(111, .iconst (-1), 112, 0, 0, 0, 0)]
def sg_257_112 : List En := [(112, .ireturn, 113, 0, 0, 0, 0)]
def pg_257 : List En := sg_257_0 ++ sg_257_15 ++ sg_257_48 ++ sg_257_55 ++ sg_257_62 ++ sg_257_69 ++ sg_257_76 ++ sg_257_111 ++ sg_257_112
/-! 258 LeastFailingModel.least -/
def sg_258_0 : List En := [(0, .aload_n 0, 1, 0, 0, 0, 0), (1, .iconst 0, 2, 0, 0, 0, 0), (2, .putfield 136, 5, 12, 0, 0, 0), (5, .iload_n 1, 6, 1, 0, 0, 0), (6, .i2l, 7, 0, 0, 0, 0), (7, .lconst 0, 8, 0, 0, 0, 0), (8, .aload_n 0, 9, 0, 0, 0, 0), (9, .getfield 17, 12, 12, 6, 14, 0), (12, .sipush 193, 15, 0, 0, 0, 0), (15, .iaload, 16, 0, 0, 0, 0), (16, .iconst 1, 17, 0, 0, 0, 0), (17, .isub, 18, 0, 0, 0, 0), (18, .i2l, 19, 0, 0, 0, 0), (19, .invokestatic 146, 22, 137, 3, 1, 0), (22, .ifCond .ne 5, 25, 27, 0, 0, 0), (25, .iconst (-1), 26, 0, 0, 0, 0), (26, .ireturn, 27, 0, 0, 0, 0)]
def sg_258_27 : List En := [(27, .iload_n 2, 28, 2, 0, 0, 0), (28, .iconst (-1), 29, 0, 0, 0, 0), (29, .if_icmp .ne 12, 32, 41, 0, 0, 0), (32, .aload_n 0, 33, 0, 0, 0, 0), (33, .getfield 37, 36, 12, 18, 20, 0), (36, .iload_n 1, 37, 1, 0, 0, 0), (37, .iaload, 38, 0, 0, 0, 0), (38, .goto 31, 41, 69, 0, 0, 0)]
def sg_258_41 : List En := [(41, .iload_n 2, 42, 2, 0, 0, 0), (42, .i2l, 43, 0, 0, 0, 0), (43, .lconst 0, 44, 0, 0, 0, 0), (44, .aload_n 0, 45, 0, 0, 0, 0), (45, .getfield 37, 48, 12, 18, 20, 0), (48, .iload_n 1, 49, 1, 0, 0, 0), (49, .iaload, 50, 0, 0, 0, 0), (50, .iconst 1, 51, 0, 0, 0, 0), (51, .isub, 52, 0, 0, 0, 0), (52, .i2l, 53, 0, 0, 0, 0), (53, .invokestatic 146, 56, 137, 3, 1, 0), (56, .ifCond .eq 12, 59, 68, 0, 0, 0), (59, .aload_n 0, 60, 0, 0, 0, 0), (60, .iload_n 1, 61, 1, 0, 0, 0), (61, .iload_n 2, 62, 2, 0, 0, 0), (62, .invokevirtual 449, 65, 198, 3, 1, 12), (65, .goto 4, 68, 69, 0, 0, 0)]
def sg_258_68 : List En := [(68, .iconst (-1), 69, 0, 0, 0, 0)]
def sg_258_69 : List En := [(69, .ireturn, 70, 0, 0, 0, 0)]
def pg_258 : List En := sg_258_0 ++ sg_258_27 ++ sg_258_41 ++ sg_258_68 ++ sg_258_69
/-! 259 LeastFailingModel.partsOf -/
def sg_259_0 : List En := [(0, .iconst 0, 1, 0, 0, 0, 0), (1, .istore_n 2, 2, 2, 0, 0, 0), (2, .iload_n 1, 3, 1, 0, 0, 0), (3, .iconst 1, 4, 0, 0, 0, 0), (4, .iadd, 5, 0, 0, 0, 0), (5, .istore_n 3, 6, 3, 0, 0, 0)]
def sg_259_6 : List En := [(6, .iload_n 3, 7, 3, 0, 0, 0), (7, .iload_n 1, 8, 1, 0, 0, 0), (8, .aload_n 0, 9, 0, 0, 0, 0), (9, .iconst 0, 10, 0, 0, 0, 0), (10, .iload_n 1, 11, 1, 0, 0, 0), (11, .invokevirtual 384, 14, 176, 3, 1, 12), (14, .iadd, 15, 0, 0, 0, 0), (15, .if_icmp .ge 18, 18, 33, 0, 0, 0), (18, .iinc 2 1, 21, 2, 0, 1, 0), (21, .iload_n 3, 22, 3, 0, 0, 0), (22, .aload_n 0, 23, 0, 0, 0, 0), (23, .iconst 0, 24, 0, 0, 0, 0), (24, .iload_n 3, 25, 3, 0, 0, 0), (25, .invokevirtual 384, 28, 176, 3, 1, 12), (28, .iadd, 29, 0, 0, 0, 0), (29, .istore_n 3, 30, 3, 0, 0, 0), (30, .goto (-24), 33, 6, 0, 0, 0)]
def sg_259_33 : List En := [(33, .iload_n 2, 34, 2, 0, 0, 0), (34, .ireturn, 35, 0, 0, 0, 0)]
def pg_259 : List En := sg_259_0 ++ sg_259_6 ++ sg_259_33
/-! 260 LeastFailingModel.node -/
def sg_260_0 : List En := [(0, .aload_n 0, 1, 0, 0, 0, 0), (1, .iconst 0, 2, 0, 0, 0, 0), (2, .putfield 136, 5, 12, 0, 0, 0), (5, .iload_n 1, 6, 1, 0, 0, 0), (6, .i2l, 7, 0, 0, 0, 0), (7, .lconst 0, 8, 0, 0, 0, 0), (8, .aload_n 0, 9, 0, 0, 0, 0), (9, .iconst 0, 10, 0, 0, 0, 0), (10, .invokevirtual 307, 13, 174, 2, 1, 12), (13, .iconst 1, 14, 0, 0, 0, 0), (14, .isub, 15, 0, 0, 0, 0), (15, .i2l, 16, 0, 0, 0, 0), (16, .invokestatic 146, 19, 137, 3, 1, 0), (19, .ifCond .ne 6, 22, 25, 0, 0, 0), (22, .bipush (-2), 24, 0, 0, 0, 0), (24, .ireturn, 25, 0, 0, 0, 0)]
def sg_260_25 : List En := [(25, .aload_n 0, 26, 0, 0, 0, 0), (26, .iconst 0, 27, 0, 0, 0, 0), (27, .invokevirtual 479, 30, 196, 2, 0, 12), (30, .iload_n 2, 31, 2, 0, 0, 0), (31, .tableswitch 103 0 7 #[45, 52, 59, 66, 73, 79, 86, 93], 76, 0, 0, 0, 0)]
def sg_260_76 : List En := [(76, .aload_n 0, 77, 0, 0, 0, 0), (77, .iconst 0, 78, 0, 0, 0, 0), (78, .iload_n 1, 79, 1, 0, 0, 0), (79, .invokevirtual 301, 82, 175, 3, 1, 12), (82, .ireturn, 83, 0, 0, 0, 0)]
def sg_260_83 : List En := [(83, .aload_n 0, 84, 0, 0, 0, 0), (84, .iconst 0, 85, 0, 0, 0, 0), (85, .iload_n 1, 86, 1, 0, 0, 0), (86, .invokevirtual 452, 89, 197, 3, 1, 12), (89, .ireturn, 90, 0, 0, 0, 0)]
def sg_260_90 : List En := [(90, .aload_n 0, 91, 0, 0, 0, 0), (91, .getfield 85, 94, 12, 50, 43, 0), (94, .iload_n 1, 95, 1, 0, 0, 0), (95, .iaload, 96, 0, 0, 0, 0), (96, .ireturn, 97, 0, 0, 0, 0)]
def sg_260_97 : List En := [(97, .aload_n 0, 98, 0, 0, 0, 0), (98, .iconst 0, 99, 0, 0, 0, 0), (99, .iload_n 1, 100, 1, 0, 0, 0), (100, .invokevirtual 384, 103, 176, 3, 1, 12), (103, .ireturn, 104, 0, 0, 0, 0)]
def sg_260_104 : List En := [(104, .aload_n 0, 105, 0, 0, 0, 0), (105, .iload_n 1, 106, 1, 0, 0, 0), (106, .invokevirtual 581, 109, 259, 2, 1, 12), (109, .ireturn, 110, 0, 0, 0, 0)]
def sg_260_110 : List En := [(110, .aload_n 0, 111, 0, 0, 0, 0), (111, .getfield 82, 114, 12, 48, 42, 0), (114, .iload_n 1, 115, 1, 0, 0, 0), (115, .iaload, 116, 0, 0, 0, 0), (116, .ireturn, 117, 0, 0, 0, 0)]
def sg_260_117 : List En := [(117, .aload_n 0, 118, 0, 0, 0, 0), (118, .getfield 88, 121, 12, 52, 44, 0), (121, .iload_n 1, 122, 1, 0, 0, 0), (122, .iaload, 123, 0, 0, 0, 0), (123, .ireturn, 124, 0, 0, 0, 0)]
def sg_260_124 : List En := [(124, .aload_n 0, 125, 0, 0, 0, 0), (125, .getfield 91, 128, 12, 54, 45, 0), (128, .iload_n 1, 129, 1, 0, 0, 0), (129, .baload, 130, 0, 0, 0, 1), (130, .invokestatic 256, 133, 138, 1, 1, 0), (133, .ireturn, 134, 0, 0, 0, 0)]
def sg_260_134 : List En := [(134, .bipush (-2), 136, 0, 0, 0, 0), (136, .ireturn, 137, 0, 0, 0, 0)]
def pg_260 : List En := sg_260_0 ++ sg_260_25 ++ sg_260_76 ++ sg_260_83 ++ sg_260_90 ++ sg_260_97 ++ sg_260_104 ++ sg_260_110 ++ sg_260_117 ++ sg_260_124 ++ sg_260_134
/-! 261 LeastFailingModel.holding -/
def sg_261_0 : List En := [(0, .aload_n 0, 1, 0, 0, 0, 0), (1, .iconst 0, 2, 0, 0, 0, 0), (2, .putfield 136, 5, 12, 0, 0, 0), (5, .aload_n 0, 6, 0, 0, 0, 0), (6, .iconst 0, 7, 0, 0, 0, 0), (7, .invokevirtual 307, 10, 174, 2, 1, 12), (10, .ifCond .ne 7, 13, 17, 0, 0, 0), (13, .iconst (-1), 14, 0, 0, 0, 0), (14, .goto 8, 17, 22, 0, 0, 0)]
def sg_261_17 : List En := [(17, .aload_n 0, 18, 0, 0, 0, 0), (18, .iconst 0, 19, 0, 0, 0, 0), (19, .invokevirtual 428, 22, 206, 2, 1, 12)]
def sg_261_22 : List En := [(22, .ireturn, 23, 0, 0, 0, 0)]
def pg_261 : List En := sg_261_0 ++ sg_261_17 ++ sg_261_22
/-! 262 LeastFailingModel.counts -/
def sg_262_0 : List En := [(0, .aload_n 0, 1, 0, 0, 0, 0), (1, .iconst 0, 2, 0, 0, 0, 0), (2, .putfield 136, 5, 12, 0, 0, 0), (5, .aload_n 0, 6, 0, 0, 0, 0), (6, .iconst 0, 7, 0, 0, 0, 0), (7, .invokevirtual 307, 10, 174, 2, 1, 12), (10, .ifCond .eq 41, 13, 51, 0, 0, 0), (13, .iload_n 1, 14, 1, 0, 0, 0), (14, .i2l, 15, 0, 0, 0, 0), (15, .lconst 0, 16, 0, 0, 0, 0), (16, .ldc2_w 495, 19, 0, 0, 4, 0), (19, .invokestatic 146, 22, 137, 3, 1, 0), (22, .ifCond .eq 29, 25, 51, 0, 0, 0), (25, .iload_n 1, 26, 1, 0, 0, 0), (26, .iconst 1, 27, 0, 0, 0, 0), (27, .if_icmp .le 11, 30, 38, 0, 0, 0), (30, .aload_n 0, 31, 0, 0, 0, 0), (31, .iload_n 2, 32, 2, 0, 0, 0), (32, .invokevirtual 576, 35, 256, 2, 1, 12), (35, .ifCond .eq 16, 38, 51, 0, 0, 0)]
def sg_262_38 : List En := [(38, .iload_n 1, 39, 1, 0, 0, 0), (39, .iconst 2, 40, 0, 0, 0, 0), (40, .if_icmp .le 13, 43, 53, 0, 0, 0), (43, .aload_n 0, 44, 0, 0, 0, 0), (44, .iload_n 3, 45, 3, 0, 0, 0), (45, .invokevirtual 576, 48, 256, 2, 1, 12), (48, .ifCond .ne 5, 51, 53, 0, 0, 0)]
def sg_262_51 : List En := [(51, .iconst (-1), 52, 0, 0, 0, 0), (52, .ireturn, 53, 0, 0, 0, 0)]
def sg_262_53 : List En := [(53, .aload_n 0, 54, 0, 0, 0, 0), (54, .iconst 0, 55, 0, 0, 0, 0), (55, .iload_n 1, 56, 1, 0, 0, 0), (56, .iload_n 2, 57, 2, 0, 0, 0), (57, .iload_n 3, 58, 3, 0, 0, 0), (58, .invokevirtual 400, 61, 203, 5, 1, 12), (61, .ireturn, 62, 0, 0, 0, 0)]
def pg_262 : List En := sg_262_0 ++ sg_262_38 ++ sg_262_51 ++ sg_262_53
/-! 263 Math.max -/
def sg_263_0 : List En := [(0, .iload_n 0, 1, 0, 0, 0, 0), (1, .iload_n 1, 2, 1, 0, 0, 0), (2, .if_icmp .lt 7, 5, 9, 0, 0, 0), (5, .iload_n 0, 6, 0, 0, 0, 0), (6, .goto 4, 9, 10, 0, 0, 0)]
def sg_263_9 : List En := [(9, .iload_n 1, 10, 1, 0, 0, 0)]
def sg_263_10 : List En := [(10, .ireturn, 11, 0, 0, 0, 0)]
def pg_263 : List En := sg_263_0 ++ sg_263_9 ++ sg_263_10
/-! 264 Math.min -/
def sg_264_0 : List En := [(0, .iload_n 0, 1, 0, 0, 0, 0), (1, .iload_n 1, 2, 1, 0, 0, 0), (2, .if_icmp .gt 7, 5, 9, 0, 0, 0), (5, .iload_n 0, 6, 0, 0, 0, 0), (6, .goto 4, 9, 10, 0, 0, 0)]
def sg_264_9 : List En := [(9, .iload_n 1, 10, 1, 0, 0, 0)]
def sg_264_10 : List En := [(10, .ireturn, 11, 0, 0, 0, 0)]
def pg_264 : List En := sg_264_0 ++ sg_264_9 ++ sg_264_10
/-! 265 fillL -/
def sg_265_0 : List En := [(0, .iconst 0, 1, 0, 0, 0, 0), (1, .istore_n 3, 2, 3, 0, 0, 0), (2, .aload_n 0, 3, 0, 0, 0, 0), (3, .arraylength, 4, 0, 0, 0, 0), (4, .istore 4, 6, 4, 0, 0, 0)]
def sg_265_6 : List En := [(6, .iload_n 3, 7, 3, 0, 0, 0), (7, .iload 4, 9, 4, 0, 0, 0), (9, .if_icmp .ge 13, 12, 22, 0, 0, 0), (12, .aload_n 0, 13, 0, 0, 0, 0), (13, .iload_n 3, 14, 3, 0, 0, 0), (14, .lload_n 1, 15, 1, 0, 0, 0), (15, .lastore, 16, 0, 0, 0, 0), (16, .iinc 3 1, 19, 3, 0, 1, 0), (19, .goto (-13), 22, 6, 0, 0, 0)]
def sg_265_22 : List En := [(22, .return_, 23, 0, 0, 0, 0)]
def pg_265 : List En := sg_265_0 ++ sg_265_6 ++ sg_265_22
/-! 266 fillI -/
def sg_266_0 : List En := [(0, .iconst 0, 1, 0, 0, 0, 0), (1, .istore_n 2, 2, 2, 0, 0, 0), (2, .aload_n 0, 3, 0, 0, 0, 0), (3, .arraylength, 4, 0, 0, 0, 0), (4, .istore_n 3, 5, 3, 0, 0, 0)]
def sg_266_5 : List En := [(5, .iload_n 2, 6, 2, 0, 0, 0), (6, .iload_n 3, 7, 3, 0, 0, 0), (7, .if_icmp .ge 13, 10, 20, 0, 0, 0), (10, .aload_n 0, 11, 0, 0, 0, 0), (11, .iload_n 2, 12, 2, 0, 0, 0), (12, .iload_n 1, 13, 1, 0, 0, 0), (13, .iastore, 14, 0, 0, 0, 0), (14, .iinc 2 1, 17, 2, 0, 1, 0), (17, .goto (-12), 20, 5, 0, 0, 0)]
def sg_266_20 : List En := [(20, .return_, 21, 0, 0, 0, 0)]
def pg_266 : List En := sg_266_0 ++ sg_266_5 ++ sg_266_20
def zPgs : List (List En) := [pg_0, pg_1, pg_2, pg_3, pg_4, pg_5, pg_6, pg_7, pg_8, pg_9, pg_10, pg_11, pg_12, pg_13, pg_14, pg_15, pg_16, pg_17, pg_18, pg_19, pg_20, pg_21, pg_22, pg_23, pg_24, pg_25, pg_26, pg_27, pg_28, pg_29, pg_30, pg_31, pg_32, pg_33, pg_34, pg_35, pg_36, pg_37, pg_38, pg_39, pg_40, pg_41, pg_42, pg_43, pg_44, pg_45, pg_46, pg_47, pg_48, pg_49, pg_50, pg_51, pg_52, pg_53, pg_54, pg_55, pg_56, pg_57, pg_58, pg_59, pg_60, pg_61, pg_62, pg_63, pg_64, pg_65, pg_66, pg_67, pg_68, pg_69, pg_70, pg_71, pg_72, pg_73, pg_74, pg_75, pg_76, pg_77, pg_78, pg_79, pg_80, pg_81, pg_82, pg_83, pg_84, pg_85, pg_86, pg_87, pg_88, pg_89, pg_90, pg_91, pg_92, pg_93, pg_94, pg_95, pg_96, pg_97, pg_98, pg_99, pg_100, pg_101, pg_102, pg_103, pg_104, pg_105, pg_106, pg_107, pg_108, pg_109, pg_110, pg_111, pg_112, pg_113, pg_114, pg_115, pg_116, pg_117, pg_118, pg_119, pg_120, pg_121, pg_122, pg_123, pg_124, pg_125, pg_126, pg_127, pg_128, pg_129, pg_130, pg_131, pg_132, pg_133, pg_134, pg_135, pg_136, pg_137, pg_138, pg_139, pg_140, pg_141, pg_142, pg_143, pg_144, pg_145, pg_146, pg_147, pg_148, pg_149, pg_150, pg_151, pg_152, pg_153, pg_154, pg_155, pg_156, pg_157, pg_158, pg_159, pg_160, pg_161, pg_162, pg_163, pg_164, pg_165, pg_166, pg_167, pg_168, pg_169, pg_170, pg_171, pg_172, pg_173, pg_174, pg_175, pg_176, pg_177, pg_178, pg_179, pg_180, pg_181, pg_182, pg_183, pg_184, pg_185, pg_186, pg_187, pg_188, pg_189, pg_190, pg_191, pg_192, pg_193, pg_194, pg_195, pg_196, pg_197, pg_198, pg_199, pg_200, pg_201, pg_202, pg_203, pg_204, pg_205, pg_206, pg_207, pg_208, pg_209, pg_210, pg_211, pg_212, pg_213, pg_214, pg_215, pg_216, pg_217, pg_218, pg_219, pg_220, pg_221, pg_222, pg_223, pg_224, pg_225, pg_226, pg_227, pg_228, pg_229, pg_230, pg_231, pg_232, pg_233, pg_234, pg_235, pg_236, pg_237, pg_238, pg_239, pg_240, pg_241, pg_242, pg_243, pg_244, pg_245, pg_246, pg_247, pg_248, pg_249, pg_250, pg_251, pg_252, pg_253, pg_254, pg_255, pg_256, pg_257, pg_258, pg_259, pg_260, pg_261, pg_262, pg_263, pg_264, pg_265, pg_266]
def zPg (μ : Nat) : List En := zPgs.getD μ []
def zMls : List Nat := [1, 2, 3, 3, 5, 2, 8, 3, 2, 3, 2, 1, 2, 3, 2, 1, 2, 5, 1, 1, 2, 1, 3, 3, 3, 2, 4, 3, 3, 2, 3, 3, 5, 9, 3, 5, 3, 5, 3, 2, 2, 5, 6, 5, 3, 3, 2, 2, 3, 4, 3, 5, 3, 3, 4, 6, 5, 3, 1, 2, 1, 3, 2, 2, 3, 1, 2, 3, 3, 3, 1, 1, 1, 2, 2, 1, 2, 2, 2, 1, 2, 3, 5, 4, 4, 2, 3, 2, 3, 8, 6, 5, 1, 4, 5, 6, 3, 6, 2, 2, 2, 2, 2, 3, 2, 2, 4, 3, 3, 3, 1, 4, 1, 4, 3, 2, 2, 3, 5, 5, 5, 6, 4, 3, 3, 4, 8, 1, 2, 1, 1, 3, 1, 1, 5, 5, 5, 6, 1, 3, 6, 2, 1, 1, 3, 1, 2, 2, 2, 1, 1, 1, 2, 2, 2, 8, 3, 3, 1, 3, 1, 1, 3, 4, 4, 5, 6, 5, 4, 2, 3, 4, 2, 3, 2, 3, 3, 4, 4, 6, 6, 2, 1, 1, 1, 6, 4, 6, 2, 3, 2, 1, 2, 3, 5, 2, 6, 3, 7, 5, 7, 9, 5, 5, 6, 6, 4, 1, 3, 1, 3, 4, 5, 6, 2, 5, 4, 4, 2, 4, 4, 5, 2, 3, 2, 2, 3, 2, 4, 3, 3, 8, 3, 6, 3, 2, 4, 2, 3, 2, 4, 3, 6, 4, 3, 3, 2, 6, 5, 3, 4, 5, 9, 1, 2, 7, 2, 3, 3, 4, 3, 1, 4, 2, 2, 5, 4]
def zMl (μ : Nat) : Nat := zMls.getD μ 0
end
section
/-! A SMALL MACHINE OF ITS OWN over whole numbers: what a method does, as a condition on where it comes to -/
abbrev Lc : Type := List (Option Vl)
abbrev Mm : Type := Nat → Int → Int
abbrev Kt : Type := Int → Mm → Prop
abbrev Gm : Type := Nat → List Vl → Mm → Kt → Prop
def zUp (M : Mm) (a : Nat) (i v : Int) : Mm := fun a' i' => if a' = a then (if i' = i then v else M a i') else M a' i'
def zCpy (M : Mm) (s : Nat) (sp : Int) (d : Nat) (dp n : Int) : Mm := fun a' i' => if a' = d then (if dp ≤ i' ∧ i' < dp + n then M s (sp + (i' - dp)) else M d i') else M a' i'
def zC (c : Bool) (P : Prop) : Prop := match c with
  | true => P
  | false => False
def zR32 (x : Int) : Bool := decide (-2147483648 ≤ x) && decide (x ≤ 2147483647)
def zR64 (x : Int) : Bool := decide (-9223372036854775808 ≤ x) && decide (x ≤ 9223372036854775807)
def zObj (o ci : Nat) : Bool := match zSh[o]? with
  | some (none, c) => Nat.beq c ci
  | _ => false
/-- arrays: 0 int, 1 long, 2 byte, 3 boolean, 4 of references -/
def zTy : FieldType → Nat
  | .int => 0
  | .long => 1
  | .byte => 2
  | .boolean => 3
  | .object _ => 4
  | _ => 5
def zArr (o : Nat) (ty : Nat) : Bool := match zSh[o]? with
  | some (some t, _) => Nat.beq (zTy t) ty
  | _ => false
def zLen (o : Nat) : Int := match zSh[o]? with
  | some q => (q.2 : Int)
  | none => 0
def zBy (x : Int) : Bool := decide (-128 ≤ x) && decide (x ≤ 127)
def zDv (x y : Int) : Bool := decide (0 ≤ x) && decide (0 < y)
def zCo (sp dp n ls ld : Int) : Bool := decide (0 ≤ sp) && (decide (0 ≤ dp) && (decide (0 ≤ n) && (decide (sp + n ≤ ls) && decide (dp + n ≤ ld))))
def zBo (x : Int) : Bool := decide (x = 0) || decide (x = 1)
def zSm (y n : Int) : Bool := decide (0 ≤ y) && decide (y < n)
def zIandZ (x y : Int) : Int := ((Int32.ofInt x) &&& (Int32.ofInt y)).toInt
def zIorZ (x y : Int) : Int := ((Int32.ofInt x) ||| (Int32.ofInt y)).toInt
def zIxorZ (x y : Int) : Int := ((Int32.ofInt x) ^^^ (Int32.ofInt y)).toInt
def zLandZ (x y : Int) : Int := ((Int64.ofInt x) &&& (Int64.ofInt y)).toInt
def zLorZ (x y : Int) : Int := ((Int64.ofInt x) ||| (Int64.ofInt y)).toInt
def zLxorZ (x y : Int) : Int := ((Int64.ofInt x) ^^^ (Int64.ofInt y)).toInt
def zLushrZ (x y : Int) : Int := (((Int64.ofInt x).toUInt64 >>> ((Int32.ofInt y).toInt64.toUInt64 &&& Int64.toUInt64 63)).toInt64).toInt
def zB8 (x : Int) : Int := (x + 128) % 256 - 128
def zLcmp (x y : Int) : Int := if x < y then -1 else if x = y then 0 else 1
def zCmp : Jvm.ClassFile.Cond → Int → Int → Prop
  | .eq, x, y => x = y
  | .ne, x, y => ¬ x = y
  | .lt, x, y => x < y
  | .ge, x, y => y ≤ x
  | .gt, x, y => y < x
  | .le, x, y => x ≤ y
-- the stack
def zS1 (st : List Vl) (k : Int → List Vl → Prop) : Prop := match st with
  | .inl x :: r => k x r
  | _ => False
def zS2 (st : List Vl) (k : Int → Int → List Vl → Prop) : Prop := match st with
  | .inl y :: .inl x :: r => k x y r
  | _ => False
def zL1 (st : List Vl) (k : Int → List Vl → Prop) : Prop := match st with
  | .inr (.inl x) :: r => k x r
  | _ => False
def zL2 (st : List Vl) (k : Int → Int → List Vl → Prop) : Prop := match st with
  | .inr (.inl y) :: .inr (.inl x) :: r => k x y r
  | _ => False
def zLI (st : List Vl) (k : Int → Int → List Vl → Prop) : Prop := match st with
  | .inl y :: .inr (.inl x) :: r => k x y r
  | _ => False
def zR1 (st : List Vl) (k : Nat → List Vl → Prop) : Prop := match st with
  | .inr (.inr a) :: r => k a r
  | _ => False
def zRI (st : List Vl) (k : Nat → Int → List Vl → Prop) : Prop := match st with
  | .inl i :: .inr (.inr a) :: r => k a i r
  | _ => False
def zRJ (st : List Vl) (k : Nat → Int → List Vl → Prop) : Prop := match st with
  | .inr (.inl i) :: .inr (.inr a) :: r => k a i r
  | _ => False
def zRII (st : List Vl) (k : Nat → Int → Int → List Vl → Prop) : Prop := match st with
  | .inl x :: .inl i :: .inr (.inr a) :: r => k a i x r
  | _ => False
def zRIL (st : List Vl) (k : Nat → Int → Int → List Vl → Prop) : Prop := match st with
  | .inr (.inl x) :: .inl i :: .inr (.inr a) :: r => k a i x r
  | _ => False
def zRIR (st : List Vl) (k : Nat → Int → Nat → List Vl → Prop) : Prop := match st with
  | .inr (.inr x) :: .inl i :: .inr (.inr a) :: r => k a i x r
  | _ => False
def zIIRIR (st : List Vl) (k : Nat → Int → Nat → Int → Int → List Vl → Prop) : Prop := match st with
  | .inl n :: .inl dp :: .inr (.inr d) :: .inl sp :: .inr (.inr s) :: r => k s sp d dp n r
  | _ => False
def zDup (st : List Vl) (k : List Vl → Prop) : Prop := match st with
  | .inl x :: r => k (.inl x :: .inl x :: r)
  | .inr (.inr x) :: r => k (.inr (.inr x) :: .inr (.inr x) :: r)
  | _ => False
def zDup2 (st : List Vl) (k : List Vl → Prop) : Prop := match st with
  | .inr (.inl x) :: r => k (.inr (.inl x) :: .inr (.inl x) :: r)
  | .inl x :: .inr (.inr y) :: r => k (.inl x :: .inr (.inr y) :: .inl x :: .inr (.inr y) :: r)
  | .inl x :: .inl y :: r => k (.inl x :: .inl y :: .inl x :: .inl y :: r)
  | _ => False
def zPop1 (st : List Vl) (k : List Vl → Prop) : Prop := match st with
  | .inl _ :: r => k r
  | .inr (.inr _) :: r => k r
  | _ => False
def zPops : Nat → List Vl → List Vl → (List Vl → List Vl → Prop) → Prop
  | 0, acc, st, k => k acc st
  | _ + 1, _, [], _ => False
  | n + 1, acc, v :: st, k => zPops n (v :: acc) st k
def zCats : List Vl → Nat
  | [] => 0
  | .inr (.inl _) :: r => 2 + zCats r
  | _ :: r => 1 + zCats r
def zNil : List Vl → Bool
  | [] => true
  | _ => false
def zHead (as : List Vl) (ci : Nat) : Bool := match as with
  | .inr (.inr o) :: _ => zObj o ci
  | _ => false
def zPush (kd : Int) (z : Int) (r : List Vl) : List Vl := match kd with
  | .ofNat 0 => r
  | .ofNat 1 => .inl z :: r
  | _ => .inr (.inl z) :: r
-- the locals
def zGet : Lc → Nat → Option Vl
  | [], _ => none
  | v :: _, 0 => v
  | _ :: l, n + 1 => zGet l n
def zLdI (L : Lc) (i : Nat) (k : Int → Prop) : Prop := match zGet L i with
  | some (.inl x) => k x
  | _ => False
def zLdL (L : Lc) (i : Nat) (k : Int → Prop) : Prop := match zGet L i with
  | some (.inr (.inl x)) => k x
  | _ => False
def zLdR (L : Lc) (i : Nat) (k : Nat → Prop) : Prop := match zGet L i with
  | some (.inr (.inr x)) => k x
  | _ => False
def zKl (n : Nat) (u : Option Vl) : Option Vl := match n, u with
  | 0, some (.inr (.inl _)) => none
  | _, u => u
def zSt1 : Lc → Nat → Vl → Lc
  | [], _, _ => []
  | _ :: l, 0, v => some v :: l
  | u :: l, n + 1, v => zKl n u :: zSt1 l n v
def zSt2 : Lc → Nat → Vl → Lc
  | [], _, _ => []
  | [_], 0, _ => [none]
  | _ :: _ :: l, 0, v => some v :: none :: l
  | u :: l, n + 1, v => zKl n u :: zSt2 l n v
def zLoc : Nat → List Vl → Lc
  | n, [] => List.replicate n none
  | n, .inl z :: as => some (.inl z) :: zLoc (n - 1) as
  | n, .inr (.inl z) :: as => some (.inr (.inl z)) :: none :: zLoc (n - 2) as
  | n, .inr (.inr z) :: as => some (.inr (.inr z)) :: zLoc (n - 1) as
def zGf (b o : Nat) (x : Int) : Vl := match b with
  | 0 => .inl x
  | 1 => .inr (.inl x)
  | n + 2 => cond (Nat.beq (n % 2) 0) (.inr (.inr (o + n / 2))) (.inr (.inr (n / 2)))
def zTsw (pc : Nat) (J : Nat → Prop) (x : Int) : Int → List Int → Prop
  | _, [] => True
  | lo, o :: os => (x = lo → J ((pc : Int) + o).toNat) ∧ zTsw pc J x (lo + 1) os
def zEx (Γ : Gm) (K : Kt) (F : Lc → List Vl → Mm → Prop) (J : Nat → Lc → List Vl → Mm → Prop) (pc : Nat) (i : Instr) (a b : Nat) (v : Int) (w : Nat) (L : Lc) (st : List Vl) (M : Mm) : Prop :=
  match i with
  | .iconst n => F L (.inl n :: st) M
  | .bipush n => F L (.inl n :: st) M
  | .sipush n => F L (.inl n :: st) M
  | .ldc _ => F L (.inl v :: st) M
  | .ldc_w _ => F L (.inl v :: st) M
  | .ldc2_w _ => F L (.inr (.inl v) :: st) M
  | .lconst _ => F L (.inr (.inl v) :: st) M
  | .iload _ => zLdI L a fun x => F L (.inl x :: st) M
  | .iload_n _ => zLdI L a fun x => F L (.inl x :: st) M
  | .lload _ => zLdL L a fun x => F L (.inr (.inl x) :: st) M
  | .lload_n _ => zLdL L a fun x => F L (.inr (.inl x) :: st) M
  | .aload _ => zLdR L a fun x => F L (.inr (.inr x) :: st) M
  | .aload_n _ => zLdR L a fun x => F L (.inr (.inr x) :: st) M
  | .istore _ => zS1 st fun x r => F (zSt1 L a (.inl x)) r M
  | .istore_n _ => zS1 st fun x r => F (zSt1 L a (.inl x)) r M
  | .lstore _ => zL1 st fun x r => F (zSt2 L a (.inr (.inl x))) r M
  | .lstore_n _ => zL1 st fun x r => F (zSt2 L a (.inr (.inl x))) r M
  | .astore _ => zR1 st fun x r => F (zSt1 L a (.inr (.inr x))) r M
  | .astore_n _ => zR1 st fun x r => F (zSt1 L a (.inr (.inr x))) r M
  | .iinc _ _ => zLdI L a fun x => F (zSt1 L a (.inl (x + v))) st M
  | .iadd => zS2 st fun x y r => F L (.inl (x + y) :: r) M
  | .isub => zS2 st fun x y r => F L (.inl (x - y) :: r) M
  | .imul => zS2 st fun x y r => F L (.inl (x * y) :: r) M
  | .idiv => zS2 st fun x y r => zC (zR32 x) (zC (zR32 y) (zC (zDv x y) (F L (.inl (x / y) :: r) M)))
  | .irem => zS2 st fun x y r => zC (zR32 x) (zC (zR32 y) (zC (zDv x y) (F L (.inl (x % y) :: r) M)))
  | .iand => zS2 st fun x y r => F L (.inl (zIandZ x y) :: r) M
  | .ior => zS2 st fun x y r => F L (.inl (zIorZ x y) :: r) M
  | .ixor => zS2 st fun x y r => F L (.inl (zIxorZ x y) :: r) M
  | .ishl => zS2 st fun x y r => zC (zSm y 32) (F L (.inl (x * 2 ^ y.toNat) :: r) M)
  | .ishr => zS2 st fun x y r => zC (zR32 x) (zC (zSm y 32) (F L (.inl (x / 2 ^ y.toNat) :: r) M))
  | .ladd => zL2 st fun x y r => F L (.inr (.inl (x + y)) :: r) M
  | .lsub => zL2 st fun x y r => F L (.inr (.inl (x - y)) :: r) M
  | .lmul => zL2 st fun x y r => F L (.inr (.inl (x * y)) :: r) M
  | .ldiv => zL2 st fun x y r => zC (zR64 x) (zC (zR64 y) (zC (zDv x y) (F L (.inr (.inl (x / y)) :: r) M)))
  | .lrem => zL2 st fun x y r => zC (zR64 x) (zC (zR64 y) (zC (zDv x y) (F L (.inr (.inl (x % y)) :: r) M)))
  | .land => zL2 st fun x y r => F L (.inr (.inl (zLandZ x y)) :: r) M
  | .lor => zL2 st fun x y r => F L (.inr (.inl (zLorZ x y)) :: r) M
  | .lxor => zL2 st fun x y r => F L (.inr (.inl (zLxorZ x y)) :: r) M
  | .lshl => zLI st fun x y r => zC (zSm y 64) (F L (.inr (.inl (x * 2 ^ y.toNat)) :: r) M)
  | .lshr => zLI st fun x y r => zC (zR64 x) (zC (zSm y 64) (F L (.inr (.inl (x / 2 ^ y.toNat)) :: r) M))
  | .lushr => zLI st fun x y r => F L (.inr (.inl (zLushrZ x y)) :: r) M
  | .i2l => zS1 st fun x r => zC (zR32 x) (F L (.inr (.inl x) :: r) M)
  | .l2i => zL1 st fun x r => F L (.inl x :: r) M
  | .i2b => zS1 st fun x r => F L (.inl (zB8 x) :: r) M
  | .lcmp => zL2 st fun x y r => zC (zR64 x) (zC (zR64 y) (F L (.inl (zLcmp x y) :: r) M))
  | .dup => zDup st fun r => F L r M
  | .dup2 => zDup2 st fun r => F L r M
  | .pop => zPop1 st fun r => F L r M
  | .goto _ => J a L st M
  | .ifCond c _ => zS1 st fun x r => zC (zR32 x) ((zCmp c x 0 → J a L r M) ∧ (¬ zCmp c x 0 → F L r M))
  | .if_icmp c _ => zS2 st fun x y r => zC (zR32 x) (zC (zR32 y) ((zCmp c x y → J a L r M) ∧ (¬ zCmp c x y → F L r M)))
  | .tableswitch df lo hi offs => zS1 st fun x r => zC (zR32 x) (zTsw pc (fun q => J q L r M) x lo offs.toList ∧ ((x < lo ∨ hi < x) → J ((pc : Int) + df).toNat L r M))
  | .getfield _ => zR1 st fun o r => zC (zObj o a) (F L (zGf b o (M o v) :: r) M)
  | .putfield _ => cond (Nat.beq b 0) (zRI st fun o x r => zC (zObj o a) (F L r (zUp M o v x))) (zRJ st fun o x r => zC (zObj o a) (F L r (zUp M o v x)))
  | .getstatic _ => F L (.inr (.inr zOW) :: st) M
  | .iaload => cond (Nat.beq w 1) (zRI st fun o i r => zC (Nat.beq o zOW) (zC (zSm i 13) (F L (.inl (zOwn i) :: r) M))) (zRI st fun o i r => zC (zArr o 0) (zC (zSm i (zLen o)) (F L (.inl (M o i) :: r) M)))
  | .baload => zRI st fun o i r => zC (zArr o (cond (Nat.beq w 1) 3 2)) (zC (zSm i (zLen o)) (F L (.inl (M o i) :: r) M))
  | .laload => zRI st fun o i r => zC (zArr o 1) (zC (zSm i (zLen o)) (F L (.inr (.inl (M o i)) :: r) M))
  | .aaload => zRI st fun o i r => zC (zArr o 4) (zC (zSm i (zLen o)) (F L (.inr (.inr (M o i).toNat) :: r) M))
  | .iastore => zRII st fun o i x r => zC (zArr o 0) (zC (zSm i (zLen o)) (F L r (zUp M o i x)))
  | .bastore => cond (Nat.beq w 1) (zRII st fun o i x r => zC (zArr o 3) (zC (zSm i (zLen o)) (zC (zBo x) (F L r (zUp M o i x))))) (zRII st fun o i x r => zC (zArr o 2) (zC (zSm i (zLen o)) (zC (zBy x) (F L r (zUp M o i x)))))
  | .lastore => zRIL st fun o i x r => zC (zArr o 1) (zC (zSm i (zLen o)) (F L r (zUp M o i x)))
  | .aastore => zRIR st fun o i x r => zC (zArr o 4) (zC (zSm i (zLen o)) (zC (zObj x zTree) (F L r (zUp M o i x))))
  | .arraylength => cond (Nat.beq w 1) (zR1 st fun o r => zC (Nat.beq o zOW) (F L (.inl 13 :: r) M)) (zR1 st fun o r => zC (zArr o 0 || zArr o 1) (F L (.inl (zLen o) :: r) M))
  | .invokevirtual _ => zPops b [] st fun as r => zC (zHead as w) (zC (Nat.ble (zCats r) 8) (Γ a as M (fun z M' => F L (zPush v z r) M')))
  | .invokestatic _ => cond (Nat.beq w 0) (zPops b [] st fun as r => zC (Nat.ble (zCats r) 8) (Γ a as M (fun z M' => F L (zPush v z r) M')))
      (zIIRIR st fun s sp d dp n r => zC (Nat.ble (zCats r) 8) (zC (zArr s (cond (Nat.beq w 1) 0 1)) (zC (zArr d (cond (Nat.beq w 1) 0 1)) (zC (!Nat.beq s d) (zC (zCo sp dp n (zLen s) (zLen d)) (F L r (zCpy M s sp d dp n)))))))
  | .ireturn => zS1 st fun x r => zC (zNil r) (cond (Nat.beq w 1) (zC (zBo x) (K x M)) (K x M))
  | .lreturn => zL1 st fun x r => zC (zNil r) (K x M)
  | .return_ => zC (zNil st) (K 0 M)
  | _ => False
def zFd (q : Nat) : List En → Option En
  | [] => none
  | e :: es => cond (Nat.beq e.1 q) (some e) (zFd q es)
def zF (μ pc : Nat) : Option En := zFd pc (zPg μ)
abbrev Pm : Type := Nat → Lc → List Vl → Mm → Prop
def zStp (Γ : Gm) (μ : Nat) (K : Kt) (P : Pm) (pc : Nat) (L : Lc) (st : List Vl) (M : Mm) : Prop := match zF μ pc with
  | some (p, i, nx, a, b, v, w) => zEx Γ K (P nx) P p i a b v w L st M
  | none => False
def zWp (Γ : Gm) (μ : Nat) (K : Kt) (pc : Nat) (L : Lc) (st : List Vl) (M : Mm) : Prop :=
  ∀ P : Pm, (∀ pc L st M, zStp Γ μ K P pc L st M → P pc L st M) → P pc L st M
def zIn (q : Nat) : List Nat → Bool
  | [] => false
  | a :: l => cond (Nat.beq a q) true (zIn q l)
/-- the code from a place on, up to the places of 'stops' -/
def zBk (Γ : Gm) (μ : Nat) (K : Kt) (pg : List En) (stops : List Nat) : Nat → Nat → Lc → List Vl → Mm → Prop
  | 0, pc, L, st, M => zWp Γ μ K pc L st M
  | f + 1, pc, L, st, M => match zFd pc pg with
    | some (p, i, nx, a, b, v, w) => zEx Γ K (fun L' st' M' => cond (zIn nx stops) (zWp Γ μ K nx L' st' M') (zBk Γ μ K pg stops f nx L' st' M'))
        (fun q L' st' M' => cond (zIn q stops) (zWp Γ μ K q L' st' M') (zBk Γ μ K pg stops f q L' st' M')) p i a b v w L st M
    | none => False
def zSp : Nat → Gm
  | 0, _, _, _, _ => False
  | d + 1, μ, as, M, K => zC (Nat.ble (zCats as) (zMl μ)) (zWp (zSp d) μ K 0 (zLoc (zMl μ) as) [] M)
end
section
theorem zC_mono {c : Bool} {P Q : Prop} (h : P → Q) : zC c P → zC c Q := by
  cases c
  · exact id
  · exact h
theorem zCond_mono {c : Bool} {X Y X2 Y2 : Prop} (h : X → X2) (g : Y → Y2) : (cond c X Y) → (cond c X2 Y2) := by
  cases c
  · exact g
  · exact h
theorem zS1_mono {st : List Vl} {k k2 : Int → List Vl → Prop} (h : ∀ x0 x1, k x0 x1 → k2 x0 x1) : zS1 st k → zS1 st k2 := by
  unfold zS1
  split <;> first | exact h _ _ | exact id
theorem zS2_mono {st : List Vl} {k k2 : Int → Int → List Vl → Prop} (h : ∀ x0 x1 x2, k x0 x1 x2 → k2 x0 x1 x2) : zS2 st k → zS2 st k2 := by
  unfold zS2
  split <;> first | exact h _ _ _ | exact id
theorem zL1_mono {st : List Vl} {k k2 : Int → List Vl → Prop} (h : ∀ x0 x1, k x0 x1 → k2 x0 x1) : zL1 st k → zL1 st k2 := by
  unfold zL1
  split <;> first | exact h _ _ | exact id
theorem zL2_mono {st : List Vl} {k k2 : Int → Int → List Vl → Prop} (h : ∀ x0 x1 x2, k x0 x1 x2 → k2 x0 x1 x2) : zL2 st k → zL2 st k2 := by
  unfold zL2
  split <;> first | exact h _ _ _ | exact id
theorem zLI_mono {st : List Vl} {k k2 : Int → Int → List Vl → Prop} (h : ∀ x0 x1 x2, k x0 x1 x2 → k2 x0 x1 x2) : zLI st k → zLI st k2 := by
  unfold zLI
  split <;> first | exact h _ _ _ | exact id
theorem zR1_mono {st : List Vl} {k k2 : Nat → List Vl → Prop} (h : ∀ x0 x1, k x0 x1 → k2 x0 x1) : zR1 st k → zR1 st k2 := by
  unfold zR1
  split <;> first | exact h _ _ | exact id
theorem zRI_mono {st : List Vl} {k k2 : Nat → Int → List Vl → Prop} (h : ∀ x0 x1 x2, k x0 x1 x2 → k2 x0 x1 x2) : zRI st k → zRI st k2 := by
  unfold zRI
  split <;> first | exact h _ _ _ | exact id
theorem zRJ_mono {st : List Vl} {k k2 : Nat → Int → List Vl → Prop} (h : ∀ x0 x1 x2, k x0 x1 x2 → k2 x0 x1 x2) : zRJ st k → zRJ st k2 := by
  unfold zRJ
  split <;> first | exact h _ _ _ | exact id
theorem zRII_mono {st : List Vl} {k k2 : Nat → Int → Int → List Vl → Prop} (h : ∀ x0 x1 x2 x3, k x0 x1 x2 x3 → k2 x0 x1 x2 x3) : zRII st k → zRII st k2 := by
  unfold zRII
  split <;> first | exact h _ _ _ _ | exact id
theorem zRIL_mono {st : List Vl} {k k2 : Nat → Int → Int → List Vl → Prop} (h : ∀ x0 x1 x2 x3, k x0 x1 x2 x3 → k2 x0 x1 x2 x3) : zRIL st k → zRIL st k2 := by
  unfold zRIL
  split <;> first | exact h _ _ _ _ | exact id
theorem zRIR_mono {st : List Vl} {k k2 : Nat → Int → Nat → List Vl → Prop} (h : ∀ x0 x1 x2 x3, k x0 x1 x2 x3 → k2 x0 x1 x2 x3) : zRIR st k → zRIR st k2 := by
  unfold zRIR
  split <;> first | exact h _ _ _ _ | exact id
theorem zIIRIR_mono {st : List Vl} {k k2 : Nat → Int → Nat → Int → Int → List Vl → Prop} (h : ∀ x0 x1 x2 x3 x4 x5, k x0 x1 x2 x3 x4 x5 → k2 x0 x1 x2 x3 x4 x5) : zIIRIR st k → zIIRIR st k2 := by
  unfold zIIRIR
  split <;> first | exact h _ _ _ _ _ _ | exact id
theorem zDup_mono {st : List Vl} {k k2 : List Vl → Prop} (h : ∀ x0, k x0 → k2 x0) : zDup st k → zDup st k2 := by
  unfold zDup
  split <;> first | exact h _ | exact id
theorem zDup2_mono {st : List Vl} {k k2 : List Vl → Prop} (h : ∀ x0, k x0 → k2 x0) : zDup2 st k → zDup2 st k2 := by
  unfold zDup2
  split <;> first | exact h _ | exact id
theorem zPop1_mono {st : List Vl} {k k2 : List Vl → Prop} (h : ∀ x0, k x0 → k2 x0) : zPop1 st k → zPop1 st k2 := by
  unfold zPop1
  split <;> first | exact h _ | exact id
theorem zLdI_mono {L : Lc} {i : Nat} {k k2 : Int → Prop} (h : ∀ x, k x → k2 x) : zLdI L i k → zLdI L i k2 := by
  unfold zLdI
  split <;> first | exact h _ | exact id
theorem zLdL_mono {L : Lc} {i : Nat} {k k2 : Int → Prop} (h : ∀ x, k x → k2 x) : zLdL L i k → zLdL L i k2 := by
  unfold zLdL
  split <;> first | exact h _ | exact id
theorem zLdR_mono {L : Lc} {i : Nat} {k k2 : Nat → Prop} (h : ∀ x, k x → k2 x) : zLdR L i k → zLdR L i k2 := by
  unfold zLdR
  split <;> first | exact h _ | exact id
theorem zPops_mono {k k2 : List Vl → List Vl → Prop} (h : ∀ x y, k x y → k2 x y) : ∀ (n : Nat) (acc st : List Vl), zPops n acc st k → zPops n acc st k2
  | 0, _, _, q => h _ _ q
  | _ + 1, _, [], q => q
  | n + 1, acc, v :: st, q => zPops_mono h n (v :: acc) st q
theorem zTsw_mono {pc : Nat} {J J2 : Nat → Prop} {x : Int} (h : ∀ q, J q → J2 q) : ∀ (os : List Int) (lo : Int), zTsw pc J x lo os → zTsw pc J2 x lo os
  | [], _, q => q
  | _ :: os, _, ⟨q1, q2⟩ => ⟨fun e => h _ (q1 e), zTsw_mono h os _ q2⟩
abbrev zMono (Γ : Gm) : Prop := ∀ (μ : Nat) (as : List Vl) (M : Mm) (K K2 : Kt), (∀ z M, K z M → K2 z M) → Γ μ as M K → Γ μ as M K2
theorem zEx_mono {Γ : Gm} {K K2 : Kt} {F F2 : Lc → List Vl → Mm → Prop} {J J2 : Nat → Lc → List Vl → Mm → Prop} {pc : Nat} {i : Instr} {a b : Nat} {v : Int} {w : Nat} {L : Lc} {st : List Vl} {M : Mm} (hG : zMono Γ) (hK : ∀ z M, K z M → K2 z M) (hF : ∀ L st M, F L st M → F2 L st M) (hJ : ∀ q L st M, J q L st M → J2 q L st M) : zEx Γ K F J pc i a b v w L st M → zEx Γ K2 F2 J2 pc i a b v w L st M := by
  cases i
  case iconst => exact hF _ _ _
  case bipush => exact hF _ _ _
  case sipush => exact hF _ _ _
  case ldc => exact hF _ _ _
  case ldc_w => exact hF _ _ _
  case ldc2_w => exact hF _ _ _
  case lconst => exact hF _ _ _
  case getstatic => exact hF _ _ _
  case iload => exact zLdI_mono fun _ => hF _ _ _
  case iload_n => exact zLdI_mono fun _ => hF _ _ _
  case iinc => exact zLdI_mono fun _ => hF _ _ _
  case lload => exact zLdL_mono fun _ => hF _ _ _
  case lload_n => exact zLdL_mono fun _ => hF _ _ _
  case aload => exact zLdR_mono fun _ => hF _ _ _
  case aload_n => exact zLdR_mono fun _ => hF _ _ _
  case istore => exact zS1_mono fun _ _ => hF _ _ _
  case istore_n => exact zS1_mono fun _ _ => hF _ _ _
  case i2b => exact zS1_mono fun _ _ => hF _ _ _
  case lstore => exact zL1_mono fun _ _ => hF _ _ _
  case lstore_n => exact zL1_mono fun _ _ => hF _ _ _
  case l2i => exact zL1_mono fun _ _ => hF _ _ _
  case astore => exact zR1_mono fun _ _ => hF _ _ _
  case astore_n => exact zR1_mono fun _ _ => hF _ _ _
  case iadd => exact zS2_mono fun _ _ _ => hF _ _ _
  case isub => exact zS2_mono fun _ _ _ => hF _ _ _
  case imul => exact zS2_mono fun _ _ _ => hF _ _ _
  case iand => exact zS2_mono fun _ _ _ => hF _ _ _
  case ior => exact zS2_mono fun _ _ _ => hF _ _ _
  case ixor => exact zS2_mono fun _ _ _ => hF _ _ _
  case ladd => exact zL2_mono fun _ _ _ => hF _ _ _
  case lsub => exact zL2_mono fun _ _ _ => hF _ _ _
  case lmul => exact zL2_mono fun _ _ _ => hF _ _ _
  case land => exact zL2_mono fun _ _ _ => hF _ _ _
  case lor => exact zL2_mono fun _ _ _ => hF _ _ _
  case lxor => exact zL2_mono fun _ _ _ => hF _ _ _
  case idiv => exact zS2_mono fun _ _ _ => zC_mono (zC_mono (zC_mono (hF _ _ _)))
  case irem => exact zS2_mono fun _ _ _ => zC_mono (zC_mono (zC_mono (hF _ _ _)))
  case ldiv => exact zL2_mono fun _ _ _ => zC_mono (zC_mono (zC_mono (hF _ _ _)))
  case lrem => exact zL2_mono fun _ _ _ => zC_mono (zC_mono (zC_mono (hF _ _ _)))
  case ishl => exact zS2_mono fun _ _ _ => zC_mono (hF _ _ _)
  case ishr => exact zS2_mono fun _ _ _ => zC_mono (zC_mono (hF _ _ _))
  case lshl => exact zLI_mono fun _ _ _ => zC_mono (hF _ _ _)
  case lshr => exact zLI_mono fun _ _ _ => zC_mono (zC_mono (hF _ _ _))
  case lushr => exact zLI_mono fun _ _ _ => hF _ _ _
  case i2l => exact zS1_mono fun _ _ => zC_mono (hF _ _ _)
  case lcmp => exact zL2_mono fun _ _ _ => zC_mono (zC_mono (hF _ _ _))
  case dup => exact zDup_mono (st := st) (k := fun r => F L r M) (k2 := fun r => F2 L r M) fun r => hF L r M
  case dup2 => exact zDup2_mono (st := st) (k := fun r => F L r M) (k2 := fun r => F2 L r M) fun r => hF L r M
  case pop => exact zPop1_mono fun _ => hF _ _ _
  case goto => exact hJ _ _ _ _
  case ifCond => exact zS1_mono fun _ _ => zC_mono ((fun q => ⟨fun e => hJ _ _ _ _ (q.1 e), fun e => hF _ _ _ (q.2 e)⟩))
  case if_icmp => exact zS2_mono fun _ _ _ => zC_mono (zC_mono ((fun q => ⟨fun e => hJ _ _ _ _ (q.1 e), fun e => hF _ _ _ (q.2 e)⟩)))
  case tableswitch => exact zS1_mono fun _ _ => zC_mono ((fun q => ⟨zTsw_mono (fun _ => hJ _ _ _ _) _ _ q.1, fun e => hJ _ _ _ _ (q.2 e)⟩))
  case getfield => exact zR1_mono fun _ _ => zC_mono (hF _ _ _)
  case putfield => exact zCond_mono (zRI_mono fun _ _ _ => zC_mono (hF _ _ _)) (zRJ_mono fun _ _ _ => zC_mono (hF _ _ _))
  case iaload => exact zCond_mono (zRI_mono fun _ _ _ => zC_mono (zC_mono (hF _ _ _))) (zRI_mono fun _ _ _ => zC_mono (zC_mono (hF _ _ _)))
  case baload => exact zRI_mono fun _ _ _ => zC_mono (zC_mono (hF _ _ _))
  case laload => exact zRI_mono fun _ _ _ => zC_mono (zC_mono (hF _ _ _))
  case aaload => exact zRI_mono fun _ _ _ => zC_mono (zC_mono (hF _ _ _))
  case iastore => exact zRII_mono fun _ _ _ _ => zC_mono (zC_mono (hF _ _ _))
  case lastore => exact zRIL_mono fun _ _ _ _ => zC_mono (zC_mono (hF _ _ _))
  case aastore => exact zRIR_mono fun _ _ _ _ => zC_mono (zC_mono (zC_mono (hF _ _ _)))
  case bastore => exact zCond_mono (zRII_mono fun _ _ _ _ => zC_mono (zC_mono (zC_mono (hF _ _ _)))) (zRII_mono fun _ _ _ _ => zC_mono (zC_mono (zC_mono (hF _ _ _))))
  case arraylength => exact zCond_mono (zR1_mono fun _ _ => zC_mono (hF _ _ _)) (zR1_mono fun _ _ => zC_mono (hF _ _ _))
  case invokevirtual => exact zPops_mono (fun _ _ => zC_mono (zC_mono ((hG _ _ _ _ _ fun _ _ => hF _ _ _)))) _ _ _
  case invokestatic => exact zCond_mono (zPops_mono (fun _ _ => zC_mono ((hG _ _ _ _ _ fun _ _ => hF _ _ _))) _ _ _) (zIIRIR_mono fun _ _ _ _ _ _ => zC_mono (zC_mono (zC_mono (zC_mono (zC_mono (hF _ _ _))))))
  case ireturn => exact zS1_mono fun _ _ => zC_mono (zCond_mono (zC_mono (hK _ _)) (hK _ _))
  case lreturn => exact zL1_mono fun _ _ => zC_mono (hK _ _)
  case return_ => exact zC_mono (hK _ _)
  all_goals exact id
theorem zStp_mono {Γ : Gm} {μ : Nat} {K K2 : Kt} {P P2 : Pm} {pc : Nat} {L : Lc} {st : List Vl} {M : Mm} (hG : zMono Γ) (hK : ∀ z M, K z M → K2 z M) (hP : ∀ q L st M, P q L st M → P2 q L st M) : zStp Γ μ K P pc L st M → zStp Γ μ K2 P2 pc L st M := by
  unfold zStp
  split
  · exact zEx_mono hG hK (fun _ _ _ => hP _ _ _ _) hP
  · exact id
theorem zWp_intro {Γ : Gm} {μ : Nat} {K : Kt} {pc : Nat} {L : Lc} {st : List Vl} {M : Mm} (hG : zMono Γ) (h : zStp Γ μ K (zWp Γ μ K) pc L st M) : zWp Γ μ K pc L st M :=
  fun P hP => hP _ _ _ _ (zStp_mono hG (fun _ _ q => q) (fun _ _ _ _ q => q P hP) h)
theorem zWp_elim {Γ : Gm} {μ : Nat} {K : Kt} {pc : Nat} {L : Lc} {st : List Vl} {M : Mm} (hG : zMono Γ) (h : zWp Γ μ K pc L st M) : zStp Γ μ K (zWp Γ μ K) pc L st M :=
  h (fun pc L st M => zStp Γ μ K (zWp Γ μ K) pc L st M) (fun _ _ _ _ q => zStp_mono hG (fun _ _ q => q) (fun _ _ _ _ q => zWp_intro hG q) q)
theorem zWp_eq {Γ : Gm} {μ : Nat} {K : Kt} {pc : Nat} {L : Lc} {st : List Vl} {M : Mm} (hG : zMono Γ) : zWp Γ μ K pc L st M = zStp Γ μ K (zWp Γ μ K) pc L st M := propext ⟨zWp_elim hG, zWp_intro hG⟩
theorem zWp_mono {Γ : Gm} {μ : Nat} {K K2 : Kt} {pc : Nat} {L : Lc} {st : List Vl} {M : Mm} (hG : zMono Γ) (hK : ∀ z M, K z M → K2 z M) (h : zWp Γ μ K pc L st M) : zWp Γ μ K2 pc L st M :=
  h (zWp Γ μ K2) (fun _ _ _ _ q => zWp_intro hG (zStp_mono hG hK (fun _ _ _ _ q => q) q))
theorem zSp_mono : ∀ d : Nat, zMono (zSp d)
  | 0, _, _, _, _, _, _, h => h
  | d + 1, _, _, _, _, _, hK, h => zC_mono (zWp_mono (zSp_mono d) hK) h
theorem zwp_blk0 {Γ : Gm} (hG : zMono Γ) {μ : Nat} {K : Kt} {pg : List En} {stops : List Nat} (hp : zPg μ = pg) : ∀ (fuel pc : Nat) (L : Lc) (st : List Vl) (M : Mm), zWp Γ μ K pc L st M = zBk Γ μ K pg stops fuel pc L st M
  | 0, _, _, _, _ => rfl
  | f + 1, pc, L, st, M => by
    rw [zWp_eq hG]
    unfold zStp zBk zF
    rw [hp]
    split
    · rename_i p i nx a b v w _
      have e1 : (zWp Γ μ K nx) = (fun L' st' M' => cond (zIn nx stops) (zWp Γ μ K nx L' st' M') (zBk Γ μ K pg stops f nx L' st' M')) := by
        funext L' st' M'
        cases zIn nx stops
        · exact zwp_blk0 hG hp f nx L' st' M'
        · rfl
      have e2 : (zWp Γ μ K) = (fun q L' st' M' => cond (zIn q stops) (zWp Γ μ K q L' st' M') (zBk Γ μ K pg stops f q L' st' M')) := by
        funext q L' st' M'
        cases zIn q stops
        · exact zwp_blk0 hG hp f q L' st' M'
        · rfl
      conv => lhs; rw [e1]
      conv => lhs; arg 4; rw [e2]
    · rfl
theorem zwp_blk {d μ : Nat} {K : Kt} {pg : List En} {stops : List Nat} {fuel pc : Nat} {L : Lc} {st : List Vl} {M : Mm} (hp : zPg μ = pg) : zWp (zSp d) μ K pc L st M = zBk (zSp d) μ K pg stops fuel pc L st M := zwp_blk0 (zSp_mono d) hp fuel pc L st M
end
section
theorem pe_0 : zPg 0 = pg_0 := rfl
/-! 0 Bugs.clear -/
set_option maxHeartbeats 4000000 in
set_option maxRecDepth 100000 in
theorem me_0 {d : Nat} {K : Kt} {M : Mm} {b : Nat} : zSp (d + 1) 0 [.inr (.inr b)] M K = (zC (zObj b 0) (zC (zObj b 0) (K 0 (zUp (zUp M b 0 0) b 3 0)))) := (zwp_blk (stops := []) (fuel := 12) pe_0).trans rfl
theorem pe_1 : zPg 1 = pg_1 := rfl
/-! 1 Bugs.copyFrom -/
set_option maxHeartbeats 4000000 in
set_option maxRecDepth 100000 in
theorem me_1 {d : Nat} {K : Kt} {M : Mm} {b o1 : Nat} : zSp (d + 1) 1 [.inr (.inr b), .inr (.inr o1)] M K = (zC (zObj o1 0) (zC (zObj b 0) (zC (zObj o1 0) (zC (zObj b 0) (zC (zObj o1 0) (zC (zObj b 0) (zC (zArr (o1 + 1) 0) (zC (zArr (b + 1) 0) (zC (!Nat.beq (o1 + 1) (b + 1)) (zC (zCo 0 0 6 (zLen (o1 + 1)) (zLen (b + 1))) (zC (zObj o1 0) (zC (zObj b 0) (zC (zArr (o1 + 2) 0) (zC (zArr (b + 2) 0) (zC (!Nat.beq (o1 + 2) (b + 2)) (zC (zCo 0 0 6 (zLen (o1 + 2)) (zLen (b + 2))) (zC (zObj o1 0) (zC (zObj b 0) (zC (zObj b 0) (zC (zArr (o1 + 3) 0) (zC (zArr (b + 3) 0) (zC (!Nat.beq (o1 + 3) (b + 3)) (zC (zCo 0 0 ((zCpy (zCpy (zUp (zUp M b 0 (M o1 0)) b 3 ((zUp M b 0 (M o1 0)) o1 3)) (o1 + 1) 0 (b + 1) 0 6) (o1 + 2) 0 (b + 2) 0 6) b 3) (zLen (o1 + 3)) (zLen (b + 3))) (zC (zObj o1 0) (zC (zObj b 0) (zC (zObj b 0) (zC (zArr (o1 + 4) 0) (zC (zArr (b + 4) 0) (zC (!Nat.beq (o1 + 4) (b + 4)) (zC (zCo 0 0 ((zCpy (zCpy (zCpy (zUp (zUp M b 0 (M o1 0)) b 3 ((zUp M b 0 (M o1 0)) o1 3)) (o1 + 1) 0 (b + 1) 0 6) (o1 + 2) 0 (b + 2) 0 6) (o1 + 3) 0 (b + 3) 0 ((zCpy (zCpy (zUp (zUp M b 0 (M o1 0)) b 3 ((zUp M b 0 (M o1 0)) o1 3)) (o1 + 1) 0 (b + 1) 0 6) (o1 + 2) 0 (b + 2) 0 6) b 3)) b 3) (zLen (o1 + 4)) (zLen (b + 4))) (zC (zObj o1 0) (zC (zObj b 0) (zC (zObj b 0) (zC (zArr (o1 + 5) 0) (zC (zArr (b + 5) 0) (zC (!Nat.beq (o1 + 5) (b + 5)) (zC (zCo 0 0 ((zCpy (zCpy (zCpy (zCpy (zUp (zUp M b 0 (M o1 0)) b 3 ((zUp M b 0 (M o1 0)) o1 3)) (o1 + 1) 0 (b + 1) 0 6) (o1 + 2) 0 (b + 2) 0 6) (o1 + 3) 0 (b + 3) 0 ((zCpy (zCpy (zUp (zUp M b 0 (M o1 0)) b 3 ((zUp M b 0 (M o1 0)) o1 3)) (o1 + 1) 0 (b + 1) 0 6) (o1 + 2) 0 (b + 2) 0 6) b 3)) (o1 + 4) 0 (b + 4) 0 ((zCpy (zCpy (zCpy (zUp (zUp M b 0 (M o1 0)) b 3 ((zUp M b 0 (M o1 0)) o1 3)) (o1 + 1) 0 (b + 1) 0 6) (o1 + 2) 0 (b + 2) 0 6) (o1 + 3) 0 (b + 3) 0 ((zCpy (zCpy (zUp (zUp M b 0 (M o1 0)) b 3 ((zUp M b 0 (M o1 0)) o1 3)) (o1 + 1) 0 (b + 1) 0 6) (o1 + 2) 0 (b + 2) 0 6) b 3)) b 3)) b 3) (zLen (o1 + 5)) (zLen (b + 5))) (zC (zObj o1 0) (zC (zObj b 0) (zC (zObj b 0) (zC (zArr (o1 + 6) 0) (zC (zArr (b + 6) 0) (zC (!Nat.beq (o1 + 6) (b + 6)) (zC (zCo 0 0 ((zCpy (zCpy (zCpy (zCpy (zCpy (zUp (zUp M b 0 (M o1 0)) b 3 ((zUp M b 0 (M o1 0)) o1 3)) (o1 + 1) 0 (b + 1) 0 6) (o1 + 2) 0 (b + 2) 0 6) (o1 + 3) 0 (b + 3) 0 ((zCpy (zCpy (zUp (zUp M b 0 (M o1 0)) b 3 ((zUp M b 0 (M o1 0)) o1 3)) (o1 + 1) 0 (b + 1) 0 6) (o1 + 2) 0 (b + 2) 0 6) b 3)) (o1 + 4) 0 (b + 4) 0 ((zCpy (zCpy (zCpy (zUp (zUp M b 0 (M o1 0)) b 3 ((zUp M b 0 (M o1 0)) o1 3)) (o1 + 1) 0 (b + 1) 0 6) (o1 + 2) 0 (b + 2) 0 6) (o1 + 3) 0 (b + 3) 0 ((zCpy (zCpy (zUp (zUp M b 0 (M o1 0)) b 3 ((zUp M b 0 (M o1 0)) o1 3)) (o1 + 1) 0 (b + 1) 0 6) (o1 + 2) 0 (b + 2) 0 6) b 3)) b 3)) (o1 + 5) 0 (b + 5) 0 ((zCpy (zCpy (zCpy (zCpy (zUp (zUp M b 0 (M o1 0)) b 3 ((zUp M b 0 (M o1 0)) o1 3)) (o1 + 1) 0 (b + 1) 0 6) (o1 + 2) 0 (b + 2) 0 6) (o1 + 3) 0 (b + 3) 0 ((zCpy (zCpy (zUp (zUp M b 0 (M o1 0)) b 3 ((zUp M b 0 (M o1 0)) o1 3)) (o1 + 1) 0 (b + 1) 0 6) (o1 + 2) 0 (b + 2) 0 6) b 3)) (o1 + 4) 0 (b + 4) 0 ((zCpy (zCpy (zCpy (zUp (zUp M b 0 (M o1 0)) b 3 ((zUp M b 0 (M o1 0)) o1 3)) (o1 + 1) 0 (b + 1) 0 6) (o1 + 2) 0 (b + 2) 0 6) (o1 + 3) 0 (b + 3) 0 ((zCpy (zCpy (zUp (zUp M b 0 (M o1 0)) b 3 ((zUp M b 0 (M o1 0)) o1 3)) (o1 + 1) 0 (b + 1) 0 6) (o1 + 2) 0 (b + 2) 0 6) b 3)) b 3)) b 3)) b 3) (zLen (o1 + 6)) (zLen (b + 6))) (K 0 (zCpy (zCpy (zCpy (zCpy (zCpy (zCpy (zUp (zUp M b 0 (M o1 0)) b 3 ((zUp M b 0 (M o1 0)) o1 3)) (o1 + 1) 0 (b + 1) 0 6) (o1 + 2) 0 (b + 2) 0 6) (o1 + 3) 0 (b + 3) 0 ((zCpy (zCpy (zUp (zUp M b 0 (M o1 0)) b 3 ((zUp M b 0 (M o1 0)) o1 3)) (o1 + 1) 0 (b + 1) 0 6) (o1 + 2) 0 (b + 2) 0 6) b 3)) (o1 + 4) 0 (b + 4) 0 ((zCpy (zCpy (zCpy (zUp (zUp M b 0 (M o1 0)) b 3 ((zUp M b 0 (M o1 0)) o1 3)) (o1 + 1) 0 (b + 1) 0 6) (o1 + 2) 0 (b + 2) 0 6) (o1 + 3) 0 (b + 3) 0 ((zCpy (zCpy (zUp (zUp M b 0 (M o1 0)) b 3 ((zUp M b 0 (M o1 0)) o1 3)) (o1 + 1) 0 (b + 1) 0 6) (o1 + 2) 0 (b + 2) 0 6) b 3)) b 3)) (o1 + 5) 0 (b + 5) 0 ((zCpy (zCpy (zCpy (zCpy (zUp (zUp M b 0 (M o1 0)) b 3 ((zUp M b 0 (M o1 0)) o1 3)) (o1 + 1) 0 (b + 1) 0 6) (o1 + 2) 0 (b + 2) 0 6) (o1 + 3) 0 (b + 3) 0 ((zCpy (zCpy (zUp (zUp M b 0 (M o1 0)) b 3 ((zUp M b 0 (M o1 0)) o1 3)) (o1 + 1) 0 (b + 1) 0 6) (o1 + 2) 0 (b + 2) 0 6) b 3)) (o1 + 4) 0 (b + 4) 0 ((zCpy (zCpy (zCpy (zUp (zUp M b 0 (M o1 0)) b 3 ((zUp M b 0 (M o1 0)) o1 3)) (o1 + 1) 0 (b + 1) 0 6) (o1 + 2) 0 (b + 2) 0 6) (o1 + 3) 0 (b + 3) 0 ((zCpy (zCpy (zUp (zUp M b 0 (M o1 0)) b 3 ((zUp M b 0 (M o1 0)) o1 3)) (o1 + 1) 0 (b + 1) 0 6) (o1 + 2) 0 (b + 2) 0 6) b 3)) b 3)) b 3)) (o1 + 6) 0 (b + 6) 0 ((zCpy (zCpy (zCpy (zCpy (zCpy (zUp (zUp M b 0 (M o1 0)) b 3 ((zUp M b 0 (M o1 0)) o1 3)) (o1 + 1) 0 (b + 1) 0 6) (o1 + 2) 0 (b + 2) 0 6) (o1 + 3) 0 (b + 3) 0 ((zCpy (zCpy (zUp (zUp M b 0 (M o1 0)) b 3 ((zUp M b 0 (M o1 0)) o1 3)) (o1 + 1) 0 (b + 1) 0 6) (o1 + 2) 0 (b + 2) 0 6) b 3)) (o1 + 4) 0 (b + 4) 0 ((zCpy (zCpy (zCpy (zUp (zUp M b 0 (M o1 0)) b 3 ((zUp M b 0 (M o1 0)) o1 3)) (o1 + 1) 0 (b + 1) 0 6) (o1 + 2) 0 (b + 2) 0 6) (o1 + 3) 0 (b + 3) 0 ((zCpy (zCpy (zUp (zUp M b 0 (M o1 0)) b 3 ((zUp M b 0 (M o1 0)) o1 3)) (o1 + 1) 0 (b + 1) 0 6) (o1 + 2) 0 (b + 2) 0 6) b 3)) b 3)) (o1 + 5) 0 (b + 5) 0 ((zCpy (zCpy (zCpy (zCpy (zUp (zUp M b 0 (M o1 0)) b 3 ((zUp M b 0 (M o1 0)) o1 3)) (o1 + 1) 0 (b + 1) 0 6) (o1 + 2) 0 (b + 2) 0 6) (o1 + 3) 0 (b + 3) 0 ((zCpy (zCpy (zUp (zUp M b 0 (M o1 0)) b 3 ((zUp M b 0 (M o1 0)) o1 3)) (o1 + 1) 0 (b + 1) 0 6) (o1 + 2) 0 (b + 2) 0 6) b 3)) (o1 + 4) 0 (b + 4) 0 ((zCpy (zCpy (zCpy (zUp (zUp M b 0 (M o1 0)) b 3 ((zUp M b 0 (M o1 0)) o1 3)) (o1 + 1) 0 (b + 1) 0 6) (o1 + 2) 0 (b + 2) 0 6) (o1 + 3) 0 (b + 3) 0 ((zCpy (zCpy (zUp (zUp M b 0 (M o1 0)) b 3 ((zUp M b 0 (M o1 0)) o1 3)) (o1 + 1) 0 (b + 1) 0 6) (o1 + 2) 0 (b + 2) 0 6) b 3)) b 3)) b 3)) b 3))))))))))))))))))))))))))))))))))))))))))))))) := (zwp_blk (stops := []) (fuel := 66) pe_1).trans rfl
theorem pe_2 : zPg 2 = pg_2 := rfl
/-! 2 Bugs.isTold -/
set_option maxHeartbeats 4000000 in
set_option maxRecDepth 100000 in
theorem me_2 {d : Nat} {K : Kt} {M : Mm} {a1 : Int} {b : Nat} : zSp (d + 1) 2 [.inr (.inr b), .inl a1] M K = (zWp (zSp d) 2 K 2 [some (.inr (.inr b)), some (.inl a1), some (.inl 0)] [] M) := (zwp_blk (stops := [2]) (fuel := 23) pe_2).trans rfl
set_option maxHeartbeats 4000000 in
set_option maxRecDepth 100000 in
theorem fe_2_2 {d : Nat} {K : Kt} {M : Mm} {x1 x2 : Int} {b : Nat} : zWp (zSp d) 2 K 2 [some (.inr (.inr b)), some (.inl x1), some (.inl x2)] [] M = (zC (zObj b 0) (zC (zR32 x2) (zC (zR32 (M b 0)) (((M b 0) ≤ x2 → K 0 M) ∧ (¬ ((M b 0) ≤ x2) → zC (zObj b 0) (zC (zArr (b + 1) 0) (zC (zSm x2 (zLen (b + 1))) (zC (zR32 (M (b + 1) x2)) (zC (zR32 x1) ((¬ (M (b + 1) x2) = x1 → zWp (zSp d) 2 K 2 [some (.inr (.inr b)), some (.inl x1), some (.inl (x2 + 1))] [] M) ∧ (¬ (¬ (M (b + 1) x2) = x1) → K 1 M))))))))))) := (zwp_blk (stops := [2]) (fuel := 23) pe_2).trans rfl
theorem pe_3 : zPg 3 = pg_3 := rfl
/-! 3 Bugs.addBug -/
set_option maxHeartbeats 4000000 in
set_option maxRecDepth 100000 in
theorem me_3 {d : Nat} {K : Kt} {M : Mm} {a1 a2 : Int} {b : Nat} : zSp (d + 1) 3 [.inr (.inr b), .inl a1, .inl a2] M K = (zC (zObj b 0) (zC (zR32 (M b 0)) ((6 ≤ (M b 0) → K 0 M) ∧ (¬ (6 ≤ (M b 0)) → zC (zObj b 0) (zC (zObj b 0) (zC (zArr (b + 1) 0) (zC (zSm (M b 0) (zLen (b + 1))) (zC (zObj b 0) (zC (zObj b 0) (zC (zArr (b + 2) 0) (zC (zSm ((zUp M (b + 1) (M b 0) a1) b 0) (zLen (b + 2))) (zC (zObj b 0) (zC (zObj b 0) (K 0 (zUp (zUp (zUp M (b + 1) (M b 0) a1) (b + 2) ((zUp M (b + 1) (M b 0) a1) b 0) a2) b 0 (((zUp (zUp M (b + 1) (M b 0) a1) (b + 2) ((zUp M (b + 1) (M b 0) a1) b 0) a2) b 0) + 1)))))))))))))))) := (zwp_blk (stops := []) (fuel := 28) pe_3).trans rfl
theorem pe_4 : zPg 4 = pg_4 := rfl
/-! 4 Bugs.addFact -/
set_option maxHeartbeats 4000000 in
set_option maxRecDepth 100000 in
theorem me_4 {d : Nat} {K : Kt} {M : Mm} {a1 a2 a3 a4 : Int} {b : Nat} : zSp (d + 1) 4 [.inr (.inr b), .inl a1, .inl a2, .inl a3, .inl a4] M K = (zC (zObj b 0) (zC (zR32 (M b 3)) ((333 ≤ (M b 3) → K 0 M) ∧ (¬ (333 ≤ (M b 3)) → zC (zObj b 0) (zC (zObj b 0) (zC (zArr (b + 3) 0) (zC (zSm (M b 3) (zLen (b + 3))) (zC (zObj b 0) (zC (zObj b 0) (zC (zArr (b + 4) 0) (zC (zSm ((zUp M (b + 3) (M b 3) a1) b 3) (zLen (b + 4))) (zC (zObj b 0) (zC (zObj b 0) (zC (zArr (b + 5) 0) (zC (zSm ((zUp (zUp M (b + 3) (M b 3) a1) (b + 4) ((zUp M (b + 3) (M b 3) a1) b 3) a2) b 3) (zLen (b + 5))) (zC (zObj b 0) (zC (zObj b 0) (zC (zArr (b + 6) 0) (zC (zSm ((zUp (zUp (zUp M (b + 3) (M b 3) a1) (b + 4) ((zUp M (b + 3) (M b 3) a1) b 3) a2) (b + 5) ((zUp (zUp M (b + 3) (M b 3) a1) (b + 4) ((zUp M (b + 3) (M b 3) a1) b 3) a2) b 3) a3) b 3) (zLen (b + 6))) (zC (zObj b 0) (zC (zObj b 0) (K 0 (zUp (zUp (zUp (zUp (zUp M (b + 3) (M b 3) a1) (b + 4) ((zUp M (b + 3) (M b 3) a1) b 3) a2) (b + 5) ((zUp (zUp M (b + 3) (M b 3) a1) (b + 4) ((zUp M (b + 3) (M b 3) a1) b 3) a2) b 3) a3) (b + 6) ((zUp (zUp (zUp M (b + 3) (M b 3) a1) (b + 4) ((zUp M (b + 3) (M b 3) a1) b 3) a2) (b + 5) ((zUp (zUp M (b + 3) (M b 3) a1) (b + 4) ((zUp M (b + 3) (M b 3) a1) b 3) a2) b 3) a3) b 3) a4) b 3 (((zUp (zUp (zUp (zUp M (b + 3) (M b 3) a1) (b + 4) ((zUp M (b + 3) (M b 3) a1) b 3) a2) (b + 5) ((zUp (zUp M (b + 3) (M b 3) a1) (b + 4) ((zUp M (b + 3) (M b 3) a1) b 3) a2) b 3) a3) (b + 6) ((zUp (zUp (zUp M (b + 3) (M b 3) a1) (b + 4) ((zUp M (b + 3) (M b 3) a1) b 3) a2) (b + 5) ((zUp (zUp M (b + 3) (M b 3) a1) (b + 4) ((zUp M (b + 3) (M b 3) a1) b 3) a2) b 3) a3) b 3) a4) b 3) + 1)))))))))))))))))))))))) := (zwp_blk (stops := []) (fuel := 40) pe_4).trans rfl
theorem pe_5 : zPg 5 = pg_5 := rfl
/-! 5 Bugs.addStep -/
set_option maxHeartbeats 4000000 in
set_option maxRecDepth 100000 in
theorem me_5 {d : Nat} {K : Kt} {M : Mm} {a1 : Int} {b : Nat} : zSp (d + 1) 5 [.inr (.inr b), .inl a1] M K = (zC (zObj b 0) (zSp d 4 [.inr (.inr b), .inl a1, .inl (-1), .inl (-1), .inl 0] M (fun _ M1 => K 0 M1))) := (zwp_blk (stops := []) (fuel := 12) pe_5).trans rfl
theorem pe_6 : zPg 6 = pg_6 := rfl
/-! 6 Bugs.bitsFor -/
set_option maxHeartbeats 4000000 in
set_option maxRecDepth 100000 in
theorem me_6 {d : Nat} {K : Kt} {M : Mm} {b o1 : Nat} : zSp (d + 1) 6 [.inr (.inr b), .inr (.inr o1)] M K = (zWp (zSp d) 6 K 10 [some (.inr (.inr b)), some (.inr (.inr o1)), some (.inl 0), some (.inl 0), some (.inl 0), some (.inl 0), none, none] [] M) := (zwp_blk (stops := [10]) (fuel := 107) pe_6).trans rfl
set_option maxHeartbeats 4000000 in
set_option maxRecDepth 100000 in
theorem fe_6_10 {d : Nat} {K : Kt} {M : Mm} {x2 x3 x4 x5 : Int} {b o1 : Nat} {u6 u7 : Option Vl} : zWp (zSp d) 6 K 10 [some (.inr (.inr b)), some (.inr (.inr o1)), some (.inl x2), some (.inl x3), some (.inl x4), some (.inl x5), u6, u7] [] M = (zC (zObj b 0) (zC (zR32 x5) (zC (zR32 (M b 3)) (((M b 3) ≤ x5 → K x2 M) ∧ (¬ ((M b 3) ≤ x5) → zC (zR32 x3) ((6 ≤ x3 → K x2 M) ∧ (¬ (6 ≤ x3) → zC (zObj b 0) (zC (zArr (b + 3) 0) (zC (zSm x5 (zLen (b + 3))) (zC (zR32 (M (b + 3) x5)) ((((M (b + 3) x5) = 15 → zWp (zSp d) 6 K 10 [some (.inr (.inr b)), some (.inr (.inr o1)), some (.inl x2), some (.inl x3), some (.inl (zIxorZ x4 1)), some (.inl (x5 + 1)), some (.inl (zIandZ x4 1)), u7] [] M) ∧ (((M (b + 3) x5) = 16 → zC (zR32 (zIandZ x4 1)) ((¬ (zIandZ x4 1) = 1 → zC (zR32 x4) (zWp (zSp d) 6 K 10 [some (.inr (.inr b)), some (.inr (.inr o1)), some (.inl x2), some (.inl x3), some (.inl (zIandZ (x4 / 2 ^ 1) (-2))), some (.inl (x5 + 1)), some (.inl (zIandZ x4 1)), u7] [] M)) ∧ (¬ (¬ (zIandZ x4 1) = 1) → zC (zR32 x4) (zWp (zSp d) 6 K 10 [some (.inr (.inr b)), some (.inr (.inr o1)), some (.inl x2), some (.inl x3), some (.inl (x4 / 2 ^ 1)), some (.inl (x5 + 1)), some (.inl (zIandZ x4 1)), u7] [] M)))) ∧ (((M (b + 3) x5) = 17 → zC (zR32 x4) (zWp (zSp d) 6 K 10 [some (.inr (.inr b)), some (.inr (.inr o1)), some (.inl x2), some (.inl x3), some (.inl (zIorZ (x4 / 2 ^ 1) (zIandZ x4 1))), some (.inl (x5 + 1)), some (.inl (zIandZ x4 1)), u7] [] M)) ∧ (((M (b + 3) x5) = 18 → zC (zSm x3 32) (zWp (zSp d) 6 K 10 [some (.inr (.inr b)), some (.inr (.inr o1)), some (.inl (zIorZ x2 ((zIandZ x4 1) * 2 ^ x3.toNat))), some (.inl (x3 + 1)), some (.inl 0), some (.inl (x5 + 1)), some (.inl (zIandZ x4 1)), u7] [] M)) ∧ True)))) ∧ (((M (b + 3) x5) < 15 ∨ 18 < (M (b + 3) x5)) → zC (zObj b 0) (zC (zArr (b + 3) 0) (zC (zSm x5 (zLen (b + 3))) (zC (zR32 (M (b + 3) x5)) (zC (zDv (M (b + 3) x5) 3) (zC (zObj b 0) (zC (zArr (b + 4) 0) (zC (zSm x5 (zLen (b + 4))) (zC (zObj b 0) (zC (zArr (b + 5) 0) (zC (zSm x5 (zLen (b + 5))) (zC (zObj o1 9) (zSp d 89 [.inr (.inr o1), .inl ((M (b + 3) x5) / 3), .inl (M (b + 4) x5), .inl (M (b + 5) x5)] M (fun z1 M1 => zC (zObj b 0) (zC (zArr (b + 3) 0) (zC (zSm x5 (zLen (b + 3))) (zC (zR32 (M1 (b + 3) x5)) (zC (zDv (M1 (b + 3) x5) 3) (zC (zObj b 0) (zC (zArr (b + 6) 0) (zC (zSm x5 (zLen (b + 6))) (zSp d 7 [.inl z1, .inl ((M1 (b + 3) x5) % 3), .inl (M1 (b + 6) x5)] M1 (fun z2 M2 => zC (zR32 z2) ((z2 = 0 → zWp (zSp d) 6 K 10 [some (.inr (.inr b)), some (.inr (.inr o1)), some (.inl x2), some (.inl x3), some (.inl (zIorZ (x4 * 2 ^ 1) 0)), some (.inl (x5 + 1)), some (.inl (zIandZ x4 1)), some (.inl z1)] [] M2) ∧ (¬ (z2 = 0) → zWp (zSp d) 6 K 10 [some (.inr (.inr b)), some (.inr (.inr o1)), some (.inl x2), some (.inl x3), some (.inl (zIorZ (x4 * 2 ^ 1) 1)), some (.inl (x5 + 1)), some (.inl (zIandZ x4 1)), some (.inl z1)] [] M2)))))))))))))))))))))))))))))))))))) := (zwp_blk (stops := [10]) (fuel := 107) pe_6).trans rfl
theorem pe_7 : zPg 7 = pg_7 := rfl
/-! 7 Bugs.compares -/
set_option maxHeartbeats 4000000 in
set_option maxRecDepth 100000 in
theorem me_7 {d : Nat} {K : Kt} {M : Mm} {a1 a2 a3 : Int} : zSp (d + 1) 7 [.inl a1, .inl a2, .inl a3] M K = (zC (zR32 a2) ((¬ a2 = 0 → zC (zR32 a2) ((¬ a2 = 1 → zC (zR32 a1) (zC (zR32 a3) ((¬ a1 = a3 → K 0 M) ∧ (¬ (¬ a1 = a3) → K 1 M)))) ∧ (¬ (¬ a2 = 1) → zC (zR32 a1) (zC (zR32 a3) ((a1 ≤ a3 → K 0 M) ∧ (¬ (a1 ≤ a3) → K 1 M)))))) ∧ (¬ (¬ a2 = 0) → zC (zR32 a1) (zC (zR32 a3) ((a3 ≤ a1 → K 0 M) ∧ (¬ (a3 ≤ a1) → K 1 M)))))) := (zwp_blk (stops := []) (fuel := 31) pe_7).trans rfl
theorem pe_8 : zPg 8 = pg_8 := rfl
/-! 8 BugsReader.readAll -/
set_option maxHeartbeats 4000000 in
set_option maxRecDepth 100000 in
theorem me_8 {d : Nat} {K : Kt} {M : Mm} : zSp (d + 1) 8 [.inr (.inr 136)] M K = (zSp d 0 [.inr (.inr 31)] M (fun _ M1 => zSp d 65 [.inr (.inr 2)] M1 (fun _ M2 => zWp (zSp d) 8 K 16 [some (.inr (.inr 136)), some (.inl 0)] [] M2))) := (zwp_blk (stops := [16]) (fuel := 32) pe_8).trans rfl
set_option maxHeartbeats 4000000 in
set_option maxRecDepth 100000 in
theorem fe_8_16 {d : Nat} {K : Kt} {M : Mm} {x1 : Int} : zWp (zSp d) 8 K 16 [some (.inr (.inr 136)), some (.inl x1)] [] M = (zC (zR32 x1) ((6 < x1 → K 1 M) ∧ (¬ (6 < x1) → zSp d 72 [.inr (.inr 2)] M (fun z1 M1 => zC (zR32 z1) ((¬ z1 = 0 → K 1 M1) ∧ (¬ (¬ z1 = 0) → zSp d 9 [.inr (.inr 136)] M1 (fun z2 M2 => zC (zR32 z2) ((z2 = 0 → K 0 M2) ∧ (¬ (z2 = 0) → zSp d 10 [.inr (.inr 136)] M2 (fun z3 M3 => zC (zR32 z3) ((¬ z3 = 0 → zWp (zSp d) 8 K 16 [some (.inr (.inr 136)), some (.inl (x1 + 1))] [] M3) ∧ (¬ (¬ z3 = 0) → K 0 M3)))))))))))) := (zwp_blk (stops := [16]) (fuel := 32) pe_8).trans rfl
theorem pe_9 : zPg 9 = pg_9 := rfl
/-! 9 BugsReader.readHead -/
set_option maxHeartbeats 4000000 in
set_option maxRecDepth 100000 in
theorem me_9 {d : Nat} {K : Kt} {M : Mm} : zSp (d + 1) 9 [.inr (.inr 136)] M K = (zSp d 73 [.inr (.inr 2), .inl 89358336] M (fun z1 M1 => zC (zR32 z1) ((¬ z1 = 0 → zC (zR32 (M1 31 0)) ((¬ (M1 31 0) = 6 → zSp d 67 [.inr (.inr 2)] M1 (fun _ M2 => zSp d 76 [.inr (.inr 2)] M2 (fun z3 M3 => zC (zR32 z3) ((¬ z3 = 0 → zSp d 2 [.inr (.inr 31), .inl (M3 2 5)] M3 (fun z4 M4 => zC (zR32 z4) ((z4 = 0 → zSp d 67 [.inr (.inr 2)] M4 (fun _ M5 => zSp d 77 [.inr (.inr 2), .inl 507661312] M5 (fun z6 M6 => zC (zR32 z6) ((¬ z6 = 0 → zSp d 75 [.inr (.inr 2)] M6 (fun z7 M7 => zC (zR32 z7) ((¬ z7 = 0 → zC (zR32 (M7 2 5)) (((M7 2 5) < 1 → zWp (zSp d) 9 K 155 [some (.inr (.inr 136)), some (.inl (M3 2 5)), some (.inl (M7 2 5))] [] M7) ∧ (¬ ((M7 2 5) < 1) → zC (zR32 (M7 2 5)) (((M7 2 5) ≤ 100 → zSp d 67 [.inr (.inr 2)] M7 (fun _ M8 => zSp d 3 [.inr (.inr 31), .inl (M3 2 5), .inl (M7 2 5)] M8 (fun _ M9 => zSp d 77 [.inr (.inr 2), .inl 780318720] M9 (fun z10 M10 => zC (zBo z10) (K z10 M10))))) ∧ (¬ ((M7 2 5) ≤ 100) → zWp (zSp d) 9 K 155 [some (.inr (.inr 136)), some (.inl (M3 2 5)), some (.inl (M7 2 5))] [] M7))))) ∧ (¬ (¬ z7 = 0) → zSp d 66 [.inr (.inr 2), .inl 1] M7 (fun z11 M11 => zC (zBo z11) (K z11 M11)))))) ∧ (¬ (¬ z6 = 0) → K 0 M6))))) ∧ (¬ (z4 = 0) → zSp d 66 [.inr (.inr 2), .inl 3] M4 (fun z12 M12 => zC (zBo z12) (K z12 M12)))))) ∧ (¬ (¬ z3 = 0) → zSp d 66 [.inr (.inr 2), .inl 1] M3 (fun z13 M13 => zC (zBo z13) (K z13 M13))))))) ∧ (¬ (¬ (M1 31 0) = 6) → zSp d 66 [.inr (.inr 2), .inl 4] M1 (fun z14 M14 => zC (zBo z14) (K z14 M14))))) ∧ (¬ (¬ z1 = 0) → zSp d 66 [.inr (.inr 2), .inl 1] M1 (fun z15 M15 => zC (zBo z15) (K z15 M15)))))) := (zwp_blk (stops := [155]) (fuel := 98) pe_9).trans rfl
set_option maxHeartbeats 4000000 in
set_option maxRecDepth 100000 in
theorem fe_9_155 {d : Nat} {K : Kt} {M : Mm} {x1 x2 : Int} : zWp (zSp d) 9 K 155 [some (.inr (.inr 136)), some (.inl x1), some (.inl x2)] [] M = (zSp d 66 [.inr (.inr 2), .inl 2] M (fun z1 M1 => zC (zBo z1) (K z1 M1))) := (zwp_blk (stops := [155]) (fuel := 98) pe_9).trans rfl
theorem pe_10 : zPg 10 = pg_10 := rfl
/-! 10 BugsReader.readTest -/
set_option maxHeartbeats 4000000 in
set_option maxRecDepth 100000 in
theorem me_10 {d : Nat} {K : Kt} {M : Mm} : zSp (d + 1) 10 [.inr (.inr 136)] M K = (zWp (zSp d) 10 K 12 [some (.inr (.inr 136)), some (.inl 0)] [] (zUp (zUp M 136 4 0) 136 5 0)) := (zwp_blk (stops := [12, 113]) (fuel := 71) pe_10).trans rfl
set_option maxHeartbeats 4000000 in
set_option maxRecDepth 100000 in
theorem fe_10_12 {d : Nat} {K : Kt} {M : Mm} {x1 : Int} : zWp (zSp d) 10 K 12 [some (.inr (.inr 136)), some (.inl x1)] [] M = (zC (zR32 x1) ((1000 ≤ x1 → zSp d 66 [.inr (.inr 2), .inl 1] M (fun z1 M1 => zC (zBo z1) (K z1 M1))) ∧ (¬ (1000 ≤ x1) → zSp d 13 [.inr (.inr 136)] M (fun z2 M2 => zC (zR32 z2) ((z2 = 0 → K 0 M2) ∧ (¬ (z2 = 0) → zSp d 17 [.inr (.inr 136)] M2 (fun z3 M3 => zC (zR32 z3) ((¬ z3 = 0 → zSp d 15 [.inr (.inr 136)] M3 (fun _ M4 => zSp d 14 [.inr (.inr 136)] M4 (fun z5 M5 => zC (zR32 z5) ((¬ z5 = 0 → zSp d 73 [.inr (.inr 2), .inl 48365568] M5 (fun z6 M6 => zC (zR32 z6) ((z6 = 0 → zSp d 73 [.inr (.inr 2), .inl 522190848] M6 (fun z7 M7 => zC (zR32 z7) ((z7 = 0 → zSp d 16 [.inr (.inr 136), .inl 17] M7 (fun _ M8 => zSp d 11 [.inr (.inr 136)] M8 (fun z9 M9 => zC (zBo z9) (K z9 M9)))) ∧ (¬ (z7 = 0) → zSp d 16 [.inr (.inr 136), .inl 17] M7 (fun _ M10 => zSp d 12 [.inr (.inr 136), .inl 17] M10 (fun _ M11 => zWp (zSp d) 10 K 113 [some (.inr (.inr 136)), some (.inl x1)] [] M11)))))) ∧ (¬ (z6 = 0) → zSp d 16 [.inr (.inr 136), .inl 16] M6 (fun _ M12 => zSp d 12 [.inr (.inr 136), .inl 16] M12 (fun _ M13 => zWp (zSp d) 10 K 113 [some (.inr (.inr 136)), some (.inl x1)] [] M13)))))) ∧ (¬ (¬ z5 = 0) → K 0 M5))))) ∧ (¬ (¬ z3 = 0) → K 0 M3))))))))) := (zwp_blk (stops := [12, 113]) (fuel := 71) pe_10).trans rfl
set_option maxHeartbeats 4000000 in
set_option maxRecDepth 100000 in
theorem fe_10_113 {d : Nat} {K : Kt} {M : Mm} {x1 : Int} : zWp (zSp d) 10 K 113 [some (.inr (.inr 136)), some (.inl x1)] [] M = (zSp d 67 [.inr (.inr 2)] M (fun _ M1 => zWp (zSp d) 10 K 12 [some (.inr (.inr 136)), some (.inl (x1 + 1))] [] M1)) := (zwp_blk (stops := [12, 113]) (fuel := 71) pe_10).trans rfl
theorem pe_11 : zPg 11 = pg_11 := rfl
/-! 11 BugsReader.endTest -/
set_option maxHeartbeats 4000000 in
set_option maxRecDepth 100000 in
theorem me_11 {d : Nat} {K : Kt} {M : Mm} : zSp (d + 1) 11 [.inr (.inr 136)] M K = (zC (zR32 (M 136 4)) (((M 136 4) ≤ 0 → zSp d 5 [.inr (.inr 31), .inl 18] M (fun _ M1 => zSp d 78 [.inr (.inr 2), .inl 59] M1 (fun z2 M2 => zC (zBo z2) (K z2 M2)))) ∧ (¬ ((M 136 4) ≤ 0) → zSp d 66 [.inr (.inr 2), .inl 1] M (fun z3 M3 => zC (zBo z3) (K z3 M3))))) := (zwp_blk (stops := []) (fuel := 22) pe_11).trans rfl
theorem pe_12 : zPg 12 = pg_12 := rfl
/-! 12 BugsReader.holdBack -/
set_option maxHeartbeats 4000000 in
set_option maxRecDepth 100000 in
theorem me_12 {d : Nat} {K : Kt} {M : Mm} {a1 : Int} : zSp (d + 1) 12 [.inr (.inr 136), .inl a1] M K = (zC (zR32 (M 136 4)) ((21 ≤ (M 136 4) → K 0 M) ∧ (¬ (21 ≤ (M 136 4)) → zC (zSm (M 136 4) 21) (K 0 (zUp (zUp M 137 (M 136 4) a1) 136 4 ((M 136 4) + 1)))))) := (zwp_blk (stops := []) (fuel := 22) pe_12).trans rfl
theorem pe_13 : zPg 13 = pg_13 := rfl
/-! 13 BugsReader.readAhead -/
set_option maxHeartbeats 4000000 in
set_option maxRecDepth 100000 in
theorem me_13 {d : Nat} {K : Kt} {M : Mm} : zSp (d + 1) 13 [.inr (.inr 136)] M K = (zWp (zSp d) 13 K 2 [some (.inr (.inr 136)), some (.inl 0), none] [] M) := (zwp_blk (stops := [2, 36, 65]) (fuel := 53) pe_13).trans rfl
set_option maxHeartbeats 4000000 in
set_option maxRecDepth 100000 in
theorem fe_13_2 {d : Nat} {K : Kt} {M : Mm} {x1 : Int} {u2 : Option Vl} : zWp (zSp d) 13 K 2 [some (.inr (.inr 136)), some (.inl x1), u2] [] M = (zC (zR32 x1) ((6 < x1 → K 1 M) ∧ (¬ (6 < x1) → zSp d 73 [.inr (.inr 2), .inl 486146048] M (fun z1 M1 => zC (zR32 z1) ((¬ z1 = 0 → zWp (zSp d) 13 K 36 [some (.inr (.inr 136)), some (.inl x1), some (.inl z1)] [] M1) ∧ (¬ (¬ z1 = 0) → zSp d 74 [.inr (.inr 2), .inl 91] M1 (fun z2 M2 => zC (zR32 z2) ((¬ z2 = 0 → zWp (zSp d) 13 K 36 [some (.inr (.inr 136)), some (.inl x1), some (.inl z1)] [] M2) ∧ (¬ (¬ z2 = 0) → K 1 M2))))))))) := (zwp_blk (stops := [2, 36, 65]) (fuel := 53) pe_13).trans rfl
set_option maxHeartbeats 4000000 in
set_option maxRecDepth 100000 in
theorem fe_13_36 {d : Nat} {K : Kt} {M : Mm} {x1 x2 : Int} : zWp (zSp d) 13 K 36 [some (.inr (.inr 136)), some (.inl x1), some (.inl x2)] [] M = (zC (zR32 (M 136 5)) ((¬ (M 136 5) = 6 → zC (zR32 x2) ((x2 = 0 → zWp (zSp d) 13 K 65 [some (.inr (.inr 136)), some (.inl x1), some (.inl x2)] [.inl 0, .inr (.inr 136)] M) ∧ (¬ (x2 = 0) → zWp (zSp d) 13 K 65 [some (.inr (.inr 136)), some (.inl x1), some (.inl x2)] [.inl 15, .inr (.inr 136)] M))) ∧ (¬ (¬ (M 136 5) = 6) → zSp d 66 [.inr (.inr 2), .inl 4] M (fun z1 M1 => zC (zBo z1) (K z1 M1))))) := (zwp_blk (stops := [2, 36, 65]) (fuel := 53) pe_13).trans rfl
set_option maxHeartbeats 4000000 in
set_option maxRecDepth 100000 in
theorem fe_13_65 {d : Nat} {K : Kt} {M : Mm} {x1 x2 y1 : Int} : zWp (zSp d) 13 K 65 [some (.inr (.inr 136)), some (.inl x1), some (.inl x2)] [.inl y1, .inr (.inr 136)] M = (zSp d 12 [.inr (.inr 136), .inl y1] M (fun _ M1 => zSp d 67 [.inr (.inr 2)] (zUp M1 136 5 ((M1 136 5) + 1)) (fun _ M2 => zWp (zSp d) 13 K 2 [some (.inr (.inr 136)), some (.inl (x1 + 1)), some (.inl x2)] [] M2))) := (zwp_blk (stops := [2, 36, 65]) (fuel := 53) pe_13).trans rfl
theorem pe_14 : zPg 14 = pg_14 := rfl
/-! 14 BugsReader.readClosed -/
set_option maxHeartbeats 4000000 in
set_option maxRecDepth 100000 in
theorem me_14 {d : Nat} {K : Kt} {M : Mm} : zSp (d + 1) 14 [.inr (.inr 136)] M K = (zWp (zSp d) 14 K 2 [some (.inr (.inr 136)), some (.inl 0)] [] M) := (zwp_blk (stops := [2]) (fuel := 47) pe_14).trans rfl
set_option maxHeartbeats 4000000 in
set_option maxRecDepth 100000 in
theorem fe_14_2 {d : Nat} {K : Kt} {M : Mm} {x1 : Int} : zWp (zSp d) 14 K 2 [some (.inr (.inr 136)), some (.inl x1)] [] M = (zC (zR32 x1) ((1000 ≤ x1 → K 1 M) ∧ (¬ (1000 ≤ x1) → zSp d 74 [.inr (.inr 2), .inl 93] M (fun z1 M1 => zC (zR32 z1) ((z1 = 0 → K 1 M1) ∧ (¬ (z1 = 0) → zSp d 16 [.inr (.inr 136), .inl 17] M1 (fun _ M2 => zC (zR32 (M2 136 4)) ((¬ (M2 136 4) = 0 → zSp d 67 [.inr (.inr 2)] (zUp (zUp M2 136 4 ((M2 136 4) - 1)) 136 5 ((M2 136 5) - 1)) (fun _ M3 => zSp d 15 [.inr (.inr 136)] M3 (fun _ M4 => zWp (zSp d) 14 K 2 [some (.inr (.inr 136)), some (.inl (x1 + 1))] [] M4))) ∧ (¬ (¬ (M2 136 4) = 0) → zSp d 66 [.inr (.inr 2), .inl 1] M2 (fun z5 M5 => zC (zBo z5) (K z5 M5))))))))))) := (zwp_blk (stops := [2]) (fuel := 47) pe_14).trans rfl
theorem pe_15 : zPg 15 = pg_15 := rfl
/-! 15 BugsReader.writeNots -/
set_option maxHeartbeats 4000000 in
set_option maxRecDepth 100000 in
theorem me_15 {d : Nat} {K : Kt} {M : Mm} : zSp (d + 1) 15 [.inr (.inr 136)] M K = (zWp (zSp d) 15 K 0 [some (.inr (.inr 136))] [] M) := rfl
set_option maxHeartbeats 4000000 in
set_option maxRecDepth 100000 in
theorem fe_15_0 {d : Nat} {K : Kt} {M : Mm} : zWp (zSp d) 15 K 0 [some (.inr (.inr 136))] [] M = (zC (zR32 (M 136 4)) (((M 136 4) ≤ 0 → K 0 M) ∧ (¬ ((M 136 4) ≤ 0) → zC (zSm ((M 136 4) - 1) 21) (zC (zR32 (M 137 ((M 136 4) - 1))) ((¬ (M 137 ((M 136 4) - 1)) = 15 → K 0 M) ∧ (¬ (¬ (M 137 ((M 136 4) - 1)) = 15) → zSp d 5 [.inr (.inr 31), .inl 15] (zUp (zUp M 136 4 ((M 136 4) - 1)) 136 5 ((M 136 5) - 1)) (fun _ M1 => zWp (zSp d) 15 K 0 [some (.inr (.inr 136))] [] M1))))))) := (zwp_blk (stops := [0]) (fuel := 35) pe_15).trans rfl
theorem pe_16 : zPg 16 = pg_16 := rfl
/-! 16 BugsReader.writeJoins -/
set_option maxHeartbeats 4000000 in
set_option maxRecDepth 100000 in
theorem me_16 {d : Nat} {K : Kt} {M : Mm} {a1 : Int} : zSp (d + 1) 16 [.inr (.inr 136), .inl a1] M K = (zWp (zSp d) 16 K 0 [some (.inr (.inr 136)), some (.inl a1)] [] M) := rfl
set_option maxHeartbeats 4000000 in
set_option maxRecDepth 100000 in
theorem fe_16_0 {d : Nat} {K : Kt} {M : Mm} {x1 : Int} : zWp (zSp d) 16 K 0 [some (.inr (.inr 136)), some (.inl x1)] [] M = (zC (zR32 (M 136 4)) (((M 136 4) ≤ 0 → K 0 M) ∧ (¬ ((M 136 4) ≤ 0) → zC (zSm ((M 136 4) - 1) 21) (zC (zR32 (M 137 ((M 136 4) - 1))) (((M 137 ((M 136 4) - 1)) < 16 → K 0 M) ∧ (¬ ((M 137 ((M 136 4) - 1)) < 16) → zC (zSm ((M 136 4) - 1) 21) (zC (zR32 (M 137 ((M 136 4) - 1))) (zC (zR32 x1) ((x1 < (M 137 ((M 136 4) - 1)) → K 0 M) ∧ (¬ (x1 < (M 137 ((M 136 4) - 1))) → zC (zSm ((M 136 4) - 1) 21) (zSp d 5 [.inr (.inr 31), .inl (M 137 ((M 136 4) - 1))] (zUp M 136 4 ((M 136 4) - 1)) (fun _ M1 => zWp (zSp d) 16 K 0 [some (.inr (.inr 136)), some (.inl x1)] [] M1)))))))))))) := (zwp_blk (stops := [0]) (fuel := 42) pe_16).trans rfl
theorem pe_17 : zPg 17 = pg_17 := rfl
/-! 17 BugsReader.readFact -/
set_option maxHeartbeats 4000000 in
set_option maxRecDepth 100000 in
theorem me_17 {d : Nat} {K : Kt} {M : Mm} : zSp (d + 1) 17 [.inr (.inr 136)] M K = (zSp d 18 [.inr (.inr 136)] M (fun z1 M1 => zC (zR32 z1) ((¬ z1 = (-1) → zSp d 67 [.inr (.inr 2)] M1 (fun _ M2 => zC (zR32 z1) ((z1 < 2 → zWp (zSp d) 17 K 47 [some (.inr (.inr 136)), some (.inl z1), some (.inl (-1)), some (.inl (-1)), none] [] M2) ∧ (¬ (z1 < 2) → zSp d 20 [.inr (.inr 136)] M2 (fun z3 M3 => zC (zR32 z3) ((¬ z3 = (-1) → zWp (zSp d) 17 K 47 [some (.inr (.inr 136)), some (.inl z1), some (.inl z3), some (.inl (-1)), none] [] M3) ∧ (¬ (¬ z3 = (-1)) → K 0 M3))))))) ∧ (¬ (¬ z1 = (-1)) → zSp d 66 [.inr (.inr 2), .inl 1] M1 (fun z4 M4 => zC (zBo z4) (K z4 M4)))))) := (zwp_blk (stops := [47, 64]) (fuel := 86) pe_17).trans rfl
set_option maxHeartbeats 4000000 in
set_option maxRecDepth 100000 in
theorem fe_17_47 {d : Nat} {K : Kt} {M : Mm} {x1 x2 x3 : Int} : zWp (zSp d) 17 K 47 [some (.inr (.inr 136)), some (.inl x1), some (.inl x2), some (.inl x3), none] [] M = (zC (zR32 x1) ((x1 < 3 → zWp (zSp d) 17 K 64 [some (.inr (.inr 136)), some (.inl x1), some (.inl x2), some (.inl x3), none] [] M) ∧ (¬ (x1 < 3) → zSp d 20 [.inr (.inr 136)] M (fun z1 M1 => zC (zR32 z1) ((¬ z1 = (-1) → zWp (zSp d) 17 K 64 [some (.inr (.inr 136)), some (.inl x1), some (.inl x2), some (.inl z1), none] [] M1) ∧ (¬ (¬ z1 = (-1)) → K 0 M1)))))) := (zwp_blk (stops := [47, 64]) (fuel := 86) pe_17).trans rfl
set_option maxHeartbeats 4000000 in
set_option maxRecDepth 100000 in
theorem fe_17_64 {d : Nat} {K : Kt} {M : Mm} {x1 x2 x3 : Int} : zWp (zSp d) 17 K 64 [some (.inr (.inr 136)), some (.inl x1), some (.inl x2), some (.inl x3), none] [] M = (zSp d 19 [.inr (.inr 136)] M (fun z1 M1 => zC (zR32 z1) ((¬ z1 = (-1) → zSp d 67 [.inr (.inr 2)] M1 (fun _ M2 => zSp d 75 [.inr (.inr 2)] M2 (fun z3 M3 => zC (zR32 z3) ((¬ z3 = 0 → zSp d 4 [.inr (.inr 31), .inl ((x1 * 3) + z1), .inl x2, .inl x3, .inl (M3 2 5)] M3 (fun _ M4 => zSp d 67 [.inr (.inr 2)] M4 (fun _ M5 => K 1 M5))) ∧ (¬ (¬ z3 = 0) → zSp d 66 [.inr (.inr 2), .inl 1] M3 (fun z6 M6 => zC (zBo z6) (K z6 M6))))))) ∧ (¬ (¬ z1 = (-1)) → zSp d 66 [.inr (.inr 2), .inl 1] M1 (fun z7 M7 => zC (zBo z7) (K z7 M7)))))) := (zwp_blk (stops := [47, 64]) (fuel := 86) pe_17).trans rfl
theorem pe_18 : zPg 18 = pg_18 := rfl
/-! 18 BugsReader.countTold -/
set_option maxHeartbeats 4000000 in
set_option maxRecDepth 100000 in
theorem me_18 {d : Nat} {K : Kt} {M : Mm} : zSp (d + 1) 18 [.inr (.inr 136)] M K = (zSp d 73 [.inr (.inr 2), .inl 647828480] M (fun z1 M1 => zC (zR32 z1) ((z1 = 0 → zSp d 73 [.inr (.inr 2), .inl 139640832] M1 (fun z2 M2 => zC (zR32 z2) ((z2 = 0 → zSp d 73 [.inr (.inr 2), .inl 270106624] M2 (fun z3 M3 => zC (zR32 z3) ((z3 = 0 → zSp d 73 [.inr (.inr 2), .inl 719459904] M3 (fun z4 M4 => zC (zR32 z4) ((z4 = 0 → zSp d 73 [.inr (.inr 2), .inl 475811840] M4 (fun z5 M5 => zC (zR32 z5) ((z5 = 0 → K (-1) M5) ∧ (¬ (z5 = 0) → K 4 M5)))) ∧ (¬ (z4 = 0) → K 3 M4)))) ∧ (¬ (z3 = 0) → K 2 M3)))) ∧ (¬ (z2 = 0) → K 1 M2)))) ∧ (¬ (z1 = 0) → K 0 M1)))) := (zwp_blk (stops := []) (fuel := 42) pe_18).trans rfl
theorem pe_19 : zPg 19 = pg_19 := rfl
/-! 19 BugsReader.signTold -/
set_option maxHeartbeats 4000000 in
set_option maxRecDepth 100000 in
theorem me_19 {d : Nat} {K : Kt} {M : Mm} : zSp (d + 1) 19 [.inr (.inr 136)] M K = (zSp d 74 [.inr (.inr 2), .inl 60] M (fun z1 M1 => zC (zR32 z1) ((z1 = 0 → zSp d 74 [.inr (.inr 2), .inl 62] M1 (fun z2 M2 => zC (zR32 z2) ((z2 = 0 → zSp d 74 [.inr (.inr 2), .inl 61] M2 (fun z3 M3 => zC (zR32 z3) ((z3 = 0 → K (-1) M3) ∧ (¬ (z3 = 0) → K 2 M3)))) ∧ (¬ (z2 = 0) → K 1 M2)))) ∧ (¬ (z1 = 0) → K 0 M1)))) := (zwp_blk (stops := []) (fuel := 28) pe_19).trans rfl
theorem pe_20 : zPg 20 = pg_20 := rfl
/-! 20 BugsReader.readName -/
set_option maxHeartbeats 4000000 in
set_option maxRecDepth 100000 in
theorem me_20 {d : Nat} {K : Kt} {M : Mm} : zSp (d + 1) 20 [.inr (.inr 136)] M K = (zSp d 76 [.inr (.inr 2)] M (fun z1 M1 => zC (zR32 z1) ((¬ z1 = 0 → zSp d 23 [.inr (.inr 4), .inl (M1 2 5)] M1 (fun z2 M2 => zC (zR32 z2) ((¬ z2 = (-1) → zSp d 67 [.inr (.inr 2)] M2 (fun _ M3 => K z2 M3)) ∧ (¬ (¬ z2 = (-1)) → zSp d 66 [.inr (.inr 2), .inl 3] M2 (fun z4 M4 => K (-1) M4))))) ∧ (¬ (¬ z1 = 0) → zSp d 66 [.inr (.inr 2), .inl 1] M1 (fun z5 M5 => K (-1) M5))))) := (zwp_blk (stops := []) (fuel := 38) pe_20).trans rfl
theorem pe_21 : zPg 21 = pg_21 := rfl
/-! 21 Grammar.clear -/
set_option maxHeartbeats 4000000 in
set_option maxRecDepth 100000 in
theorem me_21 {d : Nat} {K : Kt} {M : Mm} {b : Nat} : zSp (d + 1) 21 [.inr (.inr b)] M K = (zC (zObj b 2) (zC (zObj b 2) (K 0 (zUp (zUp M b 0 0) b 1 0)))) := (zwp_blk (stops := []) (fuel := 12) pe_21).trans rfl
theorem pe_22 : zPg 22 = pg_22 := rfl
/-! 22 Grammar.copyFrom -/
set_option maxHeartbeats 4000000 in
set_option maxRecDepth 100000 in
theorem me_22 {d : Nat} {K : Kt} {M : Mm} {b o1 : Nat} : zSp (d + 1) 22 [.inr (.inr b), .inr (.inr o1)] M K = (zC (zObj o1 2) (zC (zObj b 2) (zC (zObj o1 2) (zC (zObj b 2) (zC (zObj o1 2) (zC (zObj b 2) (zC (zArr (o1 + 1) 0) (zC (zArr (b + 1) 0) (zC (!Nat.beq (o1 + 1) (b + 1)) (zC (zCo 0 0 24 (zLen (o1 + 1)) (zLen (b + 1))) (zC (zObj o1 2) (zC (zObj b 2) (zC (zArr (o1 + 3) 0) (zC (zArr (b + 3) 0) (zC (!Nat.beq (o1 + 3) (b + 3)) (zC (zCo 0 0 24 (zLen (o1 + 3)) (zLen (b + 3))) (zC (zObj o1 2) (zC (zObj b 2) (zC (zArr (o1 + 4) 0) (zC (zArr (b + 4) 0) (zC (!Nat.beq (o1 + 4) (b + 4)) (zC (zCo 0 0 24 (zLen (o1 + 4)) (zLen (b + 4))) (zC (zObj o1 2) (zC (zObj b 2) (zC (zArr (o1 + 6) 0) (zC (zArr (b + 6) 0) (zC (!Nat.beq (o1 + 6) (b + 6)) (zC (zCo 0 0 96 (zLen (o1 + 6)) (zLen (b + 6))) (zC (zObj o1 2) (zC (zObj b 2) (zC (zArr (o1 + 7) 0) (zC (zArr (b + 7) 0) (zC (!Nat.beq (o1 + 7) (b + 7)) (zC (zCo 0 0 6 (zLen (o1 + 7)) (zLen (b + 7))) (zC (zObj o1 2) (zC (zObj b 2) (zC (zArr (o1 + 8) 0) (zC (zArr (b + 8) 0) (zC (!Nat.beq (o1 + 8) (b + 8)) (zC (zCo 0 0 6 (zLen (o1 + 8)) (zLen (b + 8))) (zC (zObj o1 2) (zC (zObj b 2) (zC (zArr (o1 + 9) 0) (zC (zArr (b + 9) 0) (zC (!Nat.beq (o1 + 9) (b + 9)) (zC (zCo 0 0 6 (zLen (o1 + 9)) (zLen (b + 9))) (zWp (zSp d) 22 K 123 [some (.inr (.inr b)), some (.inr (.inr o1)), some (.inl 0)] [] (zCpy (zCpy (zCpy (zCpy (zCpy (zCpy (zCpy (zUp (zUp M b 0 (M o1 0)) b 1 ((zUp M b 0 (M o1 0)) o1 1)) (o1 + 1) 0 (b + 1) 0 24) (o1 + 3) 0 (b + 3) 0 24) (o1 + 4) 0 (b + 4) 0 24) (o1 + 6) 0 (b + 6) 0 96) (o1 + 7) 0 (b + 7) 0 6) (o1 + 8) 0 (b + 8) 0 6) (o1 + 9) 0 (b + 9) 0 6)))))))))))))))))))))))))))))))))))))))))))))))) := (zwp_blk (stops := [123]) (fuel := 93) pe_22).trans rfl
set_option maxHeartbeats 4000000 in
set_option maxRecDepth 100000 in
theorem fe_22_123 {d : Nat} {K : Kt} {M : Mm} {x2 : Int} {b o1 : Nat} : zWp (zSp d) 22 K 123 [some (.inr (.inr b)), some (.inr (.inr o1)), some (.inl x2)] [] M = (zC (zR32 x2) ((24 ≤ x2 → K 0 M) ∧ (¬ (24 ≤ x2) → zC (zObj b 2) (zC (zObj o1 2) (zC (zArr (o1 + 2) 3) (zC (zSm x2 (zLen (o1 + 2))) (zC (zArr (b + 2) 3) (zC (zSm x2 (zLen (b + 2))) (zC (zBo (M (o1 + 2) x2)) (zC (zObj b 2) (zC (zObj o1 2) (zC (zArr (o1 + 5) 3) (zC (zSm x2 (zLen (o1 + 5))) (zC (zArr (b + 5) 3) (zC (zSm x2 (zLen (b + 5))) (zC (zBo ((zUp M (b + 2) x2 (M (o1 + 2) x2)) (o1 + 5) x2)) (zWp (zSp d) 22 K 123 [some (.inr (.inr b)), some (.inr (.inr o1)), some (.inl (x2 + 1))] [] (zUp (zUp M (b + 2) x2 (M (o1 + 2) x2)) (b + 5) x2 ((zUp M (b + 2) x2 (M (o1 + 2) x2)) (o1 + 5) x2))))))))))))))))))) := (zwp_blk (stops := [123]) (fuel := 93) pe_22).trans rfl
theorem pe_23 : zPg 23 = pg_23 := rfl
/-! 23 Grammar.findLine -/
set_option maxHeartbeats 4000000 in
set_option maxRecDepth 100000 in
theorem me_23 {d : Nat} {K : Kt} {M : Mm} {a1 : Int} {b : Nat} : zSp (d + 1) 23 [.inr (.inr b), .inl a1] M K = (zWp (zSp d) 23 K 2 [some (.inr (.inr b)), some (.inl a1), some (.inl 0)] [] M) := (zwp_blk (stops := [2]) (fuel := 23) pe_23).trans rfl
set_option maxHeartbeats 4000000 in
set_option maxRecDepth 100000 in
theorem fe_23_2 {d : Nat} {K : Kt} {M : Mm} {x1 x2 : Int} {b : Nat} : zWp (zSp d) 23 K 2 [some (.inr (.inr b)), some (.inl x1), some (.inl x2)] [] M = (zC (zObj b 2) (zC (zR32 x2) (zC (zR32 (M b 0)) (((M b 0) ≤ x2 → K (-1) M) ∧ (¬ ((M b 0) ≤ x2) → zC (zObj b 2) (zC (zArr (b + 1) 0) (zC (zSm x2 (zLen (b + 1))) (zC (zR32 (M (b + 1) x2)) (zC (zR32 x1) ((¬ (M (b + 1) x2) = x1 → zWp (zSp d) 23 K 2 [some (.inr (.inr b)), some (.inl x1), some (.inl (x2 + 1))] [] M) ∧ (¬ (¬ (M (b + 1) x2) = x1) → K x2 M))))))))))) := (zwp_blk (stops := [2]) (fuel := 23) pe_23).trans rfl
theorem pe_24 : zPg 24 = pg_24 := rfl
/-! 24 Grammar.findSort -/
set_option maxHeartbeats 4000000 in
set_option maxRecDepth 100000 in
theorem me_24 {d : Nat} {K : Kt} {M : Mm} {a1 : Int} {b : Nat} : zSp (d + 1) 24 [.inr (.inr b), .inl a1] M K = (zWp (zSp d) 24 K 2 [some (.inr (.inr b)), some (.inl a1), some (.inl 0)] [] M) := (zwp_blk (stops := [2]) (fuel := 23) pe_24).trans rfl
set_option maxHeartbeats 4000000 in
set_option maxRecDepth 100000 in
theorem fe_24_2 {d : Nat} {K : Kt} {M : Mm} {x1 x2 : Int} {b : Nat} : zWp (zSp d) 24 K 2 [some (.inr (.inr b)), some (.inl x1), some (.inl x2)] [] M = (zC (zObj b 2) (zC (zR32 x2) (zC (zR32 (M b 1)) (((M b 1) ≤ x2 → K (-1) M) ∧ (¬ ((M b 1) ≤ x2) → zC (zObj b 2) (zC (zArr (b + 7) 0) (zC (zSm x2 (zLen (b + 7))) (zC (zR32 (M (b + 7) x2)) (zC (zR32 x1) ((¬ (M (b + 7) x2) = x1 → zWp (zSp d) 24 K 2 [some (.inr (.inr b)), some (.inl x1), some (.inl (x2 + 1))] [] M) ∧ (¬ (¬ (M (b + 7) x2) = x1) → K x2 M))))))))))) := (zwp_blk (stops := [2]) (fuel := 23) pe_24).trans rfl
theorem pe_25 : zPg 25 = pg_25 := rfl
/-! 25 Grammar.addSort -/
set_option maxHeartbeats 4000000 in
set_option maxRecDepth 100000 in
theorem me_25 {d : Nat} {K : Kt} {M : Mm} {a1 : Int} {b : Nat} : zSp (d + 1) 25 [.inr (.inr b), .inl a1] M K = (zC (zObj b 2) (zC (zR32 (M b 1)) ((6 ≤ (M b 1) → K 0 M) ∧ (¬ (6 ≤ (M b 1)) → zC (zObj b 2) (zC (zObj b 2) (zC (zArr (b + 7) 0) (zC (zSm (M b 1) (zLen (b + 7))) (zC (zObj b 2) (zC (zObj b 2) (K 0 (zUp (zUp M (b + 7) (M b 1) a1) b 1 (((zUp M (b + 7) (M b 1) a1) b 1) + 1)))))))))))) := (zwp_blk (stops := []) (fuel := 22) pe_25).trans rfl
theorem pe_26 : zPg 26 = pg_26 := rfl
/-! 26 Grammar.addLine -/
set_option maxHeartbeats 4000000 in
set_option maxRecDepth 100000 in
theorem me_26 {d : Nat} {K : Kt} {M : Mm} {a1 a2 a3 : Int} {b : Nat} : zSp (d + 1) 26 [.inr (.inr b), .inl a1, .inl a2, .inl a3] M K = (zC (zObj b 2) (zC (zR32 (M b 0)) ((24 ≤ (M b 0) → K 0 M) ∧ (¬ (24 ≤ (M b 0)) → zC (zObj b 2) (zC (zObj b 2) (zC (zArr (b + 1) 0) (zC (zSm (M b 0) (zLen (b + 1))) (zC (zObj b 2) (zC (zObj b 2) (zC (zArr (b + 3) 0) (zC (zSm ((zUp M (b + 1) (M b 0) a1) b 0) (zLen (b + 3))) (zC (zObj b 2) (zC (zObj b 2) (zC (zArr (b + 2) 3) (zC (zSm ((zUp (zUp M (b + 1) (M b 0) a1) (b + 3) ((zUp M (b + 1) (M b 0) a1) b 0) a2) b 0) (zLen (b + 2))) (zC (zBo a3) (zC (zObj b 2) (zC (zObj b 2) (zC (zArr (b + 4) 0) (zC (zSm ((zUp (zUp (zUp M (b + 1) (M b 0) a1) (b + 3) ((zUp M (b + 1) (M b 0) a1) b 0) a2) (b + 2) ((zUp (zUp M (b + 1) (M b 0) a1) (b + 3) ((zUp M (b + 1) (M b 0) a1) b 0) a2) b 0) a3) b 0) (zLen (b + 4))) (zC (zObj b 2) (zC (zObj b 2) (zC (zArr (b + 5) 3) (zC (zSm ((zUp (zUp (zUp (zUp M (b + 1) (M b 0) a1) (b + 3) ((zUp M (b + 1) (M b 0) a1) b 0) a2) (b + 2) ((zUp (zUp M (b + 1) (M b 0) a1) (b + 3) ((zUp M (b + 1) (M b 0) a1) b 0) a2) b 0) a3) (b + 4) ((zUp (zUp (zUp M (b + 1) (M b 0) a1) (b + 3) ((zUp M (b + 1) (M b 0) a1) b 0) a2) (b + 2) ((zUp (zUp M (b + 1) (M b 0) a1) (b + 3) ((zUp M (b + 1) (M b 0) a1) b 0) a2) b 0) a3) b 0) 0) b 0) (zLen (b + 5))) (zC (zObj b 2) (zC (zObj b 2) (K 0 (zUp (zUp (zUp (zUp (zUp (zUp M (b + 1) (M b 0) a1) (b + 3) ((zUp M (b + 1) (M b 0) a1) b 0) a2) (b + 2) ((zUp (zUp M (b + 1) (M b 0) a1) (b + 3) ((zUp M (b + 1) (M b 0) a1) b 0) a2) b 0) a3) (b + 4) ((zUp (zUp (zUp M (b + 1) (M b 0) a1) (b + 3) ((zUp M (b + 1) (M b 0) a1) b 0) a2) (b + 2) ((zUp (zUp M (b + 1) (M b 0) a1) (b + 3) ((zUp M (b + 1) (M b 0) a1) b 0) a2) b 0) a3) b 0) 0) (b + 5) ((zUp (zUp (zUp (zUp M (b + 1) (M b 0) a1) (b + 3) ((zUp M (b + 1) (M b 0) a1) b 0) a2) (b + 2) ((zUp (zUp M (b + 1) (M b 0) a1) (b + 3) ((zUp M (b + 1) (M b 0) a1) b 0) a2) b 0) a3) (b + 4) ((zUp (zUp (zUp M (b + 1) (M b 0) a1) (b + 3) ((zUp M (b + 1) (M b 0) a1) b 0) a2) (b + 2) ((zUp (zUp M (b + 1) (M b 0) a1) (b + 3) ((zUp M (b + 1) (M b 0) a1) b 0) a2) b 0) a3) b 0) 0) b 0) 0) b 0 (((zUp (zUp (zUp (zUp (zUp M (b + 1) (M b 0) a1) (b + 3) ((zUp M (b + 1) (M b 0) a1) b 0) a2) (b + 2) ((zUp (zUp M (b + 1) (M b 0) a1) (b + 3) ((zUp M (b + 1) (M b 0) a1) b 0) a2) b 0) a3) (b + 4) ((zUp (zUp (zUp M (b + 1) (M b 0) a1) (b + 3) ((zUp M (b + 1) (M b 0) a1) b 0) a2) (b + 2) ((zUp (zUp M (b + 1) (M b 0) a1) (b + 3) ((zUp M (b + 1) (M b 0) a1) b 0) a2) b 0) a3) b 0) 0) (b + 5) ((zUp (zUp (zUp (zUp M (b + 1) (M b 0) a1) (b + 3) ((zUp M (b + 1) (M b 0) a1) b 0) a2) (b + 2) ((zUp (zUp M (b + 1) (M b 0) a1) (b + 3) ((zUp M (b + 1) (M b 0) a1) b 0) a2) b 0) a3) (b + 4) ((zUp (zUp (zUp M (b + 1) (M b 0) a1) (b + 3) ((zUp M (b + 1) (M b 0) a1) b 0) a2) (b + 2) ((zUp (zUp M (b + 1) (M b 0) a1) (b + 3) ((zUp M (b + 1) (M b 0) a1) b 0) a2) b 0) a3) b 0) 0) b 0) 0) b 0) + 1))))))))))))))))))))))))))))) := (zwp_blk (stops := []) (fuel := 46) pe_26).trans rfl
theorem pe_27 : zPg 27 = pg_27 := rfl
/-! 27 Grammar.addBehind -/
set_option maxHeartbeats 4000000 in
set_option maxRecDepth 100000 in
theorem me_27 {d : Nat} {K : Kt} {M : Mm} {a1 : Int} {b : Nat} : zSp (d + 1) 27 [.inr (.inr b), .inl a1] M K = (zC (zObj b 2) (zC (zR32 ((M b 0) - 1)) ((((M b 0) - 1) < 0 → K 0 M) ∧ (¬ (((M b 0) - 1) < 0) → zC (zObj b 2) (zC (zArr (b + 4) 0) (zC (zSm ((M b 0) - 1) (zLen (b + 4))) (zC (zR32 (M (b + 4) ((M b 0) - 1))) ((4 ≤ (M (b + 4) ((M b 0) - 1)) → K 0 M) ∧ (¬ (4 ≤ (M (b + 4) ((M b 0) - 1))) → zC (zObj b 2) (zC (zObj b 2) (zC (zArr (b + 4) 0) (zC (zSm ((M b 0) - 1) (zLen (b + 4))) (zC (zArr (b + 6) 0) (zC (zSm ((((M b 0) - 1) * 4) + (M (b + 4) ((M b 0) - 1))) (zLen (b + 6))) (zC (zObj b 2) (zC (zArr (b + 4) 0) (zC (zSm ((M b 0) - 1) (zLen (b + 4))) (zC (zArr (b + 4) 0) (zC (zSm ((M b 0) - 1) (zLen (b + 4))) (K 0 (zUp (zUp M (b + 6) ((((M b 0) - 1) * 4) + (M (b + 4) ((M b 0) - 1))) a1) (b + 4) ((M b 0) - 1) (((zUp M (b + 6) ((((M b 0) - 1) * 4) + (M (b + 4) ((M b 0) - 1))) a1) (b + 4) ((M b 0) - 1)) + 1)))))))))))))))))))))) := (zwp_blk (stops := []) (fuel := 39) pe_27).trans rfl
theorem pe_28 : zPg 28 = pg_28 := rfl
/-! 28 Grammar.sortBehind -/
set_option maxHeartbeats 4000000 in
set_option maxRecDepth 100000 in
theorem me_28 {d : Nat} {K : Kt} {M : Mm} {a1 a2 : Int} {b : Nat} : zSp (d + 1) 28 [.inr (.inr b), .inl a1, .inl a2] M K = (zC (zObj b 2) (zC (zArr (b + 6) 0) (zC (zSm ((a1 * 4) + a2) (zLen (b + 6))) (K (M (b + 6) ((a1 * 4) + a2)) M)))) := (zwp_blk (stops := []) (fuel := 14) pe_28).trans rfl
theorem pe_29 : zPg 29 = pg_29 := rfl
/-! 29 Grammar.needed -/
set_option maxHeartbeats 4000000 in
set_option maxRecDepth 100000 in
theorem me_29 {d : Nat} {K : Kt} {M : Mm} {a1 : Int} {b : Nat} : zSp (d + 1) 29 [.inr (.inr b), .inl a1] M K = (zC (zObj b 2) (zC (zArr (b + 5) 3) (zC (zSm a1 (zLen (b + 5))) (zC (zR32 (M (b + 5) a1)) (((M (b + 5) a1) = 0 → zC (zObj b 2) (zC (zArr (b + 4) 0) (zC (zSm a1 (zLen (b + 4))) (K (M (b + 4) a1) M)))) ∧ (¬ ((M (b + 5) a1) = 0) → zC (zObj b 2) (zC (zArr (b + 4) 0) (zC (zSm a1 (zLen (b + 4))) (K ((M (b + 4) a1) - 1) M))))))))) := (zwp_blk (stops := []) (fuel := 22) pe_29).trans rfl
theorem pe_30 : zPg 30 = pg_30 := rfl
/-! 30 Grammar.sortOfPart -/
set_option maxHeartbeats 4000000 in
set_option maxRecDepth 100000 in
theorem me_30 {d : Nat} {K : Kt} {M : Mm} {a1 a2 : Int} {b : Nat} : zSp (d + 1) 30 [.inr (.inr b), .inl a1, .inl a2] M K = (zC (zObj b 2) (zSp d 29 [.inr (.inr b), .inl a1] M (fun z1 M1 => zC (zR32 a2) (zC (zR32 z1) ((z1 ≤ a2 → zC (zObj b 2) (zC (zArr (b + 5) 3) (zC (zSm a1 (zLen (b + 5))) (zC (zR32 (M1 (b + 5) a1)) (((M1 (b + 5) a1) = 0 → K (-1) M1) ∧ (¬ ((M1 (b + 5) a1) = 0) → zC (zObj b 2) (zC (zArr (b + 4) 0) (zC (zSm a1 (zLen (b + 4))) (zC (zObj b 2) (zSp d 28 [.inr (.inr b), .inl a1, .inl ((M1 (b + 4) a1) - 1)] M1 (fun z2 M2 => K z2 M2))))))))))) ∧ (¬ (z1 ≤ a2) → zC (zObj b 2) (zSp d 28 [.inr (.inr b), .inl a1, .inl a2] M1 (fun z3 M3 => K z3 M3)))))))) := (zwp_blk (stops := []) (fuel := 32) pe_30).trans rfl
theorem pe_31 : zPg 31 = pg_31 := rfl
/-! 31 Grammar.findLeast -/
set_option maxHeartbeats 4000000 in
set_option maxRecDepth 100000 in
theorem me_31 {d : Nat} {K : Kt} {M : Mm} {b : Nat} : zSp (d + 1) 31 [.inr (.inr b)] M K = (zWp (zSp d) 31 K 2 [some (.inr (.inr b)), some (.inl 0), none] [] M) := (zwp_blk (stops := [2, 32, 40, 67]) (fuel := 58) pe_31).trans rfl
set_option maxHeartbeats 4000000 in
set_option maxRecDepth 100000 in
theorem fe_31_2 {d : Nat} {K : Kt} {M : Mm} {x1 : Int} {b : Nat} : zWp (zSp d) 31 K 2 [some (.inr (.inr b)), some (.inl x1), none] [] M = (zC (zObj b 2) (zC (zR32 x1) (zC (zR32 (M b 1)) (((M b 1) ≤ x1 → zWp (zSp d) 31 K 32 [some (.inr (.inr b)), some (.inl 0), none] [] M) ∧ (¬ ((M b 1) ≤ x1) → zC (zObj b 2) (zC (zArr (b + 8) 0) (zC (zSm x1 (zLen (b + 8))) (zC (zObj b 2) (zC (zArr (b + 9) 0) (zC (zSm x1 (zLen (b + 9))) (zWp (zSp d) 31 K 2 [some (.inr (.inr b)), some (.inl (x1 + 1)), none] [] (zUp (zUp M (b + 8) x1 0) (b + 9) x1 (-1))))))))))))) := (zwp_blk (stops := [2, 32, 40, 67]) (fuel := 58) pe_31).trans rfl
set_option maxHeartbeats 4000000 in
set_option maxRecDepth 100000 in
theorem fe_31_32 {d : Nat} {K : Kt} {M : Mm} {x1 : Int} {b : Nat} {u2 : Option Vl} : zWp (zSp d) 31 K 32 [some (.inr (.inr b)), some (.inl x1), u2] [] M = (zC (zR32 x1) ((6 ≤ x1 → zWp (zSp d) 31 K 67 [some (.inr (.inr b)), some (.inl 0), u2] [] M) ∧ (¬ (6 ≤ x1) → zWp (zSp d) 31 K 40 [some (.inr (.inr b)), some (.inl x1), some (.inl 0)] [] M))) := (zwp_blk (stops := [2, 32, 40, 67]) (fuel := 58) pe_31).trans rfl
set_option maxHeartbeats 4000000 in
set_option maxRecDepth 100000 in
theorem fe_31_40 {d : Nat} {K : Kt} {M : Mm} {x1 x2 : Int} {b : Nat} : zWp (zSp d) 31 K 40 [some (.inr (.inr b)), some (.inl x1), some (.inl x2)] [] M = (zC (zObj b 2) (zC (zR32 x2) (zC (zR32 (M b 0)) (((M b 0) ≤ x2 → zWp (zSp d) 31 K 32 [some (.inr (.inr b)), some (.inl (x1 + 1)), some (.inl x2)] [] M) ∧ (¬ ((M b 0) ≤ x2) → zC (zObj b 2) (zSp d 32 [.inr (.inr b), .inl x2] M (fun _ M1 => zWp (zSp d) 31 K 40 [some (.inr (.inr b)), some (.inl x1), some (.inl (x2 + 1))] [] M1))))))) := (zwp_blk (stops := [2, 32, 40, 67]) (fuel := 58) pe_31).trans rfl
set_option maxHeartbeats 4000000 in
set_option maxRecDepth 100000 in
theorem fe_31_67 {d : Nat} {K : Kt} {M : Mm} {x1 : Int} {b : Nat} {u2 : Option Vl} : zWp (zSp d) 31 K 67 [some (.inr (.inr b)), some (.inl x1), u2] [] M = (zC (zObj b 2) (zC (zR32 x1) (zC (zR32 (M b 1)) (((M b 1) ≤ x1 → K 1 M) ∧ (¬ ((M b 1) ≤ x1) → zC (zObj b 2) (zC (zArr (b + 8) 0) (zC (zSm x1 (zLen (b + 8))) (zC (zR32 (M (b + 8) x1)) ((¬ (M (b + 8) x1) = 0 → zWp (zSp d) 31 K 67 [some (.inr (.inr b)), some (.inl (x1 + 1)), u2] [] M) ∧ (¬ (¬ (M (b + 8) x1) = 0) → K 0 M)))))))))) := (zwp_blk (stops := [2, 32, 40, 67]) (fuel := 58) pe_31).trans rfl
theorem pe_32 : zPg 32 = pg_32 := rfl
/-! 32 Grammar.betterLeast -/
set_option maxHeartbeats 4000000 in
set_option maxRecDepth 100000 in
theorem me_32 {d : Nat} {K : Kt} {M : Mm} {a1 : Int} {b : Nat} : zSp (d + 1) 32 [.inr (.inr b), .inl a1] M K = (zWp (zSp d) 32 K 4 [some (.inr (.inr b)), some (.inl a1), some (.inl 1), some (.inl 0), none] [] M) := (zwp_blk (stops := [4, 85]) (fuel := 66) pe_32).trans rfl
set_option maxHeartbeats 4000000 in
set_option maxRecDepth 100000 in
theorem fe_32_4 {d : Nat} {K : Kt} {M : Mm} {x1 x2 x3 : Int} {b : Nat} {u4 : Option Vl} : zWp (zSp d) 32 K 4 [some (.inr (.inr b)), some (.inl x1), some (.inl x2), some (.inl x3), u4] [] M = (zC (zObj b 2) (zSp d 29 [.inr (.inr b), .inl x1] M (fun z1 M1 => zC (zR32 x3) (zC (zR32 z1) ((z1 ≤ x3 → zC (zObj b 2) (zC (zArr (b + 3) 0) (zC (zSm x1 (zLen (b + 3))) (zC (zObj b 2) (zC (zArr (b + 8) 0) (zC (zSm (M1 (b + 3) x1) (zLen (b + 8))) (zC (zR32 (M1 (b + 8) (M1 (b + 3) x1))) (((M1 (b + 8) (M1 (b + 3) x1)) = 0 → zWp (zSp d) 32 K 85 [some (.inr (.inr b)), some (.inl x1), some (.inl x2), some (.inl (M1 (b + 3) x1)), some (.inl (M1 (b + 8) (M1 (b + 3) x1)))] [] M1) ∧ (¬ ((M1 (b + 8) (M1 (b + 3) x1)) = 0) → zC (zR32 x2) (zC (zR32 (M1 (b + 8) (M1 (b + 3) x1))) ((x2 < (M1 (b + 8) (M1 (b + 3) x1)) → zWp (zSp d) 32 K 85 [some (.inr (.inr b)), some (.inl x1), some (.inl x2), some (.inl (M1 (b + 3) x1)), some (.inl (M1 (b + 8) (M1 (b + 3) x1)))] [] M1) ∧ (¬ (x2 < (M1 (b + 8) (M1 (b + 3) x1))) → zC (zR32 x2) (zC (zR32 (M1 (b + 8) (M1 (b + 3) x1))) ((¬ x2 = (M1 (b + 8) (M1 (b + 3) x1)) → K 0 M1) ∧ (¬ (¬ x2 = (M1 (b + 8) (M1 (b + 3) x1))) → zC (zObj b 2) (zC (zArr (b + 9) 0) (zC (zSm (M1 (b + 3) x1) (zLen (b + 9))) (zC (zR32 x1) (zC (zR32 (M1 (b + 9) (M1 (b + 3) x1))) (((M1 (b + 9) (M1 (b + 3) x1)) ≤ x1 → K 0 M1) ∧ (¬ ((M1 (b + 9) (M1 (b + 3) x1)) ≤ x1) → zWp (zSp d) 32 K 85 [some (.inr (.inr b)), some (.inl x1), some (.inl x2), some (.inl (M1 (b + 3) x1)), some (.inl (M1 (b + 8) (M1 (b + 3) x1)))] [] M1))))))))))))))))))))) ∧ (¬ (z1 ≤ x3) → zC (zObj b 2) (zC (zObj b 2) (zSp d 28 [.inr (.inr b), .inl x1, .inl x3] M1 (fun z2 M2 => zC (zArr (b + 8) 0) (zC (zSm z2 (zLen (b + 8))) (zC (zR32 (M2 (b + 8) z2)) ((¬ (M2 (b + 8) z2) = 0 → zWp (zSp d) 32 K 4 [some (.inr (.inr b)), some (.inl x1), some (.inl (x2 + (M2 (b + 8) z2))), some (.inl (x3 + 1)), some (.inl (M2 (b + 8) z2))] [] M2) ∧ (¬ (¬ (M2 (b + 8) z2) = 0) → K 0 M2))))))))))))) := (zwp_blk (stops := [4, 85]) (fuel := 66) pe_32).trans rfl
set_option maxHeartbeats 4000000 in
set_option maxRecDepth 100000 in
theorem fe_32_85 {d : Nat} {K : Kt} {M : Mm} {x1 x2 x3 x4 : Int} {b : Nat} : zWp (zSp d) 32 K 85 [some (.inr (.inr b)), some (.inl x1), some (.inl x2), some (.inl x3), some (.inl x4)] [] M = (zC (zObj b 2) (zC (zArr (b + 8) 0) (zC (zSm x3 (zLen (b + 8))) (zC (zObj b 2) (zC (zArr (b + 9) 0) (zC (zSm x3 (zLen (b + 9))) (K 0 (zUp (zUp M (b + 8) x3 x2) (b + 9) x3 x1)))))))) := (zwp_blk (stops := [4, 85]) (fuel := 66) pe_32).trans rfl
theorem pe_33 : zPg 33 = pg_33 := rfl
/-! 33 Grammar.leastName -/
set_option maxHeartbeats 4000000 in
set_option maxRecDepth 100000 in
theorem me_33 {d : Nat} {K : Kt} {M : Mm} {a1 a2 : Int} {b : Nat} : zSp (d + 1) 33 [.inr (.inr b), .inl a1, .inl a2] M K = (zC (zObj b 2) (zC (zArr (b + 9) 0) (zC (zSm a1 (zLen (b + 9))) (zWp (zSp d) 33 K 13 [some (.inr (.inr b)), some (.inl a1), some (.inl a2), some (.inl (M (b + 9) a1)), some (.inl a2), some (.inl 0), none, none, none] [] M)))) := (zwp_blk (stops := [13, 34, 101]) (fuel := 69) pe_33).trans rfl
set_option maxHeartbeats 4000000 in
set_option maxRecDepth 100000 in
theorem fe_33_13 {d : Nat} {K : Kt} {M : Mm} {x1 x2 x3 x4 x5 : Int} {b : Nat} {u6 u7 u8 : Option Vl} : zWp (zSp d) 33 K 13 [some (.inr (.inr b)), some (.inl x1), some (.inl x2), some (.inl x3), some (.inl x4), some (.inl x5), u6, u7, u8] [] M = (zC (zR32 x5) ((6 ≤ x5 → K x3 M) ∧ (¬ (6 ≤ x5) → zC (zR32 x4) ((x4 ≤ 0 → K x3 M) ∧ (¬ (x4 ≤ 0) → zWp (zSp d) 33 K 34 [some (.inr (.inr b)), some (.inl x1), some (.inl x2), some (.inl x3), some (.inl (x4 + (-1))), some (.inl x5), some (.inl (-1)), some (.inl 0), u8] [] M))))) := (zwp_blk (stops := [13, 34, 101]) (fuel := 69) pe_33).trans rfl
set_option maxHeartbeats 4000000 in
set_option maxRecDepth 100000 in
theorem fe_33_34 {d : Nat} {K : Kt} {M : Mm} {x1 x2 x3 x4 x5 x6 x7 : Int} {b : Nat} {u8 : Option Vl} : zWp (zSp d) 33 K 34 [some (.inr (.inr b)), some (.inl x1), some (.inl x2), some (.inl x3), some (.inl x4), some (.inl x5), some (.inl x6), some (.inl x7), u8] [] M = (zC (zObj b 2) (zSp d 29 [.inr (.inr b), .inl x3] M (fun z1 M1 => zC (zR32 x7) (zC (zR32 z1) ((z1 ≤ x7 → zWp (zSp d) 33 K 101 [some (.inr (.inr b)), some (.inl x1), some (.inl x2), some (.inl x3), some (.inl x4), some (.inl x5), some (.inl x6), some (.inl x7), u8] [] M1) ∧ (¬ (z1 ≤ x7) → zC (zR32 x6) ((¬ x6 = (-1) → zWp (zSp d) 33 K 101 [some (.inr (.inr b)), some (.inl x1), some (.inl x2), some (.inl x3), some (.inl x4), some (.inl x5), some (.inl x6), some (.inl x7), u8] [] M1) ∧ (¬ (¬ x6 = (-1)) → zC (zObj b 2) (zSp d 28 [.inr (.inr b), .inl x3, .inl x7] M1 (fun z2 M2 => zC (zObj b 2) (zC (zArr (b + 8) 0) (zC (zSm z2 (zLen (b + 8))) (zC (zR32 x4) (zC (zR32 (M2 (b + 8) z2)) (((M2 (b + 8) z2) ≤ x4 → zC (zObj b 2) (zC (zArr (b + 8) 0) (zC (zSm z2 (zLen (b + 8))) (zWp (zSp d) 33 K 34 [some (.inr (.inr b)), some (.inl x1), some (.inl x2), some (.inl x3), some (.inl (x4 - (M2 (b + 8) z2))), some (.inl x5), some (.inl x6), some (.inl (x7 + 1)), some (.inl z2)] [] M2)))) ∧ (¬ ((M2 (b + 8) z2) ≤ x4) → zC (zObj b 2) (zC (zArr (b + 9) 0) (zC (zSm z2 (zLen (b + 9))) (zWp (zSp d) 33 K 34 [some (.inr (.inr b)), some (.inl x1), some (.inl x2), some (.inl x3), some (.inl x4), some (.inl x5), some (.inl (M2 (b + 9) z2)), some (.inl (x7 + 1)), some (.inl z2)] [] M2))))))))))))))))))) := (zwp_blk (stops := [13, 34, 101]) (fuel := 69) pe_33).trans rfl
set_option maxHeartbeats 4000000 in
set_option maxRecDepth 100000 in
theorem fe_33_101 {d : Nat} {K : Kt} {M : Mm} {x1 x2 x3 x4 x5 x6 x7 : Int} {b : Nat} {u8 : Option Vl} : zWp (zSp d) 33 K 101 [some (.inr (.inr b)), some (.inl x1), some (.inl x2), some (.inl x3), some (.inl x4), some (.inl x5), some (.inl x6), some (.inl x7), u8] [] M = (zC (zR32 x6) ((¬ x6 = (-1) → zWp (zSp d) 33 K 13 [some (.inr (.inr b)), some (.inl x1), some (.inl x2), some (.inl x6), some (.inl x4), some (.inl (x5 + 1)), some (.inl x6), some (.inl x7), u8] [] M) ∧ (¬ (¬ x6 = (-1)) → K (-1) M))) := (zwp_blk (stops := [13, 34, 101]) (fuel := 69) pe_33).trans rfl
theorem pe_34 : zPg 34 = pg_34 := rfl
/-! 34 GrammarReader.readAll -/
set_option maxHeartbeats 4000000 in
set_option maxRecDepth 100000 in
theorem me_34 {d : Nat} {K : Kt} {M : Mm} : zSp (d + 1) 34 [.inr (.inr 2), .inr (.inr 14)] M K = (zSp d 21 [.inr (.inr 14)] M (fun _ M1 => zSp d 65 [.inr (.inr 2)] M1 (fun _ M2 => zWp (zSp d) 34 K 10 [some (.inr (.inr 2)), some (.inr (.inr 14)), some (.inl 0)] [] M2))) := (zwp_blk (stops := [10, 42]) (fuel := 37) pe_34).trans rfl
set_option maxHeartbeats 4000000 in
set_option maxRecDepth 100000 in
theorem fe_34_10 {d : Nat} {K : Kt} {M : Mm} {x2 : Int} : zWp (zSp d) 34 K 10 [some (.inr (.inr 2)), some (.inr (.inr 14)), some (.inl x2)] [] M = (zC (zR32 x2) ((24 < x2 → zWp (zSp d) 34 K 42 [some (.inr (.inr 2)), some (.inr (.inr 14)), some (.inl x2)] [] M) ∧ (¬ (24 < x2) → zSp d 35 [.inr (.inr 2), .inr (.inr 14)] M (fun z1 M1 => zC (zR32 z1) ((¬ z1 = 0 → zSp d 72 [.inr (.inr 2)] M1 (fun z2 M2 => zC (zR32 z2) ((z2 = 0 → zWp (zSp d) 34 K 10 [some (.inr (.inr 2)), some (.inr (.inr 14)), some (.inl (x2 + 1))] [] M2) ∧ (¬ (z2 = 0) → zWp (zSp d) 34 K 42 [some (.inr (.inr 2)), some (.inr (.inr 14)), some (.inl x2)] [] M2)))) ∧ (¬ (¬ z1 = 0) → K 0 M1)))))) := (zwp_blk (stops := [10, 42]) (fuel := 37) pe_34).trans rfl
set_option maxHeartbeats 4000000 in
set_option maxRecDepth 100000 in
theorem fe_34_42 {d : Nat} {K : Kt} {M : Mm} {x2 : Int} : zWp (zSp d) 34 K 42 [some (.inr (.inr 2)), some (.inr (.inr 14)), some (.inl x2)] [] M = (zSp d 31 [.inr (.inr 14)] M (fun z1 M1 => zC (zR32 z1) ((¬ z1 = 0 → K 1 M1) ∧ (¬ (¬ z1 = 0) → zSp d 66 [.inr (.inr 2), .inl 5] M1 (fun z2 M2 => zC (zR32 z2) ((z2 = 0 → K 0 M2) ∧ (¬ (z2 = 0) → K 1 M2))))))) := (zwp_blk (stops := [10, 42]) (fuel := 37) pe_34).trans rfl
theorem pe_35 : zPg 35 = pg_35 := rfl
/-! 35 GrammarReader.readLine -/
set_option maxHeartbeats 4000000 in
set_option maxRecDepth 100000 in
theorem me_35 {d : Nat} {K : Kt} {M : Mm} : zSp (d + 1) 35 [.inr (.inr 2), .inr (.inr 14)] M K = (zSp d 73 [.inr (.inr 2), .inl 217658368] M (fun z1 M1 => zC (zR32 z1) ((¬ z1 = 0 → zWp (zSp d) 35 K 26 [some (.inr (.inr 2)), some (.inr (.inr 14)), some (.inl z1), none, none] [] M1) ∧ (¬ (¬ z1 = 0) → zSp d 73 [.inr (.inr 2), .inl 407934976] M1 (fun z2 M2 => zC (zR32 z2) ((¬ z2 = 0 → zWp (zSp d) 35 K 26 [some (.inr (.inr 2)), some (.inr (.inr 14)), some (.inl z1), none, none] [] M2) ∧ (¬ (¬ z2 = 0) → zSp d 66 [.inr (.inr 2), .inl 1] M2 (fun z3 M3 => zC (zBo z3) (K z3 M3))))))))) := (zwp_blk (stops := [26, 128]) (fuel := 80) pe_35).trans rfl
set_option maxHeartbeats 4000000 in
set_option maxRecDepth 100000 in
theorem fe_35_26 {d : Nat} {K : Kt} {M : Mm} {x2 : Int} : zWp (zSp d) 35 K 26 [some (.inr (.inr 2)), some (.inr (.inr 14)), some (.inl x2), none, none] [] M = (zC (zR32 (M 14 0)) ((¬ (M 14 0) = 24 → zSp d 67 [.inr (.inr 2)] M (fun _ M1 => zSp d 76 [.inr (.inr 2)] M1 (fun z2 M2 => zC (zR32 z2) ((¬ z2 = 0 → zSp d 23 [.inr (.inr 14), .inl (M2 2 5)] M2 (fun z3 M3 => zC (zR32 z3) ((z3 = (-1) → zSp d 67 [.inr (.inr 2)] M3 (fun _ M4 => zSp d 36 [.inr (.inr 2), .inr (.inr 14)] M4 (fun z5 M5 => zC (zR32 z5) ((¬ z5 = (-1) → zSp d 26 [.inr (.inr 14), .inl (M2 2 5), .inl z5, .inl x2] M5 (fun _ M6 => zC (zR32 x2) ((x2 = 0 → zWp (zSp d) 35 K 128 [some (.inr (.inr 2)), some (.inr (.inr 14)), some (.inl x2), some (.inl (M2 2 5)), some (.inl z5)] [] M6) ∧ (¬ (x2 = 0) → zSp d 78 [.inr (.inr 2), .inl 58] M6 (fun z7 M7 => zC (zR32 z7) ((z7 = 0 → K 0 M7) ∧ (¬ (z7 = 0) → zSp d 37 [.inr (.inr 2), .inr (.inr 14)] M7 (fun z8 M8 => zC (zR32 z8) ((¬ z8 = 0 → zWp (zSp d) 35 K 128 [some (.inr (.inr 2)), some (.inr (.inr 14)), some (.inl x2), some (.inl (M2 2 5)), some (.inl z5)] [] M8) ∧ (¬ (¬ z8 = 0) → K 0 M8)))))))))) ∧ (¬ (¬ z5 = (-1)) → K 0 M5))))) ∧ (¬ (z3 = (-1)) → zSp d 66 [.inr (.inr 2), .inl 3] M3 (fun z9 M9 => zC (zBo z9) (K z9 M9)))))) ∧ (¬ (¬ z2 = 0) → zSp d 66 [.inr (.inr 2), .inl 1] M2 (fun z10 M10 => zC (zBo z10) (K z10 M10))))))) ∧ (¬ (¬ (M 14 0) = 24) → zSp d 66 [.inr (.inr 2), .inl 4] M (fun z11 M11 => zC (zBo z11) (K z11 M11))))) := (zwp_blk (stops := [26, 128]) (fuel := 80) pe_35).trans rfl
set_option maxHeartbeats 4000000 in
set_option maxRecDepth 100000 in
theorem fe_35_128 {d : Nat} {K : Kt} {M : Mm} {x2 x3 x4 : Int} : zWp (zSp d) 35 K 128 [some (.inr (.inr 2)), some (.inr (.inr 14)), some (.inl x2), some (.inl x3), some (.inl x4)] [] M = (zSp d 78 [.inr (.inr 2), .inl 59] M (fun z1 M1 => zC (zBo z1) (K z1 M1))) := (zwp_blk (stops := [26, 128]) (fuel := 80) pe_35).trans rfl
theorem pe_36 : zPg 36 = pg_36 := rfl
/-! 36 GrammarReader.readSort -/
set_option maxHeartbeats 4000000 in
set_option maxRecDepth 100000 in
theorem me_36 {d : Nat} {K : Kt} {M : Mm} : zSp (d + 1) 36 [.inr (.inr 2), .inr (.inr 14)] M K = (zSp d 76 [.inr (.inr 2)] M (fun z1 M1 => zC (zR32 z1) ((¬ z1 = 0 → zSp d 24 [.inr (.inr 14), .inl (M1 2 5)] M1 (fun z2 M2 => zC (zR32 z2) ((¬ z2 = (-1) → zWp (zSp d) 36 K 59 [some (.inr (.inr 2)), some (.inr (.inr 14)), some (.inl z2)] [] M2) ∧ (¬ (¬ z2 = (-1)) → zC (zR32 (M2 14 1)) ((¬ (M2 14 1) = 6 → zSp d 25 [.inr (.inr 14), .inl (M2 2 5)] M2 (fun _ M3 => zWp (zSp d) 36 K 59 [some (.inr (.inr 2)), some (.inr (.inr 14)), some (.inl (M2 14 1))] [] M3)) ∧ (¬ (¬ (M2 14 1) = 6) → zSp d 66 [.inr (.inr 2), .inl 4] M2 (fun z4 M4 => K (-1) M4))))))) ∧ (¬ (¬ z1 = 0) → zSp d 66 [.inr (.inr 2), .inl 1] M1 (fun z5 M5 => K (-1) M5))))) := (zwp_blk (stops := [59]) (fuel := 43) pe_36).trans rfl
set_option maxHeartbeats 4000000 in
set_option maxRecDepth 100000 in
theorem fe_36_59 {d : Nat} {K : Kt} {M : Mm} {x2 : Int} : zWp (zSp d) 36 K 59 [some (.inr (.inr 2)), some (.inr (.inr 14)), some (.inl x2)] [] M = (zSp d 67 [.inr (.inr 2)] M (fun _ M1 => K x2 M1)) := (zwp_blk (stops := [59]) (fuel := 43) pe_36).trans rfl
theorem pe_37 : zPg 37 = pg_37 := rfl
/-! 37 GrammarReader.readBehind -/
set_option maxHeartbeats 4000000 in
set_option maxRecDepth 100000 in
theorem me_37 {d : Nat} {K : Kt} {M : Mm} : zSp (d + 1) 37 [.inr (.inr 2), .inr (.inr 14)] M K = (zWp (zSp d) 37 K 9 [some (.inr (.inr 2)), some (.inr (.inr 14)), some (.inl ((M 14 0) - 1)), some (.inl 0), none] [] M) := (zwp_blk (stops := [9, 41]) (fuel := 58) pe_37).trans rfl
set_option maxHeartbeats 4000000 in
set_option maxRecDepth 100000 in
theorem fe_37_9 {d : Nat} {K : Kt} {M : Mm} {x2 x3 : Int} {u4 : Option Vl} : zWp (zSp d) 37 K 9 [some (.inr (.inr 2)), some (.inr (.inr 14)), some (.inl x2), some (.inl x3), u4] [] M = (zC (zR32 x3) ((4 < x3 → K 1 M) ∧ (¬ (4 < x3) → zSp d 74 [.inr (.inr 2), .inl 59] M (fun z1 M1 => zC (zR32 z1) ((¬ z1 = 0 → K 1 M1) ∧ (¬ (¬ z1 = 0) → zC (zR32 x3) ((¬ x3 = 4 → zWp (zSp d) 37 K 41 [some (.inr (.inr 2)), some (.inr (.inr 14)), some (.inl x2), some (.inl x3), u4] [] M1) ∧ (¬ (¬ x3 = 4) → zSp d 76 [.inr (.inr 2)] M1 (fun z2 M2 => zC (zR32 z2) ((z2 = 0 → zWp (zSp d) 37 K 41 [some (.inr (.inr 2)), some (.inr (.inr 14)), some (.inl x2), some (.inl x3), u4] [] M2) ∧ (¬ (z2 = 0) → zSp d 66 [.inr (.inr 2), .inl 4] M2 (fun z3 M3 => zC (zBo z3) (K z3 M3))))))))))))) := (zwp_blk (stops := [9, 41]) (fuel := 58) pe_37).trans rfl
set_option maxHeartbeats 4000000 in
set_option maxRecDepth 100000 in
theorem fe_37_41 {d : Nat} {K : Kt} {M : Mm} {x2 x3 : Int} {u4 : Option Vl} : zWp (zSp d) 37 K 41 [some (.inr (.inr 2)), some (.inr (.inr 14)), some (.inl x2), some (.inl x3), u4] [] M = (zSp d 36 [.inr (.inr 2), .inr (.inr 14)] M (fun z1 M1 => zC (zR32 z1) ((¬ z1 = (-1) → zSp d 27 [.inr (.inr 14), .inl z1] M1 (fun _ M2 => zSp d 74 [.inr (.inr 2), .inl 42] M2 (fun z3 M3 => zC (zR32 z3) ((z3 = 0 → zWp (zSp d) 37 K 9 [some (.inr (.inr 2)), some (.inr (.inr 14)), some (.inl x2), some (.inl (x3 + 1)), some (.inl z1)] [] M3) ∧ (¬ (z3 = 0) → zC (zSm x2 24) (zSp d 67 [.inr (.inr 2)] (zUp M3 19 x2 1) (fun _ M4 => K 1 M4))))))) ∧ (¬ (¬ z1 = (-1)) → K 0 M1)))) := (zwp_blk (stops := [9, 41]) (fuel := 58) pe_37).trans rfl
theorem pe_38 : zPg 38 = pg_38 := rfl
/-! 38 InputReader.readAll -/
set_option maxHeartbeats 4000000 in
set_option maxRecDepth 100000 in
theorem me_38 {d : Nat} {K : Kt} {M : Mm} : zSp (d + 1) 38 [.inr (.inr 134)] M K = (zSp d 79 [.inr (.inr 46)] (zUp M 134 4 0) (fun _ M1 => zSp d 65 [.inr (.inr 2)] M1 (fun _ M2 => zWp (zSp d) 38 K 21 [some (.inr (.inr 134)), some (.inl 0), none] [] M2))) := (zwp_blk (stops := [21, 54, 58, 81]) (fuel := 56) pe_38).trans rfl
set_option maxHeartbeats 4000000 in
set_option maxRecDepth 100000 in
theorem fe_38_21 {d : Nat} {K : Kt} {M : Mm} {x1 : Int} {u2 : Option Vl} : zWp (zSp d) 38 K 21 [some (.inr (.inr 134)), some (.inl x1), u2] [] M = (zC (zR32 x1) ((1000 ≤ x1 → zWp (zSp d) 38 K 81 [some (.inr (.inr 134)), some (.inl x1), u2] [] M) ∧ (¬ (1000 ≤ x1) → zC (zR32 (M 134 4)) (((M 134 4) ≤ 0 → zWp (zSp d) 38 K 54 [some (.inr (.inr 134)), some (.inl x1), u2] [] M) ∧ (¬ ((M 134 4) ≤ 0) → zSp d 74 [.inr (.inr 2), .inl 41] M (fun z1 M1 => zC (zR32 z1) ((z1 = 0 → zWp (zSp d) 38 K 54 [some (.inr (.inr 134)), some (.inl x1), u2] [] M1) ∧ (¬ (z1 = 0) → zSp d 39 [.inr (.inr 134)] M1 (fun z2 M2 => zWp (zSp d) 38 K 58 [some (.inr (.inr 134)), some (.inl x1), u2] [.inl z2] M2))))))))) := (zwp_blk (stops := [21, 54, 58, 81]) (fuel := 56) pe_38).trans rfl
set_option maxHeartbeats 4000000 in
set_option maxRecDepth 100000 in
theorem fe_38_54 {d : Nat} {K : Kt} {M : Mm} {x1 : Int} {u2 : Option Vl} : zWp (zSp d) 38 K 54 [some (.inr (.inr 134)), some (.inl x1), u2] [] M = (zSp d 40 [.inr (.inr 134)] M (fun z1 M1 => zWp (zSp d) 38 K 58 [some (.inr (.inr 134)), some (.inl x1), u2] [.inl z1] M1)) := (zwp_blk (stops := [21, 54, 58, 81]) (fuel := 56) pe_38).trans rfl
set_option maxHeartbeats 4000000 in
set_option maxRecDepth 100000 in
theorem fe_38_58 {d : Nat} {K : Kt} {M : Mm} {x1 y0 : Int} {u2 : Option Vl} : zWp (zSp d) 38 K 58 [some (.inr (.inr 134)), some (.inl x1), u2] [.inl y0] M = (zC (zR32 y0) ((¬ y0 = 0 → zC (zR32 (M 134 4)) ((¬ (M 134 4) = 0 → zWp (zSp d) 38 K 21 [some (.inr (.inr 134)), some (.inl (x1 + 1)), some (.inl y0)] [] M) ∧ (¬ (¬ (M 134 4) = 0) → zWp (zSp d) 38 K 81 [some (.inr (.inr 134)), some (.inl x1), some (.inl y0)] [] M))) ∧ (¬ (¬ y0 = 0) → K 0 M))) := (zwp_blk (stops := [21, 54, 58, 81]) (fuel := 56) pe_38).trans rfl
set_option maxHeartbeats 4000000 in
set_option maxRecDepth 100000 in
theorem fe_38_81 {d : Nat} {K : Kt} {M : Mm} {x1 : Int} {u2 : Option Vl} : zWp (zSp d) 38 K 81 [some (.inr (.inr 134)), some (.inl x1), u2] [] M = (zSp d 72 [.inr (.inr 2)] M (fun z1 M1 => zC (zR32 z1) ((¬ z1 = 0 → K 1 M1) ∧ (¬ (¬ z1 = 0) → zSp d 66 [.inr (.inr 2), .inl 1] M1 (fun z2 M2 => zC (zR32 z2) ((z2 = 0 → K 0 M2) ∧ (¬ (z2 = 0) → K 1 M2))))))) := (zwp_blk (stops := [21, 54, 58, 81]) (fuel := 56) pe_38).trans rfl
theorem pe_39 : zPg 39 = pg_39 := rfl
/-! 39 InputReader.readClosed -/
set_option maxHeartbeats 4000000 in
set_option maxRecDepth 100000 in
theorem me_39 {d : Nat} {K : Kt} {M : Mm} : zSp (d + 1) 39 [.inr (.inr 134)] M K = (zC (zSm ((M 134 4) - 1) 12) (zC (zSm (M 135 ((M 134 4) - 1)) 80) (zC (zSm (M 135 ((M 134 4) - 1)) 80) (zSp d 29 [.inr (.inr 4), .inl (M 47 (M 135 ((M 134 4) - 1)))] M (fun z1 M1 => zC (zR32 (M 48 (M 135 ((M 134 4) - 1)))) (zC (zR32 z1) ((z1 ≤ (M 48 (M 135 ((M 134 4) - 1))) → zSp d 67 [.inr (.inr 2)] (zUp M1 134 4 ((M1 134 4) - 1)) (fun _ M2 => K 1 M2)) ∧ (¬ (z1 ≤ (M 48 (M 135 ((M 134 4) - 1)))) → zSp d 66 [.inr (.inr 2), .inl 5] M1 (fun z3 M3 => zC (zBo z3) (K z3 M3)))))))))) := (zwp_blk (stops := []) (fuel := 43) pe_39).trans rfl
theorem pe_40 : zPg 40 = pg_40 := rfl
/-! 40 InputReader.readNode -/
set_option maxHeartbeats 4000000 in
set_option maxRecDepth 100000 in
theorem me_40 {d : Nat} {K : Kt} {M : Mm} : zSp (d + 1) 40 [.inr (.inr 134)] M K = (zSp d 74 [.inr (.inr 2), .inl 40] M (fun z1 M1 => zC (zR32 z1) ((z1 = 0 → zWp (zSp d) 40 K 51 [some (.inr (.inr 134)), some (.inl z1)] [] M1) ∧ (¬ (z1 = 0) → zC (zR32 (M1 134 4)) (((M1 134 4) = 12 → zWp (zSp d) 40 K 35 [some (.inr (.inr 134)), some (.inl z1)] [] M1) ∧ (¬ ((M1 134 4) = 12) → zC (zR32 (M1 46 1)) ((¬ (M1 46 1) = 80 → zSp d 67 [.inr (.inr 2)] M1 (fun _ M2 => zWp (zSp d) 40 K 51 [some (.inr (.inr 134)), some (.inl z1)] [] M2)) ∧ (¬ (¬ (M1 46 1) = 80) → zWp (zSp d) 40 K 35 [some (.inr (.inr 134)), some (.inl z1)] [] M1)))))))) := (zwp_blk (stops := [35, 51]) (fuel := 55) pe_40).trans rfl
set_option maxHeartbeats 4000000 in
set_option maxRecDepth 100000 in
theorem fe_40_35 {d : Nat} {K : Kt} {M : Mm} {x1 : Int} : zWp (zSp d) 40 K 35 [some (.inr (.inr 134)), some (.inl x1)] [] M = (zSp d 66 [.inr (.inr 2), .inl 4] M (fun z1 M1 => zC (zBo z1) (K z1 M1))) := (zwp_blk (stops := [35, 51]) (fuel := 55) pe_40).trans rfl
set_option maxHeartbeats 4000000 in
set_option maxRecDepth 100000 in
theorem fe_40_51 {d : Nat} {K : Kt} {M : Mm} {x1 : Int} : zWp (zSp d) 40 K 51 [some (.inr (.inr 134)), some (.inl x1)] [] M = (zSp d 41 [.inr (.inr 134), .inl x1] M (fun z1 M1 => zC (zR32 z1) ((¬ z1 = 0 → zC (zR32 x1) ((x1 = 0 → K 1 M1) ∧ (¬ (x1 = 0) → zC (zSm (M1 134 4) 12) (K 1 (zUp (zUp M1 135 (M1 134 4) ((M1 46 1) - 1)) 134 4 ((M1 134 4) + 1)))))) ∧ (¬ (¬ z1 = 0) → K 0 M1)))) := (zwp_blk (stops := [35, 51]) (fuel := 55) pe_40).trans rfl
theorem pe_41 : zPg 41 = pg_41 := rfl
/-! 41 InputReader.readName -/
set_option maxHeartbeats 4000000 in
set_option maxRecDepth 100000 in
theorem me_41 {d : Nat} {K : Kt} {M : Mm} {a1 : Int} : zSp (d + 1) 41 [.inr (.inr 134), .inl a1] M K = (zSp d 76 [.inr (.inr 2)] M (fun z1 M1 => zC (zR32 z1) ((¬ z1 = 0 → zSp d 23 [.inr (.inr 4), .inl (M1 2 5)] M1 (fun z2 M2 => zC (zR32 z2) ((¬ z2 = (-1) → zC (zR32 (M2 46 1)) ((¬ (M2 46 1) = 80 → zC (zR32 (M2 134 4)) (((M2 134 4) ≤ 0 → zWp (zSp d) 41 K 91 [some (.inr (.inr 134)), some (.inl a1), some (.inl z2), none, none] [.inl (-1)] M2) ∧ (¬ ((M2 134 4) ≤ 0) → zC (zSm ((M2 134 4) - 1) 12) (zWp (zSp d) 41 K 91 [some (.inr (.inr 134)), some (.inl a1), some (.inl z2), none, none] [.inl (M2 135 ((M2 134 4) - 1))] M2)))) ∧ (¬ (¬ (M2 46 1) = 80) → zSp d 66 [.inr (.inr 2), .inl 4] M2 (fun z3 M3 => zC (zBo z3) (K z3 M3))))) ∧ (¬ (¬ z2 = (-1)) → zSp d 66 [.inr (.inr 2), .inl 3] M2 (fun z4 M4 => zC (zBo z4) (K z4 M4)))))) ∧ (¬ (¬ z1 = 0) → zSp d 66 [.inr (.inr 2), .inl 1] M1 (fun z5 M5 => zC (zBo z5) (K z5 M5)))))) := (zwp_blk (stops := [91, 126, 155, 182]) (fuel := 112) pe_41).trans rfl
set_option maxHeartbeats 4000000 in
set_option maxRecDepth 100000 in
theorem fe_41_91 {d : Nat} {K : Kt} {M : Mm} {x1 x2 y0 : Int} : zWp (zSp d) 41 K 91 [some (.inr (.inr 134)), some (.inl x1), some (.inl x2), none, none] [.inl y0] M = (zC (zR32 y0) ((¬ y0 = (-1) → zC (zSm y0 80) (zC (zSm y0 80) (zSp d 30 [.inr (.inr 4), .inl (M 47 y0), .inl (M 48 y0)] M (fun z1 M1 => zWp (zSp d) 41 K 126 [some (.inr (.inr 134)), some (.inl x1), some (.inl x2), some (.inl y0), none] [.inl z1] M1)))) ∧ (¬ (¬ y0 = (-1)) → zWp (zSp d) 41 K 126 [some (.inr (.inr 134)), some (.inl x1), some (.inl x2), some (.inl y0), none] [.inl 0] M))) := (zwp_blk (stops := [91, 126, 155, 182]) (fuel := 112) pe_41).trans rfl
set_option maxHeartbeats 4000000 in
set_option maxRecDepth 100000 in
theorem fe_41_126 {d : Nat} {K : Kt} {M : Mm} {x1 x2 x3 y0 : Int} : zWp (zSp d) 41 K 126 [some (.inr (.inr 134)), some (.inl x1), some (.inl x2), some (.inl x3), none] [.inl y0] M = (zC (zSm x2 24) (zC (zR32 (M 6 x2)) (zC (zR32 x1) ((¬ (M 6 x2) = x1 → zWp (zSp d) 41 K 155 [some (.inr (.inr 134)), some (.inl x1), some (.inl x2), some (.inl x3), some (.inl y0)] [] M) ∧ (¬ (¬ (M 6 x2) = x1) → zC (zSm x2 24) (zC (zR32 (M 7 x2)) (zC (zR32 y0) (((M 7 x2) = y0 → zC (zR32 x3) ((x3 = (-1) → zWp (zSp d) 41 K 182 [some (.inr (.inr 134)), some (.inl x1), some (.inl x2), some (.inl x3), some (.inl y0)] [] M) ∧ (¬ (x3 = (-1)) → zC (zSm x3 80) (zC (zSm x3 80) (zWp (zSp d) 41 K 182 [some (.inr (.inr 134)), some (.inl x1), some (.inl x2), some (.inl x3), some (.inl y0)] [] (zUp M 48 x3 ((M 48 x3) + 1))))))) ∧ (¬ ((M 7 x2) = y0) → zWp (zSp d) 41 K 155 [some (.inr (.inr 134)), some (.inl x1), some (.inl x2), some (.inl x3), some (.inl y0)] [] M))))))))) := (zwp_blk (stops := [91, 126, 155, 182]) (fuel := 112) pe_41).trans rfl
set_option maxHeartbeats 4000000 in
set_option maxRecDepth 100000 in
theorem fe_41_155 {d : Nat} {K : Kt} {M : Mm} {x1 x2 x3 x4 : Int} : zWp (zSp d) 41 K 155 [some (.inr (.inr 134)), some (.inl x1), some (.inl x2), some (.inl x3), some (.inl x4)] [] M = (zSp d 66 [.inr (.inr 2), .inl 5] M (fun z1 M1 => zC (zBo z1) (K z1 M1))) := (zwp_blk (stops := [91, 126, 155, 182]) (fuel := 112) pe_41).trans rfl
set_option maxHeartbeats 4000000 in
set_option maxRecDepth 100000 in
theorem fe_41_182 {d : Nat} {K : Kt} {M : Mm} {x1 x2 x3 x4 : Int} : zWp (zSp d) 41 K 182 [some (.inr (.inr 134)), some (.inl x1), some (.inl x2), some (.inl x3), some (.inl x4)] [] M = (zSp d 81 [.inr (.inr 46), .inl x2, .inl 0] M (fun _ M1 => zSp d 67 [.inr (.inr 2)] M1 (fun _ M2 => K 1 M2))) := (zwp_blk (stops := [91, 126, 155, 182]) (fuel := 112) pe_41).trans rfl
theorem pe_42 : zPg 42 = pg_42 := rfl
/-! 42 Judge.ask -/
set_option maxHeartbeats 4000000 in
set_option maxRecDepth 100000 in
theorem me_42 {d : Nat} {K : Kt} {M : Mm} {a2 a3 : Int} {o1 : Nat} : zSp (d + 1) 42 [.inr (.inr 147), .inr (.inr o1), .inl a2, .inl a3] M K = (zSp d 93 [.inr (.inr 138), .inr (.inr o1)] M (fun z1 M1 => zC (zR32 z1) ((z1 = (-1) → zC (zR32 (M1 138 0)) ((¬ (M1 138 0) = 600 → zSp d 6 [.inr (.inr 24), .inr (.inr o1)] M1 (fun z2 M2 => zSp d 43 [.inr (.inr 147), .inl z2] M2 (fun z3 M3 => zC (zObj o1 9) (zSp d 94 [.inr (.inr 138), .inl (M3 o1 1), .inl z3, .inl a2, .inl a3] M3 (fun _ M4 => K z3 M4))))) ∧ (¬ (¬ (M1 138 0) = 600) → K (-1) (zUp M1 147 7 ((M1 147 7) + 1))))) ∧ (¬ (z1 = (-1)) → zC (zSm z1 600) (K (M1 140 z1) (zUp M1 147 5 ((M1 147 5) + 1))))))) := (zwp_blk (stops := []) (fuel := 55) pe_42).trans rfl
theorem pe_43 : zPg 43 = pg_43 := rfl
/-! 43 Judge.vote -/
set_option maxHeartbeats 4000000 in
set_option maxRecDepth 100000 in
theorem me_43 {d : Nat} {K : Kt} {M : Mm} {a1 : Int} : zSp (d + 1) 43 [.inr (.inr 147), .inl a1] M K = (zSp d 266 [.inr (.inr 148), .inl 0] M (fun _ M1 => zWp (zSp d) 43 K 18 [some (.inr (.inr 147)), some (.inl a1), some (.inl (M 24 0)), some (.inl 0), none] [] M1)) := (zwp_blk (stops := [18, 78]) (fuel := 72) pe_43).trans rfl
set_option maxHeartbeats 4000000 in
set_option maxRecDepth 100000 in
theorem fe_43_18 {d : Nat} {K : Kt} {M : Mm} {x1 x2 x3 : Int} {u4 : Option Vl} : zWp (zSp d) 43 K 18 [some (.inr (.inr 147)), some (.inl x1), some (.inl x2), some (.inl x3), u4] [] M = (zC (zR32 x3) (zC (zR32 (M 147 3)) (((M 147 3) ≤ x3 → zWp (zSp d) 43 K 78 [some (.inr (.inr 147)), some (.inl x1), some (.inl x2), some (.inl 0), some (.inl 1)] [] (zUp M 147 6 ((M 147 6) + (M 147 3)))) ∧ (¬ ((M 147 3) ≤ x3) → zSp d 44 [.inr (.inr 147), .inl x1] M (fun z1 M1 => zC (zR32 z1) ((¬ z1 = (-1) → zC (zSm z1 7) (zC (zSm z1 7) (zWp (zSp d) 43 K 18 [some (.inr (.inr 147)), some (.inl x1), some (.inl x2), some (.inl (x3 + 1)), some (.inl z1)] [] (zUp M1 148 z1 ((M1 148 z1) + 1))))) ∧ (¬ (¬ z1 = (-1)) → zC (zSm x2 7) (zC (zSm x2 7) (zWp (zSp d) 43 K 18 [some (.inr (.inr 147)), some (.inl x1), some (.inl x2), some (.inl (x3 + 1)), some (.inl z1)] [] (zUp M1 148 x2 ((M1 148 x2) + 1))))))))))) := (zwp_blk (stops := [18, 78]) (fuel := 72) pe_43).trans rfl
set_option maxHeartbeats 4000000 in
set_option maxRecDepth 100000 in
theorem fe_43_78 {d : Nat} {K : Kt} {M : Mm} {x1 x2 x3 x4 : Int} : zWp (zSp d) 43 K 78 [some (.inr (.inr 147)), some (.inl x1), some (.inl x2), some (.inl x3), some (.inl x4)] [] M = (zC (zR32 x4) (zC (zR32 x2) ((x2 < x4 → zC (zR32 x3) (zC (zR32 x2) ((¬ x3 = x2 → K x3 M) ∧ (¬ (¬ x3 = x2) → K (-1) M)))) ∧ (¬ (x2 < x4) → zC (zSm x4 7) (zC (zSm x3 7) (zC (zR32 (M 148 x4)) (zC (zR32 (M 148 x3)) (((M 148 x4) ≤ (M 148 x3) → zWp (zSp d) 43 K 78 [some (.inr (.inr 147)), some (.inl x1), some (.inl x2), some (.inl x3), some (.inl (x4 + 1))] [] M) ∧ (¬ ((M 148 x4) ≤ (M 148 x3)) → zWp (zSp d) 43 K 78 [some (.inr (.inr 147)), some (.inl x1), some (.inl x2), some (.inl x4), some (.inl (x4 + 1))] [] M))))))))) := (zwp_blk (stops := [18, 78]) (fuel := 72) pe_43).trans rfl
theorem pe_44 : zPg 44 = pg_44 := rfl
/-! 44 Judge.runOnce -/
set_option maxHeartbeats 4000000 in
set_option maxRecDepth 100000 in
theorem me_44 {d : Nat} {K : Kt} {M : Mm} {a1 : Int} : zSp (d + 1) 44 [.inr (.inr 147), .inl a1] M K = (zWp (zSp d) 44 K 2 [some (.inr (.inr 147)), some (.inl a1), some (.inl 0)] [] M) := (zwp_blk (stops := [2]) (fuel := 56) pe_44).trans rfl
set_option maxHeartbeats 4000000 in
set_option maxRecDepth 100000 in
theorem fe_44_2 {d : Nat} {K : Kt} {M : Mm} {x1 x2 : Int} : zWp (zSp d) 44 K 2 [some (.inr (.inr 147)), some (.inl x1), some (.inl x2)] [] M = (zC (zR32 x2) (zC (zR32 (M 24 0)) (((M 24 0) ≤ x2 → K (-1) M) ∧ (¬ ((M 24 0) ≤ x2) → zC (zR32 x1) (zC (zSm x2 32) (zC (zR32 (zIandZ (x1 / 2 ^ x2.toNat) 1)) ((¬ (zIandZ (x1 / 2 ^ x2.toNat) 1) = 0 → zC (zSm x2 6) (zC (zR32 (M 26 x2)) ((¬ (M 26 x2) = 100 → zC (zR32 (zIandZ ((1103515245 * (M 147 4)) + 12345) 2147483647)) (zC (zDv (zIandZ ((1103515245 * (M 147 4)) + 12345) 2147483647) 64) (zC (zR32 ((zIandZ ((1103515245 * (M 147 4)) + 12345) 2147483647) / 64)) (zC (zDv ((zIandZ ((1103515245 * (M 147 4)) + 12345) 2147483647) / 64) 100) (zC (zSm x2 6) (zC (zR32 (((zIandZ ((1103515245 * (M 147 4)) + 12345) 2147483647) / 64) % 100)) (zC (zR32 (M 26 x2)) (((M 26 x2) ≤ (((zIandZ ((1103515245 * (M 147 4)) + 12345) 2147483647) / 64) % 100) → zWp (zSp d) 44 K 2 [some (.inr (.inr 147)), some (.inl x1), some (.inl (x2 + 1))] [] (zUp M 147 4 (zIandZ ((1103515245 * (M 147 4)) + 12345) 2147483647))) ∧ (¬ ((M 26 x2) ≤ (((zIandZ ((1103515245 * (M 147 4)) + 12345) 2147483647) / 64) % 100)) → K x2 (zUp M 147 4 (zIandZ ((1103515245 * (M 147 4)) + 12345) 2147483647))))))))))) ∧ (¬ (¬ (M 26 x2) = 100) → K x2 M)))) ∧ (¬ (¬ (zIandZ (x1 / 2 ^ x2.toNat) 1) = 0) → zWp (zSp d) 44 K 2 [some (.inr (.inr 147)), some (.inl x1), some (.inl (x2 + 1))] [] M)))))))) := (zwp_blk (stops := [2]) (fuel := 56) pe_44).trans rfl
end
section
theorem pe_45 : zPg 45 = pg_45 := rfl
/-! 45 Reducer.partStart -/
set_option maxHeartbeats 4000000 in
set_option maxRecDepth 100000 in
theorem me_45 {d : Nat} {K : Kt} {M : Mm} {a1 a2 a3 : Int} : zSp (d + 1) 45 [.inl a1, .inl a2, .inl a3] M K = (zC (zR32 a2) ((1 ≤ a2 → zC (zR32 (a3 * a1)) (zC (zR32 a2) (zC (zDv (a3 * a1) a2) (K ((a3 * a1) / a2) M)))) ∧ (¬ (1 ≤ a2) → K 0 M))) := (zwp_blk (stops := []) (fuel := 16) pe_45).trans rfl
theorem pe_46 : zPg 46 = pg_46 := rfl
/-! 46 Reducer.start -/
set_option maxHeartbeats 4000000 in
set_option maxRecDepth 100000 in
theorem me_46 {d : Nat} {K : Kt} {M : Mm} {a1 : Int} : zSp (d + 1) 46 [.inr (.inr 150), .inl a1] M K = (K 0 (zUp (zUp M 150 3 a1) 150 4 0)) := (zwp_blk (stops := []) (fuel := 12) pe_46).trans rfl
theorem pe_47 : zPg 47 = pg_47 := rfl
/-! 47 Reducer.byLevels -/
set_option maxHeartbeats 4000000 in
set_option maxRecDepth 100000 in
theorem me_47 {d : Nat} {K : Kt} {M : Mm} : zSp (d + 1) 47 [.inr (.inr 150)] M K = (zWp (zSp d) 47 K 2 [some (.inr (.inr 150)), some (.inl 1)] [] M) := (zwp_blk (stops := [2]) (fuel := 27) pe_47).trans rfl
set_option maxHeartbeats 4000000 in
set_option maxRecDepth 100000 in
theorem fe_47_2 {d : Nat} {K : Kt} {M : Mm} {x1 : Int} : zWp (zSp d) 47 K 2 [some (.inr (.inr 150)), some (.inl x1)] [] M = (zC (zR32 x1) ((80 ≤ x1 → K 0 M) ∧ (¬ (80 ≤ x1) → zC (zR32 x1) (zC (zR32 (M 38 2)) (((M 38 2) < x1 → K 0 M) ∧ (¬ ((M 38 2) < x1) → zSp d 53 [.inr (.inr 150), .inl x1] M (fun _ M1 => zC (zR32 (M1 150 6)) (((M1 150 6) ≤ 0 → zWp (zSp d) 47 K 2 [some (.inr (.inr 150)), some (.inl (x1 + 1))] [] M1) ∧ (¬ ((M1 150 6) ≤ 0) → zSp d 54 [.inr (.inr 150), .inl x1] M1 (fun _ M2 => zWp (zSp d) 47 K 2 [some (.inr (.inr 150)), some (.inl (x1 + 1))] [] M2)))))))))) := (zwp_blk (stops := [2]) (fuel := 27) pe_47).trans rfl
theorem pe_48 : zPg 48 = pg_48 := rfl
/-! 48 Reducer.byHoists -/
set_option maxHeartbeats 4000000 in
set_option maxRecDepth 100000 in
theorem me_48 {d : Nat} {K : Kt} {M : Mm} : zSp (d + 1) 48 [.inr (.inr 150)] M K = (zWp (zSp d) 48 K 4 [some (.inr (.inr 150)), some (.inl 0), some (.inl 0)] [] M) := (zwp_blk (stops := [4]) (fuel := 25) pe_48).trans rfl
set_option maxHeartbeats 4000000 in
set_option maxRecDepth 100000 in
theorem fe_48_4 {d : Nat} {K : Kt} {M : Mm} {x1 x2 : Int} : zWp (zSp d) 48 K 4 [some (.inr (.inr 150)), some (.inl x1), some (.inl x2)] [] M = (zC (zR32 x2) ((100000 ≤ x2 → K 0 M) ∧ (¬ (100000 ≤ x2) → zC (zR32 x1) (zC (zR32 (M 38 1)) (((M 38 1) ≤ x1 → K 0 M) ∧ (¬ ((M 38 1) ≤ x1) → zSp d 50 [.inr (.inr 150), .inl x1] M (fun z1 M1 => zC (zR32 z1) ((¬ z1 = 0 → zWp (zSp d) 48 K 4 [some (.inr (.inr 150)), some (.inl x1), some (.inl (x2 + 1))] [] M1) ∧ (¬ (¬ z1 = 0) → zWp (zSp d) 48 K 4 [some (.inr (.inr 150)), some (.inl (x1 + 1)), some (.inl (x2 + 1))] [] M1))))))))) := (zwp_blk (stops := [4]) (fuel := 25) pe_48).trans rfl
theorem pe_49 : zPg 49 = pg_49 := rfl
/-! 49 Reducer.byCuts -/
set_option maxHeartbeats 4000000 in
set_option maxRecDepth 100000 in
theorem me_49 {d : Nat} {K : Kt} {M : Mm} : zSp (d + 1) 49 [.inr (.inr 150)] M K = (zWp (zSp d) 49 K 4 [some (.inr (.inr 150)), some (.inl 0), some (.inl 0), none] [] M) := (zwp_blk (stops := [4, 47, 48, 79, 80, 81]) (fuel := 57) pe_49).trans rfl
set_option maxHeartbeats 4000000 in
set_option maxRecDepth 100000 in
theorem fe_49_4 {d : Nat} {K : Kt} {M : Mm} {x1 x2 : Int} {u3 : Option Vl} : zWp (zSp d) 49 K 4 [some (.inr (.inr 150)), some (.inl x1), some (.inl x2), u3] [] M = (zC (zR32 x2) ((100000 ≤ x2 → K 0 M) ∧ (¬ (100000 ≤ x2) → zC (zR32 x1) (zC (zR32 (M 38 1)) (((M 38 1) ≤ x1 → K 0 M) ∧ (¬ ((M 38 1) ≤ x1) → zSp d 86 [.inr (.inr 38), .inl x1] M (fun z1 M1 => zC (zR32 z1) ((z1 = 0 → zWp (zSp d) 49 K 47 [some (.inr (.inr 150)), some (.inl x1), some (.inl x2), u3] [] M1) ∧ (¬ (z1 = 0) → zSp d 51 [.inr (.inr 150), .inl 0, .inl x1, .inl (-1), .inl 5] M1 (fun z2 M2 => zC (zR32 z2) ((z2 = 0 → zWp (zSp d) 49 K 47 [some (.inr (.inr 150)), some (.inl x1), some (.inl x2), u3] [] M2) ∧ (¬ (z2 = 0) → zWp (zSp d) 49 K 48 [some (.inr (.inr 150)), some (.inl x1), some (.inl x2), u3] [.inl 1] M2)))))))))))) := (zwp_blk (stops := [4, 47, 48, 79, 80, 81]) (fuel := 57) pe_49).trans rfl
set_option maxHeartbeats 4000000 in
set_option maxRecDepth 100000 in
theorem fe_49_47 {d : Nat} {K : Kt} {M : Mm} {x1 x2 : Int} {u3 : Option Vl} : zWp (zSp d) 49 K 47 [some (.inr (.inr 150)), some (.inl x1), some (.inl x2), u3] [] M = (zWp (zSp d) 49 K 48 [some (.inr (.inr 150)), some (.inl x1), some (.inl x2), u3] [.inl 0] M) := (zwp_blk (stops := [4, 47, 48, 79, 80, 81]) (fuel := 57) pe_49).trans rfl
set_option maxHeartbeats 4000000 in
set_option maxRecDepth 100000 in
theorem fe_49_48 {d : Nat} {K : Kt} {M : Mm} {x1 x2 y0 : Int} {u3 : Option Vl} : zWp (zSp d) 49 K 48 [some (.inr (.inr 150)), some (.inl x1), some (.inl x2), u3] [.inl y0] M = (zC (zR32 y0) ((¬ y0 = 0 → zWp (zSp d) 49 K 81 [some (.inr (.inr 150)), some (.inl x1), some (.inl x2), some (.inl y0)] [] M) ∧ (¬ (¬ y0 = 0) → zSp d 87 [.inr (.inr 38), .inl x1] M (fun z1 M1 => zC (zR32 z1) ((z1 = 0 → zWp (zSp d) 49 K 79 [some (.inr (.inr 150)), some (.inl x1), some (.inl x2), some (.inl y0)] [] M1) ∧ (¬ (z1 = 0) → zSp d 51 [.inr (.inr 150), .inl 1, .inl x1, .inl (-1), .inl 5] M1 (fun z2 M2 => zC (zR32 z2) ((z2 = 0 → zWp (zSp d) 49 K 79 [some (.inr (.inr 150)), some (.inl x1), some (.inl x2), some (.inl y0)] [] M2) ∧ (¬ (z2 = 0) → zWp (zSp d) 49 K 80 [some (.inr (.inr 150)), some (.inl x1), some (.inl x2), some (.inl y0)] [.inl 1] M2))))))))) := (zwp_blk (stops := [4, 47, 48, 79, 80, 81]) (fuel := 57) pe_49).trans rfl
set_option maxHeartbeats 4000000 in
set_option maxRecDepth 100000 in
theorem fe_49_79 {d : Nat} {K : Kt} {M : Mm} {x1 x2 x3 : Int} : zWp (zSp d) 49 K 79 [some (.inr (.inr 150)), some (.inl x1), some (.inl x2), some (.inl x3)] [] M = (zWp (zSp d) 49 K 80 [some (.inr (.inr 150)), some (.inl x1), some (.inl x2), some (.inl x3)] [.inl 0] M) := (zwp_blk (stops := [4, 47, 48, 79, 80, 81]) (fuel := 57) pe_49).trans rfl
set_option maxHeartbeats 4000000 in
set_option maxRecDepth 100000 in
theorem fe_49_80 {d : Nat} {K : Kt} {M : Mm} {x1 x2 x3 y0 : Int} : zWp (zSp d) 49 K 80 [some (.inr (.inr 150)), some (.inl x1), some (.inl x2), some (.inl x3)] [.inl y0] M = (zWp (zSp d) 49 K 81 [some (.inr (.inr 150)), some (.inl x1), some (.inl x2), some (.inl y0)] [] M) := (zwp_blk (stops := [4, 47, 48, 79, 80, 81]) (fuel := 57) pe_49).trans rfl
set_option maxHeartbeats 4000000 in
set_option maxRecDepth 100000 in
theorem fe_49_81 {d : Nat} {K : Kt} {M : Mm} {x1 x2 x3 : Int} : zWp (zSp d) 49 K 81 [some (.inr (.inr 150)), some (.inl x1), some (.inl x2), some (.inl x3)] [] M = (zC (zR32 x3) ((¬ x3 = 0 → zWp (zSp d) 49 K 4 [some (.inr (.inr 150)), some (.inl x1), some (.inl (x2 + 1)), some (.inl x3)] [] M) ∧ (¬ (¬ x3 = 0) → zWp (zSp d) 49 K 4 [some (.inr (.inr 150)), some (.inl (x1 + 1)), some (.inl (x2 + 1)), some (.inl x3)] [] M))) := (zwp_blk (stops := [4, 47, 48, 79, 80, 81]) (fuel := 57) pe_49).trans rfl
theorem pe_50 : zPg 50 = pg_50 := rfl
/-! 50 Reducer.isHoisted -/
set_option maxHeartbeats 4000000 in
set_option maxRecDepth 100000 in
theorem me_50 {d : Nat} {K : Kt} {M : Mm} {a1 : Int} : zSp (d + 1) 50 [.inr (.inr 150), .inl a1] M K = (zWp (zSp d) 50 K 4 [some (.inr (.inr 150)), some (.inl a1), some (.inl (a1 + 1))] [] M) := (zwp_blk (stops := [4]) (fuel := 40) pe_50).trans rfl
set_option maxHeartbeats 4000000 in
set_option maxRecDepth 100000 in
theorem fe_50_4 {d : Nat} {K : Kt} {M : Mm} {x1 x2 : Int} : zWp (zSp d) 50 K 4 [some (.inr (.inr 150)), some (.inl x1), some (.inl x2)] [] M = (zC (zSm x1 80) (zC (zR32 x2) (zC (zR32 (x1 + (M 44 x1))) (((x1 + (M 44 x1)) ≤ x2 → K 0 M) ∧ (¬ ((x1 + (M 44 x1)) ≤ x2) → zSp d 85 [.inr (.inr 38), .inl x2] M (fun z1 M1 => zSp d 85 [.inr (.inr 38), .inl x1] M1 (fun z2 M2 => zC (zR32 z1) (zC (zR32 z2) ((¬ z1 = z2 → zWp (zSp d) 50 K 4 [some (.inr (.inr 150)), some (.inl x1), some (.inl (x2 + 1))] [] M2) ∧ (¬ (¬ z1 = z2) → zSp d 51 [.inr (.inr 150), .inl 2, .inl x1, .inl x2, .inl 4] M2 (fun z3 M3 => zC (zR32 z3) ((z3 = 0 → zWp (zSp d) 50 K 4 [some (.inr (.inr 150)), some (.inl x1), some (.inl (x2 + 1))] [] M3) ∧ (¬ (z3 = 0) → K 1 M3))))))))))))) := (zwp_blk (stops := [4]) (fuel := 40) pe_50).trans rfl
theorem pe_51 : zPg 51 = pg_51 := rfl
/-! 51 Reducer.isTakenSingle -/
set_option maxHeartbeats 4000000 in
set_option maxRecDepth 100000 in
theorem me_51 {d : Nat} {K : Kt} {M : Mm} {a1 a2 a3 a4 : Int} : zSp (d + 1) 51 [.inr (.inr 150), .inl a1, .inl a2, .inl a3, .inl a4] M K = (zSp d 90 [.inr (.inr 46), .inr (.inr 38), .inl a1, .inl a2, .inl a3] M (fun _ M1 => zSp d 52 [.inr (.inr 150), .inl a4, .inl a2] M1 (fun z2 M2 => zC (zBo z2) (K z2 M2)))) := (zwp_blk (stops := []) (fuel := 18) pe_51).trans rfl
theorem pe_52 : zPg 52 = pg_52 := rfl
/-! 52 Reducer.isTaken -/
set_option maxHeartbeats 4000000 in
set_option maxRecDepth 100000 in
theorem me_52 {d : Nat} {K : Kt} {M : Mm} {a1 a2 : Int} : zSp (d + 1) 52 [.inr (.inr 150), .inl a1, .inl a2] M K = (zSp d 42 [.inr (.inr 147), .inr (.inr 46), .inl a1, .inl a2] M (fun z1 M1 => zC (zR32 z1) (zC (zR32 (M1 150 3)) ((z1 = (M1 150 3) → zSp d 80 [.inr (.inr 38), .inr (.inr 46)] M1 (fun _ M2 => K 1 (zUp M2 150 4 ((M2 150 4) + 1)))) ∧ (¬ (z1 = (M1 150 3)) → K 0 M1))))) := (zwp_blk (stops := []) (fuel := 30) pe_52).trans rfl
theorem pe_53 : zPg 53 = pg_53 := rfl
/-! 53 Reducer.gatherRow -/
set_option maxHeartbeats 4000000 in
set_option maxRecDepth 100000 in
theorem me_53 {d : Nat} {K : Kt} {M : Mm} {a1 : Int} : zSp (d + 1) 53 [.inr (.inr 150), .inl a1] M K = (zWp (zSp d) 53 K 7 [some (.inr (.inr 150)), some (.inl a1), some (.inl 0)] [] (zUp M 150 6 0)) := (zwp_blk (stops := [7]) (fuel := 36) pe_53).trans rfl
set_option maxHeartbeats 4000000 in
set_option maxRecDepth 100000 in
theorem fe_53_7 {d : Nat} {K : Kt} {M : Mm} {x1 x2 : Int} : zWp (zSp d) 53 K 7 [some (.inr (.inr 150)), some (.inl x1), some (.inl x2)] [] M = (zC (zR32 x2) (zC (zR32 (M 38 1)) (((M 38 1) ≤ x2 → K 0 M) ∧ (¬ ((M 38 1) ≤ x2) → zSp d 88 [.inr (.inr 38), .inl x2, .inl x1] M (fun z1 M1 => zC (zR32 z1) ((z1 = 0 → zWp (zSp d) 53 K 7 [some (.inr (.inr 150)), some (.inl x1), some (.inl (x2 + 1))] [] M1) ∧ (¬ (z1 = 0) → zC (zSm (M1 150 6) 80) (zWp (zSp d) 53 K 7 [some (.inr (.inr 150)), some (.inl x1), some (.inl (x2 + 1))] [] (zUp (zUp M1 151 (M1 150 6) x2) 150 6 ((M1 150 6) + 1)))))))))) := (zwp_blk (stops := [7]) (fuel := 36) pe_53).trans rfl
theorem pe_54 : zPg 54 = pg_54 := rfl
/-! 54 Reducer.reduceRow -/
set_option maxHeartbeats 4000000 in
set_option maxRecDepth 100000 in
theorem me_54 {d : Nat} {K : Kt} {M : Mm} {a1 : Int} : zSp (d + 1) 54 [.inr (.inr 150), .inl a1] M K = (zSp d 55 [.inr (.inr 150), .inl 1, .inl 1, .inl 1, .inl a1] M (fun z1 M1 => zC (zR32 z1) ((z1 = 0 → zWp (zSp d) 54 K 16 [some (.inr (.inr 150)), some (.inl a1), some (.inl 2), some (.inl 0)] [] M1) ∧ (¬ (z1 = 0) → K 0 M1)))) := (zwp_blk (stops := [16, 68]) (fuel := 62) pe_54).trans rfl
set_option maxHeartbeats 4000000 in
set_option maxRecDepth 100000 in
theorem fe_54_16 {d : Nat} {K : Kt} {M : Mm} {x1 x2 x3 : Int} : zWp (zSp d) 54 K 16 [some (.inr (.inr 150)), some (.inl x1), some (.inl x2), some (.inl x3)] [] M = (zC (zR32 x3) ((100000 ≤ x3 → K 0 M) ∧ (¬ (100000 ≤ x3) → zC (zR32 (M 150 6)) (((M 150 6) < 2 → K 0 M) ∧ (¬ ((M 150 6) < 2) → zSp d 55 [.inr (.inr 150), .inl x2, .inl 0, .inl 2, .inl x1] M (fun z1 M1 => zC (zR32 z1) ((z1 = 0 → zC (zR32 x2) ((x2 ≤ 2 → zWp (zSp d) 54 K 68 [some (.inr (.inr 150)), some (.inl x1), some (.inl x2), some (.inl x3)] [] M1) ∧ (¬ (x2 ≤ 2) → zSp d 55 [.inr (.inr 150), .inl x2, .inl 1, .inl 3, .inl x1] M1 (fun z2 M2 => zC (zR32 z2) ((z2 = 0 → zWp (zSp d) 54 K 68 [some (.inr (.inr 150)), some (.inl x1), some (.inl x2), some (.inl x3)] [] M2) ∧ (¬ (z2 = 0) → zWp (zSp d) 54 K 16 [some (.inr (.inr 150)), some (.inl x1), some (.inl (x2 + (-1))), some (.inl (x3 + 1))] [] M2)))))) ∧ (¬ (z1 = 0) → zWp (zSp d) 54 K 16 [some (.inr (.inr 150)), some (.inl x1), some (.inl 2), some (.inl (x3 + 1))] [] M1)))))))) := (zwp_blk (stops := [16, 68]) (fuel := 62) pe_54).trans rfl
set_option maxHeartbeats 4000000 in
set_option maxRecDepth 100000 in
theorem fe_54_68 {d : Nat} {K : Kt} {M : Mm} {x1 x2 x3 : Int} : zWp (zSp d) 54 K 68 [some (.inr (.inr 150)), some (.inl x1), some (.inl x2), some (.inl x3)] [] M = (zC (zR32 x2) (zC (zR32 (M 150 6)) (((M 150 6) ≤ x2 → K 0 M) ∧ (¬ ((M 150 6) ≤ x2) → zSp d 264 [.inl (2 * x2), .inl (M 150 6)] M (fun z1 M1 => zWp (zSp d) 54 K 16 [some (.inr (.inr 150)), some (.inl x1), some (.inl z1), some (.inl (x3 + 1))] [] M1))))) := (zwp_blk (stops := [16, 68]) (fuel := 62) pe_54).trans rfl
theorem pe_55 : zPg 55 = pg_55 := rfl
/-! 55 Reducer.isPartTaken -/
set_option maxHeartbeats 4000000 in
set_option maxRecDepth 100000 in
theorem me_55 {d : Nat} {K : Kt} {M : Mm} {a1 a2 a3 a4 : Int} : zSp (d + 1) 55 [.inr (.inr 150), .inl a1, .inl a2, .inl a3, .inl a4] M K = (zWp (zSp d) 55 K 3 [some (.inr (.inr 150)), some (.inl a1), some (.inl a2), some (.inl a3), some (.inl a4), some (.inl 0)] [] M) := (zwp_blk (stops := [3]) (fuel := 47) pe_55).trans rfl
set_option maxHeartbeats 4000000 in
set_option maxRecDepth 100000 in
theorem fe_55_3 {d : Nat} {K : Kt} {M : Mm} {x1 x2 x3 x4 x5 : Int} : zWp (zSp d) 55 K 3 [some (.inr (.inr 150)), some (.inl x1), some (.inl x2), some (.inl x3), some (.inl x4), some (.inl x5)] [] M = (zC (zR32 x5) (zC (zR32 x1) ((x1 ≤ x5 → K 0 M) ∧ (¬ (x1 ≤ x5) → zSp d 45 [.inl (M 150 6), .inl x1, .inl x5] M (fun z1 M1 => zSp d 45 [.inl (M1 150 6), .inl x1, .inl (x5 + 1)] M1 (fun z2 M2 => zSp d 56 [.inr (.inr 150), .inl z1, .inl z2, .inl x2] M2 (fun _ M3 => zSp d 91 [.inr (.inr 46), .inr (.inr 38), .inr (.inr 152), .inr (.inr 153)] M3 (fun _ M4 => zSp d 52 [.inr (.inr 150), .inl x3, .inl x4] M4 (fun z5 M5 => zC (zR32 z5) ((z5 = 0 → zWp (zSp d) 55 K 3 [some (.inr (.inr 150)), some (.inl x1), some (.inl x2), some (.inl x3), some (.inl x4), some (.inl (x5 + 1))] [] M5) ∧ (¬ (z5 = 0) → zSp d 57 [.inr (.inr 150)] M5 (fun _ M6 => K 1 M6)))))))))))) := (zwp_blk (stops := [3]) (fuel := 47) pe_55).trans rfl
theorem pe_56 : zPg 56 = pg_56 := rfl
/-! 56 Reducer.markRow -/
set_option maxHeartbeats 4000000 in
set_option maxRecDepth 100000 in
theorem me_56 {d : Nat} {K : Kt} {M : Mm} {a1 a2 a3 : Int} : zSp (d + 1) 56 [.inr (.inr 150), .inl a1, .inl a2, .inl a3] M K = (zWp (zSp d) 56 K 3 [some (.inr (.inr 150)), some (.inl a1), some (.inl a2), some (.inl a3), some (.inl 0)] [] M) := (zwp_blk (stops := [3, 27, 63, 64]) (fuel := 47) pe_56).trans rfl
set_option maxHeartbeats 4000000 in
set_option maxRecDepth 100000 in
theorem fe_56_3 {d : Nat} {K : Kt} {M : Mm} {x1 x2 x3 x4 : Int} : zWp (zSp d) 56 K 3 [some (.inr (.inr 150)), some (.inl x1), some (.inl x2), some (.inl x3), some (.inl x4)] [] M = (zC (zR32 x4) ((80 ≤ x4 → zWp (zSp d) 56 K 27 [some (.inr (.inr 150)), some (.inl x1), some (.inl x2), some (.inl x3), some (.inl 0)] [] M) ∧ (¬ (80 ≤ x4) → zC (zSm x4 80) (zWp (zSp d) 56 K 3 [some (.inr (.inr 150)), some (.inl x1), some (.inl x2), some (.inl x3), some (.inl (x4 + 1))] [] (zUp M 152 x4 0))))) := (zwp_blk (stops := [3, 27, 63, 64]) (fuel := 47) pe_56).trans rfl
set_option maxHeartbeats 4000000 in
set_option maxRecDepth 100000 in
theorem fe_56_27 {d : Nat} {K : Kt} {M : Mm} {x1 x2 x3 x4 : Int} : zWp (zSp d) 56 K 27 [some (.inr (.inr 150)), some (.inl x1), some (.inl x2), some (.inl x3), some (.inl x4)] [] M = (zC (zR32 x4) (zC (zR32 (M 150 6)) (((M 150 6) ≤ x4 → K 0 M) ∧ (¬ ((M 150 6) ≤ x4) → zC (zSm x4 80) (zC (zR32 x4) (zC (zR32 x1) ((x4 < x1 → zWp (zSp d) 56 K 63 [some (.inr (.inr 150)), some (.inl x1), some (.inl x2), some (.inl x3), some (.inl x4)] [.inl (M 151 x4), .inr (.inr 152)] M) ∧ (¬ (x4 < x1) → zC (zR32 x4) (zC (zR32 x2) ((x2 ≤ x4 → zWp (zSp d) 56 K 63 [some (.inr (.inr 150)), some (.inl x1), some (.inl x2), some (.inl x3), some (.inl x4)] [.inl (M 151 x4), .inr (.inr 152)] M) ∧ (¬ (x2 ≤ x4) → zWp (zSp d) 56 K 64 [some (.inr (.inr 150)), some (.inl x1), some (.inl x2), some (.inl x3), some (.inl x4)] [.inl 1, .inl (M 151 x4), .inr (.inr 152)] M))))))))))) := (zwp_blk (stops := [3, 27, 63, 64]) (fuel := 47) pe_56).trans rfl
set_option maxHeartbeats 4000000 in
set_option maxRecDepth 100000 in
theorem fe_56_63 {d : Nat} {K : Kt} {M : Mm} {x1 x2 x3 x4 y1 : Int} : zWp (zSp d) 56 K 63 [some (.inr (.inr 150)), some (.inl x1), some (.inl x2), some (.inl x3), some (.inl x4)] [.inl y1, .inr (.inr 152)] M = (zWp (zSp d) 56 K 64 [some (.inr (.inr 150)), some (.inl x1), some (.inl x2), some (.inl x3), some (.inl x4)] [.inl 0, .inl y1, .inr (.inr 152)] M) := (zwp_blk (stops := [3, 27, 63, 64]) (fuel := 47) pe_56).trans rfl
set_option maxHeartbeats 4000000 in
set_option maxRecDepth 100000 in
theorem fe_56_64 {d : Nat} {K : Kt} {M : Mm} {x1 x2 x3 x4 y1 y2 : Int} : zWp (zSp d) 56 K 64 [some (.inr (.inr 150)), some (.inl x1), some (.inl x2), some (.inl x3), some (.inl x4)] [.inl y2, .inl y1, .inr (.inr 152)] M = (zC (zR32 y2) (zC (zR32 x3) ((¬ y2 = x3 → zC (zSm y1 80) (zWp (zSp d) 56 K 27 [some (.inr (.inr 150)), some (.inl x1), some (.inl x2), some (.inl x3), some (.inl (x4 + 1))] [] (zUp M 152 y1 0))) ∧ (¬ (¬ y2 = x3) → zC (zSm y1 80) (zWp (zSp d) 56 K 27 [some (.inr (.inr 150)), some (.inl x1), some (.inl x2), some (.inl x3), some (.inl (x4 + 1))] [] (zUp M 152 y1 1)))))) := (zwp_blk (stops := [3, 27, 63, 64]) (fuel := 47) pe_56).trans rfl
theorem pe_57 : zPg 57 = pg_57 := rfl
/-! 57 Reducer.keepUnchanged -/
set_option maxHeartbeats 4000000 in
set_option maxRecDepth 100000 in
theorem me_57 {d : Nat} {K : Kt} {M : Mm} : zSp (d + 1) 57 [.inr (.inr 150)] M K = (zWp (zSp d) 57 K 4 [some (.inr (.inr 150)), some (.inl 0), some (.inl 0)] [] M) := (zwp_blk (stops := [4]) (fuel := 39) pe_57).trans rfl
set_option maxHeartbeats 4000000 in
set_option maxRecDepth 100000 in
theorem fe_57_4 {d : Nat} {K : Kt} {M : Mm} {x1 x2 : Int} : zWp (zSp d) 57 K 4 [some (.inr (.inr 150)), some (.inl x1), some (.inl x2)] [] M = (zC (zR32 x2) (zC (zR32 (M 150 6)) (((M 150 6) ≤ x2 → K 0 (zUp M 150 6 x1)) ∧ (¬ ((M 150 6) ≤ x2) → zC (zSm x2 80) (zC (zSm (M 151 x2) 80) (zC (zR32 (M 152 (M 151 x2))) ((¬ (M 152 (M 151 x2)) = 0 → zWp (zSp d) 57 K 4 [some (.inr (.inr 150)), some (.inl x1), some (.inl (x2 + 1))] [] M) ∧ (¬ (¬ (M 152 (M 151 x2)) = 0) → zC (zSm x2 80) (zC (zSm (M 151 x2) 80) (zC (zSm x1 80) (zWp (zSp d) 57 K 4 [some (.inr (.inr 150)), some (.inl (x1 + 1)), some (.inl (x2 + 1))] [] (zUp M 151 x1 (M 153 (M 151 x2)))))))))))))) := (zwp_blk (stops := [4]) (fuel := 39) pe_57).trans rfl
theorem pe_58 : zPg 58 = pg_58 := rfl
/-! 58 Single.start -/
set_option maxHeartbeats 4000000 in
set_option maxRecDepth 100000 in
theorem me_58 {d : Nat} {K : Kt} {M : Mm} : zSp (d + 1) 58 [.inr (.inr 149)] M K = (zSp d 59 [.inr (.inr 149), .inl 0] M (fun _ M1 => K 0 M1)) := (zwp_blk (stops := []) (fuel := 9) pe_58).trans rfl
theorem pe_59 : zPg 59 = pg_59 := rfl
/-! 59 Single.atNode -/
set_option maxHeartbeats 4000000 in
set_option maxRecDepth 100000 in
theorem me_59 {d : Nat} {K : Kt} {M : Mm} {a1 : Int} : zSp (d + 1) 59 [.inr (.inr 149), .inl a1] M K = (K 0 (zUp (zUp (zUp M 149 1 a1) 149 2 (-1)) 149 3 a1)) := (zwp_blk (stops := []) (fuel := 15) pe_59).trans rfl
theorem pe_60 : zPg 60 = pg_60 := rfl
/-! 60 Single.step -/
set_option maxHeartbeats 4000000 in
set_option maxRecDepth 100000 in
theorem me_60 {d : Nat} {K : Kt} {M : Mm} : zSp (d + 1) 60 [.inr (.inr 149)] M K = (zWp (zSp d) 60 K 0 [some (.inr (.inr 149))] [] M) := rfl
set_option maxHeartbeats 4000000 in
set_option maxRecDepth 100000 in
theorem fe_60_0 {d : Nat} {K : Kt} {M : Mm} : zWp (zSp d) 60 K 0 [some (.inr (.inr 149))] [] M = (zC (zR32 (M 149 1)) (zC (zR32 (M 38 1)) (((M 38 1) ≤ (M 149 1) → K 0 M) ∧ (¬ ((M 38 1) ≤ (M 149 1)) → zC (zR32 (M 149 2)) ((0 ≤ (M 149 2) → zWp (zSp d) 60 K 42 [some (.inr (.inr 149))] [] M) ∧ (¬ (0 ≤ (M 149 2)) → zSp d 86 [.inr (.inr 38), .inl (M 149 1)] (zUp M 149 2 0) (fun z1 M1 => zC (zR32 z1) ((z1 = 0 → zWp (zSp d) 60 K 42 [some (.inr (.inr 149))] [] M1) ∧ (¬ (z1 = 0) → K 1 M1))))))))) := (zwp_blk (stops := [0, 42, 71, 86]) (fuel := 90) pe_60).trans rfl
set_option maxHeartbeats 4000000 in
set_option maxRecDepth 100000 in
theorem fe_60_42 {d : Nat} {K : Kt} {M : Mm} : zWp (zSp d) 60 K 42 [some (.inr (.inr 149))] [] M = (zC (zR32 (M 149 2)) ((1 ≤ (M 149 2) → zWp (zSp d) 60 K 71 [some (.inr (.inr 149))] [] M) ∧ (¬ (1 ≤ (M 149 2)) → zSp d 87 [.inr (.inr 38), .inl (M 149 1)] (zUp M 149 2 1) (fun z1 M1 => zC (zR32 z1) ((z1 = 0 → zWp (zSp d) 60 K 71 [some (.inr (.inr 149))] [] M1) ∧ (¬ (z1 = 0) → K 1 M1)))))) := (zwp_blk (stops := [0, 42, 71, 86]) (fuel := 90) pe_60).trans rfl
set_option maxHeartbeats 4000000 in
set_option maxRecDepth 100000 in
theorem fe_60_71 {d : Nat} {K : Kt} {M : Mm} : zWp (zSp d) 60 K 71 [some (.inr (.inr 149))] [] M = (zWp (zSp d) 60 K 86 [some (.inr (.inr 149))] [] (zUp (zUp M 149 2 2) 149 3 ((M 149 3) + 1))) := (zwp_blk (stops := [0, 42, 71, 86]) (fuel := 90) pe_60).trans rfl
set_option maxHeartbeats 4000000 in
set_option maxRecDepth 100000 in
theorem fe_60_86 {d : Nat} {K : Kt} {M : Mm} : zWp (zSp d) 60 K 86 [some (.inr (.inr 149))] [] M = (zC (zSm (M 149 1) 80) (zC (zR32 (M 149 3)) (zC (zR32 ((M 149 1) + (M 44 (M 149 1)))) ((((M 149 1) + (M 44 (M 149 1))) ≤ (M 149 3) → zSp d 59 [.inr (.inr 149), .inl ((M 149 1) + 1)] M (fun _ M1 => zWp (zSp d) 60 K 0 [some (.inr (.inr 149))] [] M1)) ∧ (¬ (((M 149 1) + (M 44 (M 149 1))) ≤ (M 149 3)) → zSp d 85 [.inr (.inr 38), .inl (M 149 3)] M (fun z2 M2 => zSp d 85 [.inr (.inr 38), .inl (M2 149 1)] M2 (fun z3 M3 => zC (zR32 z2) (zC (zR32 z3) ((¬ z2 = z3 → zWp (zSp d) 60 K 86 [some (.inr (.inr 149))] [] (zUp M3 149 3 ((M3 149 3) + 1))) ∧ (¬ (¬ z2 = z3) → K 1 M3)))))))))) := (zwp_blk (stops := [0, 42, 71, 86]) (fuel := 90) pe_60).trans rfl
theorem pe_61 : zPg 61 = pg_61 := rfl
/-! 61 Single.goTo -/
set_option maxHeartbeats 4000000 in
set_option maxRecDepth 100000 in
theorem me_61 {d : Nat} {K : Kt} {M : Mm} {a1 : Int} : zSp (d + 1) 61 [.inr (.inr 149), .inl a1] M K = (zC (zR32 a1) ((0 ≤ a1 → zSp d 58 [.inr (.inr 149)] M (fun _ M1 => zWp (zSp d) 61 K 12 [some (.inr (.inr 149)), some (.inl a1), some (.inl 0)] [] M1)) ∧ (¬ (0 ≤ a1) → K 0 M))) := (zwp_blk (stops := [12]) (fuel := 28) pe_61).trans rfl
set_option maxHeartbeats 4000000 in
set_option maxRecDepth 100000 in
theorem fe_61_12 {d : Nat} {K : Kt} {M : Mm} {x1 x2 : Int} : zWp (zSp d) 61 K 12 [some (.inr (.inr 149)), some (.inl x1), some (.inl x2)] [] M = (zC (zR32 x2) ((100000 ≤ x2 → K 0 M) ∧ (¬ (100000 ≤ x2) → zSp d 60 [.inr (.inr 149)] M (fun z1 M1 => zC (zR32 z1) ((z1 = 0 → K 0 M1) ∧ (¬ (z1 = 0) → zC (zR32 x2) (zC (zR32 x1) ((¬ x2 = x1 → zWp (zSp d) 61 K 12 [some (.inr (.inr 149)), some (.inl x1), some (.inl (x2 + 1))] [] M1) ∧ (¬ (¬ x2 = x1) → K 1 M1))))))))) := (zwp_blk (stops := [12]) (fuel := 28) pe_61).trans rfl
theorem pe_62 : zPg 62 = pg_62 := rfl
/-! 62 Single.howMany -/
set_option maxHeartbeats 4000000 in
set_option maxRecDepth 100000 in
theorem me_62 {d : Nat} {K : Kt} {M : Mm} : zSp (d + 1) 62 [.inr (.inr 149)] M K = (zSp d 58 [.inr (.inr 149)] M (fun _ M1 => zWp (zSp d) 62 K 6 [some (.inr (.inr 149)), some (.inl 0)] [] M1)) := (zwp_blk (stops := [6]) (fuel := 19) pe_62).trans rfl
set_option maxHeartbeats 4000000 in
set_option maxRecDepth 100000 in
theorem fe_62_6 {d : Nat} {K : Kt} {M : Mm} {x1 : Int} : zWp (zSp d) 62 K 6 [some (.inr (.inr 149)), some (.inl x1)] [] M = (zC (zR32 x1) ((100000 ≤ x1 → K x1 M) ∧ (¬ (100000 ≤ x1) → zSp d 60 [.inr (.inr 149)] M (fun z1 M1 => zC (zR32 z1) ((z1 = 0 → K x1 M1) ∧ (¬ (z1 = 0) → zWp (zSp d) 62 K 6 [some (.inr (.inr 149)), some (.inl (x1 + 1))] [] M1)))))) := (zwp_blk (stops := [6]) (fuel := 19) pe_62).trans rfl
theorem pe_63 : zPg 63 = pg_63 := rfl
/-! 63 Text.letterOf -/
set_option maxHeartbeats 4000000 in
set_option maxRecDepth 100000 in
theorem me_63 {d : Nat} {K : Kt} {M : Mm} {a1 a2 : Int} : zSp (d + 1) 63 [.inl a1, .inl a2] M K = (zC (zR32 a1) (zC (zSm (25 - (5 * a2)) 32) (K (zIandZ (a1 / 2 ^ (25 - (5 * a2)).toNat) 31) M))) := (zwp_blk (stops := []) (fuel := 15) pe_63).trans rfl
theorem pe_64 : zPg 64 = pg_64 := rfl
/-! 64 Text.append -/
set_option maxHeartbeats 4000000 in
set_option maxRecDepth 100000 in
theorem me_64 {d : Nat} {K : Kt} {M : Mm} {a1 : Int} : zSp (d + 1) 64 [.inr (.inr 2), .inl a1] M K = (zWp (zSp d) 64 K 3 [some (.inr (.inr 2)), some (.inl a1), some (.inl 24)] [] M) := (zwp_blk (stops := [3]) (fuel := 31) pe_64).trans rfl
set_option maxHeartbeats 4000000 in
set_option maxRecDepth 100000 in
theorem fe_64_3 {d : Nat} {K : Kt} {M : Mm} {x1 x2 : Int} : zWp (zSp d) 64 K 3 [some (.inr (.inr 2)), some (.inl x1), some (.inl x2)] [] M = (zC (zR32 x2) ((x2 < 0 → K 0 M) ∧ (¬ (x2 < 0) → zC (zR32 (M 2 1)) ((1000 ≤ (M 2 1) → K 0 M) ∧ (¬ (1000 ≤ (M 2 1)) → zC (zR32 x1) (zC (zSm x2 32) (zC (zSm (M 2 1) 1000) (zC (zBy (zB8 (x1 / 2 ^ x2.toNat))) (zWp (zSp d) 64 K 3 [some (.inr (.inr 2)), some (.inl x1), some (.inl (x2 + (-8)))] [] (zUp (zUp M 3 (M 2 1) (zB8 (x1 / 2 ^ x2.toNat))) 2 1 ((M 2 1) + 1))))))))))) := (zwp_blk (stops := [3]) (fuel := 31) pe_64).trans rfl
theorem pe_65 : zPg 65 = pg_65 := rfl
/-! 65 Text.start -/
set_option maxHeartbeats 4000000 in
set_option maxRecDepth 100000 in
theorem me_65 {d : Nat} {K : Kt} {M : Mm} : zSp (d + 1) 65 [.inr (.inr 2)] M K = (zSp d 67 [.inr (.inr 2)] (zUp (zUp (zUp (zUp M 2 2 0) 2 3 0) 2 6 0) 2 7 (-1)) (fun _ M1 => K 0 M1)) := (zwp_blk (stops := []) (fuel := 20) pe_65).trans rfl
theorem pe_66 : zPg 66 = pg_66 := rfl
/-! 66 Text.fail -/
set_option maxHeartbeats 4000000 in
set_option maxRecDepth 100000 in
theorem me_66 {d : Nat} {K : Kt} {M : Mm} {a1 : Int} : zSp (d + 1) 66 [.inr (.inr 2), .inl a1] M K = (K 0 (zUp (zUp M 2 6 a1) 2 7 (M 2 4))) := (zwp_blk (stops := []) (fuel := 14) pe_66).trans rfl
theorem pe_67 : zPg 67 = pg_67 := rfl
/-! 67 Text.advance -/
set_option maxHeartbeats 4000000 in
set_option maxRecDepth 100000 in
theorem me_67 {d : Nat} {K : Kt} {M : Mm} : zSp (d + 1) 67 [.inr (.inr 2)] M K = (zC (zR32 (M 2 3)) (((M 2 3) = 1 → zWp (zSp d) 67 K 27 [some (.inr (.inr 2)), some (.inl 0), some (.inl (M 2 2))] [] M) ∧ (¬ ((M 2 3) = 1) → zC (zR32 (M 2 3)) (((M 2 3) = 2 → zWp (zSp d) 67 K 27 [some (.inr (.inr 2)), some (.inl 0), some (.inl (M 2 2))] [] M) ∧ (¬ ((M 2 3) = 2) → zWp (zSp d) 67 K 27 [some (.inr (.inr 2)), some (.inl 1), some (.inl (M 2 2))] [] M))))) := (zwp_blk (stops := [27, 79, 134, 139, 173, 178]) (fuel := 114) pe_67).trans rfl
set_option maxHeartbeats 4000000 in
set_option maxRecDepth 100000 in
theorem fe_67_27 {d : Nat} {K : Kt} {M : Mm} {x1 x2 : Int} : zWp (zSp d) 67 K 27 [some (.inr (.inr 2)), some (.inl x1), some (.inl x2)] [] M = (zC (zR32 (M 2 2)) (zC (zR32 (M 2 1)) (((M 2 1) ≤ (M 2 2) → zWp (zSp d) 67 K 79 [some (.inr (.inr 2)), some (.inl x1), some (.inl x2)] [] M) ∧ (¬ ((M 2 1) ≤ (M 2 2)) → zC (zSm (M 2 2) 1000) (zC (zR32 (M 3 (M 2 2))) (((M 3 (M 2 2)) = 32 → zWp (zSp d) 67 K 27 [some (.inr (.inr 2)), some (.inl x1), some (.inl x2)] [] (zUp M 2 2 ((M 2 2) + 1))) ∧ (¬ ((M 3 (M 2 2)) = 32) → zC (zSm (M 2 2) 1000) (zC (zR32 (M 3 (M 2 2))) ((¬ (M 3 (M 2 2)) = 10 → zWp (zSp d) 67 K 79 [some (.inr (.inr 2)), some (.inl x1), some (.inl x2)] [] M) ∧ (¬ (¬ (M 3 (M 2 2)) = 10) → zWp (zSp d) 67 K 27 [some (.inr (.inr 2)), some (.inl x1), some (.inl x2)] [] (zUp M 2 2 ((M 2 2) + 1)))))))))))) := (zwp_blk (stops := [27, 79, 134, 139, 173, 178]) (fuel := 114) pe_67).trans rfl
set_option maxHeartbeats 4000000 in
set_option maxRecDepth 100000 in
theorem fe_67_79 {d : Nat} {K : Kt} {M : Mm} {x1 x2 : Int} : zWp (zSp d) 67 K 79 [some (.inr (.inr 2)), some (.inl x1), some (.inl x2)] [] M = (zC (zR32 (M 2 2)) (zC (zR32 (M 2 1)) (((M 2 2) < (M 2 1) → zC (zSm (M 2 2) 1000) (zSp d 70 [.inl (M 3 (M 2 2))] (zUp M 2 4 (M 2 2)) (fun z1 M1 => zC (zR32 z1) ((z1 = 0 → zC (zSm (M1 2 2) 1000) (zSp d 71 [.inl (M1 3 (M1 2 2))] M1 (fun z2 M2 => zC (zR32 z2) ((z2 = 0 → zC (zSm (M2 2 2) 1000) (K 0 (zUp (zUp (zUp M2 2 3 3) 2 5 (M2 3 (M2 2 2))) 2 2 ((M2 2 2) + 1)))) ∧ (¬ (z2 = 0) → zC (zR32 x1) ((¬ x1 = 0 → zWp (zSp d) 67 K 173 [some (.inr (.inr 2)), some (.inl x1), some (.inl x2)] [.inr (.inr 2)] M2) ∧ (¬ (¬ x1 = 0) → zC (zR32 (M2 2 2)) (zC (zR32 x2) (((M2 2 2) ≤ x2 → zWp (zSp d) 67 K 178 [some (.inr (.inr 2)), some (.inl x1), some (.inl x2)] [.inl 0, .inr (.inr 2)] M2) ∧ (¬ ((M2 2 2) ≤ x2) → zWp (zSp d) 67 K 173 [some (.inr (.inr 2)), some (.inl x1), some (.inl x2)] [.inr (.inr 2)] M2)))))))))) ∧ (¬ (z1 = 0) → zC (zR32 x1) ((¬ x1 = 0 → zWp (zSp d) 67 K 134 [some (.inr (.inr 2)), some (.inl x1), some (.inl x2)] [.inr (.inr 2)] M1) ∧ (¬ (¬ x1 = 0) → zC (zR32 (M1 2 2)) (zC (zR32 x2) (((M1 2 2) ≤ x2 → zWp (zSp d) 67 K 139 [some (.inr (.inr 2)), some (.inl x1), some (.inl x2)] [.inl 0, .inr (.inr 2)] M1) ∧ (¬ ((M1 2 2) ≤ x2) → zWp (zSp d) 67 K 134 [some (.inr (.inr 2)), some (.inl x1), some (.inl x2)] [.inr (.inr 2)] M1)))))))))) ∧ (¬ ((M 2 2) < (M 2 1)) → K 0 (zUp (zUp M 2 4 (M 2 2)) 2 3 0))))) := (zwp_blk (stops := [27, 79, 134, 139, 173, 178]) (fuel := 114) pe_67).trans rfl
set_option maxHeartbeats 4000000 in
set_option maxRecDepth 100000 in
theorem fe_67_134 {d : Nat} {K : Kt} {M : Mm} {x1 x2 : Int} : zWp (zSp d) 67 K 134 [some (.inr (.inr 2)), some (.inl x1), some (.inl x2)] [.inr (.inr 2)] M = (zWp (zSp d) 67 K 139 [some (.inr (.inr 2)), some (.inl x1), some (.inl x2)] [.inl 1, .inr (.inr 2)] M) := (zwp_blk (stops := [27, 79, 134, 139, 173, 178]) (fuel := 114) pe_67).trans rfl
set_option maxHeartbeats 4000000 in
set_option maxRecDepth 100000 in
theorem fe_67_139 {d : Nat} {K : Kt} {M : Mm} {x1 x2 y1 : Int} : zWp (zSp d) 67 K 139 [some (.inr (.inr 2)), some (.inl x1), some (.inl x2)] [.inl y1, .inr (.inr 2)] M = (zSp d 68 [.inr (.inr 2), .inl y1] M (fun _ M1 => K 0 M1)) := (zwp_blk (stops := [27, 79, 134, 139, 173, 178]) (fuel := 114) pe_67).trans rfl
set_option maxHeartbeats 4000000 in
set_option maxRecDepth 100000 in
theorem fe_67_173 {d : Nat} {K : Kt} {M : Mm} {x1 x2 : Int} : zWp (zSp d) 67 K 173 [some (.inr (.inr 2)), some (.inl x1), some (.inl x2)] [.inr (.inr 2)] M = (zWp (zSp d) 67 K 178 [some (.inr (.inr 2)), some (.inl x1), some (.inl x2)] [.inl 1, .inr (.inr 2)] M) := (zwp_blk (stops := [27, 79, 134, 139, 173, 178]) (fuel := 114) pe_67).trans rfl
set_option maxHeartbeats 4000000 in
set_option maxRecDepth 100000 in
theorem fe_67_178 {d : Nat} {K : Kt} {M : Mm} {x1 x2 y1 : Int} : zWp (zSp d) 67 K 178 [some (.inr (.inr 2)), some (.inl x1), some (.inl x2)] [.inl y1, .inr (.inr 2)] M = (zSp d 69 [.inr (.inr 2), .inl y1] M (fun _ M1 => K 0 M1)) := (zwp_blk (stops := [27, 79, 134, 139, 173, 178]) (fuel := 114) pe_67).trans rfl
theorem pe_68 : zPg 68 = pg_68 := rfl
/-! 68 Text.advanceWord -/
set_option maxHeartbeats 4000000 in
set_option maxRecDepth 100000 in
theorem me_68 {d : Nat} {K : Kt} {M : Mm} {a1 : Int} : zSp (d + 1) 68 [.inr (.inr 2), .inl a1] M K = (zWp (zSp d) 68 K 7 [some (.inr (.inr 2)), some (.inl a1), some (.inl 0)] [] (zUp M 2 5 0)) := (zwp_blk (stops := [7, 69, 85]) (fuel := 64) pe_68).trans rfl
set_option maxHeartbeats 4000000 in
set_option maxRecDepth 100000 in
theorem fe_68_7 {d : Nat} {K : Kt} {M : Mm} {x1 x2 : Int} : zWp (zSp d) 68 K 7 [some (.inr (.inr 2)), some (.inl x1), some (.inl x2)] [] M = (zC (zR32 (M 2 2)) (zC (zR32 (M 2 1)) (((M 2 1) ≤ (M 2 2) → zWp (zSp d) 68 K 85 [some (.inr (.inr 2)), some (.inl x1), some (.inl x2)] [] M) ∧ (¬ ((M 2 1) ≤ (M 2 2)) → zC (zSm (M 2 2) 1000) (zSp d 70 [.inl (M 3 (M 2 2))] M (fun z1 M1 => zC (zR32 z1) ((z1 = 0 → zWp (zSp d) 68 K 85 [some (.inr (.inr 2)), some (.inl x1), some (.inl x2)] [] M1) ∧ (¬ (z1 = 0) → zC (zR32 x2) ((6 ≤ x2 → zWp (zSp d) 68 K 69 [some (.inr (.inr 2)), some (.inl x1), some (.inl x2)] [] M1) ∧ (¬ (6 ≤ x2) → zC (zSm (M1 2 2) 1000) (zC (zSm (25 - (5 * x2)) 32) (zWp (zSp d) 68 K 69 [some (.inr (.inr 2)), some (.inl x1), some (.inl x2)] [] (zUp M1 2 5 (zIorZ (M1 2 5) ((((M1 3 (M1 2 2)) - 97) + 1) * 2 ^ (25 - (5 * x2)).toNat))))))))))))))) := (zwp_blk (stops := [7, 69, 85]) (fuel := 64) pe_68).trans rfl
set_option maxHeartbeats 4000000 in
set_option maxRecDepth 100000 in
theorem fe_68_69 {d : Nat} {K : Kt} {M : Mm} {x1 x2 : Int} : zWp (zSp d) 68 K 69 [some (.inr (.inr 2)), some (.inl x1), some (.inl x2)] [] M = (zWp (zSp d) 68 K 7 [some (.inr (.inr 2)), some (.inl x1), some (.inl (x2 + 1))] [] (zUp M 2 2 ((M 2 2) + 1))) := (zwp_blk (stops := [7, 69, 85]) (fuel := 64) pe_68).trans rfl
set_option maxHeartbeats 4000000 in
set_option maxRecDepth 100000 in
theorem fe_68_85 {d : Nat} {K : Kt} {M : Mm} {x1 x2 : Int} : zWp (zSp d) 68 K 85 [some (.inr (.inr 2)), some (.inl x1), some (.inl x2)] [] M = (zC (zR32 x1) ((x1 = 0 → K 0 (zUp M 2 3 4)) ∧ (¬ (x1 = 0) → zC (zR32 x2) ((6 < x2 → K 0 (zUp M 2 3 4)) ∧ (¬ (6 < x2) → K 0 (zUp M 2 3 1)))))) := (zwp_blk (stops := [7, 69, 85]) (fuel := 64) pe_68).trans rfl
theorem pe_69 : zPg 69 = pg_69 := rfl
/-! 69 Text.advanceNumber -/
set_option maxHeartbeats 4000000 in
set_option maxRecDepth 100000 in
theorem me_69 {d : Nat} {K : Kt} {M : Mm} {a1 : Int} : zSp (d + 1) 69 [.inr (.inr 2), .inl a1] M K = (zWp (zSp d) 69 K 7 [some (.inr (.inr 2)), some (.inl a1), some (.inl 0)] [] (zUp M 2 5 0)) := (zwp_blk (stops := [7, 62, 78]) (fuel := 58) pe_69).trans rfl
set_option maxHeartbeats 4000000 in
set_option maxRecDepth 100000 in
theorem fe_69_7 {d : Nat} {K : Kt} {M : Mm} {x1 x2 : Int} : zWp (zSp d) 69 K 7 [some (.inr (.inr 2)), some (.inl x1), some (.inl x2)] [] M = (zC (zR32 (M 2 2)) (zC (zR32 (M 2 1)) (((M 2 1) ≤ (M 2 2) → zWp (zSp d) 69 K 78 [some (.inr (.inr 2)), some (.inl x1), some (.inl x2)] [] M) ∧ (¬ ((M 2 1) ≤ (M 2 2)) → zC (zSm (M 2 2) 1000) (zSp d 71 [.inl (M 3 (M 2 2))] M (fun z1 M1 => zC (zR32 z1) ((z1 = 0 → zWp (zSp d) 69 K 78 [some (.inr (.inr 2)), some (.inl x1), some (.inl x2)] [] M1) ∧ (¬ (z1 = 0) → zC (zR32 x2) ((3 ≤ x2 → zWp (zSp d) 69 K 62 [some (.inr (.inr 2)), some (.inl x1), some (.inl x2)] [] M1) ∧ (¬ (3 ≤ x2) → zC (zSm (M1 2 2) 1000) (zWp (zSp d) 69 K 62 [some (.inr (.inr 2)), some (.inl x1), some (.inl x2)] [] (zUp M1 2 5 ((((M1 2 5) * 10) + (M1 3 (M1 2 2))) - 48))))))))))))) := (zwp_blk (stops := [7, 62, 78]) (fuel := 58) pe_69).trans rfl
set_option maxHeartbeats 4000000 in
set_option maxRecDepth 100000 in
theorem fe_69_62 {d : Nat} {K : Kt} {M : Mm} {x1 x2 : Int} : zWp (zSp d) 69 K 62 [some (.inr (.inr 2)), some (.inl x1), some (.inl x2)] [] M = (zWp (zSp d) 69 K 7 [some (.inr (.inr 2)), some (.inl x1), some (.inl (x2 + 1))] [] (zUp M 2 2 ((M 2 2) + 1))) := (zwp_blk (stops := [7, 62, 78]) (fuel := 58) pe_69).trans rfl
set_option maxHeartbeats 4000000 in
set_option maxRecDepth 100000 in
theorem fe_69_78 {d : Nat} {K : Kt} {M : Mm} {x1 x2 : Int} : zWp (zSp d) 69 K 78 [some (.inr (.inr 2)), some (.inl x1), some (.inl x2)] [] M = (zC (zR32 x1) ((x1 = 0 → K 0 (zUp M 2 3 4)) ∧ (¬ (x1 = 0) → zC (zR32 x2) ((3 < x2 → K 0 (zUp M 2 3 4)) ∧ (¬ (3 < x2) → K 0 (zUp M 2 3 2)))))) := (zwp_blk (stops := [7, 62, 78]) (fuel := 58) pe_69).trans rfl
theorem pe_70 : zPg 70 = pg_70 := rfl
/-! 70 Text.isLetter -/
set_option maxHeartbeats 4000000 in
set_option maxRecDepth 100000 in
theorem me_70 {d : Nat} {K : Kt} {M : Mm} {a1 : Int} : zSp (d + 1) 70 [.inl a1] M K = (zC (zR32 a1) ((a1 < 97 → K 0 M) ∧ (¬ (a1 < 97) → zC (zR32 a1) ((122 < a1 → K 0 M) ∧ (¬ (122 < a1) → K 1 M))))) := (zwp_blk (stops := []) (fuel := 15) pe_70).trans rfl
theorem pe_71 : zPg 71 = pg_71 := rfl
/-! 71 Text.isDigit -/
set_option maxHeartbeats 4000000 in
set_option maxRecDepth 100000 in
theorem me_71 {d : Nat} {K : Kt} {M : Mm} {a1 : Int} : zSp (d + 1) 71 [.inl a1] M K = (zC (zR32 a1) ((a1 < 48 → K 0 M) ∧ (¬ (a1 < 48) → zC (zR32 a1) ((57 < a1 → K 0 M) ∧ (¬ (57 < a1) → K 1 M))))) := (zwp_blk (stops := []) (fuel := 15) pe_71).trans rfl
theorem pe_72 : zPg 72 = pg_72 := rfl
/-! 72 Text.isAtEnd -/
set_option maxHeartbeats 4000000 in
set_option maxRecDepth 100000 in
theorem me_72 {d : Nat} {K : Kt} {M : Mm} : zSp (d + 1) 72 [.inr (.inr 2)] M K = (zC (zR32 (M 2 3)) ((¬ (M 2 3) = 0 → K 0 M) ∧ (¬ (¬ (M 2 3) = 0) → K 1 M))) := (zwp_blk (stops := []) (fuel := 12) pe_72).trans rfl
theorem pe_73 : zPg 73 = pg_73 := rfl
/-! 73 Text.isWord -/
set_option maxHeartbeats 4000000 in
set_option maxRecDepth 100000 in
theorem me_73 {d : Nat} {K : Kt} {M : Mm} {a1 : Int} : zSp (d + 1) 73 [.inr (.inr 2), .inl a1] M K = (zC (zR32 (M 2 3)) ((¬ (M 2 3) = 1 → K 0 M) ∧ (¬ (¬ (M 2 3) = 1) → zC (zR32 (M 2 5)) (zC (zR32 a1) ((¬ (M 2 5) = a1 → K 0 M) ∧ (¬ (¬ (M 2 5) = a1) → K 1 M)))))) := (zwp_blk (stops := []) (fuel := 17) pe_73).trans rfl
theorem pe_74 : zPg 74 = pg_74 := rfl
/-! 74 Text.isSign -/
set_option maxHeartbeats 4000000 in
set_option maxRecDepth 100000 in
theorem me_74 {d : Nat} {K : Kt} {M : Mm} {a1 : Int} : zSp (d + 1) 74 [.inr (.inr 2), .inl a1] M K = (zC (zR32 (M 2 3)) ((¬ (M 2 3) = 3 → K 0 M) ∧ (¬ (¬ (M 2 3) = 3) → zC (zR32 (M 2 5)) (zC (zR32 a1) ((¬ (M 2 5) = a1 → K 0 M) ∧ (¬ (¬ (M 2 5) = a1) → K 1 M)))))) := (zwp_blk (stops := []) (fuel := 17) pe_74).trans rfl
theorem pe_75 : zPg 75 = pg_75 := rfl
/-! 75 Text.isNumber -/
set_option maxHeartbeats 4000000 in
set_option maxRecDepth 100000 in
theorem me_75 {d : Nat} {K : Kt} {M : Mm} : zSp (d + 1) 75 [.inr (.inr 2)] M K = (zC (zR32 (M 2 3)) ((¬ (M 2 3) = 2 → K 0 M) ∧ (¬ (¬ (M 2 3) = 2) → K 1 M))) := (zwp_blk (stops := []) (fuel := 13) pe_75).trans rfl
theorem pe_76 : zPg 76 = pg_76 := rfl
/-! 76 Text.isName -/
set_option maxHeartbeats 4000000 in
set_option maxRecDepth 100000 in
theorem me_76 {d : Nat} {K : Kt} {M : Mm} : zSp (d + 1) 76 [.inr (.inr 2)] M K = (zC (zR32 (M 2 3)) (((M 2 3) = 1 → zWp (zSp d) 76 K 12 [some (.inr (.inr 2)), some (.inl 0)] [] M) ∧ (¬ ((M 2 3) = 1) → K 0 M))) := (zwp_blk (stops := [12]) (fuel := 29) pe_76).trans rfl
set_option maxHeartbeats 4000000 in
set_option maxRecDepth 100000 in
theorem fe_76_12 {d : Nat} {K : Kt} {M : Mm} {x1 : Int} : zWp (zSp d) 76 K 12 [some (.inr (.inr 2)), some (.inl x1)] [] M = (zC (zR32 x1) ((13 ≤ x1 → K 1 M) ∧ (¬ (13 ≤ x1) → zC (zSm x1 13) (zC (zR32 (zOwn x1)) (zC (zR32 (M 2 5)) ((¬ (zOwn x1) = (M 2 5) → zWp (zSp d) 76 K 12 [some (.inr (.inr 2)), some (.inl (x1 + 1))] [] M) ∧ (¬ (¬ (zOwn x1) = (M 2 5)) → K 0 M))))))) := (zwp_blk (stops := [12]) (fuel := 29) pe_76).trans rfl
theorem pe_77 : zPg 77 = pg_77 := rfl
/-! 77 Text.passWord -/
set_option maxHeartbeats 4000000 in
set_option maxRecDepth 100000 in
theorem me_77 {d : Nat} {K : Kt} {M : Mm} {a1 : Int} : zSp (d + 1) 77 [.inr (.inr 2), .inl a1] M K = (zSp d 73 [.inr (.inr 2), .inl a1] M (fun z1 M1 => zC (zR32 z1) ((¬ z1 = 0 → zSp d 67 [.inr (.inr 2)] M1 (fun _ M2 => K 1 M2)) ∧ (¬ (¬ z1 = 0) → zSp d 66 [.inr (.inr 2), .inl 1] M1 (fun z3 M3 => zC (zBo z3) (K z3 M3)))))) := (zwp_blk (stops := []) (fuel := 17) pe_77).trans rfl
theorem pe_78 : zPg 78 = pg_78 := rfl
/-! 78 Text.passSign -/
set_option maxHeartbeats 4000000 in
set_option maxRecDepth 100000 in
theorem me_78 {d : Nat} {K : Kt} {M : Mm} {a1 : Int} : zSp (d + 1) 78 [.inr (.inr 2), .inl a1] M K = (zSp d 74 [.inr (.inr 2), .inl a1] M (fun z1 M1 => zC (zR32 z1) ((¬ z1 = 0 → zSp d 67 [.inr (.inr 2)] M1 (fun _ M2 => K 1 M2)) ∧ (¬ (¬ z1 = 0) → zSp d 66 [.inr (.inr 2), .inl 1] M1 (fun z3 M3 => zC (zBo z3) (K z3 M3)))))) := (zwp_blk (stops := []) (fuel := 17) pe_78).trans rfl
theorem pe_79 : zPg 79 = pg_79 := rfl
/-! 79 Tree.clear -/
set_option maxHeartbeats 4000000 in
set_option maxRecDepth 100000 in
theorem me_79 {d : Nat} {K : Kt} {M : Mm} {b : Nat} : zSp (d + 1) 79 [.inr (.inr b)] M K = (zC (zObj b 9) (K 0 (zUp M b 1 0))) := (zwp_blk (stops := []) (fuel := 9) pe_79).trans rfl
theorem pe_80 : zPg 80 = pg_80 := rfl
/-! 80 Tree.copyFrom -/
set_option maxHeartbeats 4000000 in
set_option maxRecDepth 100000 in
theorem me_80 {d : Nat} {K : Kt} {M : Mm} {b o1 : Nat} : zSp (d + 1) 80 [.inr (.inr b), .inr (.inr o1)] M K = (zC (zObj b 9) (zSp d 79 [.inr (.inr b)] M (fun _ M1 => zC (zObj o1 9) (zC (zObj b 9) (zSp d 82 [.inr (.inr b), .inr (.inr o1), .inl 0, .inl (M1 o1 1)] M1 (fun _ M2 => zC (zObj b 9) (zSp d 84 [.inr (.inr b)] M2 (fun _ M3 => K 0 M3)))))))) := (zwp_blk (stops := []) (fuel := 16) pe_80).trans rfl
theorem pe_81 : zPg 81 = pg_81 := rfl
/-! 81 Tree.addNode -/
set_option maxHeartbeats 4000000 in
set_option maxRecDepth 100000 in
theorem me_81 {d : Nat} {K : Kt} {M : Mm} {a1 a2 : Int} {b : Nat} : zSp (d + 1) 81 [.inr (.inr b), .inl a1, .inl a2] M K = (zC (zObj b 9) (zC (zR32 (M b 1)) ((80 ≤ (M b 1) → K 0 M) ∧ (¬ (80 ≤ (M b 1)) → zC (zObj b 9) (zC (zObj b 9) (zC (zArr (b + 1) 0) (zC (zSm (M b 1) (zLen (b + 1))) (zC (zObj b 9) (zC (zObj b 9) (zC (zArr (b + 2) 0) (zC (zSm ((zUp M (b + 1) (M b 1) a1) b 1) (zLen (b + 2))) (zC (zObj b 9) (zC (zObj b 9) (K 0 (zUp (zUp (zUp M (b + 1) (M b 1) a1) (b + 2) ((zUp M (b + 1) (M b 1) a1) b 1) a2) b 1 (((zUp (zUp M (b + 1) (M b 1) a1) (b + 2) ((zUp M (b + 1) (M b 1) a1) b 1) a2) b 1) + 1)))))))))))))))) := (zwp_blk (stops := []) (fuel := 28) pe_81).trans rfl
theorem pe_82 : zPg 82 = pg_82 := rfl
/-! 82 Tree.addAll -/
set_option maxHeartbeats 4000000 in
set_option maxRecDepth 100000 in
theorem me_82 {d : Nat} {K : Kt} {M : Mm} {a2 a3 : Int} {b o1 : Nat} : zSp (d + 1) 82 [.inr (.inr b), .inr (.inr o1), .inl a2, .inl a3] M K = (zWp (zSp d) 82 K 3 [some (.inr (.inr b)), some (.inr (.inr o1)), some (.inl a2), some (.inl a3), some (.inl a2)] [] M) := (zwp_blk (stops := [3]) (fuel := 23) pe_82).trans rfl
set_option maxHeartbeats 4000000 in
set_option maxRecDepth 100000 in
theorem fe_82_3 {d : Nat} {K : Kt} {M : Mm} {x2 x3 x4 : Int} {b o1 : Nat} : zWp (zSp d) 82 K 3 [some (.inr (.inr b)), some (.inr (.inr o1)), some (.inl x2), some (.inl x3), some (.inl x4)] [] M = (zC (zR32 x4) (zC (zR32 x3) ((x3 ≤ x4 → K 0 M) ∧ (¬ (x3 ≤ x4) → zC (zObj o1 9) (zC (zArr (o1 + 1) 0) (zC (zSm x4 (zLen (o1 + 1))) (zC (zObj o1 9) (zC (zArr (o1 + 2) 0) (zC (zSm x4 (zLen (o1 + 2))) (zC (zObj b 9) (zSp d 81 [.inr (.inr b), .inl (M (o1 + 1) x4), .inl (M (o1 + 2) x4)] M (fun _ M1 => zWp (zSp d) 82 K 3 [some (.inr (.inr b)), some (.inr (.inr o1)), some (.inl x2), some (.inl x3), some (.inl (x4 + 1))] [] M1)))))))))))) := (zwp_blk (stops := [3]) (fuel := 23) pe_82).trans rfl
theorem pe_83 : zPg 83 = pg_83 := rfl
/-! 83 Tree.addLeast -/
set_option maxHeartbeats 4000000 in
set_option maxRecDepth 100000 in
theorem me_83 {d : Nat} {K : Kt} {M : Mm} {a1 : Int} {b : Nat} : zSp (d + 1) 83 [.inr (.inr b), .inl a1] M K = (zWp (zSp d) 83 K 2 [some (.inr (.inr b)), some (.inl a1), some (.inl 0), none] [] M) := (zwp_blk (stops := [2]) (fuel := 30) pe_83).trans rfl
set_option maxHeartbeats 4000000 in
set_option maxRecDepth 100000 in
theorem fe_83_2 {d : Nat} {K : Kt} {M : Mm} {x1 x2 : Int} {b : Nat} {u3 : Option Vl} : zWp (zSp d) 83 K 2 [some (.inr (.inr b)), some (.inl x1), some (.inl x2), u3] [] M = (zC (zObj b 9) (zC (zSm x1 6) (zC (zR32 x2) (zC (zR32 (M 12 x1)) (((M 12 x1) ≤ x2 → K 0 M) ∧ (¬ ((M 12 x1) ≤ x2) → zC (zObj b 9) (zSp d 33 [.inr (.inr 4), .inl x1, .inl x2] M (fun z1 M1 => zC (zObj b 9) (zSp d 29 [.inr (.inr 4), .inl z1] M1 (fun z2 M2 => zC (zObj b 9) (zSp d 81 [.inr (.inr b), .inl z1, .inl z2] M2 (fun _ M3 => zWp (zSp d) 83 K 2 [some (.inr (.inr b)), some (.inl x1), some (.inl (x2 + 1)), some (.inl z1)] [] M3)))))))))))) := (zwp_blk (stops := [2]) (fuel := 30) pe_83).trans rfl
theorem pe_84 : zPg 84 = pg_84 := rfl
/-! 84 Tree.settle -/
set_option maxHeartbeats 4000000 in
set_option maxRecDepth 100000 in
theorem me_84 {d : Nat} {K : Kt} {M : Mm} {b : Nat} : zSp (d + 1) 84 [.inr (.inr b)] M K = (zC (zObj b 9) (zWp (zSp d) 84 K 7 [some (.inr (.inr b)), some (.inl 0), none, none] [] (zUp M b 2 0))) := (zwp_blk (stops := [7, 21, 58, 84, 106, 121, 165]) (fuel := 132) pe_84).trans rfl
set_option maxHeartbeats 4000000 in
set_option maxRecDepth 100000 in
theorem fe_84_7 {d : Nat} {K : Kt} {M : Mm} {x1 : Int} {b : Nat} {u2 u3 : Option Vl} : zWp (zSp d) 84 K 7 [some (.inr (.inr b)), some (.inl x1), u2, u3] [] M = (zC (zObj b 9) (zC (zR32 x1) (zC (zR32 (M b 1)) (((M b 1) ≤ x1 → zC (zObj b 9) (zWp (zSp d) 84 K 165 [some (.inr (.inr b)), some (.inl ((M b 1) - 1)), u2, u3] [] M)) ∧ (¬ ((M b 1) ≤ x1) → zWp (zSp d) 84 K 21 [some (.inr (.inr b)), some (.inl x1), some (.inl (x1 - 1)), some (.inl 0)] [] M))))) := (zwp_blk (stops := [7, 21, 58, 84, 106, 121, 165]) (fuel := 132) pe_84).trans rfl
set_option maxHeartbeats 4000000 in
set_option maxRecDepth 100000 in
theorem fe_84_21 {d : Nat} {K : Kt} {M : Mm} {x1 x2 x3 : Int} {b : Nat} : zWp (zSp d) 84 K 21 [some (.inr (.inr b)), some (.inl x1), some (.inl x2), some (.inl x3)] [] M = (zC (zR32 x3) (zC (zR32 x1) ((x1 ≤ x3 → zWp (zSp d) 84 K 58 [some (.inr (.inr b)), some (.inl x1), some (.inl x2), some (.inl x3)] [] M) ∧ (¬ (x1 ≤ x3) → zC (zR32 x2) ((x2 < 0 → zWp (zSp d) 84 K 58 [some (.inr (.inr b)), some (.inl x1), some (.inl x2), some (.inl x3)] [] M) ∧ (¬ (x2 < 0) → zC (zObj b 9) (zC (zArr (b + 7) 0) (zC (zSm x2 (zLen (b + 7))) (zC (zObj b 9) (zC (zArr (b + 2) 0) (zC (zSm x2 (zLen (b + 2))) (zC (zR32 (M (b + 7) x2)) (zC (zR32 (M (b + 2) x2)) (((M (b + 7) x2) < (M (b + 2) x2) → zWp (zSp d) 84 K 58 [some (.inr (.inr b)), some (.inl x1), some (.inl x2), some (.inl x3)] [] M) ∧ (¬ ((M (b + 7) x2) < (M (b + 2) x2)) → zC (zObj b 9) (zC (zArr (b + 3) 0) (zC (zSm x2 (zLen (b + 3))) (zWp (zSp d) 84 K 21 [some (.inr (.inr b)), some (.inl x1), some (.inl (M (b + 3) x2)), some (.inl (x3 + 1))] [] M)))))))))))))))))) := (zwp_blk (stops := [7, 21, 58, 84, 106, 121, 165]) (fuel := 132) pe_84).trans rfl
set_option maxHeartbeats 4000000 in
set_option maxRecDepth 100000 in
theorem fe_84_58 {d : Nat} {K : Kt} {M : Mm} {x1 x2 x3 : Int} {b : Nat} : zWp (zSp d) 84 K 58 [some (.inr (.inr b)), some (.inl x1), some (.inl x2), some (.inl x3)] [] M = (zC (zObj b 9) (zC (zArr (b + 3) 0) (zC (zSm x1 (zLen (b + 3))) (zC (zObj b 9) (zC (zR32 x2) ((0 ≤ x2 → zC (zObj b 9) (zC (zArr (b + 7) 0) (zC (zSm x2 (zLen (b + 7))) (zWp (zSp d) 84 K 84 [some (.inr (.inr b)), some (.inl x1), some (.inl x2), some (.inl x3)] [.inl ((zUp M (b + 3) x1 x2) (b + 7) x2), .inl x1, .inr (.inr (b + 4))] (zUp M (b + 3) x1 x2))))) ∧ (¬ (0 ≤ x2) → zWp (zSp d) 84 K 84 [some (.inr (.inr b)), some (.inl x1), some (.inl x2), some (.inl x3)] [.inl (-1), .inl x1, .inr (.inr (b + 4))] (zUp M (b + 3) x1 x2)))))))) := (zwp_blk (stops := [7, 21, 58, 84, 106, 121, 165]) (fuel := 132) pe_84).trans rfl
set_option maxHeartbeats 4000000 in
set_option maxRecDepth 100000 in
theorem fe_84_84 {d : Nat} {K : Kt} {M : Mm} {x1 x2 x3 y1 y2 : Int} {b r0 : Nat} : zWp (zSp d) 84 K 84 [some (.inr (.inr b)), some (.inl x1), some (.inl x2), some (.inl x3)] [.inl y2, .inl y1, .inr (.inr r0)] M = (zC (zArr r0 0) (zC (zSm y1 (zLen r0)) (zC (zObj b 9) (zC (zR32 x2) ((0 ≤ x2 → zC (zObj b 9) (zC (zArr (b + 5) 0) (zC (zSm x2 (zLen (b + 5))) (zWp (zSp d) 84 K 106 [some (.inr (.inr b)), some (.inl x1), some (.inl x2), some (.inl x3)] [.inl (((zUp M r0 y1 y2) (b + 5) x2) + 1), .inl x1, .inr (.inr (b + 5))] (zUp M r0 y1 y2))))) ∧ (¬ (0 ≤ x2) → zWp (zSp d) 84 K 106 [some (.inr (.inr b)), some (.inl x1), some (.inl x2), some (.inl x3)] [.inl 0, .inl x1, .inr (.inr (b + 5))] (zUp M r0 y1 y2))))))) := (zwp_blk (stops := [7, 21, 58, 84, 106, 121, 165]) (fuel := 132) pe_84).trans rfl
set_option maxHeartbeats 4000000 in
set_option maxRecDepth 100000 in
theorem fe_84_106 {d : Nat} {K : Kt} {M : Mm} {x1 x2 x3 y1 y2 : Int} {b r0 : Nat} : zWp (zSp d) 84 K 106 [some (.inr (.inr b)), some (.inl x1), some (.inl x2), some (.inl x3)] [.inl y2, .inl y1, .inr (.inr r0)] M = (zC (zArr r0 0) (zC (zSm y1 (zLen r0)) (zC (zR32 x2) ((x2 < 0 → zWp (zSp d) 84 K 121 [some (.inr (.inr b)), some (.inl x1), some (.inl x2), some (.inl x3)] [] (zUp M r0 y1 y2)) ∧ (¬ (x2 < 0) → zC (zObj b 9) (zC (zArr (b + 7) 0) (zC (zSm x2 (zLen (b + 7))) (zC (zArr (b + 7) 0) (zC (zSm x2 (zLen (b + 7))) (zWp (zSp d) 84 K 121 [some (.inr (.inr b)), some (.inl x1), some (.inl x2), some (.inl x3)] [] (zUp (zUp M r0 y1 y2) (b + 7) x2 (((zUp M r0 y1 y2) (b + 7) x2) + 1)))))))))))) := (zwp_blk (stops := [7, 21, 58, 84, 106, 121, 165]) (fuel := 132) pe_84).trans rfl
set_option maxHeartbeats 4000000 in
set_option maxRecDepth 100000 in
theorem fe_84_121 {d : Nat} {K : Kt} {M : Mm} {x1 x2 x3 : Int} {b : Nat} : zWp (zSp d) 84 K 121 [some (.inr (.inr b)), some (.inl x1), some (.inl x2), some (.inl x3)] [] M = (zC (zObj b 9) (zC (zArr (b + 7) 0) (zC (zSm x1 (zLen (b + 7))) (zC (zObj b 9) (zC (zArr (b + 6) 0) (zC (zSm x1 (zLen (b + 6))) (zC (zObj b 9) (zC (zObj b 9) (zC (zArr (b + 5) 0) (zC (zSm x1 (zLen (b + 5))) (zSp d 263 [.inl ((zUp (zUp M (b + 7) x1 0) (b + 6) x1 1) b 2), .inl ((zUp (zUp M (b + 7) x1 0) (b + 6) x1 1) (b + 5) x1)] (zUp (zUp M (b + 7) x1 0) (b + 6) x1 1) (fun z1 M1 => zC (zObj b 9) (zWp (zSp d) 84 K 7 [some (.inr (.inr b)), some (.inl (x1 + 1)), some (.inl x2), some (.inl x3)] [] (zUp M1 b 2 z1)))))))))))))) := (zwp_blk (stops := [7, 21, 58, 84, 106, 121, 165]) (fuel := 132) pe_84).trans rfl
set_option maxHeartbeats 4000000 in
set_option maxRecDepth 100000 in
theorem fe_84_165 {d : Nat} {K : Kt} {M : Mm} {x1 : Int} {b : Nat} {u2 u3 : Option Vl} : zWp (zSp d) 84 K 165 [some (.inr (.inr b)), some (.inl x1), u2, u3] [] M = (zC (zR32 x1) ((x1 ≤ 0 → K 0 M) ∧ (¬ (x1 ≤ 0) → zC (zObj b 9) (zC (zArr (b + 3) 0) (zC (zSm x1 (zLen (b + 3))) (zC (zR32 (M (b + 3) x1)) (((M (b + 3) x1) < 0 → zWp (zSp d) 84 K 165 [some (.inr (.inr b)), some (.inl (x1 + (-1))), u2, u3] [] M) ∧ (¬ ((M (b + 3) x1) < 0) → zC (zObj b 9) (zC (zObj b 9) (zC (zArr (b + 3) 0) (zC (zSm x1 (zLen (b + 3))) (zC (zArr (b + 6) 0) (zC (zSm (M (b + 3) x1) (zLen (b + 6))) (zC (zObj b 9) (zC (zArr (b + 6) 0) (zC (zSm x1 (zLen (b + 6))) (zC (zArr (b + 6) 0) (zC (zSm (M (b + 3) x1) (zLen (b + 6))) (zWp (zSp d) 84 K 165 [some (.inr (.inr b)), some (.inl (x1 + (-1))), u2, u3] [] (zUp M (b + 6) (M (b + 3) x1) ((M (b + 6) (M (b + 3) x1)) + (M (b + 6) x1)))))))))))))))))))))) := (zwp_blk (stops := [7, 21, 58, 84, 106, 121, 165]) (fuel := 132) pe_84).trans rfl
theorem pe_85 : zPg 85 = pg_85 := rfl
/-! 85 Tree.sortAt -/
set_option maxHeartbeats 4000000 in
set_option maxRecDepth 100000 in
theorem me_85 {d : Nat} {K : Kt} {M : Mm} {a1 : Int} {b : Nat} : zSp (d + 1) 85 [.inr (.inr b), .inl a1] M K = (zC (zObj b 9) (zC (zObj b 9) (zC (zArr (b + 1) 0) (zC (zSm a1 (zLen (b + 1))) (zC (zSm (M (b + 1) a1) 24) (K (M 7 (M (b + 1) a1)) M)))))) := (zwp_blk (stops := []) (fuel := 14) pe_85).trans rfl
theorem pe_86 : zPg 86 = pg_86 := rfl
/-! 86 Tree.canCut -/
set_option maxHeartbeats 4000000 in
set_option maxRecDepth 100000 in
theorem me_86 {d : Nat} {K : Kt} {M : Mm} {a1 : Int} {b : Nat} : zSp (d + 1) 86 [.inr (.inr b), .inl a1] M K = (zC (zObj b 9) (zC (zArr (b + 3) 0) (zC (zSm a1 (zLen (b + 3))) (zC (zR32 (M (b + 3) a1)) (((M (b + 3) a1) < 0 → K 0 M) ∧ (¬ ((M (b + 3) a1) < 0) → zC (zObj b 9) (zC (zArr (b + 4) 0) (zC (zSm a1 (zLen (b + 4))) (zC (zObj b 9) (zC (zObj b 9) (zC (zArr (b + 1) 0) (zC (zSm (M (b + 3) a1) (zLen (b + 1))) (zSp d 29 [.inr (.inr 4), .inl (M (b + 1) (M (b + 3) a1))] M (fun z1 M1 => zC (zR32 (M (b + 4) a1)) (zC (zR32 z1) (((M (b + 4) a1) < z1 → K 0 M1) ∧ (¬ ((M (b + 4) a1) < z1) → K 1 M1))))))))))))))))) := (zwp_blk (stops := []) (fuel := 28) pe_86).trans rfl
theorem pe_87 : zPg 87 = pg_87 := rfl
/-! 87 Tree.canBeLeast -/
set_option maxHeartbeats 4000000 in
set_option maxRecDepth 100000 in
theorem me_87 {d : Nat} {K : Kt} {M : Mm} {a1 : Int} {b : Nat} : zSp (d + 1) 87 [.inr (.inr b), .inl a1] M K = (zC (zObj b 9) (zC (zObj b 9) (zSp d 85 [.inr (.inr b), .inl a1] M (fun z1 M1 => zC (zSm z1 6) (zC (zObj b 9) (zC (zArr (b + 6) 0) (zC (zSm a1 (zLen (b + 6))) (zC (zR32 (M1 12 z1)) (zC (zR32 (M1 (b + 6) a1)) (((M1 (b + 6) a1) ≤ (M1 12 z1) → K 0 M1) ∧ (¬ ((M1 (b + 6) a1) ≤ (M1 12 z1)) → K 1 M1))))))))))) := (zwp_blk (stops := []) (fuel := 21) pe_87).trans rfl
theorem pe_88 : zPg 88 = pg_88 := rfl
/-! 88 Tree.isInRow -/
set_option maxHeartbeats 4000000 in
set_option maxRecDepth 100000 in
theorem me_88 {d : Nat} {K : Kt} {M : Mm} {a1 a2 : Int} {b : Nat} : zSp (d + 1) 88 [.inr (.inr b), .inl a1, .inl a2] M K = (zC (zObj b 9) (zC (zArr (b + 5) 0) (zC (zSm a1 (zLen (b + 5))) (zC (zR32 (M (b + 5) a1)) (zC (zR32 a2) ((¬ (M (b + 5) a1) = a2 → K 0 M) ∧ (¬ (¬ (M (b + 5) a1) = a2) → zC (zObj b 9) (zSp d 86 [.inr (.inr b), .inl a1] M (fun z1 M1 => zC (zR32 z1) ((¬ z1 = 0 → K 1 M1) ∧ (¬ (¬ z1 = 0) → zC (zObj b 9) (zSp d 87 [.inr (.inr b), .inl a1] M1 (fun z2 M2 => zC (zR32 z2) ((z2 = 0 → K 0 M2) ∧ (¬ (z2 = 0) → K 1 M2))))))))))))))) := (zwp_blk (stops := []) (fuel := 23) pe_88).trans rfl
theorem pe_89 : zPg 89 = pg_89 := rfl
/-! 89 Tree.countOf -/
set_option maxHeartbeats 4000000 in
set_option maxRecDepth 100000 in
theorem me_89 {d : Nat} {K : Kt} {M : Mm} {a1 a2 a3 : Int} {b : Nat} : zSp (d + 1) 89 [.inr (.inr b), .inl a1, .inl a2, .inl a3] M K = (zC (zR32 a1) ((¬ a1 = 0 → zC (zR32 a1) ((¬ a1 = 1 → zWp (zSp d) 89 K 28 [some (.inr (.inr b)), some (.inl a1), some (.inl a2), some (.inl a3), some (.inl 0), some (.inl 0), some (.inl 0), none] [] M) ∧ (¬ (¬ a1 = 1) → zC (zObj b 9) (K (M b 2) M)))) ∧ (¬ (¬ a1 = 0) → zC (zObj b 9) (K (M b 1) M)))) := (zwp_blk (stops := [28, 59, 85]) (fuel := 106) pe_89).trans rfl
set_option maxHeartbeats 4000000 in
set_option maxRecDepth 100000 in
theorem fe_89_28 {d : Nat} {K : Kt} {M : Mm} {x1 x2 x3 x4 x5 x6 : Int} {b : Nat} {u7 : Option Vl} : zWp (zSp d) 89 K 28 [some (.inr (.inr b)), some (.inl x1), some (.inl x2), some (.inl x3), some (.inl x4), some (.inl x5), some (.inl x6), u7] [] M = (zC (zObj b 9) (zC (zR32 x6) (zC (zR32 (M b 1)) (((M b 1) ≤ x6 → K x4 M) ∧ (¬ ((M b 1) ≤ x6) → zC (zR32 x1) ((¬ x1 = 2 → zWp (zSp d) 89 K 59 [some (.inr (.inr b)), some (.inl x1), some (.inl x2), some (.inl x3), some (.inl x4), some (.inl x5), some (.inl x6), u7] [] M) ∧ (¬ (¬ x1 = 2) → zC (zObj b 9) (zC (zArr (b + 1) 0) (zC (zSm x6 (zLen (b + 1))) (zC (zR32 (M (b + 1) x6)) (zC (zR32 x2) ((¬ (M (b + 1) x6) = x2 → zWp (zSp d) 89 K 59 [some (.inr (.inr b)), some (.inl x1), some (.inl x2), some (.inl x3), some (.inl x4), some (.inl x5), some (.inl x6), u7] [] M) ∧ (¬ (¬ (M (b + 1) x6) = x2) → zWp (zSp d) 89 K 28 [some (.inr (.inr b)), some (.inl x1), some (.inl x2), some (.inl x3), some (.inl (x4 + 1)), some (.inl x5), some (.inl (x6 + 1)), u7] [] M))))))))))))) := (zwp_blk (stops := [28, 59, 85]) (fuel := 106) pe_89).trans rfl
set_option maxHeartbeats 4000000 in
set_option maxRecDepth 100000 in
theorem fe_89_59 {d : Nat} {K : Kt} {M : Mm} {x1 x2 x3 x4 x5 x6 : Int} {b : Nat} {u7 : Option Vl} : zWp (zSp d) 89 K 59 [some (.inr (.inr b)), some (.inl x1), some (.inl x2), some (.inl x3), some (.inl x4), some (.inl x5), some (.inl x6), u7] [] M = (zC (zR32 x1) ((¬ x1 = 3 → zC (zR32 x1) ((¬ x1 = 4 → zWp (zSp d) 89 K 28 [some (.inr (.inr b)), some (.inl x1), some (.inl x2), some (.inl x3), some (.inl x4), some (.inl x5), some (.inl (x6 + 1)), u7] [] M) ∧ (¬ (¬ x1 = 4) → zC (zObj b 9) (zC (zArr (b + 1) 0) (zC (zSm x6 (zLen (b + 1))) (zC (zR32 (M (b + 1) x6)) (zC (zR32 x2) ((¬ (M (b + 1) x6) = x2 → zWp (zSp d) 89 K 28 [some (.inr (.inr b)), some (.inl x1), some (.inl x2), some (.inl x3), some (.inl x4), some (.inl x5), some (.inl (x6 + 1)), u7] [] M) ∧ (¬ (¬ (M (b + 1) x6) = x2) → zC (zObj b 9) (zC (zArr (b + 6) 0) (zC (zSm x6 (zLen (b + 6))) (zC (zObj b 9) (zC (zR32 (x6 + (M (b + 6) x6))) (zC (zR32 (M b 1)) (((M b 1) ≤ (x6 + (M (b + 6) x6)) → zWp (zSp d) 89 K 28 [some (.inr (.inr b)), some (.inl x1), some (.inl x2), some (.inl x3), some (.inl x4), some (.inl x5), some (.inl (x6 + 1)), some (.inl (x6 + (M (b + 6) x6)))] [] M) ∧ (¬ ((M b 1) ≤ (x6 + (M (b + 6) x6))) → zC (zObj b 9) (zC (zArr (b + 3) 0) (zC (zSm (x6 + (M (b + 6) x6)) (zLen (b + 3))) (zC (zObj b 9) (zC (zArr (b + 3) 0) (zC (zSm x6 (zLen (b + 3))) (zC (zR32 (M (b + 3) (x6 + (M (b + 6) x6)))) (zC (zR32 (M (b + 3) x6)) ((¬ (M (b + 3) (x6 + (M (b + 6) x6))) = (M (b + 3) x6) → zWp (zSp d) 89 K 28 [some (.inr (.inr b)), some (.inl x1), some (.inl x2), some (.inl x3), some (.inl x4), some (.inl x5), some (.inl (x6 + 1)), some (.inl (x6 + (M (b + 6) x6)))] [] M) ∧ (¬ (¬ (M (b + 3) (x6 + (M (b + 6) x6))) = (M (b + 3) x6)) → zC (zObj b 9) (zC (zArr (b + 1) 0) (zC (zSm (x6 + (M (b + 6) x6)) (zLen (b + 1))) (zC (zR32 (M (b + 1) (x6 + (M (b + 6) x6)))) (zC (zR32 x3) ((¬ (M (b + 1) (x6 + (M (b + 6) x6))) = x3 → zWp (zSp d) 89 K 28 [some (.inr (.inr b)), some (.inl x1), some (.inl x2), some (.inl x3), some (.inl x4), some (.inl x5), some (.inl (x6 + 1)), some (.inl (x6 + (M (b + 6) x6)))] [] M) ∧ (¬ (¬ (M (b + 1) (x6 + (M (b + 6) x6))) = x3) → zWp (zSp d) 89 K 28 [some (.inr (.inr b)), some (.inl x1), some (.inl x2), some (.inl x3), some (.inl (x4 + 1)), some (.inl x5), some (.inl (x6 + 1)), some (.inl (x6 + (M (b + 6) x6)))] [] M))))))))))))))))))))))))))))))) ∧ (¬ (¬ x1 = 3) → zC (zR32 x6) (zC (zR32 x5) ((x5 ≤ x6 → zWp (zSp d) 89 K 85 [some (.inr (.inr b)), some (.inl x1), some (.inl x2), some (.inl x3), some (.inl x4), some (.inl x5), some (.inl x6), u7] [] M) ∧ (¬ (x5 ≤ x6) → zC (zObj b 9) (zC (zArr (b + 1) 0) (zC (zSm x6 (zLen (b + 1))) (zC (zR32 (M (b + 1) x6)) (zC (zR32 x3) ((¬ (M (b + 1) x6) = x3 → zWp (zSp d) 89 K 85 [some (.inr (.inr b)), some (.inl x1), some (.inl x2), some (.inl x3), some (.inl x4), some (.inl x5), some (.inl x6), u7] [] M) ∧ (¬ (¬ (M (b + 1) x6) = x3) → zWp (zSp d) 89 K 85 [some (.inr (.inr b)), some (.inl x1), some (.inl x2), some (.inl x3), some (.inl (x4 + 1)), some (.inl x5), some (.inl x6), u7] [] M)))))))))))) := (zwp_blk (stops := [28, 59, 85]) (fuel := 106) pe_89).trans rfl
set_option maxHeartbeats 4000000 in
set_option maxRecDepth 100000 in
theorem fe_89_85 {d : Nat} {K : Kt} {M : Mm} {x1 x2 x3 x4 x5 x6 : Int} {b : Nat} {u7 : Option Vl} : zWp (zSp d) 89 K 85 [some (.inr (.inr b)), some (.inl x1), some (.inl x2), some (.inl x3), some (.inl x4), some (.inl x5), some (.inl x6), u7] [] M = (zC (zObj b 9) (zC (zArr (b + 1) 0) (zC (zSm x6 (zLen (b + 1))) (zC (zR32 (M (b + 1) x6)) (zC (zR32 x2) ((¬ (M (b + 1) x6) = x2 → zWp (zSp d) 89 K 28 [some (.inr (.inr b)), some (.inl x1), some (.inl x2), some (.inl x3), some (.inl x4), some (.inl x5), some (.inl (x6 + 1)), u7] [] M) ∧ (¬ (¬ (M (b + 1) x6) = x2) → zC (zObj b 9) (zC (zArr (b + 6) 0) (zC (zSm x6 (zLen (b + 6))) (zSp d 263 [.inl x5, .inl (x6 + (M (b + 6) x6))] M (fun z1 M1 => zWp (zSp d) 89 K 28 [some (.inr (.inr b)), some (.inl x1), some (.inl x2), some (.inl x3), some (.inl x4), some (.inl z1), some (.inl (x6 + 1)), u7] [] M1))))))))))) := (zwp_blk (stops := [28, 59, 85]) (fuel := 106) pe_89).trans rfl
end
section
theorem pe_90 : zPg 90 = pg_90 := rfl
/-! 90 Tree.becomeSingle -/
set_option maxHeartbeats 4000000 in
set_option maxRecDepth 100000 in
theorem me_90 {d : Nat} {K : Kt} {M : Mm} {a2 a3 a4 : Int} {b : Nat} : zSp (d + 1) 90 [.inr (.inr b), .inr (.inr 38), .inl a2, .inl a3, .inl a4] M K = (zC (zObj b 9) (zSp d 79 [.inr (.inr b)] M (fun _ M1 => zC (zObj b 9) (zSp d 82 [.inr (.inr b), .inr (.inr 38), .inl 0, .inl a3] M1 (fun _ M2 => zC (zR32 a2) ((¬ a2 = 0 → zC (zR32 a2) ((¬ a2 = 1 → zC (zSm a4 80) (zC (zObj b 9) (zSp d 82 [.inr (.inr b), .inr (.inr 38), .inl a4, .inl (a4 + (M2 44 a4))] M2 (fun _ M3 => zWp (zSp d) 90 K 76 [some (.inr (.inr b)), some (.inr (.inr 38)), some (.inl a2), some (.inl a3), some (.inl a4), none] [] M3)))) ∧ (¬ (¬ a2 = 1) → zSp d 85 [.inr (.inr 38), .inl a3] M2 (fun z4 M4 => zC (zObj b 9) (zSp d 83 [.inr (.inr b), .inl z4] M4 (fun _ M5 => zWp (zSp d) 90 K 76 [some (.inr (.inr b)), some (.inr (.inr 38)), some (.inl a2), some (.inl a3), some (.inl a4), none] [] M5)))))) ∧ (¬ (¬ a2 = 0) → zC (zSm a3 80) (zC (zR32 (M2 41 a3)) (((M2 41 a3) < 0 → zWp (zSp d) 90 K 39 [some (.inr (.inr b)), some (.inr (.inr 38)), some (.inl a2), some (.inl a3), some (.inl a4), some (.inl (M2 41 a3))] [] M2) ∧ (¬ ((M2 41 a3) < 0) → zC (zObj b 9) (zC (zArr (b + 2) 0) (zC (zSm (M2 41 a3) (zLen (b + 2))) (zC (zArr (b + 2) 0) (zC (zSm (M2 41 a3) (zLen (b + 2))) (zWp (zSp d) 90 K 39 [some (.inr (.inr b)), some (.inr (.inr 38)), some (.inl a2), some (.inl a3), some (.inl a4), some (.inl (M2 41 a3))] [] (zUp M2 (b + 2) (M2 41 a3) ((M2 (b + 2) (M2 41 a3)) - 1))))))))))))))))) := (zwp_blk (stops := [39, 76]) (fuel := 63) pe_90).trans rfl
set_option maxHeartbeats 4000000 in
set_option maxRecDepth 100000 in
theorem fe_90_39 {d : Nat} {K : Kt} {M : Mm} {x2 x3 x4 x5 : Int} {b : Nat} : zWp (zSp d) 90 K 39 [some (.inr (.inr b)), some (.inr (.inr 38)), some (.inl x2), some (.inl x3), some (.inl x4), some (.inl x5)] [] M = (zWp (zSp d) 90 K 76 [some (.inr (.inr b)), some (.inr (.inr 38)), some (.inl x2), some (.inl x3), some (.inl x4), some (.inl x5)] [] M) := (zwp_blk (stops := [39, 76]) (fuel := 63) pe_90).trans rfl
set_option maxHeartbeats 4000000 in
set_option maxRecDepth 100000 in
theorem fe_90_76 {d : Nat} {K : Kt} {M : Mm} {x2 x3 x4 : Int} {b : Nat} {u5 : Option Vl} : zWp (zSp d) 90 K 76 [some (.inr (.inr b)), some (.inr (.inr 38)), some (.inl x2), some (.inl x3), some (.inl x4), u5] [] M = (zC (zSm x3 80) (zC (zObj b 9) (zSp d 82 [.inr (.inr b), .inr (.inr 38), .inl (x3 + (M 44 x3)), .inl (M 38 1)] M (fun _ M1 => zC (zObj b 9) (zSp d 84 [.inr (.inr b)] M1 (fun _ M2 => K 0 M2)))))) := (zwp_blk (stops := [39, 76]) (fuel := 63) pe_90).trans rfl
theorem pe_91 : zPg 91 = pg_91 := rfl
/-! 91 Tree.becomeChanged -/
set_option maxHeartbeats 4000000 in
set_option maxRecDepth 100000 in
theorem me_91 {d : Nat} {K : Kt} {M : Mm} {b : Nat} : zSp (d + 1) 91 [.inr (.inr b), .inr (.inr 38), .inr (.inr 152), .inr (.inr 153)] M K = (zC (zObj b 9) (zSp d 79 [.inr (.inr b)] M (fun _ M1 => zWp (zSp d) 91 K 7 [some (.inr (.inr b)), some (.inr (.inr 38)), some (.inr (.inr 152)), some (.inr (.inr 153)), some (.inl 0)] [] M1))) := (zwp_blk (stops := [7, 95]) (fuel := 70) pe_91).trans rfl
set_option maxHeartbeats 4000000 in
set_option maxRecDepth 100000 in
theorem fe_91_7 {d : Nat} {K : Kt} {M : Mm} {x4 : Int} {b : Nat} : zWp (zSp d) 91 K 7 [some (.inr (.inr b)), some (.inr (.inr 38)), some (.inr (.inr 152)), some (.inr (.inr 153)), some (.inl x4)] [] M = (zC (zR32 x4) (zC (zR32 (M 38 1)) (((M 38 1) ≤ x4 → zC (zObj b 9) (zSp d 84 [.inr (.inr b)] M (fun _ M1 => K 0 M1))) ∧ (¬ ((M 38 1) ≤ x4) → zC (zSm x4 80) (zC (zR32 (M 152 x4)) ((¬ (M 152 x4) = 0 → zSp d 86 [.inr (.inr 38), .inl x4] M (fun z2 M2 => zC (zR32 z2) ((¬ z2 = 0 → zC (zObj b 9) (zC (zSm x4 80) (zC (zSm (M2 41 x4) 80) (zC (zArr (b + 2) 0) (zC (zSm (M2 153 (M2 41 x4)) (zLen (b + 2))) (zC (zArr (b + 2) 0) (zC (zSm (M2 153 (M2 41 x4)) (zLen (b + 2))) (zWp (zSp d) 91 K 95 [some (.inr (.inr b)), some (.inr (.inr 38)), some (.inr (.inr 152)), some (.inr (.inr 153)), some (.inl x4)] [] (zUp M2 (b + 2) (M2 153 (M2 41 x4)) ((M2 (b + 2) (M2 153 (M2 41 x4))) - 1)))))))))) ∧ (¬ (¬ z2 = 0) → zSp d 85 [.inr (.inr 38), .inl x4] M2 (fun z3 M3 => zC (zObj b 9) (zSp d 83 [.inr (.inr b), .inl z3] M3 (fun _ M4 => zWp (zSp d) 91 K 95 [some (.inr (.inr b)), some (.inr (.inr 38)), some (.inr (.inr 152)), some (.inr (.inr 153)), some (.inl x4)] [] M4))))))) ∧ (¬ (¬ (M 152 x4) = 0) → zC (zObj b 9) (zC (zSm x4 80) (zC (zSm x4 80) (zC (zSm x4 80) (zC (zObj b 9) (zSp d 81 [.inr (.inr b), .inl (M 39 x4), .inl (M 40 x4)] (zUp M 153 x4 (M b 1)) (fun _ M5 => zWp (zSp d) 91 K 7 [some (.inr (.inr b)), some (.inr (.inr 38)), some (.inr (.inr 152)), some (.inr (.inr 153)), some (.inl (x4 + 1))] [] M5))))))))))))) := (zwp_blk (stops := [7, 95]) (fuel := 70) pe_91).trans rfl
set_option maxHeartbeats 4000000 in
set_option maxRecDepth 100000 in
theorem fe_91_95 {d : Nat} {K : Kt} {M : Mm} {x4 : Int} {b : Nat} : zWp (zSp d) 91 K 95 [some (.inr (.inr b)), some (.inr (.inr 38)), some (.inr (.inr 152)), some (.inr (.inr 153)), some (.inl x4)] [] M = (zC (zSm x4 80) (zSp d 263 [.inl 1, .inl (M 44 x4)] M (fun z1 M1 => zWp (zSp d) 91 K 7 [some (.inr (.inr b)), some (.inr (.inr 38)), some (.inr (.inr 152)), some (.inr (.inr 153)), some (.inl (x4 + z1))] [] M1))) := (zwp_blk (stops := [7, 95]) (fuel := 70) pe_91).trans rfl
theorem pe_92 : zPg 92 = pg_92 := rfl
/-! 92 Tried.forget -/
set_option maxHeartbeats 4000000 in
set_option maxRecDepth 100000 in
theorem me_92 {d : Nat} {K : Kt} {M : Mm} : zSp (d + 1) 92 [.inr (.inr 138)] M K = (zSp d 266 [.inr (.inr 145), .inl (-1)] (zUp M 138 0 0) (fun _ M1 => K 0 M1)) := (zwp_blk (stops := []) (fuel := 13) pe_92).trans rfl
theorem pe_93 : zPg 93 = pg_93 := rfl
/-! 93 Tried.find -/
set_option maxHeartbeats 4000000 in
set_option maxRecDepth 100000 in
theorem me_93 {d : Nat} {K : Kt} {M : Mm} {o1 : Nat} : zSp (d + 1) 93 [.inr (.inr 138), .inr (.inr o1)] M K = (zSp d 95 [.inr (.inr 138), .inr (.inr o1)] M (fun _ M1 => zC (zSm (M1 138 9) 1024) (zWp (zSp d) 93 K 17 [some (.inr (.inr 138)), some (.inr (.inr o1)), some (.inl (M1 145 (M1 138 9))), some (.inl 0)] [] M1))) := (zwp_blk (stops := [17]) (fuel := 44) pe_93).trans rfl
set_option maxHeartbeats 4000000 in
set_option maxRecDepth 100000 in
theorem fe_93_17 {d : Nat} {K : Kt} {M : Mm} {x2 x3 : Int} {o1 : Nat} : zWp (zSp d) 93 K 17 [some (.inr (.inr 138)), some (.inr (.inr o1)), some (.inl x2), some (.inl x3)] [] M = (zC (zR32 x3) ((600 ≤ x3 → K (-1) M) ∧ (¬ (600 ≤ x3) → zC (zR32 x2) ((x2 = (-1) → K (-1) M) ∧ (¬ (x2 = (-1)) → zC (zSm x2 600) (zC (zObj o1 9) (zC (zR32 (M 139 x2)) (zC (zR32 (M o1 1)) ((¬ (M 139 x2) = (M o1 1) → zC (zSm x2 600) (zWp (zSp d) 93 K 17 [some (.inr (.inr 138)), some (.inr (.inr o1)), some (.inl (M 144 x2)), some (.inl (x3 + 1))] [] M)) ∧ (¬ (¬ (M 139 x2) = (M o1 1)) → zSp d 96 [.inr (.inr 138), .inl x2] M (fun z1 M1 => zC (zR32 z1) ((z1 = 0 → zC (zSm x2 600) (zWp (zSp d) 93 K 17 [some (.inr (.inr 138)), some (.inr (.inr o1)), some (.inl (M1 144 x2)), some (.inl (x3 + 1))] [] M1)) ∧ (¬ (z1 = 0) → K x2 M1))))))))))))) := (zwp_blk (stops := [17]) (fuel := 44) pe_93).trans rfl
theorem pe_94 : zPg 94 = pg_94 := rfl
/-! 94 Tried.add -/
set_option maxHeartbeats 4000000 in
set_option maxRecDepth 100000 in
theorem me_94 {d : Nat} {K : Kt} {M : Mm} {a1 a2 a3 a4 : Int} : zSp (d + 1) 94 [.inr (.inr 138), .inl a1, .inl a2, .inl a3, .inl a4] M K = (zC (zR32 (M 138 0)) (((M 138 0) < 600 → zC (zSm (M 138 0) 600) (zC (zSm (M 138 0) 600) (zC (zSm (M 138 0) 600) (zC (zSm (M 138 0) 600) (zC (zCo 0 ((M 138 0) * 16) 16 16 9600) (zC (zSm (M 138 9) 1024) (zC (zSm (M 138 0) 600) (zC (zSm (M 138 9) 1024) (K 0 (zUp (zUp (zUp (zCpy (zUp (zUp (zUp (zUp M 139 (M 138 0) a1) 140 (M 138 0) a2) 141 (M 138 0) a3) 142 (M 138 0) a4) 146 0 143 ((M 138 0) * 16) 16) 144 (M 138 0) (M 145 (M 138 9))) 145 (M 138 9) (M 138 0)) 138 0 ((M 138 0) + 1))))))))))) ∧ (¬ ((M 138 0) < 600) → K 0 M))) := (zwp_blk (stops := []) (fuel := 69) pe_94).trans rfl
theorem pe_95 : zPg 95 = pg_95 := rfl
/-! 95 Tried.makeKey -/
set_option maxHeartbeats 4000000 in
set_option maxRecDepth 100000 in
theorem me_95 {d : Nat} {K : Kt} {M : Mm} {o1 : Nat} : zSp (d + 1) 95 [.inr (.inr 138), .inr (.inr o1)] M K = (zSp d 265 [.inr (.inr 146), .inr (.inl 0)] M (fun _ M1 => zC (zObj o1 9) (zC (zR32 (M1 o1 1)) (zWp (zSp d) 95 K 17 [some (.inr (.inr 138)), some (.inr (.inr o1)), some (.inr (.inl (M1 o1 1))), none, some (.inl 0), none] [] M1)))) := (zwp_blk (stops := [17]) (fuel := 68) pe_95).trans rfl
set_option maxHeartbeats 4000000 in
set_option maxRecDepth 100000 in
theorem fe_95_17 {d : Nat} {K : Kt} {M : Mm} {x2 x4 : Int} {o1 : Nat} {u5 : Option Vl} : zWp (zSp d) 95 K 17 [some (.inr (.inr 138)), some (.inr (.inr o1)), some (.inr (.inl x2)), none, some (.inl x4), u5] [] M = (zC (zObj o1 9) (zC (zR32 x4) (zC (zR32 (M o1 1)) (((M o1 1) ≤ x4 → K 0 (zUp M 138 9 (zIandZ (zLxorZ x2 (zLushrZ x2 16)) 1023))) ∧ (¬ ((M o1 1) ≤ x4) → zC (zObj o1 9) (zC (zArr (o1 + 1) 0) (zC (zSm x4 (zLen (o1 + 1))) (zC (zObj o1 9) (zC (zArr (o1 + 2) 0) (zC (zSm x4 (zLen (o1 + 2))) (zC (zR32 x4) (zC (zDv x4 5) (zC (zR32 x4) (zC (zDv x4 5) (zC (zSm (x4 / 5) 16) (zC (zR32 (zIorZ ((M (o1 + 1) x4) * 2 ^ 7) (M (o1 + 2) x4))) (zC (zSm (x4 / 5) 16) (zC (zR32 (zIorZ ((M (o1 + 1) x4) * 2 ^ 7) (M (o1 + 2) x4))) (zWp (zSp d) 95 K 17 [some (.inr (.inr 138)), some (.inr (.inr o1)), some (.inr (.inl ((x2 * 31) + (zIorZ ((M (o1 + 1) x4) * 2 ^ 7) (M (o1 + 2) x4))))), none, some (.inl (x4 + 1)), some (.inl (zIorZ ((M (o1 + 1) x4) * 2 ^ 7) (M (o1 + 2) x4)))] [] (zUp M 146 (x4 / 5) (zLorZ ((M 146 (x4 / 5)) * 2 ^ 12) (zIorZ ((M (o1 + 1) x4) * 2 ^ 7) (M (o1 + 2) x4))))))))))))))))))))))) := (zwp_blk (stops := [17]) (fuel := 68) pe_95).trans rfl
theorem pe_96 : zPg 96 = pg_96 := rfl
/-! 96 Tried.hasKey -/
set_option maxHeartbeats 4000000 in
set_option maxRecDepth 100000 in
theorem me_96 {d : Nat} {K : Kt} {M : Mm} {a1 : Int} : zSp (d + 1) 96 [.inr (.inr 138), .inl a1] M K = (zWp (zSp d) 96 K 2 [some (.inr (.inr 138)), some (.inl a1), some (.inl 0)] [] M) := (zwp_blk (stops := [2]) (fuel := 30) pe_96).trans rfl
set_option maxHeartbeats 4000000 in
set_option maxRecDepth 100000 in
theorem fe_96_2 {d : Nat} {K : Kt} {M : Mm} {x1 x2 : Int} : zWp (zSp d) 96 K 2 [some (.inr (.inr 138)), some (.inl x1), some (.inl x2)] [] M = (zC (zR32 x2) ((16 ≤ x2 → K 1 M) ∧ (¬ (16 ≤ x2) → zC (zSm ((x1 * 16) + x2) 9600) (zC (zSm x2 16) (zC (zR64 (M 143 ((x1 * 16) + x2))) (zC (zR64 (M 146 x2)) (zC (zR32 (zLcmp (M 143 ((x1 * 16) + x2)) (M 146 x2))) (((zLcmp (M 143 ((x1 * 16) + x2)) (M 146 x2)) = 0 → zWp (zSp d) 96 K 2 [some (.inr (.inr 138)), some (.inl x1), some (.inl (x2 + 1))] [] M) ∧ (¬ ((zLcmp (M 143 ((x1 * 16) + x2)) (M 146 x2)) = 0) → K 0 M))))))))) := (zwp_blk (stops := [2]) (fuel := 30) pe_96).trans rfl
theorem pe_97 : zPg 97 = pg_97 := rfl
/-! 97 LeastFailing.feed -/
set_option maxHeartbeats 4000000 in
set_option maxRecDepth 100000 in
theorem me_97 {d : Nat} {K : Kt} {M : Mm} {a1 a2 a3 a4 a5 : Int} : zSp (d + 1) 97 [.inr (.inr 0), .inl a1, .inl a2, .inl a3, .inl a4, .inl a5] M K = (zC (zR32 ((M 2 1) + 20)) ((((M 2 1) + 20) ≤ 1000 → zSp d 64 [.inr (.inr 2), .inl a1] M (fun _ M1 => zSp d 64 [.inr (.inr 2), .inl a2] M1 (fun _ M2 => zSp d 64 [.inr (.inr 2), .inl a3] M2 (fun _ M3 => zSp d 64 [.inr (.inr 2), .inl a4] M3 (fun _ M4 => zSp d 64 [.inr (.inr 2), .inl a5] M4 (fun _ M5 => K (M5 2 1) M5)))))) ∧ (¬ (((M 2 1) + 20) ≤ 1000) → K (-1) M))) := (zwp_blk (stops := []) (fuel := 38) pe_97).trans rfl
theorem pe_98 : zPg 98 = pg_98 := rfl
/-! 98 LeastFailing.end -/
set_option maxHeartbeats 4000000 in
set_option maxRecDepth 100000 in
theorem me_98 {d : Nat} {K : Kt} {M : Mm} {a1 : Int} : zSp (d + 1) 98 [.inr (.inr 0), .inl a1] M K = (zC (zR32 a1) ((a1 < 0 → K 0 M) ∧ (¬ (a1 < 0) → zC (zR32 a1) (zC (zR32 (M 2 1)) ((a1 ≤ (M 2 1) → K 1 (zUp M 2 1 a1)) ∧ (¬ (a1 ≤ (M 2 1)) → K 0 M)))))) := (zwp_blk (stops := []) (fuel := 20) pe_98).trans rfl
theorem pe_99 : zPg 99 = pg_99 := rfl
/-! 99 LeastFailing.grammar -/
set_option maxHeartbeats 4000000 in
set_option maxRecDepth 100000 in
theorem me_99 {d : Nat} {K : Kt} {M : Mm} : zSp (d + 1) 99 [.inr (.inr 0)] M K = (zSp d 34 [.inr (.inr 2), .inr (.inr 14)] M (fun z1 M1 => zC (zR32 z1) ((¬ z1 = 0 → zSp d 22 [.inr (.inr 4), .inr (.inr 14)] (zUp M1 2 1 0) (fun _ M2 => zSp d 79 [.inr (.inr 38)] M2 (fun _ M3 => zSp d 0 [.inr (.inr 24)] M3 (fun _ M4 => zSp d 92 [.inr (.inr 138)] (zUp M4 0 8 0) (fun _ M5 => K (M5 4 0) M5))))) ∧ (¬ (¬ z1 = 0) → K (-1) (zUp M1 2 1 0))))) := (zwp_blk (stops := []) (fuel := 40) pe_99).trans rfl
theorem pe_100 : zPg 100 = pg_100 := rfl
/-! 100 LeastFailing.input -/
set_option maxHeartbeats 4000000 in
set_option maxRecDepth 100000 in
theorem me_100 {d : Nat} {K : Kt} {M : Mm} : zSp (d + 1) 100 [.inr (.inr 0)] M K = (zC (zR32 (M 4 0)) ((¬ (M 4 0) = 0 → zSp d 38 [.inr (.inr 134)] M (fun z1 M1 => zC (zR32 z1) ((¬ z1 = 0 → zSp d 131 [.inr (.inr 0)] (zUp M1 2 1 0) (fun _ M2 => zSp d 80 [.inr (.inr 38), .inr (.inr 46)] M2 (fun _ M3 => zSp d 92 [.inr (.inr 138)] M3 (fun _ M4 => K (M4 38 1) M4)))) ∧ (¬ (¬ z1 = 0) → K (-1) (zUp M1 2 1 0))))) ∧ (¬ (¬ (M 4 0) = 0) → K (-3) (zUp M 2 1 0)))) := (zwp_blk (stops := []) (fuel := 41) pe_100).trans rfl
theorem pe_101 : zPg 101 = pg_101 := rfl
/-! 101 LeastFailing.bugs -/
set_option maxHeartbeats 4000000 in
set_option maxRecDepth 100000 in
theorem me_101 {d : Nat} {K : Kt} {M : Mm} : zSp (d + 1) 101 [.inr (.inr 0)] M K = (zC (zR32 (M 4 0)) ((¬ (M 4 0) = 0 → zSp d 8 [.inr (.inr 136)] M (fun z1 M1 => zC (zR32 z1) ((¬ z1 = 0 → zSp d 1 [.inr (.inr 24), .inr (.inr 31)] (zUp M1 2 1 0) (fun _ M2 => zSp d 92 [.inr (.inr 138)] M2 (fun _ M3 => K (M3 24 0) M3))) ∧ (¬ (¬ z1 = 0) → K (-1) (zUp M1 2 1 0))))) ∧ (¬ (¬ (M 4 0) = 0) → K (-3) (zUp M 2 1 0)))) := (zwp_blk (stops := []) (fuel := 39) pe_101).trans rfl
theorem pe_102 : zPg 102 = pg_102 := rfl
/-! 102 LeastFailing.fault -/
set_option maxHeartbeats 4000000 in
set_option maxRecDepth 100000 in
theorem me_102 {d : Nat} {K : Kt} {M : Mm} {a1 : Int} : zSp (d + 1) 102 [.inr (.inr 0), .inl a1] M K = (zC (zR32 a1) ((¬ a1 = 0 → zC (zR32 a1) ((¬ a1 = 1 → K (-1) M) ∧ (¬ (¬ a1 = 1) → K (M 2 7) M))) ∧ (¬ (¬ a1 = 0) → K (M 2 6) M))) := (zwp_blk (stops := []) (fuel := 20) pe_102).trans rfl
theorem pe_103 : zPg 103 = pg_103 := rfl
/-! 103 LeastFailing.votes -/
set_option maxHeartbeats 4000000 in
set_option maxRecDepth 100000 in
theorem me_103 {d : Nat} {K : Kt} {M : Mm} {a1 : Int} : zSp (d + 1) 103 [.inr (.inr 0), .inl a1] M K = (zSp d 129 [.inl a1] M (fun z1 M1 => zC (zR32 z1) ((¬ z1 = 0 → zSp d 92 [.inr (.inr 138)] (zUp M1 147 3 a1) (fun _ M2 => K (M1 147 3) M2)) ∧ (¬ (¬ z1 = 0) → K (-2) M1)))) := (zwp_blk (stops := []) (fuel := 23) pe_103).trans rfl
theorem pe_104 : zPg 104 = pg_104 := rfl
/-! 104 LeastFailing.seed -/
set_option maxHeartbeats 4000000 in
set_option maxRecDepth 100000 in
theorem me_104 {d : Nat} {K : Kt} {M : Mm} {a1 : Int} : zSp (d + 1) 104 [.inr (.inr 0), .inl a1] M K = (zC (zR32 a1) ((0 ≤ a1 → zSp d 92 [.inr (.inr 138)] (zUp M 147 4 a1) (fun _ M1 => K 1 M1)) ∧ (¬ (0 ≤ a1) → K (-2) M))) := (zwp_blk (stops := []) (fuel := 18) pe_104).trans rfl
theorem pe_105 : zPg 105 = pg_105 := rfl
/-! 105 LeastFailing.count -/
set_option maxHeartbeats 4000000 in
set_option maxRecDepth 100000 in
theorem me_105 {d : Nat} {K : Kt} {M : Mm} {a1 : Int} : zSp (d + 1) 105 [.inr (.inr 0), .inl a1] M K = (zC (zR32 a1) (((a1 = 0 → K (M 4 0) M) ∧ ((a1 = 1 → K (M 4 1) M) ∧ ((a1 = 2 → K (M 38 1) M) ∧ ((a1 = 3 → K (M 24 0) M) ∧ ((a1 = 4 → K (M 147 3) M) ∧ ((a1 = 5 → K (M 138 0) M) ∧ ((a1 = 6 → K (M 147 5) M) ∧ ((a1 = 7 → K (M 147 6) M) ∧ ((a1 = 8 → K (M 147 7) M) ∧ ((a1 = 9 → K (M 147 4) M) ∧ ((a1 = 10 → K (M 0 8) M) ∧ ((a1 = 11 → zC (zR32 (M 38 1)) ((¬ (M 38 1) = 0 → K (M 38 2) M) ∧ (¬ (¬ (M 38 1) = 0) → K (-1) M))) ∧ True)))))))))))) ∧ ((a1 < 0 ∨ 11 < a1) → K (-1) M))) := (zwp_blk (stops := []) (fuel := 62) pe_105).trans rfl
theorem pe_106 : zPg 106 = pg_106 := rfl
/-! 106 LeastFailing.letter -/
set_option maxHeartbeats 4000000 in
set_option maxRecDepth 100000 in
theorem me_106 {d : Nat} {K : Kt} {M : Mm} {a1 a2 a3 : Int} : zSp (d + 1) 106 [.inr (.inr 0), .inl a1, .inl a2, .inl a3] M K = (zC (zR32 a3) ((a3 < 0 → K (-1) M) ∧ (¬ (a3 < 0) → zC (zR32 a3) ((6 ≤ a3 → K (-1) M) ∧ (¬ (6 ≤ a3) → zC (zR32 a2) ((0 ≤ a2 → zC (zR32 a1) ((¬ a1 = 0 → zWp (zSp d) 106 K 45 [some (.inr (.inr 0)), some (.inl a1), some (.inl a2), some (.inl a3)] [] M) ∧ (¬ (¬ a1 = 0) → zC (zR32 a2) (zC (zR32 (M 4 0)) (((M 4 0) ≤ a2 → zWp (zSp d) 106 K 45 [some (.inr (.inr 0)), some (.inl a1), some (.inl a2), some (.inl a3)] [] M) ∧ (¬ ((M 4 0) ≤ a2) → zC (zSm a2 24) (zSp d 63 [.inl (M 5 a2), .inl a3] M (fun z1 M1 => K z1 M1)))))))) ∧ (¬ (0 ≤ a2) → K (-1) M))))))) := (zwp_blk (stops := [45, 75]) (fuel := 63) pe_106).trans rfl
set_option maxHeartbeats 4000000 in
set_option maxRecDepth 100000 in
theorem fe_106_45 {d : Nat} {K : Kt} {M : Mm} {x1 x2 x3 : Int} : zWp (zSp d) 106 K 45 [some (.inr (.inr 0)), some (.inl x1), some (.inl x2), some (.inl x3)] [] M = (zC (zR32 x1) ((¬ x1 = 1 → zWp (zSp d) 106 K 75 [some (.inr (.inr 0)), some (.inl x1), some (.inl x2), some (.inl x3)] [] M) ∧ (¬ (¬ x1 = 1) → zC (zR32 x2) (zC (zR32 (M 4 1)) (((M 4 1) ≤ x2 → zWp (zSp d) 106 K 75 [some (.inr (.inr 0)), some (.inl x1), some (.inl x2), some (.inl x3)] [] M) ∧ (¬ ((M 4 1) ≤ x2) → zC (zSm x2 6) (zSp d 63 [.inl (M 11 x2), .inl x3] M (fun z1 M1 => K z1 M1)))))))) := (zwp_blk (stops := [45, 75]) (fuel := 63) pe_106).trans rfl
set_option maxHeartbeats 4000000 in
set_option maxRecDepth 100000 in
theorem fe_106_75 {d : Nat} {K : Kt} {M : Mm} {x1 x2 x3 : Int} : zWp (zSp d) 106 K 75 [some (.inr (.inr 0)), some (.inl x1), some (.inl x2), some (.inl x3)] [] M = (zC (zR32 x1) ((¬ x1 = 2 → K (-1) M) ∧ (¬ (¬ x1 = 2) → zC (zR32 x2) (zC (zR32 (M 24 0)) (((M 24 0) ≤ x2 → K (-1) M) ∧ (¬ ((M 24 0) ≤ x2) → zC (zSm x2 6) (zSp d 63 [.inl (M 25 x2), .inl x3] M (fun z1 M1 => K z1 M1)))))))) := (zwp_blk (stops := [45, 75]) (fuel := 63) pe_106).trans rfl
theorem pe_107 : zPg 107 = pg_107 := rfl
/-! 107 LeastFailing.line -/
set_option maxHeartbeats 4000000 in
set_option maxRecDepth 100000 in
theorem me_107 {d : Nat} {K : Kt} {M : Mm} {a1 a2 : Int} : zSp (d + 1) 107 [.inr (.inr 0), .inl a1, .inl a2] M K = (zC (zR32 a1) ((a1 < 0 → K (-1) M) ∧ (¬ (a1 < 0) → zC (zR32 a1) (zC (zR32 (M 4 0)) ((a1 < (M 4 0) → zC (zR32 a2) (((a2 = 0 → zC (zSm a1 24) (zC (zR32 (M 6 a1)) (((M 6 a1) = 0 → K 0 M) ∧ (¬ ((M 6 a1) = 0) → K 1 M)))) ∧ ((a2 = 1 → zC (zSm a1 24) (K (M 7 a1) M)) ∧ ((a2 = 2 → zC (zSm a1 24) (K (M 8 a1) M)) ∧ ((a2 = 3 → zC (zSm a1 24) (zC (zR32 (M 9 a1)) (((M 9 a1) = 0 → K 0 M) ∧ (¬ ((M 9 a1) = 0) → K 1 M)))) ∧ True)))) ∧ ((a2 < 0 ∨ 3 < a2) → zC (zR32 a2) ((a2 < 10 → K (-1) M) ∧ (¬ (a2 < 10) → zC (zSm a1 24) (zC (zR32 (a2 - 10)) (zC (zR32 (M 8 a1)) (((a2 - 10) < (M 8 a1) → zSp d 28 [.inr (.inr 4), .inl a1, .inl (a2 - 10)] M (fun z1 M1 => K z1 M1)) ∧ (¬ ((a2 - 10) < (M 8 a1)) → K (-1) M))))))))) ∧ (¬ (a1 < (M 4 0)) → K (-1) M)))))) := (zwp_blk (stops := []) (fuel := 70) pe_107).trans rfl
theorem pe_108 : zPg 108 = pg_108 := rfl
/-! 108 LeastFailing.least -/
set_option maxHeartbeats 4000000 in
set_option maxRecDepth 100000 in
theorem me_108 {d : Nat} {K : Kt} {M : Mm} {a1 a2 : Int} : zSp (d + 1) 108 [.inr (.inr 0), .inl a1, .inl a2] M K = (zC (zR32 a1) ((a1 < 0 → K (-1) M) ∧ (¬ (a1 < 0) → zC (zR32 a1) (zC (zR32 (M 4 1)) ((a1 < (M 4 1) → zC (zR32 a2) ((¬ a2 = (-1) → zC (zR32 a2) ((a2 < 0 → K (-1) M) ∧ (¬ (a2 < 0) → zC (zSm a1 6) (zC (zR32 a2) (zC (zR32 (M 12 a1)) ((a2 < (M 12 a1) → zSp d 33 [.inr (.inr 4), .inl a1, .inl a2] M (fun z1 M1 => K z1 M1)) ∧ (¬ (a2 < (M 12 a1)) → K (-1) M))))))) ∧ (¬ (¬ a2 = (-1)) → zC (zSm a1 6) (K (M 12 a1) M)))) ∧ (¬ (a1 < (M 4 1)) → K (-1) M)))))) := (zwp_blk (stops := []) (fuel := 40) pe_108).trans rfl
theorem pe_109 : zPg 109 = pg_109 := rfl
/-! 109 LeastFailing.node -/
set_option maxHeartbeats 4000000 in
set_option maxRecDepth 100000 in
theorem me_109 {d : Nat} {K : Kt} {M : Mm} {a1 a2 : Int} : zSp (d + 1) 109 [.inr (.inr 0), .inl a1, .inl a2] M K = (zC (zR32 a1) ((a1 < 0 → K (-2) M) ∧ (¬ (a1 < 0) → zC (zR32 a1) (zC (zR32 (M 38 1)) ((a1 < (M 38 1) → zC (zR32 a2) (((a2 = 0 → zC (zSm a1 80) (K (M 39 a1) M)) ∧ ((a2 = 1 → zSp d 85 [.inr (.inr 38), .inl a1] M (fun z1 M1 => K z1 M1)) ∧ ((a2 = 2 → zC (zSm a1 80) (K (M 43 a1) M)) ∧ ((a2 = 3 → zC (zSm a1 80) (K (M 44 a1) M)) ∧ ((a2 = 4 → zC (zSm a1 80) (K (M 40 a1) M)) ∧ ((a2 = 5 → zC (zSm a1 80) (K (M 41 a1) M)) ∧ ((a2 = 6 → zC (zSm a1 80) (K (M 42 a1) M)) ∧ ((a2 = 7 → zSp d 86 [.inr (.inr 38), .inl a1] M (fun z2 M2 => zC (zR32 z2) ((z2 = 0 → K 0 M2) ∧ (¬ (z2 = 0) → K 1 M2)))) ∧ True)))))))) ∧ ((a2 < 0 ∨ 7 < a2) → K (-2) M))) ∧ (¬ (a1 < (M 38 1)) → K (-2) M)))))) := (zwp_blk (stops := []) (fuel := 68) pe_109).trans rfl
theorem pe_110 : zPg 110 = pg_110 := rfl
/-! 110 LeastFailing.holding -/
set_option maxHeartbeats 4000000 in
set_option maxRecDepth 100000 in
theorem me_110 {d : Nat} {K : Kt} {M : Mm} : zSp (d + 1) 110 [.inr (.inr 0)] M K = (zC (zR32 (M 38 1)) ((¬ (M 38 1) = 0 → zSp d 6 [.inr (.inr 24), .inr (.inr 38)] M (fun z1 M1 => K z1 M1)) ∧ (¬ (¬ (M 38 1) = 0) → K (-1) M))) := (zwp_blk (stops := []) (fuel := 17) pe_110).trans rfl
theorem pe_111 : zPg 111 = pg_111 := rfl
/-! 111 LeastFailing.counts -/
set_option maxHeartbeats 4000000 in
set_option maxRecDepth 100000 in
theorem me_111 {d : Nat} {K : Kt} {M : Mm} {a1 a2 a3 : Int} : zSp (d + 1) 111 [.inr (.inr 0), .inl a1, .inl a2, .inl a3] M K = (zC (zR32 (M 38 1)) (((M 38 1) = 0 → K (-1) M) ∧ (¬ ((M 38 1) = 0) → zC (zR32 a1) ((a1 < 0 → K (-1) M) ∧ (¬ (a1 < 0) → zC (zR32 a1) ((a1 ≤ 4 → zC (zR32 a1) ((a1 < 2 → zWp (zSp d) 111 K 43 [some (.inr (.inr 0)), some (.inl a1), some (.inl a2), some (.inl a3)] [] M) ∧ (¬ (a1 < 2) → zC (zR32 a2) ((a2 < 0 → K (-1) M) ∧ (¬ (a2 < 0) → zC (zR32 a2) (zC (zR32 (M 4 0)) ((a2 < (M 4 0) → zWp (zSp d) 111 K 43 [some (.inr (.inr 0)), some (.inl a1), some (.inl a2), some (.inl a3)] [] M) ∧ (¬ (a2 < (M 4 0)) → K (-1) M)))))))) ∧ (¬ (a1 ≤ 4) → K (-1) M))))))) := (zwp_blk (stops := [43, 65]) (fuel := 47) pe_111).trans rfl
set_option maxHeartbeats 4000000 in
set_option maxRecDepth 100000 in
theorem fe_111_43 {d : Nat} {K : Kt} {M : Mm} {x1 x2 x3 : Int} : zWp (zSp d) 111 K 43 [some (.inr (.inr 0)), some (.inl x1), some (.inl x2), some (.inl x3)] [] M = (zC (zR32 x1) ((x1 < 3 → zWp (zSp d) 111 K 65 [some (.inr (.inr 0)), some (.inl x1), some (.inl x2), some (.inl x3)] [] M) ∧ (¬ (x1 < 3) → zC (zR32 x3) ((x3 < 0 → K (-1) M) ∧ (¬ (x3 < 0) → zC (zR32 x3) (zC (zR32 (M 4 0)) ((x3 < (M 4 0) → zWp (zSp d) 111 K 65 [some (.inr (.inr 0)), some (.inl x1), some (.inl x2), some (.inl x3)] [] M) ∧ (¬ (x3 < (M 4 0)) → K (-1) M)))))))) := (zwp_blk (stops := [43, 65]) (fuel := 47) pe_111).trans rfl
set_option maxHeartbeats 4000000 in
set_option maxRecDepth 100000 in
theorem fe_111_65 {d : Nat} {K : Kt} {M : Mm} {x1 x2 x3 : Int} : zWp (zSp d) 111 K 65 [some (.inr (.inr 0)), some (.inl x1), some (.inl x2), some (.inl x3)] [] M = (zSp d 89 [.inr (.inr 38), .inl x1, .inl x2, .inl x3] M (fun z1 M1 => K z1 M1)) := (zwp_blk (stops := [43, 65]) (fuel := 47) pe_111).trans rfl
theorem pe_112 : zPg 112 = pg_112 := rfl
/-! 112 LeastFailing.verdict -/
set_option maxHeartbeats 4000000 in
set_option maxRecDepth 100000 in
theorem me_112 {d : Nat} {K : Kt} {M : Mm} : zSp (d + 1) 112 [.inr (.inr 0)] M K = (zC (zR32 (M 38 1)) ((¬ (M 38 1) = 0 → zSp d 42 [.inr (.inr 147), .inr (.inr 38), .inl 0, .inl (-1)] M (fun z1 M1 => K z1 M1)) ∧ (¬ (¬ (M 38 1) = 0) → K (-1) M))) := (zwp_blk (stops := []) (fuel := 19) pe_112).trans rfl
theorem pe_113 : zPg 113 = pg_113 := rfl
/-! 113 LeastFailing.run -/
set_option maxHeartbeats 4000000 in
set_option maxRecDepth 100000 in
theorem me_113 {d : Nat} {K : Kt} {M : Mm} {a1 : Int} : zSp (d + 1) 113 [.inr (.inr 0), .inl a1] M K = (zC (zR32 a1) ((a1 < 0 → K (-1) M) ∧ (¬ (a1 < 0) → zC (zR32 (M 38 1)) ((¬ (M 38 1) = 0 → zSp d 6 [.inr (.inr 24), .inr (.inr 38)] (zUp M 147 4 a1) (fun z1 M1 => zSp d 44 [.inr (.inr 147), .inl z1] M1 (fun z2 M2 => K z2 (zUp M2 147 4 (M 147 4))))) ∧ (¬ (¬ (M 38 1) = 0) → K (-1) M))))) := (zwp_blk (stops := []) (fuel := 36) pe_113).trans rfl
theorem pe_114 : zPg 114 = pg_114 := rfl
/-! 114 LeastFailing.single -/
set_option maxHeartbeats 4000000 in
set_option maxRecDepth 100000 in
theorem me_114 {d : Nat} {K : Kt} {M : Mm} {a1 a2 : Int} : zSp (d + 1) 114 [.inr (.inr 0), .inl a1, .inl a2] M K = (zC (zR32 a1) ((¬ a1 = (-1) → zC (zR32 a2) ((a2 < 0 → K (-1) M) ∧ (¬ (a2 < 0) → zC (zR32 a2) ((4 < a2 → K (-1) M) ∧ (¬ (4 < a2) → zSp d 61 [.inr (.inr 149), .inl a1] M (fun z1 M1 => zC (zR32 z1) ((¬ z1 = 0 → zC (zR32 a2) (((a2 = 0 → K (M1 149 1) M1) ∧ ((a2 = 1 → K (M1 149 2) M1) ∧ ((a2 = 2 → zC (zR32 (M1 149 2)) ((¬ (M1 149 2) = 2 → K (-1) M1) ∧ (¬ (¬ (M1 149 2) = 2) → K (M1 149 3) M1))) ∧ True))) ∧ ((a2 < 0 ∨ 2 < a2) → zSp d 132 [.inr (.inr 0)] M1 (fun _ M2 => zC (zR32 a2) ((¬ a2 = 3 → zSp d 6 [.inr (.inr 24), .inr (.inr 46)] M2 (fun z3 M3 => K z3 M3)) ∧ (¬ (¬ a2 = 3) → K (M2 46 1) M2)))))) ∧ (¬ (¬ z1 = 0) → K (-1) M1)))))))) ∧ (¬ (¬ a1 = (-1)) → zC (zR32 a2) ((¬ a2 = 0 → K (-1) M) ∧ (¬ (¬ a2 = 0) → zSp d 62 [.inr (.inr 149)] M (fun z4 M4 => K z4 M4)))))) := (zwp_blk (stops := []) (fuel := 64) pe_114).trans rfl
theorem pe_115 : zPg 115 = pg_115 := rfl
/-! 115 LeastFailing.tries -/
set_option maxHeartbeats 4000000 in
set_option maxRecDepth 100000 in
theorem me_115 {d : Nat} {K : Kt} {M : Mm} {a1 : Int} : zSp (d + 1) 115 [.inr (.inr 0), .inl a1] M K = (zSp d 61 [.inr (.inr 149), .inl a1] M (fun z1 M1 => zC (zR32 z1) ((¬ z1 = 0 → zSp d 133 [.inr (.inr 0)] M1 (fun z2 M2 => K z2 M2)) ∧ (¬ (¬ z1 = 0) → K (-2) M1)))) := (zwp_blk (stops := []) (fuel := 15) pe_115).trans rfl
theorem pe_116 : zPg 116 = pg_116 := rfl
/-! 116 LeastFailing.change -/
set_option maxHeartbeats 4000000 in
set_option maxRecDepth 100000 in
theorem me_116 {d : Nat} {K : Kt} {M : Mm} {a1 : Int} : zSp (d + 1) 116 [.inr (.inr 0), .inl a1] M K = (zSp d 61 [.inr (.inr 149), .inl a1] M (fun z1 M1 => zC (zR32 z1) ((¬ z1 = 0 → zSp d 132 [.inr (.inr 0)] M1 (fun _ M2 => zSp d 131 [.inr (.inr 0)] M2 (fun _ M3 => zSp d 80 [.inr (.inr 38), .inr (.inr 46)] M3 (fun _ M4 => K (M4 38 1) M4)))) ∧ (¬ (¬ z1 = 0) → K (-2) M1)))) := (zwp_blk (stops := []) (fuel := 25) pe_116).trans rfl
theorem pe_117 : zPg 117 = pg_117 := rfl
/-! 117 LeastFailing.more -/
set_option maxHeartbeats 4000000 in
set_option maxRecDepth 100000 in
theorem me_117 {d : Nat} {K : Kt} {M : Mm} : zSp (d + 1) 117 [.inr (.inr 0)] M K = (zC (zR32 (M 38 1)) ((¬ (M 38 1) = 0 → zSp d 42 [.inr (.inr 147), .inr (.inr 38), .inl 0, .inl (-1)] M (fun z1 M1 => zC (zR32 z1) ((¬ z1 = (-1) → zSp d 58 [.inr (.inr 149)] M1 (fun _ M2 => zWp (zSp d) 117 K 44 [some (.inr (.inr 0)), some (.inl z1), some (.inl 0)] [] M2)) ∧ (¬ (¬ z1 = (-1)) → K (-3) M1)))) ∧ (¬ (¬ (M 38 1) = 0) → K (-3) M))) := (zwp_blk (stops := [44]) (fuel := 46) pe_117).trans rfl
set_option maxHeartbeats 4000000 in
set_option maxRecDepth 100000 in
theorem fe_117_44 {d : Nat} {K : Kt} {M : Mm} {x1 x2 : Int} : zWp (zSp d) 117 K 44 [some (.inr (.inr 0)), some (.inl x1), some (.inl x2)] [] M = (zC (zR32 x2) ((100000 ≤ x2 → K (-1) M) ∧ (¬ (100000 ≤ x2) → zSp d 60 [.inr (.inr 149)] M (fun z1 M1 => zC (zR32 z1) ((z1 = 0 → K (-1) M1) ∧ (¬ (z1 = 0) → zSp d 133 [.inr (.inr 0)] M1 (fun z2 M2 => zC (zR32 z2) (zC (zR32 x1) ((¬ z2 = x1 → zWp (zSp d) 117 K 44 [some (.inr (.inr 0)), some (.inl x1), some (.inl (x2 + 1))] [] M2) ∧ (¬ (¬ z2 = x1) → K x2 M2)))))))))) := (zwp_blk (stops := [44]) (fuel := 46) pe_117).trans rfl
theorem pe_118 : zPg 118 = pg_118 := rfl
/-! 118 LeastFailing.apart -/
set_option maxHeartbeats 4000000 in
set_option maxRecDepth 100000 in
theorem me_118 {d : Nat} {K : Kt} {M : Mm} {a1 a2 : Int} : zSp (d + 1) 118 [.inr (.inr 0), .inl a1, .inl a2] M K = (zSp d 128 [.inr (.inr 0), .inl a1] M (fun z1 M1 => zC (zR32 z1) ((z1 = 0 → K (-2) M1) ∧ (¬ (z1 = 0) → zSp d 128 [.inr (.inr 0), .inl a2] M1 (fun z2 M2 => zC (zR32 z2) ((z2 = 0 → K (-2) M2) ∧ (¬ (z2 = 0) → zC (zR32 a1) (zC (zR32 a2) ((¬ a1 = a2 → zC (zR32 (M2 38 1)) ((¬ (M2 38 1) = 0 → zSp d 58 [.inr (.inr 149)] M2 (fun _ M3 => zWp (zSp d) 118 K 46 [some (.inr (.inr 0)), some (.inl a1), some (.inl a2), some (.inl 0), none] [] M3)) ∧ (¬ (¬ (M2 38 1) = 0) → K (-3) M2))) ∧ (¬ (¬ a1 = a2) → K (-2) M2)))))))))) := (zwp_blk (stops := [46]) (fuel := 63) pe_118).trans rfl
set_option maxHeartbeats 4000000 in
set_option maxRecDepth 100000 in
theorem fe_118_46 {d : Nat} {K : Kt} {M : Mm} {x1 x2 x3 : Int} {u4 : Option Vl} : zWp (zSp d) 118 K 46 [some (.inr (.inr 0)), some (.inl x1), some (.inl x2), some (.inl x3), u4] [] M = (zC (zR32 x3) ((100000 ≤ x3 → K (-1) M) ∧ (¬ (100000 ≤ x3) → zSp d 60 [.inr (.inr 149)] M (fun z1 M1 => zC (zR32 z1) ((z1 = 0 → K (-1) M1) ∧ (¬ (z1 = 0) → zSp d 132 [.inr (.inr 0)] M1 (fun _ M2 => zSp d 6 [.inr (.inr 24), .inr (.inr 46)] M2 (fun z3 M3 => zC (zR32 z3) (zC (zSm x1 32) (zC (zR32 (zIandZ (z3 / 2 ^ x1.toNat) 1)) ((¬ (zIandZ (z3 / 2 ^ x1.toNat) 1) = 1 → zWp (zSp d) 118 K 46 [some (.inr (.inr 0)), some (.inl x1), some (.inl x2), some (.inl (x3 + 1)), some (.inl z3)] [] M3) ∧ (¬ (¬ (zIandZ (z3 / 2 ^ x1.toNat) 1) = 1) → zC (zR32 z3) (zC (zSm x2 32) (zC (zR32 (zIandZ (z3 / 2 ^ x2.toNat) 1)) ((¬ (zIandZ (z3 / 2 ^ x2.toNat) 1) = 0 → zWp (zSp d) 118 K 46 [some (.inr (.inr 0)), some (.inl x1), some (.inl x2), some (.inl (x3 + 1)), some (.inl z3)] [] M3) ∧ (¬ (¬ (zIandZ (z3 / 2 ^ x2.toNat) 1) = 0) → K x3 M3)))))))))))))))) := (zwp_blk (stops := [46]) (fuel := 63) pe_118).trans rfl
theorem pe_119 : zPg 119 = pg_119 := rfl
/-! 119 LeastFailing.reduce -/
set_option maxHeartbeats 4000000 in
set_option maxRecDepth 100000 in
theorem me_119 {d : Nat} {K : Kt} {M : Mm} {a1 a2 : Int} : zSp (d + 1) 119 [.inr (.inr 0), .inl a1, .inl a2] M K = (zSp d 128 [.inr (.inr 0), .inl a1] M (fun z1 M1 => zC (zR32 z1) ((z1 = 0 → K (-2) M1) ∧ (¬ (z1 = 0) → zC (zR32 a2) ((a2 < 0 → K (-2) M1) ∧ (¬ (a2 < 0) → zC (zR32 a2) ((a2 ≤ 3 → zC (zR32 (M1 38 1)) (((M1 38 1) = 0 → K (-3) M1) ∧ (¬ ((M1 38 1) = 0) → zSp d 42 [.inr (.inr 147), .inr (.inr 38), .inl 0, .inl (-1)] M1 (fun z2 M2 => zC (zR32 z2) (zC (zR32 a1) ((z2 = a1 → zSp d 131 [.inr (.inr 0)] M2 (fun _ M3 => zSp d 46 [.inr (.inr 150), .inl a1] M3 (fun _ M4 => zWp (zSp d) 119 K 64 [some (.inr (.inr 0)), some (.inl a1), some (.inl a2), some (.inl 0), none] [] M4))) ∧ (¬ (z2 = a1) → K (-3) M2))))))) ∧ (¬ (a2 ≤ 3) → K (-2) M1)))))))) := (zwp_blk (stops := [64, 89, 96, 106, 113, 123, 130]) (fuel := 87) pe_119).trans rfl
set_option maxHeartbeats 4000000 in
set_option maxRecDepth 100000 in
theorem fe_119_64 {d : Nat} {K : Kt} {M : Mm} {x1 x2 x3 : Int} {u4 : Option Vl} : zWp (zSp d) 119 K 64 [some (.inr (.inr 0)), some (.inl x1), some (.inl x2), some (.inl x3), u4] [] M = (zC (zR32 x3) ((100000 ≤ x3 → K (M 150 4) M) ∧ (¬ (100000 ≤ x3) → zC (zR32 x2) ((x2 = 0 → zWp (zSp d) 119 K 89 [some (.inr (.inr 0)), some (.inl x1), some (.inl x2), some (.inl x3), some (.inl (M 150 4))] [] M) ∧ (¬ (x2 = 0) → zC (zR32 x2) ((¬ x2 = 3 → zWp (zSp d) 119 K 96 [some (.inr (.inr 0)), some (.inl x1), some (.inl x2), some (.inl x3), some (.inl (M 150 4))] [] M) ∧ (¬ (¬ x2 = 3) → zWp (zSp d) 119 K 89 [some (.inr (.inr 0)), some (.inl x1), some (.inl x2), some (.inl x3), some (.inl (M 150 4))] [] M))))))) := (zwp_blk (stops := [64, 89, 96, 106, 113, 123, 130]) (fuel := 87) pe_119).trans rfl
set_option maxHeartbeats 4000000 in
set_option maxRecDepth 100000 in
theorem fe_119_89 {d : Nat} {K : Kt} {M : Mm} {x1 x2 x3 x4 : Int} : zWp (zSp d) 119 K 89 [some (.inr (.inr 0)), some (.inl x1), some (.inl x2), some (.inl x3), some (.inl x4)] [] M = (zSp d 47 [.inr (.inr 150)] M (fun _ M1 => zWp (zSp d) 119 K 96 [some (.inr (.inr 0)), some (.inl x1), some (.inl x2), some (.inl x3), some (.inl x4)] [] M1)) := (zwp_blk (stops := [64, 89, 96, 106, 113, 123, 130]) (fuel := 87) pe_119).trans rfl
set_option maxHeartbeats 4000000 in
set_option maxRecDepth 100000 in
theorem fe_119_96 {d : Nat} {K : Kt} {M : Mm} {x1 x2 x3 x4 : Int} : zWp (zSp d) 119 K 96 [some (.inr (.inr 0)), some (.inl x1), some (.inl x2), some (.inl x3), some (.inl x4)] [] M = (zC (zR32 x2) ((x2 = 1 → zWp (zSp d) 119 K 106 [some (.inr (.inr 0)), some (.inl x1), some (.inl x2), some (.inl x3), some (.inl x4)] [] M) ∧ (¬ (x2 = 1) → zC (zR32 x2) ((¬ x2 = 3 → zWp (zSp d) 119 K 113 [some (.inr (.inr 0)), some (.inl x1), some (.inl x2), some (.inl x3), some (.inl x4)] [] M) ∧ (¬ (¬ x2 = 3) → zWp (zSp d) 119 K 106 [some (.inr (.inr 0)), some (.inl x1), some (.inl x2), some (.inl x3), some (.inl x4)] [] M))))) := (zwp_blk (stops := [64, 89, 96, 106, 113, 123, 130]) (fuel := 87) pe_119).trans rfl
set_option maxHeartbeats 4000000 in
set_option maxRecDepth 100000 in
theorem fe_119_106 {d : Nat} {K : Kt} {M : Mm} {x1 x2 x3 x4 : Int} : zWp (zSp d) 119 K 106 [some (.inr (.inr 0)), some (.inl x1), some (.inl x2), some (.inl x3), some (.inl x4)] [] M = (zSp d 48 [.inr (.inr 150)] M (fun _ M1 => zWp (zSp d) 119 K 113 [some (.inr (.inr 0)), some (.inl x1), some (.inl x2), some (.inl x3), some (.inl x4)] [] M1)) := (zwp_blk (stops := [64, 89, 96, 106, 113, 123, 130]) (fuel := 87) pe_119).trans rfl
set_option maxHeartbeats 4000000 in
set_option maxRecDepth 100000 in
theorem fe_119_113 {d : Nat} {K : Kt} {M : Mm} {x1 x2 x3 x4 : Int} : zWp (zSp d) 119 K 113 [some (.inr (.inr 0)), some (.inl x1), some (.inl x2), some (.inl x3), some (.inl x4)] [] M = (zC (zR32 x2) ((x2 = 2 → zWp (zSp d) 119 K 123 [some (.inr (.inr 0)), some (.inl x1), some (.inl x2), some (.inl x3), some (.inl x4)] [] M) ∧ (¬ (x2 = 2) → zC (zR32 x2) ((¬ x2 = 3 → zWp (zSp d) 119 K 130 [some (.inr (.inr 0)), some (.inl x1), some (.inl x2), some (.inl x3), some (.inl x4)] [] M) ∧ (¬ (¬ x2 = 3) → zWp (zSp d) 119 K 123 [some (.inr (.inr 0)), some (.inl x1), some (.inl x2), some (.inl x3), some (.inl x4)] [] M))))) := (zwp_blk (stops := [64, 89, 96, 106, 113, 123, 130]) (fuel := 87) pe_119).trans rfl
set_option maxHeartbeats 4000000 in
set_option maxRecDepth 100000 in
theorem fe_119_123 {d : Nat} {K : Kt} {M : Mm} {x1 x2 x3 x4 : Int} : zWp (zSp d) 119 K 123 [some (.inr (.inr 0)), some (.inl x1), some (.inl x2), some (.inl x3), some (.inl x4)] [] M = (zSp d 49 [.inr (.inr 150)] M (fun _ M1 => zWp (zSp d) 119 K 130 [some (.inr (.inr 0)), some (.inl x1), some (.inl x2), some (.inl x3), some (.inl x4)] [] M1)) := (zwp_blk (stops := [64, 89, 96, 106, 113, 123, 130]) (fuel := 87) pe_119).trans rfl
set_option maxHeartbeats 4000000 in
set_option maxRecDepth 100000 in
theorem fe_119_130 {d : Nat} {K : Kt} {M : Mm} {x1 x2 x3 x4 : Int} : zWp (zSp d) 119 K 130 [some (.inr (.inr 0)), some (.inl x1), some (.inl x2), some (.inl x3), some (.inl x4)] [] M = (zC (zR32 x2) ((¬ x2 = 3 → K (M 150 4) M) ∧ (¬ (¬ x2 = 3) → zC (zR32 (M 150 4)) (zC (zR32 x4) ((¬ (M 150 4) = x4 → zWp (zSp d) 119 K 64 [some (.inr (.inr 0)), some (.inl x1), some (.inl x2), some (.inl (x3 + 1)), some (.inl x4)] [] M) ∧ (¬ (¬ (M 150 4) = x4) → K (M 150 4) M)))))) := (zwp_blk (stops := [64, 89, 96, 106, 113, 123, 130]) (fuel := 87) pe_119).trans rfl
theorem pe_120 : zPg 120 = pg_120 := rfl
/-! 120 LeastFailing.row -/
set_option maxHeartbeats 4000000 in
set_option maxRecDepth 100000 in
theorem me_120 {d : Nat} {K : Kt} {M : Mm} {a1 a2 : Int} : zSp (d + 1) 120 [.inr (.inr 0), .inl a1, .inl a2] M K = (zC (zR32 (M 38 1)) (((M 38 1) = 0 → K (-1) M) ∧ (¬ ((M 38 1) = 0) → zC (zR32 a1) ((1 ≤ a1 → zWp (zSp d) 120 K 22 [some (.inr (.inr 0)), some (.inl a1), some (.inl a2), some (.inl 0), some (.inl 0)] [] M) ∧ (¬ (1 ≤ a1) → K (-1) M))))) := (zwp_blk (stops := [22]) (fuel := 44) pe_120).trans rfl
set_option maxHeartbeats 4000000 in
set_option maxRecDepth 100000 in
theorem fe_120_22 {d : Nat} {K : Kt} {M : Mm} {x1 x2 x3 x4 : Int} : zWp (zSp d) 120 K 22 [some (.inr (.inr 0)), some (.inl x1), some (.inl x2), some (.inl x3), some (.inl x4)] [] M = (zC (zR32 x4) (zC (zR32 (M 38 1)) (((M 38 1) ≤ x4 → zC (zR32 x2) ((¬ x2 = (-1) → K (-1) M) ∧ (¬ (¬ x2 = (-1)) → K x3 M))) ∧ (¬ ((M 38 1) ≤ x4) → zSp d 88 [.inr (.inr 38), .inl x4, .inl x1] M (fun z1 M1 => zC (zR32 z1) ((z1 = 0 → zWp (zSp d) 120 K 22 [some (.inr (.inr 0)), some (.inl x1), some (.inl x2), some (.inl x3), some (.inl (x4 + 1))] [] M1) ∧ (¬ (z1 = 0) → zC (zR32 x3) (zC (zR32 x2) ((¬ x3 = x2 → zWp (zSp d) 120 K 22 [some (.inr (.inr 0)), some (.inl x1), some (.inl x2), some (.inl (x3 + 1)), some (.inl (x4 + 1))] [] M1) ∧ (¬ (¬ x3 = x2) → K x4 M1)))))))))) := (zwp_blk (stops := [22]) (fuel := 44) pe_120).trans rfl
theorem pe_121 : zPg 121 = pg_121 := rfl
/-! 121 LeastFailing.part -/
set_option maxHeartbeats 4000000 in
set_option maxRecDepth 100000 in
theorem me_121 {d : Nat} {K : Kt} {M : Mm} {a1 a2 a3 a4 : Int} : zSp (d + 1) 121 [.inr (.inr 0), .inl a1, .inl a2, .inl a3, .inl a4] M K = (zC (zR32 a1) ((a1 < 1 → K (-1) M) ∧ (¬ (a1 < 1) → zC (zR32 a1) ((80 < a1 → K (-1) M) ∧ (¬ (80 < a1) → zC (zR32 a2) ((a2 < 1 → K (-1) M) ∧ (¬ (a2 < 1) → zC (zR32 a2) (zC (zR32 a1) ((a1 < a2 → K (-1) M) ∧ (¬ (a1 < a2) → zC (zR32 a3) ((a3 < 0 → K (-1) M) ∧ (¬ (a3 < 0) → zC (zR32 a3) (zC (zR32 a2) ((a3 < a2 → zSp d 45 [.inl a1, .inl a2, .inl a3] M (fun z1 M1 => zC (zR32 a4) ((¬ a4 = 0 → zC (zR32 a4) ((¬ a4 = 1 → K (-1) M1) ∧ (¬ (¬ a4 = 1) → zSp d 45 [.inl a1, .inl a2, .inl (a3 + 1)] M1 (fun z2 M2 => K (z2 - z1) M2)))) ∧ (¬ (¬ a4 = 0) → K z1 M1)))) ∧ (¬ (a3 < a2) → K (-1) M))))))))))))))) := (zwp_blk (stops := []) (fuel := 47) pe_121).trans rfl
theorem pe_122 : zPg 122 = pg_122 := rfl
/-! 122 LeastFailing.tried -/
set_option maxHeartbeats 4000000 in
set_option maxRecDepth 100000 in
theorem me_122 {d : Nat} {K : Kt} {M : Mm} {a1 : Int} : zSp (d + 1) 122 [.inr (.inr 0), .inl a1] M K = (zC (zR32 a1) ((a1 = (-1) → zWp (zSp d) 122 K 20 [some (.inr (.inr 0)), some (.inl a1), some (.inl 0), some (.inl 0)] [] M) ∧ (¬ (a1 = (-1)) → zSp d 128 [.inr (.inr 0), .inl a1] M (fun z1 M1 => zC (zR32 z1) ((¬ z1 = 0 → zWp (zSp d) 122 K 20 [some (.inr (.inr 0)), some (.inl a1), some (.inl 0), some (.inl 0)] [] M1) ∧ (¬ (¬ z1 = 0) → K (-2) M1)))))) := (zwp_blk (stops := [20]) (fuel := 35) pe_122).trans rfl
set_option maxHeartbeats 4000000 in
set_option maxRecDepth 100000 in
theorem fe_122_20 {d : Nat} {K : Kt} {M : Mm} {x1 x2 x3 : Int} : zWp (zSp d) 122 K 20 [some (.inr (.inr 0)), some (.inl x1), some (.inl x2), some (.inl x3)] [] M = (zC (zR32 x3) (zC (zR32 (M 138 0)) (((M 138 0) ≤ x3 → K x2 M) ∧ (¬ ((M 138 0) ≤ x3) → zC (zSm x3 600) (zC (zR32 (M 140 x3)) (zC (zR32 x1) ((¬ (M 140 x3) = x1 → zWp (zSp d) 122 K 20 [some (.inr (.inr 0)), some (.inl x1), some (.inl x2), some (.inl (x3 + 1))] [] M) ∧ (¬ (¬ (M 140 x3) = x1) → zWp (zSp d) 122 K 20 [some (.inr (.inr 0)), some (.inl x1), some (.inl (x2 + 1)), some (.inl (x3 + 1))] [] M)))))))) := (zwp_blk (stops := [20]) (fuel := 35) pe_122).trans rfl
theorem pe_123 : zPg 123 = pg_123 := rfl
/-! 123 LeastFailing.trace -/
set_option maxHeartbeats 4000000 in
set_option maxRecDepth 100000 in
theorem me_123 {d : Nat} {K : Kt} {M : Mm} {a1 a2 : Int} : zSp (d + 1) 123 [.inr (.inr 0), .inl a1, .inl a2] M K = (zC (zR32 a1) ((a1 < 0 → K (-2) M) ∧ (¬ (a1 < 0) → zC (zR32 a1) (zC (zR32 (M 138 0)) ((a1 < (M 138 0) → zC (zR32 a2) (((a2 = 0 → zC (zSm a1 600) (K (M 139 a1) M)) ∧ ((a2 = 1 → zC (zSm a1 600) (K (M 140 a1) M)) ∧ ((a2 = 2 → zC (zSm a1 600) (K (M 141 a1) M)) ∧ ((a2 = 3 → zC (zSm a1 600) (K (M 142 a1) M)) ∧ True)))) ∧ ((a2 < 0 ∨ 3 < a2) → K (-2) M))) ∧ (¬ (a1 < (M 138 0)) → K (-2) M)))))) := (zwp_blk (stops := []) (fuel := 42) pe_123).trans rfl
theorem pe_124 : zPg 124 = pg_124 := rfl
/-! 124 LeastFailing.sure -/
set_option maxHeartbeats 4000000 in
set_option maxRecDepth 100000 in
theorem me_124 {d : Nat} {K : Kt} {M : Mm} {a1 a2 : Int} : zSp (d + 1) 124 [.inr (.inr 0), .inl a1, .inl a2] M K = (zSp d 130 [.inl a1] M (fun z1 M1 => zC (zR32 z1) ((z1 = 0 → K (-2) M1) ∧ (¬ (z1 = 0) → zSp d 129 [.inl a2] M1 (fun z2 M2 => zC (zR32 z2) ((z2 = 0 → K (-2) M2) ∧ (¬ (z2 = 0) → zSp d 134 [.inl a1, .inl a2] M2 (fun z3 M3 => K z3 M3)))))))) := (zwp_blk (stops := []) (fuel := 17) pe_124).trans rfl
theorem pe_125 : zPg 125 = pg_125 := rfl
/-! 125 LeastFailing.enough -/
set_option maxHeartbeats 4000000 in
set_option maxRecDepth 100000 in
theorem me_125 {d : Nat} {K : Kt} {M : Mm} {a1 a2 : Int} : zSp (d + 1) 125 [.inr (.inr 0), .inl a1, .inl a2] M K = (zSp d 130 [.inl a1] M (fun z1 M1 => zC (zR32 z1) ((z1 = 0 → K (-2) M1) ∧ (¬ (z1 = 0) → zC (zR32 a2) ((a2 < 0 → K (-2) M1) ∧ (¬ (a2 < 0) → zC (zR32 a2) ((a2 ≤ 1000000 → zWp (zSp d) 125 K 23 [some (.inr (.inr 0)), some (.inl a1), some (.inl a2), some (.inl 1)] [] M1) ∧ (¬ (a2 ≤ 1000000) → K (-2) M1)))))))) := (zwp_blk (stops := [23]) (fuel := 31) pe_125).trans rfl
set_option maxHeartbeats 4000000 in
set_option maxRecDepth 100000 in
theorem fe_125_23 {d : Nat} {K : Kt} {M : Mm} {x1 x2 x3 : Int} : zWp (zSp d) 125 K 23 [some (.inr (.inr 0)), some (.inl x1), some (.inl x2), some (.inl x3)] [] M = (zC (zR32 x3) ((9 < x3 → K (-1) M) ∧ (¬ (9 < x3) → zSp d 134 [.inl x1, .inl x3] M (fun z1 M1 => zC (zR32 z1) (zC (zR32 x2) ((z1 < x2 → zWp (zSp d) 125 K 23 [some (.inr (.inr 0)), some (.inl x1), some (.inl x2), some (.inl (x3 + 2))] [] M1) ∧ (¬ (z1 < x2) → K x3 M1))))))) := (zwp_blk (stops := [23]) (fuel := 31) pe_125).trans rfl
theorem pe_126 : zPg 126 = pg_126 := rfl
/-! 126 LeastFailing.often -/
set_option maxHeartbeats 4000000 in
set_option maxRecDepth 100000 in
theorem me_126 {d : Nat} {K : Kt} {M : Mm} {a1 a2 a3 : Int} : zSp (d + 1) 126 [.inr (.inr 0), .inl a1, .inl a2, .inl a3] M K = (zC (zR32 a1) ((a1 = (-1) → zWp (zSp d) 126 K 13 [some (.inr (.inr 0)), some (.inl a1), some (.inl a2), some (.inl a3), none, none, none, none] [] M) ∧ (¬ (a1 = (-1)) → zSp d 128 [.inr (.inr 0), .inl a1] M (fun z1 M1 => zC (zR32 z1) ((z1 = 0 → K (-2) M1) ∧ (¬ (z1 = 0) → zWp (zSp d) 126 K 13 [some (.inr (.inr 0)), some (.inl a1), some (.inl a2), some (.inl a3), none, none, none, none] [] M1)))))) := (zwp_blk (stops := [13, 81]) (fuel := 64) pe_126).trans rfl
set_option maxHeartbeats 4000000 in
set_option maxRecDepth 100000 in
theorem fe_126_13 {d : Nat} {K : Kt} {M : Mm} {x1 x2 x3 : Int} : zWp (zSp d) 126 K 13 [some (.inr (.inr 0)), some (.inl x1), some (.inl x2), some (.inl x3), none, none, none, none] [] M = (zC (zR32 x2) ((x2 < 0 → K (-2) M) ∧ (¬ (x2 < 0) → zC (zR32 x3) ((x3 < 1 → K (-2) M) ∧ (¬ (x3 < 1) → zC (zR32 x3) ((x3 ≤ 1000 → zC (zR32 (M 38 1)) ((¬ (M 38 1) = 0 → zSp d 6 [.inr (.inr 24), .inr (.inr 38)] M (fun z1 M1 => zWp (zSp d) 126 K 81 [some (.inr (.inr 0)), some (.inl x1), some (.inl x2), some (.inl x3), some (.inl z1), some (.inl (M1 147 4)), some (.inl 0), some (.inl 0)] [] (zUp M1 147 4 x2))) ∧ (¬ (¬ (M 38 1) = 0) → K (-3) M))) ∧ (¬ (x3 ≤ 1000) → K (-2) M))))))) := (zwp_blk (stops := [13, 81]) (fuel := 64) pe_126).trans rfl
set_option maxHeartbeats 4000000 in
set_option maxRecDepth 100000 in
theorem fe_126_81 {d : Nat} {K : Kt} {M : Mm} {x1 x2 x3 x4 x5 x6 x7 : Int} : zWp (zSp d) 126 K 81 [some (.inr (.inr 0)), some (.inl x1), some (.inl x2), some (.inl x3), some (.inl x4), some (.inl x5), some (.inl x6), some (.inl x7)] [] M = (zC (zR32 x7) (zC (zR32 x3) ((x3 ≤ x7 → K x6 (zUp M 147 4 x5)) ∧ (¬ (x3 ≤ x7) → zSp d 44 [.inr (.inr 147), .inl x4] M (fun z1 M1 => zC (zR32 z1) (zC (zR32 x1) ((¬ z1 = x1 → zWp (zSp d) 126 K 81 [some (.inr (.inr 0)), some (.inl x1), some (.inl x2), some (.inl x3), some (.inl x4), some (.inl x5), some (.inl x6), some (.inl (x7 + 1))] [] M1) ∧ (¬ (¬ z1 = x1) → zWp (zSp d) 126 K 81 [some (.inr (.inr 0)), some (.inl x1), some (.inl x2), some (.inl x3), some (.inl x4), some (.inl x5), some (.inl (x6 + 1)), some (.inl (x7 + 1))] [] M1)))))))) := (zwp_blk (stops := [13, 81]) (fuel := 64) pe_126).trans rfl
theorem pe_127 : zPg 127 = pg_127 := rfl
/-! 127 LeastFailing.undo -/
set_option maxHeartbeats 4000000 in
set_option maxRecDepth 100000 in
theorem me_127 {d : Nat} {K : Kt} {M : Mm} : zSp (d + 1) 127 [.inr (.inr 0)] M K = (zC (zR32 (M 0 8)) ((1 ≤ (M 0 8) → zC (zSm ((M 0 8) - 1) 10) (zSp d 80 [.inr (.inr 38), .inr (.inr (M 1 ((M 0 8) - 1)).toNat)] (zUp M 0 8 ((M 0 8) - 1)) (fun _ M1 => zSp d 92 [.inr (.inr 138)] M1 (fun _ M2 => K (M2 0 8) M2)))) ∧ (¬ (1 ≤ (M 0 8)) → K (-3) M))) := (zwp_blk (stops := []) (fuel := 31) pe_127).trans rfl
theorem pe_128 : zPg 128 = pg_128 := rfl
/-! 128 LeastFailing.isBug -/
set_option maxHeartbeats 4000000 in
set_option maxRecDepth 100000 in
theorem me_128 {d : Nat} {K : Kt} {M : Mm} {a1 : Int} : zSp (d + 1) 128 [.inr (.inr 0), .inl a1] M K = (zC (zR32 a1) ((a1 < 0 → K 0 M) ∧ (¬ (a1 < 0) → zC (zR32 a1) (zC (zR32 (M 24 0)) (((M 24 0) ≤ a1 → K 0 M) ∧ (¬ ((M 24 0) ≤ a1) → K 1 M)))))) := (zwp_blk (stops := []) (fuel := 16) pe_128).trans rfl
theorem pe_129 : zPg 129 = pg_129 := rfl
/-! 129 LeastFailing.canVote -/
set_option maxHeartbeats 4000000 in
set_option maxRecDepth 100000 in
theorem me_129 {d : Nat} {K : Kt} {M : Mm} {a1 : Int} : zSp (d + 1) 129 [.inl a1] M K = (zC (zR32 a1) ((a1 < 1 → K 0 M) ∧ (¬ (a1 < 1) → zC (zR32 a1) ((9 < a1 → K 0 M) ∧ (¬ (9 < a1) → zC (zR32 a1) (zC (zDv a1 2) (zC (zR32 (a1 % 2)) ((¬ (a1 % 2) = 1 → K 0 M) ∧ (¬ (¬ (a1 % 2) = 1) → K 1 M))))))))) := (zwp_blk (stops := []) (fuel := 20) pe_129).trans rfl
theorem pe_130 : zPg 130 = pg_130 := rfl
/-! 130 LeastFailing.areOdds -/
set_option maxHeartbeats 4000000 in
set_option maxRecDepth 100000 in
theorem me_130 {d : Nat} {K : Kt} {M : Mm} {a1 : Int} : zSp (d + 1) 130 [.inl a1] M K = (zC (zR32 a1) ((a1 < 0 → K 0 M) ∧ (¬ (a1 < 0) → zC (zR32 a1) ((100 < a1 → K 0 M) ∧ (¬ (100 < a1) → K 1 M))))) := (zwp_blk (stops := []) (fuel := 14) pe_130).trans rfl
theorem pe_131 : zPg 131 = pg_131 := rfl
/-! 131 LeastFailing.remember -/
set_option maxHeartbeats 4000000 in
set_option maxRecDepth 100000 in
theorem me_131 {d : Nat} {K : Kt} {M : Mm} : zSp (d + 1) 131 [.inr (.inr 0)] M K = (zC (zR32 (M 0 8)) ((¬ (M 0 8) = 10 → zWp (zSp d) 131 K 62 [some (.inr (.inr 0)), none, none] [] M) ∧ (¬ (¬ (M 0 8) = 10) → zWp (zSp d) 131 K 18 [some (.inr (.inr 0)), some (.inr (.inr (M 1 0).toNat)), some (.inl 1)] [] M))) := (zwp_blk (stops := [18, 62]) (fuel := 57) pe_131).trans rfl
set_option maxHeartbeats 4000000 in
set_option maxRecDepth 100000 in
theorem fe_131_18 {d : Nat} {K : Kt} {M : Mm} {x2 : Int} {r1 : Nat} : zWp (zSp d) 131 K 18 [some (.inr (.inr 0)), some (.inr (.inr r1)), some (.inl x2)] [] M = (zC (zR32 x2) ((10 ≤ x2 → zC (zObj r1 9) (zWp (zSp d) 131 K 62 [some (.inr (.inr 0)), some (.inr (.inr r1)), some (.inl x2)] [] (zUp (zUp M 1 9 r1) 0 8 ((M 0 8) - 1)))) ∧ (¬ (10 ≤ x2) → zC (zSm x2 10) (zC (zSm (x2 - 1) 10) (zC (zObj ((M 1 x2).toNat) 9) (zWp (zSp d) 131 K 18 [some (.inr (.inr 0)), some (.inr (.inr r1)), some (.inl (x2 + 1))] [] (zUp M 1 (x2 - 1) ((M 1 x2).toNat)))))))) := (zwp_blk (stops := [18, 62]) (fuel := 57) pe_131).trans rfl
set_option maxHeartbeats 4000000 in
set_option maxRecDepth 100000 in
theorem fe_131_62 {d : Nat} {K : Kt} {M : Mm} {u1 u2 : Option Vl} : zWp (zSp d) 131 K 62 [some (.inr (.inr 0)), u1, u2] [] M = (zC (zSm (M 0 8) 10) (zC (zObj ((M 1 (M 0 8)).toNat) 9) (zSp d 80 [.inr (.inr (M 1 (M 0 8)).toNat), .inr (.inr 38)] M (fun _ M1 => K 0 (zUp M1 0 8 ((M1 0 8) + 1)))))) := (zwp_blk (stops := [18, 62]) (fuel := 57) pe_131).trans rfl
theorem pe_132 : zPg 132 = pg_132 := rfl
/-! 132 LeastFailing.makeSingle -/
set_option maxHeartbeats 4000000 in
set_option maxRecDepth 100000 in
theorem me_132 {d : Nat} {K : Kt} {M : Mm} : zSp (d + 1) 132 [.inr (.inr 0)] M K = (zSp d 90 [.inr (.inr 46), .inr (.inr 38), .inl (M 149 2), .inl (M 149 1), .inl (M 149 3)] M (fun _ M1 => K 0 M1)) := (zwp_blk (stops := []) (fuel := 20) pe_132).trans rfl
theorem pe_133 : zPg 133 = pg_133 := rfl
/-! 133 LeastFailing.askSingle -/
set_option maxHeartbeats 4000000 in
set_option maxRecDepth 100000 in
theorem me_133 {d : Nat} {K : Kt} {M : Mm} : zSp (d + 1) 133 [.inr (.inr 0)] M K = (zSp d 132 [.inr (.inr 0)] M (fun _ M1 => zSp d 42 [.inr (.inr 147), .inr (.inr 46), .inl 6, .inl (M1 149 1)] M1 (fun z2 M2 => K z2 M2))) := (zwp_blk (stops := []) (fuel := 17) pe_133).trans rfl
theorem pe_134 : zPg 134 = pg_134 := rfl
/-! 134 LeastFailing.millionths -/
set_option maxHeartbeats 4000000 in
set_option maxRecDepth 100000 in
theorem me_134 {d : Nat} {K : Kt} {M : Mm} {a1 a2 : Int} : zSp (d + 1) 134 [.inl a1, .inl a2] M K = (zC (zR32 a2) (zC (zDv a2 2) (zWp (zSp d) 134 K 9 [some (.inl a1), some (.inl a2), some (.inr (.inl 0)), none, some (.inl ((a2 / 2) + 1))] [] M))) := (zwp_blk (stops := [9]) (fuel := 52) pe_134).trans rfl
set_option maxHeartbeats 4000000 in
set_option maxRecDepth 100000 in
theorem fe_134_9 {d : Nat} {K : Kt} {M : Mm} {x0 x1 x2 x4 : Int} : zWp (zSp d) 134 K 9 [some (.inl x0), some (.inl x1), some (.inr (.inl x2)), none, some (.inl x4)] [] M = (zC (zR32 x4) (zC (zR32 x1) ((x1 < x4 → zC (zR32 x1) ((3 ≤ x1 → zSp d 136 [.inl 100, .inl (x1 - 3)] M (fun z1 M1 => zC (zR64 x2) (zC (zR64 z1) (zC (zDv x2 z1) (K (x2 / z1) M1))))) ∧ (¬ (3 ≤ x1) → K (x2 * 10000) M))) ∧ (¬ (x1 < x4) → zSp d 135 [.inl x1, .inl x4] M (fun z2 M2 => zSp d 136 [.inl x0, .inl x4] M2 (fun z3 M3 => zSp d 136 [.inl (100 - x0), .inl (x1 - x4)] M3 (fun z4 M4 => zWp (zSp d) 134 K 9 [some (.inl x0), some (.inl x1), some (.inr (.inl (x2 + ((z2 * z3) * z4)))), none, some (.inl (x4 + 1))] [] M4))))))) := (zwp_blk (stops := [9]) (fuel := 52) pe_134).trans rfl
end
section
theorem pe_135 : zPg 135 = pg_135 := rfl
/-! 135 LeastFailing.waysOf -/
set_option maxHeartbeats 4000000 in
set_option maxRecDepth 100000 in
theorem me_135 {d : Nat} {K : Kt} {M : Mm} {a1 a2 : Int} : zSp (d + 1) 135 [.inl a1, .inl a2] M K = (zWp (zSp d) 135 K 5 [some (.inl a1), some (.inl a2), some (.inr (.inl 1)), none, some (.inl 0)] [] M) := (zwp_blk (stops := [5]) (fuel := 28) pe_135).trans rfl
set_option maxHeartbeats 4000000 in
set_option maxRecDepth 100000 in
theorem fe_135_5 {d : Nat} {K : Kt} {M : Mm} {x0 x1 x2 x4 : Int} : zWp (zSp d) 135 K 5 [some (.inl x0), some (.inl x1), some (.inr (.inl x2)), none, some (.inl x4)] [] M = (zC (zR32 x4) (zC (zR32 x1) ((x1 ≤ x4 → K x2 M) ∧ (¬ (x1 ≤ x4) → zC (zR32 (x0 - x4)) (zC (zR32 (x4 + 1)) (zC (zR64 (x2 * (x0 - x4))) (zC (zR64 (x4 + 1)) (zC (zDv (x2 * (x0 - x4)) (x4 + 1)) (zWp (zSp d) 135 K 5 [some (.inl x0), some (.inl x1), some (.inr (.inl ((x2 * (x0 - x4)) / (x4 + 1)))), none, some (.inl (x4 + 1))] [] M))))))))) := (zwp_blk (stops := [5]) (fuel := 28) pe_135).trans rfl
theorem pe_136 : zPg 136 = pg_136 := rfl
/-! 136 LeastFailing.powerOf -/
set_option maxHeartbeats 4000000 in
set_option maxRecDepth 100000 in
theorem me_136 {d : Nat} {K : Kt} {M : Mm} {a1 a2 : Int} : zSp (d + 1) 136 [.inl a1, .inl a2] M K = (zWp (zSp d) 136 K 5 [some (.inl a1), some (.inl a2), some (.inr (.inl 1)), none, some (.inl 0)] [] M) := (zwp_blk (stops := [5]) (fuel := 21) pe_136).trans rfl
set_option maxHeartbeats 4000000 in
set_option maxRecDepth 100000 in
theorem fe_136_5 {d : Nat} {K : Kt} {M : Mm} {x0 x1 x2 x4 : Int} : zWp (zSp d) 136 K 5 [some (.inl x0), some (.inl x1), some (.inr (.inl x2)), none, some (.inl x4)] [] M = (zC (zR32 x4) (zC (zR32 x1) ((x1 ≤ x4 → K x2 M) ∧ (¬ (x1 ≤ x4) → zC (zR32 x0) (zWp (zSp d) 136 K 5 [some (.inl x0), some (.inl x1), some (.inr (.inl (x2 * x0))), none, some (.inl (x4 + 1))] [] M))))) := (zwp_blk (stops := [5]) (fuel := 21) pe_136).trans rfl
theorem pe_137 : zPg 137 = pg_137 := rfl
/-! 137 LeastFailingModel.isIn -/
set_option maxHeartbeats 4000000 in
set_option maxRecDepth 100000 in
theorem me_137 {d : Nat} {K : Kt} {M : Mm} {a1 a2 a3 : Int} : zSp (d + 1) 137 [.inr (.inl a1), .inr (.inl a2), .inr (.inl a3)] M K = (zC (zR64 a1) (zC (zR64 a2) (zC (zR32 (zLcmp a1 a2)) (((zLcmp a1 a2) < 0 → K 0 M) ∧ (¬ ((zLcmp a1 a2) < 0) → zC (zR64 a1) (zC (zR64 a3) (zC (zR32 (zLcmp a1 a3)) ((0 < (zLcmp a1 a3) → K 0 M) ∧ (¬ (0 < (zLcmp a1 a3)) → K 1 M))))))))) := (zwp_blk (stops := []) (fuel := 17) pe_137).trans rfl
theorem pe_138 : zPg 138 = pg_138 := rfl
/-! 138 LeastFailingModel.flag -/
set_option maxHeartbeats 4000000 in
set_option maxRecDepth 100000 in
theorem me_138 {d : Nat} {K : Kt} {M : Mm} {a1 : Int} : zSp (d + 1) 138 [.inl a1] M K = (zC (zR32 a1) ((a1 = 0 → K 0 M) ∧ (¬ (a1 = 0) → K 1 M))) := (zwp_blk (stops := []) (fuel := 11) pe_138).trans rfl
theorem pe_139 : zPg 139 = pg_139 := rfl
/-! 139 LeastFailingModel.four -/
set_option maxHeartbeats 4000000 in
set_option maxRecDepth 100000 in
theorem me_139 {d : Nat} {K : Kt} {M : Mm} {a1 : Int} : zSp (d + 1) 139 [.inr (.inr 154), .inl a1] M K = (zWp (zSp d) 139 K 3 [some (.inr (.inr 154)), some (.inl a1), some (.inl 24)] [] M) := (zwp_blk (stops := [3]) (fuel := 27) pe_139).trans rfl
set_option maxHeartbeats 4000000 in
set_option maxRecDepth 100000 in
theorem fe_139_3 {d : Nat} {K : Kt} {M : Mm} {x1 x2 : Int} : zWp (zSp d) 139 K 3 [some (.inr (.inr 154)), some (.inl x1), some (.inl x2)] [] M = (zC (zR32 x2) ((x2 < 0 → K 0 M) ∧ (¬ (x2 < 0) → zC (zR32 x1) (zC (zSm x2 32) (zC (zSm (M 154 2) 1000) (zC (zBy (zB8 (x1 / 2 ^ x2.toNat))) (zWp (zSp d) 139 K 3 [some (.inr (.inr 154)), some (.inl x1), some (.inl (x2 + (-8)))] [] (zUp (zUp M 155 (M 154 2) (zB8 (x1 / 2 ^ x2.toNat))) 154 2 ((M 154 2) + 1))))))))) := (zwp_blk (stops := [3]) (fuel := 27) pe_139).trans rfl
theorem pe_140 : zPg 140 = pg_140 := rfl
/-! 140 LeastFailingModel.feed -/
set_option maxHeartbeats 4000000 in
set_option maxRecDepth 100000 in
theorem me_140 {d : Nat} {K : Kt} {M : Mm} {a1 a2 a3 a4 a5 : Int} : zSp (d + 1) 140 [.inr (.inr 154), .inl a1, .inl a2, .inl a3, .inl a4, .inl a5] M K = (zC (zR32 ((M 154 2) + 20)) ((((M 154 2) + 20) ≤ 1000 → zSp d 139 [.inr (.inr 154), .inl a1] (zUp M 154 0 0) (fun _ M1 => zSp d 139 [.inr (.inr 154), .inl a2] M1 (fun _ M2 => zSp d 139 [.inr (.inr 154), .inl a3] M2 (fun _ M3 => zSp d 139 [.inr (.inr 154), .inl a4] M3 (fun _ M4 => zSp d 139 [.inr (.inr 154), .inl a5] M4 (fun _ M5 => K (M5 154 2) M5)))))) ∧ (¬ (((M 154 2) + 20) ≤ 1000) → K (-1) (zUp M 154 0 0)))) := (zwp_blk (stops := []) (fuel := 34) pe_140).trans rfl
theorem pe_141 : zPg 141 = pg_141 := rfl
/-! 141 LeastFailingModel.end -/
set_option maxHeartbeats 4000000 in
set_option maxRecDepth 100000 in
theorem me_141 {d : Nat} {K : Kt} {M : Mm} {a1 : Int} : zSp (d + 1) 141 [.inr (.inr 154), .inl a1] M K = (zC (zR32 a1) (zC (zR32 (M 154 2)) (zSp d 137 [.inr (.inl a1), .inr (.inl 0), .inr (.inl (M 154 2))] (zUp M 154 0 0) (fun z1 M1 => zC (zR32 z1) ((¬ z1 = 0 → K 1 (zUp M1 154 2 a1)) ∧ (¬ (¬ z1 = 0) → K 0 M1)))))) := (zwp_blk (stops := []) (fuel := 23) pe_141).trans rfl
theorem pe_142 : zPg 142 = pg_142 := rfl
/-! 142 LeastFailingModel.begins -/
set_option maxHeartbeats 4000000 in
set_option maxRecDepth 100000 in
theorem me_142 {d : Nat} {K : Kt} {M : Mm} : zSp (d + 1) 142 [.inr (.inr 154)] M K = (K 0 (zUp (zUp (zUp (zUp (zUp (zUp M 154 3 (M 154 2)) 154 2 0) 154 4 0) 154 5 (-1)) 154 6 0) 154 7 (-1))) := (zwp_blk (stops := []) (fuel := 25) pe_142).trans rfl
theorem pe_143 : zPg 143 = pg_143 := rfl
/-! 143 LeastFailingModel.isFine -/
set_option maxHeartbeats 4000000 in
set_option maxRecDepth 100000 in
theorem me_143 {d : Nat} {K : Kt} {M : Mm} : zSp (d + 1) 143 [.inr (.inr 154)] M K = (zC (zR32 (M 154 6)) ((¬ (M 154 6) = 0 → K 0 M) ∧ (¬ (¬ (M 154 6) = 0) → K 1 M))) := (zwp_blk (stops := []) (fuel := 12) pe_143).trans rfl
theorem pe_144 : zPg 144 = pg_144 := rfl
/-! 144 LeastFailingModel.fail -/
set_option maxHeartbeats 4000000 in
set_option maxRecDepth 100000 in
theorem me_144 {d : Nat} {K : Kt} {M : Mm} {a1 a2 : Int} : zSp (d + 1) 144 [.inr (.inr 154), .inl a1, .inl a2] M K = (zC (zR32 (M 154 6)) (((M 154 6) = 0 → K 0 (zUp (zUp M 154 6 a1) 154 7 a2)) ∧ (¬ ((M 154 6) = 0) → K 0 M))) := (zwp_blk (stops := []) (fuel := 16) pe_144).trans rfl
theorem pe_145 : zPg 145 = pg_145 := rfl
/-! 145 LeastFailingModel.isRead -/
set_option maxHeartbeats 4000000 in
set_option maxRecDepth 100000 in
theorem me_145 {d : Nat} {K : Kt} {M : Mm} : zSp (d + 1) 145 [.inr (.inr 154)] M K = (zC (zR32 (M 154 6)) ((¬ (M 154 6) = 0 → zWp (zSp d) 145 K 24 [some (.inr (.inr 154))] [.inl (M 154 7), .inr (.inr 154)] (zUp M 154 8 (M 154 6))) ∧ (¬ (¬ (M 154 6) = 0) → zWp (zSp d) 145 K 24 [some (.inr (.inr 154))] [.inl (-1), .inr (.inr 154)] (zUp M 154 8 (M 154 6))))) := (zwp_blk (stops := [24]) (fuel := 25) pe_145).trans rfl
set_option maxHeartbeats 4000000 in
set_option maxRecDepth 100000 in
theorem fe_145_24 {d : Nat} {K : Kt} {M : Mm} {y1 : Int} : zWp (zSp d) 145 K 24 [some (.inr (.inr 154))] [.inl y1, .inr (.inr 154)] M = (zC (zR32 (M 154 6)) ((¬ (M 154 6) = 0 → K 0 (zUp M 154 9 y1)) ∧ (¬ (¬ (M 154 6) = 0) → K 1 (zUp M 154 9 y1)))) := (zwp_blk (stops := [24]) (fuel := 25) pe_145).trans rfl
theorem pe_146 : zPg 146 = pg_146 := rfl
/-! 146 LeastFailingModel.here -/
set_option maxHeartbeats 4000000 in
set_option maxRecDepth 100000 in
theorem me_146 {d : Nat} {K : Kt} {M : Mm} {a1 : Int} : zSp (d + 1) 146 [.inr (.inr 154), .inl a1] M K = (zC (zR32 a1) (zC (zR32 (M 154 3)) (((M 154 3) ≤ a1 → K 0 M) ∧ (¬ ((M 154 3) ≤ a1) → zC (zSm a1 1000) (K (M 155 a1) M))))) := (zwp_blk (stops := []) (fuel := 16) pe_146).trans rfl
theorem pe_147 : zPg 147 = pg_147 := rfl
/-! 147 LeastFailingModel.isLetter -/
set_option maxHeartbeats 4000000 in
set_option maxRecDepth 100000 in
theorem me_147 {d : Nat} {K : Kt} {M : Mm} {a1 : Int} : zSp (d + 1) 147 [.inr (.inr 154), .inl a1] M K = (zSp d 146 [.inr (.inr 154), .inl a1] M (fun z1 M1 => zC (zR32 z1) (zSp d 137 [.inr (.inl z1), .inr (.inl 97), .inr (.inl 122)] M1 (fun z2 M2 => zC (zBo z2) (K z2 M2))))) := (zwp_blk (stops := []) (fuel := 13) pe_147).trans rfl
theorem pe_148 : zPg 148 = pg_148 := rfl
/-! 148 LeastFailingModel.isDigit -/
set_option maxHeartbeats 4000000 in
set_option maxRecDepth 100000 in
theorem me_148 {d : Nat} {K : Kt} {M : Mm} {a1 : Int} : zSp (d + 1) 148 [.inr (.inr 154), .inl a1] M K = (zSp d 146 [.inr (.inr 154), .inl a1] M (fun z1 M1 => zC (zR32 z1) (zSp d 137 [.inr (.inl z1), .inr (.inl 48), .inr (.inl 57)] M1 (fun z2 M2 => zC (zBo z2) (K z2 M2))))) := (zwp_blk (stops := []) (fuel := 13) pe_148).trans rfl
theorem pe_149 : zPg 149 = pg_149 := rfl
/-! 149 LeastFailingModel.next -/
set_option maxHeartbeats 4000000 in
set_option maxRecDepth 100000 in
theorem me_149 {d : Nat} {K : Kt} {M : Mm} : zSp (d + 1) 149 [.inr (.inr 154)] M K = (zWp (zSp d) 149 K 0 [some (.inr (.inr 154))] [] M) := rfl
set_option maxHeartbeats 4000000 in
set_option maxRecDepth 100000 in
theorem fe_149_0 {d : Nat} {K : Kt} {M : Mm} : zWp (zSp d) 149 K 0 [some (.inr (.inr 154))] [] M = (zC (zR32 (M 154 4)) (zC (zR32 (M 154 3)) (((M 154 3) ≤ (M 154 4) → K (M 154 4) M) ∧ (¬ ((M 154 3) ≤ (M 154 4)) → zC (zSm (M 154 4) 1000) (zC (zR32 (M 155 (M 154 4))) (((M 155 (M 154 4)) = 32 → zWp (zSp d) 149 K 0 [some (.inr (.inr 154))] [] (zUp M 154 4 ((M 154 4) + 1))) ∧ (¬ ((M 155 (M 154 4)) = 32) → zC (zSm (M 154 4) 1000) (zC (zR32 (M 155 (M 154 4))) ((¬ (M 155 (M 154 4)) = 10 → K (M 154 4) M) ∧ (¬ (¬ (M 155 (M 154 4)) = 10) → zWp (zSp d) 149 K 0 [some (.inr (.inr 154))] [] (zUp M 154 4 ((M 154 4) + 1)))))))))))) := (zwp_blk (stops := [0]) (fuel := 34) pe_149).trans rfl
theorem pe_150 : zPg 150 = pg_150 := rfl
/-! 150 LeastFailingModel.isOver -/
set_option maxHeartbeats 4000000 in
set_option maxRecDepth 100000 in
theorem me_150 {d : Nat} {K : Kt} {M : Mm} : zSp (d + 1) 150 [.inr (.inr 154)] M K = (zSp d 149 [.inr (.inr 154)] M (fun z1 M1 => zC (zR32 z1) (zC (zR32 (M1 154 3)) ((z1 < (M1 154 3) → K 0 M1) ∧ (¬ (z1 < (M1 154 3)) → K 1 M1))))) := (zwp_blk (stops := []) (fuel := 14) pe_150).trans rfl
theorem pe_151 : zPg 151 = pg_151 := rfl
/-! 151 LeastFailingModel.unlike -/
set_option maxHeartbeats 4000000 in
set_option maxRecDepth 100000 in
theorem me_151 {d : Nat} {K : Kt} {M : Mm} : zSp (d + 1) 151 [.inr (.inr 154)] M K = (zSp d 149 [.inr (.inr 154)] M (fun z1 M1 => zSp d 144 [.inr (.inr 154), .inl 1, .inl z1] M1 (fun _ M2 => K 0 M2))) := (zwp_blk (stops := []) (fuel := 11) pe_151).trans rfl
theorem pe_152 : zPg 152 = pg_152 := rfl
/-! 152 LeastFailingModel.isSign -/
set_option maxHeartbeats 4000000 in
set_option maxRecDepth 100000 in
theorem me_152 {d : Nat} {K : Kt} {M : Mm} {a1 : Int} : zSp (d + 1) 152 [.inr (.inr 154), .inl a1] M K = (zSp d 149 [.inr (.inr 154)] M (fun z1 M1 => zC (zR32 z1) (zC (zR32 (M1 154 3)) (((M1 154 3) ≤ z1 → K 0 M1) ∧ (¬ ((M1 154 3) ≤ z1) → zC (zSm (M1 154 4) 1000) (zC (zR32 (M1 155 (M1 154 4))) (zC (zR32 a1) ((¬ (M1 155 (M1 154 4)) = a1 → K 0 M1) ∧ (¬ (¬ (M1 155 (M1 154 4)) = a1) → K 1 M1))))))))) := (zwp_blk (stops := []) (fuel := 21) pe_152).trans rfl
theorem pe_153 : zPg 153 = pg_153 := rfl
/-! 153 LeastFailingModel.takesSign -/
set_option maxHeartbeats 4000000 in
set_option maxRecDepth 100000 in
theorem me_153 {d : Nat} {K : Kt} {M : Mm} {a1 : Int} : zSp (d + 1) 153 [.inr (.inr 154), .inl a1] M K = (zSp d 143 [.inr (.inr 154)] M (fun z1 M1 => zC (zR32 z1) ((z1 = 0 → K 0 M1) ∧ (¬ (z1 = 0) → zSp d 152 [.inr (.inr 154), .inl a1] M1 (fun z2 M2 => zC (zR32 z2) ((¬ z2 = 0 → K 1 (zUp M2 154 4 ((M2 154 4) + 1))) ∧ (¬ (¬ z2 = 0) → K 0 M2))))))) := (zwp_blk (stops := []) (fuel := 22) pe_153).trans rfl
theorem pe_154 : zPg 154 = pg_154 := rfl
/-! 154 LeastFailingModel.needsSign -/
set_option maxHeartbeats 4000000 in
set_option maxRecDepth 100000 in
theorem me_154 {d : Nat} {K : Kt} {M : Mm} {a1 : Int} : zSp (d + 1) 154 [.inr (.inr 154), .inl a1] M K = (zSp d 143 [.inr (.inr 154)] M (fun z1 M1 => zC (zR32 z1) ((z1 = 0 → K 0 M1) ∧ (¬ (z1 = 0) → zSp d 153 [.inr (.inr 154), .inl a1] M1 (fun z2 M2 => zC (zR32 z2) ((¬ z2 = 0 → K 0 M2) ∧ (¬ (¬ z2 = 0) → zSp d 151 [.inr (.inr 154)] M2 (fun _ M3 => K 0 M3)))))))) := (zwp_blk (stops := []) (fuel := 15) pe_154).trans rfl
theorem pe_155 : zPg 155 = pg_155 := rfl
/-! 155 LeastFailingModel.packed -/
set_option maxHeartbeats 4000000 in
set_option maxRecDepth 100000 in
theorem me_155 {d : Nat} {K : Kt} {M : Mm} {a1 a2 a3 a4 a5 a6 : Int} : zSp (d + 1) 155 [.inl a1, .inl a2, .inl a3, .inl a4, .inl a5, .inl a6] M K = (zC (zR32 a1) (zC (zR32 a2) ((¬ a2 = 0 → zWp (zSp d) 155 K 22 [some (.inl a1), some (.inl a2), some (.inl a3), some (.inl a4), some (.inl a5), some (.inl a6), some (.inr (.inl a1)), none] [.inl (a2 - 96), .inr (.inl (32 * a1))] M) ∧ (¬ (¬ a2 = 0) → zWp (zSp d) 155 K 22 [some (.inl a1), some (.inl a2), some (.inl a3), some (.inl a4), some (.inl a5), some (.inl a6), some (.inr (.inl a1)), none] [.inl 0, .inr (.inl (32 * a1))] M)))) := (zwp_blk (stops := [22, 44, 66, 90]) (fuel := 75) pe_155).trans rfl
set_option maxHeartbeats 4000000 in
set_option maxRecDepth 100000 in
theorem fe_155_22 {d : Nat} {K : Kt} {M : Mm} {x0 x1 x2 x3 x4 x5 x6 y0 y1 : Int} : zWp (zSp d) 155 K 22 [some (.inl x0), some (.inl x1), some (.inl x2), some (.inl x3), some (.inl x4), some (.inl x5), some (.inr (.inl x6)), none] [.inl y1, .inr (.inl y0)] M = (zC (zR32 y1) (zC (zR32 x2) ((¬ x2 = 0 → zWp (zSp d) 155 K 44 [some (.inl x0), some (.inl x1), some (.inl x2), some (.inl x3), some (.inl x4), some (.inl x5), some (.inr (.inl (y0 + y1))), none] [.inl (x2 - 96), .inr (.inl (32 * (y0 + y1)))] M) ∧ (¬ (¬ x2 = 0) → zWp (zSp d) 155 K 44 [some (.inl x0), some (.inl x1), some (.inl x2), some (.inl x3), some (.inl x4), some (.inl x5), some (.inr (.inl (y0 + y1))), none] [.inl 0, .inr (.inl (32 * (y0 + y1)))] M)))) := (zwp_blk (stops := [22, 44, 66, 90]) (fuel := 75) pe_155).trans rfl
set_option maxHeartbeats 4000000 in
set_option maxRecDepth 100000 in
theorem fe_155_44 {d : Nat} {K : Kt} {M : Mm} {x0 x1 x2 x3 x4 x5 x6 y0 y1 : Int} : zWp (zSp d) 155 K 44 [some (.inl x0), some (.inl x1), some (.inl x2), some (.inl x3), some (.inl x4), some (.inl x5), some (.inr (.inl x6)), none] [.inl y1, .inr (.inl y0)] M = (zC (zR32 y1) (zC (zR32 x3) ((¬ x3 = 0 → zWp (zSp d) 155 K 66 [some (.inl x0), some (.inl x1), some (.inl x2), some (.inl x3), some (.inl x4), some (.inl x5), some (.inr (.inl (y0 + y1))), none] [.inl (x3 - 96), .inr (.inl (32 * (y0 + y1)))] M) ∧ (¬ (¬ x3 = 0) → zWp (zSp d) 155 K 66 [some (.inl x0), some (.inl x1), some (.inl x2), some (.inl x3), some (.inl x4), some (.inl x5), some (.inr (.inl (y0 + y1))), none] [.inl 0, .inr (.inl (32 * (y0 + y1)))] M)))) := (zwp_blk (stops := [22, 44, 66, 90]) (fuel := 75) pe_155).trans rfl
set_option maxHeartbeats 4000000 in
set_option maxRecDepth 100000 in
theorem fe_155_66 {d : Nat} {K : Kt} {M : Mm} {x0 x1 x2 x3 x4 x5 x6 y0 y1 : Int} : zWp (zSp d) 155 K 66 [some (.inl x0), some (.inl x1), some (.inl x2), some (.inl x3), some (.inl x4), some (.inl x5), some (.inr (.inl x6)), none] [.inl y1, .inr (.inl y0)] M = (zC (zR32 y1) (zC (zR32 x4) ((¬ x4 = 0 → zWp (zSp d) 155 K 90 [some (.inl x0), some (.inl x1), some (.inl x2), some (.inl x3), some (.inl x4), some (.inl x5), some (.inr (.inl (y0 + y1))), none] [.inl (x4 - 96), .inr (.inl (32 * (y0 + y1)))] M) ∧ (¬ (¬ x4 = 0) → zWp (zSp d) 155 K 90 [some (.inl x0), some (.inl x1), some (.inl x2), some (.inl x3), some (.inl x4), some (.inl x5), some (.inr (.inl (y0 + y1))), none] [.inl 0, .inr (.inl (32 * (y0 + y1)))] M)))) := (zwp_blk (stops := [22, 44, 66, 90]) (fuel := 75) pe_155).trans rfl
set_option maxHeartbeats 4000000 in
set_option maxRecDepth 100000 in
theorem fe_155_90 {d : Nat} {K : Kt} {M : Mm} {x0 x1 x2 x3 x4 x5 x6 y0 y1 : Int} : zWp (zSp d) 155 K 90 [some (.inl x0), some (.inl x1), some (.inl x2), some (.inl x3), some (.inl x4), some (.inl x5), some (.inr (.inl x6)), none] [.inl y1, .inr (.inl y0)] M = (zC (zR32 y1) (zC (zR32 x5) ((¬ x5 = 0 → zC (zR32 (x5 - 96)) (K (((32 * (y0 + y1)) + (x5 - 96)) - 3221225472) M)) ∧ (¬ (¬ x5 = 0) → K (((32 * (y0 + y1)) + 0) - 3221225472) M)))) := (zwp_blk (stops := [22, 44, 66, 90]) (fuel := 75) pe_155).trans rfl
theorem pe_156 : zPg 156 = pg_156 := rfl
/-! 156 LeastFailingModel.seesWord -/
set_option maxHeartbeats 4000000 in
set_option maxRecDepth 100000 in
theorem me_156 {d : Nat} {K : Kt} {M : Mm} : zSp (d + 1) 156 [.inr (.inr 154)] M K = (zSp d 149 [.inr (.inr 154)] M (fun z1 M1 => zSp d 147 [.inr (.inr 154), .inl z1] (zUp (zUp M1 154 11 0) 154 10 0) (fun z2 M2 => zC (zR32 z2) ((z2 = 0 → K 0 M2) ∧ (¬ (z2 = 0) → zC (zR32 z1) (zC (zR32 (M2 154 5)) ((¬ z1 = (M2 154 5) → zWp (zSp d) 156 K 33 [some (.inr (.inr 154)), some (.inl z1), none] [] M2) ∧ (¬ (¬ z1 = (M2 154 5)) → K 0 M2)))))))) := (zwp_blk (stops := [33, 88, 109]) (fuel := 78) pe_156).trans rfl
set_option maxHeartbeats 4000000 in
set_option maxRecDepth 100000 in
theorem fe_156_33 {d : Nat} {K : Kt} {M : Mm} {x1 : Int} : zWp (zSp d) 156 K 33 [some (.inr (.inr 154)), some (.inl x1), none] [] M = (zSp d 147 [.inr (.inr 154), .inl (x1 + (M 154 11))] M (fun z1 M1 => zC (zR32 z1) ((z1 = 0 → zWp (zSp d) 156 K 109 [some (.inr (.inr 154)), some (.inl x1), some (.inl (M1 154 11))] [] M1) ∧ (¬ (z1 = 0) → zC (zR32 (M1 154 11)) ((6 ≤ (M1 154 11) → zWp (zSp d) 156 K 88 [some (.inr (.inr 154)), some (.inl x1), none] [.inr (.inl (M1 154 10)), .inr (.inr 154)] M1) ∧ (¬ (6 ≤ (M1 154 11)) → zC (zSm (x1 + (M1 154 11)) 1000) (zC (zR32 (M1 155 (x1 + (M1 154 11)))) (zWp (zSp d) 156 K 88 [some (.inr (.inr 154)), some (.inl x1), none] [.inr (.inl (((32 * (M1 154 10)) + (M1 155 (x1 + (M1 154 11)))) - 96)), .inr (.inr 154)] M1)))))))) := (zwp_blk (stops := [33, 88, 109]) (fuel := 78) pe_156).trans rfl
set_option maxHeartbeats 4000000 in
set_option maxRecDepth 100000 in
theorem fe_156_88 {d : Nat} {K : Kt} {M : Mm} {x1 y1 : Int} : zWp (zSp d) 156 K 88 [some (.inr (.inr 154)), some (.inl x1), none] [.inr (.inl y1), .inr (.inr 154)] M = (zWp (zSp d) 156 K 33 [some (.inr (.inr 154)), some (.inl x1), none] [] (zUp (zUp M 154 10 y1) 154 11 ((M 154 11) + 1))) := (zwp_blk (stops := [33, 88, 109]) (fuel := 78) pe_156).trans rfl
set_option maxHeartbeats 4000000 in
set_option maxRecDepth 100000 in
theorem fe_156_109 {d : Nat} {K : Kt} {M : Mm} {x1 x2 : Int} : zWp (zSp d) 156 K 109 [some (.inr (.inr 154)), some (.inl x1), some (.inl x2)] [] M = (zC (zR32 x2) ((6 ≤ x2 → K 1 M) ∧ (¬ (6 ≤ x2) → zWp (zSp d) 156 K 109 [some (.inr (.inr 154)), some (.inl x1), some (.inl (x2 + 1))] [] (zUp M 154 10 ((M 154 10) * 32))))) := (zwp_blk (stops := [33, 88, 109]) (fuel := 78) pe_156).trans rfl
theorem pe_157 : zPg 157 = pg_157 := rfl
/-! 157 LeastFailingModel.isWord -/
set_option maxHeartbeats 4000000 in
set_option maxRecDepth 100000 in
theorem me_157 {d : Nat} {K : Kt} {M : Mm} {a1 : Int} : zSp (d + 1) 157 [.inr (.inr 154), .inr (.inl a1)] M K = (zSp d 156 [.inr (.inr 154)] M (fun z1 M1 => zC (zR32 z1) ((z1 = 0 → K 0 M1) ∧ (¬ (z1 = 0) → zC (zR32 (M1 154 11)) ((6 < (M1 154 11) → K 0 M1) ∧ (¬ (6 < (M1 154 11)) → zC (zR64 (M1 154 10)) (zC (zR64 a1) (zC (zR32 (zLcmp (M1 154 10) a1)) ((¬ (zLcmp (M1 154 10) a1) = 0 → K 0 M1) ∧ (¬ (¬ (zLcmp (M1 154 10) a1) = 0) → K 1 M1)))))))))) := (zwp_blk (stops := []) (fuel := 21) pe_157).trans rfl
theorem pe_158 : zPg 158 = pg_158 := rfl
/-! 158 LeastFailingModel.pass -/
set_option maxHeartbeats 4000000 in
set_option maxRecDepth 100000 in
theorem me_158 {d : Nat} {K : Kt} {M : Mm} : zSp (d + 1) 158 [.inr (.inr 154)] M K = (K 0 (zUp (zUp M 154 4 ((M 154 4) + (M 154 11))) 154 5 ((M 154 4) + (M 154 11)))) := (zwp_blk (stops := []) (fuel := 17) pe_158).trans rfl
theorem pe_159 : zPg 159 = pg_159 := rfl
/-! 159 LeastFailingModel.takes -/
set_option maxHeartbeats 4000000 in
set_option maxRecDepth 100000 in
theorem me_159 {d : Nat} {K : Kt} {M : Mm} {a1 : Int} : zSp (d + 1) 159 [.inr (.inr 154), .inr (.inl a1)] M K = (zSp d 143 [.inr (.inr 154)] M (fun z1 M1 => zC (zR32 z1) ((z1 = 0 → K 0 M1) ∧ (¬ (z1 = 0) → zSp d 157 [.inr (.inr 154), .inr (.inl a1)] M1 (fun z2 M2 => zC (zR32 z2) ((¬ z2 = 0 → zSp d 158 [.inr (.inr 154)] M2 (fun _ M3 => K 1 M3)) ∧ (¬ (¬ z2 = 0) → K 0 M2))))))) := (zwp_blk (stops := []) (fuel := 18) pe_159).trans rfl
theorem pe_160 : zPg 160 = pg_160 := rfl
/-! 160 LeastFailingModel.isOwn -/
set_option maxHeartbeats 4000000 in
set_option maxRecDepth 100000 in
theorem me_160 {d : Nat} {K : Kt} {M : Mm} : zSp (d + 1) 160 [.inr (.inr 154)] M K = (zSp d 155 [.inl 102, .inl 111, .inl 114, .inl 109, .inl 0, .inl 0] M (fun z1 M1 => zC (zR64 (M 154 10)) (zC (zR64 z1) (zC (zR32 (zLcmp (M 154 10) z1)) (((zLcmp (M 154 10) z1) = 0 → K 1 M1) ∧ (¬ ((zLcmp (M 154 10) z1) = 0) → zSp d 155 [.inl 108, .inl 101, .inl 97, .inl 102, .inl 0, .inl 0] M1 (fun z2 M2 => zC (zR64 (M1 154 10)) (zC (zR64 z2) (zC (zR32 (zLcmp (M1 154 10) z2)) (((zLcmp (M1 154 10) z2) = 0 → K 1 M2) ∧ (¬ ((zLcmp (M1 154 10) z2) = 0) → zSp d 155 [.inl 98, .inl 117, .inl 103, .inl 0, .inl 0, .inl 0] M2 (fun z3 M3 => zC (zR64 (M2 154 10)) (zC (zR64 z3) (zC (zR32 (zLcmp (M2 154 10) z3)) (((zLcmp (M2 154 10) z3) = 0 → K 1 M3) ∧ (¬ ((zLcmp (M2 154 10) z3) = 0) → zSp d 155 [.inl 111, .inl 100, .inl 100, .inl 115, .inl 0, .inl 0] M3 (fun z4 M4 => zC (zR64 (M3 154 10)) (zC (zR64 z4) (zC (zR32 (zLcmp (M3 154 10) z4)) (((zLcmp (M3 154 10) z4) = 0 → K 1 M4) ∧ (¬ ((zLcmp (M3 154 10) z4) = 0) → zSp d 155 [.inl 119, .inl 104, .inl 101, .inl 110, .inl 0, .inl 0] M4 (fun z5 M5 => zC (zR64 (M4 154 10)) (zC (zR64 z5) (zC (zR32 (zLcmp (M4 154 10) z5)) (((zLcmp (M4 154 10) z5) = 0 → K 1 M5) ∧ (¬ ((zLcmp (M4 154 10) z5) = 0) → zSp d 155 [.inl 111, .inl 114, .inl 0, .inl 0, .inl 0, .inl 0] M5 (fun z6 M6 => zC (zR64 (M5 154 10)) (zC (zR64 z6) (zC (zR32 (zLcmp (M5 154 10) z6)) (((zLcmp (M5 154 10) z6) = 0 → K 1 M6) ∧ (¬ ((zLcmp (M5 154 10) z6) = 0) → zSp d 155 [.inl 97, .inl 110, .inl 100, .inl 0, .inl 0, .inl 0] M6 (fun z7 M7 => zC (zR64 (M6 154 10)) (zC (zR64 z7) (zC (zR32 (zLcmp (M6 154 10) z7)) (((zLcmp (M6 154 10) z7) = 0 → K 1 M7) ∧ (¬ ((zLcmp (M6 154 10) z7) = 0) → zSp d 155 [.inl 110, .inl 111, .inl 116, .inl 0, .inl 0, .inl 0] M7 (fun z8 M8 => zC (zR64 (M7 154 10)) (zC (zR64 z8) (zC (zR32 (zLcmp (M7 154 10) z8)) (((zLcmp (M7 154 10) z8) = 0 → K 1 M8) ∧ (¬ ((zLcmp (M7 154 10) z8) = 0) → zSp d 155 [.inl 115, .inl 105, .inl 122, .inl 101, .inl 0, .inl 0] M8 (fun z9 M9 => zC (zR64 (M8 154 10)) (zC (zR64 z9) (zC (zR32 (zLcmp (M8 154 10) z9)) (((zLcmp (M8 154 10) z9) = 0 → K 1 M9) ∧ (¬ ((zLcmp (M8 154 10) z9) = 0) → zSp d 155 [.inl 100, .inl 101, .inl 101, .inl 112, .inl 0, .inl 0] M9 (fun z10 M10 => zC (zR64 (M9 154 10)) (zC (zR64 z10) (zC (zR32 (zLcmp (M9 154 10) z10)) (((zLcmp (M9 154 10) z10) = 0 → K 1 M10) ∧ (¬ ((zLcmp (M9 154 10) z10) = 0) → zSp d 155 [.inl 104, .inl 97, .inl 115, .inl 0, .inl 0, .inl 0] M10 (fun z11 M11 => zC (zR64 (M10 154 10)) (zC (zR64 z11) (zC (zR32 (zLcmp (M10 154 10) z11)) (((zLcmp (M10 154 10) z11) = 0 → K 1 M11) ∧ (¬ ((zLcmp (M10 154 10) z11) = 0) → zSp d 155 [.inl 117, .inl 110, .inl 100, .inl 101, .inl 114, .inl 0] M11 (fun z12 M12 => zC (zR64 (M11 154 10)) (zC (zR64 z12) (zC (zR32 (zLcmp (M11 154 10) z12)) (((zLcmp (M11 154 10) z12) = 0 → K 1 M12) ∧ (¬ ((zLcmp (M11 154 10) z12) = 0) → zSp d 155 [.inl 110, .inl 101, .inl 120, .inl 116, .inl 0, .inl 0] M12 (fun z13 M13 => zC (zR64 (M12 154 10)) (zC (zR64 z13) (zC (zR32 (zLcmp (M12 154 10) z13)) ((¬ (zLcmp (M12 154 10) z13) = 0 → K 0 M13) ∧ (¬ (¬ (zLcmp (M12 154 10) z13) = 0) → K 1 M13)))))))))))))))))))))))))))))))))))))))))))))))))))))))))))))))))) := (zwp_blk (stops := []) (fuel := 152) pe_160).trans rfl
theorem pe_161 : zPg 161 = pg_161 := rfl
/-! 161 LeastFailingModel.isName -/
set_option maxHeartbeats 4000000 in
set_option maxRecDepth 100000 in
theorem me_161 {d : Nat} {K : Kt} {M : Mm} : zSp (d + 1) 161 [.inr (.inr 154)] M K = (zSp d 156 [.inr (.inr 154)] M (fun z1 M1 => zC (zR32 z1) ((z1 = 0 → K 0 M1) ∧ (¬ (z1 = 0) → zC (zR32 (M1 154 11)) ((6 < (M1 154 11) → K 0 M1) ∧ (¬ (6 < (M1 154 11)) → zSp d 160 [.inr (.inr 154)] M1 (fun z2 M2 => zC (zR32 z2) ((¬ z2 = 0 → K 0 M2) ∧ (¬ (¬ z2 = 0) → K 1 M2))))))))) := (zwp_blk (stops := []) (fuel := 19) pe_161).trans rfl
theorem pe_162 : zPg 162 = pg_162 := rfl
/-! 162 LeastFailingModel.name -/
set_option maxHeartbeats 4000000 in
set_option maxRecDepth 100000 in
theorem me_162 {d : Nat} {K : Kt} {M : Mm} : zSp (d + 1) 162 [.inr (.inr 154)] M K = (zSp d 149 [.inr (.inr 154)] M (fun z1 M1 => zSp d 143 [.inr (.inr 154)] (zUp M1 154 12 z1) (fun z2 M2 => zC (zR32 z2) ((z2 = 0 → zWp (zSp d) 162 K 26 [some (.inr (.inr 154)), none, none] [] M2) ∧ (¬ (z2 = 0) → zSp d 161 [.inr (.inr 154)] M2 (fun z3 M3 => zC (zR32 z3) ((¬ z3 = 0 → zWp (zSp d) 162 K 26 [some (.inr (.inr 154)), none, none] [] M3) ∧ (¬ (¬ z3 = 0) → zSp d 151 [.inr (.inr 154)] M3 (fun _ M4 => zWp (zSp d) 162 K 26 [some (.inr (.inr 154)), none, none] [] M4))))))))) := (zwp_blk (stops := [26]) (fuel := 29) pe_162).trans rfl
set_option maxHeartbeats 4000000 in
set_option maxRecDepth 100000 in
theorem fe_162_26 {d : Nat} {K : Kt} {M : Mm} : zWp (zSp d) 162 K 26 [some (.inr (.inr 154)), none, none] [] M = (zSp d 143 [.inr (.inr 154)] M (fun z1 M1 => zC (zR32 z1) ((¬ z1 = 0 → zSp d 158 [.inr (.inr 154)] M1 (fun _ M2 => K (M1 154 10) M2)) ∧ (¬ (¬ z1 = 0) → K 0 M1)))) := (zwp_blk (stops := [26]) (fuel := 29) pe_162).trans rfl
theorem pe_163 : zPg 163 = pg_163 := rfl
/-! 163 LeastFailingModel.number -/
set_option maxHeartbeats 4000000 in
set_option maxRecDepth 100000 in
theorem me_163 {d : Nat} {K : Kt} {M : Mm} : zSp (d + 1) 163 [.inr (.inr 154)] M K = (zSp d 149 [.inr (.inr 154)] M (fun z1 M1 => zWp (zSp d) 163 K 10 [some (.inr (.inr 154)), some (.inl 0), none, none] [] (zUp M1 154 13 z1))) := (zwp_blk (stops := [10, 56, 60, 73]) (fuel := 75) pe_163).trans rfl
set_option maxHeartbeats 4000000 in
set_option maxRecDepth 100000 in
theorem fe_163_10 {d : Nat} {K : Kt} {M : Mm} {x1 : Int} : zWp (zSp d) 163 K 10 [some (.inr (.inr 154)), some (.inl x1), none, none] [] M = (zSp d 148 [.inr (.inr 154), .inl ((M 154 13) + x1)] M (fun z1 M1 => zC (zR32 z1) ((z1 = 0 → zSp d 143 [.inr (.inr 154)] M1 (fun z2 M2 => zC (zR32 z2) ((z2 = 0 → zWp (zSp d) 163 K 60 [some (.inr (.inr 154)), some (.inl x1), none, none] [] M2) ∧ (¬ (z2 = 0) → zC (zR32 x1) ((x1 = 0 → zWp (zSp d) 163 K 56 [some (.inr (.inr 154)), some (.inl x1), none, none] [] M2) ∧ (¬ (x1 = 0) → zC (zR32 x1) ((3 < x1 → zWp (zSp d) 163 K 56 [some (.inr (.inr 154)), some (.inl x1), none, none] [] M2) ∧ (¬ (3 < x1) → zC (zR32 (M2 154 13)) (zC (zR32 (M2 154 5)) ((¬ (M2 154 13) = (M2 154 5) → zWp (zSp d) 163 K 60 [some (.inr (.inr 154)), some (.inl x1), none, none] [] M2) ∧ (¬ (¬ (M2 154 13) = (M2 154 5)) → zWp (zSp d) 163 K 56 [some (.inr (.inr 154)), some (.inl x1), none, none] [] M2))))))))))) ∧ (¬ (z1 = 0) → zWp (zSp d) 163 K 10 [some (.inr (.inr 154)), some (.inl (x1 + 1)), none, none] [] M1)))) := (zwp_blk (stops := [10, 56, 60, 73]) (fuel := 75) pe_163).trans rfl
set_option maxHeartbeats 4000000 in
set_option maxRecDepth 100000 in
theorem fe_163_56 {d : Nat} {K : Kt} {M : Mm} {x1 : Int} : zWp (zSp d) 163 K 56 [some (.inr (.inr 154)), some (.inl x1), none, none] [] M = (zSp d 151 [.inr (.inr 154)] M (fun _ M1 => zWp (zSp d) 163 K 60 [some (.inr (.inr 154)), some (.inl x1), none, none] [] M1)) := (zwp_blk (stops := [10, 56, 60, 73]) (fuel := 75) pe_163).trans rfl
set_option maxHeartbeats 4000000 in
set_option maxRecDepth 100000 in
theorem fe_163_60 {d : Nat} {K : Kt} {M : Mm} {x1 : Int} : zWp (zSp d) 163 K 60 [some (.inr (.inr 154)), some (.inl x1), none, none] [] M = (zSp d 143 [.inr (.inr 154)] M (fun z1 M1 => zC (zR32 z1) ((¬ z1 = 0 → zWp (zSp d) 163 K 73 [some (.inr (.inr 154)), some (.inl x1), some (.inl 0), some (.inl 0)] [] M1) ∧ (¬ (¬ z1 = 0) → K 0 M1)))) := (zwp_blk (stops := [10, 56, 60, 73]) (fuel := 75) pe_163).trans rfl
set_option maxHeartbeats 4000000 in
set_option maxRecDepth 100000 in
theorem fe_163_73 {d : Nat} {K : Kt} {M : Mm} {x1 x2 x3 : Int} : zWp (zSp d) 163 K 73 [some (.inr (.inr 154)), some (.inl x1), some (.inl x2), some (.inl x3)] [] M = (zC (zR32 x3) (zC (zR32 x1) ((x1 ≤ x3 → K x2 (zUp (zUp M 154 4 ((M 154 13) + x1)) 154 5 ((M 154 13) + x1))) ∧ (¬ (x1 ≤ x3) → zC (zSm ((M 154 13) + x3) 1000) (zWp (zSp d) 163 K 73 [some (.inr (.inr 154)), some (.inl x1), some (.inl (((10 * x2) + (M 155 ((M 154 13) + x3))) - 48)), some (.inl (x3 + 1))] [] M))))) := (zwp_blk (stops := [10, 56, 60, 73]) (fuel := 75) pe_163).trans rfl
theorem pe_164 : zPg 164 = pg_164 := rfl
/-! 164 LeastFailingModel.sortRead -/
set_option maxHeartbeats 4000000 in
set_option maxRecDepth 100000 in
theorem me_164 {d : Nat} {K : Kt} {M : Mm} : zSp (d + 1) 164 [.inr (.inr 154)] M K = (zSp d 162 [.inr (.inr 154)] M (fun z1 M1 => zSp d 143 [.inr (.inr 154)] M1 (fun z2 M2 => zC (zR32 z2) ((¬ z2 = 0 → zWp (zSp d) 164 K 16 [some (.inr (.inr 154)), some (.inr (.inl z1)), none, some (.inl 0)] [] M2) ∧ (¬ (¬ z2 = 0) → K 0 M2))))) := (zwp_blk (stops := [16, 69]) (fuel := 71) pe_164).trans rfl
set_option maxHeartbeats 4000000 in
set_option maxRecDepth 100000 in
theorem fe_164_16 {d : Nat} {K : Kt} {M : Mm} {x1 x3 : Int} : zWp (zSp d) 164 K 16 [some (.inr (.inr 154)), some (.inr (.inl x1)), none, some (.inl x3)] [] M = (zC (zR32 x3) (zC (zR32 (M 159 193)) (((M 159 193) ≤ x3 → zC (zR32 (M 159 193)) ((¬ (M 159 193) = 6 → zWp (zSp d) 164 K 69 [some (.inr (.inr 154)), some (.inr (.inl x1)), none, some (.inl x3)] [] M) ∧ (¬ (¬ (M 159 193) = 6) → zSp d 144 [.inr (.inr 154), .inl 4, .inl (M 154 12)] M (fun _ M1 => zWp (zSp d) 164 K 69 [some (.inr (.inr 154)), some (.inr (.inl x1)), none, some (.inl x3)] [] M1)))) ∧ (¬ ((M 159 193) ≤ x3) → zC (zSm x3 6) (zC (zR64 (M 161 x3)) (zC (zR64 x1) (zC (zR32 (zLcmp (M 161 x3) x1)) ((¬ (zLcmp (M 161 x3) x1) = 0 → zWp (zSp d) 164 K 16 [some (.inr (.inr 154)), some (.inr (.inl x1)), none, some (.inl (x3 + 1))] [] M) ∧ (¬ (¬ (zLcmp (M 161 x3) x1) = 0) → K x3 M))))))))) := (zwp_blk (stops := [16, 69]) (fuel := 71) pe_164).trans rfl
set_option maxHeartbeats 4000000 in
set_option maxRecDepth 100000 in
theorem fe_164_69 {d : Nat} {K : Kt} {M : Mm} {x1 x3 : Int} : zWp (zSp d) 164 K 69 [some (.inr (.inr 154)), some (.inr (.inl x1)), none, some (.inl x3)] [] M = (zSp d 143 [.inr (.inr 154)] M (fun z1 M1 => zC (zR32 z1) ((¬ z1 = 0 → zC (zSm (M1 159 193) 6) (K (((M1 159 193) + 1) - 1) (zUp (zUp M1 161 (M1 159 193) x1) 159 193 ((M1 159 193) + 1)))) ∧ (¬ (¬ z1 = 0) → K 0 M1)))) := (zwp_blk (stops := [16, 69]) (fuel := 71) pe_164).trans rfl
theorem pe_165 : zPg 165 = pg_165 := rfl
/-! 165 LeastFailingModel.partsRead -/
set_option maxHeartbeats 4000000 in
set_option maxRecDepth 100000 in
theorem me_165 {d : Nat} {K : Kt} {M : Mm} {a1 : Int} : zSp (d + 1) 165 [.inr (.inr 154), .inl a1] M K = (zSp d 154 [.inr (.inr 154), .inl 58] M (fun _ M1 => zWp (zSp d) 165 K 10 [some (.inr (.inr 154)), some (.inl a1), some (.inl 0), some (.inl 0), none] [] M1)) := (zwp_blk (stops := [10, 42, 84]) (fuel := 72) pe_165).trans rfl
set_option maxHeartbeats 4000000 in
set_option maxRecDepth 100000 in
theorem fe_165_10 {d : Nat} {K : Kt} {M : Mm} {x1 x2 x3 : Int} {u4 : Option Vl} : zWp (zSp d) 165 K 10 [some (.inr (.inr 154)), some (.inl x1), some (.inl x2), some (.inl x3), u4] [] M = (zSp d 143 [.inr (.inr 154)] M (fun z1 M1 => zC (zR32 z1) ((z1 = 0 → zWp (zSp d) 165 K 84 [some (.inr (.inr 154)), some (.inl x1), some (.inl x2), some (.inl x3), u4] [] M1) ∧ (¬ (z1 = 0) → zC (zR32 x3) ((¬ x3 = 0 → zWp (zSp d) 165 K 84 [some (.inr (.inr 154)), some (.inl x1), some (.inl x2), some (.inl x3), u4] [] M1) ∧ (¬ (¬ x3 = 0) → zSp d 161 [.inr (.inr 154)] M1 (fun z2 M2 => zC (zR32 z2) ((z2 = 0 → zWp (zSp d) 165 K 84 [some (.inr (.inr 154)), some (.inl x1), some (.inl x2), some (.inl x3), u4] [] M2) ∧ (¬ (z2 = 0) → zC (zR32 x2) ((¬ x2 = 4 → zWp (zSp d) 165 K 42 [some (.inr (.inr 154)), some (.inl x1), some (.inl x2), some (.inl x3), u4] [] M2) ∧ (¬ (¬ x2 = 4) → zSp d 149 [.inr (.inr 154)] M2 (fun z3 M3 => zSp d 144 [.inr (.inr 154), .inl 4, .inl z3] M3 (fun _ M4 => zWp (zSp d) 165 K 42 [some (.inr (.inr 154)), some (.inl x1), some (.inl x2), some (.inl x3), u4] [] M4))))))))))))) := (zwp_blk (stops := [10, 42, 84]) (fuel := 72) pe_165).trans rfl
set_option maxHeartbeats 4000000 in
set_option maxRecDepth 100000 in
theorem fe_165_42 {d : Nat} {K : Kt} {M : Mm} {x1 x2 x3 : Int} {u4 : Option Vl} : zWp (zSp d) 165 K 42 [some (.inr (.inr 154)), some (.inl x1), some (.inl x2), some (.inl x3), u4] [] M = (zSp d 164 [.inr (.inr 154)] M (fun z1 M1 => zSp d 143 [.inr (.inr 154)] M1 (fun z2 M2 => zC (zR32 z2) ((¬ z2 = 0 → zC (zSm (((8 * x1) + 4) + x2) 194) (zSp d 153 [.inr (.inr 154), .inl 42] (zUp M2 159 (((8 * x1) + 4) + x2) z1) (fun z3 M3 => zWp (zSp d) 165 K 10 [some (.inr (.inr 154)), some (.inl x1), some (.inl (x2 + 1)), some (.inl z3), some (.inl z1)] [] M3))) ∧ (¬ (¬ z2 = 0) → K 0 M2))))) := (zwp_blk (stops := [10, 42, 84]) (fuel := 72) pe_165).trans rfl
set_option maxHeartbeats 4000000 in
set_option maxRecDepth 100000 in
theorem fe_165_84 {d : Nat} {K : Kt} {M : Mm} {x1 x2 x3 : Int} {u4 : Option Vl} : zWp (zSp d) 165 K 84 [some (.inr (.inr 154)), some (.inl x1), some (.inl x2), some (.inl x3), u4] [] M = (zC (zSm ((8 * x1) + 2) 194) (zSp d 138 [.inl x3] (zUp M 159 ((8 * x1) + 2) x2) (fun z1 M1 => zC (zSm ((8 * x1) + 3) 194) (K 0 (zUp M1 159 ((8 * x1) + 3) z1))))) := (zwp_blk (stops := [10, 42, 84]) (fuel := 72) pe_165).trans rfl
theorem pe_166 : zPg 166 = pg_166 := rfl
/-! 166 LeastFailingModel.lineRead -/
set_option maxHeartbeats 4000000 in
set_option maxRecDepth 100000 in
theorem me_166 {d : Nat} {K : Kt} {M : Mm} : zSp (d + 1) 166 [.inr (.inr 154)] M K = (zSp d 155 [.inl 102, .inl 111, .inl 114, .inl 109, .inl 0, .inl 0] M (fun z1 M1 => zSp d 157 [.inr (.inr 154), .inr (.inl z1)] M1 (fun z2 M2 => zC (zR32 z2) ((¬ z2 = 0 → zWp (zSp d) 166 K 46 [some (.inr (.inr 154)), some (.inl z2), none, none, none, none] [] M2) ∧ (¬ (¬ z2 = 0) → zSp d 155 [.inl 108, .inl 101, .inl 97, .inl 102, .inl 0, .inl 0] M2 (fun z3 M3 => zSp d 157 [.inr (.inr 154), .inr (.inl z3)] M3 (fun z4 M4 => zC (zR32 z4) ((¬ z4 = 0 → zWp (zSp d) 166 K 46 [some (.inr (.inr 154)), some (.inl z2), none, none, none, none] [] M4) ∧ (¬ (¬ z4 = 0) → zSp d 151 [.inr (.inr 154)] M4 (fun _ M5 => zWp (zSp d) 166 K 46 [some (.inr (.inr 154)), some (.inl z2), none, none, none, none] [] M5)))))))))) := (zwp_blk (stops := [46, 70, 90, 130, 188]) (fuel := 121) pe_166).trans rfl
set_option maxHeartbeats 4000000 in
set_option maxRecDepth 100000 in
theorem fe_166_46 {d : Nat} {K : Kt} {M : Mm} {x1 : Int} : zWp (zSp d) 166 K 46 [some (.inr (.inr 154)), some (.inl x1), none, none, none, none] [] M = (zC (zR32 (M 159 192)) ((¬ (M 159 192) = 24 → zWp (zSp d) 166 K 70 [some (.inr (.inr 154)), some (.inl x1), some (.inl (M 159 192)), none, none, none] [] M) ∧ (¬ (¬ (M 159 192) = 24) → zSp d 149 [.inr (.inr 154)] M (fun z1 M1 => zSp d 144 [.inr (.inr 154), .inl 4, .inl z1] M1 (fun _ M2 => zWp (zSp d) 166 K 70 [some (.inr (.inr 154)), some (.inl x1), some (.inl (M 159 192)), none, none, none] [] M2))))) := (zwp_blk (stops := [46, 70, 90, 130, 188]) (fuel := 121) pe_166).trans rfl
set_option maxHeartbeats 4000000 in
set_option maxRecDepth 100000 in
theorem fe_166_70 {d : Nat} {K : Kt} {M : Mm} {x1 x2 : Int} : zWp (zSp d) 166 K 70 [some (.inr (.inr 154)), some (.inl x1), some (.inl x2), none, none, none] [] M = (zSp d 143 [.inr (.inr 154)] M (fun z1 M1 => zC (zR32 z1) ((¬ z1 = 0 → zSp d 158 [.inr (.inr 154)] M1 (fun _ M2 => zSp d 162 [.inr (.inr 154)] M2 (fun z3 M3 => zWp (zSp d) 166 K 90 [some (.inr (.inr 154)), some (.inl x1), some (.inl x2), some (.inr (.inl z3)), none, some (.inl 0)] [] M3))) ∧ (¬ (¬ z1 = 0) → K 0 M1)))) := (zwp_blk (stops := [46, 70, 90, 130, 188]) (fuel := 121) pe_166).trans rfl
set_option maxHeartbeats 4000000 in
set_option maxRecDepth 100000 in
theorem fe_166_90 {d : Nat} {K : Kt} {M : Mm} {x1 x2 x3 x5 : Int} : zWp (zSp d) 166 K 90 [some (.inr (.inr 154)), some (.inl x1), some (.inl x2), some (.inr (.inl x3)), none, some (.inl x5)] [] M = (zC (zR32 x5) (zC (zR32 x2) ((x2 ≤ x5 → zWp (zSp d) 166 K 130 [some (.inr (.inr 154)), some (.inl x1), some (.inl x2), some (.inr (.inl x3)), none, some (.inl x5)] [] M) ∧ (¬ (x2 ≤ x5) → zSp d 143 [.inr (.inr 154)] M (fun z1 M1 => zC (zR32 z1) ((z1 = 0 → zWp (zSp d) 166 K 130 [some (.inr (.inr 154)), some (.inl x1), some (.inl x2), some (.inr (.inl x3)), none, some (.inl x5)] [] M1) ∧ (¬ (z1 = 0) → zC (zSm x5 24) (zC (zR64 (M1 160 x5)) (zC (zR64 x3) (zC (zR32 (zLcmp (M1 160 x5) x3)) ((¬ (zLcmp (M1 160 x5) x3) = 0 → zWp (zSp d) 166 K 90 [some (.inr (.inr 154)), some (.inl x1), some (.inl x2), some (.inr (.inl x3)), none, some (.inl (x5 + 1))] [] M1) ∧ (¬ (¬ (zLcmp (M1 160 x5) x3) = 0) → zSp d 144 [.inr (.inr 154), .inl 3, .inl (M1 154 12)] M1 (fun _ M2 => zWp (zSp d) 166 K 90 [some (.inr (.inr 154)), some (.inl x1), some (.inl x2), some (.inr (.inl x3)), none, some (.inl (x5 + 1))] [] M2))))))))))))) := (zwp_blk (stops := [46, 70, 90, 130, 188]) (fuel := 121) pe_166).trans rfl
set_option maxHeartbeats 4000000 in
set_option maxRecDepth 100000 in
theorem fe_166_130 {d : Nat} {K : Kt} {M : Mm} {x1 x2 x3 x5 : Int} : zWp (zSp d) 166 K 130 [some (.inr (.inr 154)), some (.inl x1), some (.inl x2), some (.inr (.inl x3)), none, some (.inl x5)] [] M = (zSp d 164 [.inr (.inr 154)] M (fun z1 M1 => zSp d 143 [.inr (.inr 154)] M1 (fun z2 M2 => zC (zR32 z2) ((¬ z2 = 0 → zC (zSm x2 24) (zC (zSm ((8 * x2) + 0) 194) (zSp d 138 [.inl x1] (zUp (zUp M2 160 x2 x3) 159 ((8 * x2) + 0) z1) (fun z3 M3 => zC (zSm ((8 * x2) + 1) 194) (zC (zR32 x1) ((x1 = 0 → zWp (zSp d) 166 K 188 [some (.inr (.inr 154)), some (.inl x1), some (.inl x2), some (.inr (.inl x3)), none, some (.inl z1)] [] (zUp M3 159 ((8 * x2) + 1) z3)) ∧ (¬ (x1 = 0) → zSp d 165 [.inr (.inr 154), .inl x2] (zUp M3 159 ((8 * x2) + 1) z3) (fun _ M4 => zWp (zSp d) 166 K 188 [some (.inr (.inr 154)), some (.inl x1), some (.inl x2), some (.inr (.inl x3)), none, some (.inl z1)] [] M4)))))))) ∧ (¬ (¬ z2 = 0) → K 0 M2))))) := (zwp_blk (stops := [46, 70, 90, 130, 188]) (fuel := 121) pe_166).trans rfl
set_option maxHeartbeats 4000000 in
set_option maxRecDepth 100000 in
theorem fe_166_188 {d : Nat} {K : Kt} {M : Mm} {x1 x2 x3 x5 : Int} : zWp (zSp d) 166 K 188 [some (.inr (.inr 154)), some (.inl x1), some (.inl x2), some (.inr (.inl x3)), none, some (.inl x5)] [] M = (zSp d 154 [.inr (.inr 154), .inl 59] M (fun _ M1 => K 0 (zUp M1 159 192 ((M1 159 192) + 1)))) := (zwp_blk (stops := [46, 70, 90, 130, 188]) (fuel := 121) pe_166).trans rfl
theorem pe_167 : zPg 167 = pg_167 := rfl
/-! 167 LeastFailingModel.leastOf -/
set_option maxHeartbeats 4000000 in
set_option maxRecDepth 100000 in
theorem me_167 {d : Nat} {K : Kt} {M : Mm} {a1 : Int} : zSp (d + 1) 167 [.inr (.inr 154), .inl a1] M K = (zWp (zSp d) 167 K 4 [some (.inr (.inr 154)), some (.inl a1), some (.inl 1), some (.inl 0), none] [] M) := (zwp_blk (stops := [4]) (fuel := 58) pe_167).trans rfl
set_option maxHeartbeats 4000000 in
set_option maxRecDepth 100000 in
theorem fe_167_4 {d : Nat} {K : Kt} {M : Mm} {x1 x2 x3 : Int} {u4 : Option Vl} : zWp (zSp d) 167 K 4 [some (.inr (.inr 154)), some (.inl x1), some (.inl x2), some (.inl x3), u4] [] M = (zC (zSm ((8 * x1) + 2) 194) (zC (zSm ((8 * x1) + 3) 194) (zC (zR32 x3) (zC (zR32 ((M 159 ((8 * x1) + 2)) - (M 159 ((8 * x1) + 3)))) ((((M 159 ((8 * x1) + 2)) - (M 159 ((8 * x1) + 3))) ≤ x3 → K x2 M) ∧ (¬ (((M 159 ((8 * x1) + 2)) - (M 159 ((8 * x1) + 3))) ≤ x3) → zC (zSm (((8 * x1) + 4) + x3) 194) (zC (zSm (M 159 (((8 * x1) + 4) + x3)) 6) (zC (zR32 (M 164 (M 159 (((8 * x1) + 4) + x3)))) (((M 164 (M 159 (((8 * x1) + 4) + x3))) = 1000000 → zWp (zSp d) 167 K 4 [some (.inr (.inr 154)), some (.inl x1), some (.inl 1000000), some (.inl (x3 + 1)), some (.inl (M 164 (M 159 (((8 * x1) + 4) + x3))))] [] M) ∧ (¬ ((M 164 (M 159 (((8 * x1) + 4) + x3))) = 1000000) → zC (zR32 x2) ((¬ x2 = 1000000 → zWp (zSp d) 167 K 4 [some (.inr (.inr 154)), some (.inl x1), some (.inl (x2 + (M 164 (M 159 (((8 * x1) + 4) + x3))))), some (.inl (x3 + 1)), some (.inl (M 164 (M 159 (((8 * x1) + 4) + x3))))] [] M) ∧ (¬ (¬ x2 = 1000000) → zWp (zSp d) 167 K 4 [some (.inr (.inr 154)), some (.inl x1), some (.inl 1000000), some (.inl (x3 + 1)), some (.inl (M 164 (M 159 (((8 * x1) + 4) + x3))))] [] M)))))))))))) := (zwp_blk (stops := [4]) (fuel := 58) pe_167).trans rfl
theorem pe_168 : zPg 168 = pg_168 := rfl
/-! 168 LeastFailingModel.laysLeast -/
set_option maxHeartbeats 4000000 in
set_option maxRecDepth 100000 in
theorem me_168 {d : Nat} {K : Kt} {M : Mm} : zSp (d + 1) 168 [.inr (.inr 154)] M K = (zWp (zSp d) 168 K 2 [some (.inr (.inr 154)), some (.inl 0), none, none] [] M) := (zwp_blk (stops := [2, 25, 33, 96]) (fuel := 80) pe_168).trans rfl
set_option maxHeartbeats 4000000 in
set_option maxRecDepth 100000 in
theorem fe_168_2 {d : Nat} {K : Kt} {M : Mm} {x1 : Int} : zWp (zSp d) 168 K 2 [some (.inr (.inr 154)), some (.inl x1), none, none] [] M = (zC (zR32 x1) ((6 ≤ x1 → zWp (zSp d) 168 K 25 [some (.inr (.inr 154)), some (.inl 0), none, none] [] M) ∧ (¬ (6 ≤ x1) → zC (zSm x1 6) (zWp (zSp d) 168 K 2 [some (.inr (.inr 154)), some (.inl (x1 + 1)), none, none] [] (zUp M 164 x1 1000000))))) := (zwp_blk (stops := [2, 25, 33, 96]) (fuel := 80) pe_168).trans rfl
set_option maxHeartbeats 4000000 in
set_option maxRecDepth 100000 in
theorem fe_168_25 {d : Nat} {K : Kt} {M : Mm} {x1 : Int} {u2 u3 : Option Vl} : zWp (zSp d) 168 K 25 [some (.inr (.inr 154)), some (.inl x1), u2, u3] [] M = (zC (zR32 x1) ((6 < x1 → zWp (zSp d) 168 K 96 [some (.inr (.inr 154)), some (.inl 0), u2, u3] [] M) ∧ (¬ (6 < x1) → zWp (zSp d) 168 K 33 [some (.inr (.inr 154)), some (.inl x1), some (.inl 0), u3] [] M))) := (zwp_blk (stops := [2, 25, 33, 96]) (fuel := 80) pe_168).trans rfl
set_option maxHeartbeats 4000000 in
set_option maxRecDepth 100000 in
theorem fe_168_33 {d : Nat} {K : Kt} {M : Mm} {x1 x2 : Int} {u3 : Option Vl} : zWp (zSp d) 168 K 33 [some (.inr (.inr 154)), some (.inl x1), some (.inl x2), u3] [] M = (zC (zR32 x2) (zC (zR32 (M 159 192)) (((M 159 192) ≤ x2 → zWp (zSp d) 168 K 25 [some (.inr (.inr 154)), some (.inl (x1 + 1)), some (.inl x2), u3] [] M) ∧ (¬ ((M 159 192) ≤ x2) → zC (zSm ((8 * x2) + 0) 194) (zSp d 167 [.inr (.inr 154), .inl x2] M (fun z1 M1 => zC (zSm (M 159 ((8 * x2) + 0)) 6) (zC (zR32 z1) (zC (zR32 (M1 164 (M 159 ((8 * x2) + 0)))) (((M1 164 (M 159 ((8 * x2) + 0))) ≤ z1 → zWp (zSp d) 168 K 33 [some (.inr (.inr 154)), some (.inl x1), some (.inl (x2 + 1)), some (.inl (M 159 ((8 * x2) + 0)))] [] M1) ∧ (¬ ((M1 164 (M 159 ((8 * x2) + 0))) ≤ z1) → zSp d 167 [.inr (.inr 154), .inl x2] M1 (fun z2 M2 => zC (zSm (M 159 ((8 * x2) + 0)) 6) (zWp (zSp d) 168 K 33 [some (.inr (.inr 154)), some (.inl x1), some (.inl (x2 + 1)), some (.inl (M 159 ((8 * x2) + 0)))] [] (zUp M2 164 (M 159 ((8 * x2) + 0)) z2))))))))))))) := (zwp_blk (stops := [2, 25, 33, 96]) (fuel := 80) pe_168).trans rfl
set_option maxHeartbeats 4000000 in
set_option maxRecDepth 100000 in
theorem fe_168_96 {d : Nat} {K : Kt} {M : Mm} {x1 : Int} {u2 u3 : Option Vl} : zWp (zSp d) 168 K 96 [some (.inr (.inr 154)), some (.inl x1), u2, u3] [] M = (zC (zR32 x1) (zC (zR32 (M 159 193)) (((M 159 193) ≤ x1 → K 0 M) ∧ (¬ ((M 159 193) ≤ x1) → zC (zSm x1 6) (zC (zR32 (M 164 x1)) ((¬ (M 164 x1) = 1000000 → zWp (zSp d) 168 K 96 [some (.inr (.inr 154)), some (.inl (x1 + 1)), u2, u3] [] M) ∧ (¬ (¬ (M 164 x1) = 1000000) → zSp d 144 [.inr (.inr 154), .inl 5, .inl (M 154 3)] M (fun _ M1 => zWp (zSp d) 168 K 96 [some (.inr (.inr 154)), some (.inl (x1 + 1)), u2, u3] [] M1)))))))) := (zwp_blk (stops := [2, 25, 33, 96]) (fuel := 80) pe_168).trans rfl
theorem pe_169 : zPg 169 = pg_169 := rfl
/-! 169 LeastFailingModel.grammar -/
set_option maxHeartbeats 4000000 in
set_option maxRecDepth 100000 in
theorem me_169 {d : Nat} {K : Kt} {M : Mm} : zSp (d + 1) 169 [.inr (.inr 154)] M K = (zSp d 142 [.inr (.inr 154)] (zUp M 154 0 0) (fun _ M1 => zWp (zSp d) 169 K 11 [some (.inr (.inr 154)), some (.inl 0)] [] M1)) := (zwp_blk (stops := [11, 42, 63, 74, 85, 112, 138, 192]) (fuel := 152) pe_169).trans rfl
set_option maxHeartbeats 4000000 in
set_option maxRecDepth 100000 in
theorem fe_169_11 {d : Nat} {K : Kt} {M : Mm} {x1 : Int} : zWp (zSp d) 169 K 11 [some (.inr (.inr 154)), some (.inl x1)] [] M = (zC (zR32 x1) ((194 ≤ x1 → zSp d 150 [.inr (.inr 154)] M (fun z1 M1 => zC (zR32 z1) ((z1 = 0 → zWp (zSp d) 169 K 42 [some (.inr (.inr 154)), some (.inl x1)] [] M1) ∧ (¬ (z1 = 0) → zSp d 151 [.inr (.inr 154)] M1 (fun _ M2 => zWp (zSp d) 169 K 42 [some (.inr (.inr 154)), some (.inl x1)] [] M2))))) ∧ (¬ (194 ≤ x1) → zC (zSm x1 194) (zWp (zSp d) 169 K 11 [some (.inr (.inr 154)), some (.inl (x1 + 1))] [] (zUp M 159 x1 0))))) := (zwp_blk (stops := [11, 42, 63, 74, 85, 112, 138, 192]) (fuel := 152) pe_169).trans rfl
set_option maxHeartbeats 4000000 in
set_option maxRecDepth 100000 in
theorem fe_169_42 {d : Nat} {K : Kt} {M : Mm} {x1 : Int} : zWp (zSp d) 169 K 42 [some (.inr (.inr 154)), some (.inl x1)] [] M = (zSp d 143 [.inr (.inr 154)] M (fun z1 M1 => zC (zR32 z1) ((z1 = 0 → zWp (zSp d) 169 K 63 [some (.inr (.inr 154)), some (.inl x1)] [] M1) ∧ (¬ (z1 = 0) → zSp d 150 [.inr (.inr 154)] M1 (fun z2 M2 => zC (zR32 z2) ((¬ z2 = 0 → zWp (zSp d) 169 K 63 [some (.inr (.inr 154)), some (.inl x1)] [] M2) ∧ (¬ (¬ z2 = 0) → zSp d 166 [.inr (.inr 154)] M2 (fun _ M3 => zWp (zSp d) 169 K 42 [some (.inr (.inr 154)), some (.inl x1)] [] M3)))))))) := (zwp_blk (stops := [11, 42, 63, 74, 85, 112, 138, 192]) (fuel := 152) pe_169).trans rfl
set_option maxHeartbeats 4000000 in
set_option maxRecDepth 100000 in
theorem fe_169_63 {d : Nat} {K : Kt} {M : Mm} {x1 : Int} : zWp (zSp d) 169 K 63 [some (.inr (.inr 154)), some (.inl x1)] [] M = (zSp d 143 [.inr (.inr 154)] M (fun z1 M1 => zC (zR32 z1) ((z1 = 0 → zWp (zSp d) 169 K 74 [some (.inr (.inr 154)), some (.inl x1)] [] M1) ∧ (¬ (z1 = 0) → zSp d 168 [.inr (.inr 154)] M1 (fun _ M2 => zWp (zSp d) 169 K 74 [some (.inr (.inr 154)), some (.inl x1)] [] M2))))) := (zwp_blk (stops := [11, 42, 63, 74, 85, 112, 138, 192]) (fuel := 152) pe_169).trans rfl
set_option maxHeartbeats 4000000 in
set_option maxRecDepth 100000 in
theorem fe_169_74 {d : Nat} {K : Kt} {M : Mm} {x1 : Int} : zWp (zSp d) 169 K 74 [some (.inr (.inr 154)), some (.inl x1)] [] M = (zSp d 145 [.inr (.inr 154)] M (fun z1 M1 => zC (zR32 z1) ((¬ z1 = 0 → zWp (zSp d) 169 K 85 [some (.inr (.inr 154)), some (.inl 0)] [] M1) ∧ (¬ (¬ z1 = 0) → K (-1) M1)))) := (zwp_blk (stops := [11, 42, 63, 74, 85, 112, 138, 192]) (fuel := 152) pe_169).trans rfl
set_option maxHeartbeats 4000000 in
set_option maxRecDepth 100000 in
theorem fe_169_85 {d : Nat} {K : Kt} {M : Mm} {x1 : Int} : zWp (zSp d) 169 K 85 [some (.inr (.inr 154)), some (.inl x1)] [] M = (zC (zR32 x1) ((194 ≤ x1 → zWp (zSp d) 169 K 112 [some (.inr (.inr 154)), some (.inl 0)] [] M) ∧ (¬ (194 ≤ x1) → zC (zSm x1 194) (zC (zSm x1 194) (zWp (zSp d) 169 K 85 [some (.inr (.inr 154)), some (.inl (x1 + 1))] [] (zUp M 156 x1 (M 159 x1))))))) := (zwp_blk (stops := [11, 42, 63, 74, 85, 112, 138, 192]) (fuel := 152) pe_169).trans rfl
set_option maxHeartbeats 4000000 in
set_option maxRecDepth 100000 in
theorem fe_169_112 {d : Nat} {K : Kt} {M : Mm} {x1 : Int} : zWp (zSp d) 169 K 112 [some (.inr (.inr 154)), some (.inl x1)] [] M = (zC (zR32 x1) ((24 ≤ x1 → zWp (zSp d) 169 K 138 [some (.inr (.inr 154)), some (.inl 0)] [] M) ∧ (¬ (24 ≤ x1) → zC (zSm x1 24) (zC (zSm x1 24) (zWp (zSp d) 169 K 112 [some (.inr (.inr 154)), some (.inl (x1 + 1))] [] (zUp M 157 x1 (M 160 x1))))))) := (zwp_blk (stops := [11, 42, 63, 74, 85, 112, 138, 192]) (fuel := 152) pe_169).trans rfl
set_option maxHeartbeats 4000000 in
set_option maxRecDepth 100000 in
theorem fe_169_138 {d : Nat} {K : Kt} {M : Mm} {x1 : Int} : zWp (zSp d) 169 K 138 [some (.inr (.inr 154)), some (.inl x1)] [] M = (zC (zR32 x1) ((6 ≤ x1 → zWp (zSp d) 169 K 192 [some (.inr (.inr 154)), some (.inl ((M 156 192) - 1))] [] M) ∧ (¬ (6 ≤ x1) → zC (zSm x1 6) (zC (zSm x1 6) (zC (zSm x1 6) (zC (zSm x1 6) (zC (zSm x1 6) (zWp (zSp d) 169 K 138 [some (.inr (.inr 154)), some (.inl (x1 + 1))] [] (zUp (zUp (zUp M 158 x1 (M 161 x1)) 162 x1 (M 164 x1)) 163 x1 (-1)))))))))) := (zwp_blk (stops := [11, 42, 63, 74, 85, 112, 138, 192]) (fuel := 152) pe_169).trans rfl
set_option maxHeartbeats 4000000 in
set_option maxRecDepth 100000 in
theorem fe_169_192 {d : Nat} {K : Kt} {M : Mm} {x1 : Int} : zWp (zSp d) 169 K 192 [some (.inr (.inr 154)), some (.inl x1)] [] M = (zC (zR32 x1) ((x1 < 0 → zSp d 209 [.inr (.inr 154)] (zUp (zUp (zUp M 165 0 0) 154 37 0) 154 24 0) (fun _ M1 => K (M1 156 192) M1)) ∧ (¬ (x1 < 0) → zSp d 167 [.inr (.inr 154), .inl x1] M (fun z2 M2 => zSp d 170 [.inr (.inr 154), .inl x1, .inl 0] M2 (fun z3 M3 => zC (zSm z3 6) (zC (zR32 z2) (zC (zR32 (M3 162 z3)) ((¬ z2 = (M3 162 z3) → zWp (zSp d) 169 K 192 [some (.inr (.inr 154)), some (.inl (x1 + (-1)))] [] M3) ∧ (¬ (¬ z2 = (M3 162 z3)) → zSp d 170 [.inr (.inr 154), .inl x1, .inl 0] M3 (fun z4 M4 => zC (zSm z4 6) (zWp (zSp d) 169 K 192 [some (.inr (.inr 154)), some (.inl (x1 + (-1)))] [] (zUp M4 163 z4 x1)))))))))))) := (zwp_blk (stops := [11, 42, 63, 74, 85, 112, 138, 192]) (fuel := 152) pe_169).trans rfl
theorem pe_170 : zPg 170 = pg_170 := rfl
/-! 170 LeastFailingModel.ofLine -/
set_option maxHeartbeats 4000000 in
set_option maxRecDepth 100000 in
theorem me_170 {d : Nat} {K : Kt} {M : Mm} {a1 a2 : Int} : zSp (d + 1) 170 [.inr (.inr 154), .inl a1, .inl a2] M K = (zC (zSm ((8 * a1) + a2) 194) (K (M 156 ((8 * a1) + a2)) M)) := (zwp_blk (stops := []) (fuel := 14) pe_170).trans rfl
theorem pe_171 : zPg 171 = pg_171 := rfl
/-! 171 LeastFailingModel.lineOf -/
set_option maxHeartbeats 4000000 in
set_option maxRecDepth 100000 in
theorem me_171 {d : Nat} {K : Kt} {M : Mm} {a1 : Int} : zSp (d + 1) 171 [.inr (.inr 154), .inr (.inl a1)] M K = (zWp (zSp d) 171 K 2 [some (.inr (.inr 154)), some (.inr (.inl a1)), none, some (.inl 0)] [] M) := (zwp_blk (stops := [2]) (fuel := 26) pe_171).trans rfl
set_option maxHeartbeats 4000000 in
set_option maxRecDepth 100000 in
theorem fe_171_2 {d : Nat} {K : Kt} {M : Mm} {x1 x3 : Int} : zWp (zSp d) 171 K 2 [some (.inr (.inr 154)), some (.inr (.inl x1)), none, some (.inl x3)] [] M = (zC (zR32 x3) (zC (zR32 (M 156 192)) (((M 156 192) ≤ x3 → K (-1) M) ∧ (¬ ((M 156 192) ≤ x3) → zC (zSm x3 24) (zC (zR64 (M 157 x3)) (zC (zR64 x1) (zC (zR32 (zLcmp (M 157 x3) x1)) ((¬ (zLcmp (M 157 x3) x1) = 0 → zWp (zSp d) 171 K 2 [some (.inr (.inr 154)), some (.inr (.inl x1)), none, some (.inl (x3 + 1))] [] M) ∧ (¬ (¬ (zLcmp (M 157 x3) x1) = 0) → K x3 M))))))))) := (zwp_blk (stops := [2]) (fuel := 26) pe_171).trans rfl
theorem pe_172 : zPg 172 = pg_172 := rfl
/-! 172 LeastFailingModel.fixed -/
set_option maxHeartbeats 4000000 in
set_option maxRecDepth 100000 in
theorem me_172 {d : Nat} {K : Kt} {M : Mm} {a1 : Int} : zSp (d + 1) 172 [.inr (.inr 154), .inl a1] M K = (zSp d 170 [.inr (.inr 154), .inl a1, .inl 2] M (fun z1 M1 => zSp d 170 [.inr (.inr 154), .inl a1, .inl 3] M1 (fun z2 M2 => K (z1 - z2) M2))) := (zwp_blk (stops := []) (fuel := 15) pe_172).trans rfl
theorem pe_173 : zPg 173 = pg_173 := rfl
/-! 173 LeastFailingModel.sortOfPart -/
set_option maxHeartbeats 4000000 in
set_option maxRecDepth 100000 in
theorem me_173 {d : Nat} {K : Kt} {M : Mm} {a1 a2 : Int} : zSp (d + 1) 173 [.inr (.inr 154), .inl a1, .inl a2] M K = (zSp d 172 [.inr (.inr 154), .inl a1] M (fun z1 M1 => zC (zR32 a2) (zC (zR32 z1) ((z1 ≤ a2 → zSp d 170 [.inr (.inr 154), .inl a1, .inl 3] M1 (fun z2 M2 => zC (zR32 z2) ((¬ z2 = 1 → K (-1) M2) ∧ (¬ (¬ z2 = 1) → zSp d 170 [.inr (.inr 154), .inl a1, .inl 2] M2 (fun z3 M3 => zSp d 170 [.inr (.inr 154), .inl a1, .inl ((4 + z3) - 1)] M3 (fun z4 M4 => K z4 M4)))))) ∧ (¬ (z1 ≤ a2) → zSp d 170 [.inr (.inr 154), .inl a1, .inl (4 + a2)] M1 (fun z5 M5 => K z5 M5)))))) := (zwp_blk (stops := []) (fuel := 37) pe_173).trans rfl
theorem pe_174 : zPg 174 = pg_174 := rfl
/-! 174 LeastFailingModel.many -/
set_option maxHeartbeats 4000000 in
set_option maxRecDepth 100000 in
theorem me_174 {d : Nat} {K : Kt} {M : Mm} {a1 : Int} : zSp (d + 1) 174 [.inr (.inr 154), .inl a1] M K = (zC (zSm a1 2093) (K (M 165 a1) M)) := (zwp_blk (stops := []) (fuel := 10) pe_174).trans rfl
theorem pe_175 : zPg 175 = pg_175 := rfl
/-! 175 LeastFailingModel.nameOf -/
set_option maxHeartbeats 4000000 in
set_option maxRecDepth 100000 in
theorem me_175 {d : Nat} {K : Kt} {M : Mm} {a1 a2 : Int} : zSp (d + 1) 175 [.inr (.inr 154), .inl a1, .inl a2] M K = (zC (zSm ((a1 + 1) + a2) 2093) (K (M 165 ((a1 + 1) + a2)) M)) := (zwp_blk (stops := []) (fuel := 14) pe_175).trans rfl
theorem pe_176 : zPg 176 = pg_176 := rfl
/-! 176 LeastFailingModel.sizeOf -/
set_option maxHeartbeats 4000000 in
set_option maxRecDepth 100000 in
theorem me_176 {d : Nat} {K : Kt} {M : Mm} {a1 a2 : Int} : zSp (d + 1) 176 [.inr (.inr 154), .inl a1, .inl a2] M K = (zC (zSm ((a1 + 81) + a2) 2093) (K (M 165 ((a1 + 81) + a2)) M)) := (zwp_blk (stops := []) (fuel := 14) pe_176).trans rfl
theorem pe_177 : zPg 177 = pg_177 := rfl
/-! 177 LeastFailingModel.copies -/
set_option maxHeartbeats 4000000 in
set_option maxRecDepth 100000 in
theorem me_177 {d : Nat} {K : Kt} {M : Mm} {a1 a2 : Int} : zSp (d + 1) 177 [.inr (.inr 154), .inl a1, .inl a2] M K = (zWp (zSp d) 177 K 2 [some (.inr (.inr 154)), some (.inl a1), some (.inl a2), some (.inl 0)] [] M) := (zwp_blk (stops := [2]) (fuel := 25) pe_177).trans rfl
set_option maxHeartbeats 4000000 in
set_option maxRecDepth 100000 in
theorem fe_177_2 {d : Nat} {K : Kt} {M : Mm} {x1 x2 x3 : Int} : zWp (zSp d) 177 K 2 [some (.inr (.inr 154)), some (.inl x1), some (.inl x2), some (.inl x3)] [] M = (zC (zR32 x3) ((161 ≤ x3 → K 0 M) ∧ (¬ (161 ≤ x3) → zC (zSm (x2 + x3) 2093) (zC (zSm (x1 + x3) 2093) (zWp (zSp d) 177 K 2 [some (.inr (.inr 154)), some (.inl x1), some (.inl x2), some (.inl (x3 + 1))] [] (zUp M 165 (x1 + x3) (M 165 (x2 + x3)))))))) := (zwp_blk (stops := [2]) (fuel := 25) pe_177).trans rfl
theorem pe_178 : zPg 178 = pg_178 := rfl
/-! 178 LeastFailingModel.adds -/
set_option maxHeartbeats 4000000 in
set_option maxRecDepth 100000 in
theorem me_178 {d : Nat} {K : Kt} {M : Mm} {a1 a2 : Int} : zSp (d + 1) 178 [.inr (.inr 154), .inl a1, .inl a2] M K = (zC (zSm a1 2093) (zC (zSm ((a1 + 1) + (M 165 a1)) 2093) (zC (zSm ((a1 + 81) + (M 165 a1)) 2093) (zC (zSm a1 2093) (zC (zSm a1 2093) (K (M 165 a1) (zUp (zUp (zUp M 165 ((a1 + 1) + (M 165 a1)) a2) 165 ((a1 + 81) + (M 165 a1)) 1) 165 a1 (((zUp (zUp M 165 ((a1 + 1) + (M 165 a1)) a2) 165 ((a1 + 81) + (M 165 a1)) 1) 165 a1) + 1)))))))) := (zwp_blk (stops := []) (fuel := 38) pe_178).trans rfl
theorem pe_179 : zPg 179 = pg_179 := rfl
/-! 179 LeastFailingModel.stands -/
set_option maxHeartbeats 4000000 in
set_option maxRecDepth 100000 in
theorem me_179 {d : Nat} {K : Kt} {M : Mm} {a1 a2 a3 : Int} : zSp (d + 1) 179 [.inr (.inr 154), .inl a1, .inl a2, .inl a3] M K = (zSp d 170 [.inr (.inr 154), .inl a1, .inl 1] M (fun z1 M1 => zC (zR32 z1) ((¬ z1 = 1 → zWp (zSp d) 179 K 15 [some (.inr (.inr 154)), some (.inl a1), some (.inl a2), some (.inl a3), none, none] [.inl 0] M1) ∧ (¬ (¬ z1 = 1) → zWp (zSp d) 179 K 15 [some (.inr (.inr 154)), some (.inl a1), some (.inl a2), some (.inl a3), none, none] [.inl 1] M1)))) := (zwp_blk (stops := [15, 61, 80]) (fuel := 54) pe_179).trans rfl
set_option maxHeartbeats 4000000 in
set_option maxRecDepth 100000 in
theorem fe_179_15 {d : Nat} {K : Kt} {M : Mm} {x1 x2 x3 y0 : Int} : zWp (zSp d) 179 K 15 [some (.inr (.inr 154)), some (.inl x1), some (.inl x2), some (.inl x3), none, none] [.inl y0] M = (zC (zR32 (M 154 28)) ((¬ (M 154 28) = 0 → zC (zSm ((M 154 28) - 1) 16) (zSp d 175 [.inr (.inr 154), .inl 322, .inl (M 166 ((M 154 28) - 1))] M (fun z1 M1 => zC (zSm ((M1 154 28) - 1) 16) (zSp d 173 [.inr (.inr 154), .inl z1, .inl (M1 167 ((M1 154 28) - 1))] M1 (fun z2 M2 => zWp (zSp d) 179 K 61 [some (.inr (.inr 154)), some (.inl x1), some (.inl x2), some (.inl x3), some (.inl y0), none] [.inl z2] M2))))) ∧ (¬ (¬ (M 154 28) = 0) → zWp (zSp d) 179 K 61 [some (.inr (.inr 154)), some (.inl x1), some (.inl x2), some (.inl x3), some (.inl y0), none] [.inl 0] M))) := (zwp_blk (stops := [15, 61, 80]) (fuel := 54) pe_179).trans rfl
set_option maxHeartbeats 4000000 in
set_option maxRecDepth 100000 in
theorem fe_179_61 {d : Nat} {K : Kt} {M : Mm} {x1 x2 x3 x4 y0 : Int} : zWp (zSp d) 179 K 61 [some (.inr (.inr 154)), some (.inl x1), some (.inl x2), some (.inl x3), some (.inl x4), none] [.inl y0] M = (zC (zR32 x4) (zC (zR32 x2) ((¬ x4 = x2 → zWp (zSp d) 179 K 80 [some (.inr (.inr 154)), some (.inl x1), some (.inl x2), some (.inl x3), some (.inl x4), some (.inl y0)] [] M) ∧ (¬ (¬ x4 = x2) → zSp d 170 [.inr (.inr 154), .inl x1, .inl 0] M (fun z1 M1 => zC (zR32 y0) (zC (zR32 z1) ((y0 = z1 → K 0 M1) ∧ (¬ (y0 = z1) → zWp (zSp d) 179 K 80 [some (.inr (.inr 154)), some (.inl x1), some (.inl x2), some (.inl x3), some (.inl x4), some (.inl y0)] [] M1)))))))) := (zwp_blk (stops := [15, 61, 80]) (fuel := 54) pe_179).trans rfl
set_option maxHeartbeats 4000000 in
set_option maxRecDepth 100000 in
theorem fe_179_80 {d : Nat} {K : Kt} {M : Mm} {x1 x2 x3 x4 x5 : Int} : zWp (zSp d) 179 K 80 [some (.inr (.inr 154)), some (.inl x1), some (.inl x2), some (.inl x3), some (.inl x4), some (.inl x5)] [] M = (zSp d 144 [.inr (.inr 154), .inl 5, .inl x3] M (fun _ M1 => K 0 M1)) := (zwp_blk (stops := [15, 61, 80]) (fuel := 54) pe_179).trans rfl
end
section
theorem pe_180 : zPg 180 = pg_180 := rfl
/-! 180 LeastFailingModel.treeGoesOn -/
set_option maxHeartbeats 4000000 in
set_option maxRecDepth 100000 in
theorem me_180 {d : Nat} {K : Kt} {M : Mm} : zSp (d + 1) 180 [.inr (.inr 154)] M K = (zSp d 152 [.inr (.inr 154), .inl 40] M (fun z1 M1 => zC (zR32 z1) ((z1 = 0 → zWp (zSp d) 180 K 51 [some (.inr (.inr 154)), some (.inl z1), none, none, none, none] [] M1) ∧ (¬ (z1 = 0) → zC (zR32 (M1 154 28)) (((M1 154 28) = 12 → zWp (zSp d) 180 K 32 [some (.inr (.inr 154)), some (.inl z1), none, none, none, none] [] M1) ∧ (¬ ((M1 154 28) = 12) → zSp d 174 [.inr (.inr 154), .inl 322] M1 (fun z2 M2 => zC (zR32 z2) ((¬ z2 = 80 → zWp (zSp d) 180 K 41 [some (.inr (.inr 154)), some (.inl z1), none, none, none, none] [] M2) ∧ (¬ (¬ z2 = 80) → zWp (zSp d) 180 K 32 [some (.inr (.inr 154)), some (.inl z1), none, none, none, none] [] M2))))))))) := (zwp_blk (stops := [32, 41, 51, 72, 96, 124, 142, 172]) (fuel := 121) pe_180).trans rfl
set_option maxHeartbeats 4000000 in
set_option maxRecDepth 100000 in
theorem fe_180_32 {d : Nat} {K : Kt} {M : Mm} {x1 : Int} : zWp (zSp d) 180 K 32 [some (.inr (.inr 154)), some (.inl x1), none, none, none, none] [] M = (zSp d 149 [.inr (.inr 154)] M (fun z1 M1 => zSp d 144 [.inr (.inr 154), .inl 4, .inl z1] M1 (fun _ M2 => zWp (zSp d) 180 K 41 [some (.inr (.inr 154)), some (.inl x1), none, none, none, none] [] M2))) := (zwp_blk (stops := [32, 41, 51, 72, 96, 124, 142, 172]) (fuel := 121) pe_180).trans rfl
set_option maxHeartbeats 4000000 in
set_option maxRecDepth 100000 in
theorem fe_180_41 {d : Nat} {K : Kt} {M : Mm} {x1 : Int} : zWp (zSp d) 180 K 41 [some (.inr (.inr 154)), some (.inl x1), none, none, none, none] [] M = (zWp (zSp d) 180 K 51 [some (.inr (.inr 154)), some (.inl x1), none, none, none, none] [] (zUp M 154 4 ((M 154 4) + 1))) := (zwp_blk (stops := [32, 41, 51, 72, 96, 124, 142, 172]) (fuel := 121) pe_180).trans rfl
set_option maxHeartbeats 4000000 in
set_option maxRecDepth 100000 in
theorem fe_180_51 {d : Nat} {K : Kt} {M : Mm} {x1 : Int} : zWp (zSp d) 180 K 51 [some (.inr (.inr 154)), some (.inl x1), none, none, none, none] [] M = (zSp d 162 [.inr (.inr 154)] M (fun z1 M1 => zSp d 143 [.inr (.inr 154)] M1 (fun z2 M2 => zC (zR32 z2) ((z2 = 0 → zWp (zSp d) 180 K 72 [some (.inr (.inr 154)), some (.inl x1), some (.inr (.inl z1)), none, none, none] [.inl 0] M2) ∧ (¬ (z2 = 0) → zSp d 171 [.inr (.inr 154), .inr (.inl z1)] M2 (fun z3 M3 => zWp (zSp d) 180 K 72 [some (.inr (.inr 154)), some (.inl x1), some (.inr (.inl z1)), none, none, none] [.inl z3] M3)))))) := (zwp_blk (stops := [32, 41, 51, 72, 96, 124, 142, 172]) (fuel := 121) pe_180).trans rfl
set_option maxHeartbeats 4000000 in
set_option maxRecDepth 100000 in
theorem fe_180_72 {d : Nat} {K : Kt} {M : Mm} {x1 x2 y0 : Int} : zWp (zSp d) 180 K 72 [some (.inr (.inr 154)), some (.inl x1), some (.inr (.inl x2)), none, none, none] [.inl y0] M = (zSp d 143 [.inr (.inr 154)] M (fun z1 M1 => zC (zR32 z1) ((z1 = 0 → zWp (zSp d) 180 K 96 [some (.inr (.inr 154)), some (.inl x1), some (.inr (.inl x2)), none, some (.inl y0), none] [] M1) ∧ (¬ (z1 = 0) → zC (zR32 y0) ((¬ y0 = (-1) → zWp (zSp d) 180 K 96 [some (.inr (.inr 154)), some (.inl x1), some (.inr (.inl x2)), none, some (.inl y0), none] [] M1) ∧ (¬ (¬ y0 = (-1)) → zSp d 144 [.inr (.inr 154), .inl 3, .inl (M1 154 12)] M1 (fun _ M2 => zWp (zSp d) 180 K 96 [some (.inr (.inr 154)), some (.inl x1), some (.inr (.inl x2)), none, some (.inl y0), none] [] M2))))))) := (zwp_blk (stops := [32, 41, 51, 72, 96, 124, 142, 172]) (fuel := 121) pe_180).trans rfl
set_option maxHeartbeats 4000000 in
set_option maxRecDepth 100000 in
theorem fe_180_96 {d : Nat} {K : Kt} {M : Mm} {x1 x2 x4 : Int} : zWp (zSp d) 180 K 96 [some (.inr (.inr 154)), some (.inl x1), some (.inr (.inl x2)), none, some (.inl x4), none] [] M = (zSp d 143 [.inr (.inr 154)] M (fun z1 M1 => zC (zR32 z1) ((z1 = 0 → zWp (zSp d) 180 K 124 [some (.inr (.inr 154)), some (.inl x1), some (.inr (.inl x2)), none, some (.inl x4), none] [] M1) ∧ (¬ (z1 = 0) → zSp d 174 [.inr (.inr 154), .inl 322] M1 (fun z2 M2 => zC (zR32 z2) ((¬ z2 = 80 → zWp (zSp d) 180 K 124 [some (.inr (.inr 154)), some (.inl x1), some (.inr (.inl x2)), none, some (.inl x4), none] [] M2) ∧ (¬ (¬ z2 = 80) → zSp d 144 [.inr (.inr 154), .inl 4, .inl (M2 154 12)] M2 (fun _ M3 => zWp (zSp d) 180 K 124 [some (.inr (.inr 154)), some (.inl x1), some (.inr (.inl x2)), none, some (.inl x4), none] [] M3)))))))) := (zwp_blk (stops := [32, 41, 51, 72, 96, 124, 142, 172]) (fuel := 121) pe_180).trans rfl
set_option maxHeartbeats 4000000 in
set_option maxRecDepth 100000 in
theorem fe_180_124 {d : Nat} {K : Kt} {M : Mm} {x1 x2 x4 : Int} : zWp (zSp d) 180 K 124 [some (.inr (.inr 154)), some (.inl x1), some (.inr (.inl x2)), none, some (.inl x4), none] [] M = (zSp d 143 [.inr (.inr 154)] M (fun z1 M1 => zC (zR32 z1) ((z1 = 0 → zWp (zSp d) 180 K 142 [some (.inr (.inr 154)), some (.inl x1), some (.inr (.inl x2)), none, some (.inl x4), none] [] M1) ∧ (¬ (z1 = 0) → zSp d 179 [.inr (.inr 154), .inl x4, .inl x1, .inl (M1 154 12)] M1 (fun _ M2 => zWp (zSp d) 180 K 142 [some (.inr (.inr 154)), some (.inl x1), some (.inr (.inl x2)), none, some (.inl x4), none] [] M2))))) := (zwp_blk (stops := [32, 41, 51, 72, 96, 124, 142, 172]) (fuel := 121) pe_180).trans rfl
set_option maxHeartbeats 4000000 in
set_option maxRecDepth 100000 in
theorem fe_180_142 {d : Nat} {K : Kt} {M : Mm} {x1 x2 x4 : Int} : zWp (zSp d) 180 K 142 [some (.inr (.inr 154)), some (.inl x1), some (.inr (.inl x2)), none, some (.inl x4), none] [] M = (zSp d 143 [.inr (.inr 154)] M (fun z1 M1 => zC (zR32 z1) ((¬ z1 = 0 → zC (zR32 (M1 154 28)) (((M1 154 28) ≤ 0 → zWp (zSp d) 180 K 172 [some (.inr (.inr 154)), some (.inl x1), some (.inr (.inl x2)), none, some (.inl x4), none] [] M1) ∧ (¬ ((M1 154 28) ≤ 0) → zC (zSm ((M1 154 28) - 1) 16) (zC (zSm ((M1 154 28) - 1) 16) (zWp (zSp d) 180 K 172 [some (.inr (.inr 154)), some (.inl x1), some (.inr (.inl x2)), none, some (.inl x4), none] [] (zUp M1 167 ((M1 154 28) - 1) ((M1 167 ((M1 154 28) - 1)) + 1))))))) ∧ (¬ (¬ z1 = 0) → K 0 M1)))) := (zwp_blk (stops := [32, 41, 51, 72, 96, 124, 142, 172]) (fuel := 121) pe_180).trans rfl
set_option maxHeartbeats 4000000 in
set_option maxRecDepth 100000 in
theorem fe_180_172 {d : Nat} {K : Kt} {M : Mm} {x1 x2 x4 : Int} : zWp (zSp d) 180 K 172 [some (.inr (.inr 154)), some (.inl x1), some (.inr (.inl x2)), none, some (.inl x4), none] [] M = (zSp d 178 [.inr (.inr 154), .inl 322, .inl x4] M (fun z1 M1 => zC (zR32 x1) ((¬ x1 = 0 → zC (zSm (M1 154 28) 16) (zC (zSm (M1 154 28) 16) (K 0 (zUp (zUp (zUp M1 166 (M1 154 28) z1) 167 (M1 154 28) 0) 154 28 ((M1 154 28) + 1))))) ∧ (¬ (¬ x1 = 0) → K 0 M1)))) := (zwp_blk (stops := [32, 41, 51, 72, 96, 124, 142, 172]) (fuel := 121) pe_180).trans rfl
theorem pe_181 : zPg 181 = pg_181 := rfl
/-! 181 LeastFailingModel.treeCloses -/
set_option maxHeartbeats 4000000 in
set_option maxRecDepth 100000 in
theorem me_181 {d : Nat} {K : Kt} {M : Mm} : zSp (d + 1) 181 [.inr (.inr 154)] M K = (zC (zSm ((M 154 28) - 1) 16) (zSp d 175 [.inr (.inr 154), .inl 322, .inl (M 166 ((M 154 28) - 1))] M (fun z1 M1 => zC (zSm ((M1 154 28) - 1) 16) (zSp d 172 [.inr (.inr 154), .inl z1] M1 (fun z2 M2 => zC (zR32 (M1 167 ((M1 154 28) - 1))) (zC (zR32 z2) ((z2 ≤ (M1 167 ((M1 154 28) - 1)) → zWp (zSp d) 181 K 47 [some (.inr (.inr 154)), some (.inl z1)] [] M2) ∧ (¬ (z2 ≤ (M1 167 ((M1 154 28) - 1))) → zSp d 149 [.inr (.inr 154)] M2 (fun z3 M3 => zSp d 144 [.inr (.inr 154), .inl 5, .inl z3] M3 (fun _ M4 => zWp (zSp d) 181 K 47 [some (.inr (.inr 154)), some (.inl z1)] [] M4)))))))))) := (zwp_blk (stops := [47]) (fuel := 63) pe_181).trans rfl
set_option maxHeartbeats 4000000 in
set_option maxRecDepth 100000 in
theorem fe_181_47 {d : Nat} {K : Kt} {M : Mm} {x1 : Int} : zWp (zSp d) 181 K 47 [some (.inr (.inr 154)), some (.inl x1)] [] M = (zSp d 153 [.inr (.inr 154), .inl 41] M (fun z1 M1 => zC (zR32 z1) ((¬ z1 = 0 → zC (zSm ((M1 154 28) - 1) 16) (zSp d 174 [.inr (.inr 154), .inl 322] (zUp M1 154 28 ((M1 154 28) - 1)) (fun z2 M2 => zC (zSm (M2 154 28) 16) (zC (zSm (403 + (M1 166 ((M1 154 28) - 1))) 2093) (K 0 (zUp M2 165 (403 + (M1 166 ((M1 154 28) - 1))) (z2 - (M2 166 (M2 154 28))))))))) ∧ (¬ (¬ z1 = 0) → K 0 M1)))) := (zwp_blk (stops := [47]) (fuel := 63) pe_181).trans rfl
theorem pe_182 : zPg 182 = pg_182 := rfl
/-! 182 LeastFailingModel.input -/
set_option maxHeartbeats 4000000 in
set_option maxRecDepth 100000 in
theorem me_182 {d : Nat} {K : Kt} {M : Mm} : zSp (d + 1) 182 [.inr (.inr 154)] M K = (zC (zR32 (M 156 192)) ((¬ (M 156 192) = 0 → zSp d 142 [.inr (.inr 154)] (zUp M 154 0 0) (fun _ M1 => zWp (zSp d) 182 K 42 [some (.inr (.inr 154))] [] (zUp (zUp M1 165 322 0) 154 28 0))) ∧ (¬ (¬ (M 156 192) = 0) → K (-3) (zUp (zUp M 154 0 0) 154 2 0)))) := (zwp_blk (stops := [42, 65, 69, 83, 101]) (fuel := 71) pe_182).trans rfl
set_option maxHeartbeats 4000000 in
set_option maxRecDepth 100000 in
theorem fe_182_42 {d : Nat} {K : Kt} {M : Mm} : zWp (zSp d) 182 K 42 [some (.inr (.inr 154))] [] M = (zC (zR32 (M 154 28)) (((M 154 28) ≤ 0 → zWp (zSp d) 182 K 65 [some (.inr (.inr 154))] [] M) ∧ (¬ ((M 154 28) ≤ 0) → zSp d 152 [.inr (.inr 154), .inl 41] M (fun z1 M1 => zC (zR32 z1) ((z1 = 0 → zWp (zSp d) 182 K 65 [some (.inr (.inr 154))] [] M1) ∧ (¬ (z1 = 0) → zSp d 181 [.inr (.inr 154)] M1 (fun _ M2 => zWp (zSp d) 182 K 69 [some (.inr (.inr 154))] [] M2))))))) := (zwp_blk (stops := [42, 65, 69, 83, 101]) (fuel := 71) pe_182).trans rfl
set_option maxHeartbeats 4000000 in
set_option maxRecDepth 100000 in
theorem fe_182_65 {d : Nat} {K : Kt} {M : Mm} : zWp (zSp d) 182 K 65 [some (.inr (.inr 154))] [] M = (zSp d 180 [.inr (.inr 154)] M (fun _ M1 => zWp (zSp d) 182 K 69 [some (.inr (.inr 154))] [] M1)) := (zwp_blk (stops := [42, 65, 69, 83, 101]) (fuel := 71) pe_182).trans rfl
set_option maxHeartbeats 4000000 in
set_option maxRecDepth 100000 in
theorem fe_182_69 {d : Nat} {K : Kt} {M : Mm} : zWp (zSp d) 182 K 69 [some (.inr (.inr 154))] [] M = (zSp d 143 [.inr (.inr 154)] M (fun z1 M1 => zC (zR32 z1) ((z1 = 0 → zWp (zSp d) 182 K 83 [some (.inr (.inr 154))] [] M1) ∧ (¬ (z1 = 0) → zC (zR32 (M1 154 28)) ((0 < (M1 154 28) → zWp (zSp d) 182 K 42 [some (.inr (.inr 154))] [] M1) ∧ (¬ (0 < (M1 154 28)) → zWp (zSp d) 182 K 83 [some (.inr (.inr 154))] [] M1)))))) := (zwp_blk (stops := [42, 65, 69, 83, 101]) (fuel := 71) pe_182).trans rfl
set_option maxHeartbeats 4000000 in
set_option maxRecDepth 100000 in
theorem fe_182_83 {d : Nat} {K : Kt} {M : Mm} : zWp (zSp d) 182 K 83 [some (.inr (.inr 154))] [] M = (zSp d 143 [.inr (.inr 154)] M (fun z1 M1 => zC (zR32 z1) ((z1 = 0 → zWp (zSp d) 182 K 101 [some (.inr (.inr 154))] [] M1) ∧ (¬ (z1 = 0) → zSp d 150 [.inr (.inr 154)] M1 (fun z2 M2 => zC (zR32 z2) ((¬ z2 = 0 → zWp (zSp d) 182 K 101 [some (.inr (.inr 154))] [] M2) ∧ (¬ (¬ z2 = 0) → zSp d 151 [.inr (.inr 154)] M2 (fun _ M3 => zWp (zSp d) 182 K 101 [some (.inr (.inr 154))] [] M3)))))))) := (zwp_blk (stops := [42, 65, 69, 83, 101]) (fuel := 71) pe_182).trans rfl
set_option maxHeartbeats 4000000 in
set_option maxRecDepth 100000 in
theorem fe_182_101 {d : Nat} {K : Kt} {M : Mm} : zWp (zSp d) 182 K 101 [some (.inr (.inr 154))] [] M = (zSp d 145 [.inr (.inr 154)] M (fun z1 M1 => zC (zR32 z1) ((¬ z1 = 0 → zSp d 183 [.inr (.inr 154)] M1 (fun _ M2 => zSp d 177 [.inr (.inr 154), .inl 0, .inl 322] M2 (fun _ M3 => zSp d 209 [.inr (.inr 154)] M3 (fun _ M4 => zSp d 174 [.inr (.inr 154), .inl 0] M4 (fun z5 M5 => K z5 M5))))) ∧ (¬ (¬ z1 = 0) → K (-1) M1)))) := (zwp_blk (stops := [42, 65, 69, 83, 101]) (fuel := 71) pe_182).trans rfl
theorem pe_183 : zPg 183 = pg_183 := rfl
/-! 183 LeastFailingModel.keeps -/
set_option maxHeartbeats 4000000 in
set_option maxRecDepth 100000 in
theorem me_183 {d : Nat} {K : Kt} {M : Mm} : zSp (d + 1) 183 [.inr (.inr 154)] M K = (zC (zR32 ((M 154 25) + 1)) (zC (zDv ((M 154 25) + 1) 10) (zC (zR32 (M 154 24)) ((¬ (M 154 24) = 10 → zWp (zSp d) 183 K 34 [some (.inr (.inr 154))] [.inl ((M 154 24) + 1), .inr (.inr 154)] (zUp M 154 25 (((M 154 25) + 1) % 10))) ∧ (¬ (¬ (M 154 24) = 10) → zWp (zSp d) 183 K 34 [some (.inr (.inr 154))] [.inl 10, .inr (.inr 154)] (zUp M 154 25 (((M 154 25) + 1) % 10))))))) := (zwp_blk (stops := [34]) (fuel := 35) pe_183).trans rfl
set_option maxHeartbeats 4000000 in
set_option maxRecDepth 100000 in
theorem fe_183_34 {d : Nat} {K : Kt} {M : Mm} {y1 : Int} : zWp (zSp d) 183 K 34 [some (.inr (.inr 154))] [.inl y1, .inr (.inr 154)] M = (zSp d 177 [.inr (.inr 154), .inl (483 + (161 * (M 154 25))), .inl 0] (zUp M 154 24 y1) (fun _ M1 => K 0 M1)) := (zwp_blk (stops := [34]) (fuel := 35) pe_183).trans rfl
theorem pe_184 : zPg 184 = pg_184 := rfl
/-! 184 LeastFailingModel.undo -/
set_option maxHeartbeats 4000000 in
set_option maxRecDepth 100000 in
theorem me_184 {d : Nat} {K : Kt} {M : Mm} : zSp (d + 1) 184 [.inr (.inr 154)] M K = (zC (zR32 (M 154 24)) ((¬ (M 154 24) = 0 → zSp d 177 [.inr (.inr 154), .inl 0, .inl (483 + (161 * (M 154 25)))] (zUp M 154 0 0) (fun _ M1 => zC (zR32 (((M1 154 25) + 10) - 1)) (zC (zDv (((M1 154 25) + 10) - 1) 10) (zSp d 209 [.inr (.inr 154)] (zUp (zUp M1 154 25 ((((M1 154 25) + 10) - 1) % 10)) 154 24 ((M1 154 24) - 1)) (fun _ M2 => K (M2 154 24) M2))))) ∧ (¬ (¬ (M 154 24) = 0) → K (-3) (zUp M 154 0 0)))) := (zwp_blk (stops := []) (fuel := 43) pe_184).trans rfl
theorem pe_185 : zPg 185 = pg_185 := rfl
/-! 185 LeastFailingModel.emits -/
set_option maxHeartbeats 4000000 in
set_option maxRecDepth 100000 in
theorem me_185 {d : Nat} {K : Kt} {M : Mm} {a1 a2 a3 a4 a5 : Int} : zSp (d + 1) 185 [.inr (.inr 154), .inl a1, .inl a2, .inl a3, .inl a4, .inl a5] M K = (zC (zSm (5 * (M 154 38)) 2000) (zC (zSm ((5 * (M 154 38)) + 1) 2000) (zC (zSm ((5 * (M 154 38)) + 2) 2000) (zC (zSm ((5 * (M 154 38)) + 3) 2000) (zC (zSm ((5 * (M 154 38)) + 4) 2000) (K 0 (zUp (zUp (zUp (zUp (zUp (zUp M 169 (5 * (M 154 38)) a1) 169 ((5 * (M 154 38)) + 1) a2) 169 ((5 * (M 154 38)) + 2) a3) 169 ((5 * (M 154 38)) + 3) a4) 169 ((5 * (M 154 38)) + 4) a5) 154 38 ((M 154 38) + 1)))))))) := (zwp_blk (stops := []) (fuel := 60) pe_185).trans rfl
theorem pe_186 : zPg 186 = pg_186 := rfl
/-! 186 LeastFailingModel.nameInTest -/
set_option maxHeartbeats 4000000 in
set_option maxRecDepth 100000 in
theorem me_186 {d : Nat} {K : Kt} {M : Mm} : zSp (d + 1) 186 [.inr (.inr 154)] M K = (zSp d 162 [.inr (.inr 154)] M (fun z1 M1 => zSp d 143 [.inr (.inr 154)] M1 (fun z2 M2 => zC (zR32 z2) ((z2 = 0 → zWp (zSp d) 186 K 21 [some (.inr (.inr 154)), some (.inr (.inl z1)), none, none] [.inl 0] M2) ∧ (¬ (z2 = 0) → zSp d 171 [.inr (.inr 154), .inr (.inl z1)] M2 (fun z3 M3 => zWp (zSp d) 186 K 21 [some (.inr (.inr 154)), some (.inr (.inl z1)), none, none] [.inl z3] M3)))))) := (zwp_blk (stops := [21]) (fuel := 30) pe_186).trans rfl
set_option maxHeartbeats 4000000 in
set_option maxRecDepth 100000 in
theorem fe_186_21 {d : Nat} {K : Kt} {M : Mm} {x1 y0 : Int} : zWp (zSp d) 186 K 21 [some (.inr (.inr 154)), some (.inr (.inl x1)), none, none] [.inl y0] M = (zSp d 143 [.inr (.inr 154)] M (fun z1 M1 => zC (zR32 z1) ((z1 = 0 → K y0 M1) ∧ (¬ (z1 = 0) → zC (zR32 y0) ((¬ y0 = (-1) → K y0 M1) ∧ (¬ (¬ y0 = (-1)) → zSp d 144 [.inr (.inr 154), .inl 3, .inl (M1 154 12)] M1 (fun _ M2 => K y0 M2))))))) := (zwp_blk (stops := [21]) (fuel := 30) pe_186).trans rfl
theorem pe_187 : zPg 187 = pg_187 := rfl
/-! 187 LeastFailingModel.countRead -/
set_option maxHeartbeats 4000000 in
set_option maxRecDepth 100000 in
theorem me_187 {d : Nat} {K : Kt} {M : Mm} : zSp (d + 1) 187 [.inr (.inr 154)] M K = (zSp d 155 [.inl 115, .inl 105, .inl 122, .inl 101, .inl 0, .inl 0] M (fun z1 M1 => zSp d 159 [.inr (.inr 154), .inr (.inl z1)] M1 (fun z2 M2 => zC (zR32 z2) ((z2 = 0 → zSp d 155 [.inl 100, .inl 101, .inl 101, .inl 112, .inl 0, .inl 0] M2 (fun z3 M3 => zSp d 159 [.inr (.inr 154), .inr (.inl z3)] M3 (fun z4 M4 => zC (zR32 z4) ((z4 = 0 → zSp d 155 [.inl 104, .inl 97, .inl 115, .inl 0, .inl 0, .inl 0] M4 (fun z5 M5 => zSp d 159 [.inr (.inr 154), .inr (.inl z5)] M5 (fun z6 M6 => zC (zR32 z6) ((z6 = 0 → zSp d 155 [.inl 117, .inl 110, .inl 100, .inl 101, .inl 114, .inl 0] M6 (fun z7 M7 => zSp d 159 [.inr (.inr 154), .inr (.inl z7)] M7 (fun z8 M8 => zC (zR32 z8) ((z8 = 0 → zSp d 155 [.inl 110, .inl 101, .inl 120, .inl 116, .inl 0, .inl 0] M8 (fun z9 M9 => zSp d 159 [.inr (.inr 154), .inr (.inl z9)] M9 (fun z10 M10 => zC (zR32 z10) ((z10 = 0 → zWp (zSp d) 187 K 121 [some (.inr (.inr 154)), none, none, none, none, none] [.inl (-1)] M10) ∧ (¬ (z10 = 0) → zWp (zSp d) 187 K 121 [some (.inr (.inr 154)), none, none, none, none, none] [.inl 4] M10))))) ∧ (¬ (z8 = 0) → zWp (zSp d) 187 K 121 [some (.inr (.inr 154)), none, none, none, none, none] [.inl 3] M8))))) ∧ (¬ (z6 = 0) → zWp (zSp d) 187 K 121 [some (.inr (.inr 154)), none, none, none, none, none] [.inl 2] M6))))) ∧ (¬ (z4 = 0) → zWp (zSp d) 187 K 121 [some (.inr (.inr 154)), none, none, none, none, none] [.inl 1] M4))))) ∧ (¬ (z2 = 0) → zWp (zSp d) 187 K 121 [some (.inr (.inr 154)), none, none, none, none, none] [.inl 0] M2))))) := (zwp_blk (stops := [121, 131, 150, 151, 171, 172, 224, 236]) (fuel := 148) pe_187).trans rfl
set_option maxHeartbeats 4000000 in
set_option maxRecDepth 100000 in
theorem fe_187_121 {d : Nat} {K : Kt} {M : Mm} {y0 : Int} : zWp (zSp d) 187 K 121 [some (.inr (.inr 154)), none, none, none, none, none] [.inl y0] M = (zC (zR32 y0) ((¬ y0 = (-1) → zWp (zSp d) 187 K 131 [some (.inr (.inr 154)), some (.inl y0), none, none, none, none] [] M) ∧ (¬ (¬ y0 = (-1)) → zSp d 151 [.inr (.inr 154)] M (fun _ M1 => zWp (zSp d) 187 K 131 [some (.inr (.inr 154)), some (.inl y0), none, none, none, none] [] M1)))) := (zwp_blk (stops := [121, 131, 150, 151, 171, 172, 224, 236]) (fuel := 148) pe_187).trans rfl
set_option maxHeartbeats 4000000 in
set_option maxRecDepth 100000 in
theorem fe_187_131 {d : Nat} {K : Kt} {M : Mm} {x1 : Int} : zWp (zSp d) 187 K 131 [some (.inr (.inr 154)), some (.inl x1), none, none, none, none] [] M = (zSp d 143 [.inr (.inr 154)] M (fun z1 M1 => zC (zR32 z1) ((z1 = 0 → zWp (zSp d) 187 K 150 [some (.inr (.inr 154)), some (.inl x1), none, none, none, none] [] M1) ∧ (¬ (z1 = 0) → zC (zR32 x1) ((x1 ≤ 1 → zWp (zSp d) 187 K 150 [some (.inr (.inr 154)), some (.inl x1), none, none, none, none] [] M1) ∧ (¬ (x1 ≤ 1) → zSp d 186 [.inr (.inr 154)] M1 (fun z2 M2 => zWp (zSp d) 187 K 151 [some (.inr (.inr 154)), some (.inl x1), none, none, none, none] [.inl z2] M2))))))) := (zwp_blk (stops := [121, 131, 150, 151, 171, 172, 224, 236]) (fuel := 148) pe_187).trans rfl
set_option maxHeartbeats 4000000 in
set_option maxRecDepth 100000 in
theorem fe_187_150 {d : Nat} {K : Kt} {M : Mm} {x1 : Int} : zWp (zSp d) 187 K 150 [some (.inr (.inr 154)), some (.inl x1), none, none, none, none] [] M = (zWp (zSp d) 187 K 151 [some (.inr (.inr 154)), some (.inl x1), none, none, none, none] [.inl 0] M) := (zwp_blk (stops := [121, 131, 150, 151, 171, 172, 224, 236]) (fuel := 148) pe_187).trans rfl
set_option maxHeartbeats 4000000 in
set_option maxRecDepth 100000 in
theorem fe_187_151 {d : Nat} {K : Kt} {M : Mm} {x1 y0 : Int} : zWp (zSp d) 187 K 151 [some (.inr (.inr 154)), some (.inl x1), none, none, none, none] [.inl y0] M = (zSp d 143 [.inr (.inr 154)] M (fun z1 M1 => zC (zR32 z1) ((z1 = 0 → zWp (zSp d) 187 K 171 [some (.inr (.inr 154)), some (.inl x1), some (.inl y0), none, none, none] [] M1) ∧ (¬ (z1 = 0) → zC (zR32 x1) ((x1 ≤ 2 → zWp (zSp d) 187 K 171 [some (.inr (.inr 154)), some (.inl x1), some (.inl y0), none, none, none] [] M1) ∧ (¬ (x1 ≤ 2) → zSp d 186 [.inr (.inr 154)] M1 (fun z2 M2 => zWp (zSp d) 187 K 172 [some (.inr (.inr 154)), some (.inl x1), some (.inl y0), none, none, none] [.inl z2] M2))))))) := (zwp_blk (stops := [121, 131, 150, 151, 171, 172, 224, 236]) (fuel := 148) pe_187).trans rfl
set_option maxHeartbeats 4000000 in
set_option maxRecDepth 100000 in
theorem fe_187_171 {d : Nat} {K : Kt} {M : Mm} {x1 x2 : Int} : zWp (zSp d) 187 K 171 [some (.inr (.inr 154)), some (.inl x1), some (.inl x2), none, none, none] [] M = (zWp (zSp d) 187 K 172 [some (.inr (.inr 154)), some (.inl x1), some (.inl x2), none, none, none] [.inl 0] M) := (zwp_blk (stops := [121, 131, 150, 151, 171, 172, 224, 236]) (fuel := 148) pe_187).trans rfl
set_option maxHeartbeats 4000000 in
set_option maxRecDepth 100000 in
theorem fe_187_172 {d : Nat} {K : Kt} {M : Mm} {x1 x2 y0 : Int} : zWp (zSp d) 187 K 172 [some (.inr (.inr 154)), some (.inl x1), some (.inl x2), none, none, none] [.inl y0] M = (zSp d 143 [.inr (.inr 154)] M (fun z1 M1 => zC (zR32 z1) ((¬ z1 = 0 → zSp d 152 [.inr (.inr 154), .inl 60] M1 (fun z2 M2 => zC (zR32 z2) ((z2 = 0 → zSp d 152 [.inr (.inr 154), .inl 62] M2 (fun z3 M3 => zC (zR32 z3) ((z3 = 0 → zSp d 152 [.inr (.inr 154), .inl 61] M3 (fun z4 M4 => zC (zR32 z4) ((z4 = 0 → zWp (zSp d) 187 K 224 [some (.inr (.inr 154)), some (.inl x1), some (.inl x2), some (.inl y0), none, none] [.inl 2] M4) ∧ (¬ (z4 = 0) → zWp (zSp d) 187 K 224 [some (.inr (.inr 154)), some (.inl x1), some (.inl x2), some (.inl y0), none, none] [.inl 0] M4)))) ∧ (¬ (z3 = 0) → zWp (zSp d) 187 K 224 [some (.inr (.inr 154)), some (.inl x1), some (.inl x2), some (.inl y0), none, none] [.inl 1] M3)))) ∧ (¬ (z2 = 0) → zWp (zSp d) 187 K 224 [some (.inr (.inr 154)), some (.inl x1), some (.inl x2), some (.inl y0), none, none] [.inl (-1)] M2)))) ∧ (¬ (¬ z1 = 0) → zWp (zSp d) 187 K 224 [some (.inr (.inr 154)), some (.inl x1), some (.inl x2), some (.inl y0), none, none] [.inl 0] M1)))) := (zwp_blk (stops := [121, 131, 150, 151, 171, 172, 224, 236]) (fuel := 148) pe_187).trans rfl
set_option maxHeartbeats 4000000 in
set_option maxRecDepth 100000 in
theorem fe_187_224 {d : Nat} {K : Kt} {M : Mm} {x1 x2 x3 y0 : Int} : zWp (zSp d) 187 K 224 [some (.inr (.inr 154)), some (.inl x1), some (.inl x2), some (.inl x3), none, none] [.inl y0] M = (zC (zR32 y0) ((¬ y0 = 2 → zWp (zSp d) 187 K 236 [some (.inr (.inr 154)), some (.inl x1), some (.inl x2), some (.inl x3), some (.inl y0), none] [] M) ∧ (¬ (¬ y0 = 2) → zSp d 151 [.inr (.inr 154)] M (fun _ M1 => zWp (zSp d) 187 K 236 [some (.inr (.inr 154)), some (.inl x1), some (.inl x2), some (.inl x3), some (.inl y0), none] [] M1)))) := (zwp_blk (stops := [121, 131, 150, 151, 171, 172, 224, 236]) (fuel := 148) pe_187).trans rfl
set_option maxHeartbeats 4000000 in
set_option maxRecDepth 100000 in
theorem fe_187_236 {d : Nat} {K : Kt} {M : Mm} {x1 x2 x3 x4 : Int} : zWp (zSp d) 187 K 236 [some (.inr (.inr 154)), some (.inl x1), some (.inl x2), some (.inl x3), some (.inl x4), none] [] M = (zSp d 143 [.inr (.inr 154)] M (fun z1 M1 => zC (zR32 z1) ((¬ z1 = 0 → zSp d 163 [.inr (.inr 154)] (zUp M1 154 4 ((M1 154 4) + 1)) (fun z2 M2 => zSp d 143 [.inr (.inr 154)] M2 (fun z3 M3 => zC (zR32 z3) ((z3 = 0 → K 0 M3) ∧ (¬ (z3 = 0) → zSp d 185 [.inr (.inr 154), .inl x1, .inl x2, .inl x3, .inl x4, .inl z2] M3 (fun _ M4 => K 0 M4)))))) ∧ (¬ (¬ z1 = 0) → K 0 M1)))) := (zwp_blk (stops := [121, 131, 150, 151, 171, 172, 224, 236]) (fuel := 148) pe_187).trans rfl
theorem pe_188 : zPg 188 = pg_188 := rfl
/-! 188 LeastFailingModel.piles -/
set_option maxHeartbeats 4000000 in
set_option maxRecDepth 100000 in
theorem me_188 {d : Nat} {K : Kt} {M : Mm} {a1 : Int} : zSp (d + 1) 188 [.inr (.inr 154), .inl a1] M K = (zC (zSm (M 154 40) 400) (K 0 (zUp (zUp M 176 (M 154 40) a1) 154 40 ((M 154 40) + 1)))) := (zwp_blk (stops := []) (fuel := 18) pe_188).trans rfl
theorem pe_189 : zPg 189 = pg_189 := rfl
/-! 189 LeastFailingModel.drops -/
set_option maxHeartbeats 4000000 in
set_option maxRecDepth 100000 in
theorem me_189 {d : Nat} {K : Kt} {M : Mm} {a1 a2 : Int} : zSp (d + 1) 189 [.inr (.inr 154), .inl a1, .inl a2] M K = (zWp (zSp d) 189 K 0 [some (.inr (.inr 154)), some (.inl a1), some (.inl a2)] [] M) := rfl
set_option maxHeartbeats 4000000 in
set_option maxRecDepth 100000 in
theorem fe_189_0 {d : Nat} {K : Kt} {M : Mm} {x1 x2 : Int} : zWp (zSp d) 189 K 0 [some (.inr (.inr 154)), some (.inl x1), some (.inl x2)] [] M = (zC (zR32 (M 154 40)) (((M 154 40) ≤ 0 → K 0 M) ∧ (¬ ((M 154 40) ≤ 0) → zC (zSm ((M 154 40) - 1) 400) (zC (zR32 (M 176 ((M 154 40) - 1))) (zC (zR32 x1) (((M 176 ((M 154 40) - 1)) < x1 → K 0 M) ∧ (¬ ((M 176 ((M 154 40) - 1)) < x1) → zC (zSm ((M 154 40) - 1) 400) (zC (zR32 (M 176 ((M 154 40) - 1))) (zC (zR32 x2) ((x2 < (M 176 ((M 154 40) - 1)) → K 0 M) ∧ (¬ (x2 < (M 176 ((M 154 40) - 1))) → zC (zSm ((M 154 40) - 1) 400) (zC (zR32 (M 176 ((M 154 40) - 1))) ((¬ (M 176 ((M 154 40) - 1)) = 10 → zWp (zSp d) 189 K 71 [some (.inr (.inr 154)), some (.inl x1), some (.inl x2)] [.inl 0, .inl (M 154 41), .inr (.inr 154)] (zUp M 154 40 ((M 154 40) - 1))) ∧ (¬ (¬ (M 176 ((M 154 40) - 1)) = 10) → zWp (zSp d) 189 K 71 [some (.inr (.inr 154)), some (.inl x1), some (.inl x2)] [.inl 1, .inl (M 154 41), .inr (.inr 154)] (zUp M 154 40 ((M 154 40) - 1)))))))))))))))) := (zwp_blk (stops := [0, 71]) (fuel := 61) pe_189).trans rfl
set_option maxHeartbeats 4000000 in
set_option maxRecDepth 100000 in
theorem fe_189_71 {d : Nat} {K : Kt} {M : Mm} {x1 x2 y1 y2 : Int} : zWp (zSp d) 189 K 71 [some (.inr (.inr 154)), some (.inl x1), some (.inl x2)] [.inl y2, .inl y1, .inr (.inr 154)] M = (zSp d 138 [.inl y2] M (fun z1 M1 => zC (zSm (M1 154 40) 400) (zSp d 185 [.inr (.inr 154), .inl (M1 176 (M1 154 40)), .inl 0, .inl 0, .inl 0, .inl 0] (zUp M1 154 41 (y1 - z1)) (fun _ M2 => zWp (zSp d) 189 K 0 [some (.inr (.inr 154)), some (.inl x1), some (.inl x2)] [] M2)))) := (zwp_blk (stops := [0, 71]) (fuel := 61) pe_189).trans rfl
theorem pe_190 : zPg 190 = pg_190 := rfl
/-! 190 LeastFailingModel.factBegins -/
set_option maxHeartbeats 4000000 in
set_option maxRecDepth 100000 in
theorem me_190 {d : Nat} {K : Kt} {M : Mm} : zSp (d + 1) 190 [.inr (.inr 154)] M K = (zSp d 155 [.inl 110, .inl 111, .inl 116, .inl 0, .inl 0, .inl 0] M (fun z1 M1 => zSp d 157 [.inr (.inr 154), .inr (.inl z1)] M1 (fun z2 M2 => zC (zR32 z2) ((¬ z2 = 0 → zWp (zSp d) 190 K 36 [some (.inr (.inr 154)), some (.inl z2)] [] M2) ∧ (¬ (¬ z2 = 0) → zSp d 152 [.inr (.inr 154), .inl 91] M2 (fun z3 M3 => zC (zR32 z3) ((¬ z3 = 0 → zWp (zSp d) 190 K 36 [some (.inr (.inr 154)), some (.inl z2)] [] M3) ∧ (¬ (¬ z3 = 0) → zSp d 187 [.inr (.inr 154)] M3 (fun _ M4 => K 1 M4))))))))) := (zwp_blk (stops := [36, 54, 84, 106]) (fuel := 65) pe_190).trans rfl
set_option maxHeartbeats 4000000 in
set_option maxRecDepth 100000 in
theorem fe_190_36 {d : Nat} {K : Kt} {M : Mm} {x1 : Int} : zWp (zSp d) 190 K 36 [some (.inr (.inr 154)), some (.inl x1)] [] M = (zC (zR32 (M 154 41)) ((¬ (M 154 41) = 6 → zWp (zSp d) 190 K 54 [some (.inr (.inr 154)), some (.inl x1)] [] M) ∧ (¬ (¬ (M 154 41) = 6) → zSp d 149 [.inr (.inr 154)] M (fun z1 M1 => zSp d 144 [.inr (.inr 154), .inl 4, .inl z1] M1 (fun _ M2 => zWp (zSp d) 190 K 54 [some (.inr (.inr 154)), some (.inl x1)] [] M2))))) := (zwp_blk (stops := [36, 54, 84, 106]) (fuel := 65) pe_190).trans rfl
set_option maxHeartbeats 4000000 in
set_option maxRecDepth 100000 in
theorem fe_190_54 {d : Nat} {K : Kt} {M : Mm} {x1 : Int} : zWp (zSp d) 190 K 54 [some (.inr (.inr 154)), some (.inl x1)] [] M = (zSp d 143 [.inr (.inr 154)] M (fun z1 M1 => zC (zR32 z1) ((¬ z1 = 0 → zC (zR32 x1) ((x1 = 0 → zWp (zSp d) 190 K 84 [some (.inr (.inr 154)), some (.inl x1)] [] (zUp M1 154 4 ((M1 154 4) + 1))) ∧ (¬ (x1 = 0) → zSp d 158 [.inr (.inr 154)] M1 (fun _ M2 => zWp (zSp d) 190 K 84 [some (.inr (.inr 154)), some (.inl x1)] [] M2)))) ∧ (¬ (¬ z1 = 0) → K 1 M1)))) := (zwp_blk (stops := [36, 54, 84, 106]) (fuel := 65) pe_190).trans rfl
set_option maxHeartbeats 4000000 in
set_option maxRecDepth 100000 in
theorem fe_190_84 {d : Nat} {K : Kt} {M : Mm} {x1 : Int} : zWp (zSp d) 190 K 84 [some (.inr (.inr 154)), some (.inl x1)] [] M = (zC (zR32 x1) ((x1 = 0 → zWp (zSp d) 190 K 106 [some (.inr (.inr 154)), some (.inl x1)] [.inl 13, .inr (.inr 154)] (zUp M 154 41 ((M 154 41) + 1))) ∧ (¬ (x1 = 0) → zWp (zSp d) 190 K 106 [some (.inr (.inr 154)), some (.inl x1)] [.inl 10, .inr (.inr 154)] (zUp M 154 41 ((M 154 41) + 1))))) := (zwp_blk (stops := [36, 54, 84, 106]) (fuel := 65) pe_190).trans rfl
set_option maxHeartbeats 4000000 in
set_option maxRecDepth 100000 in
theorem fe_190_106 {d : Nat} {K : Kt} {M : Mm} {x1 y1 : Int} : zWp (zSp d) 190 K 106 [some (.inr (.inr 154)), some (.inl x1)] [.inl y1, .inr (.inr 154)] M = (zSp d 188 [.inr (.inr 154), .inl y1] M (fun _ M1 => K 0 M1)) := (zwp_blk (stops := [36, 54, 84, 106]) (fuel := 65) pe_190).trans rfl
theorem pe_191 : zPg 191 = pg_191 := rfl
/-! 191 LeastFailingModel.factGoesOn -/
set_option maxHeartbeats 4000000 in
set_option maxRecDepth 100000 in
theorem me_191 {d : Nat} {K : Kt} {M : Mm} : zSp (d + 1) 191 [.inr (.inr 154)] M K = (zSp d 189 [.inr (.inr 154), .inl 10, .inl 10] M (fun _ M1 => zSp d 155 [.inl 97, .inl 110, .inl 100, .inl 0, .inl 0, .inl 0] M1 (fun z2 M2 => zSp d 159 [.inr (.inr 154), .inr (.inl z2)] M2 (fun z3 M3 => zC (zR32 z3) ((z3 = 0 → zSp d 189 [.inr (.inr 154), .inl 11, .inl 11] M3 (fun _ M4 => zSp d 155 [.inl 111, .inl 114, .inl 0, .inl 0, .inl 0, .inl 0] M4 (fun z5 M5 => zSp d 159 [.inr (.inr 154), .inr (.inl z5)] M5 (fun z6 M6 => zC (zR32 z6) ((z6 = 0 → zSp d 189 [.inr (.inr 154), .inl 12, .inl 12] M6 (fun _ M7 => K 0 M7)) ∧ (¬ (z6 = 0) → zSp d 189 [.inr (.inr 154), .inl 12, .inl 12] M6 (fun _ M8 => zSp d 188 [.inr (.inr 154), .inl 12] M8 (fun _ M9 => K 1 M9)))))))) ∧ (¬ (z3 = 0) → zSp d 189 [.inr (.inr 154), .inl 11, .inl 11] M3 (fun _ M10 => zSp d 188 [.inr (.inr 154), .inl 11] M10 (fun _ M11 => K 1 M11)))))))) := (zwp_blk (stops := []) (fuel := 57) pe_191).trans rfl
theorem pe_192 : zPg 192 = pg_192 := rfl
/-! 192 LeastFailingModel.testRead -/
set_option maxHeartbeats 4000000 in
set_option maxRecDepth 100000 in
theorem me_192 {d : Nat} {K : Kt} {M : Mm} : zSp (d + 1) 192 [.inr (.inr 154)] M K = (zWp (zSp d) 192 K 12 [some (.inr (.inr 154)), some (.inl 1)] [] (zUp (zUp M 154 40 0) 154 41 0)) := (zwp_blk (stops := [12, 30, 46]) (fuel := 63) pe_192).trans rfl
set_option maxHeartbeats 4000000 in
set_option maxRecDepth 100000 in
theorem fe_192_12 {d : Nat} {K : Kt} {M : Mm} {x1 : Int} : zWp (zSp d) 192 K 12 [some (.inr (.inr 154)), some (.inl x1)] [] M = (zSp d 143 [.inr (.inr 154)] M (fun z1 M1 => zC (zR32 z1) ((z1 = 0 → K 0 M1) ∧ (¬ (z1 = 0) → zC (zR32 x1) ((¬ x1 = 0 → zWp (zSp d) 192 K 30 [some (.inr (.inr 154)), some (.inl x1)] [] M1) ∧ (¬ (¬ x1 = 0) → zC (zR32 (M1 154 40)) (((M1 154 40) ≤ 0 → K 0 M1) ∧ (¬ ((M1 154 40) ≤ 0) → zWp (zSp d) 192 K 30 [some (.inr (.inr 154)), some (.inl x1)] [] M1)))))))) := (zwp_blk (stops := [12, 30, 46]) (fuel := 63) pe_192).trans rfl
set_option maxHeartbeats 4000000 in
set_option maxRecDepth 100000 in
theorem fe_192_30 {d : Nat} {K : Kt} {M : Mm} {x1 : Int} : zWp (zSp d) 192 K 30 [some (.inr (.inr 154)), some (.inl x1)] [] M = (zC (zR32 x1) ((x1 = 0 → zSp d 154 [.inr (.inr 154), .inl 93] M (fun _ M1 => zSp d 143 [.inr (.inr 154)] M1 (fun z2 M2 => zC (zR32 z2) ((¬ z2 = 0 → zSp d 191 [.inr (.inr 154)] (zUp (zUp M2 154 40 ((M2 154 40) - 1)) 154 41 ((M2 154 41) - 1)) (fun z3 M3 => zWp (zSp d) 192 K 12 [some (.inr (.inr 154)), some (.inl z3)] [] M3)) ∧ (¬ (¬ z2 = 0) → K 0 M2))))) ∧ (¬ (x1 = 0) → zSp d 190 [.inr (.inr 154)] M (fun z4 M4 => zC (zR32 z4) ((¬ z4 = 0 → zWp (zSp d) 192 K 46 [some (.inr (.inr 154)), some (.inl x1)] [.inl 0] M4) ∧ (¬ (¬ z4 = 0) → zWp (zSp d) 192 K 46 [some (.inr (.inr 154)), some (.inl x1)] [.inl 1] M4)))))) := (zwp_blk (stops := [12, 30, 46]) (fuel := 63) pe_192).trans rfl
set_option maxHeartbeats 4000000 in
set_option maxRecDepth 100000 in
theorem fe_192_46 {d : Nat} {K : Kt} {M : Mm} {x1 y0 : Int} : zWp (zSp d) 192 K 46 [some (.inr (.inr 154)), some (.inl x1)] [.inl y0] M = (zC (zR32 y0) ((¬ y0 = 0 → zWp (zSp d) 192 K 12 [some (.inr (.inr 154)), some (.inl y0)] [] M) ∧ (¬ (¬ y0 = 0) → zSp d 143 [.inr (.inr 154)] M (fun z1 M1 => zC (zR32 z1) ((z1 = 0 → zWp (zSp d) 192 K 12 [some (.inr (.inr 154)), some (.inl y0)] [] M1) ∧ (¬ (z1 = 0) → zSp d 191 [.inr (.inr 154)] M1 (fun z2 M2 => zWp (zSp d) 192 K 12 [some (.inr (.inr 154)), some (.inl z2)] [] M2))))))) := (zwp_blk (stops := [12, 30, 46]) (fuel := 63) pe_192).trans rfl
theorem pe_193 : zPg 193 = pg_193 := rfl
/-! 193 LeastFailingModel.bugs -/
set_option maxHeartbeats 4000000 in
set_option maxRecDepth 100000 in
theorem me_193 {d : Nat} {K : Kt} {M : Mm} : zSp (d + 1) 193 [.inr (.inr 154)] M K = (zC (zR32 (M 156 192)) ((¬ (M 156 192) = 0 → zSp d 142 [.inr (.inr 154)] (zUp M 154 0 0) (fun _ M1 => zWp (zSp d) 193 K 35 [some (.inr (.inr 154)), some (.inl 0), none] [] (zUp M1 154 38 0))) ∧ (¬ (¬ (M 156 192) = 0) → K (-3) (zUp (zUp M 154 0 0) 154 2 0)))) := (zwp_blk (stops := [35, 90, 115, 136, 166, 191]) (fuel := 137) pe_193).trans rfl
set_option maxHeartbeats 4000000 in
set_option maxRecDepth 100000 in
theorem fe_193_35 {d : Nat} {K : Kt} {M : Mm} {x1 : Int} : zWp (zSp d) 193 K 35 [some (.inr (.inr 154)), some (.inl x1), none] [] M = (zSp d 143 [.inr (.inr 154)] M (fun z1 M1 => zC (zR32 z1) ((z1 = 0 → zWp (zSp d) 193 K 115 [some (.inr (.inr 154)), some (.inl x1), none] [] M1) ∧ (¬ (z1 = 0) → zSp d 150 [.inr (.inr 154)] M1 (fun z2 M2 => zC (zR32 z2) ((¬ z2 = 0 → zWp (zSp d) 193 K 115 [some (.inr (.inr 154)), some (.inl x1), none] [] M2) ∧ (¬ (¬ z2 = 0) → zSp d 155 [.inl 98, .inl 117, .inl 103, .inl 0, .inl 0, .inl 0] M2 (fun z3 M3 => zSp d 157 [.inr (.inr 154), .inr (.inl z3)] M3 (fun z4 M4 => zC (zR32 z4) ((¬ z4 = 0 → zC (zR32 x1) ((¬ x1 = 6 → zWp (zSp d) 193 K 90 [some (.inr (.inr 154)), some (.inl x1), none] [] M4) ∧ (¬ (¬ x1 = 6) → zSp d 149 [.inr (.inr 154)] M4 (fun z5 M5 => zSp d 144 [.inr (.inr 154), .inl 4, .inl z5] M5 (fun _ M6 => zWp (zSp d) 193 K 90 [some (.inr (.inr 154)), some (.inl x1), none] [] M6))))) ∧ (¬ (¬ z4 = 0) → zSp d 151 [.inr (.inr 154)] M4 (fun _ M7 => zWp (zSp d) 193 K 90 [some (.inr (.inr 154)), some (.inl x1), none] [] M7)))))))))))) := (zwp_blk (stops := [35, 90, 115, 136, 166, 191]) (fuel := 137) pe_193).trans rfl
set_option maxHeartbeats 4000000 in
set_option maxRecDepth 100000 in
theorem fe_193_90 {d : Nat} {K : Kt} {M : Mm} {x1 : Int} : zWp (zSp d) 193 K 90 [some (.inr (.inr 154)), some (.inl x1), none] [] M = (zSp d 143 [.inr (.inr 154)] M (fun z1 M1 => zC (zR32 z1) ((¬ z1 = 0 → zSp d 158 [.inr (.inr 154)] M1 (fun _ M2 => zSp d 194 [.inr (.inr 154), .inl x1] M2 (fun _ M3 => zWp (zSp d) 193 K 35 [some (.inr (.inr 154)), some (.inl (x1 + 1)), none] [] M3))) ∧ (¬ (¬ z1 = 0) → zWp (zSp d) 193 K 115 [some (.inr (.inr 154)), some (.inl x1), none] [] M1)))) := (zwp_blk (stops := [35, 90, 115, 136, 166, 191]) (fuel := 137) pe_193).trans rfl
set_option maxHeartbeats 4000000 in
set_option maxRecDepth 100000 in
theorem fe_193_115 {d : Nat} {K : Kt} {M : Mm} {x1 : Int} : zWp (zSp d) 193 K 115 [some (.inr (.inr 154)), some (.inl x1), none] [] M = (zSp d 145 [.inr (.inr 154)] M (fun z1 M1 => zC (zR32 z1) ((¬ z1 = 0 → zC (zSm x1 7) (zWp (zSp d) 193 K 136 [some (.inr (.inr 154)), some (.inl x1), some (.inl 0)] [] (zUp M1 171 x1 (M1 154 38)))) ∧ (¬ (¬ z1 = 0) → K (-1) M1)))) := (zwp_blk (stops := [35, 90, 115, 136, 166, 191]) (fuel := 137) pe_193).trans rfl
set_option maxHeartbeats 4000000 in
set_option maxRecDepth 100000 in
theorem fe_193_136 {d : Nat} {K : Kt} {M : Mm} {x1 x2 : Int} : zWp (zSp d) 193 K 136 [some (.inr (.inr 154)), some (.inl x1), some (.inl x2)] [] M = (zC (zR32 x2) (zC (zR32 (5 * (M 154 38))) (((5 * (M 154 38)) ≤ x2 → zWp (zSp d) 193 K 166 [some (.inr (.inr 154)), some (.inl x1), some (.inl 0)] [] M) ∧ (¬ ((5 * (M 154 38)) ≤ x2) → zC (zSm x2 2000) (zC (zSm x2 2000) (zWp (zSp d) 193 K 136 [some (.inr (.inr 154)), some (.inl x1), some (.inl (x2 + 1))] [] (zUp M 168 x2 (M 169 x2)))))))) := (zwp_blk (stops := [35, 90, 115, 136, 166, 191]) (fuel := 137) pe_193).trans rfl
set_option maxHeartbeats 4000000 in
set_option maxRecDepth 100000 in
theorem fe_193_166 {d : Nat} {K : Kt} {M : Mm} {x1 x2 : Int} : zWp (zSp d) 193 K 166 [some (.inr (.inr 154)), some (.inl x1), some (.inl x2)] [] M = (zC (zR32 x2) (zC (zR32 x1) ((x1 < x2 → zWp (zSp d) 193 K 191 [some (.inr (.inr 154)), some (.inl x1), some (.inl 0)] [] M) ∧ (¬ (x1 < x2) → zC (zSm x2 7) (zC (zSm x2 7) (zWp (zSp d) 193 K 166 [some (.inr (.inr 154)), some (.inl x1), some (.inl (x2 + 1))] [] (zUp M 170 x2 (M 171 x2)))))))) := (zwp_blk (stops := [35, 90, 115, 136, 166, 191]) (fuel := 137) pe_193).trans rfl
set_option maxHeartbeats 4000000 in
set_option maxRecDepth 100000 in
theorem fe_193_191 {d : Nat} {K : Kt} {M : Mm} {x1 x2 : Int} : zWp (zSp d) 193 K 191 [some (.inr (.inr 154)), some (.inl x1), some (.inl x2)] [] M = (zC (zR32 x2) (zC (zR32 x1) ((x1 ≤ x2 → zSp d 209 [.inr (.inr 154)] (zUp M 154 37 x1) (fun _ M1 => K x1 M1)) ∧ (¬ (x1 ≤ x2) → zC (zSm x2 6) (zC (zSm x2 6) (zC (zSm x2 6) (zC (zSm x2 6) (zWp (zSp d) 193 K 191 [some (.inr (.inr 154)), some (.inl x1), some (.inl (x2 + 1))] [] (zUp (zUp M 172 x2 (M 173 x2)) 174 x2 (M 175 x2)))))))))) := (zwp_blk (stops := [35, 90, 115, 136, 166, 191]) (fuel := 137) pe_193).trans rfl
theorem pe_194 : zPg 194 = pg_194 := rfl
/-! 194 LeastFailingModel.bugRead -/
set_option maxHeartbeats 4000000 in
set_option maxRecDepth 100000 in
theorem me_194 {d : Nat} {K : Kt} {M : Mm} {a1 : Int} : zSp (d + 1) 194 [.inr (.inr 154), .inl a1] M K = (zSp d 162 [.inr (.inr 154)] M (fun z1 M1 => zWp (zSp d) 194 K 8 [some (.inr (.inr 154)), some (.inl a1), some (.inr (.inl z1)), none, some (.inl 0)] [] M1)) := (zwp_blk (stops := [8, 48, 79, 94, 125, 156]) (fuel := 108) pe_194).trans rfl
set_option maxHeartbeats 4000000 in
set_option maxRecDepth 100000 in
theorem fe_194_8 {d : Nat} {K : Kt} {M : Mm} {x1 x2 x4 : Int} : zWp (zSp d) 194 K 8 [some (.inr (.inr 154)), some (.inl x1), some (.inr (.inl x2)), none, some (.inl x4)] [] M = (zC (zR32 x4) (zC (zR32 x1) ((x1 ≤ x4 → zWp (zSp d) 194 K 48 [some (.inr (.inr 154)), some (.inl x1), some (.inr (.inl x2)), none, some (.inl x4)] [] M) ∧ (¬ (x1 ≤ x4) → zSp d 143 [.inr (.inr 154)] M (fun z1 M1 => zC (zR32 z1) ((z1 = 0 → zWp (zSp d) 194 K 48 [some (.inr (.inr 154)), some (.inl x1), some (.inr (.inl x2)), none, some (.inl x4)] [] M1) ∧ (¬ (z1 = 0) → zC (zSm x4 6) (zC (zR64 (M1 175 x4)) (zC (zR64 x2) (zC (zR32 (zLcmp (M1 175 x4) x2)) ((¬ (zLcmp (M1 175 x4) x2) = 0 → zWp (zSp d) 194 K 8 [some (.inr (.inr 154)), some (.inl x1), some (.inr (.inl x2)), none, some (.inl (x4 + 1))] [] M1) ∧ (¬ (¬ (zLcmp (M1 175 x4) x2) = 0) → zSp d 144 [.inr (.inr 154), .inl 3, .inl (M1 154 12)] M1 (fun _ M2 => zWp (zSp d) 194 K 8 [some (.inr (.inr 154)), some (.inl x1), some (.inr (.inl x2)), none, some (.inl (x4 + 1))] [] M2))))))))))))) := (zwp_blk (stops := [8, 48, 79, 94, 125, 156]) (fuel := 108) pe_194).trans rfl
set_option maxHeartbeats 4000000 in
set_option maxRecDepth 100000 in
theorem fe_194_48 {d : Nat} {K : Kt} {M : Mm} {x1 x2 x4 : Int} : zWp (zSp d) 194 K 48 [some (.inr (.inr 154)), some (.inl x1), some (.inr (.inl x2)), none, some (.inl x4)] [] M = (zSp d 143 [.inr (.inr 154)] M (fun z1 M1 => zC (zR32 z1) ((z1 = 0 → zWp (zSp d) 194 K 79 [some (.inr (.inr 154)), some (.inl x1), some (.inr (.inl x2)), none, some (.inl x4)] [] M1) ∧ (¬ (z1 = 0) → zSp d 155 [.inl 111, .inl 100, .inl 100, .inl 115, .inl 0, .inl 0] M1 (fun z2 M2 => zSp d 159 [.inr (.inr 154), .inr (.inl z2)] M2 (fun z3 M3 => zC (zR32 z3) ((¬ z3 = 0 → zWp (zSp d) 194 K 79 [some (.inr (.inr 154)), some (.inl x1), some (.inr (.inl x2)), none, some (.inl x4)] [] M3) ∧ (¬ (¬ z3 = 0) → zSp d 151 [.inr (.inr 154)] M3 (fun _ M4 => zWp (zSp d) 194 K 79 [some (.inr (.inr 154)), some (.inl x1), some (.inr (.inl x2)), none, some (.inl x4)] [] M4))))))))) := (zwp_blk (stops := [8, 48, 79, 94, 125, 156]) (fuel := 108) pe_194).trans rfl
set_option maxHeartbeats 4000000 in
set_option maxRecDepth 100000 in
theorem fe_194_79 {d : Nat} {K : Kt} {M : Mm} {x1 x2 x4 : Int} : zWp (zSp d) 194 K 79 [some (.inr (.inr 154)), some (.inl x1), some (.inr (.inl x2)), none, some (.inl x4)] [] M = (zSp d 143 [.inr (.inr 154)] M (fun z1 M1 => zC (zR32 z1) ((z1 = 0 → zWp (zSp d) 194 K 94 [some (.inr (.inr 154)), some (.inl x1), some (.inr (.inl x2)), none, some (.inl x4)] [.inl 0] M1) ∧ (¬ (z1 = 0) → zSp d 163 [.inr (.inr 154)] M1 (fun z2 M2 => zWp (zSp d) 194 K 94 [some (.inr (.inr 154)), some (.inl x1), some (.inr (.inl x2)), none, some (.inl x4)] [.inl z2] M2))))) := (zwp_blk (stops := [8, 48, 79, 94, 125, 156]) (fuel := 108) pe_194).trans rfl
set_option maxHeartbeats 4000000 in
set_option maxRecDepth 100000 in
theorem fe_194_94 {d : Nat} {K : Kt} {M : Mm} {x1 x2 x4 y0 : Int} : zWp (zSp d) 194 K 94 [some (.inr (.inr 154)), some (.inl x1), some (.inr (.inl x2)), none, some (.inl x4)] [.inl y0] M = (zSp d 143 [.inr (.inr 154)] M (fun z1 M1 => zC (zR32 z1) ((z1 = 0 → zWp (zSp d) 194 K 125 [some (.inr (.inr 154)), some (.inl x1), some (.inr (.inl x2)), none, some (.inl y0)] [] M1) ∧ (¬ (z1 = 0) → zC (zR32 y0) (zSp d 137 [.inr (.inl y0), .inr (.inl 1), .inr (.inl 100)] M1 (fun z2 M2 => zC (zR32 z2) ((¬ z2 = 0 → zWp (zSp d) 194 K 125 [some (.inr (.inr 154)), some (.inl x1), some (.inr (.inl x2)), none, some (.inl y0)] [] M2) ∧ (¬ (¬ z2 = 0) → zSp d 144 [.inr (.inr 154), .inl 2, .inl (M2 154 13)] M2 (fun _ M3 => zWp (zSp d) 194 K 125 [some (.inr (.inr 154)), some (.inl x1), some (.inr (.inl x2)), none, some (.inl y0)] [] M3))))))))) := (zwp_blk (stops := [8, 48, 79, 94, 125, 156]) (fuel := 108) pe_194).trans rfl
set_option maxHeartbeats 4000000 in
set_option maxRecDepth 100000 in
theorem fe_194_125 {d : Nat} {K : Kt} {M : Mm} {x1 x2 x4 : Int} : zWp (zSp d) 194 K 125 [some (.inr (.inr 154)), some (.inl x1), some (.inr (.inl x2)), none, some (.inl x4)] [] M = (zSp d 143 [.inr (.inr 154)] M (fun z1 M1 => zC (zR32 z1) ((z1 = 0 → zWp (zSp d) 194 K 156 [some (.inr (.inr 154)), some (.inl x1), some (.inr (.inl x2)), none, some (.inl x4)] [] M1) ∧ (¬ (z1 = 0) → zSp d 155 [.inl 119, .inl 104, .inl 101, .inl 110, .inl 0, .inl 0] M1 (fun z2 M2 => zSp d 159 [.inr (.inr 154), .inr (.inl z2)] M2 (fun z3 M3 => zC (zR32 z3) ((¬ z3 = 0 → zWp (zSp d) 194 K 156 [some (.inr (.inr 154)), some (.inl x1), some (.inr (.inl x2)), none, some (.inl x4)] [] M3) ∧ (¬ (¬ z3 = 0) → zSp d 151 [.inr (.inr 154)] M3 (fun _ M4 => zWp (zSp d) 194 K 156 [some (.inr (.inr 154)), some (.inl x1), some (.inr (.inl x2)), none, some (.inl x4)] [] M4))))))))) := (zwp_blk (stops := [8, 48, 79, 94, 125, 156]) (fuel := 108) pe_194).trans rfl
set_option maxHeartbeats 4000000 in
set_option maxRecDepth 100000 in
theorem fe_194_156 {d : Nat} {K : Kt} {M : Mm} {x1 x2 x4 : Int} : zWp (zSp d) 194 K 156 [some (.inr (.inr 154)), some (.inl x1), some (.inr (.inl x2)), none, some (.inl x4)] [] M = (zSp d 143 [.inr (.inr 154)] M (fun z1 M1 => zC (zR32 z1) ((¬ z1 = 0 → zC (zSm x1 6) (zC (zSm x1 6) (zC (zSm x1 7) (zSp d 192 [.inr (.inr 154)] (zUp (zUp (zUp M1 175 x1 x2) 173 x1 x4) 171 x1 (M1 154 38)) (fun _ M2 => zSp d 154 [.inr (.inr 154), .inl 59] M2 (fun _ M3 => K 0 M3)))))) ∧ (¬ (¬ z1 = 0) → K 0 M1)))) := (zwp_blk (stops := [8, 48, 79, 94, 125, 156]) (fuel := 108) pe_194).trans rfl
theorem pe_195 : zPg 195 = pg_195 := rfl
/-! 195 LeastFailingModel.fault -/
set_option maxHeartbeats 4000000 in
set_option maxRecDepth 100000 in
theorem me_195 {d : Nat} {K : Kt} {M : Mm} {a1 : Int} : zSp (d + 1) 195 [.inr (.inr 154), .inl a1] M K = (zC (zR32 a1) ((¬ a1 = 0 → zC (zR32 a1) ((¬ a1 = 1 → K (-1) (zUp M 154 0 0)) ∧ (¬ (¬ a1 = 1) → K (M 154 9) (zUp M 154 0 0)))) ∧ (¬ (¬ a1 = 0) → K (M 154 8) (zUp M 154 0 0)))) := (zwp_blk (stops := []) (fuel := 21) pe_195).trans rfl
theorem pe_196 : zPg 196 = pg_196 := rfl
/-! 196 LeastFailingModel.lays -/
set_option maxHeartbeats 4000000 in
set_option maxRecDepth 100000 in
theorem me_196 {d : Nat} {K : Kt} {M : Mm} {a1 : Int} : zSp (d + 1) 196 [.inr (.inr 154), .inl a1] M K = (zWp (zSp d) 196 K 7 [some (.inr (.inr 154)), some (.inl a1), some (.inl 0), none, none, none] [] (zUp M 154 46 0)) := (zwp_blk (stops := [7, 48, 63, 128]) (fuel := 113) pe_196).trans rfl
set_option maxHeartbeats 4000000 in
set_option maxRecDepth 100000 in
theorem fe_196_7 {d : Nat} {K : Kt} {M : Mm} {x1 x2 : Int} {u3 u4 u5 : Option Vl} : zWp (zSp d) 196 K 7 [some (.inr (.inr 154)), some (.inl x1), some (.inl x2), u3, u4, u5] [] M = (zSp d 174 [.inr (.inr 154), .inl x1] M (fun z1 M1 => zC (zR32 x2) (zC (zR32 z1) ((z1 ≤ x2 → K 0 M1) ∧ (¬ (z1 ≤ x2) → zC (zR32 x2) ((¬ x2 = 0 → zWp (zSp d) 196 K 48 [some (.inr (.inr 154)), some (.inl x1), some (.inl x2), u3, u4, u5] [] M1) ∧ (¬ (¬ x2 = 0) → zWp (zSp d) 196 K 48 [some (.inr (.inr 154)), some (.inl x1), some (.inl x2), u3, u4, u5] [] (zUp (zUp (zUp (zUp M1 177 0 (-1)) 178 0 0) 179 0 (-1)) 180 0 0)))))))) := (zwp_blk (stops := [7, 48, 63, 128]) (fuel := 113) pe_196).trans rfl
set_option maxHeartbeats 4000000 in
set_option maxRecDepth 100000 in
theorem fe_196_48 {d : Nat} {K : Kt} {M : Mm} {x1 x2 : Int} {u3 u4 u5 : Option Vl} : zWp (zSp d) 196 K 48 [some (.inr (.inr 154)), some (.inl x1), some (.inl x2), u3, u4, u5] [] M = (zSp d 175 [.inr (.inr 154), .inl x1, .inl x2] M (fun z1 M1 => zWp (zSp d) 196 K 63 [some (.inr (.inr 154)), some (.inl x1), some (.inl x2), some (.inl 0), some (.inl z1), some (.inl (x2 + 1))] [] M1)) := (zwp_blk (stops := [7, 48, 63, 128]) (fuel := 113) pe_196).trans rfl
set_option maxHeartbeats 4000000 in
set_option maxRecDepth 100000 in
theorem fe_196_63 {d : Nat} {K : Kt} {M : Mm} {x1 x2 x3 x4 x5 : Int} : zWp (zSp d) 196 K 63 [some (.inr (.inr 154)), some (.inl x1), some (.inl x2), some (.inl x3), some (.inl x4), some (.inl x5)] [] M = (zSp d 176 [.inr (.inr 154), .inl x1, .inl x2] M (fun z1 M1 => zC (zR32 x5) (zC (zR32 (x2 + z1)) (((x2 + z1) ≤ x5 → zC (zSm x2 80) (zC (zR32 (M1 178 x2)) (zC (zR32 (M1 154 46)) (((M1 178 x2) ≤ (M1 154 46) → zWp (zSp d) 196 K 7 [some (.inr (.inr 154)), some (.inl x1), some (.inl (x2 + 1)), some (.inl x3), some (.inl x4), some (.inl x5)] [] M1) ∧ (¬ ((M1 178 x2) ≤ (M1 154 46)) → zC (zSm x2 80) (zWp (zSp d) 196 K 7 [some (.inr (.inr 154)), some (.inl x1), some (.inl (x2 + 1)), some (.inl x3), some (.inl x4), some (.inl x5)] [] (zUp M1 154 46 (M1 178 x2)))))))) ∧ (¬ ((x2 + z1) ≤ x5) → zC (zSm x5 80) (zC (zSm x2 80) (zC (zSm x5 80) (zC (zSm x5 80) (zSp d 172 [.inr (.inr 154), .inl x4] (zUp (zUp (zUp M1 177 x5 x2) 178 x5 ((M1 178 x2) + 1)) 179 x5 x3) (fun z2 M2 => zC (zR32 x3) (zC (zR32 z2) ((x3 < z2 → zWp (zSp d) 196 K 128 [some (.inr (.inr 154)), some (.inl x1), some (.inl x2), some (.inl x3), some (.inl x4), some (.inl x5)] [.inl 0, .inl x5, .inr (.inr 180)] M2) ∧ (¬ (x3 < z2) → zWp (zSp d) 196 K 128 [some (.inr (.inr 154)), some (.inl x1), some (.inl x2), some (.inl x3), some (.inl x4), some (.inl x5)] [.inl 1, .inl x5, .inr (.inr 180)] M2))))))))))))) := (zwp_blk (stops := [7, 48, 63, 128]) (fuel := 113) pe_196).trans rfl
set_option maxHeartbeats 4000000 in
set_option maxRecDepth 100000 in
theorem fe_196_128 {d : Nat} {K : Kt} {M : Mm} {x1 x2 x3 x4 x5 y1 y2 : Int} : zWp (zSp d) 196 K 128 [some (.inr (.inr 154)), some (.inl x1), some (.inl x2), some (.inl x3), some (.inl x4), some (.inl x5)] [.inl y2, .inl y1, .inr (.inr 180)] M = (zC (zSm y1 80) (zC (zBo y2) (zSp d 176 [.inr (.inr 154), .inl x1, .inl x5] (zUp M 180 y1 y2) (fun z1 M1 => zWp (zSp d) 196 K 63 [some (.inr (.inr 154)), some (.inl x1), some (.inl x2), some (.inl (x3 + 1)), some (.inl x4), some (.inl (x5 + z1))] [] M1)))) := (zwp_blk (stops := [7, 48, 63, 128]) (fuel := 113) pe_196).trans rfl
theorem pe_197 : zPg 197 = pg_197 := rfl
/-! 197 LeastFailingModel.sortAt -/
set_option maxHeartbeats 4000000 in
set_option maxRecDepth 100000 in
theorem me_197 {d : Nat} {K : Kt} {M : Mm} {a1 a2 : Int} : zSp (d + 1) 197 [.inr (.inr 154), .inl a1, .inl a2] M K = (zSp d 175 [.inr (.inr 154), .inl a1, .inl a2] M (fun z1 M1 => zSp d 170 [.inr (.inr 154), .inl z1, .inl 0] M1 (fun z2 M2 => K z2 M2))) := (zwp_blk (stops := []) (fuel := 13) pe_197).trans rfl
theorem pe_198 : zPg 198 = pg_198 := rfl
/-! 198 LeastFailingModel.leastAt -/
set_option maxHeartbeats 4000000 in
set_option maxRecDepth 100000 in
theorem me_198 {d : Nat} {K : Kt} {M : Mm} {a1 a2 : Int} : zSp (d + 1) 198 [.inr (.inr 154), .inl a1, .inl a2] M K = (zWp (zSp d) 198 K 5 [some (.inr (.inr 154)), some (.inl a1), some (.inl a2), some (.inl a1), some (.inl a2), none, none] [] M) := (zwp_blk (stops := [5, 24]) (fuel := 57) pe_198).trans rfl
set_option maxHeartbeats 4000000 in
set_option maxRecDepth 100000 in
theorem fe_198_5 {d : Nat} {K : Kt} {M : Mm} {x1 x2 x3 x4 : Int} {u5 u6 : Option Vl} : zWp (zSp d) 198 K 5 [some (.inr (.inr 154)), some (.inl x1), some (.inl x2), some (.inl x3), some (.inl x4), u5, u6] [] M = (zC (zR32 x4) ((x4 ≤ 0 → zC (zSm x3 6) (K (M 163 x3) M)) ∧ (¬ (x4 ≤ 0) → zC (zSm x3 6) (zWp (zSp d) 198 K 24 [some (.inr (.inr 154)), some (.inl x1), some (.inl x2), some (.inl x3), some (.inl (x4 + (-1))), some (.inl (M 163 x3)), some (.inl 0)] [] M)))) := (zwp_blk (stops := [5, 24]) (fuel := 57) pe_198).trans rfl
set_option maxHeartbeats 4000000 in
set_option maxRecDepth 100000 in
theorem fe_198_24 {d : Nat} {K : Kt} {M : Mm} {x1 x2 x3 x4 x5 x6 : Int} : zWp (zSp d) 198 K 24 [some (.inr (.inr 154)), some (.inl x1), some (.inl x2), some (.inl x3), some (.inl x4), some (.inl x5), some (.inl x6)] [] M = (zSp d 170 [.inr (.inr 154), .inl x5, .inl (4 + x6)] M (fun z1 M1 => zC (zSm z1 6) (zC (zR32 x4) (zC (zR32 (M1 162 z1)) ((x4 < (M1 162 z1) → zSp d 170 [.inr (.inr 154), .inl x5, .inl (4 + x6)] M1 (fun z2 M2 => zWp (zSp d) 198 K 5 [some (.inr (.inr 154)), some (.inl x1), some (.inl x2), some (.inl z2), some (.inl x4), some (.inl x5), some (.inl x6)] [] M2)) ∧ (¬ (x4 < (M1 162 z1)) → zSp d 170 [.inr (.inr 154), .inl x5, .inl (4 + x6)] M1 (fun z3 M3 => zC (zSm z3 6) (zWp (zSp d) 198 K 24 [some (.inr (.inr 154)), some (.inl x1), some (.inl x2), some (.inl x3), some (.inl (x4 - (M3 162 z3))), some (.inl x5), some (.inl (x6 + 1))] [] M3)))))))) := (zwp_blk (stops := [5, 24]) (fuel := 57) pe_198).trans rfl
theorem pe_199 : zPg 199 = pg_199 := rfl
/-! 199 LeastFailingModel.deepOf -/
set_option maxHeartbeats 4000000 in
set_option maxRecDepth 100000 in
theorem me_199 {d : Nat} {K : Kt} {M : Mm} {a1 : Int} : zSp (d + 1) 199 [.inr (.inr 154), .inl a1] M K = (zWp (zSp d) 199 K 7 [some (.inr (.inr 154)), some (.inl a1), some (.inl 0), some (.inl 0), some (.inl 0)] [] M) := (zwp_blk (stops := [7, 17, 40, 50]) (fuel := 50) pe_199).trans rfl
set_option maxHeartbeats 4000000 in
set_option maxRecDepth 100000 in
theorem fe_199_7 {d : Nat} {K : Kt} {M : Mm} {x1 x2 x3 x4 : Int} : zWp (zSp d) 199 K 7 [some (.inr (.inr 154)), some (.inl x1), some (.inl x2), some (.inl x3), some (.inl x4)] [] M = (zSp d 174 [.inr (.inr 154), .inl x1] M (fun z1 M1 => zC (zR32 x4) (zC (zR32 z1) ((z1 ≤ x4 → K x2 M1) ∧ (¬ (z1 ≤ x4) → zWp (zSp d) 199 K 17 [some (.inr (.inr 154)), some (.inl x1), some (.inl x2), some (.inl x3), some (.inl x4)] [] M1))))) := (zwp_blk (stops := [7, 17, 40, 50]) (fuel := 50) pe_199).trans rfl
set_option maxHeartbeats 4000000 in
set_option maxRecDepth 100000 in
theorem fe_199_17 {d : Nat} {K : Kt} {M : Mm} {x1 x2 x3 x4 : Int} : zWp (zSp d) 199 K 17 [some (.inr (.inr 154)), some (.inl x1), some (.inl x2), some (.inl x3), some (.inl x4)] [] M = (zC (zR32 x3) ((x3 ≤ 0 → zWp (zSp d) 199 K 40 [some (.inr (.inr 154)), some (.inl x1), some (.inl x2), some (.inl x3), some (.inl x4)] [] M) ∧ (¬ (x3 ≤ 0) → zC (zSm (x3 - 1) 96) (zC (zR32 (M 189 (x3 - 1))) (zC (zR32 x4) ((x4 < (M 189 (x3 - 1)) → zWp (zSp d) 199 K 40 [some (.inr (.inr 154)), some (.inl x1), some (.inl x2), some (.inl x3), some (.inl x4)] [] M) ∧ (¬ (x4 < (M 189 (x3 - 1))) → zWp (zSp d) 199 K 17 [some (.inr (.inr 154)), some (.inl x1), some (.inl x2), some (.inl (x3 + (-1))), some (.inl x4)] [] M))))))) := (zwp_blk (stops := [7, 17, 40, 50]) (fuel := 50) pe_199).trans rfl
set_option maxHeartbeats 4000000 in
set_option maxRecDepth 100000 in
theorem fe_199_40 {d : Nat} {K : Kt} {M : Mm} {x1 x2 x3 x4 : Int} : zWp (zSp d) 199 K 40 [some (.inr (.inr 154)), some (.inl x1), some (.inl x2), some (.inl x3), some (.inl x4)] [] M = (zC (zR32 x3) (zC (zR32 x2) ((x3 ≤ x2 → zWp (zSp d) 199 K 50 [some (.inr (.inr 154)), some (.inl x1), some (.inl x2), some (.inl x3), some (.inl x4)] [.inl x2] M) ∧ (¬ (x3 ≤ x2) → zWp (zSp d) 199 K 50 [some (.inr (.inr 154)), some (.inl x1), some (.inl x2), some (.inl x3), some (.inl x4)] [.inl x3] M)))) := (zwp_blk (stops := [7, 17, 40, 50]) (fuel := 50) pe_199).trans rfl
set_option maxHeartbeats 4000000 in
set_option maxRecDepth 100000 in
theorem fe_199_50 {d : Nat} {K : Kt} {M : Mm} {x1 x2 x3 x4 y0 : Int} : zWp (zSp d) 199 K 50 [some (.inr (.inr 154)), some (.inl x1), some (.inl x2), some (.inl x3), some (.inl x4)] [.inl y0] M = (zSp d 176 [.inr (.inr 154), .inl x1, .inl x4] M (fun z1 M1 => zC (zSm x3 96) (zWp (zSp d) 199 K 7 [some (.inr (.inr 154)), some (.inl x1), some (.inl y0), some (.inl (x3 + 1)), some (.inl (x4 + 1))] [] (zUp M1 189 x3 (x4 + z1))))) := (zwp_blk (stops := [7, 17, 40, 50]) (fuel := 50) pe_199).trans rfl
theorem pe_200 : zPg 200 = pg_200 := rfl
/-! 200 LeastFailingModel.underOf -/
set_option maxHeartbeats 4000000 in
set_option maxRecDepth 100000 in
theorem me_200 {d : Nat} {K : Kt} {M : Mm} {a1 a2 a3 : Int} : zSp (d + 1) 200 [.inr (.inr 154), .inl a1, .inl a2, .inl a3] M K = (zWp (zSp d) 200 K 9 [some (.inr (.inr 154)), some (.inl a1), some (.inl a2), some (.inl a3), some (.inl 0), some (.inl 0), some (.inl 0)] [] M) := (zwp_blk (stops := [9, 43, 44]) (fuel := 57) pe_200).trans rfl
set_option maxHeartbeats 4000000 in
set_option maxRecDepth 100000 in
theorem fe_200_9 {d : Nat} {K : Kt} {M : Mm} {x1 x2 x3 x4 x5 x6 : Int} : zWp (zSp d) 200 K 9 [some (.inr (.inr 154)), some (.inl x1), some (.inl x2), some (.inl x3), some (.inl x4), some (.inl x5), some (.inl x6)] [] M = (zSp d 174 [.inr (.inr 154), .inl x1] M (fun z1 M1 => zC (zR32 x6) (zC (zR32 z1) ((z1 ≤ x6 → K x4 M1) ∧ (¬ (z1 ≤ x6) → zC (zR32 x6) (zC (zR32 x5) ((x5 ≤ x6 → zWp (zSp d) 200 K 43 [some (.inr (.inr 154)), some (.inl x1), some (.inl x2), some (.inl x3), some (.inl x4), some (.inl x5), some (.inl x6)] [.inl x4] M1) ∧ (¬ (x5 ≤ x6) → zSp d 175 [.inr (.inr 154), .inl x1, .inl x6] M1 (fun z2 M2 => zC (zR32 z2) (zC (zR32 x3) ((¬ z2 = x3 → zWp (zSp d) 200 K 43 [some (.inr (.inr 154)), some (.inl x1), some (.inl x2), some (.inl x3), some (.inl x4), some (.inl x5), some (.inl x6)] [.inl x4] M2) ∧ (¬ (¬ z2 = x3) → zWp (zSp d) 200 K 44 [some (.inr (.inr 154)), some (.inl x1), some (.inl x2), some (.inl x3), some (.inl x4), some (.inl x5), some (.inl x6)] [.inl 1, .inl x4] M2)))))))))))) := (zwp_blk (stops := [9, 43, 44]) (fuel := 57) pe_200).trans rfl
set_option maxHeartbeats 4000000 in
set_option maxRecDepth 100000 in
theorem fe_200_43 {d : Nat} {K : Kt} {M : Mm} {x1 x2 x3 x4 x5 x6 y0 : Int} : zWp (zSp d) 200 K 43 [some (.inr (.inr 154)), some (.inl x1), some (.inl x2), some (.inl x3), some (.inl x4), some (.inl x5), some (.inl x6)] [.inl y0] M = (zWp (zSp d) 200 K 44 [some (.inr (.inr 154)), some (.inl x1), some (.inl x2), some (.inl x3), some (.inl x4), some (.inl x5), some (.inl x6)] [.inl 0, .inl y0] M) := (zwp_blk (stops := [9, 43, 44]) (fuel := 57) pe_200).trans rfl
set_option maxHeartbeats 4000000 in
set_option maxRecDepth 100000 in
theorem fe_200_44 {d : Nat} {K : Kt} {M : Mm} {x1 x2 x3 x4 x5 x6 y0 y1 : Int} : zWp (zSp d) 200 K 44 [some (.inr (.inr 154)), some (.inl x1), some (.inl x2), some (.inl x3), some (.inl x4), some (.inl x5), some (.inl x6)] [.inl y1, .inl y0] M = (zSp d 138 [.inl y1] M (fun z1 M1 => zSp d 175 [.inr (.inr 154), .inl x1, .inl x6] M1 (fun z2 M2 => zC (zR32 z2) (zC (zR32 x2) ((¬ z2 = x2 → zWp (zSp d) 200 K 9 [some (.inr (.inr 154)), some (.inl x1), some (.inl x2), some (.inl x3), some (.inl (y0 + z1)), some (.inl x5), some (.inl (x6 + 1))] [] M2) ∧ (¬ (¬ z2 = x2) → zSp d 176 [.inr (.inr 154), .inl x1, .inl x6] M2 (fun z3 M3 => zC (zR32 (x6 + z3)) (zC (zR32 x5) (((x6 + z3) ≤ x5 → zWp (zSp d) 200 K 9 [some (.inr (.inr 154)), some (.inl x1), some (.inl x2), some (.inl x3), some (.inl (y0 + z1)), some (.inl x5), some (.inl (x6 + 1))] [] M3) ∧ (¬ ((x6 + z3) ≤ x5) → zSp d 176 [.inr (.inr 154), .inl x1, .inl x6] M3 (fun z4 M4 => zWp (zSp d) 200 K 9 [some (.inr (.inr 154)), some (.inl x1), some (.inl x2), some (.inl x3), some (.inl (y0 + z1)), some (.inl (x6 + z4)), some (.inl (x6 + 1))] [] M4))))))))))) := (zwp_blk (stops := [9, 43, 44]) (fuel := 57) pe_200).trans rfl
theorem pe_201 : zPg 201 = pg_201 := rfl
/-! 201 LeastFailingModel.nextOf -/
set_option maxHeartbeats 4000000 in
set_option maxRecDepth 100000 in
theorem me_201 {d : Nat} {K : Kt} {M : Mm} {a1 a2 a3 : Int} : zSp (d + 1) 201 [.inr (.inr 154), .inl a1, .inl a2, .inl a3] M K = (zWp (zSp d) 201 K 6 [some (.inr (.inr 154)), some (.inl a1), some (.inl a2), some (.inl a3), some (.inl 0), some (.inl 0), none, none, none] [] M) := (zwp_blk (stops := [6, 34, 88, 89]) (fuel := 69) pe_201).trans rfl
set_option maxHeartbeats 4000000 in
set_option maxRecDepth 100000 in
theorem fe_201_6 {d : Nat} {K : Kt} {M : Mm} {x1 x2 x3 x4 x5 : Int} {u6 u7 u8 : Option Vl} : zWp (zSp d) 201 K 6 [some (.inr (.inr 154)), some (.inl x1), some (.inl x2), some (.inl x3), some (.inl x4), some (.inl x5), u6, u7, u8] [] M = (zSp d 174 [.inr (.inr 154), .inl x1] M (fun z1 M1 => zC (zR32 x5) (zC (zR32 z1) ((z1 ≤ x5 → K x4 M1) ∧ (¬ (z1 ≤ x5) → zSp d 176 [.inr (.inr 154), .inl x1, .inl x5] M1 (fun z2 M2 => zWp (zSp d) 201 K 34 [some (.inr (.inr 154)), some (.inl x1), some (.inl x2), some (.inl x3), some (.inl x4), some (.inl x5), some (.inl (x5 + z2)), some (.inl (x5 + 1)), u8] [] M2)))))) := (zwp_blk (stops := [6, 34, 88, 89]) (fuel := 69) pe_201).trans rfl
set_option maxHeartbeats 4000000 in
set_option maxRecDepth 100000 in
theorem fe_201_34 {d : Nat} {K : Kt} {M : Mm} {x1 x2 x3 x4 x5 x6 x7 : Int} {u8 : Option Vl} : zWp (zSp d) 201 K 34 [some (.inr (.inr 154)), some (.inl x1), some (.inl x2), some (.inl x3), some (.inl x4), some (.inl x5), some (.inl x6), some (.inl x7), u8] [] M = (zC (zR32 x7) (zC (zR32 x6) ((x6 ≤ x7 → zWp (zSp d) 201 K 6 [some (.inr (.inr 154)), some (.inl x1), some (.inl x2), some (.inl x3), some (.inl x4), some (.inl (x5 + 1)), some (.inl x6), some (.inl x7), u8] [] M) ∧ (¬ (x6 ≤ x7) → zSp d 176 [.inr (.inr 154), .inl x1, .inl x7] M (fun z1 M1 => zC (zR32 (x7 + z1)) (zC (zR32 x6) ((x6 ≤ (x7 + z1) → zWp (zSp d) 201 K 88 [some (.inr (.inr 154)), some (.inl x1), some (.inl x2), some (.inl x3), some (.inl x4), some (.inl x5), some (.inl x6), some (.inl x7), some (.inl (x7 + z1))] [.inl x4] M1) ∧ (¬ (x6 ≤ (x7 + z1)) → zSp d 175 [.inr (.inr 154), .inl x1, .inl x7] M1 (fun z2 M2 => zC (zR32 z2) (zC (zR32 x2) ((¬ z2 = x2 → zWp (zSp d) 201 K 88 [some (.inr (.inr 154)), some (.inl x1), some (.inl x2), some (.inl x3), some (.inl x4), some (.inl x5), some (.inl x6), some (.inl x7), some (.inl (x7 + z1))] [.inl x4] M2) ∧ (¬ (¬ z2 = x2) → zSp d 175 [.inr (.inr 154), .inl x1, .inl (x7 + z1)] M2 (fun z3 M3 => zC (zR32 z3) (zC (zR32 x3) ((¬ z3 = x3 → zWp (zSp d) 201 K 88 [some (.inr (.inr 154)), some (.inl x1), some (.inl x2), some (.inl x3), some (.inl x4), some (.inl x5), some (.inl x6), some (.inl x7), some (.inl (x7 + z1))] [.inl x4] M3) ∧ (¬ (¬ z3 = x3) → zWp (zSp d) 201 K 89 [some (.inr (.inr 154)), some (.inl x1), some (.inl x2), some (.inl x3), some (.inl x4), some (.inl x5), some (.inl x6), some (.inl x7), some (.inl (x7 + z1))] [.inl 1, .inl x4] M3)))))))))))))))) := (zwp_blk (stops := [6, 34, 88, 89]) (fuel := 69) pe_201).trans rfl
set_option maxHeartbeats 4000000 in
set_option maxRecDepth 100000 in
theorem fe_201_88 {d : Nat} {K : Kt} {M : Mm} {x1 x2 x3 x4 x5 x6 x7 x8 y0 : Int} : zWp (zSp d) 201 K 88 [some (.inr (.inr 154)), some (.inl x1), some (.inl x2), some (.inl x3), some (.inl x4), some (.inl x5), some (.inl x6), some (.inl x7), some (.inl x8)] [.inl y0] M = (zWp (zSp d) 201 K 89 [some (.inr (.inr 154)), some (.inl x1), some (.inl x2), some (.inl x3), some (.inl x4), some (.inl x5), some (.inl x6), some (.inl x7), some (.inl x8)] [.inl 0, .inl y0] M) := (zwp_blk (stops := [6, 34, 88, 89]) (fuel := 69) pe_201).trans rfl
set_option maxHeartbeats 4000000 in
set_option maxRecDepth 100000 in
theorem fe_201_89 {d : Nat} {K : Kt} {M : Mm} {x1 x2 x3 x4 x5 x6 x7 x8 y0 y1 : Int} : zWp (zSp d) 201 K 89 [some (.inr (.inr 154)), some (.inl x1), some (.inl x2), some (.inl x3), some (.inl x4), some (.inl x5), some (.inl x6), some (.inl x7), some (.inl x8)] [.inl y1, .inl y0] M = (zSp d 138 [.inl y1] M (fun z1 M1 => zSp d 176 [.inr (.inr 154), .inl x1, .inl x7] M1 (fun z2 M2 => zWp (zSp d) 201 K 34 [some (.inr (.inr 154)), some (.inl x1), some (.inl x2), some (.inl x3), some (.inl (y0 + z1)), some (.inl x5), some (.inl x6), some (.inl (x7 + z2)), some (.inl x8)] [] M2))) := (zwp_blk (stops := [6, 34, 88, 89]) (fuel := 69) pe_201).trans rfl
theorem pe_202 : zPg 202 = pg_202 := rfl
/-! 202 LeastFailingModel.hasOf -/
set_option maxHeartbeats 4000000 in
set_option maxRecDepth 100000 in
theorem me_202 {d : Nat} {K : Kt} {M : Mm} {a1 a2 : Int} : zSp (d + 1) 202 [.inr (.inr 154), .inl a1, .inl a2] M K = (zWp (zSp d) 202 K 5 [some (.inr (.inr 154)), some (.inl a1), some (.inl a2), some (.inl 0), some (.inl 0)] [] M) := (zwp_blk (stops := [5, 32]) (fuel := 31) pe_202).trans rfl
set_option maxHeartbeats 4000000 in
set_option maxRecDepth 100000 in
theorem fe_202_5 {d : Nat} {K : Kt} {M : Mm} {x1 x2 x3 x4 : Int} : zWp (zSp d) 202 K 5 [some (.inr (.inr 154)), some (.inl x1), some (.inl x2), some (.inl x3), some (.inl x4)] [] M = (zSp d 174 [.inr (.inr 154), .inl x1] M (fun z1 M1 => zC (zR32 x4) (zC (zR32 z1) ((z1 ≤ x4 → K x3 M1) ∧ (¬ (z1 ≤ x4) → zSp d 175 [.inr (.inr 154), .inl x1, .inl x4] M1 (fun z2 M2 => zC (zR32 z2) (zC (zR32 x2) ((¬ z2 = x2 → zWp (zSp d) 202 K 32 [some (.inr (.inr 154)), some (.inl x1), some (.inl x2), some (.inl x3), some (.inl x4)] [.inl 0, .inl x3] M2) ∧ (¬ (¬ z2 = x2) → zWp (zSp d) 202 K 32 [some (.inr (.inr 154)), some (.inl x1), some (.inl x2), some (.inl x3), some (.inl x4)] [.inl 1, .inl x3] M2))))))))) := (zwp_blk (stops := [5, 32]) (fuel := 31) pe_202).trans rfl
set_option maxHeartbeats 4000000 in
set_option maxRecDepth 100000 in
theorem fe_202_32 {d : Nat} {K : Kt} {M : Mm} {x1 x2 x3 x4 y0 y1 : Int} : zWp (zSp d) 202 K 32 [some (.inr (.inr 154)), some (.inl x1), some (.inl x2), some (.inl x3), some (.inl x4)] [.inl y1, .inl y0] M = (zSp d 138 [.inl y1] M (fun z1 M1 => zWp (zSp d) 202 K 5 [some (.inr (.inr 154)), some (.inl x1), some (.inl x2), some (.inl (y0 + z1)), some (.inl (x4 + 1))] [] M1)) := (zwp_blk (stops := [5, 32]) (fuel := 31) pe_202).trans rfl
theorem pe_203 : zPg 203 = pg_203 := rfl
/-! 203 LeastFailingModel.countOf -/
set_option maxHeartbeats 4000000 in
set_option maxRecDepth 100000 in
theorem me_203 {d : Nat} {K : Kt} {M : Mm} {a1 a2 a3 a4 : Int} : zSp (d + 1) 203 [.inr (.inr 154), .inl a1, .inl a2, .inl a3, .inl a4] M K = (zC (zR32 a2) (((a2 = 0 → zSp d 174 [.inr (.inr 154), .inl a1] M (fun z1 M1 => K z1 M1)) ∧ ((a2 = 1 → zSp d 199 [.inr (.inr 154), .inl a1] M (fun z2 M2 => K z2 M2)) ∧ ((a2 = 2 → zSp d 202 [.inr (.inr 154), .inl a1, .inl a3] M (fun z3 M3 => K z3 M3)) ∧ ((a2 = 3 → zSp d 200 [.inr (.inr 154), .inl a1, .inl a3, .inl a4] M (fun z4 M4 => K z4 M4)) ∧ True)))) ∧ ((a2 < 0 ∨ 3 < a2) → zSp d 201 [.inr (.inr 154), .inl a1, .inl a3, .inl a4] M (fun z5 M5 => K z5 M5)))) := (zwp_blk (stops := []) (fuel := 32) pe_203).trans rfl
theorem pe_204 : zPg 204 = pg_204 := rfl
/-! 204 LeastFailingModel.isSo -/
set_option maxHeartbeats 4000000 in
set_option maxRecDepth 100000 in
theorem me_204 {d : Nat} {K : Kt} {M : Mm} {a1 a2 : Int} : zSp (d + 1) 204 [.inr (.inr 154), .inl a1, .inl a2] M K = (zC (zSm (5 * a2) 2000) (zC (zSm ((5 * a2) + 1) 2000) (zC (zSm ((5 * a2) + 2) 2000) (zSp d 203 [.inr (.inr 154), .inl a1, .inl (M 168 (5 * a2)), .inl (M 168 ((5 * a2) + 1)), .inl (M 168 ((5 * a2) + 2))] M (fun z1 M1 => zC (zSm ((5 * a2) + 3) 2000) (zC (zSm ((5 * a2) + 4) 2000) (zC (zR32 (M1 168 ((5 * a2) + 3))) ((0 ≤ (M1 168 ((5 * a2) + 3)) → zC (zR32 (M1 168 ((5 * a2) + 3))) (((M1 168 ((5 * a2) + 3)) ≤ 0 → zC (zR32 z1) (zC (zR32 (M1 168 ((5 * a2) + 4))) ((¬ z1 = (M1 168 ((5 * a2) + 4)) → K 0 M1) ∧ (¬ (¬ z1 = (M1 168 ((5 * a2) + 4))) → K 1 M1)))) ∧ (¬ ((M1 168 ((5 * a2) + 3)) ≤ 0) → zC (zR32 z1) (zC (zR32 (M1 168 ((5 * a2) + 4))) ((z1 ≤ (M1 168 ((5 * a2) + 4)) → K 0 M1) ∧ (¬ (z1 ≤ (M1 168 ((5 * a2) + 4))) → K 1 M1)))))) ∧ (¬ (0 ≤ (M1 168 ((5 * a2) + 3))) → zC (zR32 z1) (zC (zR32 (M1 168 ((5 * a2) + 4))) (((M1 168 ((5 * a2) + 4)) ≤ z1 → K 0 M1) ∧ (¬ ((M1 168 ((5 * a2) + 4)) ≤ z1) → K 1 M1)))))))))))) := (zwp_blk (stops := []) (fuel := 74) pe_204).trans rfl
theorem pe_205 : zPg 205 = pg_205 := rfl
/-! 205 LeastFailingModel.holds -/
set_option maxHeartbeats 4000000 in
set_option maxRecDepth 100000 in
theorem me_205 {d : Nat} {K : Kt} {M : Mm} {a1 a2 : Int} : zSp (d + 1) 205 [.inr (.inr 154), .inl a1, .inl a2] M K = (zC (zSm a1 7) (zWp (zSp d) 205 K 10 [some (.inr (.inr 154)), some (.inl a1), some (.inl a2), some (.inl 0), some (.inl (M 170 a1)), none] [] M)) := (zwp_blk (stops := [10, 127]) (fuel := 109) pe_205).trans rfl
set_option maxHeartbeats 4000000 in
set_option maxRecDepth 100000 in
theorem fe_205_10 {d : Nat} {K : Kt} {M : Mm} {x1 x2 x3 x4 : Int} {u5 : Option Vl} : zWp (zSp d) 205 K 10 [some (.inr (.inr 154)), some (.inl x1), some (.inl x2), some (.inl x3), some (.inl x4), u5] [] M = (zC (zSm (x1 + 1) 7) (zC (zR32 x4) (zC (zR32 (M 170 (x1 + 1))) (((M 170 (x1 + 1)) ≤ x4 → zC (zR32 (M 176 0)) ((¬ (M 176 0) = 1 → K 0 M) ∧ (¬ (¬ (M 176 0) = 1) → K 1 M))) ∧ (¬ ((M 170 (x1 + 1)) ≤ x4) → zC (zSm (5 * x4) 2000) (zC (zR32 (M 168 (5 * x4))) ((¬ (M 168 (5 * x4)) = 10 → zC (zR32 (M 168 (5 * x4))) (((M 168 (5 * x4)) < 11 → zSp d 204 [.inr (.inr 154), .inl x2, .inl x4] M (fun z1 M1 => zSp d 138 [.inl z1] M1 (fun z2 M2 => zC (zSm x3 400) (zWp (zSp d) 205 K 10 [some (.inr (.inr 154)), some (.inl x1), some (.inl x2), some (.inl (x3 + 1)), some (.inl (x4 + 1)), some (.inl (M 168 (5 * x4)))] [] (zUp M2 176 x3 z2))))) ∧ (¬ ((M 168 (5 * x4)) < 11) → zC (zR32 (M 168 (5 * x4))) ((¬ (M 168 (5 * x4)) = 11 → zC (zSm ((x3 + (-1)) - 1) 400) (zC (zSm (x3 + (-1)) 400) (zC (zR32 ((M 176 ((x3 + (-1)) - 1)) + (M 176 (x3 + (-1))))) ((((M 176 ((x3 + (-1)) - 1)) + (M 176 (x3 + (-1)))) ≤ 0 → zWp (zSp d) 205 K 127 [some (.inr (.inr 154)), some (.inl x1), some (.inl x2), some (.inl (x3 + (-1))), some (.inl x4), some (.inl (M 168 (5 * x4)))] [.inl 0, .inl ((x3 + (-1)) - 1), .inr (.inr 176)] M) ∧ (¬ (((M 176 ((x3 + (-1)) - 1)) + (M 176 (x3 + (-1)))) ≤ 0) → zWp (zSp d) 205 K 127 [some (.inr (.inr 154)), some (.inl x1), some (.inl x2), some (.inl (x3 + (-1))), some (.inl x4), some (.inl (M 168 (5 * x4)))] [.inl 1, .inl ((x3 + (-1)) - 1), .inr (.inr 176)] M))))) ∧ (¬ (¬ (M 168 (5 * x4)) = 11) → zC (zSm ((x3 + (-1)) - 1) 400) (zC (zSm (x3 + (-1)) 400) (zC (zSm ((x3 + (-1)) - 1) 400) (zWp (zSp d) 205 K 10 [some (.inr (.inr 154)), some (.inl x1), some (.inl x2), some (.inl (x3 + (-1))), some (.inl (x4 + 1)), some (.inl (M 168 (5 * x4)))] [] (zUp M 176 ((x3 + (-1)) - 1) ((M 176 ((x3 + (-1)) - 1)) * (M 176 (x3 + (-1))))))))))))) ∧ (¬ (¬ (M 168 (5 * x4)) = 10) → zC (zSm (x3 - 1) 400) (zC (zSm (x3 - 1) 400) (zWp (zSp d) 205 K 10 [some (.inr (.inr 154)), some (.inl x1), some (.inl x2), some (.inl x3), some (.inl (x4 + 1)), some (.inl (M 168 (5 * x4)))] [] (zUp M 176 (x3 - 1) (1 - (M 176 (x3 - 1)))))))))))))) := (zwp_blk (stops := [10, 127]) (fuel := 109) pe_205).trans rfl
set_option maxHeartbeats 4000000 in
set_option maxRecDepth 100000 in
theorem fe_205_127 {d : Nat} {K : Kt} {M : Mm} {x1 x2 x3 x4 x5 y1 y2 : Int} : zWp (zSp d) 205 K 127 [some (.inr (.inr 154)), some (.inl x1), some (.inl x2), some (.inl x3), some (.inl x4), some (.inl x5)] [.inl y2, .inl y1, .inr (.inr 176)] M = (zSp d 138 [.inl y2] M (fun z1 M1 => zC (zSm y1 400) (zWp (zSp d) 205 K 10 [some (.inr (.inr 154)), some (.inl x1), some (.inl x2), some (.inl x3), some (.inl (x4 + 1)), some (.inl x5)] [] (zUp M1 176 y1 z1)))) := (zwp_blk (stops := [10, 127]) (fuel := 109) pe_205).trans rfl
theorem pe_206 : zPg 206 = pg_206 := rfl
/-! 206 LeastFailingModel.holdingOf -/
set_option maxHeartbeats 4000000 in
set_option maxRecDepth 100000 in
theorem me_206 {d : Nat} {K : Kt} {M : Mm} {a1 : Int} : zSp (d + 1) 206 [.inr (.inr 154), .inl a1] M K = (zWp (zSp d) 206 K 4 [some (.inr (.inr 154)), some (.inl a1), some (.inl 0), some (.inl 0)] [] M) := (zwp_blk (stops := [4]) (fuel := 28) pe_206).trans rfl
set_option maxHeartbeats 4000000 in
set_option maxRecDepth 100000 in
theorem fe_206_4 {d : Nat} {K : Kt} {M : Mm} {x1 x2 x3 : Int} : zWp (zSp d) 206 K 4 [some (.inr (.inr 154)), some (.inl x1), some (.inl x2), some (.inl x3)] [] M = (zC (zR32 x3) (zC (zR32 (M 154 37)) (((M 154 37) ≤ x3 → K x2 M) ∧ (¬ ((M 154 37) ≤ x3) → zSp d 205 [.inr (.inr 154), .inl x3, .inl x1] M (fun z1 M1 => zC (zR32 z1) ((z1 = 0 → zWp (zSp d) 206 K 4 [some (.inr (.inr 154)), some (.inl x1), some (.inl x2), some (.inl (x3 + 1))] [] M1) ∧ (¬ (z1 = 0) → zC (zSm x3 32) (zWp (zSp d) 206 K 4 [some (.inr (.inr 154)), some (.inl x1), some (.inl (zIorZ x2 (1 * 2 ^ x3.toNat))), some (.inl (x3 + 1))] [] M1)))))))) := (zwp_blk (stops := [4]) (fuel := 28) pe_206).trans rfl
theorem pe_207 : zPg 207 = pg_207 := rfl
/-! 207 LeastFailingModel.draw -/
set_option maxHeartbeats 4000000 in
set_option maxRecDepth 100000 in
theorem me_207 {d : Nat} {K : Kt} {M : Mm} : zSp (d + 1) 207 [.inr (.inr 154)] M K = (zC (zR64 ((1103515245 * (M 154 47)) + 12345)) (zC (zDv ((1103515245 * (M 154 47)) + 12345) 2147483648) (zC (zR64 (((1103515245 * (M 154 47)) + 12345) % 2147483648)) (zC (zDv (((1103515245 * (M 154 47)) + 12345) % 2147483648) 64) (zC (zR64 ((((1103515245 * (M 154 47)) + 12345) % 2147483648) / 64)) (zC (zDv ((((1103515245 * (M 154 47)) + 12345) % 2147483648) / 64) 100) (K (((((1103515245 * (M 154 47)) + 12345) % 2147483648) / 64) % 100) (zUp M 154 47 (((1103515245 * (M 154 47)) + 12345) % 2147483648))))))))) := (zwp_blk (stops := []) (fuel := 23) pe_207).trans rfl
theorem pe_208 : zPg 208 = pg_208 := rfl
/-! 208 LeastFailingModel.runOf -/
set_option maxHeartbeats 4000000 in
set_option maxRecDepth 100000 in
theorem me_208 {d : Nat} {K : Kt} {M : Mm} {a1 : Int} : zSp (d + 1) 208 [.inr (.inr 154), .inl a1] M K = (zWp (zSp d) 208 K 2 [some (.inr (.inr 154)), some (.inl a1), some (.inl 0)] [] M) := (zwp_blk (stops := [2]) (fuel := 37) pe_208).trans rfl
set_option maxHeartbeats 4000000 in
set_option maxRecDepth 100000 in
theorem fe_208_2 {d : Nat} {K : Kt} {M : Mm} {x1 x2 : Int} : zWp (zSp d) 208 K 2 [some (.inr (.inr 154)), some (.inl x1), some (.inl x2)] [] M = (zC (zR32 x2) (zC (zR32 (M 154 37)) (((M 154 37) ≤ x2 → K (-1) M) ∧ (¬ ((M 154 37) ≤ x2) → zC (zR32 x1) (zC (zSm x2 32) (zC (zR32 (zIandZ (x1 / 2 ^ x2.toNat) 1)) ((¬ (zIandZ (x1 / 2 ^ x2.toNat) 1) = 1 → zWp (zSp d) 208 K 2 [some (.inr (.inr 154)), some (.inl x1), some (.inl (x2 + 1))] [] M) ∧ (¬ (¬ (zIandZ (x1 / 2 ^ x2.toNat) 1) = 1) → zC (zSm x2 6) (zC (zR32 (M 172 x2)) (((M 172 x2) = 100 → K x2 M) ∧ (¬ ((M 172 x2) = 100) → zSp d 207 [.inr (.inr 154)] M (fun z1 M1 => zC (zSm x2 6) (zC (zR32 z1) (zC (zR32 (M1 172 x2)) (((M1 172 x2) ≤ z1 → zWp (zSp d) 208 K 2 [some (.inr (.inr 154)), some (.inl x1), some (.inl (x2 + 1))] [] M1) ∧ (¬ ((M1 172 x2) ≤ z1) → K x2 M1)))))))))))))))) := (zwp_blk (stops := [2]) (fuel := 37) pe_208).trans rfl
theorem pe_209 : zPg 209 = pg_209 := rfl
/-! 209 LeastFailingModel.forgets -/
set_option maxHeartbeats 4000000 in
set_option maxRecDepth 100000 in
theorem me_209 {d : Nat} {K : Kt} {M : Mm} : zSp (d + 1) 209 [.inr (.inr 154)] M K = (K 0 (zUp M 154 57 0)) := (zwp_blk (stops := []) (fuel := 9) pe_209).trans rfl
theorem pe_210 : zPg 210 = pg_210 := rfl
/-! 210 LeastFailingModel.cell -/
set_option maxHeartbeats 4000000 in
set_option maxRecDepth 100000 in
theorem me_210 {d : Nat} {K : Kt} {M : Mm} {a1 a2 : Int} : zSp (d + 1) 210 [.inr (.inr 154), .inl a1, .inl a2] M K = (zSp d 175 [.inr (.inr 154), .inl a1, .inl a2] M (fun z1 M1 => zSp d 176 [.inr (.inr 154), .inl a1, .inl a2] M1 (fun z2 M2 => K ((100 * z1) + z2) M2))) := (zwp_blk (stops := []) (fuel := 17) pe_210).trans rfl
theorem pe_211 : zPg 211 = pg_211 := rfl
/-! 211 LeastFailingModel.isTried -/
set_option maxHeartbeats 4000000 in
set_option maxRecDepth 100000 in
theorem me_211 {d : Nat} {K : Kt} {M : Mm} {a1 a2 : Int} : zSp (d + 1) 211 [.inr (.inr 154), .inl a1, .inl a2] M K = (zC (zSm a1 600) (zSp d 174 [.inr (.inr 154), .inl a2] M (fun z1 M1 => zC (zR32 (M 182 a1)) (zC (zR32 z1) (((M 182 a1) = z1 → zWp (zSp d) 211 K 18 [some (.inr (.inr 154)), some (.inl a1), some (.inl a2), some (.inl 0)] [] M1) ∧ (¬ ((M 182 a1) = z1) → K 0 M1)))))) := (zwp_blk (stops := [18]) (fuel := 41) pe_211).trans rfl
set_option maxHeartbeats 4000000 in
set_option maxRecDepth 100000 in
theorem fe_211_18 {d : Nat} {K : Kt} {M : Mm} {x1 x2 x3 : Int} : zWp (zSp d) 211 K 18 [some (.inr (.inr 154)), some (.inl x1), some (.inl x2), some (.inl x3)] [] M = (zSp d 174 [.inr (.inr 154), .inl x2] M (fun z1 M1 => zC (zR32 x3) (zC (zR32 z1) ((z1 ≤ x3 → K 1 M1) ∧ (¬ (z1 ≤ x3) → zC (zSm ((80 * x1) + x3) 48000) (zSp d 210 [.inr (.inr 154), .inl x2, .inl x3] M1 (fun z2 M2 => zC (zR32 (M1 181 ((80 * x1) + x3))) (zC (zR32 z2) (((M1 181 ((80 * x1) + x3)) = z2 → zWp (zSp d) 211 K 18 [some (.inr (.inr 154)), some (.inl x1), some (.inl x2), some (.inl (x3 + 1))] [] M2) ∧ (¬ ((M1 181 ((80 * x1) + x3)) = z2) → K 0 M2)))))))))) := (zwp_blk (stops := [18]) (fuel := 41) pe_211).trans rfl
theorem pe_212 : zPg 212 = pg_212 := rfl
/-! 212 LeastFailingModel.voted -/
set_option maxHeartbeats 4000000 in
set_option maxRecDepth 100000 in
theorem me_212 {d : Nat} {K : Kt} {M : Mm} {a1 : Int} : zSp (d + 1) 212 [.inr (.inr 154), .inl a1] M K = (zSp d 206 [.inr (.inr 154), .inl a1] M (fun z1 M1 => zWp (zSp d) 212 K 8 [some (.inr (.inr 154)), some (.inl a1), some (.inl z1), some (.inl 0), none] [] M1)) := (zwp_blk (stops := [8, 29, 90]) (fuel := 82) pe_212).trans rfl
set_option maxHeartbeats 4000000 in
set_option maxRecDepth 100000 in
theorem fe_212_8 {d : Nat} {K : Kt} {M : Mm} {x1 x2 x3 : Int} : zWp (zSp d) 212 K 8 [some (.inr (.inr 154)), some (.inl x1), some (.inl x2), some (.inl x3), none] [] M = (zC (zR32 x3) ((7 ≤ x3 → zWp (zSp d) 212 K 29 [some (.inr (.inr 154)), some (.inl x1), some (.inl x2), some (.inl 0), none] [] M) ∧ (¬ (7 ≤ x3) → zC (zSm x3 7) (zWp (zSp d) 212 K 8 [some (.inr (.inr 154)), some (.inl x1), some (.inl x2), some (.inl (x3 + 1)), none] [] (zUp M 186 x3 0))))) := (zwp_blk (stops := [8, 29, 90]) (fuel := 82) pe_212).trans rfl
set_option maxHeartbeats 4000000 in
set_option maxRecDepth 100000 in
theorem fe_212_29 {d : Nat} {K : Kt} {M : Mm} {x1 x2 x3 : Int} {u4 : Option Vl} : zWp (zSp d) 212 K 29 [some (.inr (.inr 154)), some (.inl x1), some (.inl x2), some (.inl x3), u4] [] M = (zC (zR32 x3) (zC (zR32 (M 154 48)) (((M 154 48) ≤ x3 → zWp (zSp d) 212 K 90 [some (.inr (.inr 154)), some (.inl x1), some (.inl x2), some (.inl 0), some (.inl 1)] [] (zUp M 154 50 ((M 154 50) + (M 154 48)))) ∧ (¬ ((M 154 48) ≤ x3) → zSp d 208 [.inr (.inr 154), .inl x2] M (fun z1 M1 => zC (zR32 z1) ((¬ z1 = (-1) → zC (zSm z1 7) (zC (zSm z1 7) (zWp (zSp d) 212 K 29 [some (.inr (.inr 154)), some (.inl x1), some (.inl x2), some (.inl (x3 + 1)), some (.inl z1)] [] (zUp M1 186 z1 ((M1 186 z1) + 1))))) ∧ (¬ (¬ z1 = (-1)) → zWp (zSp d) 212 K 29 [some (.inr (.inr 154)), some (.inl x1), some (.inl x2), some (.inl (x3 + 1)), some (.inl z1)] [] (zUp M1 186 6 ((M1 186 6) + 1))))))))) := (zwp_blk (stops := [8, 29, 90]) (fuel := 82) pe_212).trans rfl
set_option maxHeartbeats 4000000 in
set_option maxRecDepth 100000 in
theorem fe_212_90 {d : Nat} {K : Kt} {M : Mm} {x1 x2 x3 x4 : Int} : zWp (zSp d) 212 K 90 [some (.inr (.inr 154)), some (.inl x1), some (.inl x2), some (.inl x3), some (.inl x4)] [] M = (zC (zR32 x4) ((7 ≤ x4 → zC (zR32 x3) ((¬ x3 = 6 → K x3 M) ∧ (¬ (¬ x3 = 6) → K (-1) M))) ∧ (¬ (7 ≤ x4) → zC (zSm x4 7) (zC (zSm x3 7) (zC (zR32 (M 186 x4)) (zC (zR32 (M 186 x3)) (((M 186 x4) ≤ (M 186 x3) → zWp (zSp d) 212 K 90 [some (.inr (.inr 154)), some (.inl x1), some (.inl x2), some (.inl x3), some (.inl (x4 + 1))] [] M) ∧ (¬ ((M 186 x4) ≤ (M 186 x3)) → zWp (zSp d) 212 K 90 [some (.inr (.inr 154)), some (.inl x1), some (.inl x2), some (.inl x4), some (.inl (x4 + 1))] [] M)))))))) := (zwp_blk (stops := [8, 29, 90]) (fuel := 82) pe_212).trans rfl
theorem pe_213 : zPg 213 = pg_213 := rfl
/-! 213 LeastFailingModel.verdictOf -/
set_option maxHeartbeats 4000000 in
set_option maxRecDepth 100000 in
theorem me_213 {d : Nat} {K : Kt} {M : Mm} {a1 a2 a3 : Int} : zSp (d + 1) 213 [.inr (.inr 154), .inl a1, .inl a2, .inl a3] M K = (zWp (zSp d) 213 K 3 [some (.inr (.inr 154)), some (.inl a1), some (.inl a2), some (.inl a3), some (.inl 0), none] [] M) := (zwp_blk (stops := [3, 102]) (fuel := 101) pe_213).trans rfl
set_option maxHeartbeats 4000000 in
set_option maxRecDepth 100000 in
theorem fe_213_3 {d : Nat} {K : Kt} {M : Mm} {x1 x2 x3 x4 : Int} : zWp (zSp d) 213 K 3 [some (.inr (.inr 154)), some (.inl x1), some (.inl x2), some (.inl x3), some (.inl x4), none] [] M = (zC (zR32 x4) (zC (zR32 (M 154 57)) (((M 154 57) ≤ x4 → zC (zR32 (M 154 57)) ((¬ (M 154 57) = 600 → zSp d 174 [.inr (.inr 154), .inl x1] (zUp M 154 57 ((M 154 57) + 1)) (fun z1 M1 => zC (zSm (M 154 57) 600) (zWp (zSp d) 213 K 102 [some (.inr (.inr 154)), some (.inl x1), some (.inl x2), some (.inl x3), some (.inl (M 154 57)), some (.inl 0)] [] (zUp M1 182 (M 154 57) z1)))) ∧ (¬ (¬ (M 154 57) = 600) → K (-1) (zUp M 154 51 ((M 154 51) + 1))))) ∧ (¬ ((M 154 57) ≤ x4) → zSp d 211 [.inr (.inr 154), .inl x4, .inl x1] M (fun z2 M2 => zC (zR32 z2) ((¬ z2 = 0 → zC (zSm x4 600) (K (M2 183 x4) (zUp M2 154 49 ((M2 154 49) + 1)))) ∧ (¬ (¬ z2 = 0) → zWp (zSp d) 213 K 3 [some (.inr (.inr 154)), some (.inl x1), some (.inl x2), some (.inl x3), some (.inl (x4 + 1)), none] [] M2))))))) := (zwp_blk (stops := [3, 102]) (fuel := 101) pe_213).trans rfl
set_option maxHeartbeats 4000000 in
set_option maxRecDepth 100000 in
theorem fe_213_102 {d : Nat} {K : Kt} {M : Mm} {x1 x2 x3 x4 x5 : Int} : zWp (zSp d) 213 K 102 [some (.inr (.inr 154)), some (.inl x1), some (.inl x2), some (.inl x3), some (.inl x4), some (.inl x5)] [] M = (zSp d 174 [.inr (.inr 154), .inl x1] M (fun z1 M1 => zC (zR32 x5) (zC (zR32 z1) ((z1 ≤ x5 → zSp d 212 [.inr (.inr 154), .inl x1] M1 (fun z2 M2 => zC (zSm x4 600) (zC (zSm x4 600) (zC (zSm x4 600) (zC (zSm x4 600) (K ((zUp M2 183 x4 z2) 183 x4) (zUp (zUp (zUp M2 183 x4 z2) 184 x4 x2) 185 x4 x3))))))) ∧ (¬ (z1 ≤ x5) → zSp d 210 [.inr (.inr 154), .inl x1, .inl x5] M1 (fun z3 M3 => zC (zSm ((80 * x4) + x5) 48000) (zWp (zSp d) 213 K 102 [some (.inr (.inr 154)), some (.inl x1), some (.inl x2), some (.inl x3), some (.inl x4), some (.inl (x5 + 1))] [] (zUp M3 181 ((80 * x4) + x5) z3)))))))) := (zwp_blk (stops := [3, 102]) (fuel := 101) pe_213).trans rfl
theorem pe_214 : zPg 214 = pg_214 := rfl
/-! 214 LeastFailingModel.unmarks -/
set_option maxHeartbeats 4000000 in
set_option maxRecDepth 100000 in
theorem me_214 {d : Nat} {K : Kt} {M : Mm} : zSp (d + 1) 214 [.inr (.inr 154)] M K = (zWp (zSp d) 214 K 2 [some (.inr (.inr 154)), some (.inl 0)] [] M) := (zwp_blk (stops := [2]) (fuel := 18) pe_214).trans rfl
set_option maxHeartbeats 4000000 in
set_option maxRecDepth 100000 in
theorem fe_214_2 {d : Nat} {K : Kt} {M : Mm} {x1 : Int} : zWp (zSp d) 214 K 2 [some (.inr (.inr 154)), some (.inl x1)] [] M = (zC (zR32 x1) ((80 ≤ x1 → K 0 M) ∧ (¬ (80 ≤ x1) → zC (zSm x1 80) (zWp (zSp d) 214 K 2 [some (.inr (.inr 154)), some (.inl (x1 + 1))] [] (zUp M 187 x1 (-1)))))) := (zwp_blk (stops := [2]) (fuel := 18) pe_214).trans rfl
theorem pe_215 : zPg 215 = pg_215 := rfl
/-! 215 LeastFailingModel.addsLeast -/
set_option maxHeartbeats 4000000 in
set_option maxRecDepth 100000 in
theorem me_215 {d : Nat} {K : Kt} {M : Mm} {a1 : Int} : zSp (d + 1) 215 [.inr (.inr 154), .inl a1] M K = (zWp (zSp d) 215 K 2 [some (.inr (.inr 154)), some (.inl a1), some (.inl 0), none, none] [] M) := (zwp_blk (stops := [2]) (fuel := 39) pe_215).trans rfl
set_option maxHeartbeats 4000000 in
set_option maxRecDepth 100000 in
theorem fe_215_2 {d : Nat} {K : Kt} {M : Mm} {x1 x2 : Int} {u3 u4 : Option Vl} : zWp (zSp d) 215 K 2 [some (.inr (.inr 154)), some (.inl x1), some (.inl x2), u3, u4] [] M = (zC (zSm x1 6) (zC (zR32 x2) (zC (zR32 (M 162 x1)) (((M 162 x1) ≤ x2 → K 0 M) ∧ (¬ ((M 162 x1) ≤ x2) → zSp d 198 [.inr (.inr 154), .inl x1, .inl x2] M (fun z1 M1 => zSp d 178 [.inr (.inr 154), .inl 161, .inl z1] M1 (fun z2 M2 => zSp d 170 [.inr (.inr 154), .inl z1, .inl 0] M2 (fun z3 M3 => zC (zSm z3 6) (zC (zSm (242 + z2) 2093) (zWp (zSp d) 215 K 2 [some (.inr (.inr 154)), some (.inl x1), some (.inl (x2 + 1)), some (.inl z1), some (.inl z2)] [] (zUp M3 165 (242 + z2) (M3 162 z3)))))))))))) := (zwp_blk (stops := [2]) (fuel := 39) pe_215).trans rfl
theorem pe_216 : zPg 216 = pg_216 := rfl
/-! 216 LeastFailingModel.addsPart -/
set_option maxHeartbeats 4000000 in
set_option maxRecDepth 100000 in
theorem me_216 {d : Nat} {K : Kt} {M : Mm} {a1 : Int} : zSp (d + 1) 216 [.inr (.inr 154), .inl a1] M K = (zWp (zSp d) 216 K 2 [some (.inr (.inr 154)), some (.inl a1), some (.inl a1), none] [] M) := (zwp_blk (stops := [2]) (fuel := 36) pe_216).trans rfl
set_option maxHeartbeats 4000000 in
set_option maxRecDepth 100000 in
theorem fe_216_2 {d : Nat} {K : Kt} {M : Mm} {x1 x2 : Int} {u3 : Option Vl} : zWp (zSp d) 216 K 2 [some (.inr (.inr 154)), some (.inl x1), some (.inl x2), u3] [] M = (zSp d 176 [.inr (.inr 154), .inl 0, .inl x1] M (fun z1 M1 => zC (zR32 x2) (zC (zR32 (x1 + z1)) (((x1 + z1) ≤ x2 → K 0 M1) ∧ (¬ ((x1 + z1) ≤ x2) → zSp d 175 [.inr (.inr 154), .inl 0, .inl x2] M1 (fun z2 M2 => zSp d 178 [.inr (.inr 154), .inl 161, .inl z2] M2 (fun z3 M3 => zSp d 176 [.inr (.inr 154), .inl 0, .inl x2] M3 (fun z4 M4 => zC (zSm (242 + z3) 2093) (zWp (zSp d) 216 K 2 [some (.inr (.inr 154)), some (.inl x1), some (.inl (x2 + 1)), some (.inl z3)] [] (zUp M4 165 (242 + z3) z4)))))))))) := (zwp_blk (stops := [2]) (fuel := 36) pe_216).trans rfl
theorem pe_217 : zPg 217 = pg_217 := rfl
/-! 217 LeastFailingModel.builds -/
set_option maxHeartbeats 4000000 in
set_option maxRecDepth 100000 in
theorem me_217 {d : Nat} {K : Kt} {M : Mm} : zSp (d + 1) 217 [.inr (.inr 154)] M K = (zWp (zSp d) 217 K 13 [some (.inr (.inr 154)), some (.inl 0), some (.inl 0), none] [] (zUp M 165 161 0)) := (zwp_blk (stops := [13, 26, 77, 140]) (fuel := 116) pe_217).trans rfl
set_option maxHeartbeats 4000000 in
set_option maxRecDepth 100000 in
theorem fe_217_13 {d : Nat} {K : Kt} {M : Mm} {x1 x2 : Int} {u3 : Option Vl} : zWp (zSp d) 217 K 13 [some (.inr (.inr 154)), some (.inl x1), some (.inl x2), u3] [] M = (zC (zR32 x1) ((0 < x1 → zWp (zSp d) 217 K 26 [some (.inr (.inr 154)), some (.inl x1), some (.inl x2), u3] [] M) ∧ (¬ (0 < x1) → zSp d 174 [.inr (.inr 154), .inl 0] M (fun z1 M1 => zC (zR32 x2) (zC (zR32 z1) ((z1 ≤ x2 → K 0 M1) ∧ (¬ (z1 ≤ x2) → zWp (zSp d) 217 K 26 [some (.inr (.inr 154)), some (.inl x1), some (.inl x2), u3] [] M1))))))) := (zwp_blk (stops := [13, 26, 77, 140]) (fuel := 116) pe_217).trans rfl
set_option maxHeartbeats 4000000 in
set_option maxRecDepth 100000 in
theorem fe_217_26 {d : Nat} {K : Kt} {M : Mm} {x1 x2 : Int} {u3 : Option Vl} : zWp (zSp d) 217 K 26 [some (.inr (.inr 154)), some (.inl x1), some (.inl x2), u3] [] M = (zC (zR32 x1) ((x1 ≤ 0 → zWp (zSp d) 217 K 77 [some (.inr (.inr 154)), some (.inl x1), some (.inl x2), u3] [] M) ∧ (¬ (x1 ≤ 0) → zC (zSm (x1 - 1) 96) (zC (zR32 (M 189 (x1 - 1))) (zC (zR32 x2) ((¬ (M 189 (x1 - 1)) = x2 → zWp (zSp d) 217 K 77 [some (.inr (.inr 154)), some (.inl x1), some (.inl x2), u3] [] M) ∧ (¬ (¬ (M 189 (x1 - 1)) = x2) → zC (zSm (x1 + (-1)) 96) (zSp d 174 [.inr (.inr 154), .inl 161] M (fun z1 M1 => zC (zSm (x1 + (-1)) 96) (zC (zSm (242 + (M 190 (x1 + (-1)))) 2093) (zWp (zSp d) 217 K 13 [some (.inr (.inr 154)), some (.inl (x1 + (-1))), some (.inl x2), u3] [] (zUp M1 165 (242 + (M 190 (x1 + (-1)))) (z1 - (M1 190 (x1 + (-1)))))))))))))))) := (zwp_blk (stops := [13, 26, 77, 140]) (fuel := 116) pe_217).trans rfl
set_option maxHeartbeats 4000000 in
set_option maxRecDepth 100000 in
theorem fe_217_77 {d : Nat} {K : Kt} {M : Mm} {x1 x2 : Int} {u3 : Option Vl} : zWp (zSp d) 217 K 77 [some (.inr (.inr 154)), some (.inl x1), some (.inl x2), u3] [] M = (zSp d 174 [.inr (.inr 154), .inl 161] M (fun z1 M1 => zC (zSm x2 80) (zSp d 176 [.inr (.inr 154), .inl 0, .inl x2] (zUp M1 188 x2 z1) (fun z2 M2 => zC (zSm x2 80) (zC (zR32 (M2 187 x2)) ((¬ (M2 187 x2) = 1 → zC (zSm x2 80) (zC (zR32 (M2 187 x2)) ((¬ (M2 187 x2) = 2 → zWp (zSp d) 217 K 140 [some (.inr (.inr 154)), some (.inl x1), some (.inl x2), some (.inl (x2 + z2))] [] M2) ∧ (¬ (¬ (M2 187 x2) = 2) → zSp d 216 [.inr (.inr 154), .inl (M2 154 60)] M2 (fun _ M3 => zWp (zSp d) 217 K 140 [some (.inr (.inr 154)), some (.inl x1), some (.inl x2), some (.inl (x2 + z2))] [] M3))))) ∧ (¬ (¬ (M2 187 x2) = 1) → zSp d 197 [.inr (.inr 154), .inl 0, .inl x2] M2 (fun z4 M4 => zSp d 215 [.inr (.inr 154), .inl z4] M4 (fun _ M5 => zWp (zSp d) 217 K 140 [some (.inr (.inr 154)), some (.inl x1), some (.inl x2), some (.inl (x2 + z2))] [] M5))))))))) := (zwp_blk (stops := [13, 26, 77, 140]) (fuel := 116) pe_217).trans rfl
set_option maxHeartbeats 4000000 in
set_option maxRecDepth 100000 in
theorem fe_217_140 {d : Nat} {K : Kt} {M : Mm} {x1 x2 x3 : Int} : zWp (zSp d) 217 K 140 [some (.inr (.inr 154)), some (.inl x1), some (.inl x2), some (.inl x3)] [] M = (zC (zSm x2 80) (zC (zR32 (M 187 x2)) (((M 187 x2) = (-1) → zSp d 175 [.inr (.inr 154), .inl 0, .inl x2] M (fun z1 M1 => zSp d 178 [.inr (.inr 154), .inl 161, .inl z1] M1 (fun z2 M2 => zC (zSm x1 96) (zC (zSm x1 96) (zWp (zSp d) 217 K 13 [some (.inr (.inr 154)), some (.inl (x1 + 1)), some (.inl (x2 + 1)), some (.inl x3)] [] (zUp (zUp M2 190 x1 z2) 189 x1 x3)))))) ∧ (¬ ((M 187 x2) = (-1)) → zWp (zSp d) 217 K 13 [some (.inr (.inr 154)), some (.inl x1), some (.inl x3), some (.inl x3)] [] M)))) := (zwp_blk (stops := [13, 26, 77, 140]) (fuel := 116) pe_217).trans rfl
theorem pe_218 : zPg 218 = pg_218 := rfl
/-! 218 LeastFailingModel.canBeLeast -/
set_option maxHeartbeats 4000000 in
set_option maxRecDepth 100000 in
theorem me_218 {d : Nat} {K : Kt} {M : Mm} {a1 : Int} : zSp (d + 1) 218 [.inr (.inr 154), .inl a1] M K = (zSp d 197 [.inr (.inr 154), .inl 0, .inl a1] M (fun z1 M1 => zC (zSm z1 6) (zSp d 176 [.inr (.inr 154), .inl 0, .inl a1] M1 (fun z2 M2 => zC (zR32 (M1 162 z1)) (zC (zR32 z2) ((z2 ≤ (M1 162 z1) → K 0 M2) ∧ (¬ (z2 ≤ (M1 162 z1)) → K 1 M2))))))) := (zwp_blk (stops := []) (fuel := 21) pe_218).trans rfl
theorem pe_219 : zPg 219 = pg_219 := rfl
/-! 219 LeastFailingModel.changes -/
set_option maxHeartbeats 4000000 in
set_option maxRecDepth 100000 in
theorem me_219 {d : Nat} {K : Kt} {M : Mm} {a1 a2 a3 : Int} : zSp (d + 1) 219 [.inr (.inr 154), .inl a1, .inl a2, .inl a3] M K = (zSp d 214 [.inr (.inr 154)] M (fun _ M1 => zC (zSm a1 80) (zSp d 217 [.inr (.inr 154)] (zUp (zUp M1 187 a1 a2) 154 60 a3) (fun _ M2 => K 0 M2)))) := (zwp_blk (stops := []) (fuel := 18) pe_219).trans rfl
theorem pe_220 : zPg 220 = pg_220 := rfl
/-! 220 LeastFailingModel.isOne -/
set_option maxHeartbeats 4000000 in
set_option maxRecDepth 100000 in
theorem me_220 {d : Nat} {K : Kt} {M : Mm} {a1 a2 a3 : Int} : zSp (d + 1) 220 [.inr (.inr 154), .inl a1, .inl a2, .inl a3] M K = (K 0 (zUp (zUp (zUp M 154 64 a1) 154 65 a2) 154 66 a3)) := (zwp_blk (stops := []) (fuel := 15) pe_220).trans rfl
theorem pe_221 : zPg 221 = pg_221 := rfl
/-! 221 LeastFailingModel.singles -/
set_option maxHeartbeats 4000000 in
set_option maxRecDepth 100000 in
theorem me_221 {d : Nat} {K : Kt} {M : Mm} {a1 : Int} : zSp (d + 1) 221 [.inr (.inr 154), .inl a1] M K = (zSp d 196 [.inr (.inr 154), .inl 0] M (fun _ M1 => zWp (zSp d) 221 K 9 [some (.inr (.inr 154)), some (.inl a1), some (.inl 0), some (.inl 0), none] [] M1)) := (zwp_blk (stops := [9, 39, 42, 70]) (fuel := 81) pe_221).trans rfl
set_option maxHeartbeats 4000000 in
set_option maxRecDepth 100000 in
theorem fe_221_9 {d : Nat} {K : Kt} {M : Mm} {x1 x2 x3 : Int} {u4 : Option Vl} : zWp (zSp d) 221 K 9 [some (.inr (.inr 154)), some (.inl x1), some (.inl x2), some (.inl x3), u4] [] M = (zSp d 174 [.inr (.inr 154), .inl 0] M (fun z1 M1 => zC (zR32 x3) (zC (zR32 z1) ((z1 ≤ x3 → K x2 M1) ∧ (¬ (z1 ≤ x3) → zC (zSm x3 80) (zC (zR32 (M1 180 x3)) (((M1 180 x3) = 0 → zWp (zSp d) 221 K 42 [some (.inr (.inr 154)), some (.inl x1), some (.inl x2), some (.inl x3), u4] [] M1) ∧ (¬ ((M1 180 x3) = 0) → zC (zR32 x2) (zC (zR32 x1) ((¬ x2 = x1 → zWp (zSp d) 221 K 39 [some (.inr (.inr 154)), some (.inl x1), some (.inl x2), some (.inl x3), u4] [] M1) ∧ (¬ (¬ x2 = x1) → zSp d 220 [.inr (.inr 154), .inl x3, .inl 0, .inl (-1)] M1 (fun _ M2 => zWp (zSp d) 221 K 39 [some (.inr (.inr 154)), some (.inl x1), some (.inl x2), some (.inl x3), u4] [] M2)))))))))))) := (zwp_blk (stops := [9, 39, 42, 70]) (fuel := 81) pe_221).trans rfl
set_option maxHeartbeats 4000000 in
set_option maxRecDepth 100000 in
theorem fe_221_39 {d : Nat} {K : Kt} {M : Mm} {x1 x2 x3 : Int} {u4 : Option Vl} : zWp (zSp d) 221 K 39 [some (.inr (.inr 154)), some (.inl x1), some (.inl x2), some (.inl x3), u4] [] M = (zWp (zSp d) 221 K 42 [some (.inr (.inr 154)), some (.inl x1), some (.inl (x2 + 1)), some (.inl x3), u4] [] M) := (zwp_blk (stops := [9, 39, 42, 70]) (fuel := 81) pe_221).trans rfl
set_option maxHeartbeats 4000000 in
set_option maxRecDepth 100000 in
theorem fe_221_42 {d : Nat} {K : Kt} {M : Mm} {x1 x2 x3 : Int} {u4 : Option Vl} : zWp (zSp d) 221 K 42 [some (.inr (.inr 154)), some (.inl x1), some (.inl x2), some (.inl x3), u4] [] M = (zSp d 218 [.inr (.inr 154), .inl x3] M (fun z1 M1 => zC (zR32 z1) ((z1 = 0 → zWp (zSp d) 221 K 70 [some (.inr (.inr 154)), some (.inl x1), some (.inl x2), some (.inl x3), some (.inl (x3 + 1))] [] M1) ∧ (¬ (z1 = 0) → zC (zR32 x2) (zC (zR32 x1) ((¬ x2 = x1 → zWp (zSp d) 221 K 70 [some (.inr (.inr 154)), some (.inl x1), some (.inl (x2 + 1)), some (.inl x3), some (.inl (x3 + 1))] [] M1) ∧ (¬ (¬ x2 = x1) → zSp d 220 [.inr (.inr 154), .inl x3, .inl 1, .inl (-1)] M1 (fun _ M2 => zWp (zSp d) 221 K 70 [some (.inr (.inr 154)), some (.inl x1), some (.inl (x2 + 1)), some (.inl x3), some (.inl (x3 + 1))] [] M2)))))))) := (zwp_blk (stops := [9, 39, 42, 70]) (fuel := 81) pe_221).trans rfl
set_option maxHeartbeats 4000000 in
set_option maxRecDepth 100000 in
theorem fe_221_70 {d : Nat} {K : Kt} {M : Mm} {x1 x2 x3 x4 : Int} : zWp (zSp d) 221 K 70 [some (.inr (.inr 154)), some (.inl x1), some (.inl x2), some (.inl x3), some (.inl x4)] [] M = (zSp d 176 [.inr (.inr 154), .inl 0, .inl x3] M (fun z1 M1 => zC (zR32 x4) (zC (zR32 (x3 + z1)) (((x3 + z1) ≤ x4 → zWp (zSp d) 221 K 9 [some (.inr (.inr 154)), some (.inl x1), some (.inl x2), some (.inl (x3 + 1)), some (.inl x4)] [] M1) ∧ (¬ ((x3 + z1) ≤ x4) → zSp d 197 [.inr (.inr 154), .inl 0, .inl x4] M1 (fun z2 M2 => zSp d 197 [.inr (.inr 154), .inl 0, .inl x3] M2 (fun z3 M3 => zC (zR32 z2) (zC (zR32 z3) ((z2 = z3 → zC (zR32 x2) (zC (zR32 x1) ((¬ x2 = x1 → zWp (zSp d) 221 K 70 [some (.inr (.inr 154)), some (.inl x1), some (.inl (x2 + 1)), some (.inl x3), some (.inl (x4 + 1))] [] M3) ∧ (¬ (¬ x2 = x1) → zSp d 220 [.inr (.inr 154), .inl x3, .inl 2, .inl x4] M3 (fun _ M4 => zWp (zSp d) 221 K 70 [some (.inr (.inr 154)), some (.inl x1), some (.inl (x2 + 1)), some (.inl x3), some (.inl (x4 + 1))] [] M4))))) ∧ (¬ (z2 = z3) → zWp (zSp d) 221 K 70 [some (.inr (.inr 154)), some (.inl x1), some (.inl x2), some (.inl x3), some (.inl (x4 + 1))] [] M3)))))))))) := (zwp_blk (stops := [9, 39, 42, 70]) (fuel := 81) pe_221).trans rfl
theorem pe_222 : zPg 222 = pg_222 := rfl
/-! 222 LeastFailingModel.isLaid -/
set_option maxHeartbeats 4000000 in
set_option maxRecDepth 100000 in
theorem me_222 {d : Nat} {K : Kt} {M : Mm} {a1 : Int} : zSp (d + 1) 222 [.inr (.inr 154), .inl a1] M K = (zC (zR32 a1) ((a1 < 0 → K 0 M) ∧ (¬ (a1 < 0) → zSp d 221 [.inr (.inr 154), .inl a1] M (fun z1 M1 => zC (zR32 a1) (zC (zR32 z1) ((a1 < z1 → zSp d 219 [.inr (.inr 154), .inl (M1 154 64), .inl (M1 154 65), .inl (M1 154 66)] M1 (fun _ M2 => K 1 M2)) ∧ (¬ (a1 < z1) → K 0 M1))))))) := (zwp_blk (stops := []) (fuel := 24) pe_222).trans rfl
theorem pe_223 : zPg 223 = pg_223 := rfl
/-! 223 LeastFailingModel.single -/
set_option maxHeartbeats 4000000 in
set_option maxRecDepth 100000 in
theorem me_223 {d : Nat} {K : Kt} {M : Mm} {a1 a2 : Int} : zSp (d + 1) 223 [.inr (.inr 154), .inl a1, .inl a2] M K = (zC (zR32 a1) ((¬ a1 = (-1) → zC (zR32 a2) (zSp d 137 [.inr (.inl a2), .inr (.inl 0), .inr (.inl 4)] (zUp M 154 0 0) (fun z1 M1 => zC (zR32 z1) ((z1 = 0 → K (-1) M1) ∧ (¬ (z1 = 0) → zSp d 222 [.inr (.inr 154), .inl a1] M1 (fun z2 M2 => zC (zR32 z2) ((¬ z2 = 0 → zC (zR32 a2) (((a2 = 0 → K (M2 154 64) M2) ∧ ((a2 = 1 → K (M2 154 65) M2) ∧ ((a2 = 2 → K (M2 154 66) M2) ∧ ((a2 = 3 → zSp d 174 [.inr (.inr 154), .inl 161] M2 (fun z3 M3 => K z3 M3)) ∧ True)))) ∧ ((a2 < 0 ∨ 3 < a2) → zSp d 206 [.inr (.inr 154), .inl 161] M2 (fun z4 M4 => K z4 M4)))) ∧ (¬ (¬ z2 = 0) → K (-1) M2)))))))) ∧ (¬ (¬ a1 = (-1)) → zC (zR32 a2) ((¬ a2 = 0 → K (-1) (zUp M 154 0 0)) ∧ (¬ (¬ a2 = 0) → zSp d 221 [.inr (.inr 154), .inl (-1)] (zUp M 154 0 0) (fun z5 M5 => K z5 M5)))))) := (zwp_blk (stops := []) (fuel := 50) pe_223).trans rfl
theorem pe_224 : zPg 224 = pg_224 := rfl
/-! 224 LeastFailingModel.tries -/
set_option maxHeartbeats 4000000 in
set_option maxRecDepth 100000 in
theorem me_224 {d : Nat} {K : Kt} {M : Mm} {a1 : Int} : zSp (d + 1) 224 [.inr (.inr 154), .inl a1] M K = (zSp d 222 [.inr (.inr 154), .inl a1] (zUp M 154 0 0) (fun z1 M1 => zC (zR32 z1) ((z1 = 0 → K (-2) M1) ∧ (¬ (z1 = 0) → zSp d 213 [.inr (.inr 154), .inl 161, .inl 6, .inl (M1 154 64)] M1 (fun z2 M2 => K z2 M2))))) := (zwp_blk (stops := []) (fuel := 21) pe_224).trans rfl
end
section
theorem pe_225 : zPg 225 = pg_225 := rfl
/-! 225 LeastFailingModel.change -/
set_option maxHeartbeats 4000000 in
set_option maxRecDepth 100000 in
theorem me_225 {d : Nat} {K : Kt} {M : Mm} {a1 : Int} : zSp (d + 1) 225 [.inr (.inr 154), .inl a1] M K = (zSp d 222 [.inr (.inr 154), .inl a1] (zUp M 154 0 0) (fun z1 M1 => zC (zR32 z1) ((¬ z1 = 0 → zSp d 183 [.inr (.inr 154)] M1 (fun _ M2 => zSp d 177 [.inr (.inr 154), .inl 0, .inl 161] M2 (fun _ M3 => zSp d 174 [.inr (.inr 154), .inl 0] M3 (fun z4 M4 => K z4 M4)))) ∧ (¬ (¬ z1 = 0) → K (-2) M1)))) := (zwp_blk (stops := []) (fuel := 24) pe_225).trans rfl
theorem pe_226 : zPg 226 = pg_226 := rfl
/-! 226 LeastFailingModel.more -/
set_option maxHeartbeats 4000000 in
set_option maxRecDepth 100000 in
theorem me_226 {d : Nat} {K : Kt} {M : Mm} : zSp (d + 1) 226 [.inr (.inr 154)] M K = (zSp d 174 [.inr (.inr 154), .inl 0] (zUp M 154 0 0) (fun z1 M1 => zC (zR32 z1) ((¬ z1 = 0 → zSp d 213 [.inr (.inr 154), .inl 0, .inl 0, .inl (-1)] M1 (fun z2 M2 => zWp (zSp d) 226 K 24 [some (.inr (.inr 154)), none, none] [.inl z2] M2)) ∧ (¬ (¬ z1 = 0) → zWp (zSp d) 226 K 24 [some (.inr (.inr 154)), none, none] [.inl (-1)] M1)))) := (zwp_blk (stops := [24, 35]) (fuel := 45) pe_226).trans rfl
set_option maxHeartbeats 4000000 in
set_option maxRecDepth 100000 in
theorem fe_226_24 {d : Nat} {K : Kt} {M : Mm} {y0 : Int} : zWp (zSp d) 226 K 24 [some (.inr (.inr 154)), none, none] [.inl y0] M = (zC (zR32 y0) ((¬ y0 = (-1) → zWp (zSp d) 226 K 35 [some (.inr (.inr 154)), some (.inl y0), some (.inl 0)] [] M) ∧ (¬ (¬ y0 = (-1)) → K (-3) M))) := (zwp_blk (stops := [24, 35]) (fuel := 45) pe_226).trans rfl
set_option maxHeartbeats 4000000 in
set_option maxRecDepth 100000 in
theorem fe_226_35 {d : Nat} {K : Kt} {M : Mm} {x1 x2 : Int} : zWp (zSp d) 226 K 35 [some (.inr (.inr 154)), some (.inl x1), some (.inl x2)] [] M = (zSp d 222 [.inr (.inr 154), .inl x2] M (fun z1 M1 => zC (zR32 z1) ((z1 = 0 → K (-1) M1) ∧ (¬ (z1 = 0) → zSp d 213 [.inr (.inr 154), .inl 161, .inl 6, .inl (M1 154 64)] M1 (fun z2 M2 => zC (zR32 z2) (zC (zR32 x1) ((¬ z2 = x1 → zWp (zSp d) 226 K 35 [some (.inr (.inr 154)), some (.inl x1), some (.inl (x2 + 1))] [] M2) ∧ (¬ (¬ z2 = x1) → K x2 M2)))))))) := (zwp_blk (stops := [24, 35]) (fuel := 45) pe_226).trans rfl
theorem pe_227 : zPg 227 = pg_227 := rfl
/-! 227 LeastFailingModel.isBug -/
set_option maxHeartbeats 4000000 in
set_option maxRecDepth 100000 in
theorem me_227 {d : Nat} {K : Kt} {M : Mm} {a1 : Int} : zSp (d + 1) 227 [.inr (.inr 154), .inl a1] M K = (zC (zR32 a1) (zC (zR32 ((M 154 37) - 1)) (zSp d 137 [.inr (.inl a1), .inr (.inl 0), .inr (.inl ((M 154 37) - 1))] M (fun z1 M1 => zC (zBo z1) (K z1 M1))))) := (zwp_blk (stops := []) (fuel := 15) pe_227).trans rfl
theorem pe_228 : zPg 228 = pg_228 := rfl
/-! 228 LeastFailingModel.apart -/
set_option maxHeartbeats 4000000 in
set_option maxRecDepth 100000 in
theorem me_228 {d : Nat} {K : Kt} {M : Mm} {a1 a2 : Int} : zSp (d + 1) 228 [.inr (.inr 154), .inl a1, .inl a2] M K = (zSp d 227 [.inr (.inr 154), .inl a1] (zUp M 154 0 0) (fun z1 M1 => zC (zR32 z1) ((z1 = 0 → K (-2) M1) ∧ (¬ (z1 = 0) → zSp d 227 [.inr (.inr 154), .inl a2] M1 (fun z2 M2 => zC (zR32 z2) ((z2 = 0 → K (-2) M2) ∧ (¬ (z2 = 0) → zC (zR32 a1) (zC (zR32 a2) ((¬ a1 = a2 → zSp d 174 [.inr (.inr 154), .inl 0] M2 (fun z3 M3 => zC (zR32 z3) ((¬ z3 = 0 → zWp (zSp d) 228 K 42 [some (.inr (.inr 154)), some (.inl a1), some (.inl a2), some (.inl 0)] [] M3) ∧ (¬ (¬ z3 = 0) → K (-3) M3)))) ∧ (¬ (¬ a1 = a2) → K (-2) M2)))))))))) := (zwp_blk (stops := [42]) (fuel := 49) pe_228).trans rfl
set_option maxHeartbeats 4000000 in
set_option maxRecDepth 100000 in
theorem fe_228_42 {d : Nat} {K : Kt} {M : Mm} {x1 x2 x3 : Int} : zWp (zSp d) 228 K 42 [some (.inr (.inr 154)), some (.inl x1), some (.inl x2), some (.inl x3)] [] M = (zSp d 222 [.inr (.inr 154), .inl x3] M (fun z1 M1 => zC (zR32 z1) ((z1 = 0 → K (-1) M1) ∧ (¬ (z1 = 0) → zSp d 205 [.inr (.inr 154), .inl x1, .inl 161] M1 (fun z2 M2 => zC (zR32 z2) ((z2 = 0 → zWp (zSp d) 228 K 42 [some (.inr (.inr 154)), some (.inl x1), some (.inl x2), some (.inl (x3 + 1))] [] M2) ∧ (¬ (z2 = 0) → zSp d 205 [.inr (.inr 154), .inl x2, .inl 161] M2 (fun z3 M3 => zC (zR32 z3) ((¬ z3 = 0 → zWp (zSp d) 228 K 42 [some (.inr (.inr 154)), some (.inl x1), some (.inl x2), some (.inl (x3 + 1))] [] M3) ∧ (¬ (¬ z3 = 0) → K x3 M3)))))))))) := (zwp_blk (stops := [42]) (fuel := 49) pe_228).trans rfl
theorem pe_229 : zPg 229 = pg_229 := rfl
/-! 229 LeastFailingModel.isTaken -/
set_option maxHeartbeats 4000000 in
set_option maxRecDepth 100000 in
theorem me_229 {d : Nat} {K : Kt} {M : Mm} {a1 a2 : Int} : zSp (d + 1) 229 [.inr (.inr 154), .inl a1, .inl a2] M K = (zSp d 213 [.inr (.inr 154), .inl 161, .inl a1, .inl a2] M (fun z1 M1 => zC (zR32 z1) (zC (zR32 (M1 154 67)) ((z1 = (M1 154 67) → zSp d 177 [.inr (.inr 154), .inl 0, .inl 161] M1 (fun _ M2 => zSp d 196 [.inr (.inr 154), .inl 0] M2 (fun _ M3 => K 1 (zUp M3 154 68 ((M3 154 68) + 1))))) ∧ (¬ (z1 = (M1 154 67)) → K 0 M1))))) := (zwp_blk (stops := []) (fuel := 30) pe_229).trans rfl
theorem pe_230 : zPg 230 = pg_230 := rfl
/-! 230 LeastFailingModel.laysRow -/
set_option maxHeartbeats 4000000 in
set_option maxRecDepth 100000 in
theorem me_230 {d : Nat} {K : Kt} {M : Mm} {a1 : Int} : zSp (d + 1) 230 [.inr (.inr 154), .inl a1] M K = (zSp d 196 [.inr (.inr 154), .inl 0] M (fun _ M1 => zWp (zSp d) 230 K 12 [some (.inr (.inr 154)), some (.inl a1), some (.inl 0)] [] (zUp M1 154 70 0))) := (zwp_blk (stops := [12, 51]) (fuel := 49) pe_230).trans rfl
set_option maxHeartbeats 4000000 in
set_option maxRecDepth 100000 in
theorem fe_230_12 {d : Nat} {K : Kt} {M : Mm} {x1 x2 : Int} : zWp (zSp d) 230 K 12 [some (.inr (.inr 154)), some (.inl x1), some (.inl x2)] [] M = (zSp d 174 [.inr (.inr 154), .inl 0] M (fun z1 M1 => zC (zR32 x2) (zC (zR32 z1) ((z1 ≤ x2 → K 0 M1) ∧ (¬ (z1 ≤ x2) → zC (zSm x2 80) (zC (zR32 (M1 178 x2)) (zC (zR32 x1) ((¬ (M1 178 x2) = x1 → zWp (zSp d) 230 K 12 [some (.inr (.inr 154)), some (.inl x1), some (.inl (x2 + 1))] [] M1) ∧ (¬ (¬ (M1 178 x2) = x1) → zC (zSm x2 80) (zC (zR32 (M1 180 x2)) ((¬ (M1 180 x2) = 0 → zWp (zSp d) 230 K 51 [some (.inr (.inr 154)), some (.inl x1), some (.inl x2)] [] M1) ∧ (¬ (¬ (M1 180 x2) = 0) → zSp d 218 [.inr (.inr 154), .inl x2] M1 (fun z2 M2 => zC (zR32 z2) ((¬ z2 = 0 → zWp (zSp d) 230 K 51 [some (.inr (.inr 154)), some (.inl x1), some (.inl x2)] [] M2) ∧ (¬ (¬ z2 = 0) → zWp (zSp d) 230 K 12 [some (.inr (.inr 154)), some (.inl x1), some (.inl (x2 + 1))] [] M2))))))))))))))) := (zwp_blk (stops := [12, 51]) (fuel := 49) pe_230).trans rfl
set_option maxHeartbeats 4000000 in
set_option maxRecDepth 100000 in
theorem fe_230_51 {d : Nat} {K : Kt} {M : Mm} {x1 x2 : Int} : zWp (zSp d) 230 K 51 [some (.inr (.inr 154)), some (.inl x1), some (.inl x2)] [] M = (zC (zSm (M 154 70) 80) (zWp (zSp d) 230 K 12 [some (.inr (.inr 154)), some (.inl x1), some (.inl (x2 + 1))] [] (zUp (zUp M 191 (M 154 70) x2) 154 70 ((M 154 70) + 1)))) := (zwp_blk (stops := [12, 51]) (fuel := 49) pe_230).trans rfl
theorem pe_231 : zPg 231 = pg_231 := rfl
/-! 231 LeastFailingModel.takesRow -/
set_option maxHeartbeats 4000000 in
set_option maxRecDepth 100000 in
theorem me_231 {d : Nat} {K : Kt} {M : Mm} {a1 a2 a3 a4 a5 : Int} : zSp (d + 1) 231 [.inr (.inr 154), .inl a1, .inl a2, .inl a3, .inl a4, .inl a5] M K = (zSp d 214 [.inr (.inr 154)] M (fun _ M1 => zWp (zSp d) 231 K 7 [some (.inr (.inr 154)), some (.inl a1), some (.inl a2), some (.inl a3), some (.inl a4), some (.inl a5), some (.inl 0), none] [] M1)) := (zwp_blk (stops := [7, 32, 33, 98, 123, 124]) (fuel := 92) pe_231).trans rfl
set_option maxHeartbeats 4000000 in
set_option maxRecDepth 100000 in
theorem fe_231_7 {d : Nat} {K : Kt} {M : Mm} {x1 x2 x3 x4 x5 x6 : Int} : zWp (zSp d) 231 K 7 [some (.inr (.inr 154)), some (.inl x1), some (.inl x2), some (.inl x3), some (.inl x4), some (.inl x5), some (.inl x6), none] [] M = (zC (zR32 x6) (zC (zR32 (M 154 70)) (((M 154 70) ≤ x6 → zSp d 217 [.inr (.inr 154)] M (fun _ M1 => zSp d 229 [.inr (.inr 154), .inl x4, .inl x5] M1 (fun z2 M2 => zC (zR32 z2) ((¬ z2 = 0 → zWp (zSp d) 231 K 98 [some (.inr (.inr 154)), some (.inl x1), some (.inl x2), some (.inl x3), some (.inl x4), some (.inl x5), some (.inl 0), some (.inl 0)] [] M2) ∧ (¬ (¬ z2 = 0) → K 0 M2))))) ∧ (¬ ((M 154 70) ≤ x6) → zC (zR32 x6) (zC (zR32 x1) ((x6 < x1 → zWp (zSp d) 231 K 32 [some (.inr (.inr 154)), some (.inl x1), some (.inl x2), some (.inl x3), some (.inl x4), some (.inl x5), some (.inl x6), none] [] M) ∧ (¬ (x6 < x1) → zC (zR32 x6) (zC (zR32 x2) ((x2 ≤ x6 → zWp (zSp d) 231 K 32 [some (.inr (.inr 154)), some (.inl x1), some (.inl x2), some (.inl x3), some (.inl x4), some (.inl x5), some (.inl x6), none] [] M) ∧ (¬ (x2 ≤ x6) → zWp (zSp d) 231 K 33 [some (.inr (.inr 154)), some (.inl x1), some (.inl x2), some (.inl x3), some (.inl x4), some (.inl x5), some (.inl x6), none] [.inl 1] M)))))))))) := (zwp_blk (stops := [7, 32, 33, 98, 123, 124]) (fuel := 92) pe_231).trans rfl
set_option maxHeartbeats 4000000 in
set_option maxRecDepth 100000 in
theorem fe_231_32 {d : Nat} {K : Kt} {M : Mm} {x1 x2 x3 x4 x5 x6 : Int} : zWp (zSp d) 231 K 32 [some (.inr (.inr 154)), some (.inl x1), some (.inl x2), some (.inl x3), some (.inl x4), some (.inl x5), some (.inl x6), none] [] M = (zWp (zSp d) 231 K 33 [some (.inr (.inr 154)), some (.inl x1), some (.inl x2), some (.inl x3), some (.inl x4), some (.inl x5), some (.inl x6), none] [.inl 0] M) := (zwp_blk (stops := [7, 32, 33, 98, 123, 124]) (fuel := 92) pe_231).trans rfl
set_option maxHeartbeats 4000000 in
set_option maxRecDepth 100000 in
theorem fe_231_33 {d : Nat} {K : Kt} {M : Mm} {x1 x2 x3 x4 x5 x6 y0 : Int} : zWp (zSp d) 231 K 33 [some (.inr (.inr 154)), some (.inl x1), some (.inl x2), some (.inl x3), some (.inl x4), some (.inl x5), some (.inl x6), none] [.inl y0] M = (zC (zR32 y0) (zC (zR32 x3) ((¬ y0 = x3 → zWp (zSp d) 231 K 7 [some (.inr (.inr 154)), some (.inl x1), some (.inl x2), some (.inl x3), some (.inl x4), some (.inl x5), some (.inl (x6 + 1)), none] [] M) ∧ (¬ (¬ y0 = x3) → zC (zSm x6 80) (zC (zSm x6 80) (zC (zSm (M 191 x6) 80) (zC (zR32 (M 180 (M 191 x6))) (((M 180 (M 191 x6)) = 0 → zC (zSm (M 191 x6) 80) (zWp (zSp d) 231 K 7 [some (.inr (.inr 154)), some (.inl x1), some (.inl x2), some (.inl x3), some (.inl x4), some (.inl x5), some (.inl (x6 + 1)), none] [] (zUp M 187 (M 191 x6) 1))) ∧ (¬ ((M 180 (M 191 x6)) = 0) → zC (zSm (M 191 x6) 80) (zWp (zSp d) 231 K 7 [some (.inr (.inr 154)), some (.inl x1), some (.inl x2), some (.inl x3), some (.inl x4), some (.inl x5), some (.inl (x6 + 1)), none] [] (zUp M 187 (M 191 x6) 0))))))))))) := (zwp_blk (stops := [7, 32, 33, 98, 123, 124]) (fuel := 92) pe_231).trans rfl
set_option maxHeartbeats 4000000 in
set_option maxRecDepth 100000 in
theorem fe_231_98 {d : Nat} {K : Kt} {M : Mm} {x1 x2 x3 x4 x5 x6 x7 : Int} : zWp (zSp d) 231 K 98 [some (.inr (.inr 154)), some (.inl x1), some (.inl x2), some (.inl x3), some (.inl x4), some (.inl x5), some (.inl x6), some (.inl x7)] [] M = (zC (zR32 x7) (zC (zR32 (M 154 70)) (((M 154 70) ≤ x7 → K 1 (zUp M 154 70 x6)) ∧ (¬ ((M 154 70) ≤ x7) → zC (zR32 x7) (zC (zR32 x1) ((x7 < x1 → zWp (zSp d) 231 K 123 [some (.inr (.inr 154)), some (.inl x1), some (.inl x2), some (.inl x3), some (.inl x4), some (.inl x5), some (.inl x6), some (.inl x7)] [] M) ∧ (¬ (x7 < x1) → zC (zR32 x7) (zC (zR32 x2) ((x2 ≤ x7 → zWp (zSp d) 231 K 123 [some (.inr (.inr 154)), some (.inl x1), some (.inl x2), some (.inl x3), some (.inl x4), some (.inl x5), some (.inl x6), some (.inl x7)] [] M) ∧ (¬ (x2 ≤ x7) → zWp (zSp d) 231 K 124 [some (.inr (.inr 154)), some (.inl x1), some (.inl x2), some (.inl x3), some (.inl x4), some (.inl x5), some (.inl x6), some (.inl x7)] [.inl 1] M)))))))))) := (zwp_blk (stops := [7, 32, 33, 98, 123, 124]) (fuel := 92) pe_231).trans rfl
set_option maxHeartbeats 4000000 in
set_option maxRecDepth 100000 in
theorem fe_231_123 {d : Nat} {K : Kt} {M : Mm} {x1 x2 x3 x4 x5 x6 x7 : Int} : zWp (zSp d) 231 K 123 [some (.inr (.inr 154)), some (.inl x1), some (.inl x2), some (.inl x3), some (.inl x4), some (.inl x5), some (.inl x6), some (.inl x7)] [] M = (zWp (zSp d) 231 K 124 [some (.inr (.inr 154)), some (.inl x1), some (.inl x2), some (.inl x3), some (.inl x4), some (.inl x5), some (.inl x6), some (.inl x7)] [.inl 0] M) := (zwp_blk (stops := [7, 32, 33, 98, 123, 124]) (fuel := 92) pe_231).trans rfl
set_option maxHeartbeats 4000000 in
set_option maxRecDepth 100000 in
theorem fe_231_124 {d : Nat} {K : Kt} {M : Mm} {x1 x2 x3 x4 x5 x6 x7 y0 : Int} : zWp (zSp d) 231 K 124 [some (.inr (.inr 154)), some (.inl x1), some (.inl x2), some (.inl x3), some (.inl x4), some (.inl x5), some (.inl x6), some (.inl x7)] [.inl y0] M = (zC (zR32 y0) (zC (zR32 x3) ((¬ y0 = x3 → zC (zSm x7 80) (zC (zSm (M 191 x7) 80) (zC (zSm x6 80) (zWp (zSp d) 231 K 98 [some (.inr (.inr 154)), some (.inl x1), some (.inl x2), some (.inl x3), some (.inl x4), some (.inl x5), some (.inl (x6 + 1)), some (.inl (x7 + 1))] [] (zUp M 191 x6 (M 188 (M 191 x7))))))) ∧ (¬ (¬ y0 = x3) → zWp (zSp d) 231 K 98 [some (.inr (.inr 154)), some (.inl x1), some (.inl x2), some (.inl x3), some (.inl x4), some (.inl x5), some (.inl x6), some (.inl (x7 + 1))] [] M)))) := (zwp_blk (stops := [7, 32, 33, 98, 123, 124]) (fuel := 92) pe_231).trans rfl
theorem pe_232 : zPg 232 = pg_232 := rfl
/-! 232 LeastFailingModel.partFrom -/
set_option maxHeartbeats 4000000 in
set_option maxRecDepth 100000 in
theorem me_232 {d : Nat} {K : Kt} {M : Mm} {a1 a2 : Int} : zSp (d + 1) 232 [.inr (.inr 154), .inl a1, .inl a2] M K = (zC (zR32 (a1 * (M 154 70))) (zC (zR32 a2) (zC (zDv (a1 * (M 154 70)) a2) (K ((a1 * (M 154 70)) / a2) M)))) := (zwp_blk (stops := []) (fuel := 12) pe_232).trans rfl
theorem pe_233 : zPg 233 = pg_233 := rfl
/-! 233 LeastFailingModel.takesAPart -/
set_option maxHeartbeats 4000000 in
set_option maxRecDepth 100000 in
theorem me_233 {d : Nat} {K : Kt} {M : Mm} {a1 a2 a3 a4 : Int} : zSp (d + 1) 233 [.inr (.inr 154), .inl a1, .inl a2, .inl a3, .inl a4] M K = (zWp (zSp d) 233 K 3 [some (.inr (.inr 154)), some (.inl a1), some (.inl a2), some (.inl a3), some (.inl a4), some (.inl 0)] [] M) := (zwp_blk (stops := [3]) (fuel := 32) pe_233).trans rfl
set_option maxHeartbeats 4000000 in
set_option maxRecDepth 100000 in
theorem fe_233_3 {d : Nat} {K : Kt} {M : Mm} {x1 x2 x3 x4 x5 : Int} : zWp (zSp d) 233 K 3 [some (.inr (.inr 154)), some (.inl x1), some (.inl x2), some (.inl x3), some (.inl x4), some (.inl x5)] [] M = (zC (zR32 x5) (zC (zR32 x1) ((x1 ≤ x5 → K 0 M) ∧ (¬ (x1 ≤ x5) → zSp d 232 [.inr (.inr 154), .inl x5, .inl x1] M (fun z1 M1 => zSp d 232 [.inr (.inr 154), .inl (x5 + 1), .inl x1] M1 (fun z2 M2 => zSp d 231 [.inr (.inr 154), .inl z1, .inl z2, .inl x2, .inl x3, .inl x4] M2 (fun z3 M3 => zC (zR32 z3) ((z3 = 0 → zWp (zSp d) 233 K 3 [some (.inr (.inr 154)), some (.inl x1), some (.inl x2), some (.inl x3), some (.inl x4), some (.inl (x5 + 1))] [] M3) ∧ (¬ (z3 = 0) → K 1 M3))))))))) := (zwp_blk (stops := [3]) (fuel := 32) pe_233).trans rfl
theorem pe_234 : zPg 234 = pg_234 := rfl
/-! 234 LeastFailingModel.byHalves -/
set_option maxHeartbeats 4000000 in
set_option maxRecDepth 100000 in
theorem me_234 {d : Nat} {K : Kt} {M : Mm} {a1 : Int} : zSp (d + 1) 234 [.inr (.inr 154), .inl a1] M K = (zWp (zSp d) 234 K 2 [some (.inr (.inr 154)), some (.inl a1), some (.inl 2)] [] M) := (zwp_blk (stops := [2, 48]) (fuel := 53) pe_234).trans rfl
set_option maxHeartbeats 4000000 in
set_option maxRecDepth 100000 in
theorem fe_234_2 {d : Nat} {K : Kt} {M : Mm} {x1 x2 : Int} : zWp (zSp d) 234 K 2 [some (.inr (.inr 154)), some (.inl x1), some (.inl x2)] [] M = (zC (zR32 (M 154 70)) (((M 154 70) ≤ 1 → K 0 M) ∧ (¬ ((M 154 70) ≤ 1) → zSp d 233 [.inr (.inr 154), .inl x2, .inl 0, .inl 2, .inl x1] M (fun z1 M1 => zC (zR32 z1) ((z1 = 0 → zC (zR32 x2) ((x2 ≤ 2 → zWp (zSp d) 234 K 48 [some (.inr (.inr 154)), some (.inl x1), some (.inl x2)] [] M1) ∧ (¬ (x2 ≤ 2) → zSp d 233 [.inr (.inr 154), .inl x2, .inl 1, .inl 3, .inl x1] M1 (fun z2 M2 => zC (zR32 z2) ((z2 = 0 → zWp (zSp d) 234 K 48 [some (.inr (.inr 154)), some (.inl x1), some (.inl x2)] [] M2) ∧ (¬ (z2 = 0) → zWp (zSp d) 234 K 2 [some (.inr (.inr 154)), some (.inl x1), some (.inl (x2 + (-1)))] [] M2)))))) ∧ (¬ (z1 = 0) → zWp (zSp d) 234 K 2 [some (.inr (.inr 154)), some (.inl x1), some (.inl 2)] [] M1)))))) := (zwp_blk (stops := [2, 48]) (fuel := 53) pe_234).trans rfl
set_option maxHeartbeats 4000000 in
set_option maxRecDepth 100000 in
theorem fe_234_48 {d : Nat} {K : Kt} {M : Mm} {x1 x2 : Int} : zWp (zSp d) 234 K 48 [some (.inr (.inr 154)), some (.inl x1), some (.inl x2)] [] M = (zC (zR32 x2) (zC (zR32 (M 154 70)) (((M 154 70) ≤ x2 → K 0 M) ∧ (¬ ((M 154 70) ≤ x2) → zC (zR32 (2 * x2)) (zC (zR32 (M 154 70)) (((M 154 70) ≤ (2 * x2) → zWp (zSp d) 234 K 2 [some (.inr (.inr 154)), some (.inl x1), some (.inl (M 154 70))] [] M) ∧ (¬ ((M 154 70) ≤ (2 * x2)) → zWp (zSp d) 234 K 2 [some (.inr (.inr 154)), some (.inl x1), some (.inl (2 * x2))] [] M))))))) := (zwp_blk (stops := [2, 48]) (fuel := 53) pe_234).trans rfl
theorem pe_235 : zPg 235 = pg_235 := rfl
/-! 235 LeastFailingModel.byLevels -/
set_option maxHeartbeats 4000000 in
set_option maxRecDepth 100000 in
theorem me_235 {d : Nat} {K : Kt} {M : Mm} : zSp (d + 1) 235 [.inr (.inr 154)] M K = (zSp d 196 [.inr (.inr 154), .inl 0] M (fun _ M1 => zWp (zSp d) 235 K 7 [some (.inr (.inr 154)), some (.inl 1)] [] M1)) := (zwp_blk (stops := [7, 47]) (fuel := 38) pe_235).trans rfl
set_option maxHeartbeats 4000000 in
set_option maxRecDepth 100000 in
theorem fe_235_7 {d : Nat} {K : Kt} {M : Mm} {x1 : Int} : zWp (zSp d) 235 K 7 [some (.inr (.inr 154)), some (.inl x1)] [] M = (zC (zR32 x1) (zC (zR32 (M 154 46)) (((M 154 46) < x1 → K 0 M) ∧ (¬ ((M 154 46) < x1) → zSp d 230 [.inr (.inr 154), .inl x1] M (fun _ M1 => zC (zR32 (M1 154 70)) (((M1 154 70) ≤ 0 → zWp (zSp d) 235 K 47 [some (.inr (.inr 154)), some (.inl x1)] [] M1) ∧ (¬ ((M1 154 70) ≤ 0) → zSp d 231 [.inr (.inr 154), .inl 0, .inl (M1 154 70), .inl 1, .inl 1, .inl x1] M1 (fun z2 M2 => zC (zR32 z2) ((¬ z2 = 0 → zWp (zSp d) 235 K 47 [some (.inr (.inr 154)), some (.inl x1)] [] M2) ∧ (¬ (¬ z2 = 0) → zSp d 234 [.inr (.inr 154), .inl x1] M2 (fun _ M3 => zWp (zSp d) 235 K 47 [some (.inr (.inr 154)), some (.inl x1)] [] M3))))))))))) := (zwp_blk (stops := [7, 47]) (fuel := 38) pe_235).trans rfl
set_option maxHeartbeats 4000000 in
set_option maxRecDepth 100000 in
theorem fe_235_47 {d : Nat} {K : Kt} {M : Mm} {x1 : Int} : zWp (zSp d) 235 K 47 [some (.inr (.inr 154)), some (.inl x1)] [] M = (zSp d 196 [.inr (.inr 154), .inl 0] M (fun _ M1 => zWp (zSp d) 235 K 7 [some (.inr (.inr 154)), some (.inl (x1 + 1))] [] M1)) := (zwp_blk (stops := [7, 47]) (fuel := 38) pe_235).trans rfl
theorem pe_236 : zPg 236 = pg_236 := rfl
/-! 236 LeastFailingModel.takesHoist -/
set_option maxHeartbeats 4000000 in
set_option maxRecDepth 100000 in
theorem me_236 {d : Nat} {K : Kt} {M : Mm} {a1 : Int} : zSp (d + 1) 236 [.inr (.inr 154), .inl a1] M K = (zSp d 176 [.inr (.inr 154), .inl 0, .inl a1] M (fun z1 M1 => zWp (zSp d) 236 K 13 [some (.inr (.inr 154)), some (.inl a1), some (.inl (a1 + z1)), some (.inl (a1 + 1))] [] M1)) := (zwp_blk (stops := [13]) (fuel := 45) pe_236).trans rfl
set_option maxHeartbeats 4000000 in
set_option maxRecDepth 100000 in
theorem fe_236_13 {d : Nat} {K : Kt} {M : Mm} {x1 x2 x3 : Int} : zWp (zSp d) 236 K 13 [some (.inr (.inr 154)), some (.inl x1), some (.inl x2), some (.inl x3)] [] M = (zC (zR32 x3) (zC (zR32 x2) ((x2 ≤ x3 → K 0 M) ∧ (¬ (x2 ≤ x3) → zSp d 197 [.inr (.inr 154), .inl 0, .inl x3] M (fun z1 M1 => zSp d 197 [.inr (.inr 154), .inl 0, .inl x1] M1 (fun z2 M2 => zC (zR32 z1) (zC (zR32 z2) ((z1 = z2 → zSp d 219 [.inr (.inr 154), .inl x1, .inl 2, .inl x3] M2 (fun _ M3 => zSp d 229 [.inr (.inr 154), .inl 4, .inl x1] M3 (fun z4 M4 => zC (zR32 z4) ((z4 = 0 → zWp (zSp d) 236 K 13 [some (.inr (.inr 154)), some (.inl x1), some (.inl x2), some (.inl (x3 + 1))] [] M4) ∧ (¬ (z4 = 0) → K 1 M4))))) ∧ (¬ (z1 = z2) → zWp (zSp d) 236 K 13 [some (.inr (.inr 154)), some (.inl x1), some (.inl x2), some (.inl (x3 + 1))] [] M2))))))))) := (zwp_blk (stops := [13]) (fuel := 45) pe_236).trans rfl
theorem pe_237 : zPg 237 = pg_237 := rfl
/-! 237 LeastFailingModel.takesCut -/
set_option maxHeartbeats 4000000 in
set_option maxRecDepth 100000 in
theorem me_237 {d : Nat} {K : Kt} {M : Mm} {a1 : Int} : zSp (d + 1) 237 [.inr (.inr 154), .inl a1] M K = (zC (zSm a1 80) (zC (zR32 (M 180 a1)) (((M 180 a1) = 0 → zWp (zSp d) 237 K 27 [some (.inr (.inr 154)), some (.inl a1)] [] M) ∧ (¬ ((M 180 a1) = 0) → zSp d 219 [.inr (.inr 154), .inl a1, .inl 0, .inl (-1)] M (fun _ M1 => zSp d 229 [.inr (.inr 154), .inl 5, .inl a1] M1 (fun z2 M2 => zC (zR32 z2) ((z2 = 0 → zWp (zSp d) 237 K 27 [some (.inr (.inr 154)), some (.inl a1)] [] M2) ∧ (¬ (z2 = 0) → K 1 M2)))))))) := (zwp_blk (stops := [27]) (fuel := 38) pe_237).trans rfl
set_option maxHeartbeats 4000000 in
set_option maxRecDepth 100000 in
theorem fe_237_27 {d : Nat} {K : Kt} {M : Mm} {x1 : Int} : zWp (zSp d) 237 K 27 [some (.inr (.inr 154)), some (.inl x1)] [] M = (zSp d 218 [.inr (.inr 154), .inl x1] M (fun z1 M1 => zC (zR32 z1) ((¬ z1 = 0 → zSp d 219 [.inr (.inr 154), .inl x1, .inl 1, .inl (-1)] M1 (fun _ M2 => zSp d 229 [.inr (.inr 154), .inl 5, .inl x1] M2 (fun z3 M3 => zC (zBo z3) (K z3 M3)))) ∧ (¬ (¬ z1 = 0) → K 0 M1)))) := (zwp_blk (stops := [27]) (fuel := 38) pe_237).trans rfl
theorem pe_238 : zPg 238 = pg_238 := rfl
/-! 238 LeastFailingModel.byNodes -/
set_option maxHeartbeats 4000000 in
set_option maxRecDepth 100000 in
theorem me_238 {d : Nat} {K : Kt} {M : Mm} {a1 : Int} : zSp (d + 1) 238 [.inr (.inr 154), .inl a1] M K = (zSp d 196 [.inr (.inr 154), .inl 0] M (fun _ M1 => zWp (zSp d) 238 K 7 [some (.inr (.inr 154)), some (.inl a1), some (.inl 0)] [] M1)) := (zwp_blk (stops := [7]) (fuel := 29) pe_238).trans rfl
set_option maxHeartbeats 4000000 in
set_option maxRecDepth 100000 in
theorem fe_238_7 {d : Nat} {K : Kt} {M : Mm} {x1 x2 : Int} : zWp (zSp d) 238 K 7 [some (.inr (.inr 154)), some (.inl x1), some (.inl x2)] [] M = (zSp d 174 [.inr (.inr 154), .inl 0] M (fun z1 M1 => zC (zR32 x2) (zC (zR32 z1) ((z1 ≤ x2 → K 0 M1) ∧ (¬ (z1 ≤ x2) → zC (zR32 x1) ((x1 = 0 → zSp d 237 [.inr (.inr 154), .inl x2] M1 (fun z2 M2 => zC (zR32 z2) ((¬ z2 = 0 → zWp (zSp d) 238 K 7 [some (.inr (.inr 154)), some (.inl x1), some (.inl x2)] [] M2) ∧ (¬ (¬ z2 = 0) → zWp (zSp d) 238 K 7 [some (.inr (.inr 154)), some (.inl x1), some (.inl (x2 + 1))] [] M2)))) ∧ (¬ (x1 = 0) → zSp d 236 [.inr (.inr 154), .inl x2] M1 (fun z3 M3 => zC (zR32 z3) ((z3 = 0 → zWp (zSp d) 238 K 7 [some (.inr (.inr 154)), some (.inl x1), some (.inl (x2 + 1))] [] M3) ∧ (¬ (z3 = 0) → zWp (zSp d) 238 K 7 [some (.inr (.inr 154)), some (.inl x1), some (.inl x2)] [] M3)))))))))) := (zwp_blk (stops := [7]) (fuel := 29) pe_238).trans rfl
theorem pe_239 : zPg 239 = pg_239 := rfl
/-! 239 LeastFailingModel.reduces -/
set_option maxHeartbeats 4000000 in
set_option maxRecDepth 100000 in
theorem me_239 {d : Nat} {K : Kt} {M : Mm} {a1 : Int} : zSp (d + 1) 239 [.inr (.inr 154), .inl a1] M K = (zC (zR32 a1) ((a1 = 0 → zWp (zSp d) 239 K 9 [some (.inr (.inr 154)), some (.inl a1)] [] M) ∧ (¬ (a1 = 0) → zC (zR32 a1) ((¬ a1 = 3 → zWp (zSp d) 239 K 13 [some (.inr (.inr 154)), some (.inl a1)] [] M) ∧ (¬ (¬ a1 = 3) → zWp (zSp d) 239 K 9 [some (.inr (.inr 154)), some (.inl a1)] [] M))))) := (zwp_blk (stops := [9, 13, 23, 28, 38]) (fuel := 31) pe_239).trans rfl
set_option maxHeartbeats 4000000 in
set_option maxRecDepth 100000 in
theorem fe_239_9 {d : Nat} {K : Kt} {M : Mm} {x1 : Int} : zWp (zSp d) 239 K 9 [some (.inr (.inr 154)), some (.inl x1)] [] M = (zSp d 235 [.inr (.inr 154)] M (fun _ M1 => zWp (zSp d) 239 K 13 [some (.inr (.inr 154)), some (.inl x1)] [] M1)) := (zwp_blk (stops := [9, 13, 23, 28, 38]) (fuel := 31) pe_239).trans rfl
set_option maxHeartbeats 4000000 in
set_option maxRecDepth 100000 in
theorem fe_239_13 {d : Nat} {K : Kt} {M : Mm} {x1 : Int} : zWp (zSp d) 239 K 13 [some (.inr (.inr 154)), some (.inl x1)] [] M = (zC (zR32 x1) ((x1 = 1 → zWp (zSp d) 239 K 23 [some (.inr (.inr 154)), some (.inl x1)] [] M) ∧ (¬ (x1 = 1) → zC (zR32 x1) ((¬ x1 = 3 → zWp (zSp d) 239 K 28 [some (.inr (.inr 154)), some (.inl x1)] [] M) ∧ (¬ (¬ x1 = 3) → zWp (zSp d) 239 K 23 [some (.inr (.inr 154)), some (.inl x1)] [] M))))) := (zwp_blk (stops := [9, 13, 23, 28, 38]) (fuel := 31) pe_239).trans rfl
set_option maxHeartbeats 4000000 in
set_option maxRecDepth 100000 in
theorem fe_239_23 {d : Nat} {K : Kt} {M : Mm} {x1 : Int} : zWp (zSp d) 239 K 23 [some (.inr (.inr 154)), some (.inl x1)] [] M = (zSp d 238 [.inr (.inr 154), .inl 1] M (fun _ M1 => zWp (zSp d) 239 K 28 [some (.inr (.inr 154)), some (.inl x1)] [] M1)) := (zwp_blk (stops := [9, 13, 23, 28, 38]) (fuel := 31) pe_239).trans rfl
set_option maxHeartbeats 4000000 in
set_option maxRecDepth 100000 in
theorem fe_239_28 {d : Nat} {K : Kt} {M : Mm} {x1 : Int} : zWp (zSp d) 239 K 28 [some (.inr (.inr 154)), some (.inl x1)] [] M = (zC (zR32 x1) ((x1 = 2 → zWp (zSp d) 239 K 38 [some (.inr (.inr 154)), some (.inl x1)] [] M) ∧ (¬ (x1 = 2) → zC (zR32 x1) ((¬ x1 = 3 → K 0 M) ∧ (¬ (¬ x1 = 3) → zWp (zSp d) 239 K 38 [some (.inr (.inr 154)), some (.inl x1)] [] M))))) := (zwp_blk (stops := [9, 13, 23, 28, 38]) (fuel := 31) pe_239).trans rfl
set_option maxHeartbeats 4000000 in
set_option maxRecDepth 100000 in
theorem fe_239_38 {d : Nat} {K : Kt} {M : Mm} {x1 : Int} : zWp (zSp d) 239 K 38 [some (.inr (.inr 154)), some (.inl x1)] [] M = (zSp d 238 [.inr (.inr 154), .inl 0] M (fun _ M1 => K 0 M1)) := (zwp_blk (stops := [9, 13, 23, 28, 38]) (fuel := 31) pe_239).trans rfl
theorem pe_240 : zPg 240 = pg_240 := rfl
/-! 240 LeastFailingModel.reduce -/
set_option maxHeartbeats 4000000 in
set_option maxRecDepth 100000 in
theorem me_240 {d : Nat} {K : Kt} {M : Mm} {a1 a2 : Int} : zSp (d + 1) 240 [.inr (.inr 154), .inl a1, .inl a2] M K = (zSp d 227 [.inr (.inr 154), .inl a1] (zUp M 154 0 0) (fun z1 M1 => zC (zR32 z1) ((z1 = 0 → K (-2) M1) ∧ (¬ (z1 = 0) → zC (zR32 a2) (zSp d 137 [.inr (.inl a2), .inr (.inl 0), .inr (.inl 3)] M1 (fun z2 M2 => zC (zR32 z2) ((¬ z2 = 0 → zSp d 174 [.inr (.inr 154), .inl 0] M2 (fun z3 M3 => zC (zR32 z3) ((z3 = 0 → K (-3) M3) ∧ (¬ (z3 = 0) → zSp d 213 [.inr (.inr 154), .inl 0, .inl 0, .inl (-1)] M3 (fun z4 M4 => zC (zR32 z4) (zC (zR32 a1) ((z4 = a1 → zSp d 183 [.inr (.inr 154)] M4 (fun _ M5 => zWp (zSp d) 240 K 66 [some (.inr (.inr 154)), some (.inl a1), some (.inl a2), some (.inl (-1))] [] (zUp (zUp M5 154 67 a1) 154 68 0))) ∧ (¬ (z4 = a1) → K (-3) M4)))))))) ∧ (¬ (¬ z2 = 0) → K (-2) M2)))))))) := (zwp_blk (stops := [66, 87]) (fuel := 68) pe_240).trans rfl
set_option maxHeartbeats 4000000 in
set_option maxRecDepth 100000 in
theorem fe_240_66 {d : Nat} {K : Kt} {M : Mm} {x1 x2 x3 : Int} : zWp (zSp d) 240 K 66 [some (.inr (.inr 154)), some (.inl x1), some (.inl x2), some (.inl x3)] [] M = (zC (zR32 x3) (zC (zR32 (M 154 68)) ((x3 = (M 154 68) → K (M 154 68) M) ∧ (¬ (x3 = (M 154 68)) → zC (zR32 x2) ((¬ x2 = 3 → zWp (zSp d) 240 K 87 [some (.inr (.inr 154)), some (.inl x1), some (.inl x2), some (.inl x3)] [.inl (-1)] M) ∧ (¬ (¬ x2 = 3) → zWp (zSp d) 240 K 87 [some (.inr (.inr 154)), some (.inl x1), some (.inl x2), some (.inl x3)] [.inl (M 154 68)] M)))))) := (zwp_blk (stops := [66, 87]) (fuel := 68) pe_240).trans rfl
set_option maxHeartbeats 4000000 in
set_option maxRecDepth 100000 in
theorem fe_240_87 {d : Nat} {K : Kt} {M : Mm} {x1 x2 x3 y0 : Int} : zWp (zSp d) 240 K 87 [some (.inr (.inr 154)), some (.inl x1), some (.inl x2), some (.inl x3)] [.inl y0] M = (zSp d 239 [.inr (.inr 154), .inl x2] M (fun _ M1 => zC (zR32 x2) ((x2 = 3 → zWp (zSp d) 240 K 66 [some (.inr (.inr 154)), some (.inl x1), some (.inl x2), some (.inl y0)] [] M1) ∧ (¬ (x2 = 3) → zWp (zSp d) 240 K 66 [some (.inr (.inr 154)), some (.inl x1), some (.inl x2), some (.inl (M1 154 68))] [] M1)))) := (zwp_blk (stops := [66, 87]) (fuel := 68) pe_240).trans rfl
theorem pe_241 : zPg 241 = pg_241 := rfl
/-! 241 LeastFailingModel.row -/
set_option maxHeartbeats 4000000 in
set_option maxRecDepth 100000 in
theorem me_241 {d : Nat} {K : Kt} {M : Mm} {a1 a2 : Int} : zSp (d + 1) 241 [.inr (.inr 154), .inl a1, .inl a2] M K = (zC (zR32 a1) ((a1 < 1 → K (-1) (zUp M 154 0 0)) ∧ (¬ (a1 < 1) → zSp d 174 [.inr (.inr 154), .inl 0] (zUp M 154 0 0) (fun z1 M1 => zC (zR32 z1) ((¬ z1 = 0 → zSp d 230 [.inr (.inr 154), .inl a1] M1 (fun _ M2 => zC (zR32 a2) ((¬ a2 = (-1) → zC (zR32 a2) (zC (zR32 ((M2 154 70) - 1)) (zSp d 137 [.inr (.inl a2), .inr (.inl 0), .inr (.inl ((M2 154 70) - 1))] M2 (fun z3 M3 => zC (zR32 z3) ((z3 = 0 → K (-1) M3) ∧ (¬ (z3 = 0) → zC (zSm a2 80) (K (M3 191 a2) M3))))))) ∧ (¬ (¬ a2 = (-1)) → K (M2 154 70) M2)))) ∧ (¬ (¬ z1 = 0) → K (-1) M1)))))) := (zwp_blk (stops := []) (fuel := 43) pe_241).trans rfl
theorem pe_242 : zPg 242 = pg_242 := rfl
/-! 242 LeastFailingModel.part -/
set_option maxHeartbeats 4000000 in
set_option maxRecDepth 100000 in
theorem me_242 {d : Nat} {K : Kt} {M : Mm} {a1 a2 a3 a4 : Int} : zSp (d + 1) 242 [.inr (.inr 154), .inl a1, .inl a2, .inl a3, .inl a4] M K = (zC (zR32 a1) (zSp d 137 [.inr (.inl a1), .inr (.inl 1), .inr (.inl 80)] (zUp M 154 0 0) (fun z1 M1 => zC (zR32 z1) ((z1 = 0 → K (-1) M1) ∧ (¬ (z1 = 0) → zC (zR32 a2) (zC (zR32 a1) (zSp d 137 [.inr (.inl a2), .inr (.inl 1), .inr (.inl a1)] M1 (fun z2 M2 => zC (zR32 z2) ((z2 = 0 → K (-1) M2) ∧ (¬ (z2 = 0) → zC (zR32 a3) (zC (zR32 (a2 - 1)) (zSp d 137 [.inr (.inl a3), .inr (.inl 0), .inr (.inl (a2 - 1))] M2 (fun z3 M3 => zC (zR32 z3) ((z3 = 0 → K (-1) M3) ∧ (¬ (z3 = 0) → zC (zR32 a4) (zSp d 137 [.inr (.inl a4), .inr (.inl 0), .inr (.inl 1)] M3 (fun z4 M4 => zC (zR32 z4) ((¬ z4 = 0 → zC (zR32 (a3 * a1)) (zC (zR32 a2) (zC (zDv (a3 * a1) a2) (zC (zR32 a4) ((¬ a4 = 0 → zC (zR32 ((a3 + 1) * a1)) (zC (zR32 a2) (zC (zDv ((a3 + 1) * a1) a2) (K ((((a3 + 1) * a1) / a2) - ((a3 * a1) / a2)) M4)))) ∧ (¬ (¬ a4 = 0) → K ((a3 * a1) / a2) M4)))))) ∧ (¬ (¬ z4 = 0) → K (-1) M4))))))))))))))))))) := (zwp_blk (stops := []) (fuel := 58) pe_242).trans rfl
theorem pe_243 : zPg 243 = pg_243 := rfl
/-! 243 LeastFailingModel.tried -/
set_option maxHeartbeats 4000000 in
set_option maxRecDepth 100000 in
theorem me_243 {d : Nat} {K : Kt} {M : Mm} {a1 : Int} : zSp (d + 1) 243 [.inr (.inr 154), .inl a1] M K = (zC (zR32 a1) (zC (zR32 ((M 154 37) - 1)) (zSp d 137 [.inr (.inl a1), .inr (.inl (-1)), .inr (.inl ((M 154 37) - 1))] (zUp M 154 0 0) (fun z1 M1 => zC (zR32 z1) ((¬ z1 = 0 → zWp (zSp d) 243 K 30 [some (.inr (.inr 154)), some (.inl a1), some (.inl 0), some (.inl 0)] [] M1) ∧ (¬ (¬ z1 = 0) → K (-2) M1)))))) := (zwp_blk (stops := [30, 54]) (fuel := 45) pe_243).trans rfl
set_option maxHeartbeats 4000000 in
set_option maxRecDepth 100000 in
theorem fe_243_30 {d : Nat} {K : Kt} {M : Mm} {x1 x2 x3 : Int} : zWp (zSp d) 243 K 30 [some (.inr (.inr 154)), some (.inl x1), some (.inl x2), some (.inl x3)] [] M = (zC (zR32 x3) (zC (zR32 (M 154 57)) (((M 154 57) ≤ x3 → K x2 M) ∧ (¬ ((M 154 57) ≤ x3) → zC (zSm x3 600) (zC (zR32 (M 183 x3)) (zC (zR32 x1) ((¬ (M 183 x3) = x1 → zWp (zSp d) 243 K 54 [some (.inr (.inr 154)), some (.inl x1), some (.inl x2), some (.inl x3)] [.inl 0, .inl x2] M) ∧ (¬ (¬ (M 183 x3) = x1) → zWp (zSp d) 243 K 54 [some (.inr (.inr 154)), some (.inl x1), some (.inl x2), some (.inl x3)] [.inl 1, .inl x2] M)))))))) := (zwp_blk (stops := [30, 54]) (fuel := 45) pe_243).trans rfl
set_option maxHeartbeats 4000000 in
set_option maxRecDepth 100000 in
theorem fe_243_54 {d : Nat} {K : Kt} {M : Mm} {x1 x2 x3 y0 y1 : Int} : zWp (zSp d) 243 K 54 [some (.inr (.inr 154)), some (.inl x1), some (.inl x2), some (.inl x3)] [.inl y1, .inl y0] M = (zSp d 138 [.inl y1] M (fun z1 M1 => zWp (zSp d) 243 K 30 [some (.inr (.inr 154)), some (.inl x1), some (.inl (y0 + z1)), some (.inl (x3 + 1))] [] M1)) := (zwp_blk (stops := [30, 54]) (fuel := 45) pe_243).trans rfl
theorem pe_244 : zPg 244 = pg_244 := rfl
/-! 244 LeastFailingModel.trace -/
set_option maxHeartbeats 4000000 in
set_option maxRecDepth 100000 in
theorem me_244 {d : Nat} {K : Kt} {M : Mm} {a1 a2 : Int} : zSp (d + 1) 244 [.inr (.inr 154), .inl a1, .inl a2] M K = (zC (zR32 a1) (zC (zR32 ((M 154 57) - 1)) (zSp d 137 [.inr (.inl a1), .inr (.inl 0), .inr (.inl ((M 154 57) - 1))] (zUp M 154 0 0) (fun z1 M1 => zC (zR32 z1) ((¬ z1 = 0 → zC (zR32 a2) (((a2 = 0 → zC (zSm a1 600) (K (M1 182 a1) M1)) ∧ ((a2 = 1 → zC (zSm a1 600) (K (M1 183 a1) M1)) ∧ ((a2 = 2 → zC (zSm a1 600) (K (M1 184 a1) M1)) ∧ ((a2 = 3 → zC (zSm a1 600) (K (M1 185 a1) M1)) ∧ True)))) ∧ ((a2 < 0 ∨ 3 < a2) → K (-2) M1))) ∧ (¬ (¬ z1 = 0) → K (-2) M1)))))) := (zwp_blk (stops := []) (fuel := 44) pe_244).trans rfl
theorem pe_245 : zPg 245 = pg_245 := rfl
/-! 245 LeastFailingModel.votes -/
set_option maxHeartbeats 4000000 in
set_option maxRecDepth 100000 in
theorem me_245 {d : Nat} {K : Kt} {M : Mm} {a1 : Int} : zSp (d + 1) 245 [.inr (.inr 154), .inl a1] M K = (zC (zR32 a1) (zSp d 137 [.inr (.inl a1), .inr (.inl 1), .inr (.inl 9)] (zUp M 154 0 0) (fun z1 M1 => zC (zR32 z1) ((z1 = 0 → K (-2) M1) ∧ (¬ (z1 = 0) → zC (zR32 a1) (zC (zDv a1 2) (zC (zR32 (a1 % 2)) ((¬ (a1 % 2) = 0 → zSp d 209 [.inr (.inr 154)] (zUp M1 154 48 a1) (fun _ M2 => K (M1 154 48) M2)) ∧ (¬ (¬ (a1 % 2) = 0) → K (-2) M1))))))))) := (zwp_blk (stops := []) (fuel := 30) pe_245).trans rfl
theorem pe_246 : zPg 246 = pg_246 := rfl
/-! 246 LeastFailingModel.seed -/
set_option maxHeartbeats 4000000 in
set_option maxRecDepth 100000 in
theorem me_246 {d : Nat} {K : Kt} {M : Mm} {a1 : Int} : zSp (d + 1) 246 [.inr (.inr 154), .inl a1] M K = (zC (zR32 a1) ((0 ≤ a1 → zC (zR32 a1) (zSp d 209 [.inr (.inr 154)] (zUp (zUp M 154 0 0) 154 47 a1) (fun _ M1 => K 1 M1))) ∧ (¬ (0 ≤ a1) → K (-2) (zUp M 154 0 0)))) := (zwp_blk (stops := []) (fuel := 20) pe_246).trans rfl
theorem pe_247 : zPg 247 = pg_247 := rfl
/-! 247 LeastFailingModel.ways -/
set_option maxHeartbeats 4000000 in
set_option maxRecDepth 100000 in
theorem me_247 {d : Nat} {K : Kt} {M : Mm} {a1 a2 a3 : Int} : zSp (d + 1) 247 [.inl a1, .inl a2, .inl a3] M K = (zWp (zSp d) 247 K 5 [some (.inl a1), some (.inl a2), some (.inl a3), some (.inr (.inl 1)), none, some (.inl 0)] [] M) := (zwp_blk (stops := [5, 34]) (fuel := 48) pe_247).trans rfl
set_option maxHeartbeats 4000000 in
set_option maxRecDepth 100000 in
theorem fe_247_5 {d : Nat} {K : Kt} {M : Mm} {x0 x1 x2 x3 x5 : Int} : zWp (zSp d) 247 K 5 [some (.inl x0), some (.inl x1), some (.inl x2), some (.inr (.inl x3)), none, some (.inl x5)] [] M = (zC (zR32 x5) (zC (zR32 x2) ((x2 ≤ x5 → zWp (zSp d) 247 K 34 [some (.inl x0), some (.inl x1), some (.inl x2), some (.inr (.inl x3)), none, some (.inl 0)] [] M) ∧ (¬ (x2 ≤ x5) → zC (zR32 (x1 - x5)) (zC (zR32 (x5 + 1)) (zC (zR64 (x3 * (x1 - x5))) (zC (zR64 (x5 + 1)) (zC (zDv (x3 * (x1 - x5)) (x5 + 1)) (zWp (zSp d) 247 K 5 [some (.inl x0), some (.inl x1), some (.inl x2), some (.inr (.inl ((x3 * (x1 - x5)) / (x5 + 1)))), none, some (.inl (x5 + 1))] [] M))))))))) := (zwp_blk (stops := [5, 34]) (fuel := 48) pe_247).trans rfl
set_option maxHeartbeats 4000000 in
set_option maxRecDepth 100000 in
theorem fe_247_34 {d : Nat} {K : Kt} {M : Mm} {x0 x1 x2 x3 x5 : Int} : zWp (zSp d) 247 K 34 [some (.inl x0), some (.inl x1), some (.inl x2), some (.inr (.inl x3)), none, some (.inl x5)] [] M = (zC (zR32 x5) (zC (zR32 x1) ((x1 ≤ x5 → K x3 M) ∧ (¬ (x1 ≤ x5) → zC (zR32 x5) (zC (zR32 x2) ((x2 ≤ x5 → zC (zR32 (100 - x0)) (zWp (zSp d) 247 K 34 [some (.inl x0), some (.inl x1), some (.inl x2), some (.inr (.inl (x3 * (100 - x0)))), none, some (.inl (x5 + 1))] [] M)) ∧ (¬ (x2 ≤ x5) → zC (zR32 x0) (zWp (zSp d) 247 K 34 [some (.inl x0), some (.inl x1), some (.inl x2), some (.inr (.inl (x3 * x0))), none, some (.inl (x5 + 1))] [] M)))))))) := (zwp_blk (stops := [5, 34]) (fuel := 48) pe_247).trans rfl
theorem pe_248 : zPg 248 = pg_248 := rfl
/-! 248 LeastFailingModel.sureOf -/
set_option maxHeartbeats 4000000 in
set_option maxRecDepth 100000 in
theorem me_248 {d : Nat} {K : Kt} {M : Mm} {a1 a2 : Int} : zSp (d + 1) 248 [.inl a1, .inl a2] M K = (zC (zR32 a2) (zC (zDv a2 2) (zWp (zSp d) 248 K 9 [some (.inl a1), some (.inl a2), some (.inr (.inl 0)), none, some (.inl ((a2 / 2) + 1))] [] M))) := (zwp_blk (stops := [9, 46]) (fuel := 47) pe_248).trans rfl
set_option maxHeartbeats 4000000 in
set_option maxRecDepth 100000 in
theorem fe_248_9 {d : Nat} {K : Kt} {M : Mm} {x0 x1 x2 x4 : Int} : zWp (zSp d) 248 K 9 [some (.inl x0), some (.inl x1), some (.inr (.inl x2)), none, some (.inl x4)] [] M = (zC (zR32 x4) (zC (zR32 x1) ((x1 < x4 → zC (zR32 x1) ((¬ x1 = 1 → zWp (zSp d) 248 K 46 [some (.inl x0), some (.inl x1), some (.inr (.inl x2)), none, some (.inl 3)] [] M) ∧ (¬ (¬ x1 = 1) → K (x2 * 10000) M))) ∧ (¬ (x1 < x4) → zSp d 247 [.inl x0, .inl x1, .inl x4] M (fun z1 M1 => zWp (zSp d) 248 K 9 [some (.inl x0), some (.inl x1), some (.inr (.inl (x2 + z1))), none, some (.inl (x4 + 1))] [] M1))))) := (zwp_blk (stops := [9, 46]) (fuel := 47) pe_248).trans rfl
set_option maxHeartbeats 4000000 in
set_option maxRecDepth 100000 in
theorem fe_248_46 {d : Nat} {K : Kt} {M : Mm} {x0 x1 x2 x4 : Int} : zWp (zSp d) 248 K 46 [some (.inl x0), some (.inl x1), some (.inr (.inl x2)), none, some (.inl x4)] [] M = (zC (zR32 x4) (zC (zR32 x1) ((x1 ≤ x4 → K x2 M) ∧ (¬ (x1 ≤ x4) → zC (zR64 x2) (zC (zDv x2 100) (zWp (zSp d) 248 K 46 [some (.inl x0), some (.inl x1), some (.inr (.inl (x2 / 100))), none, some (.inl (x4 + 1))] [] M)))))) := (zwp_blk (stops := [9, 46]) (fuel := 47) pe_248).trans rfl
theorem pe_249 : zPg 249 = pg_249 := rfl
/-! 249 LeastFailingModel.sure -/
set_option maxHeartbeats 4000000 in
set_option maxRecDepth 100000 in
theorem me_249 {d : Nat} {K : Kt} {M : Mm} {a1 a2 : Int} : zSp (d + 1) 249 [.inr (.inr 154), .inl a1, .inl a2] M K = (zC (zR32 a1) (zSp d 137 [.inr (.inl a1), .inr (.inl 0), .inr (.inl 100)] (zUp M 154 0 0) (fun z1 M1 => zC (zR32 z1) ((z1 = 0 → K (-2) M1) ∧ (¬ (z1 = 0) → zC (zR32 a2) (zSp d 137 [.inr (.inl a2), .inr (.inl 1), .inr (.inl 9)] M1 (fun z2 M2 => zC (zR32 z2) ((z2 = 0 → K (-2) M2) ∧ (¬ (z2 = 0) → zC (zR32 a2) (zC (zDv a2 2) (zC (zR32 (a2 % 2)) ((¬ (a2 % 2) = 1 → K (-2) M2) ∧ (¬ (¬ (a2 % 2) = 1) → zSp d 248 [.inl a1, .inl a2] M2 (fun z3 M3 => K z3 M3)))))))))))))) := (zwp_blk (stops := []) (fuel := 31) pe_249).trans rfl
theorem pe_250 : zPg 250 = pg_250 := rfl
/-! 250 LeastFailingModel.enough -/
set_option maxHeartbeats 4000000 in
set_option maxRecDepth 100000 in
theorem me_250 {d : Nat} {K : Kt} {M : Mm} {a1 a2 : Int} : zSp (d + 1) 250 [.inr (.inr 154), .inl a1, .inl a2] M K = (zC (zR32 a1) (zSp d 137 [.inr (.inl a1), .inr (.inl 0), .inr (.inl 100)] (zUp M 154 0 0) (fun z1 M1 => zC (zR32 z1) ((z1 = 0 → K (-2) M1) ∧ (¬ (z1 = 0) → zC (zR32 a2) (zSp d 137 [.inr (.inl a2), .inr (.inl 0), .inr (.inl 1000000)] M1 (fun z2 M2 => zC (zR32 z2) ((¬ z2 = 0 → zWp (zSp d) 250 K 34 [some (.inr (.inr 154)), some (.inl a1), some (.inl a2), some (.inl 1)] [] M2) ∧ (¬ (¬ z2 = 0) → K (-2) M2))))))))) := (zwp_blk (stops := [34]) (fuel := 38) pe_250).trans rfl
set_option maxHeartbeats 4000000 in
set_option maxRecDepth 100000 in
theorem fe_250_34 {d : Nat} {K : Kt} {M : Mm} {x1 x2 x3 : Int} : zWp (zSp d) 250 K 34 [some (.inr (.inr 154)), some (.inl x1), some (.inl x2), some (.inl x3)] [] M = (zC (zR32 x3) ((10 ≤ x3 → K (-1) M) ∧ (¬ (10 ≤ x3) → zSp d 248 [.inl x1, .inl x3] M (fun z1 M1 => zC (zR32 z1) (zC (zR32 x2) ((z1 < x2 → zWp (zSp d) 250 K 34 [some (.inr (.inr 154)), some (.inl x1), some (.inl x2), some (.inl (x3 + 2))] [] M1) ∧ (¬ (z1 < x2) → K x3 M1))))))) := (zwp_blk (stops := [34]) (fuel := 38) pe_250).trans rfl
theorem pe_251 : zPg 251 = pg_251 := rfl
/-! 251 LeastFailingModel.run -/
set_option maxHeartbeats 4000000 in
set_option maxRecDepth 100000 in
theorem me_251 {d : Nat} {K : Kt} {M : Mm} {a1 : Int} : zSp (d + 1) 251 [.inr (.inr 154), .inl a1] M K = (zC (zR32 a1) ((a1 < 0 → K (-1) (zUp M 154 0 0)) ∧ (¬ (a1 < 0) → zSp d 174 [.inr (.inr 154), .inl 0] (zUp M 154 0 0) (fun z1 M1 => zC (zR32 z1) ((¬ z1 = 0 → zC (zR32 a1) (zSp d 206 [.inr (.inr 154), .inl 0] (zUp M1 154 47 a1) (fun z2 M2 => zSp d 208 [.inr (.inr 154), .inl z2] M2 (fun z3 M3 => K z3 (zUp M3 154 47 (M1 154 47)))))) ∧ (¬ (¬ z1 = 0) → K (-1) M1)))))) := (zwp_blk (stops := []) (fuel := 34) pe_251).trans rfl
theorem pe_252 : zPg 252 = pg_252 := rfl
/-! 252 LeastFailingModel.often -/
set_option maxHeartbeats 4000000 in
set_option maxRecDepth 100000 in
theorem me_252 {d : Nat} {K : Kt} {M : Mm} {a1 a2 a3 : Int} : zSp (d + 1) 252 [.inr (.inr 154), .inl a1, .inl a2, .inl a3] M K = (zC (zR32 a1) (zC (zR32 ((M 154 37) - 1)) (zSp d 137 [.inr (.inl a1), .inr (.inl (-1)), .inr (.inl ((M 154 37) - 1))] (zUp M 154 0 0) (fun z1 M1 => zC (zR32 z1) ((z1 = 0 → K (-2) M1) ∧ (¬ (z1 = 0) → zC (zR32 a2) ((a2 < 0 → K (-2) M1) ∧ (¬ (a2 < 0) → zC (zR32 a3) (zSp d 137 [.inr (.inl a3), .inr (.inl 1), .inr (.inl 1000)] M1 (fun z2 M2 => zC (zR32 z2) ((¬ z2 = 0 → zSp d 174 [.inr (.inr 154), .inl 0] M2 (fun z3 M3 => zC (zR32 z3) ((¬ z3 = 0 → zC (zR32 a2) (zSp d 206 [.inr (.inr 154), .inl 0] (zUp M3 154 47 a2) (fun z4 M4 => zWp (zSp d) 252 K 78 [some (.inr (.inr 154)), some (.inl a1), some (.inl a2), some (.inl a3), some (.inr (.inl (M3 154 47))), none, some (.inl z4), some (.inl 0), some (.inl 0)] [] M4))) ∧ (¬ (¬ z3 = 0) → K (-3) M3)))) ∧ (¬ (¬ z2 = 0) → K (-2) M2)))))))))))) := (zwp_blk (stops := [78, 101]) (fuel := 71) pe_252).trans rfl
set_option maxHeartbeats 4000000 in
set_option maxRecDepth 100000 in
theorem fe_252_78 {d : Nat} {K : Kt} {M : Mm} {x1 x2 x3 x4 x6 x7 x8 : Int} : zWp (zSp d) 252 K 78 [some (.inr (.inr 154)), some (.inl x1), some (.inl x2), some (.inl x3), some (.inr (.inl x4)), none, some (.inl x6), some (.inl x7), some (.inl x8)] [] M = (zC (zR32 x8) (zC (zR32 x3) ((x3 ≤ x8 → K x7 (zUp M 154 47 x4)) ∧ (¬ (x3 ≤ x8) → zSp d 208 [.inr (.inr 154), .inl x6] M (fun z1 M1 => zC (zR32 z1) (zC (zR32 x1) ((¬ z1 = x1 → zWp (zSp d) 252 K 101 [some (.inr (.inr 154)), some (.inl x1), some (.inl x2), some (.inl x3), some (.inr (.inl x4)), none, some (.inl x6), some (.inl x7), some (.inl x8)] [.inl 0, .inl x7] M1) ∧ (¬ (¬ z1 = x1) → zWp (zSp d) 252 K 101 [some (.inr (.inr 154)), some (.inl x1), some (.inl x2), some (.inl x3), some (.inr (.inl x4)), none, some (.inl x6), some (.inl x7), some (.inl x8)] [.inl 1, .inl x7] M1)))))))) := (zwp_blk (stops := [78, 101]) (fuel := 71) pe_252).trans rfl
set_option maxHeartbeats 4000000 in
set_option maxRecDepth 100000 in
theorem fe_252_101 {d : Nat} {K : Kt} {M : Mm} {x1 x2 x3 x4 x6 x7 x8 y0 y1 : Int} : zWp (zSp d) 252 K 101 [some (.inr (.inr 154)), some (.inl x1), some (.inl x2), some (.inl x3), some (.inr (.inl x4)), none, some (.inl x6), some (.inl x7), some (.inl x8)] [.inl y1, .inl y0] M = (zSp d 138 [.inl y1] M (fun z1 M1 => zWp (zSp d) 252 K 78 [some (.inr (.inr 154)), some (.inl x1), some (.inl x2), some (.inl x3), some (.inr (.inl x4)), none, some (.inl x6), some (.inl (y0 + z1)), some (.inl (x8 + 1))] [] M1)) := (zwp_blk (stops := [78, 101]) (fuel := 71) pe_252).trans rfl
theorem pe_253 : zPg 253 = pg_253 := rfl
/-! 253 LeastFailingModel.verdict -/
set_option maxHeartbeats 4000000 in
set_option maxRecDepth 100000 in
theorem me_253 {d : Nat} {K : Kt} {M : Mm} : zSp (d + 1) 253 [.inr (.inr 154)] M K = (zSp d 174 [.inr (.inr 154), .inl 0] (zUp M 154 0 0) (fun z1 M1 => zC (zR32 z1) ((¬ z1 = 0 → zSp d 213 [.inr (.inr 154), .inl 0, .inl 0, .inl (-1)] M1 (fun z2 M2 => K z2 M2)) ∧ (¬ (¬ z1 = 0) → K (-1) M1)))) := (zwp_blk (stops := []) (fuel := 20) pe_253).trans rfl
theorem pe_254 : zPg 254 = pg_254 := rfl
/-! 254 LeastFailingModel.count -/
set_option maxHeartbeats 4000000 in
set_option maxRecDepth 100000 in
theorem me_254 {d : Nat} {K : Kt} {M : Mm} {a1 : Int} : zSp (d + 1) 254 [.inr (.inr 154), .inl a1] M K = (zC (zR32 a1) (((a1 = 0 → K (M 156 192) (zUp M 154 0 0)) ∧ ((a1 = 1 → K (M 156 193) (zUp M 154 0 0)) ∧ ((a1 = 2 → zSp d 174 [.inr (.inr 154), .inl 0] (zUp M 154 0 0) (fun z1 M1 => K z1 M1)) ∧ ((a1 = 3 → K (M 154 37) (zUp M 154 0 0)) ∧ ((a1 = 4 → K (M 154 48) (zUp M 154 0 0)) ∧ ((a1 = 5 → K (M 154 57) (zUp M 154 0 0)) ∧ ((a1 = 6 → K (M 154 49) (zUp M 154 0 0)) ∧ ((a1 = 7 → K (M 154 50) (zUp M 154 0 0)) ∧ ((a1 = 8 → K (M 154 51) (zUp M 154 0 0)) ∧ ((a1 = 9 → K (M 154 47) (zUp M 154 0 0)) ∧ ((a1 = 10 → K (M 154 24) (zUp M 154 0 0)) ∧ ((a1 = 11 → zSp d 174 [.inr (.inr 154), .inl 0] (zUp M 154 0 0) (fun z2 M2 => zC (zR32 z2) ((¬ z2 = 0 → zSp d 199 [.inr (.inr 154), .inl 0] M2 (fun z3 M3 => K z3 M3)) ∧ (¬ (¬ z2 = 0) → K (-1) M2)))) ∧ True)))))))))))) ∧ ((a1 < 0 ∨ 11 < a1) → K (-1) (zUp M 154 0 0)))) := (zwp_blk (stops := []) (fuel := 61) pe_254).trans rfl
theorem pe_255 : zPg 255 = pg_255 := rfl
/-! 255 LeastFailingModel.letter -/
set_option maxHeartbeats 4000000 in
set_option maxRecDepth 100000 in
theorem me_255 {d : Nat} {K : Kt} {M : Mm} {a1 a2 a3 : Int} : zSp (d + 1) 255 [.inr (.inr 154), .inl a1, .inl a2, .inl a3] M K = (zC (zR32 a1) ((¬ a1 = 0 → zC (zR32 a1) ((¬ a1 = 1 → zC (zR32 a1) ((¬ a1 = 2 → zWp (zSp d) 255 K 49 [some (.inr (.inr 154)), some (.inl a1), some (.inl a2), some (.inl a3), none, none, none] [.inl 0] (zUp M 154 0 0)) ∧ (¬ (¬ a1 = 2) → zWp (zSp d) 255 K 49 [some (.inr (.inr 154)), some (.inl a1), some (.inl a2), some (.inl a3), none, none, none] [.inl (M 154 37)] (zUp M 154 0 0)))) ∧ (¬ (¬ a1 = 1) → zWp (zSp d) 255 K 49 [some (.inr (.inr 154)), some (.inl a1), some (.inl a2), some (.inl a3), none, none, none] [.inl (M 156 193)] (zUp M 154 0 0)))) ∧ (¬ (¬ a1 = 0) → zWp (zSp d) 255 K 49 [some (.inr (.inr 154)), some (.inl a1), some (.inl a2), some (.inl a3), none, none, none] [.inl (M 156 192)] (zUp M 154 0 0)))) := (zwp_blk (stops := [49, 112]) (fuel := 79) pe_255).trans rfl
set_option maxHeartbeats 4000000 in
set_option maxRecDepth 100000 in
theorem fe_255_49 {d : Nat} {K : Kt} {M : Mm} {x1 x2 x3 y0 : Int} : zWp (zSp d) 255 K 49 [some (.inr (.inr 154)), some (.inl x1), some (.inl x2), some (.inl x3), none, none, none] [.inl y0] M = (zC (zR32 x2) (zC (zR32 (y0 - 1)) (zSp d 137 [.inr (.inl x2), .inr (.inl 0), .inr (.inl (y0 - 1))] M (fun z1 M1 => zC (zR32 z1) ((z1 = 0 → K (-1) M1) ∧ (¬ (z1 = 0) → zC (zR32 x3) (zSp d 137 [.inr (.inl x3), .inr (.inl 0), .inr (.inl 5)] M1 (fun z2 M2 => zC (zR32 z2) ((¬ z2 = 0 → zC (zR32 x1) ((¬ x1 = 0 → zC (zR32 x1) ((¬ x1 = 1 → zC (zSm x2 6) (zWp (zSp d) 255 K 112 [some (.inr (.inr 154)), some (.inl x1), some (.inl x2), some (.inl x3), some (.inl y0), none, none] [.inr (.inl (M2 174 x2))] M2)) ∧ (¬ (¬ x1 = 1) → zC (zSm x2 6) (zWp (zSp d) 255 K 112 [some (.inr (.inr 154)), some (.inl x1), some (.inl x2), some (.inl x3), some (.inl y0), none, none] [.inr (.inl (M2 158 x2))] M2)))) ∧ (¬ (¬ x1 = 0) → zC (zSm x2 24) (zWp (zSp d) 255 K 112 [some (.inr (.inr 154)), some (.inl x1), some (.inl x2), some (.inl x3), some (.inl y0), none, none] [.inr (.inl (M2 157 x2))] M2)))) ∧ (¬ (¬ z2 = 0) → K (-1) M2)))))))))) := (zwp_blk (stops := [49, 112]) (fuel := 79) pe_255).trans rfl
set_option maxHeartbeats 4000000 in
set_option maxRecDepth 100000 in
theorem fe_255_112 {d : Nat} {K : Kt} {M : Mm} {x1 x2 x3 x4 y0 : Int} : zWp (zSp d) 255 K 112 [some (.inr (.inr 154)), some (.inl x1), some (.inl x2), some (.inl x3), some (.inl x4), none, none] [.inr (.inl y0)] M = (zC (zR64 y0) (zC (zSm (5 * (5 - x3)) 64) (K (zLandZ (y0 / 2 ^ (5 * (5 - x3)).toNat) 31) M))) := (zwp_blk (stops := [49, 112]) (fuel := 79) pe_255).trans rfl
theorem pe_256 : zPg 256 = pg_256 := rfl
/-! 256 LeastFailingModel.isLine -/
set_option maxHeartbeats 4000000 in
set_option maxRecDepth 100000 in
theorem me_256 {d : Nat} {K : Kt} {M : Mm} {a1 : Int} : zSp (d + 1) 256 [.inr (.inr 154), .inl a1] M K = (zC (zR32 a1) (zC (zR32 ((M 156 192) - 1)) (zSp d 137 [.inr (.inl a1), .inr (.inl 0), .inr (.inl ((M 156 192) - 1))] M (fun z1 M1 => zC (zBo z1) (K z1 M1))))) := (zwp_blk (stops := []) (fuel := 17) pe_256).trans rfl
theorem pe_257 : zPg 257 = pg_257 := rfl
/-! 257 LeastFailingModel.line -/
set_option maxHeartbeats 4000000 in
set_option maxRecDepth 100000 in
theorem me_257 {d : Nat} {K : Kt} {M : Mm} {a1 a2 : Int} : zSp (d + 1) 257 [.inr (.inr 154), .inl a1, .inl a2] M K = (zSp d 256 [.inr (.inr 154), .inl a1] (zUp M 154 0 0) (fun z1 M1 => zC (zR32 z1) ((¬ z1 = 0 → zC (zR32 a2) (((a2 = 0 → zSp d 170 [.inr (.inr 154), .inl a1, .inl 1] M1 (fun z2 M2 => K z2 M2)) ∧ ((a2 = 1 → zSp d 170 [.inr (.inr 154), .inl a1, .inl 0] M1 (fun z3 M3 => K z3 M3)) ∧ ((a2 = 2 → zSp d 170 [.inr (.inr 154), .inl a1, .inl 2] M1 (fun z4 M4 => K z4 M4)) ∧ ((a2 = 3 → zSp d 170 [.inr (.inr 154), .inl a1, .inl 3] M1 (fun z5 M5 => K z5 M5)) ∧ True)))) ∧ ((a2 < 0 ∨ 3 < a2) → zC (zR32 a2) (zSp d 170 [.inr (.inr 154), .inl a1, .inl 2] M1 (fun z6 M6 => zC (zR32 (9 + z6)) (zSp d 137 [.inr (.inl a2), .inr (.inl 10), .inr (.inl (9 + z6))] M6 (fun z7 M7 => zC (zR32 z7) ((z7 = 0 → K (-1) M7) ∧ (¬ (z7 = 0) → zSp d 170 [.inr (.inr 154), .inl a1, .inl ((4 + a2) - 10)] M7 (fun z8 M8 => K z8 M8)))))))))) ∧ (¬ (¬ z1 = 0) → K (-1) M1)))) := (zwp_blk (stops := []) (fuel := 59) pe_257).trans rfl
theorem pe_258 : zPg 258 = pg_258 := rfl
/-! 258 LeastFailingModel.least -/
set_option maxHeartbeats 4000000 in
set_option maxRecDepth 100000 in
theorem me_258 {d : Nat} {K : Kt} {M : Mm} {a1 a2 : Int} : zSp (d + 1) 258 [.inr (.inr 154), .inl a1, .inl a2] M K = (zC (zR32 a1) (zC (zR32 ((M 156 193) - 1)) (zSp d 137 [.inr (.inl a1), .inr (.inl 0), .inr (.inl ((M 156 193) - 1))] (zUp M 154 0 0) (fun z1 M1 => zC (zR32 z1) ((¬ z1 = 0 → zC (zR32 a2) ((¬ a2 = (-1) → zC (zR32 a2) (zC (zSm a1 6) (zC (zR32 ((M1 162 a1) - 1)) (zSp d 137 [.inr (.inl a2), .inr (.inl 0), .inr (.inl ((M1 162 a1) - 1))] M1 (fun z2 M2 => zC (zR32 z2) ((z2 = 0 → K (-1) M2) ∧ (¬ (z2 = 0) → zSp d 198 [.inr (.inr 154), .inl a1, .inl a2] M2 (fun z3 M3 => K z3 M3)))))))) ∧ (¬ (¬ a2 = (-1)) → zC (zSm a1 6) (K (M1 162 a1) M1)))) ∧ (¬ (¬ z1 = 0) → K (-1) M1)))))) := (zwp_blk (stops := []) (fuel := 49) pe_258).trans rfl
theorem pe_259 : zPg 259 = pg_259 := rfl
/-! 259 LeastFailingModel.partsOf -/
set_option maxHeartbeats 4000000 in
set_option maxRecDepth 100000 in
theorem me_259 {d : Nat} {K : Kt} {M : Mm} {a1 : Int} : zSp (d + 1) 259 [.inr (.inr 154), .inl a1] M K = (zWp (zSp d) 259 K 6 [some (.inr (.inr 154)), some (.inl a1), some (.inl 0), some (.inl (a1 + 1))] [] M) := (zwp_blk (stops := [6]) (fuel := 30) pe_259).trans rfl
set_option maxHeartbeats 4000000 in
set_option maxRecDepth 100000 in
theorem fe_259_6 {d : Nat} {K : Kt} {M : Mm} {x1 x2 x3 : Int} : zWp (zSp d) 259 K 6 [some (.inr (.inr 154)), some (.inl x1), some (.inl x2), some (.inl x3)] [] M = (zSp d 176 [.inr (.inr 154), .inl 0, .inl x1] M (fun z1 M1 => zC (zR32 x3) (zC (zR32 (x1 + z1)) (((x1 + z1) ≤ x3 → K x2 M1) ∧ (¬ ((x1 + z1) ≤ x3) → zSp d 176 [.inr (.inr 154), .inl 0, .inl x3] M1 (fun z2 M2 => zWp (zSp d) 259 K 6 [some (.inr (.inr 154)), some (.inl x1), some (.inl (x2 + 1)), some (.inl (x3 + z2))] [] M2)))))) := (zwp_blk (stops := [6]) (fuel := 30) pe_259).trans rfl
theorem pe_260 : zPg 260 = pg_260 := rfl
/-! 260 LeastFailingModel.node -/
set_option maxHeartbeats 4000000 in
set_option maxRecDepth 100000 in
theorem me_260 {d : Nat} {K : Kt} {M : Mm} {a1 a2 : Int} : zSp (d + 1) 260 [.inr (.inr 154), .inl a1, .inl a2] M K = (zC (zR32 a1) (zSp d 174 [.inr (.inr 154), .inl 0] (zUp M 154 0 0) (fun z1 M1 => zC (zR32 (z1 - 1)) (zSp d 137 [.inr (.inl a1), .inr (.inl 0), .inr (.inl (z1 - 1))] M1 (fun z2 M2 => zC (zR32 z2) ((¬ z2 = 0 → zSp d 196 [.inr (.inr 154), .inl 0] M2 (fun _ M3 => zC (zR32 a2) (((a2 = 0 → zSp d 175 [.inr (.inr 154), .inl 0, .inl a1] M3 (fun z4 M4 => K z4 M4)) ∧ ((a2 = 1 → zSp d 197 [.inr (.inr 154), .inl 0, .inl a1] M3 (fun z5 M5 => K z5 M5)) ∧ ((a2 = 2 → zC (zSm a1 80) (K (M3 178 a1) M3)) ∧ ((a2 = 3 → zSp d 176 [.inr (.inr 154), .inl 0, .inl a1] M3 (fun z6 M6 => K z6 M6)) ∧ ((a2 = 4 → zSp d 259 [.inr (.inr 154), .inl a1] M3 (fun z7 M7 => K z7 M7)) ∧ ((a2 = 5 → zC (zSm a1 80) (K (M3 177 a1) M3)) ∧ ((a2 = 6 → zC (zSm a1 80) (K (M3 179 a1) M3)) ∧ ((a2 = 7 → zC (zSm a1 80) (zSp d 138 [.inl (M3 180 a1)] M3 (fun z8 M8 => K z8 M8))) ∧ True)))))))) ∧ ((a2 < 0 ∨ 7 < a2) → K (-2) M3)))) ∧ (¬ (¬ z2 = 0) → K (-2) M2))))))) := (zwp_blk (stops := []) (fuel := 68) pe_260).trans rfl
theorem pe_261 : zPg 261 = pg_261 := rfl
/-! 261 LeastFailingModel.holding -/
set_option maxHeartbeats 4000000 in
set_option maxRecDepth 100000 in
theorem me_261 {d : Nat} {K : Kt} {M : Mm} : zSp (d + 1) 261 [.inr (.inr 154)] M K = (zSp d 174 [.inr (.inr 154), .inl 0] (zUp M 154 0 0) (fun z1 M1 => zC (zR32 z1) ((¬ z1 = 0 → zSp d 206 [.inr (.inr 154), .inl 0] M1 (fun z2 M2 => K z2 M2)) ∧ (¬ (¬ z1 = 0) → K (-1) M1)))) := (zwp_blk (stops := []) (fuel := 18) pe_261).trans rfl
theorem pe_262 : zPg 262 = pg_262 := rfl
/-! 262 LeastFailingModel.counts -/
set_option maxHeartbeats 4000000 in
set_option maxRecDepth 100000 in
theorem me_262 {d : Nat} {K : Kt} {M : Mm} {a1 a2 a3 : Int} : zSp (d + 1) 262 [.inr (.inr 154), .inl a1, .inl a2, .inl a3] M K = (zSp d 174 [.inr (.inr 154), .inl 0] (zUp M 154 0 0) (fun z1 M1 => zC (zR32 z1) ((z1 = 0 → K (-1) M1) ∧ (¬ (z1 = 0) → zC (zR32 a1) (zSp d 137 [.inr (.inl a1), .inr (.inl 0), .inr (.inl 4)] M1 (fun z2 M2 => zC (zR32 z2) ((z2 = 0 → K (-1) M2) ∧ (¬ (z2 = 0) → zC (zR32 a1) ((a1 ≤ 1 → zWp (zSp d) 262 K 38 [some (.inr (.inr 154)), some (.inl a1), some (.inl a2), some (.inl a3)] [] M2) ∧ (¬ (a1 ≤ 1) → zSp d 256 [.inr (.inr 154), .inl a2] M2 (fun z3 M3 => zC (zR32 z3) ((z3 = 0 → K (-1) M3) ∧ (¬ (z3 = 0) → zWp (zSp d) 262 K 38 [some (.inr (.inr 154)), some (.inl a1), some (.inl a2), some (.inl a3)] [] M3))))))))))))) := (zwp_blk (stops := [38, 53]) (fuel := 41) pe_262).trans rfl
set_option maxHeartbeats 4000000 in
set_option maxRecDepth 100000 in
theorem fe_262_38 {d : Nat} {K : Kt} {M : Mm} {x1 x2 x3 : Int} : zWp (zSp d) 262 K 38 [some (.inr (.inr 154)), some (.inl x1), some (.inl x2), some (.inl x3)] [] M = (zC (zR32 x1) ((x1 ≤ 2 → zWp (zSp d) 262 K 53 [some (.inr (.inr 154)), some (.inl x1), some (.inl x2), some (.inl x3)] [] M) ∧ (¬ (x1 ≤ 2) → zSp d 256 [.inr (.inr 154), .inl x3] M (fun z1 M1 => zC (zR32 z1) ((¬ z1 = 0 → zWp (zSp d) 262 K 53 [some (.inr (.inr 154)), some (.inl x1), some (.inl x2), some (.inl x3)] [] M1) ∧ (¬ (¬ z1 = 0) → K (-1) M1)))))) := (zwp_blk (stops := [38, 53]) (fuel := 41) pe_262).trans rfl
set_option maxHeartbeats 4000000 in
set_option maxRecDepth 100000 in
theorem fe_262_53 {d : Nat} {K : Kt} {M : Mm} {x1 x2 x3 : Int} : zWp (zSp d) 262 K 53 [some (.inr (.inr 154)), some (.inl x1), some (.inl x2), some (.inl x3)] [] M = (zSp d 203 [.inr (.inr 154), .inl 0, .inl x1, .inl x2, .inl x3] M (fun z1 M1 => K z1 M1)) := (zwp_blk (stops := [38, 53]) (fuel := 41) pe_262).trans rfl
theorem pe_263 : zPg 263 = pg_263 := rfl
/-! 263 Math.max -/
set_option maxHeartbeats 4000000 in
set_option maxRecDepth 100000 in
theorem me_263 {d : Nat} {K : Kt} {M : Mm} {a1 a2 : Int} : zSp (d + 1) 263 [.inl a1, .inl a2] M K = (zC (zR32 a1) (zC (zR32 a2) ((a1 < a2 → K a2 M) ∧ (¬ (a1 < a2) → K a1 M)))) := (zwp_blk (stops := []) (fuel := 12) pe_263).trans rfl
theorem pe_264 : zPg 264 = pg_264 := rfl
/-! 264 Math.min -/
set_option maxHeartbeats 4000000 in
set_option maxRecDepth 100000 in
theorem me_264 {d : Nat} {K : Kt} {M : Mm} {a1 a2 : Int} : zSp (d + 1) 264 [.inl a1, .inl a2] M K = (zC (zR32 a1) (zC (zR32 a2) ((a2 < a1 → K a2 M) ∧ (¬ (a2 < a1) → K a1 M)))) := (zwp_blk (stops := []) (fuel := 12) pe_264).trans rfl
theorem pe_265 : zPg 265 = pg_265 := rfl
/-! 265 fillL -/
set_option maxHeartbeats 4000000 in
set_option maxRecDepth 100000 in
theorem me_265 {d : Nat} {K : Kt} {M : Mm} {a2 : Int} {o1 : Nat} : zSp (d + 1) 265 [.inr (.inr o1), .inr (.inl a2)] M K = (zC (zArr o1 0 || zArr o1 1) (zWp (zSp d) 265 K 6 [some (.inr (.inr o1)), some (.inr (.inl a2)), none, some (.inl 0), some (.inl (zLen o1))] [] M)) := (zwp_blk (stops := [6]) (fuel := 20) pe_265).trans rfl
set_option maxHeartbeats 4000000 in
set_option maxRecDepth 100000 in
theorem fe_265_6 {d : Nat} {K : Kt} {M : Mm} {x1 x3 x4 : Int} {o1 : Nat} : zWp (zSp d) 265 K 6 [some (.inr (.inr o1)), some (.inr (.inl x1)), none, some (.inl x3), some (.inl x4)] [] M = (zC (zR32 x3) (zC (zR32 x4) ((x4 ≤ x3 → K 0 M) ∧ (¬ (x4 ≤ x3) → zC (zArr o1 1) (zC (zSm x3 (zLen o1)) (zWp (zSp d) 265 K 6 [some (.inr (.inr o1)), some (.inr (.inl x1)), none, some (.inl (x3 + 1)), some (.inl x4)] [] (zUp M o1 x3 x1))))))) := (zwp_blk (stops := [6]) (fuel := 20) pe_265).trans rfl
theorem pe_266 : zPg 266 = pg_266 := rfl
/-! 266 fillI -/
set_option maxHeartbeats 4000000 in
set_option maxRecDepth 100000 in
theorem me_266 {d : Nat} {K : Kt} {M : Mm} {a2 : Int} {o1 : Nat} : zSp (d + 1) 266 [.inr (.inr o1), .inl a2] M K = (zC (zArr o1 0 || zArr o1 1) (zWp (zSp d) 266 K 5 [some (.inr (.inr o1)), some (.inl a2), some (.inl 0), some (.inl (zLen o1))] [] M)) := (zwp_blk (stops := [5]) (fuel := 20) pe_266).trans rfl
set_option maxHeartbeats 4000000 in
set_option maxRecDepth 100000 in
theorem fe_266_5 {d : Nat} {K : Kt} {M : Mm} {x1 x2 x3 : Int} {o1 : Nat} : zWp (zSp d) 266 K 5 [some (.inr (.inr o1)), some (.inl x1), some (.inl x2), some (.inl x3)] [] M = (zC (zR32 x2) (zC (zR32 x3) ((x3 ≤ x2 → K 0 M) ∧ (¬ (x3 ≤ x2) → zC (zArr o1 0) (zC (zSm x2 (zLen o1)) (zWp (zSp d) 266 K 5 [some (.inr (.inr o1)), some (.inl x1), some (.inl (x2 + 1)), some (.inl x3)] [] (zUp M o1 x2 x1))))))) := (zwp_blk (stops := [5]) (fuel := 20) pe_266).trans rfl
end
