/-! code tables, in pieces of sixteen bytes, by wip/tools/gen3.py -/
abbrev PC : Type := List (List (Nat × Instr × Nat))
def cd0 : PC := [[(0, .aload_n 0, 1), (1, .invokespecial 1, 3), (4, .aload_n 0, 1), (5, .bipush 64, 2), (7, .newarray .int, 2), (9, .putfield 9, 3), (12, .aload_n 0, 1), (13, .iload_n 1, 1), (14, .iconst 0, 1), (15, .invokestatic 13, 3)],
  [(18, .newarray .int, 2), (20, .putfield 19, 3), (23, .return_, 1)]]
set_option maxRecDepth 100000 in
theorem cd0_ok : ∀ ch ∈ cd0, ∀ e ∈ ch, decode (byAt 234) e.1 = .ok (e.2.1, e.2.2) := by decide +kernel
def cd1 : PC := [[(0, .aload_n 0, 1), (1, .getfield 22, 3), (4, .aload_n 0, 1), (5, .getfield 19, 3), (8, .arraylength, 1), (9, .if_icmp .ge 23, 3), (12, .aload_n 0, 1), (13, .getfield 19, 3)],
  [(16, .aload_n 0, 1), (17, .getfield 22, 3), (20, .iload_n 1, 1), (21, .iastore, 1), (22, .aload_n 0, 1), (23, .dup, 1), (24, .getfield 22, 3), (27, .iconst 1, 1), (28, .iadd, 1), (29, .putfield 22, 3)],
  [(32, .return_, 1)]]
set_option maxRecDepth 100000 in
theorem cd1_ok : ∀ ch ∈ cd1, ∀ e ∈ ch, decode (byAt 677) e.1 = .ok (e.2.1, e.2.2) := by decide +kernel
def cd2 : PC := [[(0, .new 7, 3), (3, .dup, 1), (4, .aload_n 0, 1), (5, .getfield 22, 3), (8, .invokespecial 26, 3), (11, .astore_n 1, 1), (12, .aload_n 0, 1), (13, .getfield 19, 3)],
  [(16, .iconst 0, 1), (17, .aload_n 1, 1), (18, .getfield 19, 3), (21, .iconst 0, 1), (22, .aload_n 0, 1), (23, .getfield 22, 3), (26, .invokestatic 29, 3), (29, .aload_n 1, 1), (30, .aload_n 0, 1), (31, .getfield 22, 3)],
  [(34, .putfield 22, 3), (37, .aload_n 1, 1), (38, .areturn, 1)]]
set_option maxRecDepth 100000 in
theorem cd2_ok : ∀ ch ∈ cd2, ∀ e ∈ ch, decode (byAt 738) e.1 = .ok (e.2.1, e.2.2) := by decide +kernel
def cd3 : PC := [[(0, .aload_n 0, 1), (1, .iconst 0, 1), (2, .putfield 35, 3), (5, .iconst 0, 1), (6, .istore_n 2, 1), (7, .iload_n 2, 1), (8, .aload_n 0, 1), (9, .getfield 22, 3), (12, .if_icmp .ge 139, 3), (15, .aload_n 0, 1)],
  [(16, .getfield 19, 3), (19, .iload_n 2, 1), (20, .iaload, 1), (21, .istore_n 3, 1), (22, .iload_n 3, 1), (23, .bipush (-12), 2), (25, .if_icmp .ne 8, 3), (28, .aload_n 0, 1), (29, .invokevirtual 38, 3)],
  [(32, .ireturn, 1), (33, .iload_n 3, 1), (34, .ifCond .lt 11, 3), (37, .aload_n 0, 1), (38, .iload_n 3, 1), (39, .invokevirtual 42, 3), (42, .goto 103, 3), (45, .iload_n 3, 1), (46, .bipush (-13), 2)],
  [(48, .if_icmp .gt 29, 3), (51, .aload_n 0, 1), (52, .bipush (-13), 2), (54, .iload_n 3, 1), (55, .isub, 1), (56, .aload_n 1, 1), (57, .arraylength, 1), (58, .if_icmp .ge 12, 3), (61, .aload_n 1, 1), (62, .bipush (-13), 2)],
  [(64, .iload_n 3, 1), (65, .isub, 1), (66, .iaload, 1), (67, .goto 4, 3), (70, .iconst 0, 1), (71, .invokevirtual 42, 3), (74, .goto 71, 3), (77, .iload_n 3, 1), (78, .bipush (-8), 2)],
  [(80, .if_icmp .ne 16, 3), (83, .aload_n 0, 1), (84, .iconst 1, 1), (85, .aload_n 0, 1), (86, .invokevirtual 38, 3), (89, .isub, 1), (90, .invokevirtual 42, 3), (93, .goto 52, 3)],
  [(96, .iload_n 3, 1), (97, .bipush (-11), 2), (99, .if_icmp .eq 33, 3), (102, .aload_n 0, 1), (103, .invokevirtual 38, 3), (106, .istore 4, 2), (108, .aload_n 0, 1), (109, .invokevirtual 38, 3)],
  [(112, .istore 5, 2), (114, .aload_n 0, 1), (115, .iload_n 3, 1), (116, .iload 5, 2), (118, .iload 4, 2), (120, .invokestatic 45, 3), (123, .invokestatic 49, 3), (126, .invokevirtual 42, 3)],
  [(129, .goto 16, 3), (132, .aload_n 0, 1), (133, .invokevirtual 38, 3), (136, .ifCond .ne 9, 3), (139, .aload_n 0, 1), (140, .iload_n 2, 1), (141, .invokevirtual 53, 3)],
  [(144, .istore_n 2, 1), (145, .iinc 2 1, 3), (148, .goto (-141), 3), (151, .iconst 0, 1), (152, .ireturn, 1)]]
set_option maxRecDepth 100000 in
theorem cd3_ok : ∀ ch ∈ cd3, ∀ e ∈ ch, decode (byAt 1032) e.1 = .ok (e.2.1, e.2.2) := by decide +kernel
def cd4 : PC := [[(0, .iload_n 1, 1), (1, .istore_n 2, 1), (2, .iload_n 2, 1), (3, .aload_n 0, 1), (4, .getfield 22, 3), (7, .if_icmp .ge 22, 3), (10, .aload_n 0, 1), (11, .getfield 19, 3), (14, .iload_n 2, 1), (15, .iaload, 1)],
  [(16, .bipush (-12), 2), (18, .if_icmp .ne 5, 3), (21, .iload_n 2, 1), (22, .ireturn, 1), (23, .iinc 2 1, 3), (26, .goto (-24), 3), (29, .aload_n 0, 1), (30, .getfield 22, 3)],
  [(33, .ireturn, 1)]]
set_option maxRecDepth 100000 in
theorem cd4_ok : ∀ ch ∈ cd4, ∀ e ∈ ch, decode (byAt 1058) e.1 = .ok (e.2.1, e.2.2) := by decide +kernel
def cd5 : PC := [[(0, .aload_n 0, 1), (1, .getfield 35, 3), (4, .aload_n 0, 1), (5, .getfield 9, 3), (8, .arraylength, 1), (9, .if_icmp .ge 23, 3), (12, .aload_n 0, 1), (13, .getfield 9, 3)],
  [(16, .aload_n 0, 1), (17, .getfield 35, 3), (20, .iload_n 1, 1), (21, .iastore, 1), (22, .aload_n 0, 1), (23, .dup, 1), (24, .getfield 35, 3), (27, .iconst 1, 1), (28, .iadd, 1), (29, .putfield 35, 3)],
  [(32, .return_, 1)]]
set_option maxRecDepth 100000 in
theorem cd5_ok : ∀ ch ∈ cd5, ∀ e ∈ ch, decode (byAt 1040) e.1 = .ok (e.2.1, e.2.2) := by decide +kernel
def cd6 : PC := [[(0, .aload_n 0, 1), (1, .getfield 35, 3), (4, .ifCond .gt 5, 3), (7, .iconst 0, 1), (8, .ireturn, 1), (9, .aload_n 0, 1), (10, .dup, 1), (11, .getfield 35, 3), (14, .iconst 1, 1), (15, .isub, 1)],
  [(16, .putfield 35, 3), (19, .aload_n 0, 1), (20, .getfield 9, 3), (23, .aload_n 0, 1), (24, .getfield 35, 3), (27, .iaload, 1), (28, .ireturn, 1)]]
set_option maxRecDepth 100000 in
theorem cd6_ok : ∀ ch ∈ cd6, ∀ e ∈ ch, decode (byAt 1036) e.1 = .ok (e.2.1, e.2.2) := by decide +kernel
def cd7 : PC := [[(0, .iload_n 0, 1), (1, .tableswitch 118 (-9) (-1) #[113, 118, 102, 91, 80, 67, 61, 56, 51], 51)],
  [],
  [],
  [(52, .iload_n 1, 1), (53, .iload_n 2, 1), (54, .iadd, 1), (55, .i2l, 1), (56, .lreturn, 1), (57, .iload_n 1, 1), (58, .iload_n 2, 1), (59, .isub, 1), (60, .i2l, 1), (61, .lreturn, 1), (62, .iload_n 1, 1), (63, .i2l, 1)],
  [(64, .iload_n 2, 1), (65, .i2l, 1), (66, .lmul, 1), (67, .lreturn, 1), (68, .iload_n 2, 1), (69, .ifCond .ne 7, 3), (72, .lconst 0, 1), (73, .goto 7, 3), (76, .iload_n 1, 1), (77, .iload_n 2, 1), (78, .idiv, 1), (79, .i2l, 1)],
  [(80, .lreturn, 1), (81, .iload_n 1, 1), (82, .iload_n 2, 1), (83, .if_icmp .ne 7, 3), (86, .lconst 1, 1), (87, .goto 4, 3), (90, .lconst 0, 1), (91, .lreturn, 1), (92, .iload_n 1, 1), (93, .iload_n 2, 1), (94, .if_icmp .ge 7, 3)],
  [(97, .lconst 1, 1), (98, .goto 4, 3), (101, .lconst 0, 1), (102, .lreturn, 1), (103, .iload_n 1, 1), (104, .iload_n 2, 1), (105, .if_icmp .le 7, 3), (108, .lconst 1, 1), (109, .goto 4, 3)],
  [(112, .lconst 0, 1), (113, .lreturn, 1), (114, .iload_n 1, 1), (115, .iload_n 2, 1), (116, .iand, 1), (117, .i2l, 1), (118, .lreturn, 1), (119, .iload_n 1, 1), (120, .iload_n 2, 1), (121, .ior, 1), (122, .i2l, 1), (123, .lreturn, 1)]]
set_option maxRecDepth 100000 in
theorem cd7_ok : ∀ ch ∈ cd7, ∀ e ∈ ch, decode (byAt 1043) e.1 = .ok (e.2.1, e.2.2) := by decide +kernel
def cd8 : PC := [[(0, .ldc2_w 57, 3), (3, .ldc2_w 59, 3), (6, .lload_n 0, 1), (7, .invokestatic 61, 3), (10, .invokestatic 65, 3), (13, .l2i, 1), (14, .ireturn, 1)]]
set_option maxRecDepth 100000 in
theorem cd8_ok : ∀ ch ∈ cd8, ∀ e ∈ ch, decode (byAt 1046) e.1 = .ok (e.2.1, e.2.2) := by decide +kernel
def cd9 : PC := [[(0, .aload_n 0, 1), (1, .invokespecial 3, 3), (4, .aload_n 0, 1), (5, .aload_n 1, 1), (6, .putfield 9, 3), (9, .aload_n 0, 1), (10, .aload_n 2, 1), (11, .putfield 15, 3), (14, .return_, 1)]]
set_option maxRecDepth 100000 in
theorem cd9_ok : ∀ ch ∈ cd9, ∀ e ∈ ch, decode (byAt 464) e.1 = .ok (e.2.1, e.2.2) := by decide +kernel
def cd10 : PC := [[(0, .aload_n 0, 1), (1, .iconst 0, 1), (2, .putfield 19, 3), (5, .return_, 1)]]
set_option maxRecDepth 100000 in
theorem cd10_ok : ∀ ch ∈ cd10, ∀ e ∈ ch, decode (byAt 730) e.1 = .ok (e.2.1, e.2.2) := by decide +kernel
def cd11 : PC := [[(0, .aload_n 0, 1), (1, .getfield 19, 3), (4, .ifCond .eq 4, 3), (7, .return_, 1), (8, .aload_n 0, 1), (9, .getfield 9, 3), (12, .invokevirtual 23, 3), (15, .iconst 0, 1)],
  [(16, .istore_n 1, 1), (17, .aload_n 0, 1), (18, .iconst 1, 1), (19, .aload_n 0, 1), (20, .getfield 9, 3), (23, .getfield 28, 3), (26, .getfield 32, 3), (29, .ishl, 1), (30, .iconst 1, 1), (31, .isub, 1)],
  [(32, .putfield 38, 3), (35, .iconst 0, 1), (36, .istore_n 2, 1), (37, .iload_n 2, 1), (38, .aload_n 0, 1), (39, .getfield 9, 3), (42, .getfield 41, 3), (45, .if_icmp .ge 53, 3)],
  [(48, .aload_n 0, 1), (49, .iload_n 2, 1), (50, .invokevirtual 44, 3), (53, .istore_n 3, 1), (54, .aload_n 0, 1), (55, .getfield 9, 3), (58, .iload_n 2, 1), (59, .ldc 48, 2), (61, .iload_n 3, 1), (62, .invokevirtual 49, 3)],
  [(65, .iload_n 3, 1), (66, .ifCond .eq 26, 3), (69, .iconst 1, 1), (70, .istore_n 1, 1), (71, .aload_n 0, 1), (72, .dup, 1), (73, .getfield 38, 3), (76, .aload_n 0, 1), (77, .getfield 9, 3)],
  [(80, .getfield 53, 3), (83, .iload_n 2, 1), (84, .iaload, 1), (85, .invokestatic 57, 3), (88, .iand, 1), (89, .putfield 38, 3), (92, .iinc 2 1, 3), (95, .goto (-58), 3)],
  [(98, .aload_n 0, 1), (99, .iload_n 1, 1), (100, .ifCond .eq 10, 3), (103, .aload_n 0, 1), (104, .getfield 38, 3), (107, .goto 4, 3), (110, .iconst 0, 1), (111, .putfield 38, 3)],
  [(114, .aload_n 0, 1), (115, .iconst 1, 1), (116, .putfield 19, 3), (119, .return_, 1)]]
set_option maxRecDepth 100000 in
theorem cd11_ok : ∀ ch ∈ cd11, ∀ e ∈ ch, decode (byAt 1074) e.1 = .ok (e.2.1, e.2.2) := by decide +kernel
def cd12 : PC := [[(0, .iconst 0, 1), (1, .istore_n 2, 1), (2, .iload_n 2, 1), (3, .aload_n 0, 1), (4, .getfield 15, 3), (7, .getfield 61, 3), (10, .if_icmp .ge 64, 3), (13, .aload_n 0, 1), (14, .getfield 15, 3)],
  [(17, .getfield 66, 3), (20, .iload_n 2, 1), (21, .iaload, 1), (22, .istore_n 3, 1), (23, .aload_n 0, 1), (24, .getfield 15, 3), (27, .getfield 69, 3), (30, .iload_n 2, 1), (31, .iaload, 1)],
  [(32, .ifCond .ne 12, 3), (35, .aload_n 0, 1), (36, .iload_n 1, 1), (37, .iload_n 3, 1), (38, .invokevirtual 72, 3), (41, .goto 9, 3), (44, .aload_n 0, 1), (45, .iload_n 1, 1), (46, .iload_n 3, 1), (47, .invokevirtual 76, 3)],
  [(50, .istore 4, 2), (52, .iload 4, 2), (54, .aload_n 0, 1), (55, .getfield 15, 3), (58, .getfield 79, 3), (61, .iload_n 2, 1), (62, .iaload, 1), (63, .if_icmp .eq 5, 3)],
  [(66, .iconst 0, 1), (67, .ireturn, 1), (68, .iinc 2 1, 3), (71, .goto (-69), 3), (74, .iconst 1, 1), (75, .ireturn, 1)]]
set_option maxRecDepth 100000 in
theorem cd12_ok : ∀ ch ∈ cd12, ∀ e ∈ ch, decode (byAt 1079) e.1 = .ok (e.2.1, e.2.2) := by decide +kernel
def cd13 : PC := [[(0, .iconst 0, 1), (1, .istore_n 3, 1), (2, .iload_n 3, 1), (3, .aload_n 0, 1), (4, .getfield 9, 3), (7, .getfield 28, 3), (10, .getfield 32, 3), (13, .if_icmp .ge 43, 3)],
  [(16, .aload_n 0, 1), (17, .getfield 9, 3), (20, .getfield 53, 3), (23, .iload_n 1, 1), (24, .iaload, 1), (25, .iload_n 3, 1), (26, .invokestatic 82, 3), (29, .ifCond .ne 21, 3)],
  [(32, .aload_n 0, 1), (33, .getfield 9, 3), (36, .iload_n 1, 1), (37, .iload_n 3, 1), (38, .invokevirtual 88, 3), (41, .bipush 10, 2), (43, .idiv, 1), (44, .iload_n 2, 1), (45, .if_icmp .ne 5, 3)],
  [(48, .iconst 1, 1), (49, .ireturn, 1), (50, .iinc 3 1, 3), (53, .goto (-51), 3), (56, .iconst 0, 1), (57, .ireturn, 1)]]
set_option maxRecDepth 100000 in
theorem cd13_ok : ∀ ch ∈ cd13, ∀ e ∈ ch, decode (byAt 1083) e.1 = .ok (e.2.1, e.2.2) := by decide +kernel
def cd14 : PC := [[(0, .iconst 0, 1), (1, .istore_n 3, 1), (2, .iconst 0, 1), (3, .istore 4, 2), (5, .iload 4, 2), (7, .aload_n 0, 1), (8, .getfield 9, 3), (11, .getfield 28, 3), (14, .getfield 32, 3)],
  [(17, .if_icmp .ge 60, 3), (20, .aload_n 0, 1), (21, .getfield 9, 3), (24, .getfield 53, 3), (27, .iload_n 1, 1), (28, .iaload, 1), (29, .iload 4, 2), (31, .invokestatic 82, 3)],
  [(34, .ifCond .ne 37, 3), (37, .aload_n 0, 1), (38, .getfield 9, 3), (41, .iload_n 1, 1), (42, .iload 4, 2), (44, .invokevirtual 88, 3), (47, .bipush 10, 2)],
  [(49, .irem, 1), (50, .iload_n 2, 1), (51, .if_icmp .ne 20, 3), (54, .iload_n 3, 1), (55, .aload_n 0, 1), (56, .getfield 9, 3), (59, .getfield 53, 3), (62, .iload_n 1, 1), (63, .iaload, 1)],
  [(64, .iload 4, 2), (66, .invokestatic 91, 3), (69, .iadd, 1), (70, .istore_n 3, 1), (71, .iinc 4 1, 3), (74, .goto (-69), 3), (77, .iload_n 3, 1), (78, .ireturn, 1)]]
set_option maxRecDepth 100000 in
theorem cd14_ok : ∀ ch ∈ cd14, ∀ e ∈ ch, decode (byAt 1089) e.1 = .ok (e.2.1, e.2.2) := by decide +kernel
def cd15 : PC := [[(0, .iconst 0, 1), (1, .istore_n 1, 1), (2, .iconst 0, 1), (3, .istore_n 2, 1), (4, .iload_n 2, 1), (5, .iconst 3, 1), (6, .if_icmp .ge 23, 3), (9, .iload_n 0, 1), (10, .iload_n 2, 1), (11, .invokestatic 94, 3), (14, .ifCond .le 9, 3)],
  [(17, .iload_n 1, 1), (18, .iconst 1, 1), (19, .iload_n 2, 1), (20, .ishl, 1), (21, .ior, 1), (22, .istore_n 1, 1), (23, .iinc 2 1, 3), (26, .goto (-22), 3), (29, .iload_n 1, 1), (30, .ireturn, 1)]]
set_option maxRecDepth 100000 in
theorem cd15_ok : ∀ ch ∈ cd15, ∀ e ∈ ch, decode (byAt 1095) e.1 = .ok (e.2.1, e.2.2) := by decide +kernel
def cd16 : PC := [[(0, .aload_n 0, 1), (1, .invokespecial 3, 3), (4, .aload_n 0, 1), (5, .iconst 4, 1), (6, .getstatic 9, 3), (9, .arraylength, 1), (10, .multianewarray 13 2, 4), (14, .putfield 15, 3)],
  [(17, .aload_n 0, 1), (18, .iconst 3, 1), (19, .getstatic 20, 3), (22, .arraylength, 1), (23, .multianewarray 13 2, 4), (27, .putfield 23, 3), (30, .aload_n 0, 1), (31, .getstatic 26, 3)],
  [(34, .arraylength, 1), (35, .newarray .int, 2), (37, .putfield 29, 3), (40, .return_, 1)]]
set_option maxRecDepth 100000 in
theorem cd16_ok : ∀ ch ∈ cd16, ∀ e ∈ ch, decode (byAt 143) e.1 = .ok (e.2.1, e.2.2) := by decide +kernel
def cd17 : PC := [[(0, .aload_n 0, 1), (1, .getfield 32, 3), (4, .ifCond .le 7, 3), (7, .iconst 1, 1), (8, .goto 4, 3), (11, .iconst 0, 1), (12, .ireturn, 1)]]
set_option maxRecDepth 100000 in
theorem cd17_ok : ∀ ch ∈ cd17, ∀ e ∈ ch, decode (byAt 757) e.1 = .ok (e.2.1, e.2.2) := by decide +kernel
def cd18 : PC := [[(0, .aload_n 0, 1), (1, .iconst 0, 1), (2, .putfield 36, 3), (5, .aload_n 0, 1), (6, .iconst 0, 1), (7, .putfield 32, 3), (10, .getstatic 39, 3), (13, .iconst 0, 1), (14, .aload_n 0, 1), (15, .getfield 29, 3)],
  [(18, .iconst 0, 1), (19, .aload_n 0, 1), (20, .getfield 29, 3), (23, .arraylength, 1), (24, .invokestatic 42, 3), (27, .return_, 1)]]
set_option maxRecDepth 100000 in
theorem cd18_ok : ∀ ch ∈ cd18, ∀ e ∈ ch, decode (byAt 560) e.1 = .ok (e.2.1, e.2.2) := by decide +kernel
def cd19 : PC := [[(0, .aload_n 0, 1), (1, .aload_n 1, 1), (2, .getfield 36, 3), (5, .putfield 36, 3), (8, .aload_n 0, 1), (9, .aload_n 1, 1), (10, .getfield 32, 3), (13, .putfield 32, 3)],
  [(16, .iconst 0, 1), (17, .istore_n 2, 1), (18, .iload_n 2, 1), (19, .iconst 4, 1), (20, .if_icmp .ge 30, 3), (23, .aload_n 1, 1), (24, .getfield 15, 3), (27, .iload_n 2, 1), (28, .aaload, 1), (29, .iconst 0, 1), (30, .aload_n 0, 1), (31, .getfield 15, 3)],
  [(34, .iload_n 2, 1), (35, .aaload, 1), (36, .iconst 0, 1), (37, .getstatic 9, 3), (40, .arraylength, 1), (41, .invokestatic 42, 3), (44, .iinc 2 1, 3), (47, .goto (-29), 3)],
  [(50, .iconst 0, 1), (51, .istore_n 2, 1), (52, .iload_n 2, 1), (53, .iconst 3, 1), (54, .if_icmp .ge 30, 3), (57, .aload_n 1, 1), (58, .getfield 23, 3), (61, .iload_n 2, 1), (62, .aaload, 1), (63, .iconst 0, 1)],
  [(64, .aload_n 0, 1), (65, .getfield 23, 3), (68, .iload_n 2, 1), (69, .aaload, 1), (70, .iconst 0, 1), (71, .getstatic 20, 3), (74, .arraylength, 1), (75, .invokestatic 42, 3), (78, .iinc 2 1, 3)],
  [(81, .goto (-29), 3), (84, .aload_n 1, 1), (85, .getfield 29, 3), (88, .iconst 0, 1), (89, .aload_n 0, 1), (90, .getfield 29, 3), (93, .iconst 0, 1), (94, .aload_n 0, 1), (95, .getfield 29, 3)],
  [(98, .arraylength, 1), (99, .invokestatic 42, 3), (102, .return_, 1)]]
set_option maxRecDepth 100000 in
theorem cd19_ok : ∀ ch ∈ cd19, ∀ e ∈ ch, decode (byAt 713) e.1 = .ok (e.2.1, e.2.2) := by decide +kernel
def cd20 : PC := [[(0, .iload_n 1, 1), (1, .ifCond .lt 27, 3), (4, .iload_n 1, 1), (5, .bipush 10, 2), (7, .idiv, 1), (8, .bipush 6, 2), (10, .if_icmp .ge 18, 3), (13, .iload_n 1, 1), (14, .bipush 10, 2)],
  [(16, .irem, 1), (17, .aload_n 0, 1), (18, .getfield 36, 3), (21, .if_icmp .ge 7, 3), (24, .iconst 1, 1), (25, .goto 4, 3), (28, .iconst 0, 1), (29, .ireturn, 1)]]
set_option maxRecDepth 100000 in
theorem cd20_ok : ∀ ch ∈ cd20, ∀ e ∈ ch, decode (byAt 779) e.1 = .ok (e.2.1, e.2.2) := by decide +kernel
def cd21 : PC := [[(0, .iload_n 2, 1), (1, .bipush 99, 2), (3, .if_icmp .ne 5, 3), (6, .iconst 1, 1), (7, .ireturn, 1), (8, .aload_n 0, 1), (9, .iload_n 2, 1), (10, .invokevirtual 48, 3), (13, .ifCond .eq 30, 3)],
  [(16, .aload_n 0, 1), (17, .aload_n 0, 1), (18, .getfield 23, 3), (21, .iload_n 1, 1), (22, .aaload, 1), (23, .iconst 1, 1), (24, .iaload, 1), (25, .iload_n 2, 1), (26, .bipush 10, 2), (28, .idiv, 1), (29, .iload_n 2, 1), (30, .bipush 10, 2)],
  [(32, .irem, 1), (33, .invokevirtual 52, 3), (36, .ifCond .eq 7, 3), (39, .iconst 1, 1), (40, .goto 4, 3), (43, .iconst 0, 1), (44, .ireturn, 1)]]
set_option maxRecDepth 100000 in
theorem cd21_ok : ∀ ch ∈ cd21, ∀ e ∈ ch, decode (byAt 783) e.1 = .ok (e.2.1, e.2.2) := by decide +kernel
def cd22 : PC := [[(0, .iload_n 2, 1), (1, .aload_n 0, 1), (2, .getfield 15, 3), (5, .iload_n 3, 1), (6, .aaload, 1), (7, .iconst 0, 1), (8, .iaload, 1), (9, .isub, 1), (10, .istore 4, 2), (12, .aload_n 0, 1), (13, .getfield 15, 3)],
  [(16, .iload_n 3, 1), (17, .aaload, 1), (18, .iconst 1, 1), (19, .iaload, 1), (20, .istore 5, 2), (22, .iload 4, 2), (24, .iload 4, 2), (26, .imul, 1), (27, .iload 5, 2), (29, .iload 5, 2), (31, .imul, 1)],
  [(32, .iadd, 1), (33, .iload_n 1, 1), (34, .iload_n 1, 1), (35, .imul, 1), (36, .if_icmp .gt 7, 3), (39, .iconst 1, 1), (40, .goto 4, 3), (43, .iconst 0, 1), (44, .ireturn, 1)]]
set_option maxRecDepth 100000 in
theorem cd22_ok : ∀ ch ∈ cd22, ∀ e ∈ ch, decode (byAt 788) e.1 = .ok (e.2.1, e.2.2) := by decide +kernel
def cd23 : PC := [[(0, .iconst 0, 1), (1, .istore_n 2, 1), (2, .iconst 0, 1), (3, .istore_n 3, 1), (4, .iload_n 3, 1), (5, .aload_n 0, 1), (6, .getfield 36, 3), (9, .if_icmp .ge 42, 3), (12, .iconst 0, 1), (13, .istore 4, 2), (15, .iload 4, 2)],
  [(17, .bipush 6, 2), (19, .if_icmp .ge 26, 3), (22, .aload_n 0, 1), (23, .iload_n 1, 1), (24, .iload 4, 2), (26, .iload_n 3, 1), (27, .invokevirtual 52, 3), (30, .ifCond .eq 9, 3)],
  [(33, .iload_n 2, 1), (34, .iconst 1, 1), (35, .iload_n 3, 1), (36, .ishl, 1), (37, .ior, 1), (38, .istore_n 2, 1), (39, .iinc 4 1, 3), (42, .goto (-27), 3), (45, .iinc 3 1, 3)],
  [(48, .goto (-44), 3), (51, .iload_n 2, 1), (52, .ireturn, 1)]]
set_option maxRecDepth 100000 in
theorem cd23_ok : ∀ ch ∈ cd23, ∀ e ∈ ch, decode (byAt 1109) e.1 = .ok (e.2.1, e.2.2) := by decide +kernel
def cd24 : PC := [[(0, .aload_n 0, 1), (1, .aload_n 1, 1), (2, .invokespecial 3, 3), (5, .aload_n 0, 1), (6, .new 9, 3), (9, .dup, 1), (10, .invokespecial 11, 3), (13, .putfield 14, 3)],
  [(16, .return_, 1)]]
set_option maxRecDepth 100000 in
theorem cd24_ok : ∀ ch ∈ cd24, ∀ e ∈ ch, decode (byAt 190) e.1 = .ok (e.2.1, e.2.2) := by decide +kernel
def cd25 : PC := [[(0, .aload_n 0, 1), (1, .invokevirtual 20, 3), (4, .aload_n 0, 1), (5, .getfield 14, 3), (8, .invokevirtual 23, 3), (11, .aload_n 0, 1), (12, .iconst 0, 1), (13, .putfield 26, 3)],
  [(16, .iconst 0, 1), (17, .istore_n 1, 1), (18, .iload_n 1, 1), (19, .bipush 9, 2), (21, .if_icmp .ge 36, 3), (24, .aload_n 0, 1), (25, .invokevirtual 30, 3), (28, .ifCond .eq 29, 3), (31, .aload_n 0, 1)],
  [(32, .invokevirtual 34, 3), (35, .aload_n 0, 1), (36, .invokevirtual 37, 3), (39, .ifCond .ne 6, 3), (42, .goto 15, 3), (45, .aload_n 0, 1), (46, .bipush 59, 2)],
  [(48, .invokevirtual 41, 3), (51, .iinc 1 1, 3), (54, .goto (-36), 3), (57, .aload_n 0, 1), (58, .getfield 14, 3), (61, .getfield 45, 3)],
  [(64, .ifCond .eq 13, 3), (67, .aload_n 0, 1), (68, .getfield 14, 3), (71, .getfield 49, 3), (74, .ifCond .ne 14, 3), (77, .aload_n 0, 1), (78, .aload_n 0, 1), (79, .getfield 52, 3)],
  [(82, .getfield 56, 3), (85, .invokevirtual 61, 3), (88, .aload_n 0, 1), (89, .getfield 64, 3), (92, .ireturn, 1)]]
set_option maxRecDepth 100000 in
theorem cd25_ok : ∀ ch ∈ cd25, ∀ e ∈ ch, decode (byAt 550) e.1 = .ok (e.2.1, e.2.2) := by decide +kernel
def cd26 : PC := [[(0, .aload_n 0, 1), (1, .invokevirtual 37, 3), (4, .istore_n 1, 1), (5, .iload_n 1, 1), (6, .bipush 119, 2), (8, .if_icmp .ne 71, 3), (11, .aload_n 0, 1), (12, .getfield 14, 3), (15, .getfield 45, 3)],
  [(18, .iconst 4, 1), (19, .if_icmp .ge 60, 3), (22, .aload_n 0, 1), (23, .getfield 14, 3), (26, .getfield 67, 3), (29, .aload_n 0, 1), (30, .getfield 14, 3)],
  [(33, .getfield 45, 3), (36, .aaload, 1), (37, .astore_n 2, 1), (38, .aload_n 0, 1), (39, .getfield 14, 3), (42, .dup, 1), (43, .getfield 45, 3), (46, .iconst 1, 1), (47, .iadd, 1)],
  [(48, .putfield 45, 3), (51, .getstatic 71, 3), (54, .iconst 0, 1), (55, .aload_n 2, 1), (56, .iconst 0, 1), (57, .aload_n 2, 1), (58, .arraylength, 1), (59, .invokestatic 75, 3), (62, .aload_n 0, 1), (63, .getstatic 81, 3)],
  [(66, .getstatic 84, 3), (69, .getstatic 87, 3), (72, .aload_n 2, 1), (73, .invokevirtual 90, 3), (76, .goto 126, 3), (79, .iload_n 1, 1)],
  [(80, .bipush 98, 2), (82, .if_icmp .ne 71, 3), (85, .aload_n 0, 1), (86, .getfield 14, 3), (89, .getfield 49, 3), (92, .iconst 3, 1), (93, .if_icmp .ge 60, 3)],
  [(96, .aload_n 0, 1), (97, .getfield 14, 3), (100, .getfield 94, 3), (103, .aload_n 0, 1), (104, .getfield 14, 3), (107, .getfield 49, 3), (110, .aaload, 1), (111, .astore_n 2, 1)],
  [(112, .aload_n 0, 1), (113, .getfield 14, 3), (116, .dup, 1), (117, .getfield 49, 3), (120, .iconst 1, 1), (121, .iadd, 1), (122, .putfield 49, 3), (125, .getstatic 97, 3)],
  [(128, .iconst 0, 1), (129, .aload_n 2, 1), (130, .iconst 0, 1), (131, .aload_n 2, 1), (132, .arraylength, 1), (133, .invokestatic 75, 3), (136, .aload_n 0, 1), (137, .getstatic 100, 3), (140, .getstatic 103, 3), (143, .getstatic 106, 3)],
  [(146, .aload_n 2, 1), (147, .invokevirtual 90, 3), (150, .goto 52, 3), (153, .iload_n 1, 1), (154, .bipush 108, 2), (156, .if_icmp .ne 38, 3), (159, .aload_n 0, 1)],
  [(160, .getfield 26, 3), (163, .ifCond .ne 31, 3), (166, .aload_n 0, 1), (167, .iconst 1, 1), (168, .putfield 26, 3), (171, .aload_n 0, 1), (172, .getstatic 109, 3), (175, .getstatic 112, 3)],
  [(178, .getstatic 115, 3), (181, .aload_n 0, 1), (182, .getfield 14, 3), (185, .getfield 118, 3), (188, .invokevirtual 90, 3), (191, .goto 11, 3)],
  [(194, .aload_n 0, 1), (195, .aload_n 0, 1), (196, .getfield 121, 3), (199, .invokevirtual 61, 3), (202, .return_, 1)]]
set_option maxRecDepth 100000 in
theorem cd26_ok : ∀ ch ∈ cd26, ∀ e ∈ ch, decode (byAt 575) e.1 = .ok (e.2.1, e.2.2) := by decide +kernel
def cd27 : PC := [[(0, .aload_n 0, 1), (1, .dup, 1), (2, .getfield 121, 3), (5, .iconst 1, 1), (6, .iadd, 1), (7, .putfield 121, 3), (10, .iconst 0, 1), (11, .istore 5, 2), (13, .iconst 0, 1), (14, .istore 6, 2)],
  [(16, .iload 6, 2), (18, .aload_n 1, 1), (19, .arraylength, 1), (20, .if_icmp .gt 115, 3), (23, .aload_n 0, 1), (24, .invokevirtual 30, 3), (27, .ifCond .eq 108, 3), (30, .aload_n 1, 1), (31, .aload_n 0, 1)],
  [(32, .invokevirtual 37, 3), (35, .invokestatic 124, 3), (38, .istore 7, 2), (40, .iload 7, 2), (42, .iconst (-1), 1), (43, .if_icmp .ne 4, 3), (46, .return_, 1), (47, .iload 5, 2)],
  [(49, .iconst 1, 1), (50, .iload 7, 2), (52, .ishl, 1), (53, .iand, 1), (54, .ifCond .eq 12, 3), (57, .aload_n 0, 1), (58, .aload_n 0, 1), (59, .getfield 121, 3), (62, .invokevirtual 61, 3)],
  [(65, .return_, 1), (66, .iload 5, 2), (68, .iconst 1, 1), (69, .iload 7, 2), (71, .ishl, 1), (72, .ior, 1), (73, .istore 5, 2), (75, .aload_n 0, 1), (76, .dup, 1), (77, .getfield 121, 3)],
  [(80, .iconst 1, 1), (81, .iadd, 1), (82, .putfield 121, 3), (85, .aload 4, 2), (87, .iload 7, 2), (89, .aload_n 0, 1), (90, .iconst 2, 1), (91, .invokevirtual 128, 3), (94, .iastore, 1), (95, .aload 4, 2)],
  [(97, .iload 7, 2), (99, .iaload, 1), (100, .aload_n 2, 1), (101, .iload 7, 2), (103, .iaload, 1), (104, .if_icmp .lt 15, 3), (107, .aload 4, 2), (109, .iload 7, 2), (111, .iaload, 1)],
  [(112, .aload_n 3, 1), (113, .iload 7, 2), (115, .iaload, 1), (116, .if_icmp .le 13, 3), (119, .aload_n 0, 1), (120, .aload_n 0, 1), (121, .getfield 121, 3), (124, .iconst 1, 1), (125, .isub, 1), (126, .invokevirtual 61, 3)],
  [(129, .iinc 6 1, 3), (132, .goto (-116), 3), (135, .return_, 1)]]
set_option maxRecDepth 100000 in
theorem cd27_ok : ∀ ch ∈ cd27, ∀ e ∈ ch, decode (byAt 593) e.1 = .ok (e.2.1, e.2.2) := by decide +kernel
def cd28 : PC := [[(0, .aload_n 0, 1), (1, .invokespecial 5, 3), (4, .aload_n 0, 1), (5, .iconst 3, 1), (6, .newarray .int, 2), (8, .putfield 11, 3), (11, .aload_n 0, 1), (12, .iconst 3, 1), (13, .newarray .int, 2), (15, .putfield 15, 3)],
  [(18, .aload_n 0, 1), (19, .iconst 3, 1), (20, .newarray .int, 2), (22, .putfield 18, 3), (25, .aload_n 0, 1), (26, .iconst 4, 1), (27, .newarray .int, 2), (29, .putfield 21, 3)],
  [(32, .aload_n 0, 1), (33, .iconst 4, 1), (34, .newarray .int, 2), (36, .putfield 24, 3), (39, .aload_n 0, 1), (40, .iconst 3, 1), (41, .newarray .int, 2), (43, .putfield 27, 3), (46, .aload_n 0, 1), (47, .iconst 3, 1)],
  [(48, .newarray .int, 2), (50, .putfield 30, 3), (53, .aload_n 0, 1), (54, .iconst 3, 1), (55, .newarray .int, 2), (57, .putfield 33, 3), (60, .aload_n 0, 1), (61, .bipush 36, 2), (63, .newarray .int, 2)],
  [(65, .putfield 36, 3), (68, .aload_n 0, 1), (69, .bipush 36, 2), (71, .newarray .int, 2), (73, .putfield 39, 3), (76, .aload_n 0, 1), (77, .bipush 36, 2), (79, .newarray .int, 2)],
  [(81, .putfield 42, 3), (84, .aload_n 0, 1), (85, .aload_n 1, 1), (86, .putfield 45, 3), (89, .return_, 1)]]
set_option maxRecDepth 100000 in
theorem cd28_ok : ∀ ch ∈ cd28, ∀ e ∈ ch, decode (byAt 323) e.1 = .ok (e.2.1, e.2.2) := by decide +kernel
def cd29 : PC := [[(0, .aload_n 0, 1), (1, .aload_n 1, 1), (2, .invokevirtual 49, 3), (5, .aload_n 0, 1), (6, .invokevirtual 53, 3), (9, .aload_n 0, 1), (10, .invokevirtual 56, 3), (13, .iconst 0, 1), (14, .istore_n 2, 1), (15, .iload_n 2, 1)],
  [(16, .bipush 36, 2), (18, .if_icmp .ge 25, 3), (21, .aload_n 0, 1), (22, .invokevirtual 59, 3), (25, .istore_n 3, 1), (26, .iload_n 3, 1), (27, .iconst (-1), 1), (28, .if_icmp .ne 4, 3), (31, .return_, 1)],
  [(32, .aload_n 0, 1), (33, .iload_n 3, 1), (34, .invokevirtual 63, 3), (37, .iinc 2 1, 3), (40, .goto (-25), 3), (43, .return_, 1)]]
set_option maxRecDepth 100000 in
theorem cd29_ok : ∀ ch ∈ cd29, ∀ e ∈ ch, decode (byAt 804) e.1 = .ok (e.2.1, e.2.2) := by decide +kernel
def cd30 : PC := [[(0, .aload_n 0, 1), (1, .getfield 15, 3), (4, .iload_n 1, 1), (5, .iaload, 1), (6, .iconst (-1), 1), (7, .if_icmp .ne 7, 3), (10, .iconst 1, 1), (11, .goto 4, 3), (14, .iconst 0, 1), (15, .ireturn, 1)]]
set_option maxRecDepth 100000 in
theorem cd30_ok : ∀ ch ∈ cd30, ∀ e ∈ ch, decode (byAt 878) e.1 = .ok (e.2.1, e.2.2) := by decide +kernel
def cd31 : PC := [[(0, .iconst 0, 1), (1, .istore_n 1, 1), (2, .iconst 0, 1), (3, .istore_n 2, 1), (4, .iload_n 2, 1), (5, .aload_n 0, 1), (6, .getfield 45, 3), (9, .getfield 67, 3), (12, .if_icmp .ge 25, 3), (15, .aload_n 0, 1)],
  [(16, .getfield 15, 3), (19, .iload_n 2, 1), (20, .iaload, 1), (21, .iconst (-1), 1), (22, .if_icmp .ne 9, 3), (25, .iload_n 1, 1), (26, .iconst 1, 1), (27, .iload_n 2, 1), (28, .ishl, 1), (29, .ior, 1), (30, .istore_n 1, 1), (31, .iinc 2 1, 3)],
  [(34, .goto (-30), 3), (37, .iload_n 1, 1), (38, .ireturn, 1)]]
set_option maxRecDepth 100000 in
theorem cd31_ok : ∀ ch ∈ cd31, ∀ e ∈ ch, decode (byAt 890) e.1 = .ok (e.2.1, e.2.2) := by decide +kernel
def cd32 : PC := [[(0, .aload_n 0, 1), (1, .getfield 45, 3), (4, .getfield 73, 3), (7, .iload_n 1, 1), (8, .aaload, 1), (9, .iconst 2, 1), (10, .iaload, 1), (11, .aload_n 0, 1), (12, .getfield 21, 3), (15, .iload_n 1, 1)],
  [(16, .iaload, 1), (17, .isub, 1), (18, .ireturn, 1)]]
set_option maxRecDepth 100000 in
theorem cd32_ok : ∀ ch ∈ cd32, ∀ e ∈ ch, decode (byAt 886) e.1 = .ok (e.2.1, e.2.2) := by decide +kernel
def cd33 : PC := [[(0, .iconst 0, 1), (1, .istore_n 2, 1), (2, .iload_n 2, 1), (3, .iconst 3, 1), (4, .if_icmp .ge 83, 3), (7, .iload_n 2, 1), (8, .aload_n 0, 1), (9, .getfield 45, 3), (12, .getfield 67, 3), (15, .if_icmp .ge 24, 3)],
  [(18, .aload_n 1, 1), (19, .iload_n 2, 1), (20, .iaload, 1), (21, .bipush 99, 2), (23, .if_icmp .eq 16, 3), (26, .aload_n 0, 1), (27, .iload_n 2, 1), (28, .aload_n 1, 1), (29, .invokevirtual 77, 3)],
  [(32, .ifCond .eq 7, 3), (35, .iconst 1, 1), (36, .goto 4, 3), (39, .iconst 0, 1), (40, .istore_n 3, 1), (41, .aload_n 0, 1), (42, .getfield 11, 3), (45, .iload_n 2, 1), (46, .iload_n 3, 1), (47, .ifCond .eq 12, 3)],
  [(50, .aload_n 1, 1), (51, .iload_n 2, 1), (52, .iaload, 1), (53, .bipush 10, 2), (55, .idiv, 1), (56, .goto 4, 3), (59, .iconst (-1), 1), (60, .iastore, 1), (61, .aload_n 0, 1), (62, .getfield 15, 3)],
  [(65, .iload_n 2, 1), (66, .iload_n 3, 1), (67, .ifCond .eq 12, 3), (70, .aload_n 1, 1), (71, .iload_n 2, 1), (72, .iaload, 1), (73, .bipush 10, 2), (75, .irem, 1), (76, .goto 4, 3), (79, .iconst (-1), 1)],
  [(80, .iastore, 1), (81, .iinc 2 1, 3), (84, .goto (-82), 3), (87, .return_, 1)]]
set_option maxRecDepth 100000 in
theorem cd33_ok : ∀ ch ∈ cd33, ∀ e ∈ ch, decode (byAt 808) e.1 = .ok (e.2.1, e.2.2) := by decide +kernel
def cd34 : PC := [[(0, .iconst 0, 1), (1, .istore_n 3, 1), (2, .iload_n 3, 1), (3, .aload_n 0, 1), (4, .getfield 45, 3), (7, .getfield 67, 3), (10, .if_icmp .ge 78, 3), (13, .aload_n 0, 1), (14, .getfield 45, 3)],
  [(17, .getfield 81, 3), (20, .iload_n 1, 1), (21, .aaload, 1), (22, .iconst 0, 1), (23, .iaload, 1), (24, .aload_n 0, 1), (25, .getfield 45, 3), (28, .getfield 81, 3), (31, .iload_n 3, 1)],
  [(32, .aaload, 1), (33, .iconst 0, 1), (34, .iaload, 1), (35, .isub, 1), (36, .istore 4, 2), (38, .iload 4, 2), (40, .ifCond .gt 13, 3), (43, .iload 4, 2), (45, .ifCond .ne 12, 3)],
  [(48, .iload_n 3, 1), (49, .iload_n 1, 1), (50, .if_icmp .ge 7, 3), (53, .iconst 1, 1), (54, .goto 4, 3), (57, .iconst 0, 1), (58, .istore 5, 2), (60, .iload 5, 2), (62, .ifCond .eq 20, 3)],
  [(65, .aload_n 2, 1), (66, .iload_n 3, 1), (67, .iaload, 1), (68, .bipush 10, 2), (70, .idiv, 1), (71, .aload_n 2, 1), (72, .iload_n 1, 1), (73, .iaload, 1), (74, .bipush 10, 2), (76, .idiv, 1), (77, .if_icmp .ne 5, 3)],
  [(80, .iconst 0, 1), (81, .ireturn, 1), (82, .iinc 3 1, 3), (85, .goto (-83), 3), (88, .iconst 1, 1), (89, .ireturn, 1)]]
set_option maxRecDepth 100000 in
theorem cd34_ok : ∀ ch ∈ cd34, ∀ e ∈ ch, decode (byAt 812) e.1 = .ok (e.2.1, e.2.2) := by decide +kernel
def cd35 : PC := [[(0, .iconst 0, 1), (1, .istore_n 1, 1), (2, .iload_n 1, 1), (3, .iconst 3, 1), (4, .if_icmp .ge 16, 3), (7, .aload_n 0, 1), (8, .getfield 27, 3), (11, .iload_n 1, 1), (12, .iconst 0, 1), (13, .iastore, 1), (14, .iinc 1 1, 3)],
  [(17, .goto (-15), 3), (20, .iconst 0, 1), (21, .istore_n 1, 1), (22, .iload_n 1, 1), (23, .aload_n 0, 1), (24, .getfield 45, 3), (27, .getfield 67, 3), (30, .if_icmp .ge 59, 3)],
  [(33, .iload_n 1, 1), (34, .iconst 1, 1), (35, .iadd, 1), (36, .istore_n 2, 1), (37, .iload_n 2, 1), (38, .aload_n 0, 1), (39, .getfield 45, 3), (42, .getfield 67, 3), (45, .if_icmp .ge 38, 3)],
  [(48, .aload_n 0, 1), (49, .iload_n 1, 1), (50, .iload_n 2, 1), (51, .invokevirtual 84, 3), (54, .ifCond .eq 23, 3), (57, .aload_n 0, 1), (58, .getfield 27, 3), (61, .iload_n 1, 1), (62, .dup2, 1), (63, .iaload, 1)],
  [(64, .iconst 1, 1), (65, .iadd, 1), (66, .iastore, 1), (67, .aload_n 0, 1), (68, .getfield 27, 3), (71, .iload_n 2, 1), (72, .dup2, 1), (73, .iaload, 1), (74, .iconst 1, 1), (75, .iadd, 1), (76, .iastore, 1), (77, .iinc 2 1, 3)],
  [(80, .goto (-43), 3), (83, .iinc 1 1, 3), (86, .goto (-64), 3), (89, .return_, 1)]]
set_option maxRecDepth 100000 in
theorem cd35_ok : ∀ ch ∈ cd35, ∀ e ∈ ch, decode (byAt 816) e.1 = .ok (e.2.1, e.2.2) := by decide +kernel
def cd36 : PC := [[(0, .aload_n 0, 1), (1, .getfield 15, 3), (4, .iload_n 1, 1), (5, .iaload, 1), (6, .iconst (-1), 1), (7, .if_icmp .eq 13, 3), (10, .aload_n 0, 1), (11, .getfield 15, 3), (14, .iload_n 2, 1), (15, .iaload, 1)],
  [(16, .iconst (-1), 1), (17, .if_icmp .ne 5, 3), (20, .iconst 0, 1), (21, .ireturn, 1), (22, .aload_n 0, 1), (23, .getfield 11, 3), (26, .iload_n 1, 1), (27, .iaload, 1), (28, .aload_n 0, 1), (29, .getfield 11, 3)],
  [(32, .iload_n 2, 1), (33, .iaload, 1), (34, .isub, 1), (35, .istore_n 3, 1), (36, .aload_n 0, 1), (37, .getfield 45, 3), (40, .getfield 73, 3), (43, .aload_n 0, 1), (44, .getfield 15, 3), (47, .iload_n 1, 1)],
  [(48, .iaload, 1), (49, .aaload, 1), (50, .iconst 0, 1), (51, .iaload, 1), (52, .aload_n 0, 1), (53, .getfield 45, 3), (56, .getfield 73, 3), (59, .aload_n 0, 1), (60, .getfield 15, 3), (63, .iload_n 2, 1)],
  [(64, .iaload, 1), (65, .aaload, 1), (66, .iconst 0, 1), (67, .iaload, 1), (68, .isub, 1), (69, .istore 4, 2), (71, .iload_n 3, 1), (72, .iload 4, 2), (74, .imul, 1), (75, .ifCond .ge 7, 3), (78, .iconst 1, 1), (79, .goto 4, 3)],
  [(82, .iconst 0, 1), (83, .ireturn, 1)]]
set_option maxRecDepth 100000 in
theorem cd36_ok : ∀ ch ∈ cd36, ∀ e ∈ ch, decode (byAt 820) e.1 = .ok (e.2.1, e.2.2) := by decide +kernel
def cd37 : PC := [[(0, .aload_n 0, 1), (1, .iconst 0, 1), (2, .putfield 88, 3), (5, .iconst 0, 1), (6, .istore_n 1, 1), (7, .iload_n 1, 1), (8, .aload_n 0, 1), (9, .getfield 45, 3), (12, .getfield 91, 3), (15, .if_icmp .ge 33, 3)],
  [(18, .aload_n 0, 1), (19, .getfield 21, 3), (22, .iload_n 1, 1), (23, .aload_n 0, 1), (24, .getfield 45, 3), (27, .getfield 73, 3), (30, .iload_n 1, 1), (31, .aaload, 1)],
  [(32, .iconst 2, 1), (33, .iaload, 1), (34, .iastore, 1), (35, .aload_n 0, 1), (36, .getfield 24, 3), (39, .iload_n 1, 1), (40, .iconst (-1), 1), (41, .iastore, 1), (42, .iinc 1 1, 3), (45, .goto (-38), 3)],
  [(48, .iconst 0, 1), (49, .istore_n 1, 1), (50, .iload_n 1, 1), (51, .iconst 3, 1), (52, .if_icmp .ge 108, 3), (55, .aload_n 0, 1), (56, .getfield 33, 3), (59, .iload_n 1, 1), (60, .iconst 0, 1), (61, .iastore, 1), (62, .aload_n 0, 1), (63, .getfield 18, 3)],
  [(66, .iload_n 1, 1), (67, .sipush 1000, 3), (70, .iastore, 1), (71, .aload_n 0, 1), (72, .getfield 15, 3), (75, .iload_n 1, 1), (76, .iaload, 1), (77, .iconst (-1), 1), (78, .if_icmp .eq 76, 3)],
  [(81, .aload_n 0, 1), (82, .getfield 45, 3), (85, .getfield 81, 3), (88, .iload_n 1, 1), (89, .aaload, 1), (90, .astore_n 2, 1), (91, .aload_n 0, 1), (92, .getfield 30, 3), (95, .iload_n 1, 1)],
  [(96, .aload_n 2, 1), (97, .iconst 2, 1), (98, .iaload, 1), (99, .aload_n 0, 1), (100, .getfield 45, 3), (103, .getfield 73, 3), (106, .aload_n 0, 1), (107, .getfield 15, 3), (110, .iload_n 1, 1), (111, .iaload, 1)],
  [(112, .aaload, 1), (113, .iconst 1, 1), (114, .iaload, 1), (115, .imul, 1), (116, .aload_n 0, 1), (117, .getfield 27, 3), (120, .iload_n 1, 1), (121, .iaload, 1), (122, .iconst 1, 1), (123, .iadd, 1), (124, .imul, 1), (125, .iastore, 1), (126, .aload_n 0, 1), (127, .getfield 18, 3)],
  [(130, .iload_n 1, 1), (131, .aload_n 0, 1), (132, .aload_n 0, 1), (133, .getfield 15, 3), (136, .iload_n 1, 1), (137, .iaload, 1), (138, .aload_n 2, 1), (139, .iconst 0, 1), (140, .iaload, 1), (141, .iconst 1, 1), (142, .iadd, 1), (143, .aload_n 0, 1)],
  [(144, .getfield 30, 3), (147, .iload_n 1, 1), (148, .iaload, 1), (149, .iadd, 1), (150, .invokevirtual 94, 3), (153, .iastore, 1), (154, .iinc 1 1, 3), (157, .goto (-107), 3)],
  [(160, .return_, 1)]]
set_option maxRecDepth 100000 in
theorem cd37_ok : ∀ ch ∈ cd37, ∀ e ∈ ch, decode (byAt 824) e.1 = .ok (e.2.1, e.2.2) := by decide +kernel
def cd38 : PC := [[(0, .aload_n 0, 1), (1, .getfield 21, 3), (4, .iload_n 1, 1), (5, .iaload, 1), (6, .ifCond .le 22, 3), (9, .iload_n 2, 1), (10, .aload_n 0, 1), (11, .getfield 45, 3), (14, .getfield 73, 3)],
  [(17, .iload_n 1, 1), (18, .aaload, 1), (19, .iconst 3, 1), (20, .iaload, 1), (21, .if_icmp .ge 7, 3), (24, .iload_n 2, 1), (25, .goto 6, 3), (28, .sipush 1000, 3), (31, .ireturn, 1)]]
set_option maxRecDepth 100000 in
theorem cd38_ok : ∀ ch ∈ cd38, ∀ e ∈ ch, decode (byAt 828) e.1 = .ok (e.2.1, e.2.2) := by decide +kernel
def cd39 : PC := [[(0, .iconst 0, 1), (1, .istore_n 1, 1), (2, .iconst 1, 1), (3, .istore_n 2, 1), (4, .iload_n 2, 1), (5, .iconst 3, 1), (6, .if_icmp .ge 26, 3), (9, .aload_n 0, 1), (10, .getfield 18, 3), (13, .iload_n 2, 1), (14, .iaload, 1), (15, .aload_n 0, 1)],
  [(16, .getfield 18, 3), (19, .iload_n 1, 1), (20, .iaload, 1), (21, .if_icmp .ge 5, 3), (24, .iload_n 2, 1), (25, .istore_n 1, 1), (26, .iinc 2 1, 3), (29, .goto (-25), 3)],
  [(32, .aload_n 0, 1), (33, .getfield 18, 3), (36, .iload_n 1, 1), (37, .iaload, 1), (38, .sipush 1000, 3), (41, .if_icmp .ne 7, 3), (44, .iconst (-1), 1), (45, .goto 4, 3)],
  [(48, .iload_n 1, 1), (49, .ireturn, 1)]]
set_option maxRecDepth 100000 in
theorem cd39_ok : ∀ ch ∈ cd39, ∀ e ∈ ch, decode (byAt 832) e.1 = .ok (e.2.1, e.2.2) := by decide +kernel
def cd40 : PC := [[(0, .aload_n 0, 1), (1, .getfield 15, 3), (4, .iload_n 1, 1), (5, .iaload, 1), (6, .istore_n 2, 1), (7, .aload_n 0, 1), (8, .getfield 36, 3), (11, .aload_n 0, 1), (12, .getfield 88, 3), (15, .aload_n 0, 1)],
  [(16, .getfield 18, 3), (19, .iload_n 1, 1), (20, .iaload, 1), (21, .iastore, 1), (22, .aload_n 0, 1), (23, .getfield 39, 3), (26, .aload_n 0, 1), (27, .getfield 88, 3), (30, .iload_n 1, 1), (31, .iastore, 1)],
  [(32, .aload_n 0, 1), (33, .getfield 42, 3), (36, .aload_n 0, 1), (37, .getfield 88, 3), (40, .iload_n 2, 1), (41, .iastore, 1), (42, .aload_n 0, 1), (43, .dup, 1), (44, .getfield 88, 3), (47, .iconst 1, 1)],
  [(48, .iadd, 1), (49, .putfield 88, 3), (52, .aload_n 0, 1), (53, .getfield 24, 3), (56, .iload_n 2, 1), (57, .iaload, 1), (58, .iconst (-1), 1), (59, .if_icmp .ne 10, 3), (62, .aload_n 0, 1), (63, .getfield 24, 3)],
  [(66, .iload_n 2, 1), (67, .iload_n 1, 1), (68, .iastore, 1), (69, .aload_n 0, 1), (70, .getfield 33, 3), (73, .iload_n 1, 1), (74, .dup2, 1), (75, .iaload, 1), (76, .iconst 1, 1), (77, .iadd, 1), (78, .iastore, 1), (79, .aload_n 0, 1)],
  [(80, .getfield 21, 3), (83, .iload_n 2, 1), (84, .dup2, 1), (85, .iaload, 1), (86, .iconst 1, 1), (87, .isub, 1), (88, .iastore, 1), (89, .aload_n 0, 1), (90, .getfield 18, 3), (93, .iload_n 1, 1), (94, .aload_n 0, 1), (95, .iload_n 2, 1)],
  [(96, .aload_n 0, 1), (97, .getfield 18, 3), (100, .iload_n 1, 1), (101, .iaload, 1), (102, .iconst 2, 1), (103, .aload_n 0, 1), (104, .getfield 30, 3), (107, .iload_n 1, 1), (108, .iaload, 1), (109, .imul, 1), (110, .iadd, 1), (111, .invokevirtual 94, 3)],
  [(114, .iastore, 1), (115, .aload_n 0, 1), (116, .getfield 21, 3), (119, .iload_n 2, 1), (120, .iaload, 1), (121, .ifCond .ne 8, 3), (124, .aload_n 0, 1), (125, .iload_n 2, 1), (126, .invokevirtual 98, 3)],
  [(129, .return_, 1)]]
set_option maxRecDepth 100000 in
theorem cd40_ok : ∀ ch ∈ cd40, ∀ e ∈ ch, decode (byAt 836) e.1 = .ok (e.2.1, e.2.2) := by decide +kernel
def cd41 : PC := [[(0, .iconst 0, 1), (1, .istore_n 2, 1), (2, .iload_n 2, 1), (3, .iconst 3, 1), (4, .if_icmp .ge 28, 3), (7, .aload_n 0, 1), (8, .getfield 15, 3), (11, .iload_n 2, 1), (12, .iaload, 1), (13, .iload_n 1, 1), (14, .if_icmp .ne 12, 3)],
  [(17, .aload_n 0, 1), (18, .getfield 18, 3), (21, .iload_n 2, 1), (22, .sipush 1000, 3), (25, .iastore, 1), (26, .iinc 2 1, 3), (29, .goto (-27), 3)],
  [(32, .return_, 1)]]
set_option maxRecDepth 100000 in
theorem cd41_ok : ∀ ch ∈ cd41, ∀ e ∈ ch, decode (byAt 840) e.1 = .ok (e.2.1, e.2.2) := by decide +kernel
def cd42 : PC := [[(0, .iconst 0, 1), (1, .istore_n 1, 1), (2, .iconst 0, 1), (3, .istore_n 2, 1), (4, .iload_n 2, 1), (5, .iconst 3, 1), (6, .if_icmp .ge 70, 3), (9, .sipush 128, 3), (12, .istore_n 3, 1), (13, .aload_n 0, 1), (14, .getfield 15, 3)],
  [(17, .iload_n 2, 1), (18, .iaload, 1), (19, .iconst (-1), 1), (20, .if_icmp .eq 41, 3), (23, .aload_n 0, 1), (24, .getfield 33, 3), (27, .iload_n 2, 1), (28, .iaload, 1), (29, .aload_n 0, 1), (30, .getfield 27, 3)],
  [(33, .iload_n 2, 1), (34, .iaload, 1), (35, .iconst 4, 1), (36, .ishl, 1), (37, .ior, 1), (38, .aload_n 0, 1), (39, .getfield 24, 3), (42, .aload_n 0, 1), (43, .getfield 15, 3), (46, .iload_n 2, 1), (47, .iaload, 1)],
  [(48, .iaload, 1), (49, .iload_n 2, 1), (50, .if_icmp .ne 8, 3), (53, .bipush 64, 2), (55, .goto 4, 3), (58, .iconst 0, 1), (59, .ior, 1), (60, .istore_n 3, 1), (61, .iload_n 1, 1), (62, .iload_n 3, 1), (63, .bipush 8, 2)],
  [(65, .iload_n 2, 1), (66, .imul, 1), (67, .ishl, 1), (68, .ior, 1), (69, .istore_n 1, 1), (70, .iinc 2 1, 3), (73, .goto (-69), 3), (76, .iload_n 1, 1), (77, .ireturn, 1)]]
set_option maxRecDepth 100000 in
theorem cd42_ok : ∀ ch ∈ cd42, ∀ e ∈ ch, decode (byAt 849) e.1 = .ok (e.2.1, e.2.2) := by decide +kernel
def cd43 : PC := [[(0, .iload_n 0, 1), (1, .bipush 8, 2), (3, .iload_n 1, 1), (4, .imul, 1), (5, .iushr, 1), (6, .bipush 15, 2), (8, .iand, 1), (9, .ireturn, 1)]]
set_option maxRecDepth 100000 in
theorem cd43_ok : ∀ ch ∈ cd43, ∀ e ∈ ch, decode (byAt 871) e.1 = .ok (e.2.1, e.2.2) := by decide +kernel
def cd44 : PC := [[(0, .iload_n 0, 1), (1, .bipush 8, 2), (3, .iload_n 1, 1), (4, .imul, 1), (5, .iconst 4, 1), (6, .iadd, 1), (7, .iushr, 1), (8, .iconst 3, 1), (9, .iand, 1), (10, .ireturn, 1)]]
set_option maxRecDepth 100000 in
theorem cd44_ok : ∀ ch ∈ cd44, ∀ e ∈ ch, decode (byAt 874) e.1 = .ok (e.2.1, e.2.2) := by decide +kernel
def cd45 : PC := [[(0, .iload_n 0, 1), (1, .bipush 8, 2), (3, .iload_n 1, 1), (4, .imul, 1), (5, .iushr, 1), (6, .sipush 128, 3), (9, .iand, 1), (10, .ifCond .eq 7, 3), (13, .iconst 1, 1), (14, .goto 4, 3)],
  [(17, .iconst 0, 1), (18, .ireturn, 1)]]
set_option maxRecDepth 100000 in
theorem cd45_ok : ∀ ch ∈ cd45, ∀ e ∈ ch, decode (byAt 855) e.1 = .ok (e.2.1, e.2.2) := by decide +kernel
def cd46 : PC := [[(0, .iload_n 0, 1), (1, .bipush 15, 2), (3, .iand, 1), (4, .iload_n 0, 1), (5, .bipush 8, 2), (7, .iushr, 1), (8, .bipush 15, 2), (10, .iand, 1), (11, .iadd, 1), (12, .iload_n 0, 1), (13, .bipush 16, 2), (15, .iushr, 1)],
  [(16, .bipush 15, 2), (18, .iand, 1), (19, .iadd, 1), (20, .ireturn, 1)]]
set_option maxRecDepth 100000 in
theorem cd46_ok : ∀ ch ∈ cd46, ∀ e ∈ ch, decode (byAt 868) e.1 = .ok (e.2.1, e.2.2) := by decide +kernel
def cd47 : PC := [[(0, .iload_n 0, 1), (1, .iload_n 1, 1), (2, .invokestatic 101, 3), (5, .ifCond .eq 7, 3), (8, .aload_n 2, 1), (9, .iconst 1, 1), (10, .iaload, 1), (11, .ireturn, 1), (12, .iload_n 0, 1), (13, .iload_n 1, 1), (14, .aload_n 2, 1), (15, .iconst 0, 1)],
  [(16, .iaload, 1), (17, .iload_n 3, 1), (18, .invokestatic 104, 3), (21, .aload_n 2, 1), (22, .iconst 2, 1), (23, .iaload, 1), (24, .iload_n 0, 1), (25, .iload_n 1, 1), (26, .invokestatic 108, 3), (29, .imul, 1), (30, .isub, 1), (31, .ireturn, 1)]]
set_option maxRecDepth 100000 in
theorem cd47_ok : ∀ ch ∈ cd47, ∀ e ∈ ch, decode (byAt 852) e.1 = .ok (e.2.1, e.2.2) := by decide +kernel
def cd48 : PC := [[(0, .iload_n 3, 1), (1, .iconst 1, 1), (2, .if_icmp .ne 33, 3), (5, .iconst 3, 1), (6, .iload_n 0, 1), (7, .ldc 111, 2), (9, .iand, 1), (10, .invokestatic 112, 3), (13, .isub, 1), (14, .istore 4, 2)],
  [(16, .iload 4, 2), (18, .ifCond .le 15, 3), (21, .iload_n 2, 1), (22, .iload_n 0, 1), (23, .invokestatic 118, 3), (26, .imul, 1), (27, .iload 4, 2), (29, .idiv, 1), (30, .goto 4, 3)],
  [(33, .iconst 0, 1), (34, .ireturn, 1), (35, .iload_n 0, 1), (36, .bipush 8, 2), (38, .iload_n 1, 1), (39, .imul, 1), (40, .iushr, 1), (41, .bipush 64, 2), (43, .iand, 1), (44, .ifCond .eq 7, 3), (47, .iconst 1, 1)],
  [(48, .goto 4, 3), (51, .iconst 0, 1), (52, .istore 4, 2), (54, .iload_n 3, 1), (55, .iconst 2, 1), (56, .if_icmp .ne 10, 3), (59, .iload 4, 2), (61, .ifCond .ne 5, 3)],
  [(64, .iconst 0, 1), (65, .ireturn, 1), (66, .iload_n 2, 1), (67, .iload_n 0, 1), (68, .iload_n 1, 1), (69, .invokestatic 121, 3), (72, .imul, 1), (73, .ireturn, 1)]]
set_option maxRecDepth 100000 in
theorem cd48_ok : ∀ ch ∈ cd48, ∀ e ∈ ch, decode (byAt 858) e.1 = .ok (e.2.1, e.2.2) := by decide +kernel
def cd49 : PC := [[(0, .aload_n 0, 1), (1, .invokespecial 3, 3), (4, .aload_n 0, 1), (5, .aload_n 1, 1), (6, .putfield 9, 3), (9, .return_, 1)]]
set_option maxRecDepth 100000 in
theorem cd49_ok : ∀ ch ∈ cd49, ∀ e ∈ ch, decode (byAt 193) e.1 = .ok (e.2.1, e.2.2) := by decide +kernel
def cd50 : PC := [[(0, .aload_n 0, 1), (1, .iconst 0, 1), (2, .putfield 15, 3), (5, .aload_n 0, 1), (6, .iconst (-1), 1), (7, .putfield 19, 3), (10, .return_, 1)]]
set_option maxRecDepth 100000 in
theorem cd50_ok : ∀ ch ∈ cd50, ∀ e ∈ ch, decode (byAt 556) e.1 = .ok (e.2.1, e.2.2) := by decide +kernel
def cd51 : PC := [[(0, .aload_n 0, 1), (1, .getfield 19, 3), (4, .iconst (-1), 1), (5, .if_icmp .ne 7, 3), (8, .iconst 1, 1), (9, .goto 4, 3), (12, .iconst 0, 1), (13, .ireturn, 1)]]
set_option maxRecDepth 100000 in
theorem cd51_ok : ∀ ch ∈ cd51, ∀ e ∈ ch, decode (byAt 571) e.1 = .ok (e.2.1, e.2.2) := by decide +kernel
def cd52 : PC := [[(0, .aload_n 0, 1), (1, .getfield 19, 3), (4, .iconst (-1), 1), (5, .if_icmp .ne 8, 3), (8, .aload_n 0, 1), (9, .iload_n 1, 1), (10, .putfield 19, 3), (13, .return_, 1)]]
set_option maxRecDepth 100000 in
theorem cd52_ok : ∀ ch ∈ cd52, ∀ e ∈ ch, decode (byAt 603) e.1 = .ok (e.2.1, e.2.2) := by decide +kernel
def cd53 : PC := [[(0, .aload_n 0, 1), (1, .getfield 15, 3), (4, .aload_n 0, 1), (5, .getfield 9, 3), (8, .getfield 22, 3), (11, .if_icmp .ge 33, 3), (14, .aload_n 0, 1), (15, .getfield 9, 3)],
  [(18, .getfield 27, 3), (21, .aload_n 0, 1), (22, .getfield 15, 3), (25, .iaload, 1), (26, .bipush 32, 2), (28, .if_icmp .ne 16, 3), (31, .aload_n 0, 1)],
  [(32, .dup, 1), (33, .getfield 15, 3), (36, .iconst 1, 1), (37, .iadd, 1), (38, .putfield 15, 3), (41, .goto (-41), 3), (44, .aload_n 0, 1), (45, .getfield 15, 3)],
  [(48, .aload_n 0, 1), (49, .getfield 9, 3), (52, .getfield 22, 3), (55, .if_icmp .ge 18, 3), (58, .aload_n 0, 1), (59, .getfield 9, 3), (62, .getfield 27, 3)],
  [(65, .aload_n 0, 1), (66, .getfield 15, 3), (69, .iaload, 1), (70, .goto 4, 3), (73, .iconst 0, 1), (74, .ireturn, 1)]]
set_option maxRecDepth 100000 in
theorem cd53_ok : ∀ ch ∈ cd53, ∀ e ∈ ch, decode (byAt 581) e.1 = .ok (e.2.1, e.2.2) := by decide +kernel
def cd54 : PC := [[(0, .aload_n 0, 1), (1, .getfield 15, 3), (4, .ifCond .lt 32, 3), (7, .aload_n 0, 1), (8, .getfield 15, 3), (11, .aload_n 0, 1), (12, .getfield 9, 3), (15, .getfield 22, 3)],
  [(18, .if_icmp .ge 18, 3), (21, .aload_n 0, 1), (22, .getfield 9, 3), (25, .getfield 27, 3), (28, .aload_n 0, 1), (29, .getfield 15, 3)],
  [(32, .iaload, 1), (33, .goto 4, 3), (36, .iconst 0, 1), (37, .ireturn, 1)]]
set_option maxRecDepth 100000 in
theorem cd54_ok : ∀ ch ∈ cd54, ∀ e ∈ ch, decode (byAt 620) e.1 = .ok (e.2.1, e.2.2) := by decide +kernel
def cd55 : PC := [[(0, .aload_n 0, 1), (1, .invokevirtual 31, 3), (4, .iload_n 1, 1), (5, .if_icmp .ne 16, 3), (8, .aload_n 0, 1), (9, .dup, 1), (10, .getfield 15, 3), (13, .iconst 1, 1), (14, .iadd, 1), (15, .putfield 15, 3)],
  [(18, .goto 11, 3), (21, .aload_n 0, 1), (22, .aload_n 0, 1), (23, .getfield 15, 3), (26, .invokevirtual 35, 3), (29, .return_, 1)]]
set_option maxRecDepth 100000 in
theorem cd55_ok : ∀ ch ∈ cd55, ∀ e ∈ ch, decode (byAt 638) e.1 = .ok (e.2.1, e.2.2) := by decide +kernel
def cd56 : PC := [[(0, .aload_n 0, 1), (1, .invokevirtual 31, 3), (4, .invokestatic 39, 3), (7, .ifCond .ne 13, 3), (10, .aload_n 0, 1), (11, .aload_n 0, 1), (12, .getfield 15, 3), (15, .invokevirtual 35, 3)],
  [(18, .iconst 0, 1), (19, .ireturn, 1), (20, .iconst 0, 1), (21, .istore_n 2, 1), (22, .iconst 0, 1), (23, .istore_n 3, 1), (24, .iload_n 3, 1), (25, .iload_n 1, 1), (26, .if_icmp .ge 42, 3), (29, .aload_n 0, 1), (30, .invokevirtual 43, 3)],
  [(33, .invokestatic 39, 3), (36, .ifCond .eq 32, 3), (39, .iload_n 2, 1), (40, .bipush 10, 2), (42, .imul, 1), (43, .aload_n 0, 1), (44, .invokevirtual 43, 3), (47, .bipush 48, 2)],
  [(49, .isub, 1), (50, .iadd, 1), (51, .istore_n 2, 1), (52, .aload_n 0, 1), (53, .dup, 1), (54, .getfield 15, 3), (57, .iconst 1, 1), (58, .iadd, 1), (59, .putfield 15, 3), (62, .iinc 3 1, 3)],
  [(65, .goto (-41), 3), (68, .aload_n 0, 1), (69, .invokevirtual 43, 3), (72, .invokestatic 39, 3), (75, .ifCond .eq 11, 3), (78, .aload_n 0, 1), (79, .aload_n 0, 1)],
  [(80, .getfield 15, 3), (83, .invokevirtual 35, 3), (86, .iload_n 2, 1), (87, .ireturn, 1)]]
set_option maxRecDepth 100000 in
theorem cd56_ok : ∀ ch ∈ cd56, ∀ e ∈ ch, decode (byAt 609) e.1 = .ok (e.2.1, e.2.2) := by decide +kernel
def cd57 : PC := [[(0, .iload_n 0, 1), (1, .bipush 48, 2), (3, .if_icmp .lt 13, 3), (6, .iload_n 0, 1), (7, .bipush 57, 2), (9, .if_icmp .gt 7, 3), (12, .iconst 1, 1), (13, .goto 4, 3)],
  [(16, .iconst 0, 1), (17, .ireturn, 1)]]
set_option maxRecDepth 100000 in
theorem cd57_ok : ∀ ch ∈ cd57, ∀ e ∈ ch, decode (byAt 613) e.1 = .ok (e.2.1, e.2.2) := by decide +kernel
def cd58 : PC := [[(0, .iconst 0, 1), (1, .istore_n 2, 1), (2, .iload_n 2, 1), (3, .aload_n 0, 1), (4, .arraylength, 1), (5, .if_icmp .ge 18, 3), (8, .aload_n 0, 1), (9, .iload_n 2, 1), (10, .iaload, 1), (11, .iload_n 1, 1), (12, .if_icmp .ne 5, 3), (15, .iload_n 2, 1)],
  [(16, .ireturn, 1), (17, .iinc 2 1, 3), (20, .goto (-18), 3), (23, .iconst (-1), 1), (24, .ireturn, 1)]]
set_option maxRecDepth 100000 in
theorem cd58_ok : ∀ ch ∈ cd58, ∀ e ∈ ch, decode (byAt 597) e.1 = .ok (e.2.1, e.2.2) := by decide +kernel
def cd59 : PC := [[(0, .aload_n 0, 1), (1, .invokespecial 3, 3), (4, .aload_n 0, 1), (5, .aload_n 1, 1), (6, .putfield 9, 3), (9, .aload_n 0, 1), (10, .aload_n 2, 1), (11, .putfield 15, 3), (14, .aload_n 0, 1), (15, .iconst 3, 1)],
  [(16, .sipush 625, 3), (19, .multianewarray 19 2, 4), (23, .putfield 21, 3), (26, .return_, 1)]]
set_option maxRecDepth 100000 in
theorem cd59_ok : ∀ ch ∈ cd59, ∀ e ∈ ch, decode (byAt 421) e.1 = .ok (e.2.1, e.2.2) := by decide +kernel
def cd60 : PC := [[(0, .aload_n 0, 1), (1, .iconst 0, 1), (2, .putfield 24, 3), (5, .aload_n 0, 1), (6, .iconst 0, 1), (7, .putfield 28, 3), (10, .aload_n 0, 1), (11, .iconst 0, 1), (12, .putfield 31, 3), (15, .return_, 1)]]
set_option maxRecDepth 100000 in
theorem cd60_ok : ∀ ch ∈ cd60, ∀ e ∈ ch, decode (byAt 726) e.1 = .ok (e.2.1, e.2.2) := by decide +kernel
def cd61 : PC := [[(0, .aload_n 0, 1), (1, .getfield 24, 3), (4, .ifCond .eq 4, 3), (7, .return_, 1), (8, .aload_n 0, 1), (9, .getfield 9, 3), (12, .invokevirtual 34, 3), (15, .aload_n 0, 1)],
  [(16, .aload_n 0, 1), (17, .getfield 15, 3), (20, .getfield 39, 3), (23, .iconst 3, 1), (24, .iaload, 1), (25, .invokevirtual 45, 3), (28, .iconst 0, 1), (29, .istore_n 1, 1), (30, .iload_n 1, 1), (31, .aload_n 0, 1)],
  [(32, .getfield 9, 3), (35, .getfield 49, 3), (38, .if_icmp .ge 33, 3), (41, .aload_n 0, 1), (42, .getfield 9, 3), (45, .iload_n 1, 1), (46, .ldc 53, 2)],
  [(48, .aload_n 0, 1), (49, .iload_n 1, 1), (50, .aload_n 0, 1), (51, .getfield 15, 3), (54, .getfield 39, 3), (57, .iconst 3, 1), (58, .iaload, 1), (59, .invokevirtual 54, 3), (62, .invokevirtual 58, 3)],
  [(65, .iinc 1 1, 3), (68, .goto (-38), 3), (71, .aload_n 0, 1), (72, .iconst 1, 1), (73, .putfield 24, 3), (76, .return_, 1)]]
set_option maxRecDepth 100000 in
theorem cd61_ok : ∀ ch ∈ cd61, ∀ e ∈ ch, decode (byAt 906) e.1 = .ok (e.2.1, e.2.2) := by decide +kernel
def cd62 : PC := [[(0, .aload_n 0, 1), (1, .invokevirtual 62, 3), (4, .iconst (-1), 1), (5, .istore_n 1, 1), (6, .iconst 0, 1), (7, .istore_n 2, 1), (8, .iload_n 2, 1), (9, .aload_n 0, 1), (10, .getfield 9, 3), (13, .getfield 49, 3)],
  [(16, .if_icmp .ge 48, 3), (19, .aload_n 0, 1), (20, .getfield 9, 3), (23, .iload_n 2, 1), (24, .ldc 53, 2), (26, .invokevirtual 63, 3), (29, .ifCond .eq 29, 3)],
  [(32, .iload_n 1, 1), (33, .iconst (-1), 1), (34, .if_icmp .eq 15, 3), (37, .aload_n 0, 1), (38, .getfield 9, 3), (41, .iload_n 2, 1), (42, .invokevirtual 66, 3), (45, .iload_n 1, 1), (46, .if_icmp .ge 12, 3)],
  [(49, .aload_n 0, 1), (50, .getfield 9, 3), (53, .iload_n 2, 1), (54, .invokevirtual 66, 3), (57, .istore_n 1, 1), (58, .iinc 2 1, 3), (61, .goto (-53), 3)],
  [(64, .iload_n 1, 1), (65, .ireturn, 1)]]
set_option maxRecDepth 100000 in
theorem cd62_ok : ∀ ch ∈ cd62, ∀ e ∈ ch, decode (byAt 989) e.1 = .ok (e.2.1, e.2.2) := by decide +kernel
def cd63 : PC := [[(0, .aload_n 0, 1), (1, .getfield 28, 3), (4, .ifCond .eq 4, 3), (7, .return_, 1), (8, .aload_n 0, 1), (9, .getfield 9, 3), (12, .invokevirtual 34, 3), (15, .aload_n 0, 1)],
  [(16, .iconst (-1), 1), (17, .putfield 70, 3), (20, .aload_n 0, 1), (21, .iconst (-1), 1), (22, .putfield 73, 3), (25, .iconst 0, 1), (26, .istore_n 1, 1), (27, .iload_n 1, 1), (28, .iconst 3, 1), (29, .if_icmp .ge 33, 3)],
  [(32, .aload_n 0, 1), (33, .iload_n 1, 1), (34, .invokevirtual 76, 3), (37, .istore_n 2, 1), (38, .iload_n 2, 1), (39, .aload_n 0, 1), (40, .getfield 73, 3), (43, .if_icmp .le 13, 3), (46, .aload_n 0, 1), (47, .iload_n 1, 1)],
  [(48, .putfield 70, 3), (51, .aload_n 0, 1), (52, .iload_n 2, 1), (53, .putfield 73, 3), (56, .iinc 1 1, 3), (59, .goto (-32), 3), (62, .aload_n 0, 1), (63, .iconst 1, 1)],
  [(64, .putfield 28, 3), (67, .return_, 1)]]
set_option maxRecDepth 100000 in
theorem cd63_ok : ∀ ch ∈ cd63, ∀ e ∈ ch, decode (byAt 1000) e.1 = .ok (e.2.1, e.2.2) := by decide +kernel
def cd64 : PC := [[(0, .aload_n 0, 1), (1, .iload_n 1, 1), (2, .invokevirtual 45, 3), (5, .iconst (-1), 1), (6, .istore_n 2, 1), (7, .iconst 0, 1), (8, .istore_n 3, 1), (9, .iload_n 3, 1), (10, .aload_n 0, 1), (11, .getfield 9, 3), (14, .getfield 49, 3)],
  [(17, .if_icmp .ge 39, 3), (20, .aload_n 0, 1), (21, .getfield 9, 3), (24, .iload_n 3, 1), (25, .invokevirtual 66, 3), (28, .iload_n 2, 1), (29, .if_icmp .le 21, 3)],
  [(32, .aload_n 0, 1), (33, .iload_n 3, 1), (34, .iload_n 1, 1), (35, .invokevirtual 54, 3), (38, .ifCond .eq 12, 3), (41, .aload_n 0, 1), (42, .getfield 9, 3), (45, .iload_n 3, 1), (46, .invokevirtual 66, 3)],
  [(49, .istore_n 2, 1), (50, .iinc 3 1, 3), (53, .goto (-44), 3), (56, .iload_n 2, 1), (57, .ireturn, 1)]]
set_option maxRecDepth 100000 in
theorem cd64_ok : ∀ ch ∈ cd64, ∀ e ∈ ch, decode (byAt 1004) e.1 = .ok (e.2.1, e.2.2) := by decide +kernel
def cd65 : PC := [[(0, .aload_n 0, 1), (1, .getfield 31, 3), (4, .ifCond .eq 8, 3), (7, .aload_n 0, 1), (8, .getfield 79, 3), (11, .ireturn, 1), (12, .aload_n 0, 1), (13, .getfield 9, 3)],
  [(16, .invokevirtual 34, 3), (19, .aload_n 0, 1), (20, .aload_n 0, 1), (21, .getfield 15, 3), (24, .getfield 39, 3), (27, .iconst 3, 1), (28, .iaload, 1), (29, .invokevirtual 45, 3)],
  [(32, .aload_n 0, 1), (33, .iconst (-1), 1), (34, .putfield 79, 3), (37, .iconst 0, 1), (38, .istore_n 1, 1), (39, .iload_n 1, 1), (40, .aload_n 0, 1), (41, .getfield 9, 3), (44, .getfield 49, 3), (47, .if_icmp .ge 71, 3)],
  [(50, .aload_n 0, 1), (51, .getfield 9, 3), (54, .iload_n 1, 1), (55, .invokevirtual 66, 3), (58, .aload_n 0, 1), (59, .getfield 9, 3), (62, .invokevirtual 82, 3)],
  [(65, .if_icmp .ne 47, 3), (68, .aload_n 0, 1), (69, .iload_n 1, 1), (70, .aload_n 0, 1), (71, .getfield 15, 3), (74, .getfield 39, 3), (77, .iconst 3, 1), (78, .iaload, 1), (79, .invokevirtual 86, 3)],
  [(82, .ifCond .eq 30, 3), (85, .aload_n 0, 1), (86, .getfield 79, 3), (89, .iconst (-1), 1), (90, .if_icmp .eq 14, 3), (93, .aload_n 0, 1), (94, .getfield 89, 3)],
  [(97, .aload_n 0, 1), (98, .getfield 79, 3), (101, .if_icmp .ge 11, 3), (104, .aload_n 0, 1), (105, .aload_n 0, 1), (106, .getfield 89, 3), (109, .putfield 79, 3)],
  [(112, .iinc 1 1, 3), (115, .goto (-76), 3), (118, .aload_n 0, 1), (119, .iconst 1, 1), (120, .putfield 31, 3), (123, .aload_n 0, 1), (124, .getfield 79, 3), (127, .ireturn, 1)]]
set_option maxRecDepth 100000 in
theorem cd65_ok : ∀ ch ∈ cd65, ∀ e ∈ ch, decode (byAt 1012) e.1 = .ok (e.2.1, e.2.2) := by decide +kernel
def cd66 : PC := [[(0, .iconst 0, 1), (1, .istore_n 2, 1), (2, .iload_n 2, 1), (3, .iconst 3, 1), (4, .if_icmp .ge 34, 3), (7, .iconst 0, 1), (8, .istore_n 3, 1), (9, .iload_n 3, 1), (10, .sipush 625, 3), (13, .if_icmp .ge 19, 3)],
  [(16, .aload_n 0, 1), (17, .getfield 21, 3), (20, .iload_n 2, 1), (21, .aaload, 1), (22, .iload_n 3, 1), (23, .ldc 92, 2), (25, .iastore, 1), (26, .iinc 3 1, 3), (29, .goto (-20), 3)],
  [(32, .iinc 2 1, 3), (35, .goto (-33), 3), (38, .iconst 0, 1), (39, .istore_n 2, 1), (40, .iload_n 2, 1), (41, .aload_n 0, 1), (42, .getfield 9, 3), (45, .getfield 93, 3)],
  [(48, .getfield 97, 3), (51, .if_icmp .ge 101, 3), (54, .iconst 0, 1), (55, .istore_n 3, 1), (56, .iload_n 3, 1), (57, .aload_n 0, 1), (58, .getfield 9, 3), (61, .getfield 49, 3)],
  [(64, .if_icmp .ge 82, 3), (67, .aload_n 0, 1), (68, .getfield 9, 3), (71, .iload_n 3, 1), (72, .iload_n 2, 1), (73, .invokevirtual 102, 3), (76, .istore 4, 2), (78, .aload_n 0, 1), (79, .getfield 9, 3)],
  [(82, .getfield 106, 3), (85, .iload_n 3, 1), (86, .iaload, 1), (87, .iload_n 2, 1), (88, .invokestatic 109, 3), (91, .ifCond .ne 49, 3), (94, .aload_n 0, 1), (95, .getfield 9, 3)],
  [(98, .getfield 106, 3), (101, .iload_n 3, 1), (102, .iaload, 1), (103, .iload_n 2, 1), (104, .aload_n 0, 1), (105, .getfield 15, 3), (108, .getfield 39, 3), (111, .iload_n 1, 1)],
  [(112, .invokestatic 114, 3), (115, .istore 5, 2), (117, .aload_n 0, 1), (118, .getfield 21, 3), (121, .iload_n 2, 1), (122, .aaload, 1), (123, .iload 4, 2), (125, .aload_n 0, 1), (126, .getfield 21, 3)],
  [(129, .iload_n 2, 1), (130, .aaload, 1), (131, .iload 4, 2), (133, .iaload, 1), (134, .iload 5, 2), (136, .invokestatic 118, 3), (139, .iastore, 1), (140, .iinc 3 1, 3), (143, .goto (-87), 3)],
  [(146, .iinc 2 1, 3), (149, .goto (-109), 3), (152, .return_, 1)]]
set_option maxRecDepth 100000 in
theorem cd66_ok : ∀ ch ∈ cd66, ∀ e ∈ ch, decode (byAt 930) e.1 = .ok (e.2.1, e.2.2) := by decide +kernel
def cd67 : PC := [[(0, .aload_n 0, 1), (1, .getfield 15, 3), (4, .getfield 39, 3), (7, .iconst 1, 1), (8, .iaload, 1), (9, .istore_n 3, 1), (10, .aload_n 0, 1), (11, .iload_n 1, 1), (12, .iload_n 2, 1), (13, .invokevirtual 86, 3)],
  [(16, .ifCond .eq 23, 3), (19, .aload_n 0, 1), (20, .getfield 89, 3), (23, .iload_n 3, 1), (24, .if_icmp .gt 15, 3), (27, .iload_n 3, 1), (28, .aload_n 0, 1), (29, .getfield 123, 3)],
  [(32, .if_icmp .gt 7, 3), (35, .iconst 1, 1), (36, .goto 4, 3), (39, .iconst 0, 1), (40, .ireturn, 1)]]
set_option maxRecDepth 100000 in
theorem cd67_ok : ∀ ch ∈ cd67, ∀ e ∈ ch, decode (byAt 943) e.1 = .ok (e.2.1, e.2.2) := by decide +kernel
def cd68 : PC := [[(0, .aload_n 0, 1), (1, .iconst 0, 1), (2, .putfield 89, 3), (5, .aload_n 0, 1), (6, .bipush 99, 2), (8, .putfield 123, 3), (11, .iconst 0, 1), (12, .istore_n 3, 1), (13, .iload_n 3, 1), (14, .aload_n 0, 1), (15, .getfield 9, 3)],
  [(18, .getfield 93, 3), (21, .getfield 97, 3), (24, .if_icmp .ge 104, 3), (27, .aload_n 0, 1), (28, .getfield 21, 3), (31, .iload_n 3, 1)],
  [(32, .aaload, 1), (33, .aload_n 0, 1), (34, .getfield 9, 3), (37, .iload_n 1, 1), (38, .iload_n 3, 1), (39, .invokevirtual 102, 3), (42, .iaload, 1), (43, .istore 4, 2), (45, .aload_n 0, 1), (46, .getfield 9, 3)],
  [(49, .getfield 106, 3), (52, .iload_n 1, 1), (53, .iaload, 1), (54, .iload_n 3, 1), (55, .invokestatic 109, 3), (58, .ifCond .eq 19, 3), (61, .aload_n 0, 1), (62, .aload_n 0, 1), (63, .getfield 89, 3)],
  [(66, .iload 4, 2), (68, .invokestatic 118, 3), (71, .putfield 89, 3), (74, .goto 48, 3), (77, .aload_n 0, 1), (78, .getfield 9, 3)],
  [(81, .getfield 106, 3), (84, .iload_n 1, 1), (85, .iaload, 1), (86, .iload_n 3, 1), (87, .aload_n 0, 1), (88, .getfield 15, 3), (91, .getfield 39, 3), (94, .iload_n 2, 1), (95, .invokestatic 114, 3)],
  [(98, .istore 5, 2), (100, .iload 5, 2), (102, .iload 4, 2), (104, .if_icmp .ge 5, 3), (107, .iconst 0, 1), (108, .ireturn, 1), (109, .aload_n 0, 1), (110, .aload_n 0, 1), (111, .getfield 123, 3)],
  [(114, .iload 5, 2), (116, .invokestatic 126, 3), (119, .putfield 123, 3), (122, .iinc 3 1, 3), (125, .goto (-112), 3)],
  [(128, .aload_n 0, 1), (129, .getfield 89, 3), (132, .aload_n 0, 1), (133, .getfield 123, 3), (136, .if_icmp .gt 7, 3), (139, .iconst 1, 1), (140, .goto 4, 3), (143, .iconst 0, 1)],
  [(144, .ireturn, 1)]]
set_option maxRecDepth 100000 in
theorem cd68_ok : ∀ ch ∈ cd68, ∀ e ∈ ch, decode (byAt 947) e.1 = .ok (e.2.1, e.2.2) := by decide +kernel
def cd69 : PC := [[(0, .aload_n 0, 1), (1, .invokespecial 3, 3), (4, .aload_n 0, 1), (5, .iconst 3, 1), (6, .bipush 25, 2), (8, .multianewarray 9 2, 4), (12, .putfield 11, 3), (15, .aload_n 0, 1)],
  [(16, .iconst 3, 1), (17, .newarray .int, 2), (19, .putfield 16, 3), (22, .aload_n 0, 1), (23, .iconst 3, 1), (24, .newarray .int, 2), (26, .putfield 20, 3), (29, .aload_n 0, 1), (30, .iconst 3, 1), (31, .newarray .int, 2)],
  [(33, .putfield 23, 3), (36, .aload_n 0, 1), (37, .iconst 0, 1), (38, .newarray .int, 2), (40, .putfield 26, 3), (43, .aload_n 0, 1), (44, .aload_n 1, 1), (45, .putfield 29, 3)],
  [(48, .aload_n 0, 1), (49, .aload_n 2, 1), (50, .putfield 33, 3), (53, .return_, 1)]]
set_option maxRecDepth 100000 in
theorem cd69_ok : ∀ ch ∈ cd69, ∀ e ∈ ch, decode (byAt 376) e.1 = .ok (e.2.1, e.2.2) := by decide +kernel
def cd70 : PC := [[(0, .aload_n 0, 1), (1, .iconst 0, 1), (2, .putfield 37, 3), (5, .aload_n 0, 1), (6, .iconst 0, 1), (7, .putfield 41, 3), (10, .return_, 1)]]
set_option maxRecDepth 100000 in
theorem cd70_ok : ∀ ch ∈ cd70, ∀ e ∈ ch, decode (byAt 722) e.1 = .ok (e.2.1, e.2.2) := by decide +kernel
def cd71 : PC := [[(0, .aload_n 0, 1), (1, .getfield 37, 3), (4, .ifCond .eq 4, 3), (7, .return_, 1), (8, .aload_n 0, 1), (9, .invokevirtual 45, 3), (12, .aload_n 0, 1), (13, .invokevirtual 48, 3)],
  [(16, .aload_n 0, 1), (17, .iconst 0, 1), (18, .putfield 51, 3), (21, .iconst 0, 1), (22, .istore_n 1, 1), (23, .iload_n 1, 1), (24, .aload_n 0, 1), (25, .getfield 41, 3), (28, .if_icmp .ge 96, 3), (31, .iload_n 1, 1)],
  [(32, .aload_n 0, 1), (33, .getfield 26, 3), (36, .arraylength, 1), (37, .if_icmp .ge 87, 3), (40, .iconst 0, 1), (41, .istore_n 2, 1), (42, .iload_n 2, 1), (43, .iconst 3, 1), (44, .if_icmp .ge 21, 3), (47, .aload_n 0, 1)],
  [(48, .getfield 23, 3), (51, .iload_n 2, 1), (52, .aload_n 0, 1), (53, .iload_n 1, 1), (54, .iload_n 2, 1), (55, .invokevirtual 54, 3), (58, .iastore, 1), (59, .iinc 2 1, 3), (62, .goto (-20), 3)],
  [(65, .aload_n 0, 1), (66, .getfield 33, 3), (69, .aload_n 0, 1), (70, .getfield 23, 3), (73, .invokevirtual 58, 3), (76, .aload_n 0, 1), (77, .getfield 26, 3)],
  [(80, .iload_n 1, 1), (81, .aload_n 0, 1), (82, .getfield 33, 3), (85, .invokevirtual 64, 3), (88, .iastore, 1), (89, .aload_n 0, 1), (90, .getfield 26, 3), (93, .iload_n 1, 1), (94, .iaload, 1), (95, .invokestatic 68, 3)],
  [(98, .aload_n 0, 1), (99, .getfield 26, 3), (102, .aload_n 0, 1), (103, .getfield 51, 3), (106, .iaload, 1), (107, .invokestatic 68, 3), (110, .if_icmp .le 8, 3)],
  [(113, .aload_n 0, 1), (114, .iload_n 1, 1), (115, .putfield 51, 3), (118, .iinc 1 1, 3), (121, .goto (-98), 3), (124, .aload_n 0, 1), (125, .iconst 1, 1), (126, .putfield 37, 3)],
  [(129, .return_, 1)]]
set_option maxRecDepth 100000 in
theorem cd71_ok : ∀ ch ∈ cd71, ∀ e ∈ ch, decode (byAt 910) e.1 = .ok (e.2.1, e.2.2) := by decide +kernel
def cd72 : PC := [[(0, .iconst 1, 1), (1, .istore_n 1, 1), (2, .iconst 0, 1), (3, .istore_n 2, 1), (4, .iload_n 2, 1), (5, .aload_n 0, 1), (6, .getfield 29, 3), (9, .getfield 72, 3), (12, .if_icmp .ge 19, 3), (15, .iload_n 2, 1)],
  [(16, .iconst 3, 1), (17, .if_icmp .ge 14, 3), (20, .iload_n 1, 1), (21, .bipush 25, 2), (23, .imul, 1), (24, .istore_n 1, 1), (25, .iinc 2 1, 3), (28, .goto (-24), 3), (31, .aload_n 0, 1)],
  [(32, .getfield 26, 3), (35, .arraylength, 1), (36, .iload_n 1, 1), (37, .if_icmp .ge 10, 3), (40, .aload_n 0, 1), (41, .iload_n 1, 1), (42, .newarray .int, 2), (44, .putfield 26, 3), (47, .return_, 1)]]
set_option maxRecDepth 100000 in
theorem cd72_ok : ∀ ch ∈ cd72, ∀ e ∈ ch, decode (byAt 919) e.1 = .ok (e.2.1, e.2.2) := by decide +kernel
def cd73 : PC := [[(0, .iconst 0, 1), (1, .istore_n 1, 1), (2, .iload_n 1, 1), (3, .iconst 3, 1), (4, .if_icmp .ge 113, 3), (7, .aload_n 0, 1), (8, .getfield 16, 3), (11, .iload_n 1, 1), (12, .iconst 0, 1), (13, .iastore, 1), (14, .iconst 0, 1), (15, .istore_n 2, 1)],
  [(16, .iload_n 2, 1), (17, .bipush 99, 2), (19, .if_icmp .ge 67, 3), (22, .iload_n 1, 1), (23, .aload_n 0, 1), (24, .getfield 29, 3), (27, .getfield 72, 3), (30, .if_icmp .ge 56, 3)],
  [(33, .aload_n 0, 1), (34, .getfield 29, 3), (37, .iload_n 1, 1), (38, .iload_n 2, 1), (39, .invokevirtual 77, 3), (42, .ifCond .eq 38, 3), (45, .aload_n 0, 1), (46, .getfield 16, 3)],
  [(49, .iload_n 1, 1), (50, .iaload, 1), (51, .bipush 24, 2), (53, .if_icmp .ge 27, 3), (56, .aload_n 0, 1), (57, .getfield 11, 3), (60, .iload_n 1, 1), (61, .aaload, 1), (62, .aload_n 0, 1), (63, .getfield 16, 3)],
  [(66, .iload_n 1, 1), (67, .iaload, 1), (68, .iload_n 2, 1), (69, .iastore, 1), (70, .aload_n 0, 1), (71, .getfield 16, 3), (74, .iload_n 1, 1), (75, .dup2, 1), (76, .iaload, 1), (77, .iconst 1, 1), (78, .iadd, 1), (79, .iastore, 1)],
  [(80, .iinc 2 1, 3), (83, .goto (-67), 3), (86, .aload_n 0, 1), (87, .getfield 11, 3), (90, .iload_n 1, 1), (91, .aaload, 1), (92, .aload_n 0, 1), (93, .getfield 16, 3)],
  [(96, .iload_n 1, 1), (97, .iaload, 1), (98, .bipush 99, 2), (100, .iastore, 1), (101, .aload_n 0, 1), (102, .getfield 16, 3), (105, .iload_n 1, 1), (106, .dup2, 1), (107, .iaload, 1), (108, .iconst 1, 1), (109, .iadd, 1), (110, .iastore, 1), (111, .iinc 1 1, 3)],
  [(114, .goto (-112), 3), (117, .aload_n 0, 1), (118, .iconst 1, 1), (119, .putfield 41, 3), (122, .iconst 2, 1), (123, .istore_n 1, 1), (124, .iload_n 1, 1), (125, .ifCond .lt 34, 3)],
  [(128, .aload_n 0, 1), (129, .getfield 20, 3), (132, .iload_n 1, 1), (133, .aload_n 0, 1), (134, .getfield 41, 3), (137, .iastore, 1), (138, .aload_n 0, 1), (139, .aload_n 0, 1), (140, .getfield 41, 3), (143, .aload_n 0, 1)],
  [(144, .getfield 16, 3), (147, .iload_n 1, 1), (148, .iaload, 1), (149, .imul, 1), (150, .putfield 41, 3), (153, .iinc 1 (-1), 3), (156, .goto (-32), 3), (159, .return_, 1)]]
set_option maxRecDepth 100000 in
theorem cd73_ok : ∀ ch ∈ cd73, ∀ e ∈ ch, decode (byAt 914) e.1 = .ok (e.2.1, e.2.2) := by decide +kernel
def cd74 : PC := [[(0, .aload_n 0, 1), (1, .getfield 20, 3), (4, .iload_n 2, 1), (5, .iaload, 1), (6, .ifCond .le 12, 3), (9, .aload_n 0, 1), (10, .getfield 16, 3), (13, .iload_n 2, 1), (14, .iaload, 1), (15, .ifCond .gt 6, 3)],
  [(18, .bipush 99, 2), (20, .ireturn, 1), (21, .aload_n 0, 1), (22, .getfield 11, 3), (25, .iload_n 2, 1), (26, .aaload, 1), (27, .iload_n 1, 1), (28, .aload_n 0, 1), (29, .getfield 20, 3)],
  [(32, .iload_n 2, 1), (33, .iaload, 1), (34, .idiv, 1), (35, .aload_n 0, 1), (36, .getfield 16, 3), (39, .iload_n 2, 1), (40, .iaload, 1), (41, .irem, 1), (42, .iaload, 1), (43, .ireturn, 1)]]
set_option maxRecDepth 100000 in
theorem cd74_ok : ∀ ch ∈ cd74, ∀ e ∈ ch, decode (byAt 923) e.1 = .ok (e.2.1, e.2.2) := by decide +kernel
def cd75 : PC := [[(0, .aload_n 0, 1), (1, .getfield 20, 3), (4, .iload_n 2, 1), (5, .iaload, 1), (6, .ifCond .le 12, 3), (9, .aload_n 0, 1), (10, .getfield 16, 3), (13, .iload_n 2, 1), (14, .iaload, 1), (15, .ifCond .gt 5, 3)],
  [(18, .iconst 0, 1), (19, .ireturn, 1), (20, .iload_n 1, 1), (21, .aload_n 0, 1), (22, .getfield 20, 3), (25, .iload_n 2, 1), (26, .iaload, 1), (27, .aload_n 0, 1), (28, .getfield 16, 3), (31, .iload_n 2, 1)],
  [(32, .iaload, 1), (33, .imul, 1), (34, .idiv, 1), (35, .aload_n 0, 1), (36, .getfield 20, 3), (39, .iload_n 2, 1), (40, .iaload, 1), (41, .imul, 1), (42, .iload_n 1, 1), (43, .aload_n 0, 1), (44, .getfield 20, 3), (47, .iload_n 2, 1)],
  [(48, .iaload, 1), (49, .irem, 1), (50, .iadd, 1), (51, .ireturn, 1)]]
set_option maxRecDepth 100000 in
theorem cd75_ok : ∀ ch ∈ cd75, ∀ e ∈ ch, decode (byAt 935) e.1 = .ok (e.2.1, e.2.2) := by decide +kernel
def cd76 : PC := [[(0, .iconst 0, 1), (1, .istore_n 2, 1), (2, .iconst 0, 1), (3, .istore_n 3, 1), (4, .iload_n 3, 1), (5, .aload_n 0, 1), (6, .getfield 29, 3), (9, .getfield 72, 3), (12, .if_icmp .ge 21, 3), (15, .iload_n 2, 1)],
  [(16, .bipush 100, 2), (18, .imul, 1), (19, .aload_n 0, 1), (20, .iload_n 1, 1), (21, .iload_n 3, 1), (22, .invokevirtual 54, 3), (25, .iadd, 1), (26, .istore_n 2, 1), (27, .iinc 3 1, 3), (30, .goto (-26), 3)],
  [(33, .iload_n 2, 1), (34, .ireturn, 1)]]
set_option maxRecDepth 100000 in
theorem cd76_ok : ∀ ch ∈ cd76, ∀ e ∈ ch, decode (byAt 967) e.1 = .ok (e.2.1, e.2.2) := by decide +kernel
def cd77 : PC := [[(0, .iload_n 1, 1), (1, .ifCond .lt 32, 3), (4, .iload_n 1, 1), (5, .aload_n 0, 1), (6, .getfield 41, 3), (9, .if_icmp .ge 24, 3), (12, .iload_n 1, 1), (13, .aload_n 0, 1), (14, .getfield 26, 3)],
  [(17, .arraylength, 1), (18, .if_icmp .ge 15, 3), (21, .aload_n 0, 1), (22, .getfield 26, 3), (25, .iload_n 1, 1), (26, .iaload, 1), (27, .invokestatic 68, 3), (30, .goto 4, 3)],
  [(33, .iconst 0, 1), (34, .ireturn, 1)]]
set_option maxRecDepth 100000 in
theorem cd77_ok : ∀ ch ∈ cd77, ∀ e ∈ ch, decode (byAt 981) e.1 = .ok (e.2.1, e.2.2) := by decide +kernel
def cd78 : PC := [[(0, .aload_n 0, 1), (1, .aload_n 0, 1), (2, .getfield 51, 3), (5, .invokevirtual 81, 3), (8, .ireturn, 1)]]
set_option maxRecDepth 100000 in
theorem cd78_ok : ∀ ch ∈ cd78, ∀ e ∈ ch, decode (byAt 977) e.1 = .ok (e.2.1, e.2.2) := by decide +kernel
def cd79 : PC := [[(0, .aload_n 0, 1), (1, .getfield 26, 3), (4, .iload_n 1, 1), (5, .iload_n 3, 1), (6, .ifCond .eq 14, 3), (9, .aload_n 0, 1), (10, .getfield 26, 3), (13, .iload_n 1, 1), (14, .iaload, 1), (15, .iload_n 2, 1)],
  [(16, .ior, 1), (17, .goto 13, 3), (20, .aload_n 0, 1), (21, .getfield 26, 3), (24, .iload_n 1, 1), (25, .iaload, 1), (26, .iload_n 2, 1), (27, .iconst (-1), 1), (28, .ixor, 1), (29, .iand, 1), (30, .iastore, 1), (31, .return_, 1)]]
set_option maxRecDepth 100000 in
theorem cd79_ok : ∀ ch ∈ cd79, ∀ e ∈ ch, decode (byAt 954) e.1 = .ok (e.2.1, e.2.2) := by decide +kernel
def cd80 : PC := [[(0, .aload_n 0, 1), (1, .getfield 26, 3), (4, .iload_n 1, 1), (5, .iaload, 1), (6, .iload_n 2, 1), (7, .iand, 1), (8, .ifCond .eq 7, 3), (11, .iconst 1, 1), (12, .goto 4, 3), (15, .iconst 0, 1)],
  [(16, .ireturn, 1)]]
set_option maxRecDepth 100000 in
theorem cd80_ok : ∀ ch ∈ cd80, ∀ e ∈ ch, decode (byAt 963) e.1 = .ok (e.2.1, e.2.2) := by decide +kernel
def cd81 : PC := [[(0, .iconst 0, 1), (1, .istore_n 3, 1), (2, .iconst 0, 1), (3, .istore 4, 2), (5, .iload 4, 2), (7, .aload_n 0, 1), (8, .getfield 41, 3), (11, .if_icmp .ge 34, 3), (14, .aload_n 0, 1), (15, .iload 4, 2)],
  [(17, .iload_n 1, 1), (18, .invokevirtual 84, 3), (21, .ifCond .eq 18, 3), (24, .iload_n 3, 1), (25, .iload_n 2, 1), (26, .if_icmp .ne 10, 3), (29, .aload_n 0, 1), (30, .iload 4, 2)],
  [(32, .invokevirtual 87, 3), (35, .ireturn, 1), (36, .iinc 3 1, 3), (39, .iinc 4 1, 3), (42, .goto (-37), 3), (45, .iload_n 2, 1), (46, .iconst (-1), 1), (47, .if_icmp .ne 7, 3)],
  [(50, .iload_n 3, 1), (51, .goto 4, 3), (54, .iconst (-1), 1), (55, .ireturn, 1)]]
set_option maxRecDepth 100000 in
theorem cd81_ok : ∀ ch ∈ cd81, ∀ e ∈ ch, decode (byAt 959) e.1 = .ok (e.2.1, e.2.2) := by decide +kernel
def cd82 : PC := [[(0, .aload_n 0, 1), (1, .aload_n 1, 1), (2, .invokespecial 3, 3), (5, .aload_n 0, 1), (6, .new 9, 3), (9, .dup, 1), (10, .sipush 161, 3), (13, .invokespecial 11, 3)],
  [(16, .putfield 14, 3), (19, .return_, 1)]]
set_option maxRecDepth 100000 in
theorem cd82_ok : ∀ ch ∈ cd82, ∀ e ∈ ch, decode (byAt 228) e.1 = .ok (e.2.1, e.2.2) := by decide +kernel
def cd83 : PC := [[(0, .aload_n 0, 1), (1, .invokevirtual 20, 3), (4, .aload_n 0, 1), (5, .getfield 14, 3), (8, .iconst 0, 1), (9, .putfield 24, 3), (12, .iconst 0, 1), (13, .istore_n 1, 1), (14, .iload_n 1, 1), (15, .sipush 160, 3)],
  [(18, .if_icmp .gt 36, 3), (21, .aload_n 0, 1), (22, .invokevirtual 28, 3), (25, .ifCond .eq 29, 3), (28, .aload_n 0, 1), (29, .invokevirtual 32, 3)],
  [(32, .aload_n 0, 1), (33, .invokevirtual 35, 3), (36, .ifCond .ne 6, 3), (39, .goto 15, 3), (42, .aload_n 0, 1), (43, .bipush 59, 2), (45, .invokevirtual 39, 3)],
  [(48, .iinc 1 1, 3), (51, .goto (-37), 3), (54, .aload_n 0, 1), (55, .getfield 42, 3), (58, .ireturn, 1)]]
set_option maxRecDepth 100000 in
theorem cd83_ok : ∀ ch ∈ cd83, ∀ e ∈ ch, decode (byAt 642) e.1 = .ok (e.2.1, e.2.2) := by decide +kernel
def cd84 : PC := [[(0, .aload_n 0, 1), (1, .bipush 121, 2), (3, .invokevirtual 39, 3), (6, .aload_n 0, 1), (7, .bipush 58, 2), (9, .invokevirtual 39, 3), (12, .aload_n 0, 1), (13, .invokevirtual 35, 3)],
  [(16, .istore_n 1, 1), (17, .iload_n 1, 1), (18, .bipush 33, 2), (20, .if_icmp .eq 13, 3), (23, .iload_n 1, 1), (24, .bipush 40, 2), (26, .if_icmp .eq 7, 3), (29, .iconst 1, 1), (30, .goto 4, 3)],
  [(33, .iconst 0, 1), (34, .istore_n 2, 1), (35, .iload_n 2, 1), (36, .ifCond .eq 13, 3), (39, .aload_n 0, 1), (40, .iconst 0, 1), (41, .invokevirtual 45, 3), (44, .aload_n 0, 1), (45, .invokevirtual 35, 3)],
  [(48, .istore_n 1, 1), (49, .iload_n 2, 1), (50, .ifCond .eq 14, 3), (53, .getstatic 48, 3), (56, .iload_n 1, 1), (57, .invokestatic 52, 3), (60, .iconst (-1), 1), (61, .if_icmp .eq 29, 3)],
  [(64, .aload_n 0, 1), (65, .iconst 0, 1), (66, .iload_n 2, 1), (67, .invokevirtual 56, 3), (70, .aload_n 0, 1), (71, .bipush 63, 2), (73, .invokevirtual 39, 3), (76, .aload_n 0, 1), (77, .getfield 14, 3)],
  [(80, .bipush (-11), 2), (82, .invokevirtual 60, 3), (85, .aload_n 0, 1), (86, .iconst 0, 1), (87, .invokevirtual 45, 3), (90, .aload_n 0, 1), (91, .getfield 14, 3), (94, .bipush (-12), 2)],
  [(96, .invokevirtual 60, 3), (99, .return_, 1)]]
set_option maxRecDepth 100000 in
theorem cd84_ok : ∀ ch ∈ cd84, ∀ e ∈ ch, decode (byAt 652) e.1 = .ok (e.2.1, e.2.2) := by decide +kernel
def cd85 : PC := [[(0, .aload_n 0, 1), (1, .iload_n 1, 1), (2, .iload_n 2, 1), (3, .invokevirtual 63, 3), (6, .iconst 0, 1), (7, .istore_n 3, 1), (8, .iload_n 3, 1), (9, .sipush 160, 3), (12, .if_icmp .ge 50, 3), (15, .aload_n 0, 1)],
  [(16, .invokevirtual 28, 3), (19, .ifCond .eq 43, 3), (22, .aload_n 0, 1), (23, .invokevirtual 35, 3), (26, .bipush 124, 2), (28, .if_icmp .ne 34, 3), (31, .aload_n 0, 1)],
  [(32, .dup, 1), (33, .getfield 66, 3), (36, .iconst 1, 1), (37, .iadd, 1), (38, .putfield 66, 3), (41, .aload_n 0, 1), (42, .iload_n 1, 1), (43, .iconst 0, 1), (44, .invokevirtual 63, 3), (47, .aload_n 0, 1)],
  [(48, .getfield 14, 3), (51, .bipush (-10), 2), (53, .invokevirtual 60, 3), (56, .iinc 3 1, 3), (59, .goto (-51), 3), (62, .return_, 1)]]
set_option maxRecDepth 100000 in
theorem cd85_ok : ∀ ch ∈ cd85, ∀ e ∈ ch, decode (byAt 693) e.1 = .ok (e.2.1, e.2.2) := by decide +kernel
def cd86 : PC := [[(0, .aload_n 0, 1), (1, .iload_n 1, 1), (2, .iload_n 2, 1), (3, .invokevirtual 69, 3), (6, .iconst 0, 1), (7, .istore_n 3, 1), (8, .iload_n 3, 1), (9, .sipush 160, 3), (12, .if_icmp .ge 50, 3), (15, .aload_n 0, 1)],
  [(16, .invokevirtual 28, 3), (19, .ifCond .eq 43, 3), (22, .aload_n 0, 1), (23, .invokevirtual 35, 3), (26, .bipush 38, 2), (28, .if_icmp .ne 34, 3), (31, .aload_n 0, 1)],
  [(32, .dup, 1), (33, .getfield 66, 3), (36, .iconst 1, 1), (37, .iadd, 1), (38, .putfield 66, 3), (41, .aload_n 0, 1), (42, .iload_n 1, 1), (43, .iconst 0, 1), (44, .invokevirtual 69, 3), (47, .aload_n 0, 1)],
  [(48, .getfield 14, 3), (51, .bipush (-9), 2), (53, .invokevirtual 60, 3), (56, .iinc 3 1, 3), (59, .goto (-51), 3), (62, .return_, 1)]]
set_option maxRecDepth 100000 in
theorem cd86_ok : ∀ ch ∈ cd86, ∀ e ∈ ch, decode (byAt 697) e.1 = .ok (e.2.1, e.2.2) := by decide +kernel
def cd87 : PC := [[(0, .iload_n 2, 1), (1, .ifCond .eq 7, 3), (4, .iconst 0, 1), (5, .goto 7, 3), (8, .aload_n 0, 1), (9, .invokevirtual 35, 3), (12, .istore_n 3, 1), (13, .iload_n 3, 1), (14, .bipush 33, 2)],
  [(16, .if_icmp .ne 31, 3), (19, .aload_n 0, 1), (20, .iload_n 1, 1), (21, .invokevirtual 72, 3), (24, .ifCond .eq 124, 3), (27, .aload_n 0, 1), (28, .iload_n 1, 1), (29, .iconst 1, 1), (30, .iadd, 1), (31, .iconst 0, 1)],
  [(32, .invokevirtual 69, 3), (35, .aload_n 0, 1), (36, .getfield 14, 3), (39, .bipush (-8), 2), (41, .invokevirtual 60, 3), (44, .goto 104, 3), (47, .iload_n 3, 1)],
  [(48, .bipush 40, 2), (50, .if_icmp .ne 28, 3), (53, .aload_n 0, 1), (54, .iload_n 1, 1), (55, .invokevirtual 72, 3), (58, .ifCond .eq 90, 3), (61, .aload_n 0, 1), (62, .iload_n 1, 1), (63, .iconst 1, 1)],
  [(64, .iadd, 1), (65, .iconst 0, 1), (66, .invokevirtual 56, 3), (69, .aload_n 0, 1), (70, .bipush 41, 2), (72, .invokevirtual 39, 3), (75, .goto 73, 3), (78, .iload_n 2, 1), (79, .ifCond .ne 8, 3)],
  [(82, .aload_n 0, 1), (83, .iload_n 1, 1), (84, .invokevirtual 45, 3), (87, .getstatic 48, 3), (90, .aload_n 0, 1), (91, .invokevirtual 35, 3), (94, .invokestatic 52, 3)],
  [(97, .istore 4, 2), (99, .aload_n 0, 1), (100, .invokevirtual 28, 3), (103, .ifCond .eq 9, 3), (106, .iload 4, 2), (108, .iconst (-1), 1), (109, .if_icmp .ne 12, 3)],
  [(112, .aload_n 0, 1), (113, .aload_n 0, 1), (114, .getfield 66, 3), (117, .invokevirtual 76, 3), (120, .return_, 1), (121, .aload_n 0, 1), (122, .dup, 1), (123, .getfield 66, 3), (126, .iconst 1, 1), (127, .iadd, 1)],
  [(128, .putfield 66, 3), (131, .aload_n 0, 1), (132, .iload_n 1, 1), (133, .invokevirtual 45, 3), (136, .aload_n 0, 1), (137, .getfield 14, 3), (140, .bipush (-5), 2), (142, .iload 4, 2)],
  [(144, .isub, 1), (145, .invokevirtual 60, 3), (148, .return_, 1)]]
set_option maxRecDepth 100000 in
theorem cd87_ok : ∀ ch ∈ cd87, ∀ e ∈ ch, decode (byAt 701) e.1 = .ok (e.2.1, e.2.2) := by decide +kernel
def cd88 : PC := [[(0, .aload_n 0, 1), (1, .iload_n 1, 1), (2, .invokevirtual 79, 3), (5, .iconst 0, 1), (6, .istore_n 2, 1), (7, .iload_n 2, 1), (8, .sipush 160, 3), (11, .if_icmp .ge 68, 3), (14, .aload_n 0, 1), (15, .invokevirtual 28, 3)],
  [(18, .ifCond .eq 61, 3), (21, .aload_n 0, 1), (22, .invokevirtual 35, 3), (25, .istore_n 3, 1), (26, .iload_n 3, 1), (27, .bipush 43, 2), (29, .if_icmp .eq 10, 3)],
  [(32, .iload_n 3, 1), (33, .bipush 45, 2), (35, .if_icmp .eq 4, 3), (38, .return_, 1), (39, .aload_n 0, 1), (40, .dup, 1), (41, .getfield 66, 3), (44, .iconst 1, 1), (45, .iadd, 1), (46, .putfield 66, 3)],
  [(49, .aload_n 0, 1), (50, .iload_n 1, 1), (51, .invokevirtual 79, 3), (54, .aload_n 0, 1), (55, .getfield 14, 3), (58, .iload_n 3, 1), (59, .bipush 43, 2), (61, .if_icmp .ne 7, 3)],
  [(64, .iconst (-1), 1), (65, .goto 5, 3), (68, .bipush (-2), 2), (70, .invokevirtual 60, 3), (73, .iinc 2 1, 3), (76, .goto (-69), 3), (79, .return_, 1)]]
set_option maxRecDepth 100000 in
theorem cd88_ok : ∀ ch ∈ cd88, ∀ e ∈ ch, decode (byAt 662) e.1 = .ok (e.2.1, e.2.2) := by decide +kernel
def cd89 : PC := [[(0, .aload_n 0, 1), (1, .iload_n 1, 1), (2, .invokevirtual 82, 3), (5, .iconst 0, 1), (6, .istore_n 2, 1), (7, .iload_n 2, 1), (8, .sipush 160, 3), (11, .if_icmp .ge 69, 3), (14, .aload_n 0, 1), (15, .invokevirtual 28, 3)],
  [(18, .ifCond .eq 62, 3), (21, .aload_n 0, 1), (22, .invokevirtual 35, 3), (25, .istore_n 3, 1), (26, .iload_n 3, 1), (27, .bipush 42, 2), (29, .if_icmp .eq 10, 3)],
  [(32, .iload_n 3, 1), (33, .bipush 47, 2), (35, .if_icmp .eq 4, 3), (38, .return_, 1), (39, .aload_n 0, 1), (40, .dup, 1), (41, .getfield 66, 3), (44, .iconst 1, 1), (45, .iadd, 1), (46, .putfield 66, 3)],
  [(49, .aload_n 0, 1), (50, .iload_n 1, 1), (51, .invokevirtual 82, 3), (54, .aload_n 0, 1), (55, .getfield 14, 3), (58, .iload_n 3, 1), (59, .bipush 42, 2), (61, .if_icmp .ne 8, 3)],
  [(64, .bipush (-3), 2), (66, .goto 5, 3), (69, .bipush (-4), 2), (71, .invokevirtual 60, 3), (74, .iinc 2 1, 3), (77, .goto (-70), 3)],
  [(80, .return_, 1)]]
set_option maxRecDepth 100000 in
theorem cd89_ok : ∀ ch ∈ cd89, ∀ e ∈ ch, decode (byAt 666) e.1 = .ok (e.2.1, e.2.2) := by decide +kernel
def cd90 : PC := [[(0, .aload_n 0, 1), (1, .invokevirtual 28, 3), (4, .ifCond .ne 4, 3), (7, .return_, 1), (8, .aload_n 0, 1), (9, .invokevirtual 35, 3), (12, .istore_n 2, 1), (13, .getstatic 85, 3)],
  [(16, .iload_n 2, 1), (17, .invokestatic 52, 3), (20, .istore_n 3, 1), (21, .iload_n 3, 1), (22, .iconst (-1), 1), (23, .if_icmp .eq 27, 3), (26, .aload_n 0, 1), (27, .dup, 1), (28, .getfield 66, 3), (31, .iconst 1, 1)],
  [(32, .iadd, 1), (33, .putfield 66, 3), (36, .aload_n 0, 1), (37, .getfield 14, 3), (40, .bipush (-13), 2), (42, .iload_n 3, 1), (43, .isub, 1), (44, .invokevirtual 60, 3), (47, .goto 45, 3)],
  [(50, .iload_n 2, 1), (51, .bipush 91, 2), (53, .if_icmp .ne 27, 3), (56, .aload_n 0, 1), (57, .iload_n 1, 1), (58, .invokevirtual 72, 3), (61, .ifCond .eq 31, 3)],
  [(64, .aload_n 0, 1), (65, .iload_n 1, 1), (66, .iconst 1, 1), (67, .iadd, 1), (68, .invokevirtual 45, 3), (71, .aload_n 0, 1), (72, .bipush 93, 2), (74, .invokevirtual 39, 3), (77, .goto 15, 3)],
  [(80, .aload_n 0, 1), (81, .getfield 14, 3), (84, .aload_n 0, 1), (85, .iconst 4, 1), (86, .invokevirtual 88, 3), (89, .invokevirtual 60, 3), (92, .return_, 1)]]
set_option maxRecDepth 100000 in
theorem cd90_ok : ∀ ch ∈ cd90, ∀ e ∈ ch, decode (byAt 670) e.1 = .ok (e.2.1, e.2.2) := by decide +kernel
def cd91 : PC := [[(0, .aload_n 0, 1), (1, .invokevirtual 28, 3), (4, .ifCond .eq 9, 3), (7, .iload_n 1, 1), (8, .bipush 6, 2), (10, .if_icmp .lt 13, 3), (13, .aload_n 0, 1), (14, .aload_n 0, 1), (15, .getfield 66, 3)],
  [(18, .invokevirtual 76, 3), (21, .iconst 0, 1), (22, .ireturn, 1), (23, .aload_n 0, 1), (24, .dup, 1), (25, .getfield 66, 3), (28, .iconst 1, 1), (29, .iadd, 1), (30, .putfield 66, 3)],
  [(33, .iconst 1, 1), (34, .ireturn, 1)]]
set_option maxRecDepth 100000 in
theorem cd91_ok : ∀ ch ∈ cd91, ∀ e ∈ ch, decode (byAt 681) e.1 = .ok (e.2.1, e.2.2) := by decide +kernel
def cd92 : PC := [[(0, .aload_n 0, 1), (1, .invokespecial 3, 3), (4, .aload_n 0, 1), (5, .getstatic 9, 3), (8, .arraylength, 1), (9, .newarray .int, 2), (11, .putfield 13, 3), (14, .aload_n 0, 1), (15, .iconst 3, 1)],
  [(16, .newarray .int, 2), (18, .putfield 18, 3), (21, .aload_n 0, 1), (22, .bipush 10, 2), (24, .newarray .int, 2), (26, .putfield 21, 3), (29, .aload_n 0, 1), (30, .bipush 10, 2)],
  [(32, .newarray .int, 2), (34, .putfield 24, 3), (37, .aload_n 0, 1), (38, .bipush 10, 2), (40, .newarray .int, 2), (42, .putfield 27, 3), (45, .aload_n 0, 1), (46, .iconst 3, 1), (47, .newarray .int, 2)],
  [(49, .putfield 30, 3), (52, .aload_n 0, 1), (53, .iconst 3, 1), (54, .newarray .int, 2), (56, .putfield 33, 3), (59, .aload_n 0, 1), (60, .bipush 120, 2), (62, .newarray .int, 2)],
  [(64, .putfield 36, 3), (67, .aload_n 0, 1), (68, .bipush 120, 2), (70, .newarray .int, 2), (72, .putfield 39, 3), (75, .return_, 1)]]
set_option maxRecDepth 100000 in
theorem cd92_ok : ∀ ch ∈ cd92, ∀ e ∈ ch, decode (byAt 267) e.1 = .ok (e.2.1, e.2.2) := by decide +kernel
def cd93 : PC := [[(0, .aload_n 1, 1), (1, .iconst 0, 1), (2, .aload_n 0, 1), (3, .getfield 13, 3), (6, .iconst 0, 1), (7, .aload_n 0, 1), (8, .getfield 13, 3), (11, .arraylength, 1), (12, .invokestatic 42, 3), (15, .iconst 0, 1)],
  [(16, .istore_n 2, 1), (17, .iload_n 2, 1), (18, .iconst 3, 1), (19, .if_icmp .ge 30, 3), (22, .aload_n 0, 1), (23, .getfield 18, 3), (26, .iload_n 2, 1), (27, .iconst (-1), 1), (28, .iastore, 1), (29, .aload_n 0, 1), (30, .getfield 30, 3)],
  [(33, .iload_n 2, 1), (34, .iconst 0, 1), (35, .iastore, 1), (36, .aload_n 0, 1), (37, .getfield 33, 3), (40, .iload_n 2, 1), (41, .iconst 0, 1), (42, .iastore, 1), (43, .iinc 2 1, 3), (46, .goto (-29), 3)],
  [(49, .aload_n 0, 1), (50, .iconst 0, 1), (51, .putfield 48, 3), (54, .aload_n 0, 1), (55, .iconst 0, 1), (56, .putfield 52, 3), (59, .aload_n 0, 1), (60, .iconst 0, 1), (61, .putfield 55, 3)],
  [(64, .return_, 1)]]
set_option maxRecDepth 100000 in
theorem cd93_ok : ∀ ch ∈ cd93, ∀ e ∈ ch, decode (byAt 717) e.1 = .ok (e.2.1, e.2.2) := by decide +kernel
def cd94 : PC := [[(0, .aload_n 0, 1), (1, .getfield 48, 3), (4, .bipush 10, 2), (6, .if_icmp .ge 43, 3), (9, .aload_n 0, 1), (10, .getfield 21, 3), (13, .aload_n 0, 1), (14, .getfield 48, 3)],
  [(17, .iload_n 1, 1), (18, .iastore, 1), (19, .aload_n 0, 1), (20, .getfield 24, 3), (23, .aload_n 0, 1), (24, .getfield 48, 3), (27, .iload_n 2, 1), (28, .iastore, 1), (29, .aload_n 0, 1), (30, .getfield 27, 3)],
  [(33, .aload_n 0, 1), (34, .getfield 48, 3), (37, .iload_n 3, 1), (38, .iastore, 1), (39, .aload_n 0, 1), (40, .dup, 1), (41, .getfield 48, 3), (44, .iconst 1, 1), (45, .iadd, 1), (46, .putfield 48, 3)],
  [(49, .return_, 1)]]
set_option maxRecDepth 100000 in
theorem cd94_ok : ∀ ch ∈ cd94, ∀ e ∈ ch, decode (byAt 1066) e.1 = .ok (e.2.1, e.2.2) := by decide +kernel
def cd95 : PC := [[(0, .aload_n 0, 1), (1, .getfield 30, 3), (4, .iconst 0, 1), (5, .iaload, 1), (6, .aload_n 0, 1), (7, .getfield 30, 3), (10, .iconst 1, 1), (11, .iaload, 1), (12, .iadd, 1), (13, .aload_n 0, 1), (14, .getfield 30, 3)],
  [(17, .iconst 2, 1), (18, .iaload, 1), (19, .iadd, 1), (20, .ireturn, 1)]]
set_option maxRecDepth 100000 in
theorem cd95_ok : ∀ ch ∈ cd95, ∀ e ∈ ch, decode (byAt 1180) e.1 = .ok (e.2.1, e.2.2) := by decide +kernel
def cd96 : PC := [[(0, .aload_n 0, 1), (1, .dup, 1), (2, .getfield 52, 3), (5, .iconst 1, 1), (6, .iadd, 1), (7, .putfield 52, 3), (10, .aload_n 0, 1), (11, .aload_n 0, 1), (12, .getfield 55, 3), (15, .iconst 1, 1)],
  [(16, .iadd, 1), (17, .bipush 40, 2), (19, .invokestatic 58, 3), (22, .putfield 55, 3), (25, .iconst 0, 1), (26, .istore_n 1, 1), (27, .iload_n 1, 1), (28, .iconst 3, 1), (29, .if_icmp .ge 31, 3)],
  [(32, .aload_n 0, 1), (33, .getfield 36, 3), (36, .aload_n 0, 1), (37, .iload_n 1, 1), (38, .invokevirtual 64, 3), (41, .iconst 0, 1), (42, .iastore, 1), (43, .aload_n 0, 1), (44, .getfield 39, 3), (47, .aload_n 0, 1)],
  [(48, .iload_n 1, 1), (49, .invokevirtual 64, 3), (52, .iconst 0, 1), (53, .iastore, 1), (54, .iinc 1 1, 3), (57, .goto (-30), 3), (60, .return_, 1)]]
set_option maxRecDepth 100000 in
theorem cd96_ok : ∀ ch ∈ cd96, ∀ e ∈ ch, decode (byAt 1129) e.1 = .ok (e.2.1, e.2.2) := by decide +kernel
def cd97 : PC := [[(0, .aload_n 0, 1), (1, .getfield 36, 3), (4, .aload_n 0, 1), (5, .iload_n 1, 1), (6, .invokevirtual 64, 3), (9, .iload_n 2, 1), (10, .iastore, 1), (11, .aload_n 0, 1), (12, .getfield 39, 3), (15, .aload_n 0, 1)],
  [(16, .iload_n 1, 1), (17, .invokevirtual 64, 3), (20, .iload_n 3, 1), (21, .iastore, 1), (22, .aload_n 0, 1), (23, .getfield 30, 3), (26, .iload_n 1, 1), (27, .dup2, 1), (28, .iaload, 1), (29, .iload_n 2, 1), (30, .iadd, 1), (31, .iastore, 1)],
  [(32, .aload_n 0, 1), (33, .getfield 33, 3), (36, .iload_n 1, 1), (37, .dup2, 1), (38, .iaload, 1), (39, .iload_n 3, 1), (40, .iadd, 1), (41, .iastore, 1), (42, .return_, 1)]]
set_option maxRecDepth 100000 in
theorem cd97_ok : ∀ ch ∈ cd97, ∀ e ∈ ch, decode (byAt 1141) e.1 = .ok (e.2.1, e.2.2) := by decide +kernel
def cd98 : PC := [[(0, .iconst 0, 1), (1, .istore_n 1, 1), (2, .iload_n 1, 1), (3, .iconst 3, 1), (4, .if_icmp .ge 47, 3), (7, .aload_n 0, 1), (8, .getfield 30, 3), (11, .iload_n 1, 1), (12, .dup2, 1), (13, .iaload, 1), (14, .aload_n 0, 1), (15, .getfield 36, 3)],
  [(18, .aload_n 0, 1), (19, .iload_n 1, 1), (20, .invokevirtual 64, 3), (23, .iaload, 1), (24, .isub, 1), (25, .iastore, 1), (26, .aload_n 0, 1), (27, .getfield 33, 3), (30, .iload_n 1, 1), (31, .dup2, 1)],
  [(32, .iaload, 1), (33, .aload_n 0, 1), (34, .getfield 39, 3), (37, .aload_n 0, 1), (38, .iload_n 1, 1), (39, .invokevirtual 64, 3), (42, .iaload, 1), (43, .isub, 1), (44, .iastore, 1), (45, .iinc 1 1, 3)],
  [(48, .goto (-46), 3), (51, .aload_n 0, 1), (52, .dup, 1), (53, .getfield 52, 3), (56, .iconst 1, 1), (57, .isub, 1), (58, .putfield 52, 3), (61, .aload_n 0, 1), (62, .dup, 1), (63, .getfield 55, 3)],
  [(66, .iconst 1, 1), (67, .isub, 1), (68, .putfield 55, 3), (71, .return_, 1)]]
set_option maxRecDepth 100000 in
theorem cd98_ok : ∀ ch ∈ cd98, ∀ e ∈ ch, decode (byAt 1160) e.1 = .ok (e.2.1, e.2.2) := by decide +kernel
def cd99 : PC := [[(0, .aload_n 0, 1), (1, .getfield 52, 3), (4, .bipush 40, 2), (6, .invokestatic 68, 3), (9, .iconst 3, 1), (10, .imul, 1), (11, .iload_n 1, 1), (12, .iadd, 1), (13, .ireturn, 1)]]
set_option maxRecDepth 100000 in
theorem cd99_ok : ∀ ch ∈ cd99, ∀ e ∈ ch, decode (byAt 1134) e.1 = .ok (e.2.1, e.2.2) := by decide +kernel
def cd100 : PC := [[(0, .aload_n 1, 1), (1, .getfield 13, 3), (4, .iconst 0, 1), (5, .aload_n 0, 1), (6, .getfield 13, 3), (9, .iconst 0, 1), (10, .aload_n 0, 1), (11, .getfield 13, 3), (14, .arraylength, 1), (15, .invokestatic 42, 3)],
  [(18, .aload_n 1, 1), (19, .getfield 18, 3), (22, .iconst 0, 1), (23, .aload_n 0, 1), (24, .getfield 18, 3), (27, .iconst 0, 1), (28, .aload_n 0, 1), (29, .getfield 18, 3)],
  [(32, .arraylength, 1), (33, .invokestatic 42, 3), (36, .aload_n 1, 1), (37, .getfield 21, 3), (40, .iconst 0, 1), (41, .aload_n 0, 1), (42, .getfield 21, 3), (45, .iconst 0, 1), (46, .bipush 10, 2)],
  [(48, .invokestatic 42, 3), (51, .aload_n 1, 1), (52, .getfield 24, 3), (55, .iconst 0, 1), (56, .aload_n 0, 1), (57, .getfield 24, 3), (60, .iconst 0, 1), (61, .bipush 10, 2), (63, .invokestatic 42, 3)],
  [(66, .aload_n 1, 1), (67, .getfield 27, 3), (70, .iconst 0, 1), (71, .aload_n 0, 1), (72, .getfield 27, 3), (75, .iconst 0, 1), (76, .bipush 10, 2), (78, .invokestatic 42, 3)],
  [(81, .aload_n 0, 1), (82, .aload_n 1, 1), (83, .getfield 48, 3), (86, .putfield 48, 3), (89, .aload_n 0, 1), (90, .aload_n 1, 1), (91, .getfield 52, 3), (94, .putfield 52, 3)],
  [(97, .aload_n 0, 1), (98, .aload_n 1, 1), (99, .getfield 55, 3), (102, .putfield 55, 3), (105, .aload_n 1, 1), (106, .getfield 30, 3), (109, .iconst 0, 1), (110, .aload_n 0, 1), (111, .getfield 30, 3)],
  [(114, .iconst 0, 1), (115, .iconst 3, 1), (116, .invokestatic 42, 3), (119, .aload_n 1, 1), (120, .getfield 33, 3), (123, .iconst 0, 1), (124, .aload_n 0, 1), (125, .getfield 33, 3)],
  [(128, .iconst 0, 1), (129, .iconst 3, 1), (130, .invokestatic 42, 3), (133, .aload_n 1, 1), (134, .getfield 36, 3), (137, .iconst 0, 1), (138, .aload_n 0, 1), (139, .getfield 36, 3), (142, .iconst 0, 1), (143, .aload_n 0, 1)],
  [(144, .getfield 36, 3), (147, .arraylength, 1), (148, .invokestatic 42, 3), (151, .aload_n 1, 1), (152, .getfield 39, 3), (155, .iconst 0, 1), (156, .aload_n 0, 1), (157, .getfield 39, 3)],
  [(160, .iconst 0, 1), (161, .aload_n 0, 1), (162, .getfield 39, 3), (165, .arraylength, 1), (166, .invokestatic 42, 3), (169, .return_, 1)]]
set_option maxRecDepth 100000 in
theorem cd100_ok : ∀ ch ∈ cd100, ∀ e ∈ ch, decode (byAt 1168) e.1 = .ok (e.2.1, e.2.2) := by decide +kernel
def cd101 : PC := [[(0, .aload_n 0, 1), (1, .invokespecial 3, 3), (4, .aload_n 0, 1), (5, .sipush 160, 3), (8, .newarray .int, 2), (10, .putfield 9, 3), (13, .return_, 1)]]
set_option maxRecDepth 100000 in
theorem cd101_ok : ∀ ch ∈ cd101, ∀ e ∈ ch, decode (byAt 125) e.1 = .ok (e.2.1, e.2.2) := by decide +kernel
def cd102 : PC := [[(0, .iconst 0, 1), (1, .istore_n 1, 1), (2, .bipush 24, 2), (4, .istore_n 2, 1), (5, .iload_n 2, 1), (6, .ifCond .lt 22, 3), (9, .iload_n 0, 1), (10, .iload_n 2, 1), (11, .iushr, 1), (12, .sipush 255, 3), (15, .iand, 1)],
  [(16, .ifCond .eq 6, 3), (19, .iinc 1 1, 3), (22, .iinc 2 (-8), 3), (25, .goto (-20), 3), (28, .iload_n 1, 1), (29, .ireturn, 1)]]
set_option maxRecDepth 100000 in
theorem cd102_ok : ∀ ch ∈ cd102, ∀ e ∈ ch, decode (byAt 534) e.1 = .ok (e.2.1, e.2.2) := by decide +kernel
def cd103 : PC := [[(0, .bipush 24, 2), (2, .istore_n 2, 1), (3, .iload_n 2, 1), (4, .ifCond .lt 53, 3), (7, .iload_n 1, 1), (8, .iload_n 2, 1), (9, .iushr, 1), (10, .sipush 255, 3), (13, .iand, 1), (14, .istore_n 3, 1), (15, .iload_n 3, 1)],
  [(16, .ifCond .eq 35, 3), (19, .aload_n 0, 1), (20, .getfield 15, 3), (23, .aload_n 0, 1), (24, .getfield 9, 3), (27, .arraylength, 1), (28, .if_icmp .ge 23, 3), (31, .aload_n 0, 1)],
  [(32, .getfield 9, 3), (35, .aload_n 0, 1), (36, .getfield 15, 3), (39, .iload_n 3, 1), (40, .iastore, 1), (41, .aload_n 0, 1), (42, .dup, 1), (43, .getfield 15, 3), (46, .iconst 1, 1), (47, .iadd, 1)],
  [(48, .putfield 15, 3), (51, .iinc 2 (-8), 3), (54, .goto (-51), 3), (57, .return_, 1)]]
set_option maxRecDepth 100000 in
theorem cd103_ok : ∀ ch ∈ cd103, ∀ e ∈ ch, decode (byAt 538) e.1 = .ok (e.2.1, e.2.2) := by decide +kernel
def cd104 : PC := [[(0, .aload_n 0, 1), (1, .invokespecial 1, 3), (4, .aload_n 0, 1), (5, .new 7, 3), (8, .dup, 1), (9, .invokespecial 9, 3), (12, .putfield 10, 3), (15, .aload_n 0, 1)],
  [(16, .new 16, 3), (19, .dup, 1), (20, .invokespecial 18, 3), (23, .putfield 19, 3), (26, .aload_n 0, 1), (27, .new 23, 3), (30, .dup, 1), (31, .aload_n 0, 1)],
  [(32, .getfield 10, 3), (35, .invokespecial 25, 3), (38, .putfield 28, 3), (41, .aload_n 0, 1), (42, .new 32, 3), (45, .dup, 1), (46, .aload_n 0, 1), (47, .getfield 10, 3)],
  [(50, .invokespecial 34, 3), (53, .putfield 35, 3), (56, .aload_n 0, 1), (57, .iconst 4, 1), (58, .anewarray 39, 3), (61, .putfield 41, 3)],
  [(64, .aload_n 0, 1), (65, .new 45, 3), (68, .dup, 1), (69, .invokespecial 47, 3), (72, .putfield 48, 3), (75, .aload_n 0, 1), (76, .new 45, 3), (79, .dup, 1)],
  [(80, .invokespecial 47, 3), (83, .putfield 52, 3), (86, .aload_n 0, 1), (87, .new 55, 3), (90, .dup, 1), (91, .aload_n 0, 1), (92, .getfield 19, 3), (95, .invokespecial 57, 3)],
  [(98, .putfield 60, 3), (101, .aload_n 0, 1), (102, .new 64, 3), (105, .dup, 1), (106, .aload_n 0, 1), (107, .getfield 19, 3), (110, .aload_n 0, 1), (111, .getfield 60, 3)],
  [(114, .invokespecial 66, 3), (117, .putfield 69, 3), (120, .aload_n 0, 1), (121, .new 73, 3), (124, .dup, 1), (125, .aload_n 0, 1), (126, .getfield 69, 3)],
  [(129, .aload_n 0, 1), (130, .getfield 48, 3), (133, .invokespecial 75, 3), (136, .putfield 78, 3), (139, .aload_n 0, 1), (140, .new 82, 3), (143, .dup, 1)],
  [(144, .aload_n 0, 1), (145, .getfield 69, 3), (148, .aload_n 0, 1), (149, .getfield 48, 3), (152, .invokespecial 84, 3), (155, .putfield 85, 3), (158, .aload_n 0, 1), (159, .iconst 3, 1)],
  [(160, .newarray .int, 2), (162, .putfield 89, 3), (165, .aload_n 0, 1), (166, .getstatic 93, 3), (169, .arraylength, 1), (170, .newarray .int, 2), (172, .putfield 96, 3), (175, .return_, 1)]]
set_option maxRecDepth 100000 in
theorem cd104_ok : ∀ ch ∈ cd104, ∀ e ∈ ch, decode (byAt 117) e.1 = .ok (e.2.1, e.2.2) := by decide +kernel
def cd105 : PC := [[(0, .iload_n 1, 1), (1, .invokestatic 99, 3), (4, .iload_n 2, 1), (5, .invokestatic 99, 3), (8, .iadd, 1), (9, .iload_n 3, 1), (10, .invokestatic 99, 3), (13, .iadd, 1), (14, .iload 4, 2)],
  [(16, .invokestatic 99, 3), (19, .iadd, 1), (20, .iload 5, 2), (22, .invokestatic 99, 3), (25, .iadd, 1), (26, .istore 6, 2), (28, .aload_n 0, 1), (29, .getfield 10, 3)],
  [(32, .getfield 103, 3), (35, .iload 6, 2), (37, .iadd, 1), (38, .sipush 160, 3), (41, .if_icmp .le 5, 3), (44, .iconst (-1), 1), (45, .ireturn, 1), (46, .aload_n 0, 1), (47, .getfield 10, 3)],
  [(50, .iload_n 1, 1), (51, .invokevirtual 107, 3), (54, .aload_n 0, 1), (55, .getfield 10, 3), (58, .iload_n 2, 1), (59, .invokevirtual 107, 3), (62, .aload_n 0, 1), (63, .getfield 10, 3)],
  [(66, .iload_n 3, 1), (67, .invokevirtual 107, 3), (70, .aload_n 0, 1), (71, .getfield 10, 3), (74, .iload 4, 2), (76, .invokevirtual 107, 3), (79, .aload_n 0, 1)],
  [(80, .getfield 10, 3), (83, .iload 5, 2), (85, .invokevirtual 107, 3), (88, .aload_n 0, 1), (89, .getfield 10, 3), (92, .getfield 103, 3), (95, .ireturn, 1)]]
set_option maxRecDepth 100000 in
theorem cd105_ok : ∀ ch ∈ cd105, ∀ e ∈ ch, decode (byAt 531) e.1 = .ok (e.2.1, e.2.2) := by decide +kernel
def cd106 : PC := [[(0, .iload_n 1, 1), (1, .ifCond .lt 14, 3), (4, .iload_n 1, 1), (5, .aload_n 0, 1), (6, .getfield 10, 3), (9, .getfield 103, 3), (12, .if_icmp .le 5, 3), (15, .iconst 0, 1)],
  [(16, .ireturn, 1), (17, .aload_n 0, 1), (18, .getfield 10, 3), (21, .iload_n 1, 1), (22, .putfield 103, 3), (25, .iconst 1, 1), (26, .ireturn, 1)]]
set_option maxRecDepth 100000 in
theorem cd106_ok : ∀ ch ∈ cd106, ∀ e ∈ ch, decode (byAt 542) e.1 = .ok (e.2.1, e.2.2) := by decide +kernel
def cd107 : PC := [[(0, .iload_n 1, 1), (1, .ifCond .ne 11, 3), (4, .aload_n 0, 1), (5, .getfield 28, 3), (8, .invokevirtual 111, 3), (11, .ireturn, 1), (12, .iload_n 1, 1), (13, .iconst 1, 1), (14, .if_icmp .ne 11, 3)],
  [(17, .aload_n 0, 1), (18, .getfield 35, 3), (21, .invokevirtual 115, 3), (24, .ireturn, 1), (25, .bipush (-2), 2), (27, .ireturn, 1)]]
set_option maxRecDepth 100000 in
theorem cd107_ok : ∀ ch ∈ cd107, ∀ e ∈ ch, decode (byAt 546) e.1 = .ok (e.2.1, e.2.2) := by decide +kernel
def cd108 : PC := [[(0, .iload_n 1, 1), (1, .ifCond .ne 8, 3), (4, .aload_n 0, 1), (5, .invokevirtual 116, 3), (8, .ireturn, 1), (9, .iload_n 1, 1), (10, .iconst 1, 1), (11, .if_icmp .ne 8, 3), (14, .aload_n 0, 1), (15, .invokevirtual 119, 3)],
  [(18, .ireturn, 1), (19, .iconst (-1), 1), (20, .ireturn, 1)]]
set_option maxRecDepth 100000 in
theorem cd108_ok : ∀ ch ∈ cd108, ∀ e ∈ ch, decode (byAt 705) e.1 = .ok (e.2.1, e.2.2) := by decide +kernel
def cd109 : PC := [[(0, .aload_n 0, 1), (1, .iload_n 1, 1), (2, .invokevirtual 122, 3), (5, .ifCond .eq 12, 3), (8, .iload_n 2, 1), (9, .ifCond .lt 8, 3), (12, .iload_n 2, 1), (13, .iconst 5, 1), (14, .if_icmp .le 11, 3)],
  [(17, .new 126, 3), (20, .dup, 1), (21, .invokespecial 128, 3), (24, .athrow, 1), (25, .iload_n 2, 1), (26, .tableswitch 56 3 5 #[26, 36, 46], 26)],
  [],
  [(52, .aload_n 0, 1), (53, .getfield 48, 3), (56, .getfield 129, 3), (59, .iload_n 1, 1), (60, .iaload, 1), (61, .ireturn, 1), (62, .aload_n 0, 1), (63, .getfield 48, 3)],
  [(66, .getfield 132, 3), (69, .iload_n 1, 1), (70, .iaload, 1), (71, .ireturn, 1), (72, .aload_n 0, 1), (73, .getfield 48, 3), (76, .getfield 135, 3), (79, .iload_n 1, 1)],
  [(80, .iaload, 1), (81, .ireturn, 1), (82, .aload_n 0, 1), (83, .getfield 19, 3), (86, .getfield 138, 3), (89, .iload_n 1, 1), (90, .aaload, 1), (91, .iload_n 2, 1), (92, .iaload, 1), (93, .ireturn, 1)]]
set_option maxRecDepth 100000 in
theorem cd109_ok : ∀ ch ∈ cd109, ∀ e ∈ ch, decode (byAt 1188) e.1 = .ok (e.2.1, e.2.2) := by decide +kernel
def cd110 : PC := [[(0, .aload_n 0, 1), (1, .iload_n 1, 1), (2, .invokevirtual 142, 3), (5, .ifCond .eq 12, 3), (8, .iload_n 2, 1), (9, .ifCond .lt 8, 3), (12, .iload_n 2, 1), (13, .iconst 3, 1), (14, .if_icmp .le 5, 3)],
  [(17, .iconst (-1), 1), (18, .ireturn, 1), (19, .aload_n 0, 1), (20, .getfield 19, 3), (23, .getfield 145, 3), (26, .iload_n 1, 1), (27, .aaload, 1), (28, .iload_n 2, 1), (29, .iaload, 1), (30, .ireturn, 1)]]
set_option maxRecDepth 100000 in
theorem cd110_ok : ∀ ch ∈ cd110, ∀ e ∈ ch, decode (byAt 745) e.1 = .ok (e.2.1, e.2.2) := by decide +kernel
def cd111 : PC := [[(0, .aload_n 0, 1), (1, .getfield 19, 3), (4, .invokevirtual 148, 3), (7, .ifCond .eq 12, 3), (10, .iload_n 1, 1), (11, .ifCond .lt 8, 3), (14, .iload_n 1, 1), (15, .iconst 3, 1)],
  [(16, .if_icmp .le 5, 3), (19, .iconst (-1), 1), (20, .ireturn, 1), (21, .aload_n 0, 1), (22, .getfield 48, 3), (25, .getfield 152, 3), (28, .iload_n 1, 1), (29, .iaload, 1), (30, .ireturn, 1)]]
set_option maxRecDepth 100000 in
theorem cd111_ok : ∀ ch ∈ cd111, ∀ e ∈ ch, decode (byAt 753) e.1 = .ok (e.2.1, e.2.2) := by decide +kernel
def cd112 : PC := [[(0, .aload_n 0, 1), (1, .getfield 19, 3), (4, .invokevirtual 148, 3), (7, .ifCond .eq 12, 3), (10, .iload_n 1, 1), (11, .ifCond .lt 8, 3), (14, .iload_n 1, 1), (15, .iconst 3, 1)],
  [(16, .if_icmp .le 5, 3), (19, .iconst 0, 1), (20, .ireturn, 1), (21, .iload_n 2, 1), (22, .getstatic 155, 3), (25, .iload_n 1, 1), (26, .iaload, 1), (27, .if_icmp .lt 12, 3), (30, .iload_n 2, 1), (31, .getstatic 158, 3)],
  [(34, .iload_n 1, 1), (35, .iaload, 1), (36, .if_icmp .le 5, 3), (39, .iconst 0, 1), (40, .ireturn, 1), (41, .aload_n 0, 1), (42, .getfield 48, 3), (45, .getfield 152, 3)],
  [(48, .iload_n 1, 1), (49, .iload_n 2, 1), (50, .iastore, 1), (51, .aload_n 0, 1), (52, .getfield 78, 3), (55, .invokevirtual 161, 3), (58, .iconst 1, 1), (59, .ireturn, 1)]]
set_option maxRecDepth 100000 in
theorem cd112_ok : ∀ ch ∈ cd112, ∀ e ∈ ch, decode (byAt 761) e.1 = .ok (e.2.1, e.2.2) := by decide +kernel
def cd113 : PC := [[(0, .aload_n 0, 1), (1, .iload_n 1, 1), (2, .invokevirtual 122, 3), (5, .ifCond .eq 16, 3), (8, .iload_n 2, 1), (9, .iconst (-1), 1), (10, .if_icmp .lt 11, 3), (13, .iload_n 2, 1), (14, .aload_n 0, 1), (15, .getfield 164, 3)],
  [(18, .if_icmp .lt 5, 3), (21, .iconst 0, 1), (22, .ireturn, 1), (23, .aload_n 0, 1), (24, .getfield 48, 3), (27, .getfield 129, 3), (30, .iload_n 1, 1), (31, .iload_n 2, 1)],
  [(32, .iastore, 1), (33, .iconst 1, 1), (34, .ireturn, 1)]]
set_option maxRecDepth 100000 in
theorem cd113_ok : ∀ ch ∈ cd113, ∀ e ∈ ch, decode (byAt 767) e.1 = .ok (e.2.1, e.2.2) := by decide +kernel
def cd114 : PC := [[(0, .aload_n 0, 1), (1, .iload_n 1, 1), (2, .invokevirtual 122, 3), (5, .ifCond .ne 5, 3), (8, .iconst (-1), 1), (9, .ireturn, 1), (10, .iload_n 2, 1), (11, .bipush 99, 2), (13, .if_icmp .eq 16, 3)],
  [(16, .aload_n 0, 1), (17, .getfield 19, 3), (20, .iload_n 2, 1), (21, .invokevirtual 167, 3), (24, .ifCond .ne 5, 3), (27, .iconst (-1), 1), (28, .ireturn, 1), (29, .aload_n 0, 1), (30, .getfield 19, 3)],
  [(33, .iload_n 1, 1), (34, .iload_n 2, 1), (35, .invokevirtual 170, 3), (38, .ifCond .eq 7, 3), (41, .iconst 1, 1), (42, .goto 4, 3), (45, .iconst 0, 1), (46, .ireturn, 1)]]
set_option maxRecDepth 100000 in
theorem cd114_ok : ∀ ch ∈ cd114, ∀ e ∈ ch, decode (byAt 775) e.1 = .ok (e.2.1, e.2.2) := by decide +kernel
def cd115 : PC := [[(0, .aload_n 0, 1), (1, .iload_n 2, 1), (2, .invokevirtual 122, 3), (5, .ifCond .eq 20, 3), (8, .iload_n 3, 1), (9, .ifCond .lt 16, 3), (12, .iload_n 3, 1), (13, .iconst 3, 1), (14, .if_icmp .gt 11, 3)],
  [(17, .aload_n 0, 1), (18, .iload_n 1, 1), (19, .invokevirtual 174, 3), (22, .ifCond .ne 6, 3), (25, .ldc 177, 2), (27, .ireturn, 1), (28, .iload_n 3, 1), (29, .tableswitch 68 0 2 #[27, 37, 43], 27)],
  [],
  [(56, .aload_n 0, 1), (57, .getfield 60, 3), (60, .getfield 178, 3), (63, .iload_n 2, 1)],
  [(64, .iaload, 1), (65, .ireturn, 1), (66, .aload_n 0, 1), (67, .iload_n 2, 1), (68, .invokevirtual 179, 3), (71, .ireturn, 1), (72, .aload_n 0, 1), (73, .getfield 60, 3), (76, .iload_n 2, 1), (77, .invokevirtual 182, 3)],
  [(80, .ifCond .eq 7, 3), (83, .iconst (-1), 1), (84, .goto 12, 3), (87, .aload_n 0, 1), (88, .getfield 60, 3), (91, .getfield 185, 3), (94, .iload_n 2, 1), (95, .iaload, 1)],
  [(96, .ireturn, 1), (97, .aload_n 0, 1), (98, .getfield 60, 3), (101, .iload_n 2, 1), (102, .invokevirtual 182, 3), (105, .ifCond .eq 7, 3), (108, .iconst (-1), 1), (109, .goto 12, 3)],
  [(112, .aload_n 0, 1), (113, .getfield 60, 3), (116, .getfield 188, 3), (119, .iload_n 2, 1), (120, .iaload, 1), (121, .ireturn, 1)]]
set_option maxRecDepth 100000 in
theorem cd115_ok : ∀ ch ∈ cd115, ∀ e ∈ ch, decode (byAt 792) e.1 = .ok (e.2.1, e.2.2) := by decide +kernel
def cd116 : PC := [[(0, .aload_n 0, 1), (1, .iload_n 2, 1), (2, .iconst 1, 1), (3, .isub, 1), (4, .invokevirtual 142, 3), (7, .istore_n 3, 1), (8, .iload_n 2, 1), (9, .ifCond .eq 16, 3), (12, .iload_n 2, 1), (13, .bipush 9, 2), (15, .if_icmp .eq 10, 3)],
  [(18, .iload_n 3, 1), (19, .ifCond .ne 6, 3), (22, .ldc 177, 2), (24, .ireturn, 1), (25, .aload_n 0, 1), (26, .iload_n 1, 1), (27, .invokevirtual 174, 3), (30, .ifCond .ne 6, 3)],
  [(33, .ldc 177, 2), (35, .ireturn, 1), (36, .iload_n 2, 1), (37, .ifCond .ne 11, 3), (40, .aload_n 0, 1), (41, .getfield 60, 3), (44, .getfield 191, 3), (47, .ireturn, 1)],
  [(48, .iload_n 3, 1), (49, .ifCond .eq 16, 3), (52, .aload_n 0, 1), (53, .getfield 60, 3), (56, .iload_n 2, 1), (57, .iconst 1, 1), (58, .isub, 1), (59, .invokevirtual 194, 3), (62, .goto 10, 3)],
  [(65, .aload_n 0, 1), (66, .getfield 60, 3), (69, .invokevirtual 197, 3), (72, .ireturn, 1)]]
set_option maxRecDepth 100000 in
theorem cd116_ok : ∀ ch ∈ cd116, ∀ e ∈ ch, decode (byAt 882) e.1 = .ok (e.2.1, e.2.2) := by decide +kernel
def cd117 : PC := [[(0, .iload_n 3, 1), (1, .ifCond .lt 31, 3), (4, .iload_n 3, 1), (5, .iconst 2, 1), (6, .if_icmp .gt 26, 3), (9, .aload_n 0, 1), (10, .iload_n 1, 1), (11, .invokevirtual 174, 3), (14, .ifCond .eq 18, 3)],
  [(17, .iload_n 2, 1), (18, .ifCond .lt 14, 3), (21, .iload_n 2, 1), (22, .aload_n 0, 1), (23, .getfield 60, 3), (26, .getfield 191, 3), (29, .if_icmp .lt 6, 3)],
  [(32, .ldc 177, 2), (34, .ireturn, 1), (35, .iload_n 3, 1), (36, .lookupswitch 48 #[(0, 28), (1, 38)], 28)],
  [],
  [(64, .aload_n 0, 1), (65, .getfield 60, 3), (68, .getfield 200, 3), (71, .iload_n 2, 1), (72, .iaload, 1), (73, .ireturn, 1), (74, .aload_n 0, 1), (75, .getfield 60, 3), (78, .getfield 203, 3)],
  [(81, .iload_n 2, 1), (82, .iaload, 1), (83, .ireturn, 1), (84, .aload_n 0, 1), (85, .getfield 60, 3), (88, .getfield 206, 3), (91, .iload_n 2, 1), (92, .iaload, 1), (93, .ireturn, 1)]]
set_option maxRecDepth 100000 in
theorem cd117_ok : ∀ ch ∈ cd117, ∀ e ∈ ch, decode (byAt 894) e.1 = .ok (e.2.1, e.2.2) := by decide +kernel
def cd118 : PC := [[(0, .aload_n 0, 1), (1, .iload_n 2, 1), (2, .invokevirtual 122, 3), (5, .ifCond .eq 20, 3), (8, .iload_n 3, 1), (9, .ifCond .lt 16, 3), (12, .iload_n 3, 1), (13, .iconst 1, 1), (14, .if_icmp .gt 11, 3)],
  [(17, .aload_n 0, 1), (18, .iload_n 1, 1), (19, .invokevirtual 209, 3), (22, .ifCond .ne 6, 3), (25, .ldc 177, 2), (27, .ireturn, 1), (28, .bipush 99, 2), (30, .istore 4, 2)],
  [(32, .aload_n 0, 1), (33, .getfield 48, 3), (36, .getfield 152, 3), (39, .iconst 1, 1), (40, .iaload, 1), (41, .istore 5, 2), (43, .iconst 0, 1), (44, .istore 6, 2), (46, .iconst 0, 1), (47, .istore 7, 2)],
  [(49, .iload 7, 2), (51, .bipush 99, 2), (53, .if_icmp .gt 71, 3), (56, .aload_n 0, 1), (57, .getfield 19, 3), (60, .iload_n 2, 1), (61, .iload 7, 2), (63, .invokevirtual 170, 3)],
  [(66, .ifCond .eq 52, 3), (69, .aload_n 0, 1), (70, .getfield 89, 3), (73, .iload_n 2, 1), (74, .iload 7, 2), (76, .iastore, 1), (77, .aload_n 0, 1), (78, .getfield 60, 3)],
  [(81, .aload_n 0, 1), (82, .getfield 89, 3), (85, .invokevirtual 212, 3), (88, .aload_n 0, 1), (89, .iload_n 2, 1), (90, .invokevirtual 179, 3), (93, .istore 8, 2), (95, .iload 6, 2)],
  [(97, .ifCond .eq 10, 3), (100, .iload 8, 2), (102, .iload 5, 2), (104, .if_icmp .le 14, 3), (107, .iload 7, 2), (109, .istore 4, 2), (111, .iload 8, 2)],
  [(113, .istore 5, 2), (115, .iconst 1, 1), (116, .istore 6, 2), (118, .iinc 7 1, 3), (121, .goto (-72), 3), (124, .iload_n 3, 1), (125, .ifCond .ne 8, 3)],
  [(128, .iload 4, 2), (130, .goto 5, 3), (133, .iload 5, 2), (135, .ireturn, 1)]]
set_option maxRecDepth 100000 in
theorem cd118_ok : ∀ ch ∈ cd118, ∀ e ∈ ch, decode (byAt 898) e.1 = .ok (e.2.1, e.2.2) := by decide +kernel
def cd119 : PC := [[(0, .aload_n 0, 1), (1, .getfield 19, 3), (4, .invokevirtual 148, 3), (7, .ifCond .ne 5, 3), (10, .iconst (-1), 1), (11, .ireturn, 1), (12, .aload_n 0, 1), (13, .getfield 78, 3)],
  [(16, .invokevirtual 216, 3), (19, .aload_n 0, 1), (20, .getfield 69, 3), (23, .ldc 219, 2), (25, .iload_n 1, 1), (26, .invokevirtual 220, 3), (29, .ireturn, 1)]]
set_option maxRecDepth 100000 in
theorem cd119_ok : ∀ ch ∈ cd119, ∀ e ∈ ch, decode (byAt 902) e.1 = .ok (e.2.1, e.2.2) := by decide +kernel
def cd120 : PC := [[(0, .aload_n 0, 1), (1, .getfield 19, 3), (4, .invokevirtual 148, 3), (7, .ifCond .eq 12, 3), (10, .iload_n 1, 1), (11, .ifCond .lt 8, 3), (14, .iload_n 1, 1), (15, .iconst 1, 1)],
  [(16, .if_icmp .le 5, 3), (19, .iconst (-1), 1), (20, .ireturn, 1), (21, .aload_n 0, 1), (22, .getfield 69, 3), (25, .invokevirtual 224, 3), (28, .iload_n 1, 1), (29, .ifCond .ne 20, 3)],
  [(32, .aload_n 0, 1), (33, .getfield 69, 3), (36, .aload_n 0, 1), (37, .getfield 69, 3), (40, .getfield 225, 3), (43, .invokevirtual 228, 3), (46, .goto 10, 3)],
  [(49, .aload_n 0, 1), (50, .getfield 69, 3), (53, .invokevirtual 231, 3), (56, .ireturn, 1)]]
set_option maxRecDepth 100000 in
theorem cd120_ok : ∀ ch ∈ cd120, ∀ e ∈ ch, decode (byAt 971) e.1 = .ok (e.2.1, e.2.2) := by decide +kernel
def cd121 : PC := [[(0, .aload_n 0, 1), (1, .getfield 19, 3), (4, .invokevirtual 148, 3), (7, .ifCond .ne 6, 3), (10, .ldc 177, 2), (12, .ireturn, 1), (13, .aload_n 0, 1), (14, .getfield 78, 3)],
  [(17, .invokevirtual 234, 3), (20, .istore_n 1, 1), (21, .iload_n 1, 1), (22, .iconst (-1), 1), (23, .if_icmp .ne 8, 3), (26, .ldc 177, 2), (28, .goto 12, 3), (31, .aload_n 0, 1)],
  [(32, .getfield 69, 3), (35, .invokevirtual 231, 3), (38, .iload_n 1, 1), (39, .isub, 1), (40, .ireturn, 1)]]
set_option maxRecDepth 100000 in
theorem cd121_ok : ∀ ch ∈ cd121, ∀ e ∈ ch, decode (byAt 985) e.1 = .ok (e.2.1, e.2.2) := by decide +kernel
def cd122 : PC := [[(0, .aload_n 0, 1), (1, .getfield 19, 3), (4, .invokevirtual 148, 3), (7, .ifCond .eq 12, 3), (10, .iload_n 1, 1), (11, .ifCond .lt 8, 3), (14, .iload_n 1, 1), (15, .iconst 1, 1)],
  [(16, .if_icmp .le 5, 3), (19, .iconst (-1), 1), (20, .ireturn, 1), (21, .aload_n 0, 1), (22, .getfield 78, 3), (25, .invokevirtual 237, 3), (28, .iload_n 1, 1), (29, .ifCond .ne 13, 3)],
  [(32, .aload_n 0, 1), (33, .getfield 78, 3), (36, .getfield 240, 3), (39, .goto 10, 3), (42, .aload_n 0, 1), (43, .getfield 78, 3), (46, .getfield 243, 3)],
  [(49, .ireturn, 1)]]
set_option maxRecDepth 100000 in
theorem cd122_ok : ∀ ch ∈ cd122, ∀ e ∈ ch, decode (byAt 996) e.1 = .ok (e.2.1, e.2.2) := by decide +kernel
def cd123 : PC := [[(0, .aload_n 0, 1), (1, .getfield 19, 3), (4, .invokevirtual 148, 3), (7, .ifCond .ne 5, 3), (10, .iconst (-1), 1), (11, .ireturn, 1), (12, .aload_n 0, 1), (13, .getfield 78, 3)],
  [(16, .invokevirtual 246, 3), (19, .ireturn, 1)]]
set_option maxRecDepth 100000 in
theorem cd123_ok : ∀ ch ∈ cd123, ∀ e ∈ ch, decode (byAt 1008) e.1 = .ok (e.2.1, e.2.2) := by decide +kernel
def cd124 : PC := [[(0, .aload_n 0, 1), (1, .getfield 19, 3), (4, .invokevirtual 148, 3), (7, .ifCond .ne 5, 3), (10, .iconst (-1), 1), (11, .ireturn, 1), (12, .iconst 0, 1), (13, .istore_n 1, 1), (14, .iconst 0, 1), (15, .istore_n 2, 1)],
  [(16, .iload_n 2, 1), (17, .aload_n 0, 1), (18, .getfield 19, 3), (21, .getfield 249, 3), (24, .if_icmp .ge 32, 3), (27, .aload_n 0, 1), (28, .getfield 89, 3), (31, .iload_n 2, 1)],
  [(32, .aload_n 0, 1), (33, .iload_n 2, 1), (34, .invokevirtual 252, 3), (37, .iastore, 1), (38, .iload_n 1, 1), (39, .bipush 100, 2), (41, .imul, 1), (42, .aload_n 0, 1), (43, .getfield 89, 3), (46, .iload_n 2, 1), (47, .iaload, 1)],
  [(48, .iadd, 1), (49, .istore_n 1, 1), (50, .iinc 2 1, 3), (53, .goto (-37), 3), (56, .iload_n 1, 1), (57, .ireturn, 1)]]
set_option maxRecDepth 100000 in
theorem cd124_ok : ∀ ch ∈ cd124, ∀ e ∈ ch, decode (byAt 1017) e.1 = .ok (e.2.1, e.2.2) := by decide +kernel
def cd125 : PC := [[(0, .iload_n 1, 1), (1, .ifCond .ne 26, 3), (4, .iload_n 2, 1), (5, .ifCond .lt 22, 3), (8, .iload_n 2, 1), (9, .bipush 6, 2), (11, .if_icmp .ge 16, 3), (14, .iload_n 3, 1), (15, .ifCond .lt 12, 3)],
  [(18, .iload_n 3, 1), (19, .iconst 1, 1), (20, .if_icmp .gt 7, 3), (23, .iconst 1, 1), (24, .goto 4, 3), (27, .iconst 0, 1), (28, .istore 4, 2), (30, .iload_n 1, 1), (31, .iconst 1, 1)],
  [(32, .if_icmp .ne 25, 3), (35, .aload_n 0, 1), (36, .iload_n 2, 1), (37, .invokevirtual 142, 3), (40, .ifCond .eq 17, 3), (43, .iload_n 3, 1), (44, .ifCond .lt 13, 3), (47, .iload_n 3, 1)],
  [(48, .bipush 9, 2), (50, .if_icmp .gt 7, 3), (53, .iconst 1, 1), (54, .goto 4, 3), (57, .iconst 0, 1), (58, .istore 5, 2), (60, .aload_n 0, 1), (61, .getfield 19, 3)],
  [(64, .invokevirtual 148, 3), (67, .ifCond .eq 25, 3), (70, .iload 4, 2), (72, .ifCond .ne 8, 3), (75, .iload 5, 2), (77, .ifCond .eq 15, 3)],
  [(80, .aload_n 0, 1), (81, .getfield 48, 3), (84, .getfield 255, 3), (87, .bipush 10, 2), (89, .if_icmp .lt 5, 3), (92, .iconst (-1), 1), (93, .ireturn, 1), (94, .aload_n 0, 1), (95, .getfield 48, 3)],
  [(98, .iload_n 1, 1), (99, .iload_n 2, 1), (100, .iload_n 3, 1), (101, .invokevirtual 258, 3), (104, .aload_n 0, 1), (105, .getfield 85, 3), (108, .invokevirtual 262, 3), (111, .aload_n 0, 1)],
  [(112, .getfield 48, 3), (115, .getfield 255, 3), (118, .ireturn, 1)]]
set_option maxRecDepth 100000 in
theorem cd125_ok : ∀ ch ∈ cd125, ∀ e ∈ ch, decode (byAt 1062) e.1 = .ok (e.2.1, e.2.2) := by decide +kernel
def cd126 : PC := [[(0, .aload_n 0, 1), (1, .getfield 19, 3), (4, .invokevirtual 148, 3), (7, .ifCond .ne 5, 3), (10, .iconst (-1), 1), (11, .ireturn, 1), (12, .aload_n 0, 1), (13, .getfield 85, 3)],
  [(16, .invokevirtual 263, 3), (19, .aload_n 0, 1), (20, .getfield 69, 3), (23, .ldc_w 264, 3), (26, .iload_n 1, 1), (27, .invokevirtual 220, 3), (30, .ireturn, 1)]]
set_option maxRecDepth 100000 in
theorem cd126_ok : ∀ ch ∈ cd126, ∀ e ∈ ch, decode (byAt 1070) e.1 = .ok (e.2.1, e.2.2) := by decide +kernel
def cd127 : PC := [[(0, .aload_n 0, 1), (1, .getfield 19, 3), (4, .invokevirtual 148, 3), (7, .ifCond .ne 5, 3), (10, .iconst (-1), 1), (11, .ireturn, 1), (12, .aload_n 0, 1), (13, .getfield 85, 3)],
  [(16, .invokevirtual 263, 3), (19, .aload_n 0, 1), (20, .getfield 85, 3), (23, .getfield 265, 3), (26, .ireturn, 1)]]
set_option maxRecDepth 100000 in
theorem cd127_ok : ∀ ch ∈ cd127, ∀ e ∈ ch, decode (byAt 1101) e.1 = .ok (e.2.1, e.2.2) := by decide +kernel
def cd128 : PC := [[(0, .aload_n 0, 1), (1, .iload_n 1, 1), (2, .invokevirtual 122, 3), (5, .ifCond .eq 16, 3), (8, .aload_n 0, 1), (9, .iload_n 2, 1), (10, .invokevirtual 122, 3), (13, .ifCond .eq 8, 3)],
  [(16, .iload_n 1, 1), (17, .iload_n 2, 1), (18, .if_icmp .ne 5, 3), (21, .iconst (-1), 1), (22, .ireturn, 1), (23, .aload_n 0, 1), (24, .getfield 19, 3), (27, .aload_n 0, 1), (28, .getfield 19, 3), (31, .getfield 138, 3)],
  [(34, .iload_n 1, 1), (35, .aaload, 1), (36, .iconst 1, 1), (37, .iaload, 1), (38, .aload_n 0, 1), (39, .getfield 19, 3), (42, .getfield 138, 3), (45, .iload_n 2, 1), (46, .aaload, 1), (47, .iconst 1, 1)],
  [(48, .iaload, 1), (49, .iadd, 1), (50, .iconst 1, 1), (51, .isub, 1), (52, .invokevirtual 268, 3), (55, .ireturn, 1)]]
set_option maxRecDepth 100000 in
theorem cd128_ok : ∀ ch ∈ cd128, ∀ e ∈ ch, decode (byAt 1105) e.1 = .ok (e.2.1, e.2.2) := by decide +kernel
def cd129 : PC := [[(0, .aload_n 0, 1), (1, .iload_n 1, 1), (2, .invokevirtual 122, 3), (5, .ifCond .ne 5, 3), (8, .iconst (-1), 1), (9, .ireturn, 1), (10, .aload_n 0, 1), (11, .getfield 19, 3), (14, .aload_n 0, 1), (15, .getfield 19, 3)],
  [(18, .getfield 138, 3), (21, .iload_n 1, 1), (22, .aaload, 1), (23, .iconst 1, 1), (24, .iaload, 1), (25, .invokevirtual 268, 3), (28, .ireturn, 1)]]
set_option maxRecDepth 100000 in
theorem cd129_ok : ∀ ch ∈ cd129, ∀ e ∈ ch, decode (byAt 1113) e.1 = .ok (e.2.1, e.2.2) := by decide +kernel
def cd130 : PC := [[(0, .aload_n 0, 1), (1, .iload_n 1, 1), (2, .invokevirtual 122, 3), (5, .ifCond .eq 12, 3), (8, .iload_n 2, 1), (9, .ifCond .lt 8, 3), (12, .iload_n 2, 1), (13, .iconst 1, 1), (14, .if_icmp .le 5, 3)],
  [(17, .iconst (-1), 1), (18, .ireturn, 1), (19, .iconst 0, 1), (20, .istore_n 3, 1), (21, .iload_n 3, 1), (22, .iconst 3, 1), (23, .if_icmp .ge 17, 3), (26, .aload_n 0, 1), (27, .getfield 89, 3), (30, .iload_n 3, 1), (31, .bipush 99, 2)],
  [(33, .iastore, 1), (34, .iinc 3 1, 3), (37, .goto (-16), 3), (40, .bipush 99, 2), (42, .istore_n 3, 1), (43, .iconst 0, 1), (44, .istore 4, 2), (46, .iconst 0, 1), (47, .istore 5, 2)],
  [(49, .iload 5, 2), (51, .bipush 99, 2), (53, .if_icmp .ge 71, 3), (56, .aload_n 0, 1), (57, .getfield 19, 3), (60, .iload_n 1, 1), (61, .iload 5, 2), (63, .invokevirtual 170, 3)],
  [(66, .ifCond .eq 52, 3), (69, .aload_n 0, 1), (70, .getfield 89, 3), (73, .iload_n 1, 1), (74, .iload 5, 2), (76, .iastore, 1), (77, .aload_n 0, 1), (78, .getfield 60, 3)],
  [(81, .aload_n 0, 1), (82, .getfield 89, 3), (85, .invokevirtual 212, 3), (88, .iload_n 3, 1), (89, .bipush 99, 2), (91, .if_icmp .eq 15, 3), (94, .aload_n 0, 1), (95, .getfield 60, 3)],
  [(98, .getfield 191, 3), (101, .iload 4, 2), (103, .if_icmp .le 15, 3), (106, .iload 5, 2), (108, .istore_n 3, 1), (109, .aload_n 0, 1), (110, .getfield 60, 3)],
  [(113, .getfield 191, 3), (116, .istore 4, 2), (118, .iinc 5 1, 3), (121, .goto (-72), 3), (124, .iload_n 2, 1), (125, .ifCond .ne 8, 3)],
  [(128, .iload 4, 2), (130, .goto 4, 3), (133, .iload_n 3, 1), (134, .ireturn, 1)]]
set_option maxRecDepth 100000 in
theorem cd130_ok : ∀ ch ∈ cd130, ∀ e ∈ ch, decode (byAt 1117) e.1 = .ok (e.2.1, e.2.2) := by decide +kernel
def cd131 : PC := [[(0, .aload_n 0, 1), (1, .iload_n 1, 1), (2, .invokevirtual 174, 3), (5, .ifCond .ne 5, 3), (8, .iconst (-1), 1), (9, .ireturn, 1), (10, .aload_n 0, 1), (11, .invokevirtual 271, 3), (14, .aload_n 0, 1), (15, .getfield 48, 3)],
  [(18, .getfield 274, 3), (21, .ireturn, 1)]]
set_option maxRecDepth 100000 in
theorem cd131_ok : ∀ ch ∈ cd131, ∀ e ∈ ch, decode (byAt 1121) e.1 = .ok (e.2.1, e.2.2) := by decide +kernel
def cd132 : PC := [[(0, .aload_n 0, 1), (1, .getfield 19, 3), (4, .invokevirtual 148, 3), (7, .ifCond .eq 14, 3), (10, .iload_n 1, 1), (11, .iconst 1, 1), (12, .if_icmp .lt 9, 3), (15, .iload_n 1, 1)],
  [(16, .bipush 40, 2), (18, .if_icmp .le 5, 3), (21, .iconst (-1), 1), (22, .ireturn, 1), (23, .lload_n 2, 1), (24, .lstore 4, 2), (26, .iconst 0, 1), (27, .istore 6, 2), (29, .iload 6, 2), (31, .iload_n 1, 1)],
  [(32, .if_icmp .ge 80, 3), (35, .iconst 0, 1), (36, .istore 7, 2), (38, .iload 7, 2), (40, .aload_n 0, 1), (41, .getfield 19, 3), (44, .getfield 249, 3), (47, .if_icmp .ge 44, 3)],
  [(50, .lload 4, 2), (52, .ldc2_w 277, 3), (55, .lmul, 1), (56, .ldc2_w 279, 3), (59, .ladd, 1), (60, .lstore 4, 2), (62, .aload_n 0, 1), (63, .getfield 89, 3)],
  [(66, .iload 7, 2), (68, .aload_n 0, 1), (69, .iload 7, 2), (71, .lload 4, 2), (73, .bipush 33, 2), (75, .lushr, 1), (76, .ldc2_w 281, 3), (79, .lrem, 1)],
  [(80, .l2i, 1), (81, .invokevirtual 283, 3), (84, .iastore, 1), (85, .iinc 7 1, 3), (88, .goto (-50), 3), (91, .aload_n 0, 1), (92, .getfield 60, 3), (95, .aload_n 0, 1)],
  [(96, .getfield 89, 3), (99, .invokevirtual 212, 3), (102, .aload_n 0, 1), (103, .invokevirtual 271, 3), (106, .iinc 6 1, 3), (109, .goto (-80), 3)],
  [(112, .aload_n 0, 1), (113, .getfield 48, 3), (116, .getfield 274, 3), (119, .ireturn, 1)]]
set_option maxRecDepth 100000 in
theorem cd132_ok : ∀ ch ∈ cd132, ∀ e ∈ ch, decode (byAt 1145) e.1 = .ok (e.2.1, e.2.2) := by decide +kernel
def cd133 : PC := [[(0, .aload_n 0, 1), (1, .getfield 48, 3), (4, .getfield 286, 3), (7, .ifCond .gt 5, 3), (10, .iconst (-1), 1), (11, .ireturn, 1), (12, .aload_n 0, 1), (13, .getfield 48, 3)],
  [(16, .invokevirtual 289, 3), (19, .aload_n 0, 1), (20, .getfield 48, 3), (23, .getfield 274, 3), (26, .ireturn, 1)]]
set_option maxRecDepth 100000 in
theorem cd133_ok : ∀ ch ∈ cd133, ∀ e ∈ ch, decode (byAt 1156) e.1 = .ok (e.2.1, e.2.2) := by decide +kernel
def cd134 : PC := [[(0, .aload_n 0, 1), (1, .getfield 19, 3), (4, .invokevirtual 148, 3), (7, .ifCond .ne 5, 3), (10, .iconst (-1), 1), (11, .ireturn, 1), (12, .aload_n 0, 1), (13, .getfield 52, 3)],
  [(16, .aload_n 0, 1), (17, .getfield 48, 3), (20, .invokevirtual 292, 3), (23, .aload_n 0, 1), (24, .iconst 1, 1), (25, .putfield 296, 3), (28, .aload_n 0, 1), (29, .getfield 48, 3)],
  [(32, .getfield 274, 3), (35, .ireturn, 1)]]
set_option maxRecDepth 100000 in
theorem cd134_ok : ∀ ch ∈ cd134, ∀ e ∈ ch, decode (byAt 1164) e.1 = .ok (e.2.1, e.2.2) := by decide +kernel
def cd135 : PC := [[(0, .aload_n 0, 1), (1, .getfield 296, 3), (4, .ifCond .ne 5, 3), (7, .iconst (-1), 1), (8, .ireturn, 1), (9, .aload_n 0, 1), (10, .getfield 48, 3), (13, .aload_n 0, 1), (14, .getfield 52, 3)],
  [(17, .invokevirtual 292, 3), (20, .aload_n 0, 1), (21, .getfield 78, 3), (24, .invokevirtual 161, 3), (27, .aload_n 0, 1), (28, .getfield 85, 3), (31, .invokevirtual 262, 3)],
  [(34, .aload_n 0, 1), (35, .getfield 48, 3), (38, .getfield 274, 3), (41, .ireturn, 1)]]
set_option maxRecDepth 100000 in
theorem cd135_ok : ∀ ch ∈ cd135, ∀ e ∈ ch, decode (byAt 1172) e.1 = .ok (e.2.1, e.2.2) := by decide +kernel
def cd136 : PC := [[(0, .iload_n 1, 1), (1, .tableswitch 108 0 7 #[47, 55, 63, 68, 76, 84, 92, 100], 47)],
  [],
  [],
  [(48, .aload_n 0, 1), (49, .getfield 19, 3), (52, .getfield 249, 3), (55, .ireturn, 1), (56, .aload_n 0, 1), (57, .getfield 19, 3), (60, .getfield 300, 3), (63, .ireturn, 1)],
  [(64, .aload_n 0, 1), (65, .getfield 164, 3), (68, .ireturn, 1), (69, .aload_n 0, 1), (70, .getfield 10, 3), (73, .getfield 103, 3), (76, .ireturn, 1), (77, .aload_n 0, 1), (78, .getfield 48, 3)],
  [(81, .getfield 274, 3), (84, .ireturn, 1), (85, .aload_n 0, 1), (86, .getfield 48, 3), (89, .getfield 286, 3), (92, .ireturn, 1), (93, .aload_n 0, 1), (94, .getfield 48, 3)],
  [(97, .invokevirtual 303, 3), (100, .ireturn, 1), (101, .aload_n 0, 1), (102, .getfield 48, 3), (105, .getfield 255, 3), (108, .ireturn, 1), (109, .ldc 177, 2), (111, .ireturn, 1)]]
set_option maxRecDepth 100000 in
theorem cd136_ok : ∀ ch ∈ cd136, ∀ e ∈ ch, decode (byAt 1176) e.1 = .ok (e.2.1, e.2.2) := by decide +kernel
def cd137 : PC := [[(0, .aload_n 0, 1), (1, .getfield 28, 3), (4, .invokevirtual 111, 3), (7, .iconst (-1), 1), (8, .if_icmp .eq 5, 3), (11, .iconst (-1), 1), (12, .ireturn, 1), (13, .aload_n 0, 1), (14, .getfield 19, 3)],
  [(17, .aload_n 0, 1), (18, .getfield 28, 3), (21, .getfield 306, 3), (24, .invokevirtual 309, 3), (27, .aload_n 0, 1), (28, .getfield 10, 3), (31, .iconst 0, 1)],
  [(32, .putfield 103, 3), (35, .aload_n 0, 1), (36, .getfield 48, 3), (39, .aload_n 0, 1), (40, .getfield 19, 3), (43, .getfield 311, 3), (46, .invokevirtual 312, 3)],
  [(49, .aload_n 0, 1), (50, .iconst 0, 1), (51, .putfield 296, 3), (54, .aload_n 0, 1), (55, .getfield 69, 3), (58, .invokevirtual 315, 3), (61, .aload_n 0, 1), (62, .getfield 78, 3)],
  [(65, .invokevirtual 161, 3), (68, .aload_n 0, 1), (69, .getfield 85, 3), (72, .invokevirtual 262, 3), (75, .aload_n 0, 1), (76, .getfield 19, 3), (79, .getfield 249, 3)],
  [(82, .ireturn, 1)]]
set_option maxRecDepth 100000 in
theorem cd137_ok : ∀ ch ∈ cd137, ∀ e ∈ ch, decode (byAt 709) e.1 = .ok (e.2.1, e.2.2) := by decide +kernel
def cd138 : PC := [[(0, .aload_n 0, 1), (1, .getfield 164, 3), (4, .iconst 4, 1), (5, .if_icmp .ge 14, 3), (8, .aload_n 0, 1), (9, .getfield 35, 3), (12, .invokevirtual 115, 3), (15, .iconst (-1), 1)],
  [(16, .if_icmp .eq 5, 3), (19, .iconst (-1), 1), (20, .ireturn, 1), (21, .aload_n 0, 1), (22, .getfield 41, 3), (25, .aload_n 0, 1), (26, .getfield 164, 3), (29, .aload_n 0, 1), (30, .getfield 35, 3)],
  [(33, .getfield 316, 3), (36, .invokevirtual 319, 3), (39, .aastore, 1), (40, .aload_n 0, 1), (41, .dup, 1), (42, .getfield 164, 3), (45, .iconst 1, 1), (46, .iadd, 1), (47, .putfield 164, 3)],
  [(50, .aload_n 0, 1), (51, .getfield 10, 3), (54, .iconst 0, 1), (55, .putfield 103, 3), (58, .aload_n 0, 1), (59, .getfield 164, 3), (62, .iconst 1, 1), (63, .isub, 1)],
  [(64, .ireturn, 1)]]
set_option maxRecDepth 100000 in
theorem cd138_ok : ∀ ch ∈ cd138, ∀ e ∈ ch, decode (byAt 734) e.1 = .ok (e.2.1, e.2.2) := by decide +kernel
def cd139 : PC := [[(0, .iload_n 1, 1), (1, .ifCond .lt 18, 3), (4, .iload_n 1, 1), (5, .aload_n 0, 1), (6, .getfield 19, 3), (9, .getfield 249, 3), (12, .if_icmp .ge 7, 3), (15, .iconst 1, 1)],
  [(16, .goto 4, 3), (19, .iconst 0, 1), (20, .ireturn, 1)]]
set_option maxRecDepth 100000 in
theorem cd139_ok : ∀ ch ∈ cd139, ∀ e ∈ ch, decode (byAt 771) e.1 = .ok (e.2.1, e.2.2) := by decide +kernel
def cd140 : PC := [[(0, .iload_n 1, 1), (1, .ifCond .lt 18, 3), (4, .iload_n 1, 1), (5, .aload_n 0, 1), (6, .getfield 19, 3), (9, .getfield 300, 3), (12, .if_icmp .ge 7, 3), (15, .iconst 1, 1)],
  [(16, .goto 4, 3), (19, .iconst 0, 1), (20, .ireturn, 1)]]
set_option maxRecDepth 100000 in
theorem cd140_ok : ∀ ch ∈ cd140, ∀ e ∈ ch, decode (byAt 749) e.1 = .ok (e.2.1, e.2.2) := by decide +kernel
def cd141 : PC := [[(0, .aload_n 0, 1), (1, .getfield 19, 3), (4, .invokevirtual 148, 3), (7, .ifCond .eq 7, 3), (10, .iload_n 1, 1), (11, .ifCond .ge 5, 3), (14, .iconst 0, 1), (15, .ireturn, 1)],
  [(16, .iload_n 1, 1), (17, .istore_n 2, 1), (18, .aload_n 0, 1), (19, .getfield 19, 3), (22, .getfield 249, 3), (25, .iconst 1, 1), (26, .isub, 1), (27, .istore_n 3, 1), (28, .iload_n 3, 1), (29, .ifCond .lt 43, 3)],
  [(32, .aload_n 0, 1), (33, .getfield 89, 3), (36, .iload_n 3, 1), (37, .iload_n 2, 1), (38, .bipush 100, 2), (40, .irem, 1), (41, .iastore, 1), (42, .iload_n 2, 1), (43, .bipush 100, 2), (45, .idiv, 1), (46, .istore_n 2, 1), (47, .aload_n 0, 1)],
  [(48, .getfield 19, 3), (51, .iload_n 3, 1), (52, .aload_n 0, 1), (53, .getfield 89, 3), (56, .iload_n 3, 1), (57, .iaload, 1), (58, .invokevirtual 170, 3), (61, .ifCond .ne 5, 3)],
  [(64, .iconst 0, 1), (65, .ireturn, 1), (66, .iinc 3 (-1), 3), (69, .goto (-41), 3), (72, .iload_n 2, 1), (73, .ifCond .ne 7, 3), (76, .iconst 1, 1), (77, .goto 4, 3)],
  [(80, .iconst 0, 1), (81, .ireturn, 1)]]
set_option maxRecDepth 100000 in
theorem cd141_ok : ∀ ch ∈ cd141, ∀ e ∈ ch, decode (byAt 800) e.1 = .ok (e.2.1, e.2.2) := by decide +kernel
def cd142 : PC := [[(0, .aload_n 0, 1), (1, .iload_n 1, 1), (2, .invokevirtual 209, 3), (5, .ifCond .ne 5, 3), (8, .iconst 0, 1), (9, .ireturn, 1), (10, .aload_n 0, 1), (11, .getfield 60, 3), (14, .aload_n 0, 1), (15, .getfield 89, 3)],
  [(18, .invokevirtual 212, 3), (21, .iconst 1, 1), (22, .ireturn, 1)]]
set_option maxRecDepth 100000 in
theorem cd142_ok : ∀ ch ∈ cd142, ∀ e ∈ ch, decode (byAt 796) e.1 = .ok (e.2.1, e.2.2) := by decide +kernel
def cd143 : PC := [[(0, .aload_n 0, 1), (1, .getfield 60, 3), (4, .invokevirtual 323, 3), (7, .iload_n 1, 1), (8, .aload_n 0, 1), (9, .getfield 48, 3), (12, .getfield 152, 3), (15, .aload_n 0, 1)],
  [(16, .getfield 48, 3), (19, .getfield 152, 3), (22, .iconst 3, 1), (23, .iaload, 1), (24, .invokestatic 326, 3), (27, .ireturn, 1)]]
set_option maxRecDepth 100000 in
theorem cd143_ok : ∀ ch ∈ cd143, ∀ e ∈ ch, decode (byAt 845) e.1 = .ok (e.2.1, e.2.2) := by decide +kernel
def cd144 : PC := [[(0, .aload_n 0, 1), (1, .getfield 60, 3), (4, .invokevirtual 323, 3), (7, .istore_n 1, 1), (8, .aload_n 0, 1), (9, .getfield 48, 3), (12, .invokevirtual 330, 3), (15, .iconst 0, 1)],
  [(16, .istore_n 2, 1), (17, .iload_n 2, 1), (18, .aload_n 0, 1), (19, .getfield 19, 3), (22, .getfield 249, 3), (25, .if_icmp .ge 47, 3), (28, .aload_n 0, 1), (29, .getfield 48, 3)],
  [(32, .iload_n 2, 1), (33, .aload_n 0, 1), (34, .getfield 60, 3), (37, .getfield 178, 3), (40, .iload_n 2, 1), (41, .iaload, 1), (42, .iload_n 1, 1), (43, .iload_n 2, 1), (44, .aload_n 0, 1), (45, .getfield 48, 3)],
  [(48, .getfield 152, 3), (51, .aload_n 0, 1), (52, .getfield 48, 3), (55, .getfield 152, 3), (58, .iconst 3, 1), (59, .iaload, 1), (60, .invokestatic 326, 3), (63, .invokevirtual 333, 3)],
  [(66, .iinc 2 1, 3), (69, .goto (-52), 3), (72, .return_, 1)]]
set_option maxRecDepth 100000 in
theorem cd144_ok : ∀ ch ∈ cd144, ∀ e ∈ ch, decode (byAt 1125) e.1 = .ok (e.2.1, e.2.2) := by decide +kernel
def cd145 : PC := [[(0, .iload_n 2, 1), (1, .iconst 4, 1), (2, .idiv, 1), (3, .istore_n 3, 1), (4, .iload_n 2, 1), (5, .iconst 4, 1), (6, .irem, 1), (7, .istore 4, 2), (9, .iload_n 3, 1), (10, .bipush 6, 2), (12, .if_icmp .ge 12, 3), (15, .aload_n 0, 1)],
  [(16, .iload 4, 2), (18, .invokevirtual 142, 3), (21, .ifCond .ne 6, 3), (24, .bipush 99, 2), (26, .ireturn, 1), (27, .bipush 10, 2), (29, .iload_n 3, 1), (30, .imul, 1), (31, .iload 4, 2)],
  [(33, .iadd, 1), (34, .istore 5, 2), (36, .aload_n 0, 1), (37, .getfield 19, 3), (40, .iload_n 1, 1), (41, .iload 5, 2), (43, .invokevirtual 170, 3), (46, .ifCond .eq 8, 3)],
  [(49, .iload 5, 2), (51, .goto 5, 3), (54, .bipush 99, 2), (56, .ireturn, 1)]]
set_option maxRecDepth 100000 in
theorem cd145_ok : ∀ ch ∈ cd145, ∀ e ∈ ch, decode (byAt 1152) e.1 = .ok (e.2.1, e.2.2) := by decide +kernel
def cd146 : PC := [[(0, .aload_n 0, 1), (1, .getfield 48, 3), (4, .getfield 129, 3), (7, .iload_n 1, 1), (8, .iaload, 1), (9, .istore_n 2, 1), (10, .iload_n 2, 1), (11, .ifCond .lt 20, 3), (14, .iload_n 2, 1), (15, .aload_n 0, 1)],
  [(16, .getfield 164, 3), (19, .if_icmp .ge 12, 3), (22, .aload_n 0, 1), (23, .getfield 41, 3), (26, .iload_n 2, 1), (27, .aaload, 1), (28, .goto 4, 3), (31, .aconst_null, 1)],
  [(32, .astore_n 3, 1), (33, .aload_n 3, 1), (34, .ifnonnull 6, 3), (37, .bipush 99, 2), (39, .ireturn, 1), (40, .bipush 99, 2), (42, .istore 4, 2), (44, .iconst 0, 1), (45, .istore 5, 2), (47, .iconst 0, 1)],
  [(48, .istore 6, 2), (50, .iload 6, 2), (52, .bipush 99, 2), (54, .if_icmp .ge 54, 3), (57, .aload_n 0, 1), (58, .getfield 19, 3), (61, .iload_n 1, 1), (62, .iload 6, 2)],
  [(64, .invokevirtual 170, 3), (67, .ifCond .eq 35, 3), (70, .aload_n 0, 1), (71, .iload_n 1, 1), (72, .iload 6, 2), (74, .invokevirtual 336, 3), (77, .aload_n 3, 1), (78, .aload_n 0, 1), (79, .getfield 96, 3)],
  [(82, .invokevirtual 340, 3), (85, .istore 7, 2), (87, .iload 7, 2), (89, .iload 5, 2), (91, .if_icmp .le 11, 3), (94, .iload 6, 2)],
  [(96, .istore 4, 2), (98, .iload 7, 2), (100, .istore 5, 2), (102, .iinc 6 1, 3), (105, .goto (-55), 3), (108, .iload 4, 2), (110, .ireturn, 1)]]
set_option maxRecDepth 100000 in
theorem cd146_ok : ∀ ch ∈ cd146, ∀ e ∈ ch, decode (byAt 1021) e.1 = .ok (e.2.1, e.2.2) := by decide +kernel
def cd147 : PC := [[(0, .iload_n 2, 1), (1, .bipush 10, 2), (3, .idiv, 1), (4, .istore_n 3, 1), (5, .iload_n 2, 1), (6, .bipush 10, 2), (8, .irem, 1), (9, .istore 4, 2), (11, .iconst 0, 1), (12, .istore 5, 2), (14, .iconst 0, 1), (15, .istore 6, 2)],
  [(17, .iconst 0, 1), (18, .istore 7, 2), (20, .iload 7, 2), (22, .iload_n 1, 1), (23, .if_icmp .ge 70, 3), (26, .aload_n 0, 1), (27, .getfield 89, 3), (30, .iload 7, 2)],
  [(32, .iaload, 1), (33, .bipush 99, 2), (35, .if_icmp .eq 52, 3), (38, .iload 5, 2), (40, .aload_n 0, 1), (41, .getfield 89, 3), (44, .iload 7, 2), (46, .iaload, 1), (47, .bipush 10, 2)],
  [(49, .irem, 1), (50, .iload 4, 2), (52, .if_icmp .ne 7, 3), (55, .iconst 1, 1), (56, .goto 4, 3), (59, .iconst 0, 1), (60, .iadd, 1), (61, .istore 5, 2), (63, .iload 6, 2)],
  [(65, .aload_n 0, 1), (66, .getfield 89, 3), (69, .iload 7, 2), (71, .iaload, 1), (72, .bipush 10, 2), (74, .idiv, 1), (75, .iload_n 3, 1), (76, .if_icmp .ne 7, 3), (79, .iconst 1, 1)],
  [(80, .goto 4, 3), (83, .iconst 0, 1), (84, .iadd, 1), (85, .istore 6, 2), (87, .iinc 7 1, 3), (90, .goto (-70), 3), (93, .aload_n 0, 1), (94, .getfield 96, 3)],
  [(97, .iconst 0, 1), (98, .iload_n 3, 1), (99, .aload_n 0, 1), (100, .getfield 19, 3), (103, .getfield 145, 3), (106, .iload 4, 2), (108, .aaload, 1), (109, .iconst 0, 1), (110, .iaload, 1), (111, .isub, 1)],
  [(112, .invokestatic 344, 3), (115, .iastore, 1), (116, .aload_n 0, 1), (117, .getfield 96, 3), (120, .iconst 1, 1), (121, .aload_n 0, 1), (122, .getfield 19, 3), (125, .getfield 145, 3)],
  [(128, .iload 4, 2), (130, .aaload, 1), (131, .iconst 1, 1), (132, .iaload, 1), (133, .iastore, 1), (134, .aload_n 0, 1), (135, .getfield 96, 3), (138, .iconst 2, 1), (139, .aload_n 0, 1), (140, .getfield 19, 3), (143, .getfield 145, 3)],
  [(146, .iload 4, 2), (148, .aaload, 1), (149, .iconst 2, 1), (150, .iaload, 1), (151, .iastore, 1), (152, .aload_n 0, 1), (153, .getfield 96, 3), (156, .iconst 3, 1), (157, .aload_n 0, 1), (158, .getfield 19, 3)],
  [(161, .getfield 145, 3), (164, .iload 4, 2), (166, .aaload, 1), (167, .iconst 3, 1), (168, .iaload, 1), (169, .iastore, 1), (170, .aload_n 0, 1), (171, .getfield 96, 3), (174, .iconst 4, 1), (175, .iload 5, 2)],
  [(177, .iastore, 1), (178, .aload_n 0, 1), (179, .getfield 96, 3), (182, .iconst 5, 1), (183, .iload 6, 2), (185, .iastore, 1), (186, .return_, 1)]]
set_option maxRecDepth 100000 in
theorem cd147_ok : ∀ ch ∈ cd147, ∀ e ∈ ch, decode (byAt 1025) e.1 = .ok (e.2.1, e.2.2) := by decide +kernel
def cd148 : PC := [[(0, .aload_n 0, 1), (1, .invokespecial 1, 3), (4, .aload_n 0, 1), (5, .sipush 160, 3), (8, .newarray .byte, 2), (10, .putfield 9, 3), (13, .aload_n 0, 1), (14, .sipush 640, 3)],
  [(17, .newarray .byte, 2), (19, .putfield 13, 3), (22, .aload_n 0, 1), (23, .iconst 4, 1), (24, .newarray .int, 2), (26, .putfield 16, 3), (29, .aload_n 0, 1), (30, .sipush 128, 3)],
  [(33, .newarray .int, 2), (35, .putfield 20, 3), (38, .aload_n 0, 1), (39, .aload_n 0, 1), (40, .getfield 9, 3), (43, .putfield 23, 3), (46, .aload_n 0, 1), (47, .ldc 26, 2)],
  [(49, .putfield 28, 3), (52, .aload_n 0, 1), (53, .ldc 32, 2), (55, .putfield 34, 3), (58, .aload_n 0, 1), (59, .bipush 16, 2), (61, .newarray .int, 2), (63, .putfield 37, 3)],
  [(66, .aload_n 0, 1), (67, .bipush 9, 2), (69, .newarray .int, 2), (71, .putfield 40, 3), (74, .aload_n 0, 1), (75, .iconst 4, 1), (76, .newarray .int, 2), (78, .putfield 43, 3)],
  [(81, .aload_n 0, 1), (82, .bipush 16, 2), (84, .newarray .int, 2), (86, .putfield 46, 3), (89, .aload_n 0, 1), (90, .bipush 9, 2), (92, .newarray .int, 2), (94, .putfield 49, 3)],
  [(97, .aload_n 0, 1), (98, .iconst 4, 1), (99, .newarray .int, 2), (101, .putfield 52, 3), (104, .aload_n 0, 1), (105, .iconst 3, 1), (106, .newarray .int, 2), (108, .putfield 55, 3), (111, .aload_n 0, 1)],
  [(112, .iconst 3, 1), (113, .newarray .int, 2), (115, .putfield 58, 3), (118, .aload_n 0, 1), (119, .iconst 3, 1), (120, .newarray .int, 2), (122, .putfield 61, 3), (125, .aload_n 0, 1), (126, .bipush 75, 2)],
  [(128, .newarray .int, 2), (130, .putfield 64, 3), (133, .aload_n 0, 1), (134, .iconst 3, 1), (135, .newarray .int, 2), (137, .putfield 67, 3), (140, .aload_n 0, 1), (141, .iconst 3, 1), (142, .newarray .int, 2)],
  [(144, .putfield 70, 3), (147, .aload_n 0, 1), (148, .iconst 3, 1), (149, .newarray .int, 2), (151, .putfield 73, 3), (154, .aload_n 0, 1), (155, .iconst 3, 1), (156, .newarray .int, 2), (158, .putfield 76, 3)],
  [(161, .aload_n 0, 1), (162, .iconst 3, 1), (163, .newarray .int, 2), (165, .putfield 79, 3), (168, .aload_n 0, 1), (169, .iconst 3, 1), (170, .newarray .int, 2), (172, .putfield 82, 3), (175, .aload_n 0, 1)],
  [(176, .iconst 4, 1), (177, .newarray .int, 2), (179, .putfield 85, 3), (182, .aload_n 0, 1), (183, .iconst 4, 1), (184, .newarray .int, 2), (186, .putfield 88, 3), (189, .aload_n 0, 1), (190, .bipush 12, 2)],
  [(192, .newarray .int, 2), (194, .putfield 91, 3), (197, .aload_n 0, 1), (198, .bipush 36, 2), (200, .newarray .int, 2), (202, .putfield 94, 3), (205, .aload_n 0, 1), (206, .bipush 36, 2)],
  [(208, .newarray .int, 2), (210, .putfield 97, 3), (213, .aload_n 0, 1), (214, .bipush 36, 2), (216, .newarray .int, 2), (218, .putfield 100, 3), (221, .aload_n 0, 1), (222, .ldc 103, 2)],
  [(224, .newarray .int, 2), (226, .putfield 104, 3), (229, .aload_n 0, 1), (230, .sipush 15625, 3), (233, .newarray .int, 2), (235, .putfield 107, 3), (238, .aload_n 0, 1), (239, .sipush 15625, 3)],
  [(242, .newarray .int, 2), (244, .putfield 110, 3), (247, .aload_n 0, 1), (248, .sipush 15625, 3), (251, .newarray .int, 2), (253, .putfield 113, 3)],
  [(256, .aload_n 0, 1), (257, .bipush 10, 2), (259, .newarray .int, 2), (261, .putfield 116, 3), (264, .aload_n 0, 1), (265, .bipush 10, 2), (267, .newarray .int, 2), (269, .putfield 119, 3)],
  [(272, .aload_n 0, 1), (273, .bipush 10, 2), (275, .newarray .int, 2), (277, .putfield 122, 3), (280, .aload_n 0, 1), (281, .bipush 120, 2), (283, .newarray .int, 2), (285, .putfield 125, 3)],
  [(288, .aload_n 0, 1), (289, .bipush 120, 2), (291, .newarray .int, 2), (293, .putfield 128, 3), (296, .aload_n 0, 1), (297, .sipush 286, 3), (300, .newarray .int, 2), (302, .putfield 131, 3)],
  [(305, .return_, 1)]]
set_option maxRecDepth 100000 in
theorem cd148_ok : ∀ ch ∈ cd148, ∀ e ∈ ch, decode (byAt 1254) e.1 = .ok (e.2.1, e.2.2) := by decide +kernel
def cd149 : PC := [[(0, .aload_n 0, 1), (1, .getfield 134, 3), (4, .ireturn, 1)]]
set_option maxRecDepth 100000 in
theorem cd149_ok : ∀ ch ∈ cd149, ∀ e ∈ ch, decode (byAt 1462) e.1 = .ok (e.2.1, e.2.2) := by decide +kernel
def cd150 : PC := [[(0, .lload_n 0, 1), (1, .lload_n 2, 1), (2, .lcmp, 1), (3, .ifCond .lt 14, 3), (6, .lload_n 0, 1), (7, .lload 4, 2), (9, .lcmp, 1), (10, .ifCond .gt 7, 3), (13, .iconst 1, 1), (14, .goto 4, 3)],
  [(17, .iconst 0, 1), (18, .ireturn, 1)]]
set_option maxRecDepth 100000 in
theorem cd150_ok : ∀ ch ∈ cd150, ∀ e ∈ ch, decode (byAt 1484) e.1 = .ok (e.2.1, e.2.2) := by decide +kernel
def cd151 : PC := [[(0, .iload_n 0, 1), (1, .iload_n 1, 1), (2, .ishr, 1), (3, .iconst 1, 1), (4, .iand, 1), (5, .iconst 1, 1), (6, .if_icmp .ne 7, 3), (9, .iconst 1, 1), (10, .goto 4, 3), (13, .iconst 0, 1), (14, .ireturn, 1)]]
set_option maxRecDepth 100000 in
theorem cd151_ok : ∀ ch ∈ cd151, ∀ e ∈ ch, decode (byAt 1564) e.1 = .ok (e.2.1, e.2.2) := by decide +kernel
def cd152 : PC := [[(0, .iconst 0, 1), (1, .istore_n 2, 1), (2, .iload_n 2, 1), (3, .aload_n 0, 1), (4, .invokevirtual 138, 3), (7, .if_icmp .ge 20, 3), (10, .aload_n 0, 1), (11, .iload_n 2, 1), (12, .invokevirtual 144, 3), (15, .iload_n 1, 1)],
  [(16, .if_icmp .ne 5, 3), (19, .iconst 1, 1), (20, .ireturn, 1), (21, .iinc 2 1, 3), (24, .goto (-22), 3), (27, .iconst 0, 1), (28, .ireturn, 1)]]
set_option maxRecDepth 100000 in
theorem cd152_ok : ∀ ch ∈ cd152, ∀ e ∈ ch, decode (byAt 1593) e.1 = .ok (e.2.1, e.2.2) := by decide +kernel
def cd153 : PC := [[(0, .iconst 0, 1), (1, .istore_n 1, 1), (2, .bipush 24, 2), (4, .istore_n 2, 1), (5, .iload_n 2, 1), (6, .ifCond .lt 27, 3), (9, .iload_n 1, 1), (10, .iload_n 0, 1), (11, .iload_n 2, 1), (12, .ishr, 1), (13, .sipush 255, 3)],
  [(16, .iand, 1), (17, .ifCond .eq 7, 3), (20, .iconst 1, 1), (21, .goto 4, 3), (24, .iconst 0, 1), (25, .iadd, 1), (26, .istore_n 1, 1), (27, .iinc 2 (-8), 3), (30, .goto (-25), 3)],
  [(33, .iload_n 1, 1), (34, .ireturn, 1)]]
set_option maxRecDepth 100000 in
theorem cd153_ok : ∀ ch ∈ cd153, ∀ e ∈ ch, decode (byAt 1469) e.1 = .ok (e.2.1, e.2.2) := by decide +kernel
def cd154 : PC := [[(0, .bipush 24, 2), (2, .istore_n 2, 1), (3, .iload_n 2, 1), (4, .ifCond .lt 45, 3), (7, .iload_n 1, 1), (8, .iload_n 2, 1), (9, .ishr, 1), (10, .sipush 255, 3), (13, .iand, 1), (14, .ifCond .ne 6, 3)],
  [(17, .goto 26, 3), (20, .aload_n 0, 1), (21, .getfield 9, 3), (24, .aload_n 0, 1), (25, .getfield 148, 3), (28, .iload_n 1, 1), (29, .iload_n 2, 1), (30, .ishr, 1), (31, .i2b, 1)],
  [(32, .bastore, 1), (33, .aload_n 0, 1), (34, .dup, 1), (35, .getfield 148, 3), (38, .iconst 1, 1), (39, .iadd, 1), (40, .putfield 148, 3), (43, .iinc 2 (-8), 3), (46, .goto (-43), 3)],
  [(49, .return_, 1)]]
set_option maxRecDepth 100000 in
theorem cd154_ok : ∀ ch ∈ cd154, ∀ e ∈ ch, decode (byAt 1473) e.1 = .ok (e.2.1, e.2.2) := by decide +kernel
def cd155 : PC := [[(0, .aload_n 0, 1), (1, .iconst 0, 1), (2, .putfield 134, 3), (5, .aload_n 0, 1), (6, .getfield 148, 3), (9, .iload_n 1, 1), (10, .invokestatic 150, 3), (13, .iadd, 1), (14, .iload_n 2, 1), (15, .invokestatic 150, 3)],
  [(18, .iadd, 1), (19, .iload_n 3, 1), (20, .invokestatic 150, 3), (23, .iadd, 1), (24, .iload 4, 2), (26, .invokestatic 150, 3), (29, .iadd, 1), (30, .iload 5, 2)],
  [(32, .invokestatic 150, 3), (35, .iadd, 1), (36, .sipush 160, 3), (39, .if_icmp .le 5, 3), (42, .iconst (-1), 1), (43, .ireturn, 1), (44, .aload_n 0, 1), (45, .iload_n 1, 1), (46, .invokevirtual 154, 3)],
  [(49, .aload_n 0, 1), (50, .iload_n 2, 1), (51, .invokevirtual 154, 3), (54, .aload_n 0, 1), (55, .iload_n 3, 1), (56, .invokevirtual 154, 3), (59, .aload_n 0, 1), (60, .iload 4, 2), (62, .invokevirtual 154, 3)],
  [(65, .aload_n 0, 1), (66, .iload 5, 2), (68, .invokevirtual 154, 3), (71, .aload_n 0, 1), (72, .getfield 148, 3), (75, .ireturn, 1)]]
set_option maxRecDepth 100000 in
theorem cd155_ok : ∀ ch ∈ cd155, ∀ e ∈ ch, decode (byAt 1466) e.1 = .ok (e.2.1, e.2.2) := by decide +kernel
def cd156 : PC := [[(0, .aload_n 0, 1), (1, .iconst 0, 1), (2, .putfield 134, 3), (5, .iload_n 1, 1), (6, .ifCond .lt 11, 3), (9, .iload_n 1, 1), (10, .aload_n 0, 1), (11, .getfield 148, 3), (14, .if_icmp .le 5, 3)],
  [(17, .iconst 0, 1), (18, .ireturn, 1), (19, .aload_n 0, 1), (20, .iload_n 1, 1), (21, .putfield 148, 3), (24, .iconst 1, 1), (25, .ireturn, 1)]]
set_option maxRecDepth 100000 in
theorem cd156_ok : ∀ ch ∈ cd156, ∀ e ∈ ch, decode (byAt 1477) e.1 = .ok (e.2.1, e.2.2) := by decide +kernel
def cd157 : PC := [[(0, .aload_n 0, 1), (1, .getfield 157, 3), (4, .aload_n 0, 1), (5, .getfield 160, 3), (8, .if_icmp .ge 35, 3), (11, .aload_n 0, 1), (12, .getfield 23, 3), (15, .aload_n 0, 1)],
  [(16, .getfield 163, 3), (19, .aload_n 0, 1), (20, .getfield 157, 3), (23, .iadd, 1), (24, .baload, 1), (25, .bipush 32, 2), (27, .if_icmp .ne 16, 3), (30, .aload_n 0, 1), (31, .dup, 1)],
  [(32, .getfield 157, 3), (35, .iconst 1, 1), (36, .iadd, 1), (37, .putfield 157, 3), (40, .goto (-40), 3), (43, .aload_n 0, 1), (44, .getfield 157, 3), (47, .aload_n 0, 1)],
  [(48, .getfield 160, 3), (51, .if_icmp .ge 24, 3), (54, .aload_n 0, 1), (55, .getfield 23, 3), (58, .aload_n 0, 1), (59, .getfield 163, 3), (62, .aload_n 0, 1), (63, .getfield 157, 3)],
  [(66, .iadd, 1), (67, .baload, 1), (68, .sipush 255, 3), (71, .iand, 1), (72, .goto 4, 3), (75, .iconst (-1), 1), (76, .ireturn, 1)]]
set_option maxRecDepth 100000 in
theorem cd157_ok : ∀ ch ∈ cd157, ∀ e ∈ ch, decode (byAt 1503) e.1 = .ok (e.2.1, e.2.2) := by decide +kernel
def cd158 : PC := [[(0, .aload_n 0, 1), (1, .getfield 166, 3), (4, .iconst (-1), 1), (5, .if_icmp .ne 11, 3), (8, .aload_n 0, 1), (9, .aload_n 0, 1), (10, .getfield 157, 3), (13, .putfield 166, 3)],
  [(16, .iconst 0, 1), (17, .ireturn, 1)]]
set_option maxRecDepth 100000 in
theorem cd158_ok : ∀ ch ∈ cd158, ∀ e ∈ ch, decode (byAt 1507) e.1 = .ok (e.2.1, e.2.2) := by decide +kernel
def cd159 : PC := [[(0, .aload_n 0, 1), (1, .getfield 169, 3), (4, .bipush 6, 2), (6, .if_icmp .ne 8, 3), (9, .aload_n 0, 1), (10, .invokevirtual 172, 3), (13, .ireturn, 1), (14, .aload_n 0, 1), (15, .dup, 1)],
  [(16, .getfield 169, 3), (19, .iconst 1, 1), (20, .iadd, 1), (21, .putfield 169, 3), (24, .aload_n 0, 1), (25, .dup, 1), (26, .getfield 157, 3), (29, .iconst 1, 1), (30, .iadd, 1), (31, .putfield 157, 3)],
  [(34, .iconst 1, 1), (35, .ireturn, 1)]]
set_option maxRecDepth 100000 in
theorem cd159_ok : ∀ ch ∈ cd159, ∀ e ∈ ch, decode (byAt 1625) e.1 = .ok (e.2.1, e.2.2) := by decide +kernel
def cd160 : PC := [[(0, .aload_n 0, 1), (1, .getfield 166, 3), (4, .iconst (-1), 1), (5, .if_icmp .ne 11, 3), (8, .aload_n 0, 1), (9, .invokevirtual 176, 3), (12, .iload_n 1, 1), (13, .if_icmp .eq 8, 3)],
  [(16, .aload_n 0, 1), (17, .invokevirtual 172, 3), (20, .ireturn, 1), (21, .aload_n 0, 1), (22, .dup, 1), (23, .getfield 157, 3), (26, .iconst 1, 1), (27, .iadd, 1), (28, .putfield 157, 3), (31, .iconst 1, 1)],
  [(32, .ireturn, 1)]]
set_option maxRecDepth 100000 in
theorem cd160_ok : ∀ ch ∈ cd160, ∀ e ∈ ch, decode (byAt 1597) e.1 = .ok (e.2.1, e.2.2) := by decide +kernel
def cd161 : PC := [[(0, .aload_n 0, 1), (1, .getfield 157, 3), (4, .aload_n 0, 1), (5, .getfield 160, 3), (8, .if_icmp .ge 45, 3), (11, .aload_n 0, 1), (12, .getfield 23, 3), (15, .aload_n 0, 1)],
  [(16, .getfield 163, 3), (19, .aload_n 0, 1), (20, .getfield 157, 3), (23, .iadd, 1), (24, .baload, 1), (25, .bipush 48, 2), (27, .if_icmp .lt 26, 3), (30, .aload_n 0, 1), (31, .getfield 23, 3)],
  [(34, .aload_n 0, 1), (35, .getfield 163, 3), (38, .aload_n 0, 1), (39, .getfield 157, 3), (42, .iadd, 1), (43, .baload, 1), (44, .bipush 57, 2), (46, .if_icmp .gt 7, 3)],
  [(49, .iconst 1, 1), (50, .goto 4, 3), (53, .iconst 0, 1), (54, .ireturn, 1)]]
set_option maxRecDepth 100000 in
theorem cd161_ok : ∀ ch ∈ cd161, ∀ e ∈ ch, decode (byAt 1578) e.1 = .ok (e.2.1, e.2.2) := by decide +kernel
def cd162 : PC := [[(0, .ldc2_w 179, 3), (3, .ldc2_w 181, 3), (6, .lload_n 0, 1), (7, .invokestatic 183, 3), (10, .invokestatic 189, 3), (13, .l2i, 1), (14, .ireturn, 1)]]
set_option maxRecDepth 100000 in
theorem cd162_ok : ∀ ch ∈ cd162, ∀ e ∈ ch, decode (byAt 1628) e.1 = .ok (e.2.1, e.2.2) := by decide +kernel
def cd163 : PC := [[(0, .aload_n 0, 1), (1, .invokevirtual 176, 3), (4, .istore_n 1, 1), (5, .ldc 32, 2), (7, .iload_n 1, 1), (8, .invokestatic 192, 3), (11, .ifCond .eq 20, 3), (14, .aload_n 0, 1), (15, .dup, 1)],
  [(16, .getfield 157, 3), (19, .iconst 1, 1), (20, .iadd, 1), (21, .putfield 157, 3), (24, .aload_n 0, 1), (25, .getfield 20, 3), (28, .iload_n 1, 1), (29, .iaload, 1), (30, .ireturn, 1), (31, .iload_n 1, 1)],
  [(32, .bipush 91, 2), (34, .if_icmp .ne 40, 3), (37, .aload_n 0, 1), (38, .invokevirtual 196, 3), (41, .ifCond .ne 5, 3), (44, .iconst 0, 1), (45, .ireturn, 1), (46, .aload_n 0, 1), (47, .invokevirtual 199, 3)],
  [(50, .istore_n 2, 1), (51, .aload_n 0, 1), (52, .bipush 93, 2), (54, .invokevirtual 202, 3), (57, .ifCond .ne 5, 3), (60, .iconst 0, 1), (61, .ireturn, 1), (62, .aload_n 0, 1), (63, .dup, 1)],
  [(64, .getfield 169, 3), (67, .iconst 1, 1), (68, .isub, 1), (69, .putfield 169, 3), (72, .iload_n 2, 1), (73, .ireturn, 1), (74, .aload_n 0, 1), (75, .invokevirtual 206, 3), (78, .ifCond .ne 8, 3)],
  [(81, .aload_n 0, 1), (82, .invokevirtual 172, 3), (85, .pop, 1), (86, .iconst 0, 1), (87, .istore_n 2, 1), (88, .iconst 0, 1), (89, .istore_n 3, 1), (90, .aload_n 0, 1), (91, .invokevirtual 206, 3), (94, .ifCond .eq 62, 3)],
  [(97, .aload_n 0, 1), (98, .getfield 166, 3), (101, .iconst (-1), 1), (102, .if_icmp .ne 54, 3), (105, .iload_n 3, 1), (106, .iconst 4, 1), (107, .if_icmp .ne 10, 3), (110, .aload_n 0, 1), (111, .invokevirtual 172, 3)],
  [(114, .pop, 1), (115, .iconst 0, 1), (116, .ireturn, 1), (117, .bipush 10, 2), (119, .iload_n 2, 1), (120, .imul, 1), (121, .aload_n 0, 1), (122, .getfield 23, 3), (125, .aload_n 0, 1), (126, .getfield 163, 3)],
  [(129, .aload_n 0, 1), (130, .getfield 157, 3), (133, .iadd, 1), (134, .baload, 1), (135, .iadd, 1), (136, .bipush 48, 2), (138, .isub, 1), (139, .istore_n 2, 1), (140, .aload_n 0, 1), (141, .dup, 1), (142, .getfield 157, 3)],
  [(145, .iconst 1, 1), (146, .iadd, 1), (147, .putfield 157, 3), (150, .iinc 3 1, 3), (153, .goto (-63), 3), (156, .iload_n 2, 1), (157, .ireturn, 1)]]
set_option maxRecDepth 100000 in
theorem cd163_ok : ∀ ch ∈ cd163, ∀ e ∈ ch, decode (byAt 1621) e.1 = .ok (e.2.1, e.2.2) := by decide +kernel
def cd164 : PC := [[(0, .aload_n 0, 1), (1, .invokevirtual 209, 3), (4, .istore_n 1, 1), (5, .aload_n 0, 1), (6, .getfield 166, 3), (9, .iconst (-1), 1), (10, .if_icmp .ne 84, 3), (13, .aload_n 0, 1), (14, .invokevirtual 176, 3)],
  [(17, .bipush 42, 2), (19, .if_icmp .eq 12, 3), (22, .aload_n 0, 1), (23, .invokevirtual 176, 3), (26, .bipush 47, 2), (28, .if_icmp .ne 66, 3), (31, .aload_n 0, 1)],
  [(32, .invokevirtual 176, 3), (35, .bipush 42, 2), (37, .if_icmp .ne 7, 3), (40, .iconst 1, 1), (41, .goto 4, 3), (44, .iconst 0, 1), (45, .istore_n 2, 1), (46, .aload_n 0, 1), (47, .dup, 1)],
  [(48, .getfield 157, 3), (51, .iconst 1, 1), (52, .iadd, 1), (53, .putfield 157, 3), (56, .aload_n 0, 1), (57, .invokevirtual 209, 3), (60, .i2l, 1), (61, .lstore_n 3, 1), (62, .iload_n 2, 1), (63, .ifCond .eq 10, 3)],
  [(66, .iload_n 1, 1), (67, .i2l, 1), (68, .lload_n 3, 1), (69, .lmul, 1), (70, .goto 17, 3), (73, .lload_n 3, 1), (74, .lconst 0, 1), (75, .lcmp, 1), (76, .ifCond .ne 7, 3), (79, .lconst 0, 1)],
  [(80, .goto 7, 3), (83, .iload_n 1, 1), (84, .i2l, 1), (85, .lload_n 3, 1), (86, .ldiv, 1), (87, .invokestatic 212, 3), (90, .istore_n 1, 1), (91, .goto (-86), 3), (94, .iload_n 1, 1), (95, .ireturn, 1)]]
set_option maxRecDepth 100000 in
theorem cd164_ok : ∀ ch ∈ cd164, ∀ e ∈ ch, decode (byAt 1617) e.1 = .ok (e.2.1, e.2.2) := by decide +kernel
def cd165 : PC := [[(0, .aload_n 0, 1), (1, .invokevirtual 216, 3), (4, .istore_n 1, 1), (5, .aload_n 0, 1), (6, .getfield 166, 3), (9, .iconst (-1), 1), (10, .if_icmp .ne 74, 3), (13, .aload_n 0, 1), (14, .invokevirtual 176, 3)],
  [(17, .bipush 43, 2), (19, .if_icmp .eq 12, 3), (22, .aload_n 0, 1), (23, .invokevirtual 176, 3), (26, .bipush 45, 2), (28, .if_icmp .ne 56, 3), (31, .aload_n 0, 1)],
  [(32, .invokevirtual 176, 3), (35, .bipush 43, 2), (37, .if_icmp .ne 7, 3), (40, .iconst 1, 1), (41, .goto 4, 3), (44, .iconst 0, 1), (45, .istore_n 2, 1), (46, .aload_n 0, 1), (47, .dup, 1)],
  [(48, .getfield 157, 3), (51, .iconst 1, 1), (52, .iadd, 1), (53, .putfield 157, 3), (56, .aload_n 0, 1), (57, .invokevirtual 216, 3), (60, .i2l, 1), (61, .lstore_n 3, 1), (62, .iload_n 2, 1), (63, .ifCond .eq 10, 3)],
  [(66, .iload_n 1, 1), (67, .i2l, 1), (68, .lload_n 3, 1), (69, .ladd, 1), (70, .goto 7, 3), (73, .iload_n 1, 1), (74, .i2l, 1), (75, .lload_n 3, 1), (76, .lsub, 1), (77, .invokestatic 212, 3)],
  [(80, .istore_n 1, 1), (81, .goto (-76), 3), (84, .iload_n 1, 1), (85, .ireturn, 1)]]
set_option maxRecDepth 100000 in
theorem cd165_ok : ∀ ch ∈ cd165, ∀ e ∈ ch, decode (byAt 1613) e.1 = .ok (e.2.1, e.2.2) := by decide +kernel
def cd166 : PC := [[(0, .iload_n 0, 1), (1, .bipush 61, 2), (3, .if_icmp .eq 15, 3), (6, .iload_n 0, 1), (7, .bipush 60, 2), (9, .if_icmp .eq 9, 3), (12, .iload_n 0, 1), (13, .bipush 62, 2), (15, .if_icmp .ne 7, 3)],
  [(18, .iconst 1, 1), (19, .goto 4, 3), (22, .iconst 0, 1), (23, .ireturn, 1)]]
set_option maxRecDepth 100000 in
theorem cd166_ok : ∀ ch ∈ cd166, ∀ e ∈ ch, decode (byAt 1635) e.1 = .ok (e.2.1, e.2.2) := by decide +kernel
def cd167 : PC := [[(0, .iload_n 1, 1), (1, .ifCond .eq 7, 3), (4, .iload_n 2, 1), (5, .goto 7, 3), (8, .aload_n 0, 1), (9, .invokevirtual 199, 3), (12, .istore_n 3, 1), (13, .aload_n 0, 1), (14, .getfield 166, 3)],
  [(17, .iconst (-1), 1), (18, .if_icmp .eq 5, 3), (21, .iconst 0, 1), (22, .ireturn, 1), (23, .aload_n 0, 1), (24, .invokevirtual 176, 3), (27, .istore 4, 2), (29, .iload 4, 2), (31, .invokestatic 219, 3)],
  [(34, .ifCond .ne 8, 3), (37, .aload_n 0, 1), (38, .invokevirtual 172, 3), (41, .ireturn, 1), (42, .aload_n 0, 1), (43, .dup, 1), (44, .getfield 157, 3), (47, .iconst 1, 1)],
  [(48, .iadd, 1), (49, .putfield 157, 3), (52, .aload_n 0, 1), (53, .invokevirtual 199, 3), (56, .istore 5, 2), (58, .iload 4, 2), (60, .bipush 61, 2), (62, .if_icmp .ne 17, 3)],
  [(65, .iload_n 3, 1), (66, .iload 5, 2), (68, .if_icmp .ne 7, 3), (71, .iconst 1, 1), (72, .goto 39, 3), (75, .iconst 0, 1), (76, .goto 35, 3), (79, .iload 4, 2)],
  [(81, .bipush 60, 2), (83, .if_icmp .ne 17, 3), (86, .iload_n 3, 1), (87, .iload 5, 2), (89, .if_icmp .ge 7, 3), (92, .iconst 1, 1), (93, .goto 18, 3)],
  [(96, .iconst 0, 1), (97, .goto 14, 3), (100, .iload_n 3, 1), (101, .iload 5, 2), (103, .if_icmp .le 7, 3), (106, .iconst 1, 1), (107, .goto 4, 3), (110, .iconst 0, 1), (111, .ireturn, 1)]]
set_option maxRecDepth 100000 in
theorem cd167_ok : ∀ ch ∈ cd167, ∀ e ∈ ch, decode (byAt 1609) e.1 = .ok (e.2.1, e.2.2) := by decide +kernel
def cd168 : PC := [[(0, .aload_n 0, 1), (1, .invokevirtual 176, 3), (4, .istore_n 1, 1), (5, .iload_n 1, 1), (6, .bipush 33, 2), (8, .if_icmp .ne 37, 3), (11, .aload_n 0, 1), (12, .invokevirtual 196, 3), (15, .ifCond .ne 5, 3)],
  [(18, .iconst 0, 1), (19, .ireturn, 1), (20, .aload_n 0, 1), (21, .invokevirtual 222, 3), (24, .istore_n 2, 1), (25, .aload_n 0, 1), (26, .dup, 1), (27, .getfield 169, 3), (30, .iconst 1, 1), (31, .isub, 1)],
  [(32, .putfield 169, 3), (35, .iload_n 2, 1), (36, .ifCond .ne 7, 3), (39, .iconst 1, 1), (40, .goto 4, 3), (43, .iconst 0, 1), (44, .ireturn, 1), (45, .iload_n 1, 1), (46, .bipush 40, 2)],
  [(48, .if_icmp .ne 42, 3), (51, .aload_n 0, 1), (52, .invokevirtual 196, 3), (55, .ifCond .ne 5, 3), (58, .iconst 0, 1), (59, .ireturn, 1), (60, .aload_n 0, 1), (61, .iconst 0, 1), (62, .iconst 0, 1), (63, .invokevirtual 225, 3)],
  [(66, .istore_n 2, 1), (67, .aload_n 0, 1), (68, .bipush 41, 2), (70, .invokevirtual 202, 3), (73, .ifCond .ne 5, 3), (76, .iconst 0, 1), (77, .ireturn, 1), (78, .aload_n 0, 1), (79, .dup, 1)],
  [(80, .getfield 169, 3), (83, .iconst 1, 1), (84, .isub, 1), (85, .putfield 169, 3), (88, .iload_n 2, 1), (89, .ireturn, 1), (90, .aload_n 0, 1), (91, .iconst 0, 1), (92, .iconst 0, 1), (93, .invokevirtual 229, 3)],
  [(96, .ireturn, 1)]]
set_option maxRecDepth 100000 in
theorem cd168_ok : ∀ ch ∈ cd168, ∀ e ∈ ch, decode (byAt 1639) e.1 = .ok (e.2.1, e.2.2) := by decide +kernel
def cd169 : PC := [[(0, .iload_n 1, 1), (1, .ifCond .eq 12, 3), (4, .aload_n 0, 1), (5, .iconst 1, 1), (6, .iload_n 2, 1), (7, .invokevirtual 229, 3), (10, .goto 7, 3), (13, .aload_n 0, 1), (14, .invokevirtual 222, 3)],
  [(17, .istore_n 3, 1), (18, .aload_n 0, 1), (19, .getfield 166, 3), (22, .iconst (-1), 1), (23, .if_icmp .ne 46, 3), (26, .aload_n 0, 1), (27, .invokevirtual 176, 3), (30, .bipush 38, 2)],
  [(32, .if_icmp .ne 37, 3), (35, .aload_n 0, 1), (36, .dup, 1), (37, .getfield 157, 3), (40, .iconst 1, 1), (41, .iadd, 1), (42, .putfield 157, 3), (45, .aload_n 0, 1), (46, .invokevirtual 222, 3)],
  [(49, .istore 4, 2), (51, .iload_n 3, 1), (52, .ifCond .eq 12, 3), (55, .iload 4, 2), (57, .ifCond .eq 7, 3), (60, .iconst 1, 1), (61, .goto 4, 3)],
  [(64, .iconst 0, 1), (65, .istore_n 3, 1), (66, .goto (-48), 3), (69, .iload_n 3, 1), (70, .ireturn, 1)]]
set_option maxRecDepth 100000 in
theorem cd169_ok : ∀ ch ∈ cd169, ∀ e ∈ ch, decode (byAt 1605) e.1 = .ok (e.2.1, e.2.2) := by decide +kernel
def cd170 : PC := [[(0, .aload_n 0, 1), (1, .iload_n 1, 1), (2, .iload_n 2, 1), (3, .invokevirtual 232, 3), (6, .istore_n 3, 1), (7, .aload_n 0, 1), (8, .getfield 166, 3), (11, .iconst (-1), 1), (12, .if_icmp .ne 48, 3), (15, .aload_n 0, 1)],
  [(16, .invokevirtual 176, 3), (19, .bipush 124, 2), (21, .if_icmp .ne 39, 3), (24, .aload_n 0, 1), (25, .dup, 1), (26, .getfield 157, 3), (29, .iconst 1, 1), (30, .iadd, 1), (31, .putfield 157, 3)],
  [(34, .aload_n 0, 1), (35, .iconst 0, 1), (36, .iconst 0, 1), (37, .invokevirtual 232, 3), (40, .istore 4, 2), (42, .iload_n 3, 1), (43, .ifCond .ne 8, 3), (46, .iload 4, 2)],
  [(48, .ifCond .eq 7, 3), (51, .iconst 1, 1), (52, .goto 4, 3), (55, .iconst 0, 1), (56, .istore_n 3, 1), (57, .goto (-50), 3), (60, .iload_n 3, 1), (61, .ireturn, 1)]]
set_option maxRecDepth 100000 in
theorem cd170_ok : ∀ ch ∈ cd170, ∀ e ∈ ch, decode (byAt 1601) e.1 = .ok (e.2.1, e.2.2) := by decide +kernel
def cd171 : PC := [[(0, .aload_n 0, 1), (1, .invokevirtual 176, 3), (4, .istore_n 1, 1), (5, .ldc 26, 2), (7, .iload_n 1, 1), (8, .invokestatic 192, 3), (11, .ifCond .ne 9, 3), (14, .aload_n 0, 1), (15, .invokevirtual 172, 3)],
  [(18, .pop, 1), (19, .return_, 1), (20, .aload_n 0, 1), (21, .dup, 1), (22, .getfield 157, 3), (25, .iconst 1, 1), (26, .iadd, 1), (27, .putfield 157, 3), (30, .aload_n 0, 1), (31, .bipush 58, 2)],
  [(33, .invokevirtual 202, 3), (36, .ifCond .ne 4, 3), (39, .return_, 1), (40, .iconst 1, 1), (41, .istore_n 2, 1), (42, .iconst 0, 1), (43, .istore_n 3, 1), (44, .aload_n 0, 1), (45, .invokevirtual 176, 3)],
  [(48, .istore 4, 2), (50, .iload 4, 2), (52, .bipush 33, 2), (54, .if_icmp .eq 10, 3), (57, .iload 4, 2), (59, .bipush 40, 2), (61, .if_icmp .ne 28, 3)],
  [(64, .aload_n 0, 1), (65, .iconst 0, 1), (66, .iconst 0, 1), (67, .invokevirtual 225, 3), (70, .istore_n 2, 1), (71, .aload_n 0, 1), (72, .bipush 63, 2), (74, .invokevirtual 202, 3), (77, .ifCond .ne 4, 3)],
  [(80, .return_, 1), (81, .aload_n 0, 1), (82, .invokevirtual 199, 3), (85, .istore_n 3, 1), (86, .goto 48, 3), (89, .aload_n 0, 1), (90, .invokevirtual 199, 3), (93, .istore_n 3, 1), (94, .aload_n 0, 1), (95, .getfield 166, 3)],
  [(98, .iconst (-1), 1), (99, .if_icmp .ne 35, 3), (102, .aload_n 0, 1), (103, .invokevirtual 176, 3), (106, .invokestatic 219, 3), (109, .ifCond .eq 25, 3)],
  [(112, .aload_n 0, 1), (113, .iconst 1, 1), (114, .iload_n 3, 1), (115, .invokevirtual 225, 3), (118, .istore_n 2, 1), (119, .aload_n 0, 1), (120, .bipush 63, 2), (122, .invokevirtual 202, 3), (125, .ifCond .ne 4, 3)],
  [(128, .return_, 1), (129, .aload_n 0, 1), (130, .invokevirtual 199, 3), (133, .istore_n 3, 1), (134, .aload_n 0, 1), (135, .getfield 166, 3), (138, .iconst (-1), 1), (139, .if_icmp .ne 22, 3), (142, .aload_n 0, 1), (143, .getfield 235, 3)],
  [(146, .ifCond .ne 15, 3), (149, .iload_n 1, 1), (150, .aload_n 0, 1), (151, .getfield 239, 3), (154, .if_icmp .ne 7, 3), (157, .iload_n 2, 1), (158, .ifCond .ne 4, 3)],
  [(161, .return_, 1), (162, .aload_n 0, 1), (163, .iconst 1, 1), (164, .putfield 235, 3), (167, .aload_n 0, 1), (168, .iload_n 3, 1), (169, .putfield 242, 3), (172, .return_, 1)]]
set_option maxRecDepth 100000 in
theorem cd171_ok : ∀ ch ∈ cd171, ∀ e ∈ ch, decode (byAt 1590) e.1 = .ok (e.2.1, e.2.2) := by decide +kernel
def cd172 : PC := [[(0, .aload_n 0, 1), (1, .aload_n 1, 1), (2, .putfield 23, 3), (5, .aload_n 0, 1), (6, .iload_n 2, 1), (7, .putfield 163, 3), (10, .aload_n 0, 1), (11, .iload_n 3, 1), (12, .putfield 160, 3), (15, .aload_n 0, 1)],
  [(16, .iconst 0, 1), (17, .putfield 157, 3), (20, .aload_n 0, 1), (21, .iconst (-1), 1), (22, .putfield 166, 3), (25, .return_, 1)]]
set_option maxRecDepth 100000 in
theorem cd172_ok : ∀ ch ∈ cd172, ∀ e ∈ ch, decode (byAt 1492) e.1 = .ok (e.2.1, e.2.2) := by decide +kernel
def cd173 : PC := [[(0, .aload_n 0, 1), (1, .aload_n 1, 1), (2, .iload_n 2, 1), (3, .iload_n 3, 1), (4, .invokevirtual 245, 3), (7, .aload_n 0, 1), (8, .bipush 121, 2), (10, .putfield 239, 3), (13, .aload_n 0, 1), (14, .iconst 0, 1), (15, .putfield 169, 3)],
  [(18, .aload_n 0, 1), (19, .iconst 0, 1), (20, .putfield 235, 3), (23, .aload_n 0, 1), (24, .iconst 0, 1), (25, .putfield 242, 3), (28, .aload_n 0, 1), (29, .invokevirtual 249, 3)],
  [(32, .aload_n 0, 1), (33, .getfield 166, 3), (36, .iconst (-1), 1), (37, .if_icmp .ne 29, 3), (40, .aload_n 0, 1), (41, .invokevirtual 176, 3), (44, .bipush 59, 2), (46, .if_icmp .ne 20, 3)],
  [(49, .aload_n 0, 1), (50, .dup, 1), (51, .getfield 157, 3), (54, .iconst 1, 1), (55, .iadd, 1), (56, .putfield 157, 3), (59, .aload_n 0, 1), (60, .invokevirtual 249, 3), (63, .goto (-31), 3)],
  [(66, .aload_n 0, 1), (67, .getfield 166, 3), (70, .iconst (-1), 1), (71, .if_icmp .ne 16, 3), (74, .aload_n 0, 1), (75, .invokevirtual 176, 3), (78, .iconst (-1), 1), (79, .if_icmp .eq 8, 3)],
  [(82, .aload_n 0, 1), (83, .invokevirtual 172, 3), (86, .pop, 1), (87, .return_, 1)]]
set_option maxRecDepth 100000 in
theorem cd173_ok : ∀ ch ∈ cd173, ∀ e ∈ ch, decode (byAt 1586) e.1 = .ok (e.2.1, e.2.2) := by decide +kernel
def cd174 : PC := [[(0, .aload_n 0, 1), (1, .getfield 157, 3), (4, .aload_n 0, 1), (5, .getfield 160, 3), (8, .if_icmp .ge 24, 3), (11, .aload_n 0, 1), (12, .getfield 23, 3), (15, .aload_n 0, 1)],
  [(16, .getfield 163, 3), (19, .aload_n 0, 1), (20, .getfield 157, 3), (23, .iadd, 1), (24, .baload, 1), (25, .sipush 255, 3), (28, .iand, 1), (29, .goto 4, 3)],
  [(32, .iconst (-1), 1), (33, .ireturn, 1)]]
set_option maxRecDepth 100000 in
theorem cd174_ok : ∀ ch ∈ cd174, ∀ e ∈ ch, decode (byAt 1582) e.1 = .ok (e.2.1, e.2.2) := by decide +kernel
def cd175 : PC := [[(0, .iconst 0, 1), (1, .istore_n 2, 1), (2, .iload_n 2, 1), (3, .aload_n 0, 1), (4, .invokevirtual 138, 3), (7, .if_icmp .ge 20, 3), (10, .aload_n 0, 1), (11, .iload_n 2, 1), (12, .invokevirtual 144, 3), (15, .iload_n 1, 1)],
  [(16, .if_icmp .ne 5, 3), (19, .iload_n 2, 1), (20, .ireturn, 1), (21, .iinc 2 1, 3), (24, .goto (-22), 3), (27, .iconst (-1), 1), (28, .ireturn, 1)]]
set_option maxRecDepth 100000 in
theorem cd175_ok : ∀ ch ∈ cd175, ∀ e ∈ ch, decode (byAt 1523) e.1 = .ok (e.2.1, e.2.2) := by decide +kernel
def cd176 : PC := [[(0, .iload_n 0, 1), (1, .bipush 119, 2), (3, .if_icmp .ne 32, 3), (6, .iload_n 1, 1), (7, .ifCond .ne 7, 3), (10, .iconst 0, 1), (11, .goto 23, 3), (14, .iload_n 1, 1), (15, .iconst 1, 1)],
  [(16, .if_icmp .ne 7, 3), (19, .iconst 3, 1), (20, .goto 14, 3), (23, .iload_n 1, 1), (24, .iconst 2, 1), (25, .if_icmp .ne 7, 3), (28, .iconst 1, 1), (29, .goto 5, 3)],
  [(32, .bipush 30, 2), (34, .ireturn, 1), (35, .iload_n 0, 1), (36, .bipush 98, 2), (38, .if_icmp .ne 23, 3), (41, .iload_n 1, 1), (42, .ifCond .ne 7, 3), (45, .iconst 0, 1), (46, .goto 14, 3)],
  [(49, .iload_n 1, 1), (50, .iconst 1, 1), (51, .if_icmp .ne 8, 3), (54, .bipush 6, 2), (56, .goto 4, 3), (59, .iconst 1, 1), (60, .ireturn, 1), (61, .iload_n 1, 1), (62, .ifCond .ne 8, 3)],
  [(65, .bipush 10, 2), (67, .goto 4, 3), (70, .iconst 0, 1), (71, .ireturn, 1)]]
set_option maxRecDepth 100000 in
theorem cd176_ok : ∀ ch ∈ cd176, ∀ e ∈ ch, decode (byAt 1495) e.1 = .ok (e.2.1, e.2.2) := by decide +kernel
def cd177 : PC := [[(0, .iload_n 0, 1), (1, .bipush 119, 2), (3, .if_icmp .ne 13, 3), (6, .iload_n 1, 1), (7, .iconst 1, 1), (8, .if_icmp .eq 18, 3), (11, .iload_n 1, 1), (12, .iconst 3, 1), (13, .if_icmp .eq 13, 3)],
  [(16, .iload_n 0, 1), (17, .bipush 98, 2), (19, .if_icmp .ne 11, 3), (22, .iload_n 1, 1), (23, .ifCond .le 7, 3), (26, .iconst 1, 1), (27, .goto 4, 3), (30, .iconst 0, 1), (31, .ireturn, 1)]]
set_option maxRecDepth 100000 in
theorem cd177_ok : ∀ ch ∈ cd177, ∀ e ∈ ch, decode (byAt 1567) e.1 = .ok (e.2.1, e.2.2) := by decide +kernel
def cd178 : PC := [[(0, .iload_n 0, 1), (1, .bipush 119, 2), (3, .if_icmp .ne 24, 3), (6, .iload_n 1, 1), (7, .ifCond .ne 7, 3), (10, .iconst 5, 1), (11, .goto 15, 3), (14, .iload_n 1, 1), (15, .iconst 3, 1)],
  [(16, .if_icmp .ne 8, 3), (19, .bipush 60, 2), (21, .goto 5, 3), (24, .bipush 9, 2), (26, .ireturn, 1), (27, .iload_n 0, 1), (28, .bipush 98, 2), (30, .if_icmp .ne 24, 3)],
  [(33, .iload_n 1, 1), (34, .ifCond .ne 8, 3), (37, .bipush 30, 2), (39, .goto 14, 3), (42, .iload_n 1, 1), (43, .iconst 1, 1), (44, .if_icmp .ne 8, 3), (47, .bipush 12, 2)],
  [(49, .goto 4, 3), (52, .iconst 5, 1), (53, .ireturn, 1), (54, .iload_n 1, 1), (55, .iconst 3, 1), (56, .if_icmp .ne 7, 3), (59, .iconst 2, 1), (60, .goto 5, 3), (63, .bipush 99, 2)],
  [(65, .ireturn, 1)]]
set_option maxRecDepth 100000 in
theorem cd178_ok : ∀ ch ∈ cd178, ∀ e ∈ ch, decode (byAt 1570) e.1 = .ok (e.2.1, e.2.2) := by decide +kernel
def cd179 : PC := [[(0, .aload_n 0, 1), (1, .dup, 1), (2, .getfield 157, 3), (5, .iconst 1, 1), (6, .iadd, 1), (7, .putfield 157, 3), (10, .aload_n 0, 1), (11, .invokevirtual 176, 3), (14, .istore 5, 2)],
  [(16, .aload_n 0, 1), (17, .invokevirtual 206, 3), (20, .ifCond .ne 9, 3), (23, .aload_n 0, 1), (24, .invokevirtual 172, 3), (27, .pop, 1), (28, .return_, 1), (29, .iload 5, 2), (31, .bipush 48, 2)],
  [(33, .isub, 1), (34, .istore 6, 2), (36, .aload_n 0, 1), (37, .dup, 1), (38, .getfield 157, 3), (41, .iconst 1, 1), (42, .iadd, 1), (43, .putfield 157, 3), (46, .aload_n 0, 1), (47, .invokevirtual 206, 3)],
  [(50, .ifCond .eq 28, 3), (53, .bipush 10, 2), (55, .iload 6, 2), (57, .imul, 1), (58, .aload_n 0, 1), (59, .invokevirtual 252, 3), (62, .iadd, 1), (63, .bipush 48, 2)],
  [(65, .isub, 1), (66, .istore 6, 2), (68, .aload_n 0, 1), (69, .dup, 1), (70, .getfield 157, 3), (73, .iconst 1, 1), (74, .iadd, 1), (75, .putfield 157, 3), (78, .aload_n 0, 1), (79, .invokevirtual 206, 3)],
  [(82, .ifCond .eq 9, 3), (85, .aload_n 0, 1), (86, .invokevirtual 172, 3), (89, .pop, 1), (90, .return_, 1), (91, .iload 6, 2), (93, .i2l, 1), (94, .iload_n 3, 1), (95, .i2l, 1)],
  [(96, .iload 4, 2), (98, .i2l, 1), (99, .invokestatic 255, 3), (102, .ifCond .ne 19, 3), (105, .aload_n 0, 1), (106, .dup, 1), (107, .getfield 157, 3), (110, .iconst 1, 1), (111, .isub, 1)],
  [(112, .putfield 157, 3), (115, .aload_n 0, 1), (116, .invokevirtual 172, 3), (119, .pop, 1), (120, .return_, 1), (121, .aload_n 1, 1), (122, .iload_n 2, 1), (123, .iload 6, 2), (125, .iastore, 1), (126, .return_, 1)]]
set_option maxRecDepth 100000 in
theorem cd179_ok : ∀ ch ∈ cd179, ∀ e ∈ ch, decode (byAt 1574) e.1 = .ok (e.2.1, e.2.2) := by decide +kernel
def cd180 : PC := [[(0, .aload_n 0, 1), (1, .invokevirtual 176, 3), (4, .istore_n 1, 1), (5, .iload_n 1, 1), (6, .bipush 119, 2), (8, .if_icmp .ne 11, 3), (11, .aload_n 0, 1), (12, .getfield 259, 3), (15, .iconst 4, 1)],
  [(16, .if_icmp .lt 30, 3), (19, .iload_n 1, 1), (20, .bipush 98, 2), (22, .if_icmp .ne 11, 3), (25, .aload_n 0, 1), (26, .getfield 262, 3), (29, .iconst 3, 1), (30, .if_icmp .lt 16, 3)],
  [(33, .iload_n 1, 1), (34, .bipush 108, 2), (36, .if_icmp .ne 14, 3), (39, .aload_n 0, 1), (40, .getfield 265, 3), (43, .ifCond .ne 7, 3), (46, .iconst 1, 1), (47, .goto 4, 3)],
  [(50, .iconst 0, 1), (51, .istore_n 2, 1), (52, .iload_n 2, 1), (53, .ifCond .ne 9, 3), (56, .aload_n 0, 1), (57, .invokevirtual 172, 3), (60, .pop, 1), (61, .return_, 1), (62, .aload_n 0, 1), (63, .dup, 1)],
  [(64, .getfield 157, 3), (67, .iconst 1, 1), (68, .iadd, 1), (69, .putfield 157, 3), (72, .iload_n 1, 1), (73, .bipush 119, 2), (75, .if_icmp .ne 12, 3), (78, .iconst 4, 1), (79, .aload_n 0, 1)],
  [(80, .getfield 259, 3), (83, .imul, 1), (84, .goto 19, 3), (87, .iload_n 1, 1), (88, .bipush 98, 2), (90, .if_icmp .ne 12, 3), (93, .iconst 3, 1), (94, .aload_n 0, 1), (95, .getfield 262, 3)],
  [(98, .imul, 1), (99, .goto 4, 3), (102, .iconst 0, 1), (103, .istore_n 3, 1), (104, .iload_n 1, 1), (105, .bipush 119, 2), (107, .if_icmp .ne 10, 3), (110, .aload_n 0, 1), (111, .getfield 46, 3)],
  [(114, .goto 20, 3), (117, .iload_n 1, 1), (118, .bipush 98, 2), (120, .if_icmp .ne 10, 3), (123, .aload_n 0, 1), (124, .getfield 49, 3), (127, .goto 7, 3)],
  [(130, .aload_n 0, 1), (131, .getfield 52, 3), (134, .astore 4, 2), (136, .iload_n 1, 1), (137, .bipush 119, 2), (139, .if_icmp .ne 9, 3), (142, .ldc_w 268, 3)],
  [(145, .goto 18, 3), (148, .iload_n 1, 1), (149, .bipush 98, 2), (151, .if_icmp .ne 9, 3), (154, .ldc_w 270, 3), (157, .goto 6, 3)],
  [(160, .ldc_w 272, 3), (163, .astore 5, 2), (165, .iload_n 1, 1), (166, .bipush 119, 2), (168, .if_icmp .ne 13, 3), (171, .aload_n 0, 1), (172, .dup, 1), (173, .getfield 259, 3)],
  [(176, .iconst 1, 1), (177, .iadd, 1), (178, .putfield 259, 3), (181, .iload_n 1, 1), (182, .bipush 98, 2), (184, .if_icmp .ne 13, 3), (187, .aload_n 0, 1), (188, .dup, 1), (189, .getfield 262, 3)],
  [(192, .iconst 1, 1), (193, .iadd, 1), (194, .putfield 262, 3), (197, .iload_n 1, 1), (198, .bipush 108, 2), (200, .if_icmp .ne 8, 3), (203, .aload_n 0, 1), (204, .iconst 1, 1), (205, .putfield 265, 3)],
  [(208, .iconst 0, 1), (209, .istore 6, 2), (211, .iload 6, 2), (213, .aload 5, 2), (215, .invokevirtual 138, 3), (218, .if_icmp .ge 22, 3), (221, .aload 4, 2), (223, .iload_n 3, 1)],
  [(224, .iload 6, 2), (226, .iadd, 1), (227, .iload_n 1, 1), (228, .iload 6, 2), (230, .invokestatic 274, 3), (233, .iastore, 1), (234, .iinc 6 1, 3), (237, .goto (-26), 3)],
  [(240, .iconst 0, 1), (241, .istore 6, 2), (243, .aload 5, 2), (245, .aload_n 0, 1), (246, .invokevirtual 176, 3), (249, .invokestatic 278, 3), (252, .istore 7, 2), (254, .iload 7, 2)],
  [(256, .iconst (-1), 1), (257, .if_icmp .eq 80, 3), (260, .aload_n 0, 1), (261, .getfield 166, 3), (264, .iconst (-1), 1), (265, .if_icmp .ne 72, 3), (268, .iload 6, 2), (270, .iload 7, 2)],
  [(272, .invokestatic 282, 3), (275, .ifCond .eq 9, 3), (278, .aload_n 0, 1), (279, .invokevirtual 172, 3), (282, .pop, 1), (283, .return_, 1), (284, .iload 6, 2), (286, .iconst 1, 1), (287, .iload 7, 2)],
  [(289, .ishl, 1), (290, .ior, 1), (291, .istore 6, 2), (293, .aload_n 0, 1), (294, .aload 4, 2), (296, .iload_n 3, 1), (297, .iload 7, 2), (299, .iadd, 1), (300, .iload_n 1, 1), (301, .iload 7, 2), (303, .invokestatic 286, 3)],
  [(306, .iload_n 1, 1), (307, .iload 7, 2), (309, .invokestatic 289, 3), (312, .invokevirtual 292, 3), (315, .aload_n 0, 1), (316, .getfield 166, 3), (319, .iconst (-1), 1)],
  [(320, .if_icmp .ne (-66), 3), (323, .aload 5, 2), (325, .aload_n 0, 1), (326, .invokevirtual 176, 3), (329, .invokestatic 278, 3), (332, .istore 7, 2), (334, .goto (-80), 3)],
  [(337, .return_, 1)]]
set_option maxRecDepth 100000 in
theorem cd180_ok : ∀ ch ∈ cd180, ∀ e ∈ ch, decode (byAt 1499) e.1 = .ok (e.2.1, e.2.2) := by decide +kernel
def cd181 : PC := [[(0, .aload_n 0, 1), (1, .aload_n 0, 1), (2, .getfield 9, 3), (5, .iconst 0, 1), (6, .aload_n 0, 1), (7, .getfield 148, 3), (10, .invokevirtual 245, 3), (13, .aload_n 0, 1), (14, .iconst 0, 1), (15, .putfield 259, 3)],
  [(18, .aload_n 0, 1), (19, .iconst 0, 1), (20, .putfield 262, 3), (23, .aload_n 0, 1), (24, .iconst 0, 1), (25, .putfield 265, 3), (28, .iconst 0, 1), (29, .istore_n 1, 1), (30, .iload_n 1, 1), (31, .iconst 4, 1)],
  [(32, .if_icmp .ge 21, 3), (35, .aload_n 0, 1), (36, .getfield 52, 3), (39, .iload_n 1, 1), (40, .bipush 108, 2), (42, .iload_n 1, 1), (43, .invokestatic 274, 3), (46, .iastore, 1), (47, .iinc 1 1, 3)],
  [(50, .goto (-20), 3), (53, .iconst 1, 1), (54, .istore_n 1, 1), (55, .iload_n 1, 1), (56, .ifCond .eq 55, 3), (59, .aload_n 0, 1), (60, .getfield 166, 3), (63, .iconst (-1), 1)],
  [(64, .if_icmp .ne 47, 3), (67, .aload_n 0, 1), (68, .invokevirtual 296, 3), (71, .aload_n 0, 1), (72, .getfield 166, 3), (75, .iconst (-1), 1), (76, .if_icmp .ne 16, 3), (79, .aload_n 0, 1)],
  [(80, .invokevirtual 176, 3), (83, .bipush 59, 2), (85, .if_icmp .ne 7, 3), (88, .iconst 1, 1), (89, .goto 4, 3), (92, .iconst 0, 1), (93, .istore_n 1, 1), (94, .iload_n 1, 1), (95, .ifCond .eq (-40), 3)],
  [(98, .aload_n 0, 1), (99, .dup, 1), (100, .getfield 157, 3), (103, .iconst 1, 1), (104, .iadd, 1), (105, .putfield 157, 3), (108, .goto (-53), 3), (111, .aload_n 0, 1)],
  [(112, .getfield 166, 3), (115, .iconst (-1), 1), (116, .if_icmp .ne 30, 3), (119, .aload_n 0, 1), (120, .invokevirtual 176, 3), (123, .iconst (-1), 1), (124, .if_icmp .ne 17, 3), (127, .aload_n 0, 1)],
  [(128, .getfield 259, 3), (131, .ifCond .eq 10, 3), (134, .aload_n 0, 1), (135, .getfield 262, 3), (138, .ifCond .ne 8, 3), (141, .aload_n 0, 1), (142, .invokevirtual 172, 3)],
  [(145, .pop, 1), (146, .return_, 1)]]
set_option maxRecDepth 100000 in
theorem cd181_ok : ∀ ch ∈ cd181, ∀ e ∈ ch, decode (byAt 1488) e.1 = .ok (e.2.1, e.2.2) := by decide +kernel
def cd182 : PC := [[(0, .aload_n 0, 1), (1, .iconst 0, 1), (2, .putfield 134, 3), (5, .iload_n 1, 1), (6, .i2l, 1), (7, .lconst 0, 1), (8, .lconst 1, 1), (9, .invokestatic 255, 3), (12, .ifCond .ne 6, 3), (15, .bipush (-2), 2)],
  [(17, .ireturn, 1), (18, .iload_n 1, 1), (19, .ifCond .ne 10, 3), (22, .aload_n 0, 1), (23, .invokevirtual 299, 3), (26, .goto 16, 3), (29, .aload_n 0, 1), (30, .aload_n 0, 1), (31, .getfield 9, 3)],
  [(34, .iconst 0, 1), (35, .aload_n 0, 1), (36, .getfield 148, 3), (39, .invokevirtual 302, 3), (42, .aload_n 0, 1), (43, .getfield 166, 3), (46, .ireturn, 1)]]
set_option maxRecDepth 100000 in
theorem cd182_ok : ∀ ch ∈ cd182, ∀ e ∈ ch, decode (byAt 1481) e.1 = .ok (e.2.1, e.2.2) := by decide +kernel
def cd183 : PC := [[(0, .aload_n 0, 1), (1, .iconst 0, 1), (2, .putfield 134, 3), (5, .iload_n 1, 1), (6, .i2l, 1), (7, .lconst 0, 1), (8, .lconst 1, 1), (9, .invokestatic 255, 3), (12, .ifCond .eq 25, 3), (15, .iload_n 1, 1)],
  [(16, .iconst 1, 1), (17, .if_icmp .ne 11, 3), (20, .aload_n 0, 1), (21, .getfield 305, 3), (24, .iconst 4, 1), (25, .if_icmp .eq 12, 3), (28, .aload_n 0, 1), (29, .iload_n 1, 1), (30, .invokevirtual 308, 3)],
  [(33, .iconst (-1), 1), (34, .if_icmp .eq 5, 3), (37, .iconst (-1), 1), (38, .ireturn, 1), (39, .aload_n 0, 1), (40, .getfield 148, 3), (43, .istore_n 2, 1), (44, .aload_n 0, 1), (45, .iconst 0, 1), (46, .putfield 148, 3)],
  [(49, .iload_n 1, 1), (50, .iconst 1, 1), (51, .if_icmp .ne 64, 3), (54, .iconst 0, 1), (55, .istore_n 3, 1), (56, .iload_n 3, 1), (57, .iload_n 2, 1), (58, .if_icmp .ge 30, 3), (61, .aload_n 0, 1), (62, .getfield 13, 3)],
  [(65, .sipush 160, 3), (68, .aload_n 0, 1), (69, .getfield 305, 3), (72, .imul, 1), (73, .iload_n 3, 1), (74, .iadd, 1), (75, .aload_n 0, 1), (76, .getfield 9, 3), (79, .iload_n 3, 1)],
  [(80, .baload, 1), (81, .bastore, 1), (82, .iinc 3 1, 3), (85, .goto (-29), 3), (88, .aload_n 0, 1), (89, .getfield 16, 3), (92, .aload_n 0, 1), (93, .getfield 305, 3)],
  [(96, .iload_n 2, 1), (97, .iastore, 1), (98, .aload_n 0, 1), (99, .dup, 1), (100, .getfield 305, 3), (103, .iconst 1, 1), (104, .iadd, 1), (105, .putfield 305, 3), (108, .aload_n 0, 1), (109, .getfield 305, 3)],
  [(112, .iconst 1, 1), (113, .isub, 1), (114, .ireturn, 1), (115, .aload_n 0, 1), (116, .aload_n 0, 1), (117, .getfield 259, 3), (120, .putfield 310, 3), (123, .aload_n 0, 1), (124, .aload_n 0, 1), (125, .getfield 262, 3)],
  [(128, .putfield 313, 3), (131, .iconst 0, 1), (132, .istore_n 3, 1), (133, .iload_n 3, 1), (134, .bipush 16, 2), (136, .if_icmp .ge 21, 3), (139, .aload_n 0, 1), (140, .getfield 37, 3), (143, .iload_n 3, 1)],
  [(144, .aload_n 0, 1), (145, .getfield 46, 3), (148, .iload_n 3, 1), (149, .iaload, 1), (150, .iastore, 1), (151, .iinc 3 1, 3), (154, .goto (-21), 3), (157, .iconst 0, 1), (158, .istore_n 3, 1), (159, .iload_n 3, 1)],
  [(160, .bipush 9, 2), (162, .if_icmp .ge 21, 3), (165, .aload_n 0, 1), (166, .getfield 40, 3), (169, .iload_n 3, 1), (170, .aload_n 0, 1), (171, .getfield 49, 3), (174, .iload_n 3, 1), (175, .iaload, 1)],
  [(176, .iastore, 1), (177, .iinc 3 1, 3), (180, .goto (-21), 3), (183, .iconst 0, 1), (184, .istore_n 3, 1), (185, .iload_n 3, 1), (186, .iconst 4, 1), (187, .if_icmp .ge 21, 3), (190, .aload_n 0, 1), (191, .getfield 43, 3)],
  [(194, .iload_n 3, 1), (195, .aload_n 0, 1), (196, .getfield 52, 3), (199, .iload_n 3, 1), (200, .iaload, 1), (201, .iastore, 1), (202, .iinc 3 1, 3), (205, .goto (-20), 3)],
  [(208, .iconst 0, 1), (209, .istore_n 3, 1), (210, .iload_n 3, 1), (211, .iconst 3, 1), (212, .if_icmp .ge 30, 3), (215, .aload_n 0, 1), (216, .getfield 55, 3), (219, .iload_n 3, 1), (220, .iconst (-1), 1), (221, .iastore, 1), (222, .aload_n 0, 1), (223, .getfield 58, 3)],
  [(226, .iload_n 3, 1), (227, .iconst 0, 1), (228, .iastore, 1), (229, .aload_n 0, 1), (230, .getfield 61, 3), (233, .iload_n 3, 1), (234, .iconst 0, 1), (235, .iastore, 1), (236, .iinc 3 1, 3), (239, .goto (-29), 3)],
  [(242, .aload_n 0, 1), (243, .iconst 0, 1), (244, .putfield 316, 3), (247, .aload_n 0, 1), (248, .iconst 0, 1), (249, .putfield 319, 3), (252, .aload_n 0, 1), (253, .iconst 0, 1), (254, .putfield 322, 3)],
  [(257, .aload_n 0, 1), (258, .iconst 0, 1), (259, .putfield 325, 3), (262, .aload_n 0, 1), (263, .invokevirtual 328, 3), (266, .aload_n 0, 1), (267, .getfield 313, 3), (270, .ireturn, 1)]]
set_option maxRecDepth 100000 in
theorem cd183_ok : ∀ ch ∈ cd183, ∀ e ∈ ch, decode (byAt 1643) e.1 = .ok (e.2.1, e.2.2) := by decide +kernel
def cd184 : PC := [[(0, .iload_n 1, 1), (1, .ifCond .lt 15, 3), (4, .iload_n 1, 1), (5, .aload_n 0, 1), (6, .getfield 313, 3), (9, .if_icmp .ge 7, 3), (12, .iconst 1, 1), (13, .goto 4, 3)],
  [(16, .iconst 0, 1), (17, .ireturn, 1)]]
set_option maxRecDepth 100000 in
theorem cd184_ok : ∀ ch ∈ cd184, ∀ e ∈ ch, decode (byAt 1660) e.1 = .ok (e.2.1, e.2.2) := by decide +kernel
def cd185 : PC := [[(0, .aload_n 0, 1), (1, .aload_n 0, 1), (2, .iload_n 1, 1), (3, .invokevirtual 331, 3), (6, .ifCond .eq 19, 3), (9, .iload_n 2, 1), (10, .i2l, 1), (11, .lconst 0, 1), (12, .ldc2_w 334, 3), (15, .invokestatic 255, 3)],
  [(18, .ifCond .eq 7, 3), (21, .iconst 0, 1), (22, .goto 4, 3), (25, .iconst 1, 1), (26, .putfield 134, 3), (29, .aload_n 0, 1), (30, .getfield 134, 3)],
  [(33, .ifCond .le 5, 3), (36, .iconst 0, 1), (37, .ireturn, 1), (38, .iload_n 2, 1), (39, .iconst 3, 1), (40, .if_icmp .ge 16, 3), (43, .aload_n 0, 1), (44, .getfield 40, 3), (47, .iconst 3, 1)],
  [(48, .iload_n 1, 1), (49, .imul, 1), (50, .iload_n 2, 1), (51, .iadd, 1), (52, .iaload, 1), (53, .goto 37, 3), (56, .iload_n 2, 1), (57, .iconst 3, 1), (58, .if_icmp .ne 12, 3), (61, .aload_n 0, 1), (62, .getfield 55, 3)],
  [(65, .iload_n 1, 1), (66, .iaload, 1), (67, .goto 23, 3), (70, .iload_n 2, 1), (71, .iconst 4, 1), (72, .if_icmp .ne 12, 3), (75, .aload_n 0, 1), (76, .getfield 58, 3), (79, .iload_n 1, 1)],
  [(80, .iaload, 1), (81, .goto 9, 3), (84, .aload_n 0, 1), (85, .getfield 61, 3), (88, .iload_n 1, 1), (89, .iaload, 1), (90, .ireturn, 1)]]
set_option maxRecDepth 100000 in
theorem cd185_ok : ∀ ch ∈ cd185, ∀ e ∈ ch, decode (byAt 1656) e.1 = .ok (e.2.1, e.2.2) := by decide +kernel
def cd186 : PC := [[(0, .aload_n 0, 1), (1, .iconst 0, 1), (2, .putfield 134, 3), (5, .iload_n 1, 1), (6, .i2l, 1), (7, .lconst 0, 1), (8, .aload_n 0, 1), (9, .getfield 310, 3), (12, .iconst 1, 1), (13, .isub, 1), (14, .i2l, 1), (15, .invokestatic 255, 3)],
  [(18, .ifCond .eq 28, 3), (21, .iload_n 2, 1), (22, .i2l, 1), (23, .lconst 0, 1), (24, .ldc2_w 336, 3), (27, .invokestatic 255, 3), (30, .ifCond .eq 16, 3)],
  [(33, .aload_n 0, 1), (34, .getfield 37, 3), (37, .iconst 4, 1), (38, .iload_n 1, 1), (39, .imul, 1), (40, .iload_n 2, 1), (41, .iadd, 1), (42, .iaload, 1), (43, .goto 4, 3), (46, .iconst (-1), 1), (47, .ireturn, 1)]]
set_option maxRecDepth 100000 in
theorem cd186_ok : ∀ ch ∈ cd186, ∀ e ∈ ch, decode (byAt 1665) e.1 = .ok (e.2.1, e.2.2) := by decide +kernel
def cd187 : PC := [[(0, .aload_n 0, 1), (1, .iconst 0, 1), (2, .putfield 134, 3), (5, .aload_n 0, 1), (6, .getfield 313, 3), (9, .ifCond .le 24, 3), (12, .iload_n 1, 1), (13, .i2l, 1), (14, .lconst 0, 1), (15, .ldc2_w 336, 3)],
  [(18, .invokestatic 255, 3), (21, .ifCond .eq 12, 3), (24, .aload_n 0, 1), (25, .getfield 43, 3), (28, .iload_n 1, 1), (29, .iaload, 1), (30, .goto 4, 3)],
  [(33, .iconst (-1), 1), (34, .ireturn, 1)]]
set_option maxRecDepth 100000 in
theorem cd187_ok : ∀ ch ∈ cd187, ∀ e ∈ ch, decode (byAt 1670) e.1 = .ok (e.2.1, e.2.2) := by decide +kernel
def cd188 : PC := [[(0, .aload_n 0, 1), (1, .iconst 0, 1), (2, .putfield 134, 3), (5, .aload_n 0, 1), (6, .getfield 313, 3), (9, .ifCond .eq 31, 3), (12, .iload_n 1, 1), (13, .i2l, 1), (14, .lconst 0, 1), (15, .ldc2_w 336, 3)],
  [(18, .invokestatic 255, 3), (21, .ifCond .eq 19, 3), (24, .iload_n 2, 1), (25, .i2l, 1), (26, .lconst 0, 1), (27, .bipush 108, 2), (29, .iload_n 1, 1), (30, .invokestatic 289, 3)],
  [(33, .i2l, 1), (34, .invokestatic 255, 3), (37, .ifCond .ne 5, 3), (40, .iconst 0, 1), (41, .ireturn, 1), (42, .aload_n 0, 1), (43, .getfield 43, 3), (46, .iload_n 1, 1), (47, .iload_n 2, 1)],
  [(48, .iastore, 1), (49, .iconst 1, 1), (50, .ireturn, 1)]]
set_option maxRecDepth 100000 in
theorem cd188_ok : ∀ ch ∈ cd188, ∀ e ∈ ch, decode (byAt 1674) e.1 = .ok (e.2.1, e.2.2) := by decide +kernel
def cd189 : PC := [[(0, .aload_n 0, 1), (1, .iconst 0, 1), (2, .putfield 134, 3), (5, .aload_n 0, 1), (6, .iload_n 1, 1), (7, .invokevirtual 331, 3), (10, .ifCond .eq 24, 3), (13, .iload_n 2, 1), (14, .iconst (-1), 1), (15, .if_icmp .eq 21, 3)],
  [(18, .iload_n 2, 1), (19, .i2l, 1), (20, .lconst 0, 1), (21, .aload_n 0, 1), (22, .getfield 305, 3), (25, .iconst 1, 1), (26, .isub, 1), (27, .i2l, 1), (28, .invokestatic 255, 3), (31, .ifCond .ne 5, 3)],
  [(34, .iconst 0, 1), (35, .ireturn, 1), (36, .aload_n 0, 1), (37, .getfield 55, 3), (40, .iload_n 1, 1), (41, .iload_n 2, 1), (42, .iastore, 1), (43, .iconst 1, 1), (44, .ireturn, 1)]]
set_option maxRecDepth 100000 in
theorem cd189_ok : ∀ ch ∈ cd189, ∀ e ∈ ch, decode (byAt 1678) e.1 = .ok (e.2.1, e.2.2) := by decide +kernel
def cd190 : PC := [[(0, .iload_n 2, 1), (1, .aload_n 0, 1), (2, .getfield 37, 3), (5, .iconst 4, 1), (6, .iload_n 3, 1), (7, .imul, 1), (8, .iaload, 1), (9, .isub, 1), (10, .istore 4, 2), (12, .iload 4, 2), (14, .iload 4, 2)],
  [(16, .imul, 1), (17, .aload_n 0, 1), (18, .getfield 37, 3), (21, .iconst 4, 1), (22, .iload_n 3, 1), (23, .imul, 1), (24, .iconst 1, 1), (25, .iadd, 1), (26, .iaload, 1), (27, .aload_n 0, 1), (28, .getfield 37, 3), (31, .iconst 4, 1)],
  [(32, .iload_n 3, 1), (33, .imul, 1), (34, .iconst 1, 1), (35, .iadd, 1), (36, .iaload, 1), (37, .imul, 1), (38, .iadd, 1), (39, .iload_n 1, 1), (40, .iload_n 1, 1), (41, .imul, 1), (42, .if_icmp .gt 7, 3), (45, .iconst 1, 1), (46, .goto 4, 3)],
  [(49, .iconst 0, 1), (50, .ireturn, 1)]]
set_option maxRecDepth 100000 in
theorem cd190_ok : ∀ ch ∈ cd190, ∀ e ∈ ch, decode (byAt 1652) e.1 = .ok (e.2.1, e.2.2) := by decide +kernel
def cd191 : PC := [[(0, .iconst 0, 1), (1, .istore_n 1, 1), (2, .iload_n 1, 1), (3, .aload_n 0, 1), (4, .getfield 313, 3), (7, .if_icmp .ge 109, 3), (10, .iconst 0, 1), (11, .istore_n 2, 1), (12, .iconst 0, 1), (13, .istore_n 3, 1), (14, .iload_n 3, 1), (15, .bipush 6, 2)],
  [(17, .if_icmp .ge 71, 3), (20, .iconst 0, 1), (21, .istore 4, 2), (23, .iload 4, 2), (25, .aload_n 0, 1), (26, .getfield 310, 3), (29, .if_icmp .ge 53, 3)],
  [(32, .aload_n 0, 1), (33, .aload_n 0, 1), (34, .getfield 40, 3), (37, .iconst 3, 1), (38, .iload_n 1, 1), (39, .imul, 1), (40, .iconst 1, 1), (41, .iadd, 1), (42, .iaload, 1), (43, .iload_n 3, 1), (44, .iload 4, 2), (46, .invokevirtual 338, 3)],
  [(49, .ifCond .ne 6, 3), (52, .goto 24, 3), (55, .aload_n 0, 1), (56, .getfield 64, 3), (59, .bipush 25, 2), (61, .iload_n 1, 1), (62, .imul, 1), (63, .iload_n 2, 1)],
  [(64, .iadd, 1), (65, .bipush 10, 2), (67, .iload_n 3, 1), (68, .imul, 1), (69, .iload 4, 2), (71, .iadd, 1), (72, .iastore, 1), (73, .iinc 2 1, 3), (76, .iinc 4 1, 3), (79, .goto (-56), 3)],
  [(82, .iinc 3 1, 3), (85, .goto (-71), 3), (88, .aload_n 0, 1), (89, .getfield 64, 3), (92, .bipush 25, 2), (94, .iload_n 1, 1), (95, .imul, 1)],
  [(96, .iload_n 2, 1), (97, .iadd, 1), (98, .bipush 99, 2), (100, .iastore, 1), (101, .aload_n 0, 1), (102, .getfield 67, 3), (105, .iload_n 1, 1), (106, .iload_n 2, 1), (107, .iconst 1, 1), (108, .iadd, 1), (109, .iastore, 1), (110, .iinc 1 1, 3)],
  [(113, .goto (-111), 3), (116, .return_, 1)]]
set_option maxRecDepth 100000 in
theorem cd191_ok : ∀ ch ∈ cd191, ∀ e ∈ ch, decode (byAt 1648) e.1 = .ok (e.2.1, e.2.2) := by decide +kernel
def cd192 : PC := [[(0, .iload_n 0, 1), (1, .bipush 99, 2), (3, .if_icmp .eq 24, 3), (6, .iload_n 0, 1), (7, .ifCond .lt 24, 3), (10, .iload_n 0, 1), (11, .bipush 10, 2), (13, .idiv, 1), (14, .bipush 6, 2)],
  [(16, .if_icmp .ge 15, 3), (19, .iload_n 0, 1), (20, .bipush 10, 2), (22, .irem, 1), (23, .iload_n 1, 1), (24, .if_icmp .ge 7, 3), (27, .iconst 1, 1), (28, .goto 4, 3), (31, .iconst 0, 1)],
  [(32, .ireturn, 1)]]
set_option maxRecDepth 100000 in
theorem cd192_ok : ∀ ch ∈ cd192, ∀ e ∈ ch, decode (byAt 1685) e.1 = .ok (e.2.1, e.2.2) := by decide +kernel
def cd193 : PC := [[(0, .aload_n 0, 1), (1, .iconst 0, 1), (2, .putfield 134, 3), (5, .aload_n 0, 1), (6, .iload_n 1, 1), (7, .invokevirtual 331, 3), (10, .ifCond .eq 14, 3), (13, .iload_n 2, 1), (14, .aload_n 0, 1), (15, .getfield 310, 3)],
  [(18, .invokestatic 342, 3), (21, .ifCond .ne 5, 3), (24, .iconst (-1), 1), (25, .ireturn, 1), (26, .iload_n 2, 1), (27, .bipush 99, 2), (29, .if_icmp .eq 28, 3)],
  [(32, .aload_n 0, 1), (33, .aload_n 0, 1), (34, .getfield 40, 3), (37, .iconst 3, 1), (38, .iload_n 1, 1), (39, .imul, 1), (40, .iconst 1, 1), (41, .iadd, 1), (42, .iaload, 1), (43, .iload_n 2, 1), (44, .bipush 10, 2), (46, .idiv, 1), (47, .iload_n 2, 1)],
  [(48, .bipush 10, 2), (50, .irem, 1), (51, .invokevirtual 338, 3), (54, .ifCond .eq 7, 3), (57, .iconst 1, 1), (58, .goto 4, 3), (61, .iconst 0, 1), (62, .ireturn, 1)]]
set_option maxRecDepth 100000 in
theorem cd193_ok : ∀ ch ∈ cd193, ∀ e ∈ ch, decode (byAt 1682) e.1 = .ok (e.2.1, e.2.2) := by decide +kernel
def cd194 : PC := [[(0, .iload_n 1, 1), (1, .istore_n 2, 1), (2, .iload_n 1, 1), (3, .ifCond .lt 10, 3), (6, .aload_n 0, 1), (7, .getfield 313, 3), (10, .ifCond .ne 5, 3), (13, .iconst 0, 1), (14, .ireturn, 1), (15, .aload_n 0, 1)],
  [(16, .getfield 313, 3), (19, .iconst 1, 1), (20, .isub, 1), (21, .istore_n 3, 1), (22, .iload_n 3, 1), (23, .ifCond .lt 87, 3), (26, .aload_n 0, 1), (27, .getfield 70, 3), (30, .iload_n 3, 1), (31, .iload_n 2, 1)],
  [(32, .bipush 100, 2), (34, .irem, 1), (35, .iastore, 1), (36, .iload_n 2, 1), (37, .bipush 100, 2), (39, .idiv, 1), (40, .istore_n 2, 1), (41, .iconst 0, 1), (42, .istore 4, 2), (44, .iconst 0, 1), (45, .istore 5, 2), (47, .iload 5, 2)],
  [(49, .aload_n 0, 1), (50, .getfield 67, 3), (53, .iload_n 3, 1), (54, .iaload, 1), (55, .if_icmp .ge 42, 3), (58, .iload 4, 2), (60, .ifCond .ne 24, 3), (63, .aload_n 0, 1)],
  [(64, .getfield 64, 3), (67, .bipush 25, 2), (69, .iload_n 3, 1), (70, .imul, 1), (71, .iload 5, 2), (73, .iadd, 1), (74, .iaload, 1), (75, .aload_n 0, 1), (76, .getfield 70, 3), (79, .iload_n 3, 1)],
  [(80, .iaload, 1), (81, .if_icmp .ne 7, 3), (84, .iconst 1, 1), (85, .goto 4, 3), (88, .iconst 0, 1), (89, .istore 4, 2), (91, .iinc 5 1, 3), (94, .goto (-47), 3)],
  [(97, .iload 4, 2), (99, .ifCond .ne 5, 3), (102, .iconst 0, 1), (103, .ireturn, 1), (104, .iinc 3 (-1), 3), (107, .goto (-85), 3), (110, .iload_n 2, 1), (111, .ifCond .ne 7, 3)],
  [(114, .iconst 1, 1), (115, .goto 4, 3), (118, .iconst 0, 1), (119, .ireturn, 1)]]
set_option maxRecDepth 100000 in
theorem cd194_ok : ∀ ch ∈ cd194, ∀ e ∈ ch, decode (byAt 1693) e.1 = .ok (e.2.1, e.2.2) := by decide +kernel
def cd195 : PC := [[(0, .aload_n 0, 1), (1, .iconst 0, 1), (2, .putfield 345, 3), (5, .iconst 0, 1), (6, .istore_n 1, 1), (7, .iload_n 1, 1), (8, .aload_n 0, 1), (9, .getfield 313, 3), (12, .if_icmp .ge 166, 3), (15, .aload_n 0, 1)],
  [(16, .getfield 70, 3), (19, .iload_n 1, 1), (20, .iaload, 1), (21, .bipush 99, 2), (23, .if_icmp .ne 7, 3), (26, .iconst 1, 1), (27, .goto 4, 3), (30, .iconst 0, 1), (31, .istore_n 2, 1)],
  [(32, .iconst 0, 1), (33, .istore_n 3, 1), (34, .iload_n 3, 1), (35, .aload_n 0, 1), (36, .getfield 313, 3), (39, .if_icmp .ge 113, 3), (42, .iload_n 3, 1), (43, .iload_n 1, 1), (44, .if_icmp .eq 102, 3), (47, .aload_n 0, 1)],
  [(48, .getfield 70, 3), (51, .iload_n 3, 1), (52, .iaload, 1), (53, .bipush 99, 2), (55, .if_icmp .eq 91, 3), (58, .aload_n 0, 1), (59, .getfield 70, 3), (62, .iload_n 1, 1), (63, .iaload, 1)],
  [(64, .bipush 99, 2), (66, .if_icmp .eq 80, 3), (69, .aload_n 0, 1), (70, .getfield 70, 3), (73, .iload_n 3, 1), (74, .iaload, 1), (75, .bipush 10, 2), (77, .idiv, 1), (78, .aload_n 0, 1), (79, .getfield 70, 3)],
  [(82, .iload_n 1, 1), (83, .iaload, 1), (84, .bipush 10, 2), (86, .idiv, 1), (87, .if_icmp .eq 6, 3), (90, .goto 56, 3), (93, .iload_n 2, 1), (94, .ifCond .ne 46, 3)],
  [(97, .aload_n 0, 1), (98, .getfield 40, 3), (101, .iconst 3, 1), (102, .iload_n 3, 1), (103, .imul, 1), (104, .iaload, 1), (105, .aload_n 0, 1), (106, .getfield 40, 3), (109, .iconst 3, 1), (110, .iload_n 1, 1), (111, .imul, 1)],
  [(112, .iaload, 1), (113, .if_icmp .lt 27, 3), (116, .aload_n 0, 1), (117, .getfield 40, 3), (120, .iconst 3, 1), (121, .iload_n 3, 1), (122, .imul, 1), (123, .iaload, 1), (124, .aload_n 0, 1), (125, .getfield 40, 3)],
  [(128, .iconst 3, 1), (129, .iload_n 1, 1), (130, .imul, 1), (131, .iaload, 1), (132, .if_icmp .ne 12, 3), (135, .iload_n 3, 1), (136, .iload_n 1, 1), (137, .if_icmp .ge 7, 3), (140, .iconst 1, 1), (141, .goto 4, 3)],
  [(144, .iconst 0, 1), (145, .istore_n 2, 1), (146, .iinc 3 1, 3), (149, .goto (-115), 3), (152, .aload_n 0, 1), (153, .dup, 1), (154, .getfield 345, 3), (157, .iload_n 2, 1), (158, .ifCond .eq 9, 3)],
  [(161, .iconst 1, 1), (162, .iload_n 1, 1), (163, .ishl, 1), (164, .goto 4, 3), (167, .iconst 0, 1), (168, .ior, 1), (169, .putfield 345, 3), (172, .iinc 1 1, 3), (175, .goto (-168), 3)],
  [(178, .return_, 1)]]
set_option maxRecDepth 100000 in
theorem cd195_ok : ∀ ch ∈ cd195, ∀ e ∈ ch, decode (byAt 1702) e.1 = .ok (e.2.1, e.2.2) := by decide +kernel
def cd196 : PC := [[(0, .iload_n 1, 1), (1, .iload_n 2, 1), (2, .if_icmp .eq 25, 3), (5, .aload_n 0, 1), (6, .getfield 345, 3), (9, .iload_n 1, 1), (10, .invokestatic 282, 3), (13, .ifCond .ne 14, 3)],
  [(16, .aload_n 0, 1), (17, .getfield 345, 3), (20, .iload_n 2, 1), (21, .invokestatic 282, 3), (24, .ifCond .eq 5, 3), (27, .iconst 0, 1), (28, .ireturn, 1), (29, .aload_n 0, 1), (30, .getfield 70, 3)],
  [(33, .iload_n 1, 1), (34, .iaload, 1), (35, .bipush 10, 2), (37, .idiv, 1), (38, .aload_n 0, 1), (39, .getfield 70, 3), (42, .iload_n 2, 1), (43, .iaload, 1), (44, .bipush 10, 2), (46, .idiv, 1), (47, .isub, 1)],
  [(48, .aload_n 0, 1), (49, .getfield 37, 3), (52, .iconst 4, 1), (53, .aload_n 0, 1), (54, .getfield 70, 3), (57, .iload_n 1, 1), (58, .iaload, 1), (59, .bipush 10, 2), (61, .irem, 1), (62, .imul, 1), (63, .iaload, 1)],
  [(64, .aload_n 0, 1), (65, .getfield 37, 3), (68, .iconst 4, 1), (69, .aload_n 0, 1), (70, .getfield 70, 3), (73, .iload_n 2, 1), (74, .iaload, 1), (75, .bipush 10, 2), (77, .irem, 1), (78, .imul, 1), (79, .iaload, 1)],
  [(80, .isub, 1), (81, .imul, 1), (82, .ifCond .ge 7, 3), (85, .iconst 1, 1), (86, .goto 4, 3), (89, .iconst 0, 1), (90, .ireturn, 1)]]
set_option maxRecDepth 100000 in
theorem cd196_ok : ∀ ch ∈ cd196, ∀ e ∈ ch, decode (byAt 1706) e.1 = .ok (e.2.1, e.2.2) := by decide +kernel
def cd197 : PC := [[(0, .aload_n 0, 1), (1, .getfield 70, 3), (4, .iload_n 1, 1), (5, .iaload, 1), (6, .bipush 10, 2), (8, .irem, 1), (9, .istore_n 3, 1), (10, .iload_n 2, 1), (11, .aload_n 0, 1), (12, .getfield 40, 3), (15, .iconst 3, 1)],
  [(16, .iload_n 1, 1), (17, .imul, 1), (18, .iaload, 1), (19, .isub, 1), (20, .iconst 1, 1), (21, .isub, 1), (22, .istore 4, 2), (24, .iload 4, 2), (26, .ifCond .le 52, 3), (29, .iload 4, 2), (31, .aload_n 0, 1)],
  [(32, .getfield 76, 3), (35, .iload_n 1, 1), (36, .iaload, 1), (37, .irem, 1), (38, .ifCond .ne 40, 3), (41, .iload 4, 2), (43, .aload_n 0, 1), (44, .getfield 76, 3), (47, .iload_n 1, 1)],
  [(48, .iaload, 1), (49, .idiv, 1), (50, .iconst 2, 1), (51, .irem, 1), (52, .ifCond .eq 26, 3), (55, .iload_n 2, 1), (56, .aload_n 0, 1), (57, .getfield 37, 3), (60, .iconst 4, 1), (61, .iload_n 3, 1), (62, .imul, 1), (63, .iconst 3, 1)],
  [(64, .iadd, 1), (65, .iaload, 1), (66, .if_icmp .ge 12, 3), (69, .aload_n 0, 1), (70, .getfield 85, 3), (73, .iload_n 3, 1), (74, .iaload, 1), (75, .ifCond .ne 4, 3), (78, .return_, 1), (79, .aload_n 0, 1)],
  [(80, .getfield 85, 3), (83, .iload_n 3, 1), (84, .dup2, 1), (85, .iaload, 1), (86, .iconst 1, 1), (87, .isub, 1), (88, .iastore, 1), (89, .aload_n 0, 1), (90, .getfield 79, 3), (93, .iload_n 1, 1), (94, .dup2, 1), (95, .iaload, 1)],
  [(96, .iconst 1, 1), (97, .iadd, 1), (98, .iastore, 1), (99, .aload_n 0, 1), (100, .getfield 91, 3), (103, .iconst 3, 1), (104, .iload_n 3, 1), (105, .imul, 1), (106, .iload_n 1, 1), (107, .iadd, 1), (108, .dup2, 1), (109, .iaload, 1), (110, .iconst 1, 1), (111, .iadd, 1)],
  [(112, .iastore, 1), (113, .aload_n 0, 1), (114, .getfield 88, 3), (117, .iload_n 3, 1), (118, .iaload, 1), (119, .iconst (-1), 1), (120, .if_icmp .ne 10, 3), (123, .aload_n 0, 1), (124, .getfield 88, 3), (127, .iload_n 3, 1)],
  [(128, .iload_n 1, 1), (129, .iastore, 1), (130, .aload_n 0, 1), (131, .getfield 94, 3), (134, .aload_n 0, 1), (135, .getfield 348, 3), (138, .iload_n 2, 1), (139, .iastore, 1), (140, .aload_n 0, 1), (141, .getfield 97, 3)],
  [(144, .aload_n 0, 1), (145, .getfield 348, 3), (148, .iload_n 1, 1), (149, .iastore, 1), (150, .aload_n 0, 1), (151, .getfield 100, 3), (154, .aload_n 0, 1), (155, .getfield 348, 3), (158, .iload_n 3, 1), (159, .iastore, 1)],
  [(160, .aload_n 0, 1), (161, .dup, 1), (162, .getfield 348, 3), (165, .iconst 1, 1), (166, .iadd, 1), (167, .putfield 348, 3), (170, .return_, 1)]]
set_option maxRecDepth 100000 in
theorem cd197_ok : ∀ ch ∈ cd197, ∀ e ∈ ch, decode (byAt 1710) e.1 = .ok (e.2.1, e.2.2) := by decide +kernel
def cd198 : PC := [[(0, .aload_n 0, 1), (1, .invokevirtual 351, 3), (4, .aload_n 0, 1), (5, .iconst 0, 1), (6, .putfield 348, 3), (9, .iconst 0, 1), (10, .istore_n 1, 1), (11, .iload_n 1, 1), (12, .aload_n 0, 1), (13, .getfield 310, 3)],
  [(16, .if_icmp .ge 32, 3), (19, .aload_n 0, 1), (20, .getfield 85, 3), (23, .iload_n 1, 1), (24, .aload_n 0, 1), (25, .getfield 37, 3), (28, .iconst 4, 1), (29, .iload_n 1, 1), (30, .imul, 1), (31, .iconst 2, 1)],
  [(32, .iadd, 1), (33, .iaload, 1), (34, .iastore, 1), (35, .aload_n 0, 1), (36, .getfield 88, 3), (39, .iload_n 1, 1), (40, .iconst (-1), 1), (41, .iastore, 1), (42, .iinc 1 1, 3), (45, .goto (-34), 3)],
  [(48, .iconst 0, 1), (49, .istore_n 1, 1), (50, .iload_n 1, 1), (51, .bipush 12, 2), (53, .if_icmp .ge 16, 3), (56, .aload_n 0, 1), (57, .getfield 91, 3), (60, .iload_n 1, 1), (61, .iconst 0, 1), (62, .iastore, 1), (63, .iinc 1 1, 3)],
  [(66, .goto (-16), 3), (69, .iconst 0, 1), (70, .istore_n 1, 1), (71, .iload_n 1, 1), (72, .aload_n 0, 1), (73, .getfield 313, 3), (76, .if_icmp .ge 121, 3), (79, .aload_n 0, 1)],
  [(80, .getfield 79, 3), (83, .iload_n 1, 1), (84, .iconst 0, 1), (85, .iastore, 1), (86, .aload_n 0, 1), (87, .getfield 73, 3), (90, .iload_n 1, 1), (91, .iconst 0, 1), (92, .iastore, 1), (93, .iconst 0, 1), (94, .istore_n 2, 1), (95, .iload_n 2, 1)],
  [(96, .aload_n 0, 1), (97, .getfield 313, 3), (100, .if_icmp .ge 32, 3), (103, .aload_n 0, 1), (104, .getfield 73, 3), (107, .iload_n 1, 1), (108, .dup2, 1), (109, .iaload, 1), (110, .aload_n 0, 1), (111, .iload_n 1, 1)],
  [(112, .iload_n 2, 1), (113, .invokevirtual 354, 3), (116, .ifCond .eq 7, 3), (119, .iconst 1, 1), (120, .goto 4, 3), (123, .iconst 0, 1), (124, .iadd, 1), (125, .iastore, 1), (126, .iinc 2 1, 3)],
  [(129, .goto (-34), 3), (132, .aload_n 0, 1), (133, .getfield 76, 3), (136, .iload_n 1, 1), (137, .aload_n 0, 1), (138, .getfield 345, 3), (141, .iload_n 1, 1), (142, .invokestatic 282, 3)],
  [(145, .ifCond .eq 7, 3), (148, .iconst 1, 1), (149, .goto 41, 3), (152, .aload_n 0, 1), (153, .getfield 40, 3), (156, .iconst 3, 1), (157, .iload_n 1, 1), (158, .imul, 1), (159, .iconst 2, 1)],
  [(160, .iadd, 1), (161, .iaload, 1), (162, .aload_n 0, 1), (163, .getfield 37, 3), (166, .iconst 4, 1), (167, .aload_n 0, 1), (168, .getfield 70, 3), (171, .iload_n 1, 1), (172, .iaload, 1), (173, .bipush 10, 2), (175, .irem, 1)],
  [(176, .imul, 1), (177, .iconst 1, 1), (178, .iadd, 1), (179, .iaload, 1), (180, .imul, 1), (181, .aload_n 0, 1), (182, .getfield 73, 3), (185, .iload_n 1, 1), (186, .iaload, 1), (187, .iconst 1, 1), (188, .iadd, 1), (189, .imul, 1), (190, .iastore, 1), (191, .iinc 1 1, 3)],
  [(194, .goto (-123), 3), (197, .iconst 1, 1), (198, .istore_n 1, 1), (199, .iload_n 1, 1), (200, .bipush 60, 2), (202, .if_icmp .ge 42, 3), (205, .iconst 0, 1), (206, .istore_n 2, 1), (207, .iload_n 2, 1)],
  [(208, .aload_n 0, 1), (209, .getfield 313, 3), (212, .if_icmp .ge 26, 3), (215, .aload_n 0, 1), (216, .getfield 345, 3), (219, .iload_n 2, 1), (220, .invokestatic 282, 3), (223, .ifCond .ne 9, 3)],
  [(226, .aload_n 0, 1), (227, .iload_n 2, 1), (228, .iload_n 1, 1), (229, .invokevirtual 357, 3), (232, .iinc 2 1, 3), (235, .goto (-28), 3), (238, .iinc 1 1, 3)],
  [(241, .goto (-42), 3), (244, .aload_n 0, 1), (245, .getfield 313, 3), (248, .aload_n 0, 1), (249, .getfield 345, 3), (252, .invokestatic 361, 3), (255, .isub, 1)],
  [(256, .istore_n 1, 1), (257, .iconst 0, 1), (258, .istore_n 2, 1), (259, .iload_n 2, 1), (260, .aload_n 0, 1), (261, .getfield 313, 3), (264, .if_icmp .ge 169, 3), (267, .aload_n 0, 1), (268, .getfield 345, 3), (271, .iload_n 2, 1)],
  [(272, .invokestatic 282, 3), (275, .ifCond .eq 18, 3), (278, .aload_n 0, 1), (279, .getfield 82, 3), (282, .iload_n 2, 1), (283, .aload_n 0, 1), (284, .getfield 43, 3), (287, .iconst 1, 1)],
  [(288, .iaload, 1), (289, .iastore, 1), (290, .goto 137, 3), (293, .iconst 0, 1), (294, .istore_n 3, 1), (295, .aload_n 0, 1), (296, .getfield 43, 3), (299, .iconst 3, 1), (300, .iaload, 1), (301, .ifCond .ne 17, 3)],
  [(304, .aload_n 0, 1), (305, .getfield 43, 3), (308, .iconst 0, 1), (309, .iaload, 1), (310, .aload_n 0, 1), (311, .getfield 79, 3), (314, .iload_n 2, 1), (315, .iaload, 1), (316, .imul, 1), (317, .istore_n 3, 1), (318, .aload_n 0, 1), (319, .getfield 43, 3)],
  [(322, .iconst 3, 1), (323, .iaload, 1), (324, .iconst 1, 1), (325, .if_icmp .ne 17, 3), (328, .aload_n 0, 1), (329, .getfield 43, 3), (332, .iconst 0, 1), (333, .iaload, 1), (334, .aload_n 0, 1), (335, .getfield 348, 3)],
  [(338, .imul, 1), (339, .iload_n 1, 1), (340, .idiv, 1), (341, .istore_n 3, 1), (342, .aload_n 0, 1), (343, .getfield 43, 3), (346, .iconst 3, 1), (347, .iaload, 1), (348, .iconst 2, 1), (349, .if_icmp .ne 57, 3)],
  [(352, .iconst 0, 1), (353, .istore 4, 2), (355, .iload 4, 2), (357, .aload_n 0, 1), (358, .getfield 310, 3), (361, .if_icmp .ge 45, 3), (364, .iload_n 3, 1), (365, .aload_n 0, 1), (366, .getfield 88, 3)],
  [(369, .iload 4, 2), (371, .iaload, 1), (372, .iload_n 2, 1), (373, .if_icmp .ne 24, 3), (376, .aload_n 0, 1), (377, .getfield 43, 3), (380, .iconst 0, 1), (381, .iaload, 1), (382, .aload_n 0, 1), (383, .getfield 91, 3)],
  [(386, .iconst 3, 1), (387, .iload 4, 2), (389, .imul, 1), (390, .iload_n 2, 1), (391, .iadd, 1), (392, .iaload, 1), (393, .imul, 1), (394, .goto 4, 3), (397, .iconst 0, 1), (398, .iadd, 1), (399, .istore_n 3, 1)],
  [(400, .iinc 4 1, 3), (403, .goto (-48), 3), (406, .aload_n 0, 1), (407, .getfield 82, 3), (410, .iload_n 2, 1), (411, .iload_n 3, 1), (412, .aload_n 0, 1), (413, .getfield 43, 3)],
  [(416, .iconst 2, 1), (417, .iaload, 1), (418, .aload_n 0, 1), (419, .getfield 73, 3), (422, .iload_n 2, 1), (423, .iaload, 1), (424, .imul, 1), (425, .isub, 1), (426, .iastore, 1), (427, .iinc 2 1, 3), (430, .goto (-171), 3)],
  [(433, .return_, 1)]]
set_option maxRecDepth 100000 in
theorem cd198_ok : ∀ ch ∈ cd198, ∀ e ∈ ch, decode (byAt 1698) e.1 = .ok (e.2.1, e.2.2) := by decide +kernel
def cd199 : PC := [[(0, .aload_n 0, 1), (1, .iconst 0, 1), (2, .putfield 134, 3), (5, .aload_n 0, 1), (6, .iload_n 2, 1), (7, .invokevirtual 331, 3), (10, .ifCond .eq 23, 3), (13, .iload_n 3, 1), (14, .i2l, 1), (15, .lconst 0, 1)],
  [(16, .ldc2_w 336, 3), (19, .invokestatic 255, 3), (22, .ifCond .eq 11, 3), (25, .aload_n 0, 1), (26, .iload_n 1, 1), (27, .invokevirtual 366, 3), (30, .ifCond .ne 7, 3)],
  [(33, .ldc_w 369, 3), (36, .ireturn, 1), (37, .aload_n 0, 1), (38, .invokevirtual 370, 3), (41, .iload_n 3, 1), (42, .ifCond .ne 10, 3), (45, .aload_n 0, 1), (46, .getfield 79, 3)],
  [(49, .iload_n 2, 1), (50, .iaload, 1), (51, .ireturn, 1), (52, .iload_n 3, 1), (53, .iconst 1, 1), (54, .if_icmp .ne 10, 3), (57, .aload_n 0, 1), (58, .getfield 82, 3), (61, .iload_n 2, 1), (62, .iaload, 1), (63, .ireturn, 1)],
  [(64, .aload_n 0, 1), (65, .getfield 345, 3), (68, .iload_n 2, 1), (69, .invokestatic 282, 3), (72, .ifCond .eq 7, 3), (75, .iconst (-1), 1), (76, .goto 23, 3), (79, .iload_n 3, 1)],
  [(80, .iconst 2, 1), (81, .if_icmp .ne 12, 3), (84, .aload_n 0, 1), (85, .getfield 73, 3), (88, .iload_n 2, 1), (89, .iaload, 1), (90, .goto 9, 3), (93, .aload_n 0, 1), (94, .getfield 76, 3)],
  [(97, .iload_n 2, 1), (98, .iaload, 1), (99, .ireturn, 1)]]
set_option maxRecDepth 100000 in
theorem cd199_ok : ∀ ch ∈ cd199, ∀ e ∈ ch, decode (byAt 1689) e.1 = .ok (e.2.1, e.2.2) := by decide +kernel
def cd200 : PC := [[(0, .aload_n 0, 1), (1, .iconst 0, 1), (2, .putfield 134, 3), (5, .iload_n 2, 1), (6, .bipush 9, 2), (8, .if_icmp .eq 17, 3), (11, .iload_n 2, 1), (12, .i2l, 1), (13, .lconst 0, 1), (14, .aload_n 0, 1), (15, .getfield 310, 3)],
  [(18, .i2l, 1), (19, .invokestatic 255, 3), (22, .ifCond .eq 11, 3), (25, .aload_n 0, 1), (26, .iload_n 1, 1), (27, .invokevirtual 366, 3), (30, .ifCond .ne 7, 3)],
  [(33, .ldc_w 369, 3), (36, .ireturn, 1), (37, .aload_n 0, 1), (38, .invokevirtual 370, 3), (41, .iload_n 2, 1), (42, .ifCond .ne 10, 3), (45, .aload_n 0, 1), (46, .getfield 348, 3)],
  [(49, .goto 37, 3), (52, .iload_n 2, 1), (53, .bipush 9, 2), (55, .if_icmp .ne 10, 3), (58, .aload_n 0, 1), (59, .getfield 345, 3), (62, .goto 24, 3)],
  [(65, .aload_n 0, 1), (66, .getfield 37, 3), (69, .iconst 4, 1), (70, .iload_n 2, 1), (71, .iconst 1, 1), (72, .isub, 1), (73, .imul, 1), (74, .iconst 2, 1), (75, .iadd, 1), (76, .iaload, 1), (77, .aload_n 0, 1), (78, .getfield 85, 3)],
  [(81, .iload_n 2, 1), (82, .iconst 1, 1), (83, .isub, 1), (84, .iaload, 1), (85, .isub, 1), (86, .ireturn, 1)]]
set_option maxRecDepth 100000 in
theorem cd200_ok : ∀ ch ∈ cd200, ∀ e ∈ ch, decode (byAt 1715) e.1 = .ok (e.2.1, e.2.2) := by decide +kernel
def cd201 : PC := [[(0, .aload_n 0, 1), (1, .iconst 0, 1), (2, .putfield 134, 3), (5, .iload_n 3, 1), (6, .i2l, 1), (7, .lconst 0, 1), (8, .ldc2_w 373, 3), (11, .invokestatic 255, 3), (14, .ifCond .eq 11, 3)],
  [(17, .aload_n 0, 1), (18, .iload_n 1, 1), (19, .invokevirtual 366, 3), (22, .ifCond .ne 7, 3), (25, .ldc_w 369, 3), (28, .ireturn, 1), (29, .aload_n 0, 1), (30, .invokevirtual 370, 3)],
  [(33, .iload_n 2, 1), (34, .i2l, 1), (35, .lconst 0, 1), (36, .aload_n 0, 1), (37, .getfield 348, 3), (40, .iconst 1, 1), (41, .isub, 1), (42, .i2l, 1), (43, .invokestatic 255, 3), (46, .ifCond .ne 7, 3)],
  [(49, .ldc_w 369, 3), (52, .ireturn, 1), (53, .iload_n 3, 1), (54, .ifCond .ne 12, 3), (57, .aload_n 0, 1), (58, .getfield 94, 3), (61, .iload_n 2, 1), (62, .iaload, 1), (63, .goto 23, 3)],
  [(66, .iload_n 3, 1), (67, .iconst 1, 1), (68, .if_icmp .ne 12, 3), (71, .aload_n 0, 1), (72, .getfield 97, 3), (75, .iload_n 2, 1), (76, .iaload, 1), (77, .goto 9, 3)],
  [(80, .aload_n 0, 1), (81, .getfield 100, 3), (84, .iload_n 2, 1), (85, .iaload, 1), (86, .ireturn, 1)]]
set_option maxRecDepth 100000 in
theorem cd201_ok : ∀ ch ∈ cd201, ∀ e ∈ ch, decode (byAt 1719) e.1 = .ok (e.2.1, e.2.2) := by decide +kernel
def cd202 : PC := [[(0, .aload_n 0, 1), (1, .iconst 0, 1), (2, .putfield 134, 3), (5, .aload_n 0, 1), (6, .iload_n 2, 1), (7, .invokevirtual 331, 3), (10, .ifCond .eq 21, 3), (13, .iload_n 3, 1), (14, .i2l, 1), (15, .lconst 0, 1)],
  [(16, .lconst 1, 1), (17, .invokestatic 255, 3), (20, .ifCond .eq 11, 3), (23, .aload_n 0, 1), (24, .iload_n 1, 1), (25, .invokevirtual 366, 3), (28, .ifCond .ne 7, 3), (31, .ldc_w 369, 3)],
  [(34, .ireturn, 1), (35, .iconst (-1), 1), (36, .istore 4, 2), (38, .iconst 0, 1), (39, .istore 5, 2), (41, .iconst 0, 1), (42, .istore 6, 2), (44, .iload 6, 2), (46, .aload_n 0, 1), (47, .getfield 67, 3)],
  [(50, .iload_n 2, 1), (51, .iaload, 1), (52, .if_icmp .ge 67, 3), (55, .aload_n 0, 1), (56, .getfield 70, 3), (59, .iload_n 2, 1), (60, .aload_n 0, 1), (61, .getfield 64, 3)],
  [(64, .bipush 25, 2), (66, .iload_n 2, 1), (67, .imul, 1), (68, .iload 6, 2), (70, .iadd, 1), (71, .iaload, 1), (72, .iastore, 1), (73, .aload_n 0, 1), (74, .invokevirtual 370, 3), (77, .iload 4, 2), (79, .iconst (-1), 1)],
  [(80, .if_icmp .eq 17, 3), (83, .aload_n 0, 1), (84, .getfield 82, 3), (87, .iload_n 2, 1), (88, .iaload, 1), (89, .iload 5, 2), (91, .if_icmp .gt 6, 3), (94, .goto 19, 3)],
  [(97, .aload_n 0, 1), (98, .getfield 70, 3), (101, .iload_n 2, 1), (102, .iaload, 1), (103, .istore 4, 2), (105, .aload_n 0, 1), (106, .getfield 82, 3), (109, .iload_n 2, 1), (110, .iaload, 1), (111, .istore 5, 2)],
  [(113, .iinc 6 1, 3), (116, .goto (-72), 3), (119, .iload_n 3, 1), (120, .ifCond .ne 8, 3), (123, .iload 4, 2), (125, .goto 5, 3)],
  [(128, .iload 5, 2), (130, .ireturn, 1)]]
set_option maxRecDepth 100000 in
theorem cd202_ok : ∀ ch ∈ cd202, ∀ e ∈ ch, decode (byAt 1724) e.1 = .ok (e.2.1, e.2.2) := by decide +kernel
def cd203 : PC := [[(0, .iconst 1, 1), (1, .istore_n 2, 1), (2, .iload_n 1, 1), (3, .iconst 1, 1), (4, .iadd, 1), (5, .istore_n 3, 1), (6, .iload_n 3, 1), (7, .aload_n 0, 1), (8, .getfield 313, 3), (11, .if_icmp .ge 18, 3), (14, .iload_n 2, 1), (15, .aload_n 0, 1)],
  [(16, .getfield 67, 3), (19, .iload_n 3, 1), (20, .iaload, 1), (21, .imul, 1), (22, .istore_n 2, 1), (23, .iinc 3 1, 3), (26, .goto (-20), 3), (29, .iload_n 2, 1), (30, .ireturn, 1)]]
set_option maxRecDepth 100000 in
theorem cd203_ok : ∀ ch ∈ cd203, ∀ e ∈ ch, decode (byAt 1744) e.1 = .ok (e.2.1, e.2.2) := by decide +kernel
def cd204 : PC := [[(0, .iload_n 1, 1), (1, .aload_n 0, 1), (2, .iload_n 2, 1), (3, .invokevirtual 375, 3), (6, .idiv, 1), (7, .aload_n 0, 1), (8, .getfield 67, 3), (11, .iload_n 2, 1), (12, .iaload, 1), (13, .irem, 1), (14, .ireturn, 1)]]
set_option maxRecDepth 100000 in
theorem cd204_ok : ∀ ch ∈ cd204, ∀ e ∈ ch, decode (byAt 1740) e.1 = .ok (e.2.1, e.2.2) := by decide +kernel
def cd205 : PC := [[(0, .iconst 0, 1), (1, .istore_n 2, 1), (2, .iload_n 2, 1), (3, .aload_n 0, 1), (4, .getfield 313, 3), (7, .if_icmp .ge 31, 3), (10, .aload_n 0, 1), (11, .getfield 70, 3), (14, .iload_n 2, 1), (15, .aload_n 0, 1)],
  [(16, .getfield 64, 3), (19, .bipush 25, 2), (21, .iload_n 2, 1), (22, .imul, 1), (23, .aload_n 0, 1), (24, .iload_n 1, 1), (25, .iload_n 2, 1), (26, .invokevirtual 378, 3), (29, .iadd, 1), (30, .iaload, 1), (31, .iastore, 1)],
  [(32, .iinc 2 1, 3), (35, .goto (-33), 3), (38, .return_, 1)]]
set_option maxRecDepth 100000 in
theorem cd205_ok : ∀ ch ∈ cd205, ∀ e ∈ ch, decode (byAt 1736) e.1 = .ok (e.2.1, e.2.2) := by decide +kernel
def cd206 : PC := [[(0, .aload_n 0, 1), (1, .iload_n 1, 1), (2, .invokevirtual 381, 3), (5, .iconst 0, 1), (6, .istore_n 2, 1), (7, .iconst 0, 1), (8, .istore_n 3, 1), (9, .iload_n 3, 1), (10, .aload_n 0, 1), (11, .getfield 313, 3), (14, .if_icmp .ge 21, 3)],
  [(17, .bipush 100, 2), (19, .iload_n 2, 1), (20, .imul, 1), (21, .aload_n 0, 1), (22, .getfield 70, 3), (25, .iload_n 3, 1), (26, .iaload, 1), (27, .iadd, 1), (28, .istore_n 2, 1), (29, .iinc 3 1, 3)],
  [(32, .goto (-23), 3), (35, .iload_n 2, 1), (36, .ireturn, 1)]]
set_option maxRecDepth 100000 in
theorem cd206_ok : ∀ ch ∈ cd206, ∀ e ∈ ch, decode (byAt 1752) e.1 = .ok (e.2.1, e.2.2) := by decide +kernel
def cd207 : PC := [[(0, .aload_n 0, 1), (1, .iconst 1, 1), (2, .putfield 384, 3), (5, .iconst 0, 1), (6, .istore_n 1, 1), (7, .iload_n 1, 1), (8, .aload_n 0, 1), (9, .getfield 313, 3), (12, .if_icmp .ge 24, 3), (15, .aload_n 0, 1)],
  [(16, .dup, 1), (17, .getfield 384, 3), (20, .aload_n 0, 1), (21, .getfield 67, 3), (24, .iload_n 1, 1), (25, .iaload, 1), (26, .imul, 1), (27, .putfield 384, 3), (30, .iinc 1 1, 3)],
  [(33, .goto (-26), 3), (36, .iconst 0, 1), (37, .istore_n 1, 1), (38, .iload_n 1, 1), (39, .aload_n 0, 1), (40, .getfield 384, 3), (43, .if_icmp .ge 113, 3), (46, .aload_n 0, 1), (47, .iload_n 1, 1)],
  [(48, .invokevirtual 381, 3), (51, .aload_n 0, 1), (52, .invokevirtual 370, 3), (55, .aload_n 0, 1), (56, .getfield 107, 3), (59, .iload_n 1, 1), (60, .aload_n 0, 1), (61, .getfield 348, 3)],
  [(64, .iastore, 1), (65, .aload_n 0, 1), (66, .getfield 110, 3), (69, .iload_n 1, 1), (70, .aload_n 0, 1), (71, .getfield 345, 3), (74, .iastore, 1), (75, .aload_n 0, 1), (76, .getfield 113, 3), (79, .iload_n 1, 1)],
  [(80, .iconst 0, 1), (81, .iastore, 1), (82, .iconst 0, 1), (83, .istore_n 2, 1), (84, .iload_n 2, 1), (85, .aload_n 0, 1), (86, .getfield 313, 3), (89, .if_icmp .ge 61, 3), (92, .aload_n 0, 1), (93, .getfield 104, 3)],
  [(96, .iconst 3, 1), (97, .iload_n 1, 1), (98, .imul, 1), (99, .iload_n 2, 1), (100, .iadd, 1), (101, .aload_n 0, 1), (102, .getfield 82, 3), (105, .iload_n 2, 1), (106, .iaload, 1), (107, .iastore, 1), (108, .aload_n 0, 1), (109, .getfield 113, 3)],
  [(112, .iload_n 1, 1), (113, .dup2, 1), (114, .iaload, 1), (115, .aload_n 0, 1), (116, .getfield 345, 3), (119, .iload_n 2, 1), (120, .invokestatic 282, 3), (123, .ifCond .ne 18, 3), (126, .aload_n 0, 1), (127, .getfield 73, 3)],
  [(130, .iload_n 2, 1), (131, .iaload, 1), (132, .ifCond .le 9, 3), (135, .iconst 1, 1), (136, .iload_n 2, 1), (137, .ishl, 1), (138, .goto 4, 3), (141, .iconst 0, 1), (142, .ior, 1), (143, .iastore, 1)],
  [(144, .iinc 2 1, 3), (147, .goto (-63), 3), (150, .iinc 1 1, 3), (153, .goto (-115), 3), (156, .return_, 1)]]
set_option maxRecDepth 100000 in
theorem cd207_ok : ∀ ch ∈ cd207, ∀ e ∈ ch, decode (byAt 1732) e.1 = .ok (e.2.1, e.2.2) := by decide +kernel
def cd208 : PC := [[(0, .iconst 0, 1), (1, .istore_n 2, 1), (2, .iload_n 2, 1), (3, .aload_n 0, 1), (4, .getfield 313, 3), (7, .if_icmp .ge 78, 3), (10, .iload_n 1, 1), (11, .aload_n 0, 1), (12, .iload_n 1, 1), (13, .iload_n 2, 1), (14, .invokevirtual 378, 3)],
  [(17, .aload_n 0, 1), (18, .iload_n 2, 1), (19, .invokevirtual 375, 3), (22, .imul, 1), (23, .isub, 1), (24, .istore_n 3, 1), (25, .iconst 0, 1), (26, .istore 4, 2), (28, .iload 4, 2), (30, .aload_n 0, 1), (31, .getfield 67, 3)],
  [(34, .iload_n 2, 1), (35, .iaload, 1), (36, .if_icmp .ge 43, 3), (39, .aload_n 0, 1), (40, .getfield 104, 3), (43, .iconst 3, 1), (44, .iload_n 3, 1), (45, .iload 4, 2), (47, .aload_n 0, 1)],
  [(48, .iload_n 2, 1), (49, .invokevirtual 375, 3), (52, .imul, 1), (53, .iadd, 1), (54, .imul, 1), (55, .iload_n 2, 1), (56, .iadd, 1), (57, .iaload, 1), (58, .aload_n 0, 1), (59, .getfield 104, 3), (62, .iconst 3, 1), (63, .iload_n 1, 1)],
  [(64, .imul, 1), (65, .iload_n 2, 1), (66, .iadd, 1), (67, .iaload, 1), (68, .if_icmp .le 5, 3), (71, .iconst 0, 1), (72, .ireturn, 1), (73, .iinc 4 1, 3), (76, .goto (-48), 3), (79, .iinc 2 1, 3)],
  [(82, .goto (-80), 3), (85, .iconst 1, 1), (86, .ireturn, 1)]]
set_option maxRecDepth 100000 in
theorem cd208_ok : ∀ ch ∈ cd208, ∀ e ∈ ch, decode (byAt 1748) e.1 = .ok (e.2.1, e.2.2) := by decide +kernel
def cd209 : PC := [[(0, .aload_n 0, 1), (1, .iconst 0, 1), (2, .putfield 134, 3), (5, .aload_n 0, 1), (6, .getfield 313, 3), (9, .ifCond .eq 8, 3), (12, .iload_n 1, 1), (13, .iconst (-1), 1), (14, .if_icmp .ge 5, 3)],
  [(17, .iconst (-1), 1), (18, .ireturn, 1), (19, .aload_n 0, 1), (20, .invokevirtual 387, 3), (23, .iconst 0, 1), (24, .istore_n 2, 1), (25, .iconst 0, 1), (26, .istore_n 3, 1), (27, .iload_n 3, 1), (28, .aload_n 0, 1), (29, .getfield 384, 3)],
  [(32, .if_icmp .ge 34, 3), (35, .aload_n 0, 1), (36, .iload_n 3, 1), (37, .invokevirtual 390, 3), (40, .ifCond .ne 6, 3), (43, .goto 17, 3), (46, .iload_n 2, 1), (47, .iload_n 1, 1)],
  [(48, .if_icmp .ne 9, 3), (51, .aload_n 0, 1), (52, .iload_n 3, 1), (53, .invokevirtual 393, 3), (56, .ireturn, 1), (57, .iinc 2 1, 3), (60, .iinc 3 1, 3), (63, .goto (-36), 3)],
  [(66, .iload_n 1, 1), (67, .iconst (-1), 1), (68, .if_icmp .ne 7, 3), (71, .iload_n 2, 1), (72, .goto 4, 3), (75, .iconst (-1), 1), (76, .ireturn, 1)]]
set_option maxRecDepth 100000 in
theorem cd209_ok : ∀ ch ∈ cd209, ∀ e ∈ ch, decode (byAt 1728) e.1 = .ok (e.2.1, e.2.2) := by decide +kernel
def cd210 : PC := [[(0, .iconst 0, 1), (1, .istore_n 1, 1), (2, .iconst 1, 1), (3, .istore_n 2, 1), (4, .iload_n 2, 1), (5, .aload_n 0, 1), (6, .getfield 384, 3), (9, .if_icmp .ge 26, 3), (12, .aload_n 0, 1), (13, .getfield 107, 3)],
  [(16, .iload_n 2, 1), (17, .iaload, 1), (18, .aload_n 0, 1), (19, .getfield 107, 3), (22, .iload_n 1, 1), (23, .iaload, 1), (24, .if_icmp .le 5, 3), (27, .iload_n 2, 1), (28, .istore_n 1, 1), (29, .iinc 2 1, 3)],
  [(32, .goto (-28), 3), (35, .iload_n 1, 1), (36, .ireturn, 1)]]
set_option maxRecDepth 100000 in
theorem cd210_ok : ∀ ch ∈ cd210, ∀ e ∈ ch, decode (byAt 1760) e.1 = .ok (e.2.1, e.2.2) := by decide +kernel
def cd211 : PC := [[(0, .aload_n 0, 1), (1, .iconst 0, 1), (2, .putfield 134, 3), (5, .aload_n 0, 1), (6, .getfield 313, 3), (9, .ifCond .eq 13, 3), (12, .iload_n 1, 1), (13, .i2l, 1), (14, .lconst 0, 1), (15, .lconst 1, 1)],
  [(16, .invokestatic 255, 3), (19, .ifCond .ne 5, 3), (22, .iconst (-1), 1), (23, .ireturn, 1), (24, .aload_n 0, 1), (25, .invokevirtual 387, 3), (28, .aload_n 0, 1), (29, .invokevirtual 396, 3)],
  [(32, .istore_n 2, 1), (33, .iload_n 1, 1), (34, .ifCond .ne 11, 3), (37, .aload_n 0, 1), (38, .iload_n 2, 1), (39, .invokevirtual 393, 3), (42, .goto 9, 3), (45, .aload_n 0, 1), (46, .getfield 107, 3)],
  [(49, .iload_n 2, 1), (50, .iaload, 1), (51, .ireturn, 1)]]
set_option maxRecDepth 100000 in
theorem cd211_ok : ∀ ch ∈ cd211, ∀ e ∈ ch, decode (byAt 1756) e.1 = .ok (e.2.1, e.2.2) := by decide +kernel
def cd212 : PC := [[(0, .iconst (-1), 1), (1, .istore_n 2, 1), (2, .iconst 0, 1), (3, .istore_n 3, 1), (4, .iload_n 3, 1), (5, .aload_n 0, 1), (6, .getfield 384, 3), (9, .if_icmp .ge 59, 3), (12, .aload_n 0, 1), (13, .iload_n 3, 1), (14, .invokevirtual 390, 3)],
  [(17, .ifCond .ne 6, 3), (20, .goto 42, 3), (23, .iload_n 2, 1), (24, .iconst (-1), 1), (25, .if_icmp .eq 30, 3), (28, .iload_n 1, 1), (29, .ifCond .eq 16, 3)],
  [(32, .aload_n 0, 1), (33, .getfield 107, 3), (36, .iload_n 3, 1), (37, .iaload, 1), (38, .iload_n 2, 1), (39, .if_icmp .le 23, 3), (42, .goto 13, 3), (45, .aload_n 0, 1), (46, .getfield 107, 3)],
  [(49, .iload_n 3, 1), (50, .iaload, 1), (51, .iload_n 2, 1), (52, .if_icmp .ge 10, 3), (55, .aload_n 0, 1), (56, .getfield 107, 3), (59, .iload_n 3, 1), (60, .iaload, 1), (61, .istore_n 2, 1), (62, .iinc 3 1, 3)],
  [(65, .goto (-61), 3), (68, .iload_n 2, 1), (69, .ireturn, 1)]]
set_option maxRecDepth 100000 in
theorem cd212_ok : ∀ ch ∈ cd212, ∀ e ∈ ch, decode (byAt 1768) e.1 = .ok (e.2.1, e.2.2) := by decide +kernel
def cd213 : PC := [[(0, .aload_n 0, 1), (1, .iconst 0, 1), (2, .putfield 134, 3), (5, .aload_n 0, 1), (6, .getfield 313, 3), (9, .ifCond .ne 7, 3), (12, .ldc_w 369, 3), (15, .ireturn, 1)],
  [(16, .aload_n 0, 1), (17, .invokevirtual 387, 3), (20, .aload_n 0, 1), (21, .iconst 0, 1), (22, .invokevirtual 399, 3), (25, .istore_n 1, 1), (26, .iload_n 1, 1), (27, .iconst (-1), 1), (28, .if_icmp .ne 9, 3), (31, .ldc_w 369, 3)],
  [(34, .goto 14, 3), (37, .aload_n 0, 1), (38, .getfield 107, 3), (41, .aload_n 0, 1), (42, .invokevirtual 396, 3), (45, .iaload, 1), (46, .iload_n 1, 1), (47, .isub, 1)],
  [(48, .ireturn, 1)]]
set_option maxRecDepth 100000 in
theorem cd213_ok : ∀ ch ∈ cd213, ∀ e ∈ ch, decode (byAt 1764) e.1 = .ok (e.2.1, e.2.2) := by decide +kernel
def cd214 : PC := [[(0, .aload_n 0, 1), (1, .iconst 0, 1), (2, .putfield 134, 3), (5, .aload_n 0, 1), (6, .getfield 313, 3), (9, .ifCond .eq 13, 3), (12, .iload_n 1, 1), (13, .i2l, 1), (14, .lconst 0, 1), (15, .lconst 1, 1)],
  [(16, .invokestatic 255, 3), (19, .ifCond .ne 5, 3), (22, .iconst (-1), 1), (23, .ireturn, 1), (24, .aload_n 0, 1), (25, .getfield 43, 3), (28, .iconst 3, 1), (29, .iaload, 1), (30, .istore_n 2, 1), (31, .iconst (-1), 1)],
  [(32, .istore_n 3, 1), (33, .iconst (-1), 1), (34, .istore 4, 2), (36, .iconst 0, 1), (37, .istore 5, 2), (39, .iload 5, 2), (41, .iconst 3, 1), (42, .if_icmp .ge 45, 3), (45, .aload_n 0, 1), (46, .getfield 43, 3)],
  [(49, .iconst 3, 1), (50, .iload 5, 2), (52, .iastore, 1), (53, .aload_n 0, 1), (54, .invokevirtual 387, 3), (57, .aload_n 0, 1), (58, .iconst 1, 1), (59, .invokevirtual 399, 3), (62, .istore 6, 2)],
  [(64, .iload 6, 2), (66, .iload 4, 2), (68, .if_icmp .gt 6, 3), (71, .goto 10, 3), (74, .iload 5, 2), (76, .istore_n 3, 1), (77, .iload 6, 2), (79, .istore 4, 2)],
  [(81, .iinc 5 1, 3), (84, .goto (-45), 3), (87, .aload_n 0, 1), (88, .getfield 43, 3), (91, .iconst 3, 1), (92, .iload_n 2, 1), (93, .iastore, 1), (94, .iload_n 1, 1), (95, .ifCond .ne 7, 3)],
  [(98, .iload_n 3, 1), (99, .goto 5, 3), (102, .iload 4, 2), (104, .ireturn, 1)]]
set_option maxRecDepth 100000 in
theorem cd214_ok : ∀ ch ∈ cd214, ∀ e ∈ ch, decode (byAt 1772) e.1 = .ok (e.2.1, e.2.2) := by decide +kernel
def cd215 : PC := [[(0, .iconst 0, 1), (1, .istore_n 2, 1), (2, .bipush 99, 2), (4, .istore_n 3, 1), (5, .iconst 0, 1), (6, .istore 4, 2), (8, .iload 4, 2), (10, .aload_n 0, 1), (11, .getfield 313, 3), (14, .if_icmp .ge 154, 3)],
  [(17, .iload_n 1, 1), (18, .aload_n 0, 1), (19, .iload_n 1, 1), (20, .iload 4, 2), (22, .invokevirtual 378, 3), (25, .aload_n 0, 1), (26, .iload 4, 2), (28, .invokevirtual 375, 3), (31, .imul, 1)],
  [(32, .isub, 1), (33, .istore 5, 2), (35, .ldc_w 369, 3), (38, .istore 6, 2), (40, .iconst 0, 1), (41, .istore 7, 2), (43, .iload 7, 2), (45, .aload_n 0, 1), (46, .getfield 67, 3)],
  [(49, .iload 4, 2), (51, .iaload, 1), (52, .if_icmp .ge 57, 3), (55, .iload 5, 2), (57, .iload 7, 2), (59, .aload_n 0, 1), (60, .iload 4, 2), (62, .invokevirtual 375, 3)],
  [(65, .imul, 1), (66, .iadd, 1), (67, .istore 8, 2), (69, .aload_n 0, 1), (70, .getfield 110, 3), (73, .iload 8, 2), (75, .iaload, 1), (76, .iload 4, 2), (78, .invokestatic 282, 3)],
  [(81, .ifCond .ne 22, 3), (84, .iload 6, 2), (86, .aload_n 0, 1), (87, .getfield 104, 3), (90, .iconst 3, 1), (91, .iload 8, 2), (93, .imul, 1), (94, .iload 4, 2)],
  [(96, .iadd, 1), (97, .iaload, 1), (98, .invokestatic 403, 3), (101, .istore 6, 2), (103, .iinc 7 1, 3), (106, .goto (-63), 3), (109, .aload_n 0, 1), (110, .getfield 110, 3)],
  [(113, .iload_n 1, 1), (114, .iaload, 1), (115, .iload 4, 2), (117, .invokestatic 282, 3), (120, .ifCond .eq 13, 3), (123, .iload_n 2, 1), (124, .iload 6, 2), (126, .invokestatic 403, 3)],
  [(129, .istore_n 2, 1), (130, .goto 32, 3), (133, .aload_n 0, 1), (134, .getfield 104, 3), (137, .iconst 3, 1), (138, .iload_n 1, 1), (139, .imul, 1), (140, .iload 4, 2), (142, .iadd, 1), (143, .iaload, 1)],
  [(144, .istore 7, 2), (146, .iload 7, 2), (148, .iload 6, 2), (150, .if_icmp .ge 5, 3), (153, .iconst (-1), 1), (154, .ireturn, 1), (155, .iload_n 3, 1), (156, .iload 7, 2), (158, .invokestatic 405, 3)],
  [(161, .istore_n 3, 1), (162, .iinc 4 1, 3), (165, .goto (-157), 3), (168, .iload_n 2, 1), (169, .iload_n 3, 1), (170, .if_icmp .gt 7, 3), (173, .iload_n 2, 1), (174, .goto 4, 3)],
  [(177, .iconst (-1), 1), (178, .ireturn, 1)]]
set_option maxRecDepth 100000 in
theorem cd215_ok : ∀ ch ∈ cd215, ∀ e ∈ ch, decode (byAt 1780) e.1 = .ok (e.2.1, e.2.2) := by decide +kernel
def cd216 : PC := [[(0, .aload_n 0, 1), (1, .iconst 0, 1), (2, .putfield 134, 3), (5, .aload_n 0, 1), (6, .getfield 313, 3), (9, .ifCond .ne 5, 3), (12, .iconst (-1), 1), (13, .ireturn, 1), (14, .aload_n 0, 1), (15, .invokevirtual 387, 3)],
  [(18, .aload_n 0, 1), (19, .getfield 107, 3), (22, .aload_n 0, 1), (23, .invokevirtual 396, 3), (26, .iaload, 1), (27, .istore_n 1, 1), (28, .iconst (-1), 1), (29, .istore_n 2, 1), (30, .iconst 0, 1), (31, .istore_n 3, 1)],
  [(32, .iload_n 3, 1), (33, .aload_n 0, 1), (34, .getfield 384, 3), (37, .if_icmp .ge 49, 3), (40, .aload_n 0, 1), (41, .getfield 107, 3), (44, .iload_n 3, 1), (45, .iaload, 1), (46, .iload_n 1, 1), (47, .if_icmp .eq 6, 3)],
  [(50, .goto 30, 3), (53, .aload_n 0, 1), (54, .iload_n 3, 1), (55, .invokevirtual 407, 3), (58, .istore 4, 2), (60, .iload 4, 2), (62, .iconst (-1), 1), (63, .if_icmp .eq 17, 3)],
  [(66, .iload_n 2, 1), (67, .iconst (-1), 1), (68, .if_icmp .eq 9, 3), (71, .iload 4, 2), (73, .iload_n 2, 1), (74, .if_icmp .ge 6, 3), (77, .iload 4, 2), (79, .istore_n 2, 1)],
  [(80, .iinc 3 1, 3), (83, .goto (-51), 3), (86, .iload_n 2, 1), (87, .ireturn, 1)]]
set_option maxRecDepth 100000 in
theorem cd216_ok : ∀ ch ∈ cd216, ∀ e ∈ ch, decode (byAt 1776) e.1 = .ok (e.2.1, e.2.2) := by decide +kernel
def cd217 : PC := [[(0, .iload_n 2, 1), (1, .bipush 10, 2), (3, .idiv, 1), (4, .istore_n 3, 1), (5, .iload_n 2, 1), (6, .bipush 10, 2), (8, .irem, 1), (9, .istore 4, 2), (11, .iconst 0, 1), (12, .istore 5, 2), (14, .iconst 0, 1), (15, .istore 6, 2)],
  [(17, .iconst 0, 1), (18, .istore 7, 2), (20, .iload 7, 2), (22, .iload_n 1, 1), (23, .if_icmp .ge 73, 3), (26, .aload_n 0, 1), (27, .getfield 70, 3), (30, .iload 7, 2)],
  [(32, .iaload, 1), (33, .bipush 99, 2), (35, .if_icmp .ne 6, 3), (38, .goto 52, 3), (41, .iload 5, 2), (43, .aload_n 0, 1), (44, .getfield 70, 3), (47, .iload 7, 2)],
  [(49, .iaload, 1), (50, .bipush 10, 2), (52, .irem, 1), (53, .iload 4, 2), (55, .if_icmp .ne 7, 3), (58, .iconst 1, 1), (59, .goto 4, 3), (62, .iconst 0, 1), (63, .iadd, 1)],
  [(64, .istore 5, 2), (66, .iload 6, 2), (68, .aload_n 0, 1), (69, .getfield 70, 3), (72, .iload 7, 2), (74, .iaload, 1), (75, .bipush 10, 2), (77, .idiv, 1), (78, .iload_n 3, 1), (79, .if_icmp .ne 7, 3)],
  [(82, .iconst 1, 1), (83, .goto 4, 3), (86, .iconst 0, 1), (87, .iadd, 1), (88, .istore 6, 2), (90, .iinc 7 1, 3), (93, .goto (-73), 3)],
  [(96, .aload_n 0, 1), (97, .getfield 20, 3), (100, .bipush 100, 2), (102, .iload_n 3, 1), (103, .aload_n 0, 1), (104, .getfield 37, 3), (107, .iconst 4, 1), (108, .iload 4, 2), (110, .imul, 1), (111, .iaload, 1)],
  [(112, .isub, 1), (113, .invokestatic 410, 3), (116, .iastore, 1), (117, .aload_n 0, 1), (118, .getfield 20, 3), (121, .bipush 104, 2), (123, .aload_n 0, 1), (124, .getfield 37, 3), (127, .iconst 4, 1)],
  [(128, .iload 4, 2), (130, .imul, 1), (131, .iconst 1, 1), (132, .iadd, 1), (133, .iaload, 1), (134, .iastore, 1), (135, .aload_n 0, 1), (136, .getfield 20, 3), (139, .bipush 99, 2), (141, .aload_n 0, 1), (142, .getfield 37, 3)],
  [(145, .iconst 4, 1), (146, .iload 4, 2), (148, .imul, 1), (149, .iconst 2, 1), (150, .iadd, 1), (151, .iaload, 1), (152, .iastore, 1), (153, .aload_n 0, 1), (154, .getfield 20, 3), (157, .bipush 102, 2), (159, .aload_n 0, 1)],
  [(160, .getfield 37, 3), (163, .iconst 4, 1), (164, .iload 4, 2), (166, .imul, 1), (167, .iconst 3, 1), (168, .iadd, 1), (169, .iaload, 1), (170, .iastore, 1), (171, .aload_n 0, 1), (172, .getfield 20, 3), (175, .bipush 111, 2)],
  [(177, .iload 5, 2), (179, .iastore, 1), (180, .aload_n 0, 1), (181, .getfield 20, 3), (184, .bipush 107, 2), (186, .iload 6, 2), (188, .iastore, 1), (189, .aload_n 0, 1), (190, .aload_n 0, 1), (191, .getfield 13, 3)],
  [(194, .sipush 160, 3), (197, .aload_n 0, 1), (198, .getfield 55, 3), (201, .iload_n 1, 1), (202, .iaload, 1), (203, .imul, 1), (204, .aload_n 0, 1), (205, .getfield 16, 3)],
  [(208, .aload_n 0, 1), (209, .getfield 55, 3), (212, .iload_n 1, 1), (213, .iaload, 1), (214, .iaload, 1), (215, .invokevirtual 302, 3), (218, .aload_n 0, 1), (219, .getfield 242, 3), (222, .ireturn, 1)]]
set_option maxRecDepth 100000 in
theorem cd217_ok : ∀ ch ∈ cd217, ∀ e ∈ ch, decode (byAt 1790) e.1 = .ok (e.2.1, e.2.2) := by decide +kernel
def cd218 : PC := [[(0, .aload_n 0, 1), (1, .iconst 0, 1), (2, .putfield 134, 3), (5, .aload_n 0, 1), (6, .getfield 313, 3), (9, .ifCond .ne 5, 3), (12, .iconst (-1), 1), (13, .ireturn, 1), (14, .iconst 0, 1), (15, .istore_n 1, 1)],
  [(16, .iconst 0, 1), (17, .istore_n 2, 1), (18, .iload_n 2, 1), (19, .aload_n 0, 1), (20, .getfield 313, 3), (23, .if_icmp .ge 107, 3), (26, .bipush 99, 2), (28, .istore_n 3, 1), (29, .iconst 0, 1), (30, .istore 4, 2)],
  [(32, .iconst 0, 1), (33, .istore 5, 2), (35, .iload 5, 2), (37, .aload_n 0, 1), (38, .getfield 67, 3), (41, .iload_n 2, 1), (42, .iaload, 1), (43, .iconst 1, 1), (44, .isub, 1), (45, .if_icmp .ge 65, 3)],
  [(48, .aload_n 0, 1), (49, .getfield 55, 3), (52, .iload_n 2, 1), (53, .iaload, 1), (54, .iconst (-1), 1), (55, .if_icmp .eq 55, 3), (58, .aload_n 0, 1), (59, .iload_n 2, 1), (60, .aload_n 0, 1), (61, .getfield 64, 3)],
  [(64, .bipush 25, 2), (66, .iload_n 2, 1), (67, .imul, 1), (68, .iload 5, 2), (70, .iadd, 1), (71, .iaload, 1), (72, .invokevirtual 413, 3), (75, .istore 6, 2), (77, .iload 6, 2), (79, .iload 4, 2)],
  [(81, .if_icmp .gt 6, 3), (84, .goto 20, 3), (87, .aload_n 0, 1), (88, .getfield 64, 3), (91, .bipush 25, 2), (93, .iload_n 2, 1), (94, .imul, 1), (95, .iload 5, 2)],
  [(97, .iadd, 1), (98, .iaload, 1), (99, .istore_n 3, 1), (100, .iload 6, 2), (102, .istore 4, 2), (104, .iinc 5 1, 3), (107, .goto (-72), 3), (110, .aload_n 0, 1), (111, .getfield 70, 3)],
  [(114, .iload_n 2, 1), (115, .iload_n 3, 1), (116, .iastore, 1), (117, .bipush 100, 2), (119, .iload_n 1, 1), (120, .imul, 1), (121, .iload_n 3, 1), (122, .iadd, 1), (123, .istore_n 1, 1), (124, .iinc 2 1, 3), (127, .goto (-109), 3)],
  [(130, .iload_n 1, 1), (131, .ireturn, 1)]]
set_option maxRecDepth 100000 in
theorem cd218_ok : ∀ ch ∈ cd218, ∀ e ∈ ch, decode (byAt 1786) e.1 = .ok (e.2.1, e.2.2) := by decide +kernel
def cd219 : PC := [[(0, .aload_n 0, 1), (1, .iconst 0, 1), (2, .putfield 134, 3), (5, .aload_n 0, 1), (6, .getfield 313, 3), (9, .ifCond .eq 68, 3), (12, .aload_n 0, 1), (13, .getfield 322, 3)],
  [(16, .bipush 10, 2), (18, .if_icmp .eq 59, 3), (21, .iload_n 1, 1), (22, .i2l, 1), (23, .lconst 0, 1), (24, .lconst 1, 1), (25, .invokestatic 255, 3), (28, .ifCond .eq 49, 3), (31, .iload_n 2, 1)],
  [(32, .i2l, 1), (33, .lconst 0, 1), (34, .iload_n 1, 1), (35, .ifCond .ne 9, 3), (38, .ldc2_w 334, 3), (41, .goto 10, 3), (44, .aload_n 0, 1), (45, .getfield 310, 3)],
  [(48, .iconst 1, 1), (49, .isub, 1), (50, .i2l, 1), (51, .invokestatic 255, 3), (54, .ifCond .eq 23, 3), (57, .iload_n 3, 1), (58, .i2l, 1), (59, .lconst 0, 1), (60, .iload_n 1, 1), (61, .ifCond .ne 7, 3)],
  [(64, .lconst 1, 1), (65, .goto 6, 3), (68, .ldc2_w 416, 3), (71, .invokestatic 255, 3), (74, .ifCond .ne 5, 3), (77, .iconst (-1), 1), (78, .ireturn, 1), (79, .aload_n 0, 1)],
  [(80, .getfield 116, 3), (83, .aload_n 0, 1), (84, .getfield 322, 3), (87, .iload_n 1, 1), (88, .iastore, 1), (89, .aload_n 0, 1), (90, .getfield 119, 3), (93, .aload_n 0, 1), (94, .getfield 322, 3)],
  [(97, .iload_n 2, 1), (98, .iastore, 1), (99, .aload_n 0, 1), (100, .getfield 122, 3), (103, .aload_n 0, 1), (104, .getfield 322, 3), (107, .iload_n 3, 1), (108, .iastore, 1), (109, .aload_n 0, 1), (110, .dup, 1), (111, .getfield 322, 3)],
  [(114, .iconst 1, 1), (115, .iadd, 1), (116, .putfield 322, 3), (119, .aload_n 0, 1), (120, .getfield 322, 3), (123, .ireturn, 1)]]
set_option maxRecDepth 100000 in
theorem cd219_ok : ∀ ch ∈ cd219, ∀ e ∈ ch, decode (byAt 1795) e.1 = .ok (e.2.1, e.2.2) := by decide +kernel
def cd220 : PC := [[(0, .iconst 0, 1), (1, .istore_n 1, 1), (2, .iload_n 1, 1), (3, .aload_n 0, 1), (4, .getfield 322, 3), (7, .if_icmp .ge 117, 3), (10, .iconst 0, 1), (11, .istore_n 2, 1), (12, .aload_n 0, 1), (13, .getfield 116, 3)],
  [(16, .iload_n 1, 1), (17, .iaload, 1), (18, .iconst 1, 1), (19, .if_icmp .ne 34, 3), (22, .aload_n 0, 1), (23, .getfield 37, 3), (26, .iconst 4, 1), (27, .aload_n 0, 1), (28, .getfield 119, 3), (31, .iload_n 1, 1)],
  [(32, .iaload, 1), (33, .imul, 1), (34, .iconst 2, 1), (35, .iadd, 1), (36, .iaload, 1), (37, .aload_n 0, 1), (38, .getfield 85, 3), (41, .aload_n 0, 1), (42, .getfield 119, 3), (45, .iload_n 1, 1), (46, .iaload, 1), (47, .iaload, 1)],
  [(48, .isub, 1), (49, .istore_n 2, 1), (50, .goto 56, 3), (53, .iconst 0, 1), (54, .istore_n 3, 1), (55, .iload_n 3, 1), (56, .aload_n 0, 1), (57, .getfield 313, 3), (60, .if_icmp .ge 46, 3), (63, .iload_n 2, 1)],
  [(64, .aload_n 0, 1), (65, .getfield 345, 3), (68, .iload_n 3, 1), (69, .invokestatic 282, 3), (72, .ifCond .ne 25, 3), (75, .aload_n 0, 1), (76, .getfield 70, 3), (79, .iload_n 3, 1)],
  [(80, .iaload, 1), (81, .bipush 10, 2), (83, .idiv, 1), (84, .aload_n 0, 1), (85, .getfield 119, 3), (88, .iload_n 1, 1), (89, .iaload, 1), (90, .if_icmp .ne 7, 3), (93, .iconst 1, 1), (94, .goto 4, 3)],
  [(97, .iconst 0, 1), (98, .ior, 1), (99, .istore_n 2, 1), (100, .iinc 3 1, 3), (103, .goto (-48), 3), (106, .iload_n 2, 1), (107, .aload_n 0, 1), (108, .getfield 122, 3), (111, .iload_n 1, 1)],
  [(112, .iaload, 1), (113, .if_icmp .eq 5, 3), (116, .iconst 0, 1), (117, .ireturn, 1), (118, .iinc 1 1, 3), (121, .goto (-119), 3), (124, .iconst 1, 1), (125, .ireturn, 1)]]
set_option maxRecDepth 100000 in
theorem cd220_ok : ∀ ch ∈ cd220, ∀ e ∈ ch, decode (byAt 1804) e.1 = .ok (e.2.1, e.2.2) := by decide +kernel
def cd221 : PC := [[(0, .aload_n 0, 1), (1, .iconst 0, 1), (2, .putfield 134, 3), (5, .aload_n 0, 1), (6, .getfield 313, 3), (9, .ifCond .eq 8, 3), (12, .iload_n 1, 1), (13, .iconst (-1), 1), (14, .if_icmp .ge 5, 3)],
  [(17, .iconst (-1), 1), (18, .ireturn, 1), (19, .aload_n 0, 1), (20, .invokevirtual 387, 3), (23, .iconst 0, 1), (24, .istore_n 2, 1), (25, .iconst 0, 1), (26, .istore_n 3, 1), (27, .iload_n 3, 1), (28, .aload_n 0, 1), (29, .getfield 384, 3)],
  [(32, .if_icmp .ge 42, 3), (35, .aload_n 0, 1), (36, .iload_n 3, 1), (37, .invokevirtual 381, 3), (40, .aload_n 0, 1), (41, .invokevirtual 370, 3), (44, .aload_n 0, 1), (45, .invokevirtual 418, 3)],
  [(48, .ifCond .ne 6, 3), (51, .goto 17, 3), (54, .iload_n 2, 1), (55, .iload_n 1, 1), (56, .if_icmp .ne 9, 3), (59, .aload_n 0, 1), (60, .iload_n 3, 1), (61, .invokevirtual 393, 3)],
  [(64, .ireturn, 1), (65, .iinc 2 1, 3), (68, .iinc 3 1, 3), (71, .goto (-44), 3), (74, .iload_n 1, 1), (75, .iconst (-1), 1), (76, .if_icmp .ne 7, 3), (79, .iload_n 2, 1)],
  [(80, .goto 4, 3), (83, .iconst (-1), 1), (84, .ireturn, 1)]]
set_option maxRecDepth 100000 in
theorem cd221_ok : ∀ ch ∈ cd221, ∀ e ∈ ch, decode (byAt 1800) e.1 = .ok (e.2.1, e.2.2) := by decide +kernel
def cd222 : PC := [[(0, .aload_n 0, 1), (1, .iconst 0, 1), (2, .putfield 134, 3), (5, .aload_n 0, 1), (6, .getfield 313, 3), (9, .ifCond .ne 5, 3), (12, .iconst (-1), 1), (13, .ireturn, 1), (14, .aload_n 0, 1), (15, .invokevirtual 387, 3)],
  [(18, .iconst 1, 1), (19, .aload_n 0, 1), (20, .getfield 313, 3), (23, .ishl, 1), (24, .iconst 1, 1), (25, .isub, 1), (26, .istore_n 1, 1), (27, .iconst 0, 1), (28, .istore_n 2, 1), (29, .iconst 0, 1), (30, .istore_n 3, 1), (31, .iload_n 3, 1)],
  [(32, .aload_n 0, 1), (33, .getfield 384, 3), (36, .if_icmp .ge 39, 3), (39, .aload_n 0, 1), (40, .iload_n 3, 1), (41, .invokevirtual 381, 3), (44, .aload_n 0, 1), (45, .invokevirtual 370, 3)],
  [(48, .aload_n 0, 1), (49, .invokevirtual 418, 3), (52, .ifCond .ne 6, 3), (55, .goto 14, 3), (58, .iload_n 1, 1), (59, .aload_n 0, 1), (60, .getfield 113, 3), (63, .iload_n 3, 1)],
  [(64, .iaload, 1), (65, .iand, 1), (66, .istore_n 1, 1), (67, .iconst 1, 1), (68, .istore_n 2, 1), (69, .iinc 3 1, 3), (72, .goto (-41), 3), (75, .iload_n 2, 1), (76, .ifCond .eq 7, 3), (79, .iload_n 1, 1)],
  [(80, .goto 4, 3), (83, .iconst 0, 1), (84, .ireturn, 1)]]
set_option maxRecDepth 100000 in
theorem cd222_ok : ∀ ch ∈ cd222, ∀ e ∈ ch, decode (byAt 1808) e.1 = .ok (e.2.1, e.2.2) := by decide +kernel
def cd223 : PC := [[(0, .iconst 0, 1), (1, .istore_n 2, 1), (2, .iconst 0, 1), (3, .istore_n 3, 1), (4, .iload_n 3, 1), (5, .aload_n 0, 1), (6, .getfield 310, 3), (9, .if_icmp .ge 42, 3), (12, .iconst 0, 1), (13, .istore 4, 2), (15, .iload 4, 2)],
  [(17, .bipush 6, 2), (19, .if_icmp .ge 26, 3), (22, .aload_n 0, 1), (23, .iload_n 1, 1), (24, .iload 4, 2), (26, .iload_n 3, 1), (27, .invokevirtual 338, 3), (30, .ifCond .eq 9, 3)],
  [(33, .iload_n 2, 1), (34, .iconst 1, 1), (35, .iload_n 3, 1), (36, .ishl, 1), (37, .ior, 1), (38, .istore_n 2, 1), (39, .iinc 4 1, 3), (42, .goto (-27), 3), (45, .iinc 3 1, 3)],
  [(48, .goto (-44), 3), (51, .iload_n 2, 1), (52, .ireturn, 1)]]
set_option maxRecDepth 100000 in
theorem cd223_ok : ∀ ch ∈ cd223, ∀ e ∈ ch, decode (byAt 1816) e.1 = .ok (e.2.1, e.2.2) := by decide +kernel
def cd224 : PC := [[(0, .aload_n 0, 1), (1, .iconst 0, 1), (2, .putfield 134, 3), (5, .aload_n 0, 1), (6, .iload_n 1, 1), (7, .invokevirtual 331, 3), (10, .ifCond .eq 16, 3), (13, .aload_n 0, 1), (14, .iload_n 2, 1), (15, .invokevirtual 331, 3)],
  [(18, .ifCond .eq 8, 3), (21, .iload_n 1, 1), (22, .iload_n 2, 1), (23, .if_icmp .ne 7, 3), (26, .iconst (-1), 1), (27, .goto 30, 3), (30, .aload_n 0, 1), (31, .aload_n 0, 1)],
  [(32, .getfield 40, 3), (35, .iconst 3, 1), (36, .iload_n 1, 1), (37, .imul, 1), (38, .iconst 1, 1), (39, .iadd, 1), (40, .iaload, 1), (41, .aload_n 0, 1), (42, .getfield 40, 3), (45, .iconst 3, 1), (46, .iload_n 2, 1), (47, .imul, 1)],
  [(48, .iconst 1, 1), (49, .iadd, 1), (50, .iaload, 1), (51, .iadd, 1), (52, .iconst 1, 1), (53, .isub, 1), (54, .invokevirtual 421, 3), (57, .ireturn, 1)]]
set_option maxRecDepth 100000 in
theorem cd224_ok : ∀ ch ∈ cd224, ∀ e ∈ ch, decode (byAt 1812) e.1 = .ok (e.2.1, e.2.2) := by decide +kernel
def cd225 : PC := [[(0, .aload_n 0, 1), (1, .iconst 0, 1), (2, .putfield 134, 3), (5, .aload_n 0, 1), (6, .iload_n 1, 1), (7, .invokevirtual 331, 3), (10, .ifCond .eq 20, 3), (13, .aload_n 0, 1), (14, .aload_n 0, 1), (15, .getfield 40, 3)],
  [(18, .iconst 3, 1), (19, .iload_n 1, 1), (20, .imul, 1), (21, .iconst 1, 1), (22, .iadd, 1), (23, .iaload, 1), (24, .invokevirtual 421, 3), (27, .goto 4, 3), (30, .iconst (-1), 1), (31, .ireturn, 1)]]
set_option maxRecDepth 100000 in
theorem cd225_ok : ∀ ch ∈ cd225, ∀ e ∈ ch, decode (byAt 1820) e.1 = .ok (e.2.1, e.2.2) := by decide +kernel
def cd226 : PC := [[(0, .aload_n 0, 1), (1, .iconst 0, 1), (2, .putfield 134, 3), (5, .aload_n 0, 1), (6, .iload_n 1, 1), (7, .invokevirtual 331, 3), (10, .ifCond .eq 13, 3), (13, .iload_n 2, 1), (14, .i2l, 1), (15, .lconst 0, 1)],
  [(16, .lconst 1, 1), (17, .invokestatic 255, 3), (20, .ifCond .ne 5, 3), (23, .iconst (-1), 1), (24, .ireturn, 1), (25, .iconst 0, 1), (26, .istore_n 3, 1), (27, .iload_n 3, 1), (28, .aload_n 0, 1), (29, .getfield 313, 3)],
  [(32, .if_icmp .ge 17, 3), (35, .aload_n 0, 1), (36, .getfield 70, 3), (39, .iload_n 3, 1), (40, .bipush 99, 2), (42, .iastore, 1), (43, .iinc 3 1, 3), (46, .goto (-19), 3)],
  [(49, .bipush 99, 2), (51, .istore_n 3, 1), (52, .iconst 0, 1), (53, .istore 4, 2), (55, .iconst 0, 1), (56, .istore 5, 2), (58, .iload 5, 2), (60, .aload_n 0, 1), (61, .getfield 67, 3)],
  [(64, .iload_n 1, 1), (65, .iaload, 1), (66, .iconst 1, 1), (67, .isub, 1), (68, .if_icmp .ge 66, 3), (71, .aload_n 0, 1), (72, .getfield 70, 3), (75, .iload_n 1, 1), (76, .aload_n 0, 1), (77, .getfield 64, 3)],
  [(80, .bipush 25, 2), (82, .iload_n 1, 1), (83, .imul, 1), (84, .iload 5, 2), (86, .iadd, 1), (87, .iaload, 1), (88, .iastore, 1), (89, .aload_n 0, 1), (90, .invokevirtual 370, 3), (93, .iload_n 3, 1), (94, .bipush 99, 2)],
  [(96, .if_icmp .eq 17, 3), (99, .aload_n 0, 1), (100, .getfield 79, 3), (103, .iload_n 1, 1), (104, .iaload, 1), (105, .iload 4, 2), (107, .if_icmp .gt 6, 3), (110, .goto 18, 3)],
  [(113, .aload_n 0, 1), (114, .getfield 70, 3), (117, .iload_n 1, 1), (118, .iaload, 1), (119, .istore_n 3, 1), (120, .aload_n 0, 1), (121, .getfield 79, 3), (124, .iload_n 1, 1), (125, .iaload, 1), (126, .istore 4, 2)],
  [(128, .iinc 5 1, 3), (131, .goto (-73), 3), (134, .iload_n 2, 1), (135, .ifCond .ne 8, 3), (138, .iload 4, 2), (140, .goto 4, 3), (143, .iload_n 3, 1)],
  [(144, .ireturn, 1)]]
set_option maxRecDepth 100000 in
theorem cd226_ok : ∀ ch ∈ cd226, ∀ e ∈ ch, decode (byAt 1824) e.1 = .ok (e.2.1, e.2.2) := by decide +kernel
def cd227 : PC := [[(0, .aload_n 0, 1), (1, .invokevirtual 370, 3), (4, .aload_n 0, 1), (5, .getfield 319, 3), (8, .bipush 40, 2), (10, .if_icmp .ne 55, 3), (13, .iconst 0, 1), (14, .istore_n 1, 1), (15, .iload_n 1, 1)],
  [(16, .bipush 117, 2), (18, .if_icmp .ge 37, 3), (21, .aload_n 0, 1), (22, .getfield 125, 3), (25, .iload_n 1, 1), (26, .aload_n 0, 1), (27, .getfield 125, 3), (30, .iload_n 1, 1), (31, .iconst 3, 1)],
  [(32, .iadd, 1), (33, .iaload, 1), (34, .iastore, 1), (35, .aload_n 0, 1), (36, .getfield 128, 3), (39, .iload_n 1, 1), (40, .aload_n 0, 1), (41, .getfield 128, 3), (44, .iload_n 1, 1), (45, .iconst 3, 1), (46, .iadd, 1), (47, .iaload, 1)],
  [(48, .iastore, 1), (49, .iinc 1 1, 3), (52, .goto (-37), 3), (55, .aload_n 0, 1), (56, .dup, 1), (57, .getfield 319, 3), (60, .iconst 1, 1), (61, .isub, 1), (62, .putfield 319, 3)],
  [(65, .iconst 0, 1), (66, .istore_n 1, 1), (67, .iload_n 1, 1), (68, .aload_n 0, 1), (69, .getfield 313, 3), (72, .if_icmp .ge 77, 3), (75, .aload_n 0, 1), (76, .getfield 125, 3), (79, .iconst 3, 1)],
  [(80, .aload_n 0, 1), (81, .getfield 319, 3), (84, .imul, 1), (85, .iload_n 1, 1), (86, .iadd, 1), (87, .aload_n 0, 1), (88, .getfield 79, 3), (91, .iload_n 1, 1), (92, .iaload, 1), (93, .iastore, 1), (94, .aload_n 0, 1), (95, .getfield 128, 3)],
  [(98, .iconst 3, 1), (99, .aload_n 0, 1), (100, .getfield 319, 3), (103, .imul, 1), (104, .iload_n 1, 1), (105, .iadd, 1), (106, .aload_n 0, 1), (107, .getfield 82, 3), (110, .iload_n 1, 1), (111, .iaload, 1)],
  [(112, .iastore, 1), (113, .aload_n 0, 1), (114, .getfield 58, 3), (117, .iload_n 1, 1), (118, .dup2, 1), (119, .iaload, 1), (120, .aload_n 0, 1), (121, .getfield 79, 3), (124, .iload_n 1, 1), (125, .iaload, 1), (126, .iadd, 1), (127, .iastore, 1)],
  [(128, .aload_n 0, 1), (129, .getfield 61, 3), (132, .iload_n 1, 1), (133, .dup2, 1), (134, .iaload, 1), (135, .aload_n 0, 1), (136, .getfield 82, 3), (139, .iload_n 1, 1), (140, .iaload, 1), (141, .iadd, 1), (142, .iastore, 1), (143, .iinc 1 1, 3)],
  [(146, .goto (-79), 3), (149, .aload_n 0, 1), (150, .dup, 1), (151, .getfield 319, 3), (154, .iconst 1, 1), (155, .iadd, 1), (156, .putfield 319, 3), (159, .aload_n 0, 1)],
  [(160, .dup, 1), (161, .getfield 316, 3), (164, .iconst 1, 1), (165, .iadd, 1), (166, .putfield 316, 3), (169, .return_, 1)]]
set_option maxRecDepth 100000 in
theorem cd227_ok : ∀ ch ∈ cd227, ∀ e ∈ ch, decode (byAt 1832) e.1 = .ok (e.2.1, e.2.2) := by decide +kernel
def cd228 : PC := [[(0, .aload_n 0, 1), (1, .iconst 0, 1), (2, .putfield 134, 3), (5, .aload_n 0, 1), (6, .iload_n 1, 1), (7, .invokevirtual 366, 3), (10, .ifCond .ne 5, 3), (13, .iconst (-1), 1), (14, .ireturn, 1), (15, .aload_n 0, 1)],
  [(16, .invokevirtual 424, 3), (19, .aload_n 0, 1), (20, .getfield 316, 3), (23, .ireturn, 1)]]
set_option maxRecDepth 100000 in
theorem cd228_ok : ∀ ch ∈ cd228, ∀ e ∈ ch, decode (byAt 1828) e.1 = .ok (e.2.1, e.2.2) := by decide +kernel
def cd229 : PC := [[(0, .aload_n 0, 1), (1, .iconst 0, 1), (2, .putfield 134, 3), (5, .aload_n 0, 1), (6, .getfield 313, 3), (9, .ifCond .eq 15, 3), (12, .iload_n 1, 1), (13, .i2l, 1), (14, .lconst 1, 1), (15, .ldc2_w 427, 3)],
  [(18, .invokestatic 255, 3), (21, .ifCond .ne 5, 3), (24, .iconst (-1), 1), (25, .ireturn, 1), (26, .lload_n 2, 1), (27, .lstore 4, 2), (29, .iconst 0, 1), (30, .istore 6, 2)],
  [(32, .iload 6, 2), (34, .iload_n 1, 1), (35, .if_icmp .ge 137, 3), (38, .iconst 0, 1), (39, .istore 7, 2), (41, .iload 7, 2), (43, .aload_n 0, 1), (44, .getfield 313, 3), (47, .if_icmp .ge 115, 3)],
  [(50, .lload 4, 2), (52, .ldc2_w 429, 3), (55, .lmul, 1), (56, .ldc2_w 431, 3), (59, .ladd, 1), (60, .lstore 4, 2), (62, .lload 4, 2)],
  [(64, .bipush 33, 2), (66, .lushr, 1), (67, .ldc2_w 433, 3), (70, .lrem, 1), (71, .l2i, 1), (72, .istore 8, 2), (74, .iload 8, 2), (76, .iconst 4, 1), (77, .idiv, 1), (78, .bipush 6, 2)],
  [(80, .if_icmp .ge 44, 3), (83, .iload 8, 2), (85, .iconst 4, 1), (86, .irem, 1), (87, .aload_n 0, 1), (88, .getfield 310, 3), (91, .if_icmp .ge 33, 3), (94, .aload_n 0, 1), (95, .aload_n 0, 1)],
  [(96, .getfield 40, 3), (99, .iconst 3, 1), (100, .iload 7, 2), (102, .imul, 1), (103, .iconst 1, 1), (104, .iadd, 1), (105, .iaload, 1), (106, .iload 8, 2), (108, .iconst 4, 1), (109, .idiv, 1), (110, .iload 8, 2)],
  [(112, .iconst 4, 1), (113, .irem, 1), (114, .invokevirtual 338, 3), (117, .ifCond .eq 7, 3), (120, .iconst 1, 1), (121, .goto 4, 3), (124, .iconst 0, 1), (125, .istore 9, 2), (127, .aload_n 0, 1)],
  [(128, .getfield 70, 3), (131, .iload 7, 2), (133, .iload 9, 2), (135, .ifCond .eq 18, 3), (138, .bipush 10, 2), (140, .iload 8, 2), (142, .iconst 4, 1), (143, .idiv, 1)],
  [(144, .imul, 1), (145, .iload 8, 2), (147, .iconst 4, 1), (148, .irem, 1), (149, .iadd, 1), (150, .goto 5, 3), (153, .bipush 99, 2), (155, .iastore, 1), (156, .iinc 7 1, 3), (159, .goto (-118), 3)],
  [(162, .aload_n 0, 1), (163, .invokevirtual 424, 3), (166, .iinc 6 1, 3), (169, .goto (-137), 3), (172, .aload_n 0, 1), (173, .getfield 316, 3)],
  [(176, .ireturn, 1)]]
set_option maxRecDepth 100000 in
theorem cd229_ok : ∀ ch ∈ cd229, ∀ e ∈ ch, decode (byAt 1836) e.1 = .ok (e.2.1, e.2.2) := by decide +kernel
def cd230 : PC := [[(0, .aload_n 0, 1), (1, .iconst 0, 1), (2, .putfield 134, 3), (5, .aload_n 0, 1), (6, .getfield 319, 3), (9, .ifCond .ne 5, 3), (12, .iconst (-1), 1), (13, .ireturn, 1), (14, .aload_n 0, 1), (15, .dup, 1)],
  [(16, .getfield 319, 3), (19, .iconst 1, 1), (20, .isub, 1), (21, .putfield 319, 3), (24, .aload_n 0, 1), (25, .dup, 1), (26, .getfield 316, 3), (29, .iconst 1, 1), (30, .isub, 1), (31, .putfield 316, 3)],
  [(34, .iconst 0, 1), (35, .istore_n 1, 1), (36, .iload_n 1, 1), (37, .aload_n 0, 1), (38, .getfield 313, 3), (41, .if_icmp .ge 53, 3), (44, .aload_n 0, 1), (45, .getfield 58, 3)],
  [(48, .iload_n 1, 1), (49, .dup2, 1), (50, .iaload, 1), (51, .aload_n 0, 1), (52, .getfield 125, 3), (55, .iconst 3, 1), (56, .aload_n 0, 1), (57, .getfield 319, 3), (60, .imul, 1), (61, .iload_n 1, 1), (62, .iadd, 1), (63, .iaload, 1)],
  [(64, .isub, 1), (65, .iastore, 1), (66, .aload_n 0, 1), (67, .getfield 61, 3), (70, .iload_n 1, 1), (71, .dup2, 1), (72, .iaload, 1), (73, .aload_n 0, 1), (74, .getfield 128, 3), (77, .iconst 3, 1), (78, .aload_n 0, 1), (79, .getfield 319, 3)],
  [(82, .imul, 1), (83, .iload_n 1, 1), (84, .iadd, 1), (85, .iaload, 1), (86, .isub, 1), (87, .iastore, 1), (88, .iinc 1 1, 3), (91, .goto (-55), 3), (94, .aload_n 0, 1), (95, .getfield 316, 3)],
  [(98, .ireturn, 1)]]
set_option maxRecDepth 100000 in
theorem cd230_ok : ∀ ch ∈ cd230, ∀ e ∈ ch, decode (byAt 1844) e.1 = .ok (e.2.1, e.2.2) := by decide +kernel
def cd231 : PC := [[(0, .iconst 0, 1), (1, .istore_n 2, 1), (2, .iload_n 2, 1), (3, .aload_n 1, 1), (4, .arraylength, 1), (5, .if_icmp .ge 31, 3), (8, .aload_n 0, 1), (9, .getfield 131, 3), (12, .aload_n 0, 1), (13, .getfield 435, 3)],
  [(16, .aload_n 1, 1), (17, .iload_n 2, 1), (18, .iaload, 1), (19, .iastore, 1), (20, .aload_n 0, 1), (21, .dup, 1), (22, .getfield 435, 3), (25, .iconst 1, 1), (26, .iadd, 1), (27, .putfield 435, 3), (30, .iinc 2 1, 3)],
  [(33, .goto (-31), 3), (36, .return_, 1)]]
set_option maxRecDepth 100000 in
theorem cd231_ok : ∀ ch ∈ cd231, ∀ e ∈ ch, decode (byAt 1852) e.1 = .ok (e.2.1, e.2.2) := by decide +kernel
def cd232 : PC := [[(0, .iconst 0, 1), (1, .istore_n 2, 1), (2, .iload_n 2, 1), (3, .aload_n 1, 1), (4, .arraylength, 1), (5, .if_icmp .ge 31, 3), (8, .aload_n 1, 1), (9, .iload_n 2, 1), (10, .aload_n 0, 1), (11, .getfield 131, 3), (14, .aload_n 0, 1), (15, .getfield 435, 3)],
  [(18, .iaload, 1), (19, .iastore, 1), (20, .aload_n 0, 1), (21, .dup, 1), (22, .getfield 435, 3), (25, .iconst 1, 1), (26, .iadd, 1), (27, .putfield 435, 3), (30, .iinc 2 1, 3)],
  [(33, .goto (-31), 3), (36, .return_, 1)]]
set_option maxRecDepth 100000 in
theorem cd232_ok : ∀ ch ∈ cd232, ∀ e ∈ ch, decode (byAt 1860) e.1 = .ok (e.2.1, e.2.2) := by decide +kernel
def cd233 : PC := [[(0, .aload_n 0, 1), (1, .iconst 0, 1), (2, .putfield 134, 3), (5, .aload_n 0, 1), (6, .getfield 313, 3), (9, .ifCond .ne 5, 3), (12, .iconst (-1), 1), (13, .ireturn, 1), (14, .aload_n 0, 1), (15, .iconst 0, 1)],
  [(16, .putfield 435, 3), (19, .aload_n 0, 1), (20, .aload_n 0, 1), (21, .getfield 55, 3), (24, .invokevirtual 438, 3), (27, .aload_n 0, 1), (28, .aload_n 0, 1), (29, .getfield 58, 3)],
  [(32, .invokevirtual 438, 3), (35, .aload_n 0, 1), (36, .aload_n 0, 1), (37, .getfield 61, 3), (40, .invokevirtual 438, 3), (43, .aload_n 0, 1), (44, .aload_n 0, 1), (45, .getfield 43, 3)],
  [(48, .invokevirtual 438, 3), (51, .aload_n 0, 1), (52, .aload_n 0, 1), (53, .getfield 116, 3), (56, .invokevirtual 438, 3), (59, .aload_n 0, 1), (60, .aload_n 0, 1), (61, .getfield 119, 3)],
  [(64, .invokevirtual 438, 3), (67, .aload_n 0, 1), (68, .aload_n 0, 1), (69, .getfield 122, 3), (72, .invokevirtual 438, 3), (75, .aload_n 0, 1), (76, .aload_n 0, 1), (77, .getfield 125, 3)],
  [(80, .invokevirtual 438, 3), (83, .aload_n 0, 1), (84, .aload_n 0, 1), (85, .getfield 128, 3), (88, .invokevirtual 438, 3), (91, .aload_n 0, 1), (92, .aload_n 0, 1), (93, .getfield 316, 3)],
  [(96, .putfield 442, 3), (99, .aload_n 0, 1), (100, .aload_n 0, 1), (101, .getfield 319, 3), (104, .putfield 445, 3), (107, .aload_n 0, 1), (108, .aload_n 0, 1), (109, .getfield 322, 3)],
  [(112, .putfield 448, 3), (115, .aload_n 0, 1), (116, .iconst 1, 1), (117, .putfield 325, 3), (120, .aload_n 0, 1), (121, .getfield 316, 3), (124, .ireturn, 1)]]
set_option maxRecDepth 100000 in
theorem cd233_ok : ∀ ch ∈ cd233, ∀ e ∈ ch, decode (byAt 1848) e.1 = .ok (e.2.1, e.2.2) := by decide +kernel
def cd234 : PC := [[(0, .aload_n 0, 1), (1, .iconst 0, 1), (2, .putfield 134, 3), (5, .aload_n 0, 1), (6, .getfield 325, 3), (9, .ifCond .ne 5, 3), (12, .iconst (-1), 1), (13, .ireturn, 1), (14, .aload_n 0, 1), (15, .iconst 0, 1)],
  [(16, .putfield 435, 3), (19, .aload_n 0, 1), (20, .aload_n 0, 1), (21, .getfield 55, 3), (24, .invokevirtual 451, 3), (27, .aload_n 0, 1), (28, .aload_n 0, 1), (29, .getfield 58, 3)],
  [(32, .invokevirtual 451, 3), (35, .aload_n 0, 1), (36, .aload_n 0, 1), (37, .getfield 61, 3), (40, .invokevirtual 451, 3), (43, .aload_n 0, 1), (44, .aload_n 0, 1), (45, .getfield 43, 3)],
  [(48, .invokevirtual 451, 3), (51, .aload_n 0, 1), (52, .aload_n 0, 1), (53, .getfield 116, 3), (56, .invokevirtual 451, 3), (59, .aload_n 0, 1), (60, .aload_n 0, 1), (61, .getfield 119, 3)],
  [(64, .invokevirtual 451, 3), (67, .aload_n 0, 1), (68, .aload_n 0, 1), (69, .getfield 122, 3), (72, .invokevirtual 451, 3), (75, .aload_n 0, 1), (76, .aload_n 0, 1), (77, .getfield 125, 3)],
  [(80, .invokevirtual 451, 3), (83, .aload_n 0, 1), (84, .aload_n 0, 1), (85, .getfield 128, 3), (88, .invokevirtual 451, 3), (91, .aload_n 0, 1), (92, .aload_n 0, 1), (93, .getfield 442, 3)],
  [(96, .putfield 316, 3), (99, .aload_n 0, 1), (100, .aload_n 0, 1), (101, .getfield 445, 3), (104, .putfield 319, 3), (107, .aload_n 0, 1), (108, .aload_n 0, 1), (109, .getfield 448, 3)],
  [(112, .putfield 322, 3), (115, .aload_n 0, 1), (116, .getfield 316, 3), (119, .ireturn, 1)]]
set_option maxRecDepth 100000 in
theorem cd234_ok : ∀ ch ∈ cd234, ∀ e ∈ ch, decode (byAt 1856) e.1 = .ok (e.2.1, e.2.2) := by decide +kernel
def cd235 : PC := [[(0, .aload_n 0, 1), (1, .iconst 0, 1), (2, .putfield 134, 3), (5, .iload_n 1, 1), (6, .tableswitch 102 0 7 #[46, 51, 56, 61, 66, 71, 76, 97], 46)],
  [],
  [],
  [(52, .aload_n 0, 1), (53, .getfield 313, 3), (56, .ireturn, 1), (57, .aload_n 0, 1), (58, .getfield 310, 3), (61, .ireturn, 1), (62, .aload_n 0, 1), (63, .getfield 305, 3)],
  [(66, .ireturn, 1), (67, .aload_n 0, 1), (68, .getfield 148, 3), (71, .ireturn, 1), (72, .aload_n 0, 1), (73, .getfield 316, 3), (76, .ireturn, 1), (77, .aload_n 0, 1), (78, .getfield 319, 3)],
  [(81, .ireturn, 1), (82, .aload_n 0, 1), (83, .getfield 58, 3), (86, .iconst 0, 1), (87, .iaload, 1), (88, .aload_n 0, 1), (89, .getfield 58, 3), (92, .iconst 1, 1), (93, .iaload, 1), (94, .iadd, 1), (95, .aload_n 0, 1)],
  [(96, .getfield 58, 3), (99, .iconst 2, 1), (100, .iaload, 1), (101, .iadd, 1), (102, .ireturn, 1), (103, .aload_n 0, 1), (104, .getfield 322, 3), (107, .ireturn, 1), (108, .ldc_w 369, 3), (111, .ireturn, 1)]]
set_option maxRecDepth 100000 in
theorem cd235_ok : ∀ ch ∈ cd235, ∀ e ∈ ch, decode (byAt 1864) e.1 = .ok (e.2.1, e.2.2) := by decide +kernel
def cd236 : PC := [[(0, .iload_n 0, 1), (1, .iload_n 0, 1), (2, .iconst 1, 1), (3, .iushr, 1), (4, .ldc_w 265, 3), (7, .iand, 1), (8, .isub, 1), (9, .istore_n 0, 1), (10, .iload_n 0, 1), (11, .ldc_w 266, 3), (14, .iand, 1), (15, .iload_n 0, 1)],
  [(16, .iconst 2, 1), (17, .iushr, 1), (18, .ldc_w 266, 3), (21, .iand, 1), (22, .iadd, 1), (23, .istore_n 0, 1), (24, .iload_n 0, 1), (25, .iload_n 0, 1), (26, .iconst 4, 1), (27, .iushr, 1), (28, .iadd, 1), (29, .ldc_w 267, 3)],
  [(32, .iand, 1), (33, .istore_n 0, 1), (34, .iload_n 0, 1), (35, .iload_n 0, 1), (36, .bipush 8, 2), (38, .iushr, 1), (39, .iadd, 1), (40, .istore_n 0, 1), (41, .iload_n 0, 1), (42, .iload_n 0, 1), (43, .bipush 16, 2), (45, .iushr, 1), (46, .iadd, 1), (47, .istore_n 0, 1)],
  [(48, .iload_n 0, 1), (49, .bipush 63, 2), (51, .iand, 1), (52, .ireturn, 1)]]
set_option maxRecDepth 100000 in
theorem cd236_ok : ∀ ch ∈ cd236, ∀ e ∈ ch, decode (byAt 862) e.1 = .ok (e.2.1, e.2.2) := by decide +kernel
def cd237 : PC := [[(0, .iload_n 0, 1), (1, .iload_n 1, 1), (2, .irem, 1), (3, .istore_n 2, 1), (4, .iload_n 0, 1), (5, .iload_n 1, 1), (6, .ixor, 1), (7, .ifCond .ge 11, 3), (10, .iload_n 2, 1), (11, .ifCond .eq 7, 3), (14, .iload_n 2, 1), (15, .iload_n 1, 1)],
  [(16, .iadd, 1), (17, .ireturn, 1), (18, .iload_n 2, 1), (19, .ireturn, 1)]]
set_option maxRecDepth 100000 in
theorem cd237_ok : ∀ ch ∈ cd237, ∀ e ∈ ch, decode (byAt 1137) e.1 = .ok (e.2.1, e.2.2) := by decide +kernel
def cd238 : PC := [[(0, .iload_n 0, 1), (1, .ifCond .ge 8, 3), (4, .iload_n 0, 1), (5, .ineg, 1), (6, .goto 4, 3), (9, .iload_n 0, 1), (10, .ireturn, 1)]]
set_option maxRecDepth 100000 in
theorem cd238_ok : ∀ ch ∈ cd238, ∀ e ∈ ch, decode (byAt 1028) e.1 = .ok (e.2.1, e.2.2) := by decide +kernel
def cd239 : PC := [[(0, .iload_n 0, 1), (1, .iload_n 1, 1), (2, .if_icmp .lt 7, 3), (5, .iload_n 0, 1), (6, .goto 4, 3), (9, .iload_n 1, 1), (10, .ireturn, 1)]]
set_option maxRecDepth 100000 in
theorem cd239_ok : ∀ ch ∈ cd239, ∀ e ∈ ch, decode (byAt 238) e.1 = .ok (e.2.1, e.2.2) := by decide +kernel
def cd240 : PC := [[(0, .lload_n 0, 1), (1, .lload_n 2, 1), (2, .lcmp, 1), (3, .ifCond .lt 7, 3), (6, .lload_n 0, 1), (7, .goto 4, 3), (10, .lload_n 2, 1), (11, .lreturn, 1)]]
set_option maxRecDepth 100000 in
theorem cd240_ok : ∀ ch ∈ cd240, ∀ e ∈ ch, decode (byAt 1054) e.1 = .ok (e.2.1, e.2.2) := by decide +kernel
def cd241 : PC := [[(0, .iload_n 0, 1), (1, .iload_n 1, 1), (2, .if_icmp .gt 7, 3), (5, .iload_n 0, 1), (6, .goto 4, 3), (9, .iload_n 1, 1), (10, .ireturn, 1)]]
set_option maxRecDepth 100000 in
theorem cd241_ok : ∀ ch ∈ cd241, ∀ e ∈ ch, decode (byAt 950) e.1 = .ok (e.2.1, e.2.2) := by decide +kernel
def cd242 : PC := [[(0, .lload_n 0, 1), (1, .lload_n 2, 1), (2, .lcmp, 1), (3, .ifCond .gt 7, 3), (6, .lload_n 0, 1), (7, .goto 4, 3), (10, .lload_n 2, 1), (11, .lreturn, 1)]]
set_option maxRecDepth 100000 in
theorem cd242_ok : ∀ ch ∈ cd242, ∀ e ∈ ch, decode (byAt 1051) e.1 = .ok (e.2.1, e.2.2) := by decide +kernel
def cd243 : PC := [[(0, .aload_n 0, 1), (1, .getfield 9, 3), (4, .arraylength, 1), (5, .aload_n 0, 1), (6, .invokevirtual 335, 3), (9, .ishr, 1), (10, .ireturn, 1)]]
set_option maxRecDepth 100000 in
theorem cd243_ok : ∀ ch ∈ cd243, ∀ e ∈ ch, decode (byAt 1514) e.1 = .ok (e.2.1, e.2.2) := by decide +kernel
def cd244 : PC := [[(0, .aload_n 0, 1), (1, .invokevirtual 492, 3), (4, .ifCond .eq 12, 3), (7, .aload_n 0, 1), (8, .getfield 9, 3), (11, .iload_n 1, 1), (12, .invokestatic 495, 3), (15, .ireturn, 1)],
  [(16, .aload_n 0, 1), (17, .getfield 9, 3), (20, .iload_n 1, 1), (21, .invokestatic 498, 3), (24, .ireturn, 1)]]
set_option maxRecDepth 100000 in
theorem cd244_ok : ∀ ch ∈ cd244, ∀ e ∈ ch, decode (byAt 1527) e.1 = .ok (e.2.1, e.2.2) := by decide +kernel
