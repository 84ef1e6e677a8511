/-- 0: FewSigns$Tables.fits(II)Z -/
def zc_0 : List (Nat × List zE × Nat) := [(0, [(0, .iload_n 0, 1, 0, 0, 0), (1, .ifCond .lt 24, 3, 0, 0, 0), (4, .iload_n 0, 1, 0, 0, 0), (5, .iconst 3, 1, 0, 0, 0), (6, .if_icmp .gt 19, 3, 0, 0, 0), (9, .iload_n 1, 1, 0, 0, 0), (10, .ifCond .lt 15, 3, 0, 0, 0), (13, .iload_n 1, 1, 0, 0, 0), (14, .iload_n 0, 1, 0, 0, 0), (15, .invokestatic 9, 3, 1, 0, 264), (18, .if_icmp .gt 7, 3, 0, 0, 0), (21, .iconst 1, 1, 0, 0, 0), (22, .goto 4, 3, 0, 0, 0)], 25),
  (25, [(25, .iconst 0, 1, 0, 0, 0)], 26),
  (26, [(26, .ireturn, 1, 0, 0, 0)], 27)]
/-- 1: FewSigns$Tables.full(I)I -/
def zc_1 : List (Nat × List zE × Nat) := [(0, [(0, .iconst 1, 1, 0, 0, 0), (1, .iconst 1, 1, 0, 0, 0), (2, .iload_n 0, 1, 0, 0, 0), (3, .ishl, 1, 0, 0, 0), (4, .ishl, 1, 0, 0, 0), (5, .iconst 1, 1, 0, 0, 0), (6, .isub, 1, 0, 0, 0), (7, .ireturn, 1, 0, 0, 0)], 8)]
/-- 2: FewSigns$Tables.ofPlace(I)I -/
def zc_2 : List (Nat × List zE × Nat) := [(0, [(0, .iload_n 0, 1, 0, 0, 0), (1, .ifCond .ne 9, 3, 0, 0, 0), (4, .sipush 170, 3, 0, 0, 0), (7, .goto 17, 3, 0, 0, 0)], 10),
  (10, [(10, .iload_n 0, 1, 0, 0, 0), (11, .iconst 1, 1, 0, 0, 0), (12, .if_icmp .ne 9, 3, 0, 0, 0), (15, .sipush 204, 3, 0, 0, 0), (18, .goto 6, 3, 0, 0, 0)], 21),
  (21, [(21, .sipush 240, 3, 0, 0, 0)], 24),
  (24, [(24, .ireturn, 1, 0, 0, 0)], 25)]
/-- 3: FewSigns$Tables.bit(II)I -/
def zc_3 : List (Nat × List zE × Nat) := [(0, [(0, .iload_n 0, 1, 0, 0, 0), (1, .iload_n 1, 1, 0, 0, 0), (2, .ishr, 1, 0, 0, 0), (3, .iconst 1, 1, 0, 0, 0), (4, .iand, 1, 0, 0, 0), (5, .ireturn, 1, 0, 0, 0)], 6)]
/-- 4: FewSigns$Tables.widened(II)I -/
def zc_4 : List (Nat × List zE × Nat) := [(0, [(0, .iload_n 0, 1, 0, 0, 0), (1, .ifCond .lt 18, 3, 0, 0, 0), (4, .iload_n 0, 1, 0, 0, 0), (5, .iconst 3, 1, 0, 0, 0), (6, .if_icmp .gt 13, 3, 0, 0, 0), (9, .iload_n 1, 1, 0, 0, 0), (10, .getstatic 15, 3, 101, 0, 276), (13, .iload_n 0, 1, 0, 0, 0), (14, .iaload, 1, 0, 0, 0), (15, .imul, 1, 0, 0, 0), (16, .goto 4, 3, 0, 0, 0)], 19),
  (19, [(19, .iload_n 1, 1, 0, 0, 0)], 20),
  (20, [(20, .ireturn, 1, 0, 0, 0)], 21)]
/-- 5: FewSigns$Tables.pick(III)I -/
def zc_5 : List (Nat × List zE × Nat) := [(0, [(0, .iload_n 0, 1, 0, 0, 0), (1, .iload_n 1, 1, 0, 0, 0), (2, .iand, 1, 0, 0, 0), (3, .iload_n 0, 1, 0, 0, 0), (4, .iconst (-1), 1, 0, 0, 0), (5, .ixor, 1, 0, 0, 0), (6, .iload_n 2, 1, 0, 0, 0), (7, .iand, 1, 0, 0, 0), (8, .ior, 1, 0, 0, 0), (9, .ireturn, 1, 0, 0, 0)], 10)]
/-- 6: FewSigns$Tables.tellOfTwo(III)I -/
def zc_6 : List (Nat × List zE × Nat) := [(0, [(0, .iload_n 1, 1, 0, 0, 0), (1, .iload_n 0, 1, 0, 0, 0), (2, .iconst 3, 1, 0, 0, 0), (3, .invokestatic 19, 3, 3, 0, 281), (6, .ineg, 1, 0, 0, 0), (7, .iload_n 0, 1, 0, 0, 0), (8, .iconst 2, 1, 0, 0, 0), (9, .invokestatic 19, 3, 3, 0, 281), (12, .ineg, 1, 0, 0, 0), (13, .invokestatic 23, 3, 5, 0, 480), (16, .istore_n 3, 1, 0, 0, 0), (17, .iload_n 1, 1, 0, 0, 0), (18, .iload_n 0, 1, 0, 0, 0), (19, .iconst 1, 1, 0, 0, 0), (20, .invokestatic 19, 3, 3, 0, 281), (23, .ineg, 1, 0, 0, 0), (24, .iload_n 0, 1, 0, 0, 0), (25, .iconst 0, 1, 0, 0, 0), (26, .invokestatic 19, 3, 3, 0, 281), (29, .ineg, 1, 0, 0, 0), (30, .invokestatic 23, 3, 5, 0, 480), (33, .istore 4, 2, 0, 0, 0), (35, .iload_n 2, 1, 0, 0, 0), (36, .iload_n 3, 1, 0, 0, 0), (37, .iload 4, 2, 0, 0, 0), (39, .invokestatic 23, 3, 5, 0, 480), (42, .ireturn, 1, 0, 0, 0)], 43)]
/-- 7: FewSigns$Tables.tell(IIII)I -/
def zc_7 : List (Nat × List zE × Nat) := [(0, [(0, .iload_n 3, 1, 0, 0, 0), (1, .iload_n 0, 1, 0, 0, 0), (2, .iconst 4, 1, 0, 0, 0), (3, .ishr, 1, 0, 0, 0), (4, .iload_n 1, 1, 0, 0, 0), (5, .iload_n 2, 1, 0, 0, 0), (6, .invokestatic 27, 3, 6, 0, 477), (9, .iload_n 0, 1, 0, 0, 0), (10, .iload_n 1, 1, 0, 0, 0), (11, .iload_n 2, 1, 0, 0, 0), (12, .invokestatic 27, 3, 6, 0, 477), (15, .invokestatic 23, 3, 5, 0, 480), (18, .ireturn, 1, 0, 0, 0)], 19)]
/-- 8: FewSigns$Tables.toldRows(IIII)I -/
def zc_8 : List (Nat × List zE × Nat) := [(0, [(0, .iconst 1, 1, 0, 0, 0), (1, .iload_n 2, 1, 0, 0, 0), (2, .ishl, 1, 0, 0, 0), (3, .iconst 1, 1, 0, 0, 0), (4, .isub, 1, 0, 0, 0), (5, .istore 4, 2, 0, 0, 0), (7, .iload_n 0, 1, 0, 0, 0), (8, .ifCond .le 7, 3, 0, 0, 0), (11, .iload_n 3, 1, 0, 0, 0), (12, .goto 4, 3, 0, 0, 0)], 15),
  (15, [(15, .iconst 1, 1, 0, 0, 0)], 16),
  (16, [(16, .istore 5, 2, 0, 0, 0), (18, .iload_n 0, 1, 0, 0, 0), (19, .iconst 1, 1, 0, 0, 0), (20, .if_icmp .le 7, 3, 0, 0, 0), (23, .iload_n 3, 1, 0, 0, 0), (24, .goto 4, 3, 0, 0, 0)], 27),
  (27, [(27, .iconst 1, 1, 0, 0, 0)], 28),
  (28, [(28, .istore 6, 2, 0, 0, 0), (30, .iload_n 0, 1, 0, 0, 0), (31, .iconst 2, 1, 0, 0, 0), (32, .if_icmp .le 7, 3, 0, 0, 0), (35, .iload_n 3, 1, 0, 0, 0), (36, .goto 4, 3, 0, 0, 0)], 39),
  (39, [(39, .iconst 1, 1, 0, 0, 0)], 40),
  (40, [(40, .istore 7, 2, 0, 0, 0), (42, .iconst 0, 1, 0, 0, 0), (43, .istore 8, 2, 0, 0, 0), (45, .iconst 0, 1, 0, 0, 0), (46, .istore 9, 2, 0, 0, 0)], 48),
  (48, [(48, .iload 9, 2, 0, 0, 0), (50, .iload 4, 2, 0, 0, 0), (52, .if_icmp .gt 85, 3, 0, 0, 0), (55, .iconst 0, 1, 0, 0, 0), (56, .istore 10, 2, 0, 0, 0)], 58),
  (58, [(58, .iload 10, 2, 0, 0, 0), (60, .iload 4, 2, 0, 0, 0), (62, .if_icmp .gt 69, 3, 0, 0, 0), (65, .iload 5, 2, 0, 0, 0), (67, .iload 9, 2, 0, 0, 0), (69, .invokestatic 19, 3, 3, 0, 281), (72, .iconst 1, 1, 0, 0, 0), (73, .if_icmp .ne 58, 3, 0, 0, 0), (76, .iload 6, 2, 0, 0, 0), (78, .iload 10, 2, 0, 0, 0), (80, .invokestatic 19, 3, 3, 0, 281), (83, .iconst 1, 1, 0, 0, 0), (84, .if_icmp .ne 41, 3, 0, 0, 0), (87, .iload_n 1, 1, 0, 0, 0), (88, .iconst 4, 1, 0, 0, 0), (89, .ishr, 1, 0, 0, 0), (90, .iload 9, 2, 0, 0, 0), (92, .iload 10, 2, 0, 0, 0), (94, .invokestatic 27, 3, 6, 0, 477), (97, .istore 11, 2, 0, 0, 0), (99, .iload_n 1, 1, 0, 0, 0), (100, .iload 9, 2, 0, 0, 0), (102, .iload 10, 2, 0, 0, 0), (104, .invokestatic 27, 3, 6, 0, 477), (107, .istore 12, 2, 0, 0, 0), (109, .iload 8, 2, 0, 0, 0), (111, .iload 11, 2, 0, 0, 0), (113, .iload 12, 2, 0, 0, 0), (115, .iload 4, 2, 0, 0, 0), (117, .iload 7, 2, 0, 0, 0), (119, .invokestatic 30, 3, 9, 0, 481), (122, .ior, 1, 0, 0, 0), (123, .istore 8, 2, 0, 0, 0)], 125),
  (125, [(125, .iinc 10 1, 3, 0, 0, 0), (128, .goto (-70), 3, 0, 0, 0)], 131),
  (131, [(131, .iinc 9 1, 3, 0, 0, 0), (134, .goto (-86), 3, 0, 0, 0)], 137),
  (137, [(137, .iload 8, 2, 0, 0, 0), (139, .ireturn, 1, 0, 0, 0)], 140)]
/-- 9: FewSigns$Tables.pickedRows(IIII)I -/
def zc_9 : List (Nat × List zE × Nat) := [(0, [(0, .iconst 0, 1, 0, 0, 0), (1, .istore 4, 2, 0, 0, 0), (3, .iconst 0, 1, 0, 0, 0), (4, .istore 5, 2, 0, 0, 0)], 6),
  (6, [(6, .iload 5, 2, 0, 0, 0), (8, .iload_n 2, 1, 0, 0, 0), (9, .if_icmp .gt 35, 3, 0, 0, 0), (12, .iload_n 3, 1, 0, 0, 0), (13, .iload 5, 2, 0, 0, 0), (15, .invokestatic 19, 3, 3, 0, 281), (18, .iconst 1, 1, 0, 0, 0), (19, .if_icmp .ne 19, 3, 0, 0, 0), (22, .iload 4, 2, 0, 0, 0), (24, .iconst 1, 1, 0, 0, 0), (25, .iload 5, 2, 0, 0, 0), (27, .iload_n 0, 1, 0, 0, 0), (28, .iload_n 1, 1, 0, 0, 0), (29, .invokestatic 23, 3, 5, 0, 480), (32, .iload_n 2, 1, 0, 0, 0), (33, .iand, 1, 0, 0, 0), (34, .ishl, 1, 0, 0, 0), (35, .ior, 1, 0, 0, 0), (36, .istore 4, 2, 0, 0, 0)], 38),
  (38, [(38, .iinc 5 1, 3, 0, 0, 0), (41, .goto (-35), 3, 0, 0, 0)], 44),
  (44, [(44, .iload 4, 2, 0, 0, 0), (46, .ireturn, 1, 0, 0, 0)], 47)]
/-- 10: FewSigns$Tables.otherHalf(II)I -/
def zc_10 : List (Nat × List zE × Nat) := [(0, [(0, .iconst 1, 1, 0, 0, 0), (1, .iload_n 0, 1, 0, 0, 0), (2, .ishl, 1, 0, 0, 0), (3, .iconst 1, 1, 0, 0, 0), (4, .isub, 1, 0, 0, 0), (5, .istore_n 2, 1, 0, 0, 0), (6, .iconst 0, 1, 0, 0, 0), (7, .istore_n 3, 1, 0, 0, 0), (8, .iconst 0, 1, 0, 0, 0), (9, .istore 4, 2, 0, 0, 0)], 11),
  (11, [(11, .iload 4, 2, 0, 0, 0), (13, .iload_n 2, 1, 0, 0, 0), (14, .if_icmp .gt 25, 3, 0, 0, 0), (17, .iload_n 3, 1, 0, 0, 0), (18, .iconst 1, 1, 0, 0, 0), (19, .iload_n 1, 1, 0, 0, 0), (20, .iload_n 2, 1, 0, 0, 0), (21, .iload 4, 2, 0, 0, 0), (23, .isub, 1, 0, 0, 0), (24, .invokestatic 19, 3, 3, 0, 281), (27, .isub, 1, 0, 0, 0), (28, .iload 4, 2, 0, 0, 0), (30, .ishl, 1, 0, 0, 0), (31, .ior, 1, 0, 0, 0), (32, .istore_n 3, 1, 0, 0, 0), (33, .iinc 4 1, 3, 0, 0, 0), (36, .goto (-25), 3, 0, 0, 0)], 39),
  (39, [(39, .iload_n 3, 1, 0, 0, 0), (40, .ireturn, 1, 0, 0, 0)], 41)]
/-- 11: FewSigns$Tables.matteringPlaces(II)I -/
def zc_11 : List (Nat × List zE × Nat) := [(0, [(0, .iconst 0, 1, 0, 0, 0), (1, .istore_n 2, 1, 0, 0, 0), (2, .iconst 0, 1, 0, 0, 0), (3, .istore_n 3, 1, 0, 0, 0)], 4),
  (4, [(4, .iload_n 3, 1, 0, 0, 0), (5, .iload_n 0, 1, 0, 0, 0), (6, .if_icmp .ge 51, 3, 0, 0, 0), (9, .iconst 0, 1, 0, 0, 0), (10, .istore 4, 2, 0, 0, 0)], 12),
  (12, [(12, .iload 4, 2, 0, 0, 0), (14, .iconst 1, 1, 0, 0, 0), (15, .iload_n 0, 1, 0, 0, 0), (16, .ishl, 1, 0, 0, 0), (17, .if_icmp .ge 34, 3, 0, 0, 0), (20, .iload_n 1, 1, 0, 0, 0), (21, .iload 4, 2, 0, 0, 0), (23, .invokestatic 19, 3, 3, 0, 281), (26, .iload_n 1, 1, 0, 0, 0), (27, .iload 4, 2, 0, 0, 0), (29, .iconst 1, 1, 0, 0, 0), (30, .iload_n 3, 1, 0, 0, 0), (31, .ishl, 1, 0, 0, 0), (32, .ixor, 1, 0, 0, 0), (33, .invokestatic 19, 3, 3, 0, 281), (36, .if_icmp .eq 9, 3, 0, 0, 0), (39, .iload_n 2, 1, 0, 0, 0), (40, .iconst 1, 1, 0, 0, 0), (41, .iload_n 3, 1, 0, 0, 0), (42, .ishl, 1, 0, 0, 0), (43, .ior, 1, 0, 0, 0), (44, .istore_n 2, 1, 0, 0, 0)], 45),
  (45, [(45, .iinc 4 1, 3, 0, 0, 0), (48, .goto (-36), 3, 0, 0, 0)], 51),
  (51, [(51, .iinc 3 1, 3, 0, 0, 0), (54, .goto (-50), 3, 0, 0, 0)], 57),
  (57, [(57, .iload_n 2, 1, 0, 0, 0), (58, .ireturn, 1, 0, 0, 0)], 59)]
/-- 12: FewSigns$Tables.keptBits(II)I -/
def zc_12 : List (Nat × List zE × Nat) := [(0, [(0, .iconst 0, 1, 0, 0, 0), (1, .istore_n 2, 1, 0, 0, 0), (2, .iload_n 1, 1, 0, 0, 0), (3, .iconst 0, 1, 0, 0, 0), (4, .invokestatic 19, 3, 3, 0, 281), (7, .ifCond .ne 7, 3, 0, 0, 0), (10, .iload_n 2, 1, 0, 0, 0), (11, .iconst 1, 1, 0, 0, 0), (12, .ior, 1, 0, 0, 0), (13, .istore_n 2, 1, 0, 0, 0)], 14),
  (14, [(14, .iload_n 1, 1, 0, 0, 0), (15, .iconst 1, 1, 0, 0, 0), (16, .iload_n 0, 1, 0, 0, 0), (17, .ishl, 1, 0, 0, 0), (18, .iconst 1, 1, 0, 0, 0), (19, .isub, 1, 0, 0, 0), (20, .invokestatic 19, 3, 3, 0, 281), (23, .iconst 1, 1, 0, 0, 0), (24, .if_icmp .ne 7, 3, 0, 0, 0), (27, .iload_n 2, 1, 0, 0, 0), (28, .iconst 2, 1, 0, 0, 0), (29, .ior, 1, 0, 0, 0), (30, .istore_n 2, 1, 0, 0, 0)], 31),
  (31, [(31, .iload_n 0, 1, 0, 0, 0), (32, .iload_n 1, 1, 0, 0, 0), (33, .invokestatic 34, 3, 10, 0, 284), (36, .iload_n 1, 1, 0, 0, 0), (37, .if_icmp .ne 7, 3, 0, 0, 0), (40, .iload_n 2, 1, 0, 0, 0), (41, .iconst 4, 1, 0, 0, 0), (42, .ior, 1, 0, 0, 0), (43, .istore_n 2, 1, 0, 0, 0)], 44),
  (44, [(44, .iload_n 0, 1, 0, 0, 0), (45, .iload_n 1, 1, 0, 0, 0), (46, .invokestatic 37, 3, 13, 0, 287), (49, .ifCond .eq 8, 3, 0, 0, 0), (52, .iload_n 2, 1, 0, 0, 0), (53, .bipush 8, 2, 0, 0, 0), (55, .ior, 1, 0, 0, 0), (56, .istore_n 2, 1, 0, 0, 0)], 57),
  (57, [(57, .iload_n 0, 1, 0, 0, 0), (58, .iload_n 1, 1, 0, 0, 0), (59, .invokestatic 41, 3, 14, 0, 290), (62, .ifCond .eq 8, 3, 0, 0, 0), (65, .iload_n 2, 1, 0, 0, 0), (66, .bipush 16, 2, 0, 0, 0), (68, .ior, 1, 0, 0, 0), (69, .istore_n 2, 1, 0, 0, 0)], 70),
  (70, [(70, .iload_n 2, 1, 0, 0, 0), (71, .ireturn, 1, 0, 0, 0)], 72)]
/-- 13: FewSigns$Tables.isRising(II)Z -/
def zc_13 : List (Nat × List zE × Nat) := [(0, [(0, .iconst 0, 1, 0, 0, 0), (1, .istore_n 2, 1, 0, 0, 0)], 2),
  (2, [(2, .iload_n 2, 1, 0, 0, 0), (3, .iload_n 0, 1, 0, 0, 0), (4, .if_icmp .ge 43, 3, 0, 0, 0), (7, .iconst 0, 1, 0, 0, 0), (8, .istore_n 3, 1, 0, 0, 0)], 9),
  (9, [(9, .iload_n 3, 1, 0, 0, 0), (10, .iconst 1, 1, 0, 0, 0), (11, .iload_n 0, 1, 0, 0, 0), (12, .ishl, 1, 0, 0, 0), (13, .if_icmp .ge 28, 3, 0, 0, 0), (16, .iload_n 1, 1, 0, 0, 0), (17, .iload_n 3, 1, 0, 0, 0), (18, .invokestatic 19, 3, 3, 0, 281), (21, .iload_n 1, 1, 0, 0, 0), (22, .iload_n 3, 1, 0, 0, 0), (23, .iconst 1, 1, 0, 0, 0), (24, .iload_n 2, 1, 0, 0, 0), (25, .ishl, 1, 0, 0, 0), (26, .ior, 1, 0, 0, 0), (27, .invokestatic 19, 3, 3, 0, 281), (30, .if_icmp .le 5, 3, 0, 0, 0), (33, .iconst 0, 1, 0, 0, 0), (34, .ireturn, 1, 0, 0, 0)], 35),
  (35, [(35, .iinc 3 1, 3, 0, 0, 0), (38, .goto (-29), 3, 0, 0, 0)], 41),
  (41, [(41, .iinc 2 1, 3, 0, 0, 0), (44, .goto (-42), 3, 0, 0, 0)], 47),
  (47, [(47, .iconst 1, 1, 0, 0, 0), (48, .ireturn, 1, 0, 0, 0)], 49)]
/-- 14: FewSigns$Tables.isSum(II)Z -/
def zc_14 : List (Nat × List zE × Nat) := [(0, [(0, .iload_n 1, 1, 0, 0, 0), (1, .iconst 0, 1, 0, 0, 0), (2, .invokestatic 19, 3, 3, 0, 281), (5, .istore_n 2, 1, 0, 0, 0), (6, .iload_n 2, 1, 0, 0, 0), (7, .iconst 1, 1, 0, 0, 0), (8, .if_icmp .ne 10, 3, 0, 0, 0), (11, .iload_n 0, 1, 0, 0, 0), (12, .invokestatic 9, 3, 1, 0, 264), (15, .goto 4, 3, 0, 0, 0)], 18),
  (18, [(18, .iconst 0, 1, 0, 0, 0)], 19),
  (19, [(19, .istore_n 3, 1, 0, 0, 0), (20, .iconst 0, 1, 0, 0, 0), (21, .istore 4, 2, 0, 0, 0)], 23),
  (23, [(23, .iload 4, 2, 0, 0, 0), (25, .iload_n 0, 1, 0, 0, 0), (26, .if_icmp .ge 34, 3, 0, 0, 0), (29, .iload_n 1, 1, 0, 0, 0), (30, .iconst 1, 1, 0, 0, 0), (31, .iload 4, 2, 0, 0, 0), (33, .ishl, 1, 0, 0, 0), (34, .invokestatic 19, 3, 3, 0, 281), (37, .iload_n 2, 1, 0, 0, 0), (38, .if_icmp .eq 16, 3, 0, 0, 0), (41, .iload_n 3, 1, 0, 0, 0), (42, .iload 4, 2, 0, 0, 0), (44, .invokestatic 44, 3, 2, 0, 293), (47, .iload_n 0, 1, 0, 0, 0), (48, .invokestatic 9, 3, 1, 0, 264), (51, .iand, 1, 0, 0, 0), (52, .ixor, 1, 0, 0, 0), (53, .istore_n 3, 1, 0, 0, 0)], 54),
  (54, [(54, .iinc 4 1, 3, 0, 0, 0), (57, .goto (-34), 3, 0, 0, 0)], 60),
  (60, [(60, .iload_n 3, 1, 0, 0, 0), (61, .iload_n 1, 1, 0, 0, 0), (62, .if_icmp .ne 7, 3, 0, 0, 0), (65, .iconst 1, 1, 0, 0, 0), (66, .goto 4, 3, 0, 0, 0)], 69),
  (69, [(69, .iconst 0, 1, 0, 0, 0)], 70),
  (70, [(70, .ireturn, 1, 0, 0, 0)], 71)]
/-- 15: FewSigns$Way.begin(I)I -/
def zc_15 : List (Nat × List zE × Nat) := [(0, [(0, .iload_n 0, 1, 0, 0, 0), (1, .bipush 24, 2, 0, 0, 0), (3, .ishl, 1, 0, 0, 0), (4, .ireturn, 1, 0, 0, 0)], 5)]
/-- 16: FewSigns$Way.with(III)I -/
def zc_16 : List (Nat × List zE × Nat) := [(0, [(0, .iload_n 0, 1, 0, 0, 0), (1, .iload_n 2, 1, 0, 0, 0), (2, .iload_n 1, 1, 0, 0, 0), (3, .invokestatic 11, 3, 19, 0, 358), (6, .ishl, 1, 0, 0, 0), (7, .ior, 1, 0, 0, 0), (8, .ireturn, 1, 0, 0, 0)], 9)]
/-- 17: FewSigns$Way.letter(I)I -/
def zc_17 : List (Nat × List zE × Nat) := [(0, [(0, .iload_n 0, 1, 0, 0, 0), (1, .bipush 24, 2, 0, 0, 0), (3, .ishr, 1, 0, 0, 0), (4, .ireturn, 1, 0, 0, 0)], 5)]
/-- 18: FewSigns$Way.part(II)I -/
def zc_18 : List (Nat × List zE × Nat) := [(0, [(0, .iload_n 0, 1, 0, 0, 0), (1, .iload_n 1, 1, 0, 0, 0), (2, .invokestatic 11, 3, 19, 0, 358), (5, .ishr, 1, 0, 0, 0), (6, .sipush 255, 3, 0, 0, 0), (9, .iand, 1, 0, 0, 0), (10, .ireturn, 1, 0, 0, 0)], 11)]
/-- 19: FewSigns$Way.shiftOf(I)I -/
def zc_19 : List (Nat × List zE × Nat) := [(0, [(0, .bipush 8, 2, 0, 0, 0), (2, .iconst 2, 1, 0, 0, 0), (3, .iload_n 0, 1, 0, 0, 0), (4, .isub, 1, 0, 0, 0), (5, .imul, 1, 0, 0, 0), (6, .ireturn, 1, 0, 0, 0)], 7)]
/-- 20: FewSigns$Formula.becomeX()V -/
def zc_20 : List (Nat × List zE × Nat) := [(0, [(0, .aload_n 0, 1, 0, 0, 0), (1, .iconst 0, 1, 0, 0, 0), (2, .invokestatic 7, 3, 2, 0, 225), (5, .iconst 0, 1, 0, 0, 0), (6, .iconst 0, 1, 0, 0, 0), (7, .iconst 1, 1, 0, 0, 0), (8, .invokevirtual 13, 3, 21, 0, 228), (11, .return_, 1, 0, 0, 0)], 12)]
/-- 21: FewSigns$Formula.become(IIII)V -/
def zc_21 : List (Nat × List zE × Nat) := [(0, [(0, .aload_n 0, 1, 0, 0, 0), (1, .iload_n 1, 1, 0, 0, 0), (2, .putfield 19, 3, 0, 0, 200), (5, .aload_n 0, 1, 0, 0, 0), (6, .iload_n 2, 1, 0, 0, 0), (7, .putfield 23, 3, 0, 1, 202), (10, .aload_n 0, 1, 0, 0, 0), (11, .iload_n 3, 1, 0, 0, 0), (12, .putfield 26, 3, 0, 2, 204), (15, .aload_n 0, 1, 0, 0, 0), (16, .iload 4, 2, 0, 0, 0), (18, .putfield 29, 3, 0, 3, 206), (21, .return_, 1, 0, 0, 0)], 22)]
/-- 22: FewSigns$Sign.become(III)V -/
def zc_22 : List (Nat × List zE × Nat) := [(0, [(0, .aload_n 0, 1, 0, 0, 0), (1, .iload_n 1, 1, 0, 0, 0), (2, .putfield 7, 3, 3, 0, 61), (5, .aload_n 0, 1, 0, 0, 0), (6, .iload_n 2, 1, 0, 0, 0), (7, .putfield 13, 3, 3, 1, 66), (10, .aload_n 0, 1, 0, 0, 0), (11, .iload_n 3, 1, 0, 0, 0), (12, .putfield 16, 3, 3, 2, 69), (15, .aload_n 0, 1, 0, 0, 0), (16, .iload_n 1, 1, 0, 0, 0), (17, .iload_n 2, 1, 0, 0, 0), (18, .invokestatic 19, 3, 4, 0, 273), (21, .putfield 25, 3, 3, 3, 73), (24, .aload_n 0, 1, 0, 0, 0), (25, .iload_n 1, 1, 0, 0, 0), (26, .iload_n 2, 1, 0, 0, 0), (27, .invokestatic 28, 3, 12, 0, 278), (30, .putfield 31, 3, 3, 4, 77), (33, .return_, 1, 0, 0, 0)], 34)]
/-- 23: FewSigns$Sign.preserves(II)Z -/
def zc_23 : List (Nat × List zE × Nat) := [(0, [(0, .aload_n 0, 1, 0, 0, 0), (1, .getfield 7, 3, 3, 0, 61), (4, .aload_n 0, 1, 0, 0, 0), (5, .getfield 25, 3, 3, 3, 73), (8, .iload_n 1, 1, 0, 0, 0), (9, .iload_n 2, 1, 0, 0, 0), (10, .invokestatic 33, 3, 8, 0, 474), (13, .iload_n 2, 1, 0, 0, 0), (14, .iconst (-1), 1, 0, 0, 0), (15, .ixor, 1, 0, 0, 0), (16, .iand, 1, 0, 0, 0), (17, .ifCond .ne 7, 3, 0, 0, 0), (20, .iconst 1, 1, 0, 0, 0), (21, .goto 4, 3, 0, 0, 0)], 24),
  (24, [(24, .iconst 0, 1, 0, 0, 0)], 25),
  (25, [(25, .ireturn, 1, 0, 0, 0)], 26)]
/-- 24: FewSigns$Signs.has(I)Z -/
def zc_24 : List (Nat × List zE × Nat) := [(0, [(0, .iload_n 1, 1, 0, 0, 0), (1, .ifCond .lt 15, 3, 0, 0, 0), (4, .iload_n 1, 1, 0, 0, 0), (5, .aload_n 0, 1, 0, 0, 0), (6, .getfield 18, 3, 4, 1, 95), (9, .if_icmp .ge 7, 3, 0, 0, 0), (12, .iconst 1, 1, 0, 0, 0), (13, .goto 4, 3, 0, 0, 0)], 16),
  (16, [(16, .iconst 0, 1, 0, 0, 0)], 17),
  (17, [(17, .ireturn, 1, 0, 0, 0)], 18)]
/-- 25: FewSigns$Signs.hasAll(I)Z -/
def zc_25 : List (Nat × List zE × Nat) := [(0, [(0, .iload_n 1, 1, 0, 0, 0), (1, .ifCond .lt 17, 3, 0, 0, 0), (4, .iload_n 1, 1, 0, 0, 0), (5, .iconst 1, 1, 0, 0, 0), (6, .aload_n 0, 1, 0, 0, 0), (7, .getfield 18, 3, 4, 1, 95), (10, .ishl, 1, 0, 0, 0), (11, .if_icmp .ge 7, 3, 0, 0, 0), (14, .iconst 1, 1, 0, 0, 0), (15, .goto 4, 3, 0, 0, 0)], 18),
  (18, [(18, .iconst 0, 1, 0, 0, 0)], 19),
  (19, [(19, .ireturn, 1, 0, 0, 0)], 20)]
/-- 26: FewSigns$Signs.append(III)I -/
def zc_26 : List (Nat × List zE × Nat) := [(0, [(0, .aload_n 0, 1, 0, 0, 0), (1, .getfield 18, 3, 4, 1, 95), (4, .istore 4, 2, 0, 0, 0), (6, .iload 4, 2, 0, 0, 0), (8, .ifCond .lt 33, 3, 0, 0, 0), (11, .iload 4, 2, 0, 0, 0), (13, .bipush 6, 2, 0, 0, 0), (15, .if_icmp .ge 26, 3, 0, 0, 0), (18, .aload_n 0, 1, 0, 0, 0), (19, .getfield 11, 3, 4, 0, 91), (22, .iload 4, 2, 0, 0, 0), (24, .aaload, 1, 0, 0, 0), (25, .iload_n 1, 1, 0, 0, 0), (26, .iload_n 2, 1, 0, 0, 0), (27, .iload_n 3, 1, 0, 0, 0), (28, .invokevirtual 22, 3, 22, 0, 269), (31, .aload_n 0, 1, 0, 0, 0), (32, .dup, 1, 0, 0, 0), (33, .getfield 18, 3, 4, 1, 95), (36, .iconst 1, 1, 0, 0, 0), (37, .iadd, 1, 0, 0, 0), (38, .putfield 18, 3, 4, 1, 95)], 41),
  (41, [(41, .iload 4, 2, 0, 0, 0), (43, .ireturn, 1, 0, 0, 0)], 44)]
/-- 27: FewSigns$Signs.ofThreePlaces()I -/
def zc_27 : List (Nat × List zE × Nat) := [(0, [(0, .iconst 0, 1, 0, 0, 0), (1, .istore_n 1, 1, 0, 0, 0), (2, .iconst 0, 1, 0, 0, 0), (3, .istore_n 2, 1, 0, 0, 0)], 4),
  (4, [(4, .iload_n 2, 1, 0, 0, 0), (5, .aload_n 0, 1, 0, 0, 0), (6, .getfield 18, 3, 4, 1, 95), (9, .if_icmp .ge 25, 3, 0, 0, 0), (12, .aload_n 0, 1, 0, 0, 0), (13, .getfield 11, 3, 4, 0, 91), (16, .iload_n 2, 1, 0, 0, 0), (17, .aaload, 1, 0, 0, 0), (18, .getfield 26, 3, 3, 0, 65), (21, .iconst 3, 1, 0, 0, 0), (22, .if_icmp .ne 6, 3, 0, 0, 0), (25, .iinc 1 1, 3, 0, 0, 0)], 28),
  (28, [(28, .iinc 2 1, 3, 0, 0, 0), (31, .goto (-27), 3, 0, 0, 0)], 34),
  (34, [(34, .iload_n 1, 1, 0, 0, 0), (35, .ireturn, 1, 0, 0, 0)], 36)]
/-- 28: FewSigns$Signs.keptByAll(I)I -/
def zc_28 : List (Nat × List zE × Nat) := [(0, [(0, .bipush 31, 2, 0, 0, 0), (2, .istore_n 2, 1, 0, 0, 0), (3, .iconst 0, 1, 0, 0, 0), (4, .istore_n 3, 1, 0, 0, 0)], 5),
  (5, [(5, .iload_n 3, 1, 0, 0, 0), (6, .aload_n 0, 1, 0, 0, 0), (7, .getfield 18, 3, 4, 1, 95), (10, .if_icmp .ge 30, 3, 0, 0, 0), (13, .iload_n 1, 1, 0, 0, 0), (14, .iload_n 3, 1, 0, 0, 0), (15, .ishr, 1, 0, 0, 0), (16, .iconst 1, 1, 0, 0, 0), (17, .iand, 1, 0, 0, 0), (18, .iconst 1, 1, 0, 0, 0), (19, .if_icmp .ne 15, 3, 0, 0, 0), (22, .iload_n 2, 1, 0, 0, 0), (23, .aload_n 0, 1, 0, 0, 0), (24, .getfield 11, 3, 4, 0, 91), (27, .iload_n 3, 1, 0, 0, 0), (28, .aaload, 1, 0, 0, 0), (29, .getfield 31, 3, 3, 4, 79), (32, .iand, 1, 0, 0, 0), (33, .istore_n 2, 1, 0, 0, 0)], 34),
  (34, [(34, .iinc 3 1, 3, 0, 0, 0), (37, .goto (-32), 3, 0, 0, 0)], 40),
  (40, [(40, .iload_n 2, 1, 0, 0, 0), (41, .ireturn, 1, 0, 0, 0)], 42)]
/-- 29: FewSigns$Signs.saysAll(I)Z -/
def zc_29 : List (Nat × List zE × Nat) := [(0, [(0, .aload_n 0, 1, 0, 0, 0), (1, .iload_n 1, 1, 0, 0, 0), (2, .invokevirtual 34, 3, 28, 0, 441), (5, .ifCond .ne 7, 3, 0, 0, 0), (8, .iconst 1, 1, 0, 0, 0), (9, .goto 4, 3, 0, 0, 0)], 12),
  (12, [(12, .iconst 0, 1, 0, 0, 0)], 13),
  (13, [(13, .ireturn, 1, 0, 0, 0)], 14)]
/-- 30: FewSigns$Signs.isLeastSet(I)Z -/
def zc_30 : List (Nat × List zE × Nat) := [(0, [(0, .aload_n 0, 1, 0, 0, 0), (1, .iload_n 1, 1, 0, 0, 0), (2, .invokevirtual 38, 3, 29, 0, 458), (5, .ifCond .ne 5, 3, 0, 0, 0), (8, .iconst 0, 1, 0, 0, 0), (9, .ireturn, 1, 0, 0, 0)], 10),
  (10, [(10, .iconst 0, 1, 0, 0, 0), (11, .istore_n 2, 1, 0, 0, 0)], 12),
  (12, [(12, .iload_n 2, 1, 0, 0, 0), (13, .aload_n 0, 1, 0, 0, 0), (14, .getfield 18, 3, 4, 1, 95), (17, .if_icmp .ge 32, 3, 0, 0, 0), (20, .iload_n 1, 1, 0, 0, 0), (21, .iload_n 2, 1, 0, 0, 0), (22, .ishr, 1, 0, 0, 0), (23, .iconst 1, 1, 0, 0, 0), (24, .iand, 1, 0, 0, 0), (25, .iconst 1, 1, 0, 0, 0), (26, .if_icmp .ne 17, 3, 0, 0, 0), (29, .aload_n 0, 1, 0, 0, 0), (30, .iload_n 1, 1, 0, 0, 0), (31, .iconst 1, 1, 0, 0, 0), (32, .iload_n 2, 1, 0, 0, 0), (33, .ishl, 1, 0, 0, 0), (34, .ixor, 1, 0, 0, 0), (35, .invokevirtual 38, 3, 29, 0, 458), (38, .ifCond .eq 5, 3, 0, 0, 0), (41, .iconst 0, 1, 0, 0, 0), (42, .ireturn, 1, 0, 0, 0)], 43),
  (43, [(43, .iinc 2 1, 3, 0, 0, 0), (46, .goto (-34), 3, 0, 0, 0)], 49),
  (49, [(49, .iconst 1, 1, 0, 0, 0), (50, .ireturn, 1, 0, 0, 0)], 51)]
/-- 31: FewSigns$Signs.allPreserve(II)Z -/
def zc_31 : List (Nat × List zE × Nat) := [(0, [(0, .iconst 0, 1, 0, 0, 0), (1, .istore_n 3, 1, 0, 0, 0)], 2),
  (2, [(2, .iload_n 3, 1, 0, 0, 0), (3, .aload_n 0, 1, 0, 0, 0), (4, .getfield 18, 3, 4, 1, 95), (7, .if_icmp .ge 25, 3, 0, 0, 0), (10, .aload_n 0, 1, 0, 0, 0), (11, .getfield 11, 3, 4, 0, 91), (14, .iload_n 3, 1, 0, 0, 0), (15, .aaload, 1, 0, 0, 0), (16, .iload_n 1, 1, 0, 0, 0), (17, .iload_n 2, 1, 0, 0, 0), (18, .invokevirtual 42, 3, 23, 0, 520), (21, .ifCond .ne 5, 3, 0, 0, 0), (24, .iconst 0, 1, 0, 0, 0), (25, .ireturn, 1, 0, 0, 0)], 26),
  (26, [(26, .iinc 3 1, 3, 0, 0, 0), (29, .goto (-27), 3, 0, 0, 0)], 32),
  (32, [(32, .iconst 1, 1, 0, 0, 0), (33, .ireturn, 1, 0, 0, 0)], 34)]
/-- 32: FewSigns$Signs.preservedRelations(I)I -/
def zc_32 : List (Nat × List zE × Nat) := [(0, [(0, .iconst 0, 1, 0, 0, 0), (1, .istore_n 2, 1, 0, 0, 0), (2, .iconst 0, 1, 0, 0, 0), (3, .istore_n 3, 1, 0, 0, 0)], 4),
  (4, [(4, .iload_n 3, 1, 0, 0, 0), (5, .iload_n 1, 1, 0, 0, 0), (6, .invokestatic 46, 3, 1, 0, 515), (9, .if_icmp .gt 21, 3, 0, 0, 0), (12, .aload_n 0, 1, 0, 0, 0), (13, .iload_n 1, 1, 0, 0, 0), (14, .iload_n 3, 1, 0, 0, 0), (15, .invokevirtual 49, 3, 31, 0, 516), (18, .ifCond .eq 6, 3, 0, 0, 0), (21, .iinc 2 1, 3, 0, 0, 0)], 24),
  (24, [(24, .iinc 3 1, 3, 0, 0, 0), (27, .goto (-23), 3, 0, 0, 0)], 30),
  (30, [(30, .iload_n 2, 1, 0, 0, 0), (31, .ireturn, 1, 0, 0, 0)], 32)]
/-- 33: FewSigns$Signs.grown(II)I -/
def zc_33 : List (Nat × List zE × Nat) := [(0, [(0, .iload_n 2, 1, 0, 0, 0), (1, .istore_n 3, 1, 0, 0, 0), (2, .iconst 0, 1, 0, 0, 0), (3, .istore 4, 2, 0, 0, 0)], 5),
  (5, [(5, .iload 4, 2, 0, 0, 0), (7, .iconst 1, 1, 0, 0, 0), (8, .iload_n 1, 1, 0, 0, 0), (9, .ishl, 1, 0, 0, 0), (10, .if_icmp .ge 67, 3, 0, 0, 0), (13, .iload_n 3, 1, 0, 0, 0), (14, .istore 5, 2, 0, 0, 0), (16, .iconst 0, 1, 0, 0, 0), (17, .istore 6, 2, 0, 0, 0)], 19),
  (19, [(19, .iload 6, 2, 0, 0, 0), (21, .aload_n 0, 1, 0, 0, 0), (22, .getfield 18, 3, 4, 1, 95), (25, .if_icmp .ge 37, 3, 0, 0, 0), (28, .iload_n 3, 1, 0, 0, 0), (29, .aload_n 0, 1, 0, 0, 0), (30, .getfield 11, 3, 4, 0, 91), (33, .iload 6, 2, 0, 0, 0), (35, .aaload, 1, 0, 0, 0), (36, .getfield 26, 3, 3, 0, 65), (39, .aload_n 0, 1, 0, 0, 0), (40, .getfield 11, 3, 4, 0, 91), (43, .iload 6, 2, 0, 0, 0), (45, .aaload, 1, 0, 0, 0), (46, .getfield 52, 3, 3, 3, 76), (49, .iload_n 1, 1, 0, 0, 0), (50, .iload_n 3, 1, 0, 0, 0), (51, .invokestatic 55, 3, 8, 0, 496), (54, .ior, 1, 0, 0, 0), (55, .istore_n 3, 1, 0, 0, 0), (56, .iinc 6 1, 3, 0, 0, 0), (59, .goto (-40), 3, 0, 0, 0)], 62),
  (62, [(62, .iload_n 3, 1, 0, 0, 0), (63, .iload 5, 2, 0, 0, 0), (65, .if_icmp .ne 6, 3, 0, 0, 0), (68, .goto 9, 3, 0, 0, 0)], 71),
  (71, [(71, .iinc 4 1, 3, 0, 0, 0), (74, .goto (-69), 3, 0, 0, 0)], 77),
  (77, [(77, .iload_n 3, 1, 0, 0, 0), (78, .ireturn, 1, 0, 0, 0)], 79)]
/-- 34: FewSigns$Text.hasRoom(I)Z -/
def zc_34 : List (Nat × List zE × Nat) := [(0, [(0, .aload_n 0, 1, 0, 0, 0), (1, .getfield 13, 3, 5, 1, 151), (4, .iload_n 1, 1, 0, 0, 0), (5, .iadd, 1, 0, 0, 0), (6, .bipush 80, 2, 0, 0, 0), (8, .if_icmp .gt 7, 3, 0, 0, 0), (11, .iconst 1, 1, 0, 0, 0), (12, .goto 4, 3, 0, 0, 0)], 15),
  (15, [(15, .iconst 0, 1, 0, 0, 0)], 16),
  (16, [(16, .ireturn, 1, 0, 0, 0)], 17)]
/-- 35: FewSigns$Text.append(JI)V -/
def zc_35 : List (Nat × List zE × Nat) := [(0, [(0, .iload_n 3, 1, 0, 0, 0), (1, .iconst 1, 1, 0, 0, 0), (2, .isub, 1, 0, 0, 0), (3, .istore 4, 2, 0, 0, 0)], 5),
  (5, [(5, .iload 4, 2, 0, 0, 0), (7, .ifCond .lt 46, 3, 0, 0, 0), (10, .aload_n 0, 1, 0, 0, 0), (11, .getfield 13, 3, 5, 1, 151), (14, .bipush 80, 2, 0, 0, 0), (16, .if_icmp .ge 37, 3, 0, 0, 0), (19, .aload_n 0, 1, 0, 0, 0), (20, .getfield 9, 3, 5, 0, 150), (23, .aload_n 0, 1, 0, 0, 0), (24, .getfield 13, 3, 5, 1, 151), (27, .lload_n 1, 1, 0, 0, 0), (28, .bipush 8, 2, 0, 0, 0), (30, .iload 4, 2, 0, 0, 0), (32, .imul, 1, 0, 0, 0), (33, .lushr, 1, 0, 0, 0), (34, .l2i, 1, 0, 0, 0), (35, .i2b, 1, 0, 0, 0), (36, .bastore, 1, 0, 0, 0), (37, .aload_n 0, 1, 0, 0, 0), (38, .dup, 1, 0, 0, 0), (39, .getfield 13, 3, 5, 1, 151), (42, .iconst 1, 1, 0, 0, 0), (43, .iadd, 1, 0, 0, 0), (44, .putfield 13, 3, 5, 1, 151), (47, .iinc 4 (-1), 3, 0, 0, 0), (50, .goto (-45), 3, 0, 0, 0)], 53),
  (53, [(53, .return_, 1, 0, 0, 0)], 54)]
/-- 36: FewSigns$Text.byteAt(I)I -/
def zc_36 : List (Nat × List zE × Nat) := [(0, [(0, .iload_n 1, 1, 0, 0, 0), (1, .ifCond .lt 30, 3, 0, 0, 0), (4, .iload_n 1, 1, 0, 0, 0), (5, .aload_n 0, 1, 0, 0, 0), (6, .getfield 13, 3, 5, 1, 151), (9, .if_icmp .ge 22, 3, 0, 0, 0), (12, .iload_n 1, 1, 0, 0, 0), (13, .bipush 80, 2, 0, 0, 0), (15, .if_icmp .ge 16, 3, 0, 0, 0), (18, .aload_n 0, 1, 0, 0, 0), (19, .getfield 9, 3, 5, 0, 150), (22, .iload_n 1, 1, 0, 0, 0), (23, .baload, 1, 0, 0, 0), (24, .sipush 255, 3, 0, 0, 0), (27, .iand, 1, 0, 0, 0), (28, .goto 4, 3, 0, 0, 0)], 31),
  (31, [(31, .iconst (-1), 1, 0, 0, 0)], 32),
  (32, [(32, .ireturn, 1, 0, 0, 0)], 33)]
/-- 37: FewSigns$Reader.understands()Z -/
def zc_37 : List (Nat × List zE × Nat) := [(0, [(0, .aload_n 0, 1, 0, 0, 0), (1, .iconst 0, 1, 0, 0, 0), (2, .putfield 19, 3, 2, 2, 168), (5, .aload_n 0, 1, 0, 0, 0), (6, .iconst 0, 1, 0, 0, 0), (7, .putfield 23, 3, 2, 4, 172), (10, .aload_n 0, 1, 0, 0, 0), (11, .iconst 0, 1, 0, 0, 0), (12, .putfield 26, 3, 2, 5, 174), (15, .aload_n 0, 1, 0, 0, 0), (16, .iconst 0, 1, 0, 0, 0), (17, .putfield 29, 3, 2, 6, 176), (20, .aload_n 0, 1, 0, 0, 0), (21, .aload_n 0, 1, 0, 0, 0), (22, .iconst 0, 1, 0, 0, 0), (23, .invokevirtual 32, 3, 38, 0, 548), (26, .putfield 36, 3, 2, 3, 170), (29, .aload_n 0, 1, 0, 0, 0), (30, .getfield 36, 3, 2, 3, 170), (33, .iconst (-1), 1, 0, 0, 0), (34, .if_icmp .eq 21, 3, 0, 0, 0), (37, .aload_n 0, 1, 0, 0, 0), (38, .getfield 19, 3, 2, 2, 168), (41, .aload_n 0, 1, 0, 0, 0), (42, .getfield 9, 3, 2, 0, 166), (45, .getfield 39, 3, 5, 1, 152), (48, .if_icmp .ne 7, 3, 0, 0, 0), (51, .iconst 1, 1, 0, 0, 0), (52, .goto 4, 3, 0, 0, 0)], 55),
  (55, [(55, .iconst 0, 1, 0, 0, 0)], 56),
  (56, [(56, .ireturn, 1, 0, 0, 0)], 57)]
/-- 38: FewSigns$Reader.tableOfNext(I)I -/
def zc_38 : List (Nat × List zE × Nat) := [(0, [(0, .aload_n 0, 1, 0, 0, 0), (1, .getfield 9, 3, 2, 0, 166), (4, .aload_n 0, 1, 0, 0, 0), (5, .getfield 19, 3, 2, 2, 168), (8, .invokevirtual 44, 3, 36, 0, 552), (11, .istore_n 2, 1, 0, 0, 0), (12, .iload_n 2, 1, 0, 0, 0), (13, .bipush 120, 2, 0, 0, 0), (15, .if_icmp .lt 13, 3, 0, 0, 0), (18, .iload_n 2, 1, 0, 0, 0), (19, .bipush 122, 2, 0, 0, 0), (21, .if_icmp .gt 7, 3, 0, 0, 0), (24, .iconst 1, 1, 0, 0, 0), (25, .goto 4, 3, 0, 0, 0)], 28),
  (28, [(28, .iconst 0, 1, 0, 0, 0)], 29),
  (29, [(29, .istore_n 3, 1, 0, 0, 0), (30, .aload_n 0, 1, 0, 0, 0), (31, .getfield 29, 3, 2, 6, 176), (34, .bipush 30, 2, 0, 0, 0), (36, .if_icmp .ge 21, 3, 0, 0, 0), (39, .iload_n 3, 1, 0, 0, 0), (40, .ifCond .ne 19, 3, 0, 0, 0), (43, .aload_n 0, 1, 0, 0, 0), (44, .getfield 15, 3, 2, 1, 167), (47, .iload_n 2, 1, 0, 0, 0), (48, .bipush 112, 2, 0, 0, 0), (50, .isub, 1, 0, 0, 0), (51, .invokevirtual 47, 3, 24, 0, 556), (54, .ifCond .ne 5, 3, 0, 0, 0)], 57),
  (57, [(57, .iconst (-1), 1, 0, 0, 0), (58, .ireturn, 1, 0, 0, 0)], 59),
  (59, [(59, .aload_n 0, 1, 0, 0, 0), (60, .dup, 1, 0, 0, 0), (61, .getfield 19, 3, 2, 2, 168), (64, .iconst 1, 1, 0, 0, 0), (65, .iadd, 1, 0, 0, 0), (66, .putfield 19, 3, 2, 2, 168), (69, .aload_n 0, 1, 0, 0, 0), (70, .dup, 1, 0, 0, 0), (71, .getfield 29, 3, 2, 6, 176), (74, .iconst 1, 1, 0, 0, 0), (75, .iadd, 1, 0, 0, 0), (76, .putfield 29, 3, 2, 6, 176), (79, .iload_n 3, 1, 0, 0, 0), (80, .ifCond .eq 16, 3, 0, 0, 0), (83, .aload_n 0, 1, 0, 0, 0), (84, .iconst 0, 1, 0, 0, 0), (85, .putfield 26, 3, 2, 5, 174), (88, .iload_n 2, 1, 0, 0, 0), (89, .bipush 120, 2, 0, 0, 0), (91, .isub, 1, 0, 0, 0), (92, .invokestatic 53, 3, 2, 0, 557), (95, .ireturn, 1, 0, 0, 0)], 96),
  (96, [(96, .aload_n 0, 1, 0, 0, 0), (97, .getfield 15, 3, 2, 1, 167), (100, .getfield 58, 3, 4, 0, 93), (103, .iload_n 2, 1, 0, 0, 0), (104, .bipush 112, 2, 0, 0, 0), (106, .isub, 1, 0, 0, 0), (107, .aaload, 1, 0, 0, 0), (108, .astore 4, 2, 0, 0, 0), (110, .aload_n 0, 1, 0, 0, 0), (111, .dup, 1, 0, 0, 0), (112, .getfield 23, 3, 2, 4, 172), (115, .aload 4, 2, 0, 0, 0), (117, .getfield 62, 3, 3, 2, 71), (120, .iadd, 1, 0, 0, 0), (121, .putfield 23, 3, 2, 4, 172), (124, .aload 4, 2, 0, 0, 0), (126, .getfield 65, 3, 3, 0, 63), (129, .ifCond .ne 14, 3, 0, 0, 0), (132, .aload_n 0, 1, 0, 0, 0), (133, .iconst 1, 1, 0, 0, 0), (134, .putfield 26, 3, 2, 5, 174), (137, .aload 4, 2, 0, 0, 0), (139, .getfield 68, 3, 3, 3, 74), (142, .ireturn, 1, 0, 0, 0)], 143),
  (143, [(143, .aload_n 0, 1, 0, 0, 0), (144, .aload 4, 2, 0, 0, 0), (146, .iload_n 1, 1, 0, 0, 0), (147, .invokevirtual 71, 3, 39, 0, 558), (150, .ireturn, 1, 0, 0, 0)], 151)]
/-- 39: FewSigns$Reader.tableOfParts(LFewSigns$Sign;I)I -/
def zc_39 : List (Nat × List zE × Nat) := [(0, [(0, .iload_n 2, 1, 0, 0, 0), (1, .bipush 8, 2, 0, 0, 0), (3, .if_icmp .ge 12, 3, 0, 0, 0), (6, .aload_n 0, 1, 0, 0, 0), (7, .bipush 40, 2, 0, 0, 0), (9, .invokevirtual 75, 3, 40, 0, 562), (12, .ifCond .ne 5, 3, 0, 0, 0)], 15),
  (15, [(15, .iconst (-1), 1, 0, 0, 0), (16, .ireturn, 1, 0, 0, 0)], 17),
  (17, [(17, .iconst 0, 1, 0, 0, 0), (18, .istore_n 3, 1, 0, 0, 0), (19, .iconst 0, 1, 0, 0, 0), (20, .istore 4, 2, 0, 0, 0), (22, .iconst 0, 1, 0, 0, 0), (23, .istore 5, 2, 0, 0, 0), (25, .iconst 0, 1, 0, 0, 0), (26, .istore 6, 2, 0, 0, 0), (28, .iconst 0, 1, 0, 0, 0), (29, .istore 7, 2, 0, 0, 0)], 31),
  (31, [(31, .iload 7, 2, 0, 0, 0), (33, .aload_n 1, 1, 0, 0, 0), (34, .getfield 65, 3, 3, 0, 63), (37, .if_icmp .ge 98, 3, 0, 0, 0), (40, .iload 7, 2, 0, 0, 0), (42, .ifCond .le 14, 3, 0, 0, 0), (45, .aload_n 0, 1, 0, 0, 0), (46, .bipush 44, 2, 0, 0, 0), (48, .invokevirtual 75, 3, 40, 0, 562), (51, .ifCond .ne 5, 3, 0, 0, 0), (54, .iconst (-1), 1, 0, 0, 0), (55, .ireturn, 1, 0, 0, 0)], 56),
  (56, [(56, .aload_n 0, 1, 0, 0, 0), (57, .iload_n 2, 1, 0, 0, 0), (58, .iconst 1, 1, 0, 0, 0), (59, .iadd, 1, 0, 0, 0), (60, .invokevirtual 32, 3, 38, 0, 548), (63, .istore 8, 2, 0, 0, 0), (65, .iload 8, 2, 0, 0, 0), (67, .iconst (-1), 1, 0, 0, 0), (68, .if_icmp .ne 5, 3, 0, 0, 0), (71, .iconst (-1), 1, 0, 0, 0), (72, .ireturn, 1, 0, 0, 0)], 73),
  (73, [(73, .iload 6, 2, 0, 0, 0), (75, .aload_n 0, 1, 0, 0, 0), (76, .getfield 26, 3, 2, 5, 174), (79, .invokestatic 79, 3, 88, 0, 566), (82, .istore 6, 2, 0, 0, 0), (84, .iload 7, 2, 0, 0, 0), (86, .lookupswitch 39 #[(0, 26), (1, 32)], 26, 0, 0, 0)], 112),
  (112, [(112, .iload 8, 2, 0, 0, 0), (114, .istore_n 3, 1, 0, 0, 0), (115, .goto 14, 3, 0, 0, 0)], 118),
  (118, [(118, .iload 8, 2, 0, 0, 0), (120, .istore 4, 2, 0, 0, 0), (122, .goto 7, 3, 0, 0, 0)], 125),
  (125, [(125, .iload 8, 2, 0, 0, 0), (127, .istore 5, 2, 0, 0, 0)], 129),
  (129, [(129, .iinc 7 1, 3, 0, 0, 0), (132, .goto (-101), 3, 0, 0, 0)], 135),
  (135, [(135, .aload_n 0, 1, 0, 0, 0), (136, .bipush 41, 2, 0, 0, 0), (138, .invokevirtual 75, 3, 40, 0, 562), (141, .ifCond .ne 5, 3, 0, 0, 0), (144, .iconst (-1), 1, 0, 0, 0), (145, .ireturn, 1, 0, 0, 0)], 146),
  (146, [(146, .aload_n 0, 1, 0, 0, 0), (147, .iload 6, 2, 0, 0, 0), (149, .iconst 1, 1, 0, 0, 0), (150, .iadd, 1, 0, 0, 0), (151, .putfield 26, 3, 2, 5, 174), (154, .aload_n 1, 1, 0, 0, 0), (155, .getfield 68, 3, 3, 3, 74), (158, .iload_n 3, 1, 0, 0, 0), (159, .iload 4, 2, 0, 0, 0), (161, .iload 5, 2, 0, 0, 0), (163, .invokestatic 85, 3, 7, 0, 567), (166, .iconst 3, 1, 0, 0, 0), (167, .invokestatic 89, 3, 1, 0, 570), (170, .iand, 1, 0, 0, 0), (171, .ireturn, 1, 0, 0, 0)], 172)]
/-- 40: FewSigns$Reader.takes(C)Z -/
def zc_40 : List (Nat × List zE × Nat) := [(0, [(0, .aload_n 0, 1, 0, 0, 0), (1, .getfield 9, 3, 2, 0, 166), (4, .aload_n 0, 1, 0, 0, 0), (5, .getfield 19, 3, 2, 2, 168), (8, .invokevirtual 44, 3, 36, 0, 552), (11, .iload_n 1, 1, 0, 0, 0), (12, .if_icmp .eq 5, 3, 0, 0, 0), (15, .iconst 0, 1, 0, 0, 0), (16, .ireturn, 1, 0, 0, 0)], 17),
  (17, [(17, .aload_n 0, 1, 0, 0, 0), (18, .dup, 1, 0, 0, 0), (19, .getfield 19, 3, 2, 2, 168), (22, .iconst 1, 1, 0, 0, 0), (23, .iadd, 1, 0, 0, 0), (24, .putfield 19, 3, 2, 2, 168), (27, .iconst 1, 1, 0, 0, 0), (28, .ireturn, 1, 0, 0, 0)], 29)]
/-- 41: FewSigns$Reach.explore(LFewSigns$Signs;)V -/
def zc_41 : List (Nat × List zE × Nat) := [(0, [(0, .aload_n 0, 1, 0, 0, 0), (1, .aload_n 1, 1, 0, 0, 0), (2, .invokevirtual 37, 3, 42, 0, 334), (5, .iconst 0, 1, 0, 0, 0), (6, .istore_n 2, 1, 0, 0, 0)], 7),
  (7, [(7, .iload_n 2, 1, 0, 0, 0), (8, .aload_n 0, 1, 0, 0, 0), (9, .getfield 21, 3, 1, 1, 113), (12, .if_icmp .gt 80, 3, 0, 0, 0), (15, .aload_n 0, 1, 0, 0, 0), (16, .invokevirtual 41, 3, 43, 0, 347), (19, .istore_n 3, 1, 0, 0, 0), (20, .iload_n 3, 1, 0, 0, 0), (21, .ifCond .ge 6, 3, 0, 0, 0), (24, .goto 68, 3, 0, 0, 0)], 27),
  (27, [(27, .aload_n 0, 1, 0, 0, 0), (28, .getfield 30, 3, 1, 4, 116), (31, .iload_n 3, 1, 0, 0, 0), (32, .iconst 1, 1, 0, 0, 0), (33, .bastore, 1, 0, 0, 0), (34, .aload_n 0, 1, 0, 0, 0), (35, .getfield 34, 3, 1, 5, 117), (38, .aload_n 0, 1, 0, 0, 0), (39, .getfield 45, 3, 1, 7, 119), (42, .iload_n 3, 1, 0, 0, 0), (43, .iastore, 1, 0, 0, 0), (44, .aload_n 0, 1, 0, 0, 0), (45, .dup, 1, 0, 0, 0), (46, .getfield 45, 3, 1, 7, 119), (49, .iconst 1, 1, 0, 0, 0), (50, .iadd, 1, 0, 0, 0), (51, .putfield 45, 3, 1, 7, 119), (54, .iconst 0, 1, 0, 0, 0), (55, .istore 4, 2, 0, 0, 0)], 57),
  (57, [(57, .iload 4, 2, 0, 0, 0), (59, .aload_n 1, 1, 0, 0, 0), (60, .getfield 48, 3, 4, 1, 97), (63, .if_icmp .ge 23, 3, 0, 0, 0), (66, .aload_n 0, 1, 0, 0, 0), (67, .aload_n 1, 1, 0, 0, 0), (68, .getfield 53, 3, 4, 0, 92), (71, .iload 4, 2, 0, 0, 0), (73, .aaload, 1, 0, 0, 0), (74, .iload 4, 2, 0, 0, 0), (76, .iload_n 3, 1, 0, 0, 0), (77, .invokevirtual 57, 3, 44, 0, 351), (80, .iinc 4 1, 3, 0, 0, 0), (83, .goto (-26), 3, 0, 0, 0)], 86),
  (86, [(86, .iinc 2 1, 3, 0, 0, 0), (89, .goto (-82), 3, 0, 0, 0)], 92),
  (92, [(92, .aload_n 0, 1, 0, 0, 0), (93, .iconst 1, 1, 0, 0, 0), (94, .putfield 61, 3, 1, 8, 121), (97, .return_, 1, 0, 0, 0)], 98)]
/-- 42: FewSigns$Reach.begin(LFewSigns$Signs;)V -/
def zc_42 : List (Nat × List zE × Nat) := [(0, [(0, .aload_n 0, 1, 0, 0, 0), (1, .iconst 0, 1, 0, 0, 0), (2, .putfield 45, 3, 1, 7, 119), (5, .iconst 0, 1, 0, 0, 0), (6, .istore_n 2, 1, 0, 0, 0)], 7),
  (7, [(7, .iload_n 2, 1, 0, 0, 0), (8, .aload_n 0, 1, 0, 0, 0), (9, .getfield 21, 3, 1, 1, 113), (12, .if_icmp .gt 31, 3, 0, 0, 0), (15, .aload_n 0, 1, 0, 0, 0), (16, .getfield 23, 3, 1, 2, 114), (19, .iload_n 2, 1, 0, 0, 0), (20, .ldc 65, 2, 1073741824, 0, 338), (22, .iastore, 1, 0, 0, 0), (23, .aload_n 0, 1, 0, 0, 0), (24, .getfield 27, 3, 1, 3, 115), (27, .iload_n 2, 1, 0, 0, 0), (28, .iconst (-1), 1, 0, 0, 0), (29, .iastore, 1, 0, 0, 0), (30, .aload_n 0, 1, 0, 0, 0), (31, .getfield 30, 3, 1, 4, 116), (34, .iload_n 2, 1, 0, 0, 0), (35, .iconst 0, 1, 0, 0, 0), (36, .bastore, 1, 0, 0, 0), (37, .iinc 2 1, 3, 0, 0, 0), (40, .goto (-33), 3, 0, 0, 0)], 43),
  (43, [(43, .iconst 0, 1, 0, 0, 0), (44, .istore_n 2, 1, 0, 0, 0)], 45),
  (45, [(45, .iload_n 2, 1, 0, 0, 0), (46, .aload_n 0, 1, 0, 0, 0), (47, .getfield 9, 3, 1, 0, 112), (50, .if_icmp .ge 24, 3, 0, 0, 0), (53, .aload_n 0, 1, 0, 0, 0), (54, .getfield 23, 3, 1, 2, 114), (57, .iload_n 2, 1, 0, 0, 0), (58, .invokestatic 68, 3, 2, 0, 339), (61, .aload_n 0, 1, 0, 0, 0), (62, .getfield 21, 3, 1, 1, 113), (65, .iand, 1, 0, 0, 0), (66, .iconst 0, 1, 0, 0, 0), (67, .iastore, 1, 0, 0, 0), (68, .iinc 2 1, 3, 0, 0, 0), (71, .goto (-26), 3, 0, 0, 0)], 74),
  (74, [(74, .iconst 0, 1, 0, 0, 0), (75, .istore_n 2, 1, 0, 0, 0)], 76),
  (76, [(76, .iload_n 2, 1, 0, 0, 0), (77, .aload_n 1, 1, 0, 0, 0), (78, .getfield 48, 3, 4, 1, 97), (81, .if_icmp .ge 40, 3, 0, 0, 0), (84, .aload_n 1, 1, 0, 0, 0), (85, .getfield 53, 3, 4, 0, 92), (88, .iload_n 2, 1, 0, 0, 0), (89, .aaload, 1, 0, 0, 0), (90, .astore_n 3, 1, 0, 0, 0), (91, .aload_n 3, 1, 0, 0, 0), (92, .getfield 71, 3, 3, 0, 62), (95, .ifCond .ne 20, 3, 0, 0, 0), (98, .aload_n 0, 1, 0, 0, 0), (99, .aload_n 3, 1, 0, 0, 0), (100, .getfield 74, 3, 3, 1, 67), (103, .ineg, 1, 0, 0, 0), (104, .aload_n 3, 1, 0, 0, 0), (105, .getfield 77, 3, 3, 2, 70), (108, .iload_n 2, 1, 0, 0, 0), (109, .invokestatic 79, 3, 15, 0, 340), (112, .invokevirtual 81, 3, 48, 0, 343)], 115),
  (115, [(115, .iinc 2 1, 3, 0, 0, 0), (118, .goto (-42), 3, 0, 0, 0)], 121),
  (121, [(121, .return_, 1, 0, 0, 0)], 122)]
/-- 43: FewSigns$Reach.cheapestOpen()I -/
def zc_43 : List (Nat × List zE × Nat) := [(0, [(0, .iconst (-1), 1, 0, 0, 0), (1, .istore_n 1, 1, 0, 0, 0), (2, .aload_n 0, 1, 0, 0, 0), (3, .iconst 0, 1, 0, 0, 0), (4, .putfield 85, 3, 1, 6, 118), (7, .iconst 0, 1, 0, 0, 0), (8, .istore_n 2, 1, 0, 0, 0)], 9),
  (9, [(9, .iload_n 2, 1, 0, 0, 0), (10, .aload_n 0, 1, 0, 0, 0), (11, .getfield 21, 3, 1, 1, 113), (14, .if_icmp .gt 60, 3, 0, 0, 0), (17, .aload_n 0, 1, 0, 0, 0), (18, .getfield 23, 3, 1, 2, 114), (21, .iload_n 2, 1, 0, 0, 0), (22, .iaload, 1, 0, 0, 0), (23, .istore_n 3, 1, 0, 0, 0), (24, .iload_n 3, 1, 0, 0, 0), (25, .aload_n 0, 1, 0, 0, 0), (26, .getfield 85, 3, 1, 6, 118), (29, .if_icmp .le 8, 3, 0, 0, 0), (32, .aload_n 0, 1, 0, 0, 0), (33, .iload_n 3, 1, 0, 0, 0), (34, .putfield 85, 3, 1, 6, 118)], 37),
  (37, [(37, .iload_n 3, 1, 0, 0, 0), (38, .ldc 65, 2, 1073741824, 0, 338), (40, .if_icmp .eq 28, 3, 0, 0, 0), (43, .aload_n 0, 1, 0, 0, 0), (44, .getfield 30, 3, 1, 4, 116), (47, .iload_n 2, 1, 0, 0, 0), (48, .baload, 1, 0, 0, 0), (49, .ifCond .ne 19, 3, 0, 0, 0), (52, .iload_n 1, 1, 0, 0, 0), (53, .ifCond .lt 13, 3, 0, 0, 0), (56, .iload_n 3, 1, 0, 0, 0), (57, .aload_n 0, 1, 0, 0, 0), (58, .getfield 23, 3, 1, 2, 114), (61, .iload_n 1, 1, 0, 0, 0), (62, .iaload, 1, 0, 0, 0), (63, .if_icmp .ge 5, 3, 0, 0, 0)], 66),
  (66, [(66, .iload_n 2, 1, 0, 0, 0), (67, .istore_n 1, 1, 0, 0, 0)], 68),
  (68, [(68, .iinc 2 1, 3, 0, 0, 0), (71, .goto (-62), 3, 0, 0, 0)], 74),
  (74, [(74, .iload_n 1, 1, 0, 0, 0), (75, .ireturn, 1, 0, 0, 0)], 76)]
/-- 44: FewSigns$Reach.join(LFewSigns$Sign;II)V -/
def zc_44 : List (Nat × List zE × Nat) := [(0, [(0, .iconst 0, 1, 0, 0, 0), (1, .istore 4, 2, 0, 0, 0)], 3),
  (3, [(3, .iload 4, 2, 0, 0, 0), (5, .aload_n 1, 1, 0, 0, 0), (6, .getfield 71, 3, 3, 0, 62), (9, .if_icmp .ge 27, 3, 0, 0, 0), (12, .aload_n 0, 1, 0, 0, 0), (13, .aload_n 1, 1, 0, 0, 0), (14, .iload_n 2, 1, 0, 0, 0), (15, .invokestatic 79, 3, 15, 0, 340), (18, .iload 4, 2, 0, 0, 0), (20, .iload_n 3, 1, 0, 0, 0), (21, .invokestatic 88, 3, 16, 0, 355), (24, .iload_n 3, 1, 0, 0, 0), (25, .iload 4, 2, 0, 0, 0), (27, .invokevirtual 92, 3, 45, 0, 361), (30, .iinc 4 1, 3, 0, 0, 0), (33, .goto (-30), 3, 0, 0, 0)], 36),
  (36, [(36, .return_, 1, 0, 0, 0)], 37)]
/-- 45: FewSigns$Reach.joinAt(LFewSigns$Sign;III)V -/
def zc_45 : List (Nat × List zE × Nat) := [(0, [(0, .iload 4, 2, 0, 0, 0), (2, .ifCond .ne 7, 3, 0, 0, 0), (5, .iconst 1, 1, 0, 0, 0), (6, .goto 4, 3, 0, 0, 0)], 9),
  (9, [(9, .iconst 0, 1, 0, 0, 0)], 10),
  (10, [(10, .istore 5, 2, 0, 0, 0), (12, .iload 4, 2, 0, 0, 0), (14, .iconst 2, 1, 0, 0, 0), (15, .if_icmp .ne 7, 3, 0, 0, 0), (18, .iconst 1, 1, 0, 0, 0), (19, .goto 4, 3, 0, 0, 0)], 22),
  (22, [(22, .iconst 2, 1, 0, 0, 0)], 23),
  (23, [(23, .istore 6, 2, 0, 0, 0), (25, .aload_n 1, 1, 0, 0, 0), (26, .iload_n 3, 1, 0, 0, 0), (27, .iload 4, 2, 0, 0, 0), (29, .iconst 0, 1, 0, 0, 0), (30, .invokestatic 96, 3, 47, 0, 365), (33, .istore 7, 2, 0, 0, 0), (35, .aload_n 1, 1, 0, 0, 0), (36, .iload_n 3, 1, 0, 0, 0), (37, .iload 4, 2, 0, 0, 0), (39, .iconst 1, 1, 0, 0, 0), (40, .iload 5, 2, 0, 0, 0), (42, .ishl, 1, 0, 0, 0), (43, .invokestatic 96, 3, 47, 0, 365), (46, .istore 8, 2, 0, 0, 0), (48, .aload_n 1, 1, 0, 0, 0), (49, .iload_n 3, 1, 0, 0, 0), (50, .iload 4, 2, 0, 0, 0), (52, .iconst 1, 1, 0, 0, 0), (53, .iload 6, 2, 0, 0, 0), (55, .ishl, 1, 0, 0, 0), (56, .invokestatic 96, 3, 47, 0, 365), (59, .istore 9, 2, 0, 0, 0), (61, .aload_n 1, 1, 0, 0, 0), (62, .iload_n 3, 1, 0, 0, 0), (63, .iload 4, 2, 0, 0, 0), (65, .iconst 1, 1, 0, 0, 0), (66, .iload 5, 2, 0, 0, 0), (68, .ishl, 1, 0, 0, 0), (69, .iconst 1, 1, 0, 0, 0), (70, .iload 6, 2, 0, 0, 0), (72, .ishl, 1, 0, 0, 0), (73, .ior, 1, 0, 0, 0), (74, .invokestatic 96, 3, 47, 0, 365), (77, .istore 10, 2, 0, 0, 0), (79, .aload_n 1, 1, 0, 0, 0), (80, .getfield 77, 3, 3, 2, 70), (83, .aload_n 0, 1, 0, 0, 0), (84, .getfield 23, 3, 1, 2, 114), (87, .iload_n 3, 1, 0, 0, 0), (88, .iaload, 1, 0, 0, 0), (89, .iadd, 1, 0, 0, 0), (90, .istore 11, 2, 0, 0, 0), (92, .aload_n 1, 1, 0, 0, 0), (93, .getfield 71, 3, 3, 0, 62), (96, .iconst 2, 1, 0, 0, 0), (97, .if_icmp .ge 13, 3, 0, 0, 0), (100, .aload_n 0, 1, 0, 0, 0), (101, .iload 7, 2, 0, 0, 0), (103, .iload 11, 2, 0, 0, 0), (105, .iload_n 2, 1, 0, 0, 0), (106, .invokevirtual 81, 3, 48, 0, 343), (109, .return_, 1, 0, 0, 0)], 110),
  (110, [(110, .iconst 0, 1, 0, 0, 0), (111, .istore 12, 2, 0, 0, 0)], 113),
  (113, [(113, .iload 12, 2, 0, 0, 0), (115, .aload_n 0, 1, 0, 0, 0), (116, .getfield 45, 3, 1, 7, 119), (119, .if_icmp .ge 105, 3, 0, 0, 0), (122, .aload_n 0, 1, 0, 0, 0), (123, .getfield 34, 3, 1, 5, 117), (126, .iload 12, 2, 0, 0, 0), (128, .iaload, 1, 0, 0, 0), (129, .istore 13, 2, 0, 0, 0), (131, .iload 11, 2, 0, 0, 0), (133, .aload_n 0, 1, 0, 0, 0), (134, .getfield 23, 3, 1, 2, 114), (137, .iload 13, 2, 0, 0, 0), (139, .iaload, 1, 0, 0, 0), (140, .iadd, 1, 0, 0, 0), (141, .istore 14, 2, 0, 0, 0), (143, .iload 14, 2, 0, 0, 0), (145, .aload_n 0, 1, 0, 0, 0), (146, .getfield 85, 3, 1, 6, 118), (149, .if_icmp .le 6, 3, 0, 0, 0), (152, .goto 72, 3, 0, 0, 0)], 155),
  (155, [(155, .iload 13, 2, 0, 0, 0), (157, .iload 8, 2, 0, 0, 0), (159, .iload 7, 2, 0, 0, 0), (161, .invokestatic 100, 3, 5, 0, 369), (164, .istore 15, 2, 0, 0, 0), (166, .iload_n 2, 1, 0, 0, 0), (167, .iload 5, 2, 0, 0, 0), (169, .iload 13, 2, 0, 0, 0), (171, .invokestatic 88, 3, 16, 0, 355), (174, .istore 16, 2, 0, 0, 0), (176, .aload_n 1, 1, 0, 0, 0), (177, .getfield 71, 3, 3, 0, 62), (180, .iconst 3, 1, 0, 0, 0), (181, .if_icmp .ge 16, 3, 0, 0, 0), (184, .aload_n 0, 1, 0, 0, 0), (185, .iload 15, 2, 0, 0, 0), (187, .iload 14, 2, 0, 0, 0), (189, .iload 16, 2, 0, 0, 0), (191, .invokevirtual 81, 3, 48, 0, 343), (194, .goto 24, 3, 0, 0, 0)], 197),
  (197, [(197, .aload_n 0, 1, 0, 0, 0), (198, .iload 13, 2, 0, 0, 0), (200, .iload 10, 2, 0, 0, 0), (202, .iload 9, 2, 0, 0, 0), (204, .invokestatic 100, 3, 5, 0, 369), (207, .iload 15, 2, 0, 0, 0), (209, .iload 14, 2, 0, 0, 0), (211, .iload 16, 2, 0, 0, 0), (213, .iload 6, 2, 0, 0, 0), (215, .invokevirtual 103, 3, 46, 0, 372)], 218),
  (218, [(218, .iinc 12 1, 3, 0, 0, 0), (221, .goto (-108), 3, 0, 0, 0)], 224),
  (224, [(224, .return_, 1, 0, 0, 0)], 225)]
/-- 46: FewSigns$Reach.joinLast(IIIII)V -/
def zc_46 : List (Nat × List zE × Nat) := [(0, [(0, .iconst 0, 1, 0, 0, 0), (1, .istore 6, 2, 0, 0, 0)], 3),
  (3, [(3, .iload 6, 2, 0, 0, 0), (5, .aload_n 0, 1, 0, 0, 0), (6, .getfield 45, 3, 1, 7, 119), (9, .if_icmp .ge 63, 3, 0, 0, 0), (12, .aload_n 0, 1, 0, 0, 0), (13, .getfield 34, 3, 1, 5, 117), (16, .iload 6, 2, 0, 0, 0), (18, .iaload, 1, 0, 0, 0), (19, .istore 7, 2, 0, 0, 0), (21, .iload_n 3, 1, 0, 0, 0), (22, .aload_n 0, 1, 0, 0, 0), (23, .getfield 23, 3, 1, 2, 114), (26, .iload 7, 2, 0, 0, 0), (28, .iaload, 1, 0, 0, 0), (29, .iadd, 1, 0, 0, 0), (30, .istore 8, 2, 0, 0, 0), (32, .iload 8, 2, 0, 0, 0), (34, .aload_n 0, 1, 0, 0, 0), (35, .getfield 85, 3, 1, 6, 118), (38, .if_icmp .le 6, 3, 0, 0, 0), (41, .goto 31, 3, 0, 0, 0)], 44),
  (44, [(44, .aload_n 0, 1, 0, 0, 0), (45, .iload 7, 2, 0, 0, 0), (47, .iload_n 1, 1, 0, 0, 0), (48, .iload_n 2, 1, 0, 0, 0), (49, .invokestatic 100, 3, 5, 0, 369), (52, .iload 8, 2, 0, 0, 0), (54, .iload 4, 2, 0, 0, 0), (56, .iload 5, 2, 0, 0, 0), (58, .iload 7, 2, 0, 0, 0), (60, .invokestatic 88, 3, 16, 0, 355), (63, .invokevirtual 81, 3, 48, 0, 343), (66, .iinc 6 1, 3, 0, 0, 0), (69, .goto (-66), 3, 0, 0, 0)], 72),
  (72, [(72, .return_, 1, 0, 0, 0)], 73)]
/-- 47: FewSigns$Reach.leftOf(LFewSigns$Sign;III)I -/
def zc_47 : List (Nat × List zE × Nat) := [(0, [(0, .aload_n 0, 1, 0, 0, 0), (1, .getfield 107, 3, 3, 3, 75), (4, .iload_n 3, 1, 0, 0, 0), (5, .iconst 1, 1, 0, 0, 0), (6, .iload_n 2, 1, 0, 0, 0), (7, .ishl, 1, 0, 0, 0), (8, .ior, 1, 0, 0, 0), (9, .invokestatic 110, 3, 3, 0, 368), (12, .ineg, 1, 0, 0, 0), (13, .istore 4, 2, 0, 0, 0), (15, .aload_n 0, 1, 0, 0, 0), (16, .getfield 107, 3, 3, 3, 75), (19, .iload_n 3, 1, 0, 0, 0), (20, .invokestatic 110, 3, 3, 0, 368), (23, .ineg, 1, 0, 0, 0), (24, .istore 5, 2, 0, 0, 0), (26, .iload_n 1, 1, 0, 0, 0), (27, .iload 4, 2, 0, 0, 0), (29, .iload 5, 2, 0, 0, 0), (31, .invokestatic 100, 3, 5, 0, 369), (34, .ireturn, 1, 0, 0, 0)], 35)]
/-- 48: FewSigns$Reach.offer(III)V -/
def zc_48 : List (Nat × List zE × Nat) := [(0, [(0, .iload_n 1, 1, 0, 0, 0), (1, .aload_n 0, 1, 0, 0, 0), (2, .getfield 21, 3, 1, 1, 113), (5, .iand, 1, 0, 0, 0), (6, .istore 4, 2, 0, 0, 0), (8, .iload_n 2, 1, 0, 0, 0), (9, .aload_n 0, 1, 0, 0, 0), (10, .getfield 23, 3, 1, 2, 114), (13, .iload 4, 2, 0, 0, 0), (15, .iaload, 1, 0, 0, 0), (16, .if_icmp .lt 25, 3, 0, 0, 0), (19, .iload_n 2, 1, 0, 0, 0), (20, .aload_n 0, 1, 0, 0, 0), (21, .getfield 23, 3, 1, 2, 114), (24, .iload 4, 2, 0, 0, 0), (26, .iaload, 1, 0, 0, 0), (27, .if_icmp .ne 30, 3, 0, 0, 0), (30, .iload_n 3, 1, 0, 0, 0), (31, .aload_n 0, 1, 0, 0, 0), (32, .getfield 27, 3, 1, 3, 115), (35, .iload 4, 2, 0, 0, 0), (37, .iaload, 1, 0, 0, 0), (38, .if_icmp .ge 19, 3, 0, 0, 0)], 41),
  (41, [(41, .aload_n 0, 1, 0, 0, 0), (42, .getfield 23, 3, 1, 2, 114), (45, .iload 4, 2, 0, 0, 0), (47, .iload_n 2, 1, 0, 0, 0), (48, .iastore, 1, 0, 0, 0), (49, .aload_n 0, 1, 0, 0, 0), (50, .getfield 27, 3, 1, 3, 115), (53, .iload 4, 2, 0, 0, 0), (55, .iload_n 3, 1, 0, 0, 0), (56, .iastore, 1, 0, 0, 0)], 57),
  (57, [(57, .return_, 1, 0, 0, 0)], 58)]
/-- 49: FewSigns$Reach.covers(I)Z -/
def zc_49 : List (Nat × List zE × Nat) := [(0, [(0, .iload_n 1, 1, 0, 0, 0), (1, .ifCond .lt 26, 3, 0, 0, 0), (4, .iload_n 1, 1, 0, 0, 0), (5, .aload_n 0, 1, 0, 0, 0), (6, .getfield 21, 3, 1, 1, 113), (9, .if_icmp .gt 18, 3, 0, 0, 0), (12, .aload_n 0, 1, 0, 0, 0), (13, .getfield 23, 3, 1, 2, 114), (16, .iload_n 1, 1, 0, 0, 0), (17, .iaload, 1, 0, 0, 0), (18, .ldc 65, 2, 1073741824, 0, 338), (20, .if_icmp .eq 7, 3, 0, 0, 0), (23, .iconst 1, 1, 0, 0, 0), (24, .goto 4, 3, 0, 0, 0)], 27),
  (27, [(27, .iconst 0, 1, 0, 0, 0)], 28),
  (28, [(28, .ireturn, 1, 0, 0, 0)], 29)]
/-- 50: FewSigns$Reach.leastCost(I)I -/
def zc_50 : List (Nat × List zE × Nat) := [(0, [(0, .aload_n 0, 1, 0, 0, 0), (1, .iload_n 1, 1, 0, 0, 0), (2, .invokevirtual 114, 3, 49, 0, 384), (5, .ifCond .eq 12, 3, 0, 0, 0), (8, .aload_n 0, 1, 0, 0, 0), (9, .getfield 23, 3, 1, 2, 114), (12, .iload_n 1, 1, 0, 0, 0), (13, .iaload, 1, 0, 0, 0), (14, .goto 5, 3, 0, 0, 0)], 17),
  (17, [(17, .bipush (-9), 2, 0, 0, 0)], 19),
  (19, [(19, .ireturn, 1, 0, 0, 0)], 20)]
/-- 51: FewSigns$Reach.wayTo(I)I -/
def zc_51 : List (Nat × List zE × Nat) := [(0, [(0, .aload_n 0, 1, 0, 0, 0), (1, .iload_n 1, 1, 0, 0, 0), (2, .invokevirtual 114, 3, 49, 0, 384), (5, .ifCond .eq 12, 3, 0, 0, 0), (8, .aload_n 0, 1, 0, 0, 0), (9, .getfield 27, 3, 1, 3, 115), (12, .iload_n 1, 1, 0, 0, 0), (13, .iaload, 1, 0, 0, 0), (14, .goto 4, 3, 0, 0, 0)], 17),
  (17, [(17, .iconst (-1), 1, 0, 0, 0)], 18),
  (18, [(18, .ireturn, 1, 0, 0, 0)], 19)]
/-- 52: FewSigns$Reach.greatestCost()I -/
def zc_52 : List (Nat × List zE × Nat) := [(0, [(0, .iconst 0, 1, 0, 0, 0), (1, .istore_n 1, 1, 0, 0, 0), (2, .iconst 0, 1, 0, 0, 0), (3, .istore_n 2, 1, 0, 0, 0)], 4),
  (4, [(4, .iload_n 2, 1, 0, 0, 0), (5, .aload_n 0, 1, 0, 0, 0), (6, .getfield 21, 3, 1, 1, 113), (9, .if_icmp .gt 28, 3, 0, 0, 0), (12, .aload_n 0, 1, 0, 0, 0), (13, .iload_n 2, 1, 0, 0, 0), (14, .invokevirtual 114, 3, 49, 0, 384), (17, .ifCond .eq 14, 3, 0, 0, 0), (20, .iload_n 1, 1, 0, 0, 0), (21, .aload_n 0, 1, 0, 0, 0), (22, .getfield 23, 3, 1, 2, 114), (25, .iload_n 2, 1, 0, 0, 0), (26, .iaload, 1, 0, 0, 0), (27, .invokestatic 118, 3, 88, 0, 410), (30, .istore_n 1, 1, 0, 0, 0)], 31),
  (31, [(31, .iinc 2 1, 3, 0, 0, 0), (34, .goto (-30), 3, 0, 0, 0)], 37),
  (37, [(37, .iload_n 1, 1, 0, 0, 0), (38, .ireturn, 1, 0, 0, 0)], 39)]
/-- 53: FewSigns$Reach.firstCosting(I)I -/
def zc_53 : List (Nat × List zE × Nat) := [(0, [(0, .iconst 0, 1, 0, 0, 0), (1, .istore_n 2, 1, 0, 0, 0)], 2),
  (2, [(2, .iload_n 2, 1, 0, 0, 0), (3, .aload_n 0, 1, 0, 0, 0), (4, .getfield 21, 3, 1, 1, 113), (7, .if_icmp .gt 29, 3, 0, 0, 0), (10, .aload_n 0, 1, 0, 0, 0), (11, .iload_n 2, 1, 0, 0, 0), (12, .invokevirtual 114, 3, 49, 0, 384), (15, .ifCond .eq 15, 3, 0, 0, 0), (18, .aload_n 0, 1, 0, 0, 0), (19, .getfield 23, 3, 1, 2, 114), (22, .iload_n 2, 1, 0, 0, 0), (23, .iaload, 1, 0, 0, 0), (24, .iload_n 1, 1, 0, 0, 0), (25, .if_icmp .ne 5, 3, 0, 0, 0), (28, .iload_n 2, 1, 0, 0, 0), (29, .ireturn, 1, 0, 0, 0)], 30),
  (30, [(30, .iinc 2 1, 3, 0, 0, 0), (33, .goto (-31), 3, 0, 0, 0)], 36),
  (36, [(36, .bipush (-9), 2, 0, 0, 0), (38, .ireturn, 1, 0, 0, 0)], 39)]
/-- 54: FewSigns$Reach.firstUnreached()I -/
def zc_54 : List (Nat × List zE × Nat) := [(0, [(0, .iconst 0, 1, 0, 0, 0), (1, .istore_n 1, 1, 0, 0, 0)], 2),
  (2, [(2, .iload_n 1, 1, 0, 0, 0), (3, .aload_n 0, 1, 0, 0, 0), (4, .getfield 21, 3, 1, 1, 113), (7, .if_icmp .gt 19, 3, 0, 0, 0), (10, .aload_n 0, 1, 0, 0, 0), (11, .iload_n 1, 1, 0, 0, 0), (12, .invokevirtual 114, 3, 49, 0, 384), (15, .ifCond .ne 5, 3, 0, 0, 0), (18, .iload_n 1, 1, 0, 0, 0), (19, .ireturn, 1, 0, 0, 0)], 20),
  (20, [(20, .iinc 1 1, 3, 0, 0, 0), (23, .goto (-21), 3, 0, 0, 0)], 26),
  (26, [(26, .bipush (-9), 2, 0, 0, 0), (28, .ireturn, 1, 0, 0, 0)], 29)]
/-- 55: FewSigns$Reach.howManyCost(I)I -/
def zc_55 : List (Nat × List zE × Nat) := [(0, [(0, .iconst 0, 1, 0, 0, 0), (1, .istore_n 2, 1, 0, 0, 0), (2, .iconst 0, 1, 0, 0, 0), (3, .istore_n 3, 1, 0, 0, 0)], 4),
  (4, [(4, .iload_n 3, 1, 0, 0, 0), (5, .aload_n 0, 1, 0, 0, 0), (6, .getfield 21, 3, 1, 1, 113), (9, .if_icmp .gt 30, 3, 0, 0, 0), (12, .aload_n 0, 1, 0, 0, 0), (13, .iload_n 3, 1, 0, 0, 0), (14, .invokevirtual 114, 3, 49, 0, 384), (17, .ifCond .eq 16, 3, 0, 0, 0), (20, .aload_n 0, 1, 0, 0, 0), (21, .getfield 23, 3, 1, 2, 114), (24, .iload_n 3, 1, 0, 0, 0), (25, .iaload, 1, 0, 0, 0), (26, .iload_n 1, 1, 0, 0, 0), (27, .if_icmp .ne 6, 3, 0, 0, 0), (30, .iinc 2 1, 3, 0, 0, 0)], 33),
  (33, [(33, .iinc 3 1, 3, 0, 0, 0), (36, .goto (-32), 3, 0, 0, 0)], 39),
  (39, [(39, .iload_n 2, 1, 0, 0, 0), (40, .ireturn, 1, 0, 0, 0)], 41)]
/-- 56: FewSigns.sign(III)I -/
def zc_56 : List (Nat × List zE × Nat) := [(0, [(0, .iload_n 1, 1, 0, 0, 0), (1, .iload_n 2, 1, 0, 0, 0), (2, .invokestatic 61, 3, 0, 0, 261), (5, .ifCond .eq 14, 3, 0, 0, 0), (8, .iload_n 3, 1, 0, 0, 0), (9, .iconst 1, 1, 0, 0, 0), (10, .if_icmp .lt 9, 3, 0, 0, 0), (13, .iload_n 3, 1, 0, 0, 0), (14, .bipush 9, 2, 0, 0, 0), (16, .if_icmp .le 5, 3, 0, 0, 0)], 19),
  (19, [(19, .iconst (-1), 1, 0, 0, 0), (20, .ireturn, 1, 0, 0, 0)], 21),
  (21, [(21, .aload_n 0, 1, 0, 0, 0), (22, .getfield 10, 3, 6, 0, 232), (25, .getfield 67, 3, 4, 1, 96), (28, .bipush 6, 2, 0, 0, 0), (30, .if_icmp .lt 6, 3, 0, 0, 0), (33, .bipush (-3), 2, 0, 0, 0), (35, .ireturn, 1, 0, 0, 0)], 36),
  (36, [(36, .aload_n 0, 1, 0, 0, 0), (37, .getfield 10, 3, 6, 0, 232), (40, .iload_n 1, 1, 0, 0, 0), (41, .iload_n 2, 1, 0, 0, 0), (42, .iload_n 3, 1, 0, 0, 0), (43, .invokevirtual 71, 3, 26, 0, 265), (46, .istore 4, 2, 0, 0, 0), (48, .aload_n 0, 1, 0, 0, 0), (49, .invokevirtual 58, 3, 81, 0, 217), (52, .iload 4, 2, 0, 0, 0), (54, .ireturn, 1, 0, 0, 0)], 55)]
/-- 57: FewSigns.drop()I -/
def zc_57 : List (Nat × List zE × Nat) := [(0, [(0, .aload_n 0, 1, 0, 0, 0), (1, .getfield 10, 3, 6, 0, 232), (4, .getfield 67, 3, 4, 1, 96), (7, .iconst 1, 1, 0, 0, 0), (8, .if_icmp .ge 5, 3, 0, 0, 0), (11, .iconst (-1), 1, 0, 0, 0), (12, .ireturn, 1, 0, 0, 0)], 13),
  (13, [(13, .aload_n 0, 1, 0, 0, 0), (14, .getfield 10, 3, 6, 0, 232), (17, .dup, 1, 0, 0, 0), (18, .getfield 67, 3, 4, 1, 96), (21, .iconst 1, 1, 0, 0, 0), (22, .isub, 1, 0, 0, 0), (23, .putfield 67, 3, 4, 1, 96), (26, .aload_n 0, 1, 0, 0, 0), (27, .invokevirtual 58, 3, 81, 0, 217), (30, .aload_n 0, 1, 0, 0, 0), (31, .getfield 10, 3, 6, 0, 232), (34, .getfield 67, 3, 4, 1, 96), (37, .ireturn, 1, 0, 0, 0)], 38)]
/-- 58: FewSigns.about(II)I -/
def zc_58 : List (Nat × List zE × Nat) := [(0, [(0, .aload_n 0, 1, 0, 0, 0), (1, .getfield 10, 3, 6, 0, 232), (4, .iload_n 1, 1, 0, 0, 0), (5, .invokevirtual 75, 3, 24, 0, 302), (8, .ifCond .ne 5, 3, 0, 0, 0), (11, .iconst (-1), 1, 0, 0, 0), (12, .ireturn, 1, 0, 0, 0)], 13),
  (13, [(13, .aload_n 0, 1, 0, 0, 0), (14, .getfield 10, 3, 6, 0, 232), (17, .getfield 79, 3, 4, 0, 94), (20, .iload_n 1, 1, 0, 0, 0), (21, .aaload, 1, 0, 0, 0), (22, .astore_n 3, 1, 0, 0, 0), (23, .iload_n 2, 1, 0, 0, 0), (24, .tableswitch 52 0 3 #[32, 37, 42, 47], 32, 0, 0, 0)], 56),
  (56, [(56, .aload_n 3, 1, 0, 0, 0), (57, .getfield 83, 3, 3, 0, 64), (60, .ireturn, 1, 0, 0, 0)], 61),
  (61, [(61, .aload_n 3, 1, 0, 0, 0), (62, .getfield 88, 3, 3, 1, 68), (65, .ireturn, 1, 0, 0, 0)], 66),
  (66, [(66, .aload_n 3, 1, 0, 0, 0), (67, .getfield 91, 3, 3, 2, 72), (70, .ireturn, 1, 0, 0, 0)], 71),
  (71, [(71, .aload_n 3, 1, 0, 0, 0), (72, .getfield 94, 3, 3, 4, 78), (75, .ireturn, 1, 0, 0, 0)], 76),
  (76, [(76, .iconst (-1), 1, 0, 0, 0), (77, .ireturn, 1, 0, 0, 0)], 78)]
/-- 59: FewSigns.keeps(II)I -/
def zc_59 : List (Nat × List zE × Nat) := [(0, [(0, .iload_n 1, 1, 0, 0, 0), (1, .iload_n 2, 1, 0, 0, 0), (2, .invokestatic 61, 3, 0, 0, 261), (5, .ifCond .eq 11, 3, 0, 0, 0), (8, .iload_n 1, 1, 0, 0, 0), (9, .iload_n 2, 1, 0, 0, 0), (10, .invokestatic 97, 3, 12, 0, 310), (13, .goto 4, 3, 0, 0, 0)], 16),
  (16, [(16, .iconst (-1), 1, 0, 0, 0)], 17),
  (17, [(17, .ireturn, 1, 0, 0, 0)], 18)]
/-- 60: FewSigns.reached(I)I -/
def zc_60 : List (Nat × List zE × Nat) := [(0, [(0, .iload_n 1, 1, 0, 0, 0), (1, .invokestatic 100, 3, 82, 0, 315), (4, .ifCond .ne 5, 3, 0, 0, 0), (7, .iconst (-1), 1, 0, 0, 0), (8, .ireturn, 1, 0, 0, 0)], 9),
  (9, [(9, .aload_n 0, 1, 0, 0, 0), (10, .iload_n 1, 1, 0, 0, 0), (11, .invokevirtual 103, 3, 85, 0, 318), (14, .ifCond .eq 8, 3, 0, 0, 0), (17, .bipush (-2), 2, 0, 0, 0), (19, .goto 11, 3, 0, 0, 0)], 22),
  (22, [(22, .aload_n 0, 1, 0, 0, 0), (23, .iload_n 1, 1, 0, 0, 0), (24, .invokevirtual 106, 3, 86, 0, 326), (27, .getfield 110, 3, 1, 7, 120)], 30),
  (30, [(30, .ireturn, 1, 0, 0, 0)], 31)]
/-- 61: FewSigns.least(II)I -/
def zc_61 : List (Nat × List zE × Nat) := [(0, [(0, .iload_n 1, 1, 0, 0, 0), (1, .invokestatic 100, 3, 82, 0, 315), (4, .ifCond .eq 11, 3, 0, 0, 0), (7, .iload_n 1, 1, 0, 0, 0), (8, .iload_n 2, 1, 0, 0, 0), (9, .invokestatic 61, 3, 0, 0, 261), (12, .ifCond .ne 5, 3, 0, 0, 0)], 15),
  (15, [(15, .iconst (-1), 1, 0, 0, 0), (16, .ireturn, 1, 0, 0, 0)], 17),
  (17, [(17, .aload_n 0, 1, 0, 0, 0), (18, .iload_n 1, 1, 0, 0, 0), (19, .invokevirtual 103, 3, 85, 0, 318), (22, .ifCond .eq 8, 3, 0, 0, 0), (25, .bipush (-2), 2, 0, 0, 0), (27, .goto 12, 3, 0, 0, 0)], 30),
  (30, [(30, .aload_n 0, 1, 0, 0, 0), (31, .iload_n 1, 1, 0, 0, 0), (32, .invokevirtual 106, 3, 86, 0, 326), (35, .iload_n 2, 1, 0, 0, 0), (36, .invokevirtual 113, 3, 50, 0, 380)], 39),
  (39, [(39, .ireturn, 1, 0, 0, 0)], 40)]
/-- 62: FewSigns.by(III)I -/
def zc_62 : List (Nat × List zE × Nat) := [(0, [(0, .iload_n 1, 1, 0, 0, 0), (1, .invokestatic 100, 3, 82, 0, 315), (4, .ifCond .eq 21, 3, 0, 0, 0), (7, .iload_n 1, 1, 0, 0, 0), (8, .iload_n 2, 1, 0, 0, 0), (9, .invokestatic 61, 3, 0, 0, 261), (12, .ifCond .eq 13, 3, 0, 0, 0), (15, .iload_n 3, 1, 0, 0, 0), (16, .iconst (-1), 1, 0, 0, 0), (17, .if_icmp .lt 8, 3, 0, 0, 0), (20, .iload_n 3, 1, 0, 0, 0), (21, .iconst 3, 1, 0, 0, 0), (22, .if_icmp .lt 5, 3, 0, 0, 0)], 25),
  (25, [(25, .iconst (-1), 1, 0, 0, 0), (26, .ireturn, 1, 0, 0, 0)], 27),
  (27, [(27, .aload_n 0, 1, 0, 0, 0), (28, .iload_n 1, 1, 0, 0, 0), (29, .invokevirtual 103, 3, 85, 0, 318), (32, .ifCond .eq 6, 3, 0, 0, 0), (35, .bipush (-2), 2, 0, 0, 0), (37, .ireturn, 1, 0, 0, 0)], 38),
  (38, [(38, .aload_n 0, 1, 0, 0, 0), (39, .iload_n 1, 1, 0, 0, 0), (40, .invokevirtual 106, 3, 86, 0, 326), (43, .iload_n 2, 1, 0, 0, 0), (44, .invokevirtual 117, 3, 51, 0, 392), (47, .istore 4, 2, 0, 0, 0), (49, .iload 4, 2, 0, 0, 0), (51, .ifCond .ge 6, 3, 0, 0, 0), (54, .bipush (-9), 2, 0, 0, 0), (56, .ireturn, 1, 0, 0, 0)], 57),
  (57, [(57, .iload 4, 2, 0, 0, 0), (59, .invokestatic 120, 3, 17, 0, 396), (62, .istore 5, 2, 0, 0, 0), (64, .iload_n 3, 1, 0, 0, 0), (65, .iconst (-1), 1, 0, 0, 0), (66, .if_icmp .ne 6, 3, 0, 0, 0), (69, .iload 5, 2, 0, 0, 0), (71, .ireturn, 1, 0, 0, 0)], 72),
  (72, [(72, .aload_n 0, 1, 0, 0, 0), (73, .getfield 10, 3, 6, 0, 232), (76, .iload 5, 2, 0, 0, 0), (78, .invokevirtual 75, 3, 24, 0, 302), (81, .ifCond .eq 29, 3, 0, 0, 0), (84, .iload_n 3, 1, 0, 0, 0), (85, .aload_n 0, 1, 0, 0, 0), (86, .getfield 10, 3, 6, 0, 232), (89, .getfield 79, 3, 4, 0, 94), (92, .iload 5, 2, 0, 0, 0), (94, .aaload, 1, 0, 0, 0), (95, .getfield 83, 3, 3, 0, 64), (98, .if_icmp .ge 12, 3, 0, 0, 0), (101, .iload 4, 2, 0, 0, 0), (103, .iload_n 3, 1, 0, 0, 0), (104, .invokestatic 125, 3, 18, 0, 399), (107, .goto 5, 3, 0, 0, 0)], 110),
  (110, [(110, .bipush (-9), 2, 0, 0, 0)], 112),
  (112, [(112, .ireturn, 1, 0, 0, 0)], 113)]
/-- 63: FewSigns.farthest(II)I -/
def zc_63 : List (Nat × List zE × Nat) := [(0, [(0, .iload_n 1, 1, 0, 0, 0), (1, .invokestatic 100, 3, 82, 0, 315), (4, .ifCond .eq 12, 3, 0, 0, 0), (7, .iload_n 2, 1, 0, 0, 0), (8, .ifCond .lt 8, 3, 0, 0, 0), (11, .iload_n 2, 1, 0, 0, 0), (12, .iconst 2, 1, 0, 0, 0), (13, .if_icmp .le 5, 3, 0, 0, 0)], 16),
  (16, [(16, .iconst (-1), 1, 0, 0, 0), (17, .ireturn, 1, 0, 0, 0)], 18),
  (18, [(18, .aload_n 0, 1, 0, 0, 0), (19, .iload_n 1, 1, 0, 0, 0), (20, .invokevirtual 103, 3, 85, 0, 318), (23, .ifCond .eq 6, 3, 0, 0, 0), (26, .bipush (-2), 2, 0, 0, 0), (28, .ireturn, 1, 0, 0, 0)], 29),
  (29, [(29, .aload_n 0, 1, 0, 0, 0), (30, .iload_n 1, 1, 0, 0, 0), (31, .invokevirtual 106, 3, 86, 0, 326), (34, .astore_n 3, 1, 0, 0, 0), (35, .iload_n 2, 1, 0, 0, 0), (36, .lookupswitch 42 #[(0, 28), (1, 33)], 28, 0, 0, 0)], 64),
  (64, [(64, .aload_n 3, 1, 0, 0, 0), (65, .invokevirtual 128, 3, 52, 0, 406), (68, .ireturn, 1, 0, 0, 0)], 69),
  (69, [(69, .aload_n 3, 1, 0, 0, 0), (70, .aload_n 3, 1, 0, 0, 0), (71, .invokevirtual 128, 3, 52, 0, 406), (74, .invokevirtual 132, 3, 53, 0, 413), (77, .ireturn, 1, 0, 0, 0)], 78),
  (78, [(78, .aload_n 3, 1, 0, 0, 0), (79, .invokevirtual 135, 3, 54, 0, 417), (82, .ireturn, 1, 0, 0, 0)], 83)]
/-- 64: FewSigns.costing(II)I -/
def zc_64 : List (Nat × List zE × Nat) := [(0, [(0, .iload_n 1, 1, 0, 0, 0), (1, .invokestatic 100, 3, 82, 0, 315), (4, .ifCond .eq 7, 3, 0, 0, 0), (7, .iload_n 2, 1, 0, 0, 0), (8, .ifCond .ge 5, 3, 0, 0, 0)], 11),
  (11, [(11, .iconst (-1), 1, 0, 0, 0), (12, .ireturn, 1, 0, 0, 0)], 13),
  (13, [(13, .aload_n 0, 1, 0, 0, 0), (14, .iload_n 1, 1, 0, 0, 0), (15, .invokevirtual 103, 3, 85, 0, 318), (18, .ifCond .eq 8, 3, 0, 0, 0), (21, .bipush (-2), 2, 0, 0, 0), (23, .goto 12, 3, 0, 0, 0)], 26),
  (26, [(26, .aload_n 0, 1, 0, 0, 0), (27, .iload_n 1, 1, 0, 0, 0), (28, .invokevirtual 106, 3, 86, 0, 326), (31, .iload_n 2, 1, 0, 0, 0), (32, .invokevirtual 138, 3, 55, 0, 425)], 35),
  (35, [(35, .ireturn, 1, 0, 0, 0)], 36)]
/-- 65: FewSigns.says(I)I -/
def zc_65 : List (Nat × List zE × Nat) := [(0, [(0, .aload_n 0, 1, 0, 0, 0), (1, .getfield 10, 3, 6, 0, 232), (4, .iload_n 1, 1, 0, 0, 0), (5, .invokevirtual 141, 3, 25, 0, 433), (8, .ifCond .ne 5, 3, 0, 0, 0), (11, .iconst (-1), 1, 0, 0, 0), (12, .ireturn, 1, 0, 0, 0)], 13),
  (13, [(13, .aload_n 0, 1, 0, 0, 0), (14, .getfield 10, 3, 6, 0, 232), (17, .iload_n 1, 1, 0, 0, 0), (18, .invokevirtual 144, 3, 29, 0, 437), (21, .ifCond .eq 7, 3, 0, 0, 0), (24, .iconst 1, 1, 0, 0, 0), (25, .goto 4, 3, 0, 0, 0)], 28),
  (28, [(28, .iconst 0, 1, 0, 0, 0)], 29),
  (29, [(29, .ireturn, 1, 0, 0, 0)], 30)]
/-- 66: FewSigns.lacks(I)I -/
def zc_66 : List (Nat × List zE × Nat) := [(0, [(0, .aload_n 0, 1, 0, 0, 0), (1, .getfield 10, 3, 6, 0, 232), (4, .iload_n 1, 1, 0, 0, 0), (5, .invokevirtual 141, 3, 25, 0, 433), (8, .ifCond .eq 14, 3, 0, 0, 0), (11, .aload_n 0, 1, 0, 0, 0), (12, .getfield 10, 3, 6, 0, 232), (15, .iload_n 1, 1, 0, 0, 0), (16, .invokevirtual 147, 3, 28, 0, 449), (19, .goto 4, 3, 0, 0, 0)], 22),
  (22, [(22, .iconst (-1), 1, 0, 0, 0)], 23),
  (23, [(23, .ireturn, 1, 0, 0, 0)], 24)]
/-- 67: FewSigns.sets(I)I -/
def zc_67 : List (Nat × List zE × Nat) := [(0, [(0, .iload_n 1, 1, 0, 0, 0), (1, .iconst (-1), 1, 0, 0, 0), (2, .if_icmp .ge 5, 3, 0, 0, 0), (5, .iconst (-1), 1, 0, 0, 0), (6, .ireturn, 1, 0, 0, 0)], 7),
  (7, [(7, .iconst 0, 1, 0, 0, 0), (8, .istore_n 2, 1, 0, 0, 0), (9, .iconst 0, 1, 0, 0, 0), (10, .istore_n 3, 1, 0, 0, 0)], 11),
  (11, [(11, .iload_n 3, 1, 0, 0, 0), (12, .iconst 1, 1, 0, 0, 0), (13, .aload_n 0, 1, 0, 0, 0), (14, .getfield 10, 3, 6, 0, 232), (17, .getfield 67, 3, 4, 1, 96), (20, .ishl, 1, 0, 0, 0), (21, .if_icmp .ge 30, 3, 0, 0, 0), (24, .aload_n 0, 1, 0, 0, 0), (25, .getfield 10, 3, 6, 0, 232), (28, .iload_n 3, 1, 0, 0, 0), (29, .invokevirtual 150, 3, 30, 0, 454), (32, .ifCond .eq 13, 3, 0, 0, 0), (35, .iload_n 2, 1, 0, 0, 0), (36, .iload_n 1, 1, 0, 0, 0), (37, .if_icmp .ne 5, 3, 0, 0, 0), (40, .iload_n 3, 1, 0, 0, 0), (41, .ireturn, 1, 0, 0, 0)], 42),
  (42, [(42, .iinc 2 1, 3, 0, 0, 0)], 45),
  (45, [(45, .iinc 3 1, 3, 0, 0, 0), (48, .goto (-37), 3, 0, 0, 0)], 51),
  (51, [(51, .iload_n 1, 1, 0, 0, 0), (52, .iconst (-1), 1, 0, 0, 0), (53, .if_icmp .ne 7, 3, 0, 0, 0), (56, .iload_n 2, 1, 0, 0, 0), (57, .goto 5, 3, 0, 0, 0)], 60),
  (60, [(60, .bipush (-9), 2, 0, 0, 0)], 62),
  (62, [(62, .ireturn, 1, 0, 0, 0)], 63)]
/-- 68: FewSigns.alone(I)I -/
def zc_68 : List (Nat × List zE × Nat) := [(0, [(0, .iload_n 1, 1, 0, 0, 0), (1, .iconst (-1), 1, 0, 0, 0), (2, .if_icmp .ge 5, 3, 0, 0, 0), (5, .iconst (-1), 1, 0, 0, 0), (6, .ireturn, 1, 0, 0, 0)], 7),
  (7, [(7, .iconst 0, 1, 0, 0, 0), (8, .istore_n 2, 1, 0, 0, 0), (9, .iconst 0, 1, 0, 0, 0), (10, .istore_n 3, 1, 0, 0, 0)], 11),
  (11, [(11, .iload_n 3, 1, 0, 0, 0), (12, .bipush 16, 2, 0, 0, 0), (14, .if_icmp .ge 27, 3, 0, 0, 0), (17, .iconst 2, 1, 0, 0, 0), (18, .iload_n 3, 1, 0, 0, 0), (19, .invokestatic 97, 3, 12, 0, 310), (22, .ifCond .ne 13, 3, 0, 0, 0), (25, .iload_n 2, 1, 0, 0, 0), (26, .iload_n 1, 1, 0, 0, 0), (27, .if_icmp .ne 5, 3, 0, 0, 0), (30, .iload_n 3, 1, 0, 0, 0), (31, .ireturn, 1, 0, 0, 0)], 32),
  (32, [(32, .iinc 2 1, 3, 0, 0, 0)], 35),
  (35, [(35, .iinc 3 1, 3, 0, 0, 0), (38, .goto (-27), 3, 0, 0, 0)], 41),
  (41, [(41, .iload_n 1, 1, 0, 0, 0), (42, .iconst (-1), 1, 0, 0, 0), (43, .if_icmp .ne 7, 3, 0, 0, 0), (46, .iload_n 2, 1, 0, 0, 0), (47, .goto 5, 3, 0, 0, 0)], 50),
  (50, [(50, .bipush (-9), 2, 0, 0, 0)], 52),
  (52, [(52, .ireturn, 1, 0, 0, 0)], 53)]
/-- 69: FewSigns.lets(III)I -/
def zc_69 : List (Nat × List zE × Nat) := [(0, [(0, .aload_n 0, 1, 0, 0, 0), (1, .getfield 10, 3, 6, 0, 232), (4, .iload_n 1, 1, 0, 0, 0), (5, .invokevirtual 75, 3, 24, 0, 302), (8, .ifCond .eq 11, 3, 0, 0, 0), (11, .iload_n 2, 1, 0, 0, 0), (12, .iload_n 3, 1, 0, 0, 0), (13, .invokestatic 153, 3, 83, 0, 467), (16, .ifCond .ne 5, 3, 0, 0, 0)], 19),
  (19, [(19, .iconst (-1), 1, 0, 0, 0), (20, .ireturn, 1, 0, 0, 0)], 21),
  (21, [(21, .aload_n 0, 1, 0, 0, 0), (22, .getfield 10, 3, 6, 0, 232), (25, .getfield 79, 3, 4, 0, 94), (28, .iload_n 1, 1, 0, 0, 0), (29, .aaload, 1, 0, 0, 0), (30, .iload_n 2, 1, 0, 0, 0), (31, .iload_n 3, 1, 0, 0, 0), (32, .invokevirtual 156, 3, 23, 0, 470), (35, .ifCond .eq 7, 3, 0, 0, 0), (38, .iconst 1, 1, 0, 0, 0), (39, .goto 4, 3, 0, 0, 0)], 42),
  (42, [(42, .iconst 0, 1, 0, 0, 0)], 43),
  (43, [(43, .ireturn, 1, 0, 0, 0)], 44)]
/-- 70: FewSigns.letting(II)I -/
def zc_70 : List (Nat × List zE × Nat) := [(0, [(0, .iload_n 1, 1, 0, 0, 0), (1, .iload_n 2, 1, 0, 0, 0), (2, .invokestatic 153, 3, 83, 0, 467), (5, .ifCond .ne 5, 3, 0, 0, 0), (8, .iconst (-1), 1, 0, 0, 0), (9, .ireturn, 1, 0, 0, 0)], 10),
  (10, [(10, .iconst 0, 1, 0, 0, 0), (11, .istore_n 3, 1, 0, 0, 0), (12, .iconst 0, 1, 0, 0, 0), (13, .istore 4, 2, 0, 0, 0)], 15),
  (15, [(15, .iload 4, 2, 0, 0, 0), (17, .aload_n 0, 1, 0, 0, 0), (18, .getfield 10, 3, 6, 0, 232), (21, .getfield 67, 3, 4, 1, 96), (24, .if_icmp .ge 34, 3, 0, 0, 0), (27, .aload_n 0, 1, 0, 0, 0), (28, .getfield 10, 3, 6, 0, 232), (31, .getfield 79, 3, 4, 0, 94), (34, .iload 4, 2, 0, 0, 0), (36, .aaload, 1, 0, 0, 0), (37, .iload_n 1, 1, 0, 0, 0), (38, .iload_n 2, 1, 0, 0, 0), (39, .invokevirtual 156, 3, 23, 0, 470), (42, .ifCond .eq 10, 3, 0, 0, 0), (45, .iload_n 3, 1, 0, 0, 0), (46, .iconst 1, 1, 0, 0, 0), (47, .iload 4, 2, 0, 0, 0), (49, .ishl, 1, 0, 0, 0), (50, .ior, 1, 0, 0, 0), (51, .istore_n 3, 1, 0, 0, 0)], 52),
  (52, [(52, .iinc 4 1, 3, 0, 0, 0), (55, .goto (-40), 3, 0, 0, 0)], 58),
  (58, [(58, .iload_n 3, 1, 0, 0, 0), (59, .ireturn, 1, 0, 0, 0)], 60)]
/-- 71: FewSigns.around(II)I -/
def zc_71 : List (Nat × List zE × Nat) := [(0, [(0, .iload_n 1, 1, 0, 0, 0), (1, .iload_n 2, 1, 0, 0, 0), (2, .invokestatic 153, 3, 83, 0, 467), (5, .ifCond .eq 15, 3, 0, 0, 0), (8, .aload_n 0, 1, 0, 0, 0), (9, .getfield 10, 3, 6, 0, 232), (12, .iload_n 1, 1, 0, 0, 0), (13, .iload_n 2, 1, 0, 0, 0), (14, .invokevirtual 159, 3, 33, 0, 492), (17, .goto 4, 3, 0, 0, 0)], 20),
  (20, [(20, .iconst (-1), 1, 0, 0, 0)], 21),
  (21, [(21, .ireturn, 1, 0, 0, 0)], 22)]
/-- 72: FewSigns.sorts(II)I -/
def zc_72 : List (Nat × List zE × Nat) := [(0, [(0, .iload_n 1, 1, 0, 0, 0), (1, .iload_n 2, 1, 0, 0, 0), (2, .invokestatic 153, 3, 83, 0, 467), (5, .ifCond .ne 5, 3, 0, 0, 0), (8, .iconst (-1), 1, 0, 0, 0), (9, .ireturn, 1, 0, 0, 0)], 10),
  (10, [(10, .iconst 0, 1, 0, 0, 0), (11, .istore_n 3, 1, 0, 0, 0), (12, .iconst 0, 1, 0, 0, 0), (13, .istore 4, 2, 0, 0, 0)], 15),
  (15, [(15, .iload 4, 2, 0, 0, 0), (17, .getstatic 162, 3, 103, 0, 501), (20, .arraylength, 1, 0, 0, 0), (21, .if_icmp .ge 53, 3, 0, 0, 0), (24, .getstatic 165, 3, 102, 0, 503), (27, .iload 4, 2, 0, 0, 0), (29, .iaload, 1, 0, 0, 0), (30, .istore 5, 2, 0, 0, 0), (32, .iload 5, 2, 0, 0, 0), (34, .getstatic 162, 3, 103, 0, 501), (37, .iload 4, 2, 0, 0, 0), (39, .iaload, 1, 0, 0, 0), (40, .invokestatic 168, 3, 4, 0, 505), (43, .istore 6, 2, 0, 0, 0), (45, .iload 5, 2, 0, 0, 0), (47, .iload 6, 2, 0, 0, 0), (49, .iload_n 1, 1, 0, 0, 0), (50, .iload_n 2, 1, 0, 0, 0), (51, .invokestatic 171, 3, 8, 0, 506), (54, .iload_n 2, 1, 0, 0, 0), (55, .iconst (-1), 1, 0, 0, 0), (56, .ixor, 1, 0, 0, 0), (57, .iand, 1, 0, 0, 0), (58, .ifCond .ne 10, 3, 0, 0, 0), (61, .iload_n 3, 1, 0, 0, 0), (62, .iconst 1, 1, 0, 0, 0), (63, .iload 4, 2, 0, 0, 0), (65, .ishl, 1, 0, 0, 0), (66, .ior, 1, 0, 0, 0), (67, .istore_n 3, 1, 0, 0, 0)], 68),
  (68, [(68, .iinc 4 1, 3, 0, 0, 0), (71, .goto (-56), 3, 0, 0, 0)], 74),
  (74, [(74, .iload_n 3, 1, 0, 0, 0), (75, .ireturn, 1, 0, 0, 0)], 76)]
/-- 73: FewSigns.kept(I)I -/
def zc_73 : List (Nat × List zE × Nat) := [(0, [(0, .iload_n 1, 1, 0, 0, 0), (1, .invokestatic 100, 3, 82, 0, 315), (4, .ifCond .ne 5, 3, 0, 0, 0), (7, .iconst (-1), 1, 0, 0, 0), (8, .ireturn, 1, 0, 0, 0)], 9),
  (9, [(9, .aload_n 0, 1, 0, 0, 0), (10, .getfield 54, 3, 6, 7, 239), (13, .iload_n 1, 1, 0, 0, 0), (14, .iaload, 1, 0, 0, 0), (15, .iconst (-1), 1, 0, 0, 0), (16, .if_icmp .ne 17, 3, 0, 0, 0), (19, .aload_n 0, 1, 0, 0, 0), (20, .getfield 54, 3, 6, 7, 239), (23, .iload_n 1, 1, 0, 0, 0), (24, .aload_n 0, 1, 0, 0, 0), (25, .getfield 10, 3, 6, 0, 232), (28, .iload_n 1, 1, 0, 0, 0), (29, .invokevirtual 175, 3, 32, 0, 511), (32, .iastore, 1, 0, 0, 0)], 33),
  (33, [(33, .aload_n 0, 1, 0, 0, 0), (34, .getfield 54, 3, 6, 7, 239), (37, .iload_n 1, 1, 0, 0, 0), (38, .iaload, 1, 0, 0, 0), (39, .ireturn, 1, 0, 0, 0)], 40)]
/-- 74: FewSigns.type(JI)I -/
def zc_74 : List (Nat × List zE × Nat) := [(0, [(0, .iload_n 3, 1, 0, 0, 0), (1, .iconst 1, 1, 0, 0, 0), (2, .if_icmp .lt 9, 3, 0, 0, 0), (5, .iload_n 3, 1, 0, 0, 0), (6, .bipush 8, 2, 0, 0, 0), (8, .if_icmp .le 5, 3, 0, 0, 0)], 11),
  (11, [(11, .iconst (-1), 1, 0, 0, 0), (12, .ireturn, 1, 0, 0, 0)], 13),
  (13, [(13, .aload_n 0, 1, 0, 0, 0), (14, .getfield 34, 3, 6, 4, 236), (17, .iload_n 3, 1, 0, 0, 0), (18, .invokevirtual 178, 3, 34, 0, 525), (21, .ifCond .ne 6, 3, 0, 0, 0), (24, .bipush (-3), 2, 0, 0, 0), (26, .ireturn, 1, 0, 0, 0)], 27),
  (27, [(27, .aload_n 0, 1, 0, 0, 0), (28, .getfield 34, 3, 6, 4, 236), (31, .lload_n 1, 1, 0, 0, 0), (32, .iload_n 3, 1, 0, 0, 0), (33, .invokevirtual 181, 3, 35, 0, 529), (36, .aload_n 0, 1, 0, 0, 0), (37, .getfield 34, 3, 6, 4, 236), (40, .getfield 184, 3, 5, 1, 153), (43, .ireturn, 1, 0, 0, 0)], 44)]
/-- 75: FewSigns.clear()I -/
def zc_75 : List (Nat × List zE × Nat) := [(0, [(0, .aload_n 0, 1, 0, 0, 0), (1, .getfield 34, 3, 6, 4, 236), (4, .getfield 184, 3, 5, 1, 153), (7, .istore_n 1, 1, 0, 0, 0), (8, .aload_n 0, 1, 0, 0, 0), (9, .getfield 34, 3, 6, 4, 236), (12, .iconst 0, 1, 0, 0, 0), (13, .putfield 184, 3, 5, 1, 153), (16, .iload_n 1, 1, 0, 0, 0), (17, .ireturn, 1, 0, 0, 0)], 18)]
/-- 76: FewSigns.read(I)I -/
def zc_76 : List (Nat × List zE × Nat) := [(0, [(0, .iload_n 1, 1, 0, 0, 0), (1, .invokestatic 187, 3, 84, 0, 541), (4, .ifCond .ne 5, 3, 0, 0, 0), (7, .iconst (-1), 1, 0, 0, 0), (8, .ireturn, 1, 0, 0, 0)], 9),
  (9, [(9, .aload_n 0, 1, 0, 0, 0), (10, .getfield 43, 3, 6, 5, 237), (13, .invokevirtual 190, 3, 37, 0, 544), (16, .ifCond .ne 14, 3, 0, 0, 0), (19, .bipush (-10), 2, 0, 0, 0), (21, .aload_n 0, 1, 0, 0, 0), (22, .getfield 43, 3, 6, 5, 237), (25, .getfield 194, 3, 2, 2, 169), (28, .isub, 1, 0, 0, 0), (29, .ireturn, 1, 0, 0, 0)], 30),
  (30, [(30, .aload_n 0, 1, 0, 0, 0), (31, .getfield 49, 3, 6, 6, 238), (34, .iload_n 1, 1, 0, 0, 0), (35, .aaload, 1, 0, 0, 0), (36, .astore_n 2, 1, 0, 0, 0), (37, .aload_n 2, 1, 0, 0, 0), (38, .aload_n 0, 1, 0, 0, 0), (39, .getfield 43, 3, 6, 5, 237), (42, .getfield 197, 3, 2, 3, 171), (45, .aload_n 0, 1, 0, 0, 0), (46, .getfield 43, 3, 6, 5, 237), (49, .getfield 198, 3, 2, 4, 173), (52, .aload_n 0, 1, 0, 0, 0), (53, .getfield 43, 3, 6, 5, 237), (56, .getfield 199, 3, 2, 5, 175), (59, .aload_n 0, 1, 0, 0, 0), (60, .getfield 43, 3, 6, 5, 237), (63, .getfield 202, 3, 2, 6, 177), (66, .invokevirtual 205, 3, 21, 0, 571), (69, .aload_n 0, 1, 0, 0, 0), (70, .getfield 34, 3, 6, 4, 236), (73, .iconst 0, 1, 0, 0, 0), (74, .putfield 184, 3, 5, 1, 153), (77, .aload_n 2, 1, 0, 0, 0), (78, .getfield 209, 3, 0, 3, 207), (81, .ireturn, 1, 0, 0, 0)], 82)]
/-- 77: FewSigns.formula(II)I -/
def zc_77 : List (Nat × List zE × Nat) := [(0, [(0, .iload_n 1, 1, 0, 0, 0), (1, .invokestatic 187, 3, 84, 0, 541), (4, .ifCond .ne 5, 3, 0, 0, 0), (7, .iconst (-1), 1, 0, 0, 0), (8, .ireturn, 1, 0, 0, 0)], 9),
  (9, [(9, .aload_n 0, 1, 0, 0, 0), (10, .getfield 49, 3, 6, 6, 238), (13, .iload_n 1, 1, 0, 0, 0), (14, .aaload, 1, 0, 0, 0), (15, .astore_n 3, 1, 0, 0, 0), (16, .iload_n 2, 1, 0, 0, 0), (17, .tableswitch 102 0 7 #[47, 52, 57, 62, 67, 76, 85, 93], 47, 0, 0, 0)], 64),
  (64, [(64, .aload_n 3, 1, 0, 0, 0), (65, .getfield 210, 3, 0, 0, 201), (68, .ireturn, 1, 0, 0, 0)], 69),
  (69, [(69, .aload_n 3, 1, 0, 0, 0), (70, .getfield 211, 3, 0, 1, 203), (73, .ireturn, 1, 0, 0, 0)], 74),
  (74, [(74, .aload_n 3, 1, 0, 0, 0), (75, .getfield 212, 3, 0, 2, 205), (78, .ireturn, 1, 0, 0, 0)], 79),
  (79, [(79, .aload_n 3, 1, 0, 0, 0), (80, .getfield 209, 3, 0, 3, 207), (83, .ireturn, 1, 0, 0, 0)], 84),
  (84, [(84, .iconst 3, 1, 0, 0, 0), (85, .aload_n 3, 1, 0, 0, 0), (86, .getfield 210, 3, 0, 0, 201), (89, .invokestatic 213, 3, 11, 0, 576), (92, .ireturn, 1, 0, 0, 0)], 93),
  (93, [(93, .iconst 3, 1, 0, 0, 0), (94, .aload_n 3, 1, 0, 0, 0), (95, .getfield 210, 3, 0, 0, 201), (98, .invokestatic 216, 3, 10, 0, 579), (101, .ireturn, 1, 0, 0, 0)], 102),
  (102, [(102, .aload_n 3, 1, 0, 0, 0), (103, .getfield 210, 3, 0, 0, 201), (106, .invokestatic 219, 3, 87, 0, 580), (109, .ireturn, 1, 0, 0, 0)], 110),
  (110, [(110, .iconst 3, 1, 0, 0, 0), (111, .aload_n 3, 1, 0, 0, 0), (112, .getfield 210, 3, 0, 0, 201), (115, .invokestatic 97, 3, 12, 0, 310), (118, .ireturn, 1, 0, 0, 0)], 119),
  (119, [(119, .iconst (-1), 1, 0, 0, 0), (120, .ireturn, 1, 0, 0, 0)], 121)]
/-- 78: FewSigns.leastened(I)I -/
def zc_78 : List (Nat × List zE × Nat) := [(0, [(0, .iload_n 1, 1, 0, 0, 0), (1, .invokestatic 187, 3, 84, 0, 541), (4, .ifCond .ne 5, 3, 0, 0, 0), (7, .iconst (-1), 1, 0, 0, 0), (8, .ireturn, 1, 0, 0, 0)], 9),
  (9, [(9, .aload_n 0, 1, 0, 0, 0), (10, .iconst 3, 1, 0, 0, 0), (11, .invokevirtual 103, 3, 85, 0, 318), (14, .ifCond .eq 8, 3, 0, 0, 0), (17, .bipush (-2), 2, 0, 0, 0), (19, .goto 20, 3, 0, 0, 0)], 22),
  (22, [(22, .aload_n 0, 1, 0, 0, 0), (23, .iconst 3, 1, 0, 0, 0), (24, .invokevirtual 106, 3, 86, 0, 326), (27, .aload_n 0, 1, 0, 0, 0), (28, .getfield 49, 3, 6, 6, 238), (31, .iload_n 1, 1, 0, 0, 0), (32, .aaload, 1, 0, 0, 0), (33, .getfield 210, 3, 0, 0, 201), (36, .invokevirtual 113, 3, 50, 0, 380)], 39),
  (39, [(39, .ireturn, 1, 0, 0, 0)], 40)]
/-- 79: FewSigns.both(III)I -/
def zc_79 : List (Nat × List zE × Nat) := [(0, [(0, .iload_n 1, 1, 0, 0, 0), (1, .invokestatic 187, 3, 84, 0, 541), (4, .ifCond .eq 19, 3, 0, 0, 0), (7, .iload_n 2, 1, 0, 0, 0), (8, .invokestatic 187, 3, 84, 0, 541), (11, .ifCond .eq 12, 3, 0, 0, 0), (14, .iload_n 3, 1, 0, 0, 0), (15, .ifCond .lt 8, 3, 0, 0, 0), (18, .iload_n 3, 1, 0, 0, 0), (19, .iconst 2, 1, 0, 0, 0), (20, .if_icmp .le 5, 3, 0, 0, 0)], 23),
  (23, [(23, .iconst (-1), 1, 0, 0, 0), (24, .ireturn, 1, 0, 0, 0)], 25),
  (25, [(25, .aload_n 0, 1, 0, 0, 0), (26, .getfield 49, 3, 6, 6, 238), (29, .iload_n 1, 1, 0, 0, 0), (30, .aaload, 1, 0, 0, 0), (31, .getfield 210, 3, 0, 0, 201), (34, .istore 4, 2, 0, 0, 0), (36, .aload_n 0, 1, 0, 0, 0), (37, .getfield 49, 3, 6, 6, 238), (40, .iload_n 2, 1, 0, 0, 0), (41, .aaload, 1, 0, 0, 0), (42, .getfield 210, 3, 0, 0, 201), (45, .istore 5, 2, 0, 0, 0), (47, .iload_n 3, 1, 0, 0, 0), (48, .lookupswitch 65 #[(0, 28), (1, 45)], 28, 0, 0, 0)], 76),
  (76, [(76, .iload 4, 2, 0, 0, 0), (78, .iload 5, 2, 0, 0, 0), (80, .if_icmp .ne 7, 3, 0, 0, 0), (83, .iconst 1, 1, 0, 0, 0), (84, .goto 4, 3, 0, 0, 0)], 87),
  (87, [(87, .iconst 0, 1, 0, 0, 0)], 88),
  (88, [(88, .istore 6, 2, 0, 0, 0), (90, .goto 41, 3, 0, 0, 0)], 93),
  (93, [(93, .iload 4, 2, 0, 0, 0), (95, .iload 5, 2, 0, 0, 0), (97, .iconst (-1), 1, 0, 0, 0), (98, .ixor, 1, 0, 0, 0), (99, .iand, 1, 0, 0, 0), (100, .ifCond .ne 7, 3, 0, 0, 0), (103, .iconst 1, 1, 0, 0, 0), (104, .goto 4, 3, 0, 0, 0)], 107),
  (107, [(107, .iconst 0, 1, 0, 0, 0)], 108),
  (108, [(108, .istore 6, 2, 0, 0, 0), (110, .goto 21, 3, 0, 0, 0)], 113),
  (113, [(113, .iconst 3, 1, 0, 0, 0), (114, .iload 4, 2, 0, 0, 0), (116, .invokestatic 216, 3, 10, 0, 579), (119, .iload 5, 2, 0, 0, 0), (121, .if_icmp .ne 7, 3, 0, 0, 0), (124, .iconst 1, 1, 0, 0, 0), (125, .goto 4, 3, 0, 0, 0)], 128),
  (128, [(128, .iconst 0, 1, 0, 0, 0)], 129),
  (129, [(129, .istore 6, 2, 0, 0, 0)], 131),
  (131, [(131, .iload 6, 2, 0, 0, 0), (133, .ifCond .eq 7, 3, 0, 0, 0), (136, .iconst 1, 1, 0, 0, 0), (137, .goto 4, 3, 0, 0, 0)], 140),
  (140, [(140, .iconst 0, 1, 0, 0, 0)], 141),
  (141, [(141, .ireturn, 1, 0, 0, 0)], 142)]
/-- 80: FewSigns.count(I)I -/
def zc_80 : List (Nat × List zE × Nat) := [(0, [(0, .iload_n 1, 1, 0, 0, 0), (1, .tableswitch 51 0 2 #[27, 35, 43], 27, 0, 0, 0)], 28),
  (28, [(28, .aload_n 0, 1, 0, 0, 0), (29, .getfield 10, 3, 6, 0, 232), (32, .getfield 67, 3, 4, 1, 96), (35, .ireturn, 1, 0, 0, 0)], 36),
  (36, [(36, .aload_n 0, 1, 0, 0, 0), (37, .getfield 10, 3, 6, 0, 232), (40, .invokevirtual 224, 3, 27, 0, 322), (43, .ireturn, 1, 0, 0, 0)], 44),
  (44, [(44, .aload_n 0, 1, 0, 0, 0), (45, .getfield 34, 3, 6, 4, 236), (48, .getfield 184, 3, 5, 1, 153), (51, .ireturn, 1, 0, 0, 0)], 52),
  (52, [(52, .iconst (-1), 1, 0, 0, 0), (53, .ireturn, 1, 0, 0, 0)], 54)]
/-- 81: FewSigns.forgetAnswers()V -/
def zc_81 : List (Nat × List zE × Nat) := [(0, [(0, .aload_n 0, 1, 0, 0, 0), (1, .getfield 21, 3, 6, 1, 233), (4, .iconst 0, 1, 0, 0, 0), (5, .putfield 227, 3, 1, 8, 122), (8, .aload_n 0, 1, 0, 0, 0), (9, .getfield 25, 3, 6, 2, 234), (12, .iconst 0, 1, 0, 0, 0), (13, .putfield 227, 3, 1, 8, 122), (16, .aload_n 0, 1, 0, 0, 0), (17, .getfield 28, 3, 6, 3, 235), (20, .iconst 0, 1, 0, 0, 0), (21, .putfield 227, 3, 1, 8, 122), (24, .iconst 0, 1, 0, 0, 0), (25, .istore_n 1, 1, 0, 0, 0)], 26),
  (26, [(26, .iload_n 1, 1, 0, 0, 0), (27, .aload_n 0, 1, 0, 0, 0), (28, .getfield 54, 3, 6, 7, 239), (31, .arraylength, 1, 0, 0, 0), (32, .if_icmp .ge 16, 3, 0, 0, 0), (35, .aload_n 0, 1, 0, 0, 0), (36, .getfield 54, 3, 6, 7, 239), (39, .iload_n 1, 1, 0, 0, 0), (40, .iconst (-1), 1, 0, 0, 0), (41, .iastore, 1, 0, 0, 0), (42, .iinc 1 1, 3, 0, 0, 0), (45, .goto (-19), 3, 0, 0, 0)], 48),
  (48, [(48, .iconst 0, 1, 0, 0, 0), (49, .istore_n 1, 1, 0, 0, 0)], 50),
  (50, [(50, .iload_n 1, 1, 0, 0, 0), (51, .aload_n 0, 1, 0, 0, 0), (52, .getfield 49, 3, 6, 6, 238), (55, .arraylength, 1, 0, 0, 0), (56, .if_icmp .ge 18, 3, 0, 0, 0), (59, .aload_n 0, 1, 0, 0, 0), (60, .getfield 49, 3, 6, 6, 238), (63, .iload_n 1, 1, 0, 0, 0), (64, .aaload, 1, 0, 0, 0), (65, .invokevirtual 231, 3, 20, 0, 221), (68, .iinc 1 1, 3, 0, 0, 0), (71, .goto (-21), 3, 0, 0, 0)], 74),
  (74, [(74, .return_, 1, 0, 0, 0)], 75)]
/-- 82: FewSigns.isCount(I)Z -/
def zc_82 : List (Nat × List zE × Nat) := [(0, [(0, .iload_n 0, 1, 0, 0, 0), (1, .iconst 1, 1, 0, 0, 0), (2, .if_icmp .lt 12, 3, 0, 0, 0), (5, .iload_n 0, 1, 0, 0, 0), (6, .iconst 3, 1, 0, 0, 0), (7, .if_icmp .gt 7, 3, 0, 0, 0), (10, .iconst 1, 1, 0, 0, 0), (11, .goto 4, 3, 0, 0, 0)], 14),
  (14, [(14, .iconst 0, 1, 0, 0, 0)], 15),
  (15, [(15, .ireturn, 1, 0, 0, 0)], 16)]
/-- 83: FewSigns.isRelation(II)Z -/
def zc_83 : List (Nat × List zE × Nat) := [(0, [(0, .iload_n 0, 1, 0, 0, 0), (1, .invokestatic 100, 3, 82, 0, 315), (4, .ifCond .eq 15, 3, 0, 0, 0), (7, .iload_n 0, 1, 0, 0, 0), (8, .iload_n 1, 1, 0, 0, 0), (9, .invokestatic 61, 3, 0, 0, 261), (12, .ifCond .eq 7, 3, 0, 0, 0), (15, .iconst 1, 1, 0, 0, 0), (16, .goto 4, 3, 0, 0, 0)], 19),
  (19, [(19, .iconst 0, 1, 0, 0, 0)], 20),
  (20, [(20, .ireturn, 1, 0, 0, 0)], 21)]
/-- 84: FewSigns.isFormula(I)Z -/
def zc_84 : List (Nat × List zE × Nat) := [(0, [(0, .iload_n 0, 1, 0, 0, 0), (1, .ifCond .lt 12, 3, 0, 0, 0), (4, .iload_n 0, 1, 0, 0, 0), (5, .iconst 4, 1, 0, 0, 0), (6, .if_icmp .ge 7, 3, 0, 0, 0), (9, .iconst 1, 1, 0, 0, 0), (10, .goto 4, 3, 0, 0, 0)], 13),
  (13, [(13, .iconst 0, 1, 0, 0, 0)], 14),
  (14, [(14, .ireturn, 1, 0, 0, 0)], 15)]
/-- 85: FewSigns.isBarred(I)Z -/
def zc_85 : List (Nat × List zE × Nat) := [(0, [(0, .iload_n 1, 1, 0, 0, 0), (1, .iconst 3, 1, 0, 0, 0), (2, .if_icmp .ne 17, 3, 0, 0, 0), (5, .aload_n 0, 1, 0, 0, 0), (6, .getfield 10, 3, 6, 0, 232), (9, .invokevirtual 224, 3, 27, 0, 322), (12, .ifCond .le 7, 3, 0, 0, 0), (15, .iconst 1, 1, 0, 0, 0), (16, .goto 4, 3, 0, 0, 0)], 19),
  (19, [(19, .iconst 0, 1, 0, 0, 0)], 20),
  (20, [(20, .ireturn, 1, 0, 0, 0)], 21)]
/-- 86: FewSigns.reachOf(I)LFewSigns$Reach; -/
def zc_86 : List (Nat × List zE × Nat) := [(0, [(0, .iload_n 1, 1, 0, 0, 0), (1, .iconst 1, 1, 0, 0, 0), (2, .if_icmp .ne 10, 3, 0, 0, 0), (5, .aload_n 0, 1, 0, 0, 0), (6, .getfield 21, 3, 6, 1, 233), (9, .goto 19, 3, 0, 0, 0)], 12),
  (12, [(12, .iload_n 1, 1, 0, 0, 0), (13, .iconst 2, 1, 0, 0, 0), (14, .if_icmp .ne 10, 3, 0, 0, 0), (17, .aload_n 0, 1, 0, 0, 0), (18, .getfield 25, 3, 6, 2, 234), (21, .goto 7, 3, 0, 0, 0)], 24),
  (24, [(24, .aload_n 0, 1, 0, 0, 0), (25, .getfield 28, 3, 6, 3, 235)], 28),
  (28, [(28, .astore_n 2, 1, 0, 0, 0), (29, .aload_n 2, 1, 0, 0, 0), (30, .getfield 227, 3, 1, 8, 122), (33, .ifCond .ne 11, 3, 0, 0, 0), (36, .aload_n 2, 1, 0, 0, 0), (37, .aload_n 0, 1, 0, 0, 0), (38, .getfield 10, 3, 6, 0, 232), (41, .invokevirtual 234, 3, 41, 0, 330)], 44),
  (44, [(44, .aload_n 2, 1, 0, 0, 0), (45, .areturn, 1, 0, 0, 0)], 46)]
/-- 87: java/lang/Integer.bitCount(I)I -/
def zc_87 : List (Nat × List zE × Nat) := [(0, [(0, .iload_n 0, 1, 0, 0, 0), (1, .iload_n 0, 1, 0, 0, 0), (2, .iconst 1, 1, 0, 0, 0), (3, .iushr, 1, 0, 0, 0), (4, .ldc_w 265, 3, 1431655765, 0, 583), (7, .iand, 1, 0, 0, 0), (8, .isub, 1, 0, 0, 0), (9, .istore_n 0, 1, 0, 0, 0), (10, .iload_n 0, 1, 0, 0, 0), (11, .ldc_w 266, 3, 858993459, 0, 584), (14, .iand, 1, 0, 0, 0), (15, .iload_n 0, 1, 0, 0, 0), (16, .iconst 2, 1, 0, 0, 0), (17, .iushr, 1, 0, 0, 0), (18, .ldc_w 266, 3, 858993459, 0, 584), (21, .iand, 1, 0, 0, 0), (22, .iadd, 1, 0, 0, 0), (23, .istore_n 0, 1, 0, 0, 0), (24, .iload_n 0, 1, 0, 0, 0), (25, .iload_n 0, 1, 0, 0, 0), (26, .iconst 4, 1, 0, 0, 0), (27, .iushr, 1, 0, 0, 0), (28, .iadd, 1, 0, 0, 0), (29, .ldc_w 267, 3, 252645135, 0, 585), (32, .iand, 1, 0, 0, 0), (33, .istore_n 0, 1, 0, 0, 0), (34, .iload_n 0, 1, 0, 0, 0), (35, .iload_n 0, 1, 0, 0, 0), (36, .bipush 8, 2, 0, 0, 0), (38, .iushr, 1, 0, 0, 0), (39, .iadd, 1, 0, 0, 0), (40, .istore_n 0, 1, 0, 0, 0), (41, .iload_n 0, 1, 0, 0, 0), (42, .iload_n 0, 1, 0, 0, 0), (43, .bipush 16, 2, 0, 0, 0), (45, .iushr, 1, 0, 0, 0), (46, .iadd, 1, 0, 0, 0), (47, .istore_n 0, 1, 0, 0, 0), (48, .iload_n 0, 1, 0, 0, 0), (49, .bipush 63, 2, 0, 0, 0), (51, .iand, 1, 0, 0, 0), (52, .ireturn, 1, 0, 0, 0)], 53)]
/-- 88: java/lang/Math.max(II)I -/
def zc_88 : List (Nat × List zE × Nat) := [(0, [(0, .iload_n 0, 1, 0, 0, 0), (1, .iload_n 1, 1, 0, 0, 0), (2, .if_icmp .lt 7, 3, 0, 0, 0), (5, .iload_n 0, 1, 0, 0, 0), (6, .goto 4, 3, 0, 0, 0)], 9),
  (9, [(9, .iload_n 1, 1, 0, 0, 0)], 10),
  (10, [(10, .ireturn, 1, 0, 0, 0)], 11)]
/-- 89: FewSignsModel.in(III)Z -/
def zc_89 : List (Nat × List zE × Nat) := [(0, [(0, .iload_n 0, 1, 0, 0, 0), (1, .iload_n 1, 1, 0, 0, 0), (2, .if_icmp .lt 12, 3, 0, 0, 0), (5, .iload_n 0, 1, 0, 0, 0), (6, .iload_n 2, 1, 0, 0, 0), (7, .if_icmp .gt 7, 3, 0, 0, 0), (10, .iconst 1, 1, 0, 0, 0), (11, .goto 4, 3, 0, 0, 0)], 14),
  (14, [(14, .iconst 0, 1, 0, 0, 0)], 15),
  (15, [(15, .ireturn, 1, 0, 0, 0)], 16)]
/-- 90: FewSignsModel.empties()V -/
def zc_90 : List (Nat × List zE × Nat) := [(0, [(0, .iconst 0, 1, 0, 0, 0), (1, .istore_n 1, 1, 0, 0, 0)], 2),
  (2, [(2, .iload_n 1, 1, 0, 0, 0), (3, .iconst 4, 1, 0, 0, 0), (4, .if_icmp .ge 27, 3, 0, 0, 0), (7, .aload_n 0, 1, 0, 0, 0), (8, .getfield 25, 3, 7, 11, 619), (11, .bipush 30, 2, 0, 0, 0), (13, .iload_n 1, 1, 0, 0, 0), (14, .imul, 1, 0, 0, 0), (15, .bipush 120, 2, 0, 0, 0), (17, .iastore, 1, 0, 0, 0), (18, .aload_n 0, 1, 0, 0, 0), (19, .getfield 28, 3, 7, 12, 620), (22, .iload_n 1, 1, 0, 0, 0), (23, .iconst 1, 1, 0, 0, 0), (24, .iastore, 1, 0, 0, 0), (25, .iinc 1 1, 3, 0, 0, 0), (28, .goto (-26), 3, 0, 0, 0)], 31),
  (31, [(31, .return_, 1, 0, 0, 0)], 32)]
/-- 91: FewSignsModel.tables(I)I -/
def zc_91 : List (Nat × List zE × Nat) := [(0, [(0, .iconst 1, 1, 0, 0, 0), (1, .iconst 1, 1, 0, 0, 0), (2, .iload_n 0, 1, 0, 0, 0), (3, .ishl, 1, 0, 0, 0), (4, .ishl, 1, 0, 0, 0), (5, .ireturn, 1, 0, 0, 0)], 6)]
/-- 92: FewSignsModel.sign(III)I -/
def zc_92 : List (Nat × List zE × Nat) := [(0, [(0, .aload_n 0, 1, 0, 0, 0), (1, .iconst 0, 1, 0, 0, 0), (2, .putfield 52, 3, 7, 0, 608), (5, .iload_n 1, 1, 0, 0, 0), (6, .iconst 0, 1, 0, 0, 0), (7, .iconst 3, 1, 0, 0, 0), (8, .invokestatic 56, 3, 89, 0, 676), (11, .ifCond .eq 27, 3, 0, 0, 0), (14, .iload_n 2, 1, 0, 0, 0), (15, .iconst 0, 1, 0, 0, 0), (16, .iload_n 1, 1, 0, 0, 0), (17, .invokestatic 60, 3, 91, 0, 679), (20, .iconst 1, 1, 0, 0, 0), (21, .isub, 1, 0, 0, 0), (22, .invokestatic 56, 3, 89, 0, 676), (25, .ifCond .eq 13, 3, 0, 0, 0), (28, .iload_n 3, 1, 0, 0, 0), (29, .iconst 1, 1, 0, 0, 0), (30, .bipush 9, 2, 0, 0, 0), (32, .invokestatic 56, 3, 89, 0, 676), (35, .ifCond .ne 5, 3, 0, 0, 0)], 38),
  (38, [(38, .iconst (-1), 1, 0, 0, 0), (39, .ireturn, 1, 0, 0, 0)], 40),
  (40, [(40, .aload_n 0, 1, 0, 0, 0), (41, .getfield 64, 3, 7, 1, 609), (44, .bipush 6, 2, 0, 0, 0), (46, .if_icmp .ne 6, 3, 0, 0, 0), (49, .bipush (-3), 2, 0, 0, 0), (51, .ireturn, 1, 0, 0, 0)], 52),
  (52, [(52, .aload_n 0, 1, 0, 0, 0), (53, .getfield 7, 3, 7, 2, 610), (56, .aload_n 0, 1, 0, 0, 0), (57, .getfield 64, 3, 7, 1, 609), (60, .iload_n 1, 1, 0, 0, 0), (61, .iastore, 1, 0, 0, 0), (62, .aload_n 0, 1, 0, 0, 0), (63, .getfield 13, 3, 7, 3, 611), (66, .aload_n 0, 1, 0, 0, 0), (67, .getfield 64, 3, 7, 1, 609), (70, .iload_n 2, 1, 0, 0, 0), (71, .iastore, 1, 0, 0, 0), (72, .aload_n 0, 1, 0, 0, 0), (73, .getfield 16, 3, 7, 4, 612), (76, .aload_n 0, 1, 0, 0, 0), (77, .getfield 64, 3, 7, 1, 609), (80, .iload_n 3, 1, 0, 0, 0), (81, .iastore, 1, 0, 0, 0), (82, .aload_n 0, 1, 0, 0, 0), (83, .dup, 1, 0, 0, 0), (84, .getfield 64, 3, 7, 1, 609), (87, .iconst 1, 1, 0, 0, 0), (88, .iadd, 1, 0, 0, 0), (89, .putfield 64, 3, 7, 1, 609), (92, .aload_n 0, 1, 0, 0, 0), (93, .invokevirtual 49, 3, 90, 0, 604), (96, .aload_n 0, 1, 0, 0, 0), (97, .getfield 64, 3, 7, 1, 609), (100, .iconst 1, 1, 0, 0, 0), (101, .isub, 1, 0, 0, 0), (102, .ireturn, 1, 0, 0, 0)], 103)]
/-- 93: FewSignsModel.drop()I -/
def zc_93 : List (Nat × List zE × Nat) := [(0, [(0, .aload_n 0, 1, 0, 0, 0), (1, .iconst 0, 1, 0, 0, 0), (2, .putfield 52, 3, 7, 0, 608), (5, .aload_n 0, 1, 0, 0, 0), (6, .getfield 64, 3, 7, 1, 609), (9, .ifCond .ne 5, 3, 0, 0, 0), (12, .iconst (-1), 1, 0, 0, 0), (13, .ireturn, 1, 0, 0, 0)], 14),
  (14, [(14, .aload_n 0, 1, 0, 0, 0), (15, .dup, 1, 0, 0, 0), (16, .getfield 64, 3, 7, 1, 609), (19, .iconst 1, 1, 0, 0, 0), (20, .isub, 1, 0, 0, 0), (21, .putfield 64, 3, 7, 1, 609), (24, .aload_n 0, 1, 0, 0, 0), (25, .invokevirtual 49, 3, 90, 0, 604), (28, .aload_n 0, 1, 0, 0, 0), (29, .getfield 64, 3, 7, 1, 609), (32, .ireturn, 1, 0, 0, 0)], 33)]
/-- 94: FewSignsModel.keepsOf(II)I -/
def zc_94 : List (Nat × List zE × Nat) := [(0, [(0, .iconst 1, 1, 0, 0, 0), (1, .iload_n 0, 1, 0, 0, 0), (2, .ishl, 1, 0, 0, 0), (3, .istore_n 2, 1, 0, 0, 0), (4, .iload_n 2, 1, 0, 0, 0), (5, .iconst 1, 1, 0, 0, 0), (6, .isub, 1, 0, 0, 0), (7, .istore_n 3, 1, 0, 0, 0), (8, .iconst 1, 1, 0, 0, 0), (9, .istore 4, 2, 0, 0, 0), (11, .iconst 1, 1, 0, 0, 0), (12, .istore 5, 2, 0, 0, 0), (14, .iconst 0, 1, 0, 0, 0), (15, .istore 6, 2, 0, 0, 0), (17, .iconst 0, 1, 0, 0, 0), (18, .istore 7, 2, 0, 0, 0)], 20),
  (20, [(20, .iload 7, 2, 0, 0, 0), (22, .iload_n 2, 1, 0, 0, 0), (23, .if_icmp .ge 81, 3, 0, 0, 0), (26, .iload_n 1, 1, 0, 0, 0), (27, .iload 7, 2, 0, 0, 0), (29, .ishr, 1, 0, 0, 0), (30, .iconst 1, 1, 0, 0, 0), (31, .iand, 1, 0, 0, 0), (32, .istore 8, 2, 0, 0, 0), (34, .iload 4, 2, 0, 0, 0), (36, .iload_n 1, 1, 0, 0, 0), (37, .iload_n 3, 1, 0, 0, 0), (38, .iload 7, 2, 0, 0, 0), (40, .isub, 1, 0, 0, 0), (41, .ishr, 1, 0, 0, 0), (42, .iconst 1, 1, 0, 0, 0), (43, .iand, 1, 0, 0, 0), (44, .iload 8, 2, 0, 0, 0), (46, .if_icmp .eq 7, 3, 0, 0, 0), (49, .iconst 1, 1, 0, 0, 0), (50, .goto 4, 3, 0, 0, 0)], 53),
  (53, [(53, .iconst 0, 1, 0, 0, 0)], 54),
  (54, [(54, .iand, 1, 0, 0, 0), (55, .istore 4, 2, 0, 0, 0), (57, .iconst 0, 1, 0, 0, 0), (58, .istore 9, 2, 0, 0, 0)], 60),
  (60, [(60, .iload 9, 2, 0, 0, 0), (62, .iload_n 0, 1, 0, 0, 0), (63, .if_icmp .ge 35, 3, 0, 0, 0), (66, .iload 5, 2, 0, 0, 0), (68, .iload 8, 2, 0, 0, 0), (70, .iload_n 1, 1, 0, 0, 0), (71, .iload 7, 2, 0, 0, 0), (73, .iconst 1, 1, 0, 0, 0), (74, .iload 9, 2, 0, 0, 0), (76, .ishl, 1, 0, 0, 0), (77, .ior, 1, 0, 0, 0), (78, .ishr, 1, 0, 0, 0), (79, .iconst 1, 1, 0, 0, 0), (80, .iand, 1, 0, 0, 0), (81, .if_icmp .gt 7, 3, 0, 0, 0), (84, .iconst 1, 1, 0, 0, 0), (85, .goto 4, 3, 0, 0, 0)], 88),
  (88, [(88, .iconst 0, 1, 0, 0, 0)], 89),
  (89, [(89, .iand, 1, 0, 0, 0), (90, .istore 5, 2, 0, 0, 0), (92, .iinc 9 1, 3, 0, 0, 0), (95, .goto (-35), 3, 0, 0, 0)], 98),
  (98, [(98, .iinc 7 1, 3, 0, 0, 0), (101, .goto (-81), 3, 0, 0, 0)], 104),
  (104, [(104, .iconst 0, 1, 0, 0, 0), (105, .istore 7, 2, 0, 0, 0)], 107),
  (107, [(107, .iload 7, 2, 0, 0, 0), (109, .iload_n 2, 1, 0, 0, 0), (110, .if_icmp .ge 106, 3, 0, 0, 0), (113, .iconst 0, 1, 0, 0, 0), (114, .istore 8, 2, 0, 0, 0)], 116),
  (116, [(116, .iload 8, 2, 0, 0, 0), (118, .iconst 2, 1, 0, 0, 0), (119, .if_icmp .ge 91, 3, 0, 0, 0), (122, .iconst 1, 1, 0, 0, 0), (123, .istore 9, 2, 0, 0, 0), (125, .iconst 0, 1, 0, 0, 0), (126, .istore 10, 2, 0, 0, 0)], 128),
  (128, [(128, .iload 10, 2, 0, 0, 0), (130, .iload_n 2, 1, 0, 0, 0), (131, .if_icmp .ge 66, 3, 0, 0, 0), (134, .iload 8, 2, 0, 0, 0), (136, .istore 11, 2, 0, 0, 0), (138, .iconst 0, 1, 0, 0, 0), (139, .istore 12, 2, 0, 0, 0)], 141),
  (141, [(141, .iload 12, 2, 0, 0, 0), (143, .iload_n 0, 1, 0, 0, 0), (144, .if_icmp .ge 24, 3, 0, 0, 0), (147, .iload 11, 2, 0, 0, 0), (149, .iload 7, 2, 0, 0, 0), (151, .iload 10, 2, 0, 0, 0), (153, .iand, 1, 0, 0, 0), (154, .iload 12, 2, 0, 0, 0), (156, .ishr, 1, 0, 0, 0), (157, .iconst 1, 1, 0, 0, 0), (158, .iand, 1, 0, 0, 0), (159, .iadd, 1, 0, 0, 0), (160, .istore 11, 2, 0, 0, 0), (162, .iinc 12 1, 3, 0, 0, 0), (165, .goto (-24), 3, 0, 0, 0)], 168),
  (168, [(168, .iload 9, 2, 0, 0, 0), (170, .iload 11, 2, 0, 0, 0), (172, .iconst 2, 1, 0, 0, 0), (173, .irem, 1, 0, 0, 0), (174, .iload_n 1, 1, 0, 0, 0), (175, .iload 10, 2, 0, 0, 0), (177, .ishr, 1, 0, 0, 0), (178, .iconst 1, 1, 0, 0, 0), (179, .iand, 1, 0, 0, 0), (180, .if_icmp .ne 7, 3, 0, 0, 0), (183, .iconst 1, 1, 0, 0, 0), (184, .goto 4, 3, 0, 0, 0)], 187),
  (187, [(187, .iconst 0, 1, 0, 0, 0)], 188),
  (188, [(188, .iand, 1, 0, 0, 0), (189, .istore 9, 2, 0, 0, 0), (191, .iinc 10 1, 3, 0, 0, 0), (194, .goto (-66), 3, 0, 0, 0)], 197),
  (197, [(197, .iload 6, 2, 0, 0, 0), (199, .iload 9, 2, 0, 0, 0), (201, .ior, 1, 0, 0, 0), (202, .istore 6, 2, 0, 0, 0), (204, .iinc 8 1, 3, 0, 0, 0), (207, .goto (-91), 3, 0, 0, 0)], 210),
  (210, [(210, .iinc 7 1, 3, 0, 0, 0), (213, .goto (-106), 3, 0, 0, 0)], 216),
  (216, [(216, .iload_n 1, 1, 0, 0, 0), (217, .iconst 1, 1, 0, 0, 0), (218, .iand, 1, 0, 0, 0), (219, .ifCond .ne 7, 3, 0, 0, 0), (222, .iconst 1, 1, 0, 0, 0), (223, .goto 4, 3, 0, 0, 0)], 226),
  (226, [(226, .iconst 0, 1, 0, 0, 0)], 227),
  (227, [(227, .iload_n 1, 1, 0, 0, 0), (228, .iload_n 3, 1, 0, 0, 0), (229, .ishr, 1, 0, 0, 0), (230, .iconst 1, 1, 0, 0, 0), (231, .iand, 1, 0, 0, 0), (232, .iconst 1, 1, 0, 0, 0), (233, .if_icmp .ne 7, 3, 0, 0, 0), (236, .iconst 2, 1, 0, 0, 0), (237, .goto 4, 3, 0, 0, 0)], 240),
  (240, [(240, .iconst 0, 1, 0, 0, 0)], 241),
  (241, [(241, .iadd, 1, 0, 0, 0), (242, .iload 4, 2, 0, 0, 0), (244, .ifCond .eq 7, 3, 0, 0, 0), (247, .iconst 4, 1, 0, 0, 0), (248, .goto 4, 3, 0, 0, 0)], 251),
  (251, [(251, .iconst 0, 1, 0, 0, 0)], 252),
  (252, [(252, .iadd, 1, 0, 0, 0), (253, .iload 5, 2, 0, 0, 0), (255, .ifCond .eq 8, 3, 0, 0, 0), (258, .bipush 8, 2, 0, 0, 0), (260, .goto 4, 3, 0, 0, 0)], 263),
  (263, [(263, .iconst 0, 1, 0, 0, 0)], 264),
  (264, [(264, .iadd, 1, 0, 0, 0), (265, .iload 6, 2, 0, 0, 0), (267, .ifCond .eq 8, 3, 0, 0, 0), (270, .bipush 16, 2, 0, 0, 0), (272, .goto 4, 3, 0, 0, 0)], 275),
  (275, [(275, .iconst 0, 1, 0, 0, 0)], 276),
  (276, [(276, .iadd, 1, 0, 0, 0), (277, .ireturn, 1, 0, 0, 0)], 278)]
/-- 95: FewSignsModel.about(II)I -/
def zc_95 : List (Nat × List zE × Nat) := [(0, [(0, .aload_n 0, 1, 0, 0, 0), (1, .iconst 0, 1, 0, 0, 0), (2, .putfield 52, 3, 7, 0, 608), (5, .iload_n 1, 1, 0, 0, 0), (6, .iconst 0, 1, 0, 0, 0), (7, .aload_n 0, 1, 0, 0, 0), (8, .getfield 64, 3, 7, 1, 609), (11, .iconst 1, 1, 0, 0, 0), (12, .isub, 1, 0, 0, 0), (13, .invokestatic 56, 3, 89, 0, 676), (16, .ifCond .eq 12, 3, 0, 0, 0), (19, .iload_n 2, 1, 0, 0, 0), (20, .iconst 0, 1, 0, 0, 0), (21, .iconst 3, 1, 0, 0, 0), (22, .invokestatic 56, 3, 89, 0, 676), (25, .ifCond .ne 5, 3, 0, 0, 0)], 28),
  (28, [(28, .iconst (-1), 1, 0, 0, 0), (29, .ireturn, 1, 0, 0, 0)], 30),
  (30, [(30, .iload_n 2, 1, 0, 0, 0), (31, .ifCond .ne 12, 3, 0, 0, 0), (34, .aload_n 0, 1, 0, 0, 0), (35, .getfield 7, 3, 7, 2, 610), (38, .iload_n 1, 1, 0, 0, 0), (39, .iaload, 1, 0, 0, 0), (40, .goto 46, 3, 0, 0, 0)], 43),
  (43, [(43, .iload_n 2, 1, 0, 0, 0), (44, .iconst 1, 1, 0, 0, 0), (45, .if_icmp .ne 12, 3, 0, 0, 0), (48, .aload_n 0, 1, 0, 0, 0), (49, .getfield 13, 3, 7, 3, 611), (52, .iload_n 1, 1, 0, 0, 0), (53, .iaload, 1, 0, 0, 0), (54, .goto 32, 3, 0, 0, 0)], 57),
  (57, [(57, .iload_n 2, 1, 0, 0, 0), (58, .iconst 2, 1, 0, 0, 0), (59, .if_icmp .ne 12, 3, 0, 0, 0), (62, .aload_n 0, 1, 0, 0, 0), (63, .getfield 16, 3, 7, 4, 612), (66, .iload_n 1, 1, 0, 0, 0), (67, .iaload, 1, 0, 0, 0), (68, .goto 18, 3, 0, 0, 0)], 71),
  (71, [(71, .aload_n 0, 1, 0, 0, 0), (72, .getfield 7, 3, 7, 2, 610), (75, .iload_n 1, 1, 0, 0, 0), (76, .iaload, 1, 0, 0, 0), (77, .aload_n 0, 1, 0, 0, 0), (78, .getfield 13, 3, 7, 3, 611), (81, .iload_n 1, 1, 0, 0, 0), (82, .iaload, 1, 0, 0, 0), (83, .invokestatic 67, 3, 94, 0, 690)], 86),
  (86, [(86, .ireturn, 1, 0, 0, 0)], 87)]
/-- 96: FewSignsModel.keeps(II)I -/
def zc_96 : List (Nat × List zE × Nat) := [(0, [(0, .aload_n 0, 1, 0, 0, 0), (1, .iconst 0, 1, 0, 0, 0), (2, .putfield 52, 3, 7, 0, 608), (5, .iload_n 1, 1, 0, 0, 0), (6, .iconst 0, 1, 0, 0, 0), (7, .iconst 3, 1, 0, 0, 0), (8, .invokestatic 56, 3, 89, 0, 676), (11, .ifCond .eq 25, 3, 0, 0, 0), (14, .iload_n 2, 1, 0, 0, 0), (15, .iconst 0, 1, 0, 0, 0), (16, .iload_n 1, 1, 0, 0, 0), (17, .invokestatic 60, 3, 91, 0, 679), (20, .iconst 1, 1, 0, 0, 0), (21, .isub, 1, 0, 0, 0), (22, .invokestatic 56, 3, 89, 0, 676), (25, .ifCond .eq 11, 3, 0, 0, 0), (28, .iload_n 1, 1, 0, 0, 0), (29, .iload_n 2, 1, 0, 0, 0), (30, .invokestatic 67, 3, 94, 0, 690), (33, .goto 4, 3, 0, 0, 0)], 36),
  (36, [(36, .iconst (-1), 1, 0, 0, 0)], 37),
  (37, [(37, .ireturn, 1, 0, 0, 0)], 38)]
/-- 97: FewSignsModel.hasThree()Z -/
def zc_97 : List (Nat × List zE × Nat) := [(0, [(0, .iconst 0, 1, 0, 0, 0), (1, .istore_n 1, 1, 0, 0, 0), (2, .iconst 0, 1, 0, 0, 0), (3, .istore_n 2, 1, 0, 0, 0)], 4),
  (4, [(4, .iload_n 2, 1, 0, 0, 0), (5, .aload_n 0, 1, 0, 0, 0), (6, .getfield 64, 3, 7, 1, 609), (9, .if_icmp .ge 27, 3, 0, 0, 0), (12, .iload_n 1, 1, 0, 0, 0), (13, .aload_n 0, 1, 0, 0, 0), (14, .getfield 7, 3, 7, 2, 610), (17, .iload_n 2, 1, 0, 0, 0), (18, .iaload, 1, 0, 0, 0), (19, .iconst 3, 1, 0, 0, 0), (20, .if_icmp .ne 7, 3, 0, 0, 0), (23, .iconst 1, 1, 0, 0, 0), (24, .goto 4, 3, 0, 0, 0)], 27),
  (27, [(27, .iconst 0, 1, 0, 0, 0)], 28),
  (28, [(28, .ior, 1, 0, 0, 0), (29, .istore_n 1, 1, 0, 0, 0), (30, .iinc 2 1, 3, 0, 0, 0), (33, .goto (-29), 3, 0, 0, 0)], 36),
  (36, [(36, .iload_n 1, 1, 0, 0, 0), (37, .ireturn, 1, 0, 0, 0)], 38)]
/-- 98: FewSignsModel.joined(IIIII)I -/
def zc_98 : List (Nat × List zE × Nat) := [(0, [(0, .iconst 0, 1, 0, 0, 0), (1, .istore 6, 2, 0, 0, 0), (3, .iconst 0, 1, 0, 0, 0), (4, .istore 7, 2, 0, 0, 0)], 6),
  (6, [(6, .iload 7, 2, 0, 0, 0), (8, .iconst 1, 1, 0, 0, 0), (9, .iload_n 2, 1, 0, 0, 0), (10, .ishl, 1, 0, 0, 0), (11, .if_icmp .ge 56, 3, 0, 0, 0), (14, .iload_n 3, 1, 0, 0, 0), (15, .iload 7, 2, 0, 0, 0), (17, .ishr, 1, 0, 0, 0), (18, .iconst 1, 1, 0, 0, 0), (19, .iand, 1, 0, 0, 0), (20, .iconst 2, 1, 0, 0, 0), (21, .iload 4, 2, 0, 0, 0), (23, .iload 7, 2, 0, 0, 0), (25, .ishr, 1, 0, 0, 0), (26, .iconst 1, 1, 0, 0, 0), (27, .iand, 1, 0, 0, 0), (28, .imul, 1, 0, 0, 0), (29, .iadd, 1, 0, 0, 0), (30, .iconst 4, 1, 0, 0, 0), (31, .iload 5, 2, 0, 0, 0), (33, .iload 7, 2, 0, 0, 0), (35, .ishr, 1, 0, 0, 0), (36, .iconst 1, 1, 0, 0, 0), (37, .iand, 1, 0, 0, 0), (38, .imul, 1, 0, 0, 0), (39, .iadd, 1, 0, 0, 0), (40, .istore 8, 2, 0, 0, 0), (42, .iload 6, 2, 0, 0, 0), (44, .aload_n 0, 1, 0, 0, 0), (45, .getfield 13, 3, 7, 3, 611), (48, .iload_n 1, 1, 0, 0, 0), (49, .iaload, 1, 0, 0, 0), (50, .iload 8, 2, 0, 0, 0), (52, .ishr, 1, 0, 0, 0), (53, .iconst 1, 1, 0, 0, 0), (54, .iand, 1, 0, 0, 0), (55, .iload 7, 2, 0, 0, 0), (57, .ishl, 1, 0, 0, 0), (58, .ior, 1, 0, 0, 0), (59, .istore 6, 2, 0, 0, 0), (61, .iinc 7 1, 3, 0, 0, 0), (64, .goto (-58), 3, 0, 0, 0)], 67),
  (67, [(67, .iload 6, 2, 0, 0, 0), (69, .ireturn, 1, 0, 0, 0)], 70)]
/-- 99: FewSignsModel.place(II)I -/
def zc_99 : List (Nat × List zE × Nat) := [(0, [(0, .iconst 0, 1, 0, 0, 0), (1, .istore_n 2, 1, 0, 0, 0), (2, .iconst 0, 1, 0, 0, 0), (3, .istore_n 3, 1, 0, 0, 0)], 4),
  (4, [(4, .iload_n 3, 1, 0, 0, 0), (5, .iconst 1, 1, 0, 0, 0), (6, .iload_n 0, 1, 0, 0, 0), (7, .ishl, 1, 0, 0, 0), (8, .if_icmp .ge 19, 3, 0, 0, 0), (11, .iload_n 2, 1, 0, 0, 0), (12, .iload_n 3, 1, 0, 0, 0), (13, .iload_n 1, 1, 0, 0, 0), (14, .ishr, 1, 0, 0, 0), (15, .iconst 1, 1, 0, 0, 0), (16, .iand, 1, 0, 0, 0), (17, .iload_n 3, 1, 0, 0, 0), (18, .ishl, 1, 0, 0, 0), (19, .ior, 1, 0, 0, 0), (20, .istore_n 2, 1, 0, 0, 0), (21, .iinc 3 1, 3, 0, 0, 0), (24, .goto (-20), 3, 0, 0, 0)], 27),
  (27, [(27, .iload_n 2, 1, 0, 0, 0), (28, .ireturn, 1, 0, 0, 0)], 29)]
/-- 100: FewSignsModel.finds(I)V -/
def zc_100 : List (Nat × List zE × Nat) := [(0, [(0, .iload_n 1, 1, 0, 0, 0), (1, .invokestatic 60, 3, 91, 0, 679), (4, .istore_n 2, 1, 0, 0, 0), (5, .iconst 0, 1, 0, 0, 0), (6, .istore_n 3, 1, 0, 0, 0)], 7),
  (7, [(7, .iload_n 3, 1, 0, 0, 0), (8, .iload_n 2, 1, 0, 0, 0), (9, .if_icmp .ge 17, 3, 0, 0, 0), (12, .aload_n 0, 1, 0, 0, 0), (13, .getfield 19, 3, 7, 5, 613), (16, .iload_n 3, 1, 0, 0, 0), (17, .bipush (-9), 2, 0, 0, 0), (19, .iastore, 1, 0, 0, 0), (20, .iinc 3 1, 3, 0, 0, 0), (23, .goto (-16), 3, 0, 0, 0)], 26),
  (26, [(26, .iconst 0, 1, 0, 0, 0), (27, .istore_n 3, 1, 0, 0, 0)], 28),
  (28, [(28, .iload_n 3, 1, 0, 0, 0), (29, .iload_n 1, 1, 0, 0, 0), (30, .if_icmp .ge 20, 3, 0, 0, 0), (33, .aload_n 0, 1, 0, 0, 0), (34, .getfield 19, 3, 7, 5, 613), (37, .iload_n 1, 1, 0, 0, 0), (38, .iload_n 3, 1, 0, 0, 0), (39, .invokestatic 71, 3, 99, 0, 713), (42, .iconst 0, 1, 0, 0, 0), (43, .iastore, 1, 0, 0, 0), (44, .iinc 3 1, 3, 0, 0, 0), (47, .goto (-19), 3, 0, 0, 0)], 50),
  (50, [(50, .iconst 1, 1, 0, 0, 0), (51, .istore_n 3, 1, 0, 0, 0)], 52),
  (52, [(52, .iload_n 3, 1, 0, 0, 0), (53, .ifCond .eq 287, 3, 0, 0, 0), (56, .iconst 0, 1, 0, 0, 0), (57, .istore_n 3, 1, 0, 0, 0), (58, .iconst 0, 1, 0, 0, 0), (59, .istore 4, 2, 0, 0, 0)], 61),
  (61, [(61, .iload 4, 2, 0, 0, 0), (63, .aload_n 0, 1, 0, 0, 0), (64, .getfield 64, 3, 7, 1, 609), (67, .if_icmp .ge 270, 3, 0, 0, 0), (70, .aload_n 0, 1, 0, 0, 0), (71, .getfield 7, 3, 7, 2, 610), (74, .iload 4, 2, 0, 0, 0), (76, .iaload, 1, 0, 0, 0), (77, .ifCond .le 7, 3, 0, 0, 0), (80, .iload_n 2, 1, 0, 0, 0), (81, .goto 4, 3, 0, 0, 0)], 84),
  (84, [(84, .iconst 1, 1, 0, 0, 0)], 85),
  (85, [(85, .istore 5, 2, 0, 0, 0), (87, .aload_n 0, 1, 0, 0, 0), (88, .getfield 7, 3, 7, 2, 610), (91, .iload 4, 2, 0, 0, 0), (93, .iaload, 1, 0, 0, 0), (94, .iconst 1, 1, 0, 0, 0), (95, .if_icmp .le 7, 3, 0, 0, 0), (98, .iload_n 2, 1, 0, 0, 0), (99, .goto 4, 3, 0, 0, 0)], 102),
  (102, [(102, .iconst 1, 1, 0, 0, 0)], 103),
  (103, [(103, .istore 6, 2, 0, 0, 0), (105, .aload_n 0, 1, 0, 0, 0), (106, .getfield 7, 3, 7, 2, 610), (109, .iload 4, 2, 0, 0, 0), (111, .iaload, 1, 0, 0, 0), (112, .iconst 2, 1, 0, 0, 0), (113, .if_icmp .le 7, 3, 0, 0, 0), (116, .iload_n 2, 1, 0, 0, 0), (117, .goto 4, 3, 0, 0, 0)], 120),
  (120, [(120, .iconst 1, 1, 0, 0, 0)], 121),
  (121, [(121, .istore 7, 2, 0, 0, 0), (123, .iconst 0, 1, 0, 0, 0), (124, .istore 8, 2, 0, 0, 0)], 126),
  (126, [(126, .iload 8, 2, 0, 0, 0), (128, .iload 5, 2, 0, 0, 0), (130, .if_icmp .ge 201, 3, 0, 0, 0), (133, .aload_n 0, 1, 0, 0, 0), (134, .getfield 7, 3, 7, 2, 610), (137, .iload 4, 2, 0, 0, 0), (139, .iaload, 1, 0, 0, 0), (140, .ifCond .le 13, 3, 0, 0, 0), (143, .aload_n 0, 1, 0, 0, 0), (144, .getfield 19, 3, 7, 5, 613), (147, .iload 8, 2, 0, 0, 0), (149, .iaload, 1, 0, 0, 0), (150, .goto 4, 3, 0, 0, 0)], 153),
  (153, [(153, .iconst 0, 1, 0, 0, 0)], 154),
  (154, [(154, .istore 9, 2, 0, 0, 0), (156, .iconst 0, 1, 0, 0, 0), (157, .istore 10, 2, 0, 0, 0)], 159),
  (159, [(159, .iload 10, 2, 0, 0, 0), (161, .iload 6, 2, 0, 0, 0), (163, .if_icmp .ge 162, 3, 0, 0, 0), (166, .iload 9, 2, 0, 0, 0), (168, .bipush (-9), 2, 0, 0, 0), (170, .if_icmp .eq 155, 3, 0, 0, 0), (173, .aload_n 0, 1, 0, 0, 0), (174, .getfield 7, 3, 7, 2, 610), (177, .iload 4, 2, 0, 0, 0), (179, .iaload, 1, 0, 0, 0), (180, .iconst 1, 1, 0, 0, 0), (181, .if_icmp .le 13, 3, 0, 0, 0), (184, .aload_n 0, 1, 0, 0, 0), (185, .getfield 19, 3, 7, 5, 613), (188, .iload 10, 2, 0, 0, 0), (190, .iaload, 1, 0, 0, 0), (191, .goto 4, 3, 0, 0, 0)], 194),
  (194, [(194, .iconst 0, 1, 0, 0, 0)], 195),
  (195, [(195, .istore 11, 2, 0, 0, 0), (197, .iconst 0, 1, 0, 0, 0), (198, .istore 12, 2, 0, 0, 0)], 200),
  (200, [(200, .iload 12, 2, 0, 0, 0), (202, .iload 7, 2, 0, 0, 0), (204, .if_icmp .ge 115, 3, 0, 0, 0), (207, .iload 11, 2, 0, 0, 0), (209, .bipush (-9), 2, 0, 0, 0), (211, .if_icmp .eq 108, 3, 0, 0, 0), (214, .aload_n 0, 1, 0, 0, 0), (215, .getfield 7, 3, 7, 2, 610), (218, .iload 4, 2, 0, 0, 0), (220, .iaload, 1, 0, 0, 0), (221, .iconst 2, 1, 0, 0, 0), (222, .if_icmp .le 13, 3, 0, 0, 0), (225, .aload_n 0, 1, 0, 0, 0), (226, .getfield 19, 3, 7, 5, 613), (229, .iload 12, 2, 0, 0, 0), (231, .iaload, 1, 0, 0, 0), (232, .goto 4, 3, 0, 0, 0)], 235),
  (235, [(235, .iconst 0, 1, 0, 0, 0)], 236),
  (236, [(236, .istore 13, 2, 0, 0, 0), (238, .iload 13, 2, 0, 0, 0), (240, .bipush (-9), 2, 0, 0, 0), (242, .if_icmp .eq 71, 3, 0, 0, 0), (245, .aload_n 0, 1, 0, 0, 0), (246, .iload 4, 2, 0, 0, 0), (248, .iload_n 1, 1, 0, 0, 0), (249, .iload 8, 2, 0, 0, 0), (251, .iload 10, 2, 0, 0, 0), (253, .iload 12, 2, 0, 0, 0), (255, .invokevirtual 74, 3, 98, 0, 716), (258, .istore 14, 2, 0, 0, 0), (260, .aload_n 0, 1, 0, 0, 0), (261, .getfield 16, 3, 7, 4, 612), (264, .iload 4, 2, 0, 0, 0), (266, .iaload, 1, 0, 0, 0), (267, .iload 9, 2, 0, 0, 0), (269, .iadd, 1, 0, 0, 0), (270, .iload 11, 2, 0, 0, 0), (272, .iadd, 1, 0, 0, 0), (273, .iload 13, 2, 0, 0, 0), (275, .iadd, 1, 0, 0, 0), (276, .istore 15, 2, 0, 0, 0), (278, .aload_n 0, 1, 0, 0, 0), (279, .getfield 19, 3, 7, 5, 613), (282, .iload 14, 2, 0, 0, 0), (284, .iaload, 1, 0, 0, 0), (285, .bipush (-9), 2, 0, 0, 0), (287, .if_icmp .eq 15, 3, 0, 0, 0), (290, .iload 15, 2, 0, 0, 0), (292, .aload_n 0, 1, 0, 0, 0), (293, .getfield 19, 3, 7, 5, 613), (296, .iload 14, 2, 0, 0, 0), (298, .iaload, 1, 0, 0, 0), (299, .if_icmp .ge 14, 3, 0, 0, 0)], 302),
  (302, [(302, .aload_n 0, 1, 0, 0, 0), (303, .getfield 19, 3, 7, 5, 613), (306, .iload 14, 2, 0, 0, 0), (308, .iload 15, 2, 0, 0, 0), (310, .iastore, 1, 0, 0, 0), (311, .iconst 1, 1, 0, 0, 0), (312, .istore_n 3, 1, 0, 0, 0)], 313),
  (313, [(313, .iinc 12 1, 3, 0, 0, 0), (316, .goto (-116), 3, 0, 0, 0)], 319),
  (319, [(319, .iinc 10 1, 3, 0, 0, 0), (322, .goto (-163), 3, 0, 0, 0)], 325),
  (325, [(325, .iinc 8 1, 3, 0, 0, 0), (328, .goto (-202), 3, 0, 0, 0)], 331),
  (331, [(331, .iinc 4 1, 3, 0, 0, 0), (334, .goto (-273), 3, 0, 0, 0)], 337),
  (337, [(337, .goto (-285), 3, 0, 0, 0)], 340),
  (340, [(340, .return_, 1, 0, 0, 0)], 341)]
/-- 101: FewSignsModel.refuses(I)I -/
def zc_101 : List (Nat × List zE × Nat) := [(0, [(0, .iload_n 1, 1, 0, 0, 0), (1, .iconst 1, 1, 0, 0, 0), (2, .iconst 3, 1, 0, 0, 0), (3, .invokestatic 56, 3, 89, 0, 676), (6, .ifCond .ne 7, 3, 0, 0, 0), (9, .iconst (-1), 1, 0, 0, 0), (10, .goto 21, 3, 0, 0, 0)], 13),
  (13, [(13, .iload_n 1, 1, 0, 0, 0), (14, .iconst 3, 1, 0, 0, 0), (15, .if_icmp .ne 15, 3, 0, 0, 0), (18, .aload_n 0, 1, 0, 0, 0), (19, .invokevirtual 78, 3, 97, 0, 705), (22, .ifCond .eq 8, 3, 0, 0, 0), (25, .bipush (-2), 2, 0, 0, 0), (27, .goto 4, 3, 0, 0, 0)], 30),
  (30, [(30, .iconst 0, 1, 0, 0, 0)], 31),
  (31, [(31, .ireturn, 1, 0, 0, 0)], 32)]
/-- 102: FewSignsModel.reached(I)I -/
def zc_102 : List (Nat × List zE × Nat) := [(0, [(0, .aload_n 0, 1, 0, 0, 0), (1, .iconst 0, 1, 0, 0, 0), (2, .putfield 52, 3, 7, 0, 608), (5, .aload_n 0, 1, 0, 0, 0), (6, .iload_n 1, 1, 0, 0, 0), (7, .invokevirtual 82, 3, 101, 0, 701), (10, .istore_n 2, 1, 0, 0, 0), (11, .iload_n 2, 1, 0, 0, 0), (12, .ifCond .ge 5, 3, 0, 0, 0), (15, .iload_n 2, 1, 0, 0, 0), (16, .ireturn, 1, 0, 0, 0)], 17),
  (17, [(17, .aload_n 0, 1, 0, 0, 0), (18, .iload_n 1, 1, 0, 0, 0), (19, .invokevirtual 85, 3, 100, 0, 709), (22, .iconst 0, 1, 0, 0, 0), (23, .istore_n 3, 1, 0, 0, 0), (24, .iconst 0, 1, 0, 0, 0), (25, .istore 4, 2, 0, 0, 0)], 27),
  (27, [(27, .iload 4, 2, 0, 0, 0), (29, .iload_n 1, 1, 0, 0, 0), (30, .invokestatic 60, 3, 91, 0, 679), (33, .if_icmp .ge 29, 3, 0, 0, 0), (36, .iload_n 3, 1, 0, 0, 0), (37, .aload_n 0, 1, 0, 0, 0), (38, .getfield 19, 3, 7, 5, 613), (41, .iload 4, 2, 0, 0, 0), (43, .iaload, 1, 0, 0, 0), (44, .bipush (-9), 2, 0, 0, 0), (46, .if_icmp .ne 7, 3, 0, 0, 0), (49, .iconst 0, 1, 0, 0, 0), (50, .goto 4, 3, 0, 0, 0)], 53),
  (53, [(53, .iconst 1, 1, 0, 0, 0)], 54),
  (54, [(54, .iadd, 1, 0, 0, 0), (55, .istore_n 3, 1, 0, 0, 0), (56, .iinc 4 1, 3, 0, 0, 0), (59, .goto (-32), 3, 0, 0, 0)], 62),
  (62, [(62, .iload_n 3, 1, 0, 0, 0), (63, .ireturn, 1, 0, 0, 0)], 64)]
/-- 103: FewSignsModel.least(II)I -/
def zc_103 : List (Nat × List zE × Nat) := [(0, [(0, .aload_n 0, 1, 0, 0, 0), (1, .iconst 0, 1, 0, 0, 0), (2, .putfield 52, 3, 7, 0, 608), (5, .iload_n 1, 1, 0, 0, 0), (6, .iconst 1, 1, 0, 0, 0), (7, .iconst 3, 1, 0, 0, 0), (8, .invokestatic 56, 3, 89, 0, 676), (11, .ifCond .eq 17, 3, 0, 0, 0), (14, .iload_n 2, 1, 0, 0, 0), (15, .iconst 0, 1, 0, 0, 0), (16, .iload_n 1, 1, 0, 0, 0), (17, .invokestatic 60, 3, 91, 0, 679), (20, .iconst 1, 1, 0, 0, 0), (21, .isub, 1, 0, 0, 0), (22, .invokestatic 56, 3, 89, 0, 676), (25, .ifCond .ne 5, 3, 0, 0, 0)], 28),
  (28, [(28, .iconst (-1), 1, 0, 0, 0), (29, .ireturn, 1, 0, 0, 0)], 30),
  (30, [(30, .aload_n 0, 1, 0, 0, 0), (31, .iload_n 1, 1, 0, 0, 0), (32, .invokevirtual 82, 3, 101, 0, 701), (35, .ifCond .ge 6, 3, 0, 0, 0), (38, .bipush (-2), 2, 0, 0, 0), (40, .ireturn, 1, 0, 0, 0)], 41),
  (41, [(41, .aload_n 0, 1, 0, 0, 0), (42, .iload_n 1, 1, 0, 0, 0), (43, .invokevirtual 85, 3, 100, 0, 709), (46, .aload_n 0, 1, 0, 0, 0), (47, .getfield 19, 3, 7, 5, 613), (50, .iload_n 2, 1, 0, 0, 0), (51, .iaload, 1, 0, 0, 0), (52, .ireturn, 1, 0, 0, 0)], 53)]
/-- 104: FewSignsModel.isBy(III)Z -/
def zc_104 : List (Nat × List zE × Nat) := [(0, [(0, .iload_n 2, 1, 0, 0, 0), (1, .invokestatic 60, 3, 91, 0, 679), (4, .istore 4, 2, 0, 0, 0), (6, .aload_n 0, 1, 0, 0, 0), (7, .bipush (-9), 2, 0, 0, 0), (9, .putfield 89, 3, 7, 6, 614), (12, .aload_n 0, 1, 0, 0, 0), (13, .bipush (-9), 2, 0, 0, 0), (15, .putfield 92, 3, 7, 7, 615), (18, .aload_n 0, 1, 0, 0, 0), (19, .bipush (-9), 2, 0, 0, 0), (21, .putfield 95, 3, 7, 8, 616), (24, .aload_n 0, 1, 0, 0, 0), (25, .getfield 7, 3, 7, 2, 610), (28, .iload_n 1, 1, 0, 0, 0), (29, .iaload, 1, 0, 0, 0), (30, .ifCond .le 8, 3, 0, 0, 0), (33, .iload 4, 2, 0, 0, 0), (35, .goto 4, 3, 0, 0, 0)], 38),
  (38, [(38, .iconst 1, 1, 0, 0, 0)], 39),
  (39, [(39, .istore 5, 2, 0, 0, 0), (41, .aload_n 0, 1, 0, 0, 0), (42, .getfield 7, 3, 7, 2, 610), (45, .iload_n 1, 1, 0, 0, 0), (46, .iaload, 1, 0, 0, 0), (47, .iconst 1, 1, 0, 0, 0), (48, .if_icmp .le 8, 3, 0, 0, 0), (51, .iload 4, 2, 0, 0, 0), (53, .goto 4, 3, 0, 0, 0)], 56),
  (56, [(56, .iconst 1, 1, 0, 0, 0)], 57),
  (57, [(57, .istore 6, 2, 0, 0, 0), (59, .aload_n 0, 1, 0, 0, 0), (60, .getfield 7, 3, 7, 2, 610), (63, .iload_n 1, 1, 0, 0, 0), (64, .iaload, 1, 0, 0, 0), (65, .iconst 2, 1, 0, 0, 0), (66, .if_icmp .le 8, 3, 0, 0, 0), (69, .iload 4, 2, 0, 0, 0), (71, .goto 4, 3, 0, 0, 0)], 74),
  (74, [(74, .iconst 1, 1, 0, 0, 0)], 75),
  (75, [(75, .istore 7, 2, 0, 0, 0), (77, .aload_n 0, 1, 0, 0, 0), (78, .getfield 19, 3, 7, 5, 613), (81, .iload_n 3, 1, 0, 0, 0), (82, .iaload, 1, 0, 0, 0), (83, .aload_n 0, 1, 0, 0, 0), (84, .getfield 16, 3, 7, 4, 612), (87, .iload_n 1, 1, 0, 0, 0), (88, .iaload, 1, 0, 0, 0), (89, .isub, 1, 0, 0, 0), (90, .istore 8, 2, 0, 0, 0), (92, .iconst 0, 1, 0, 0, 0), (93, .istore 9, 2, 0, 0, 0)], 95),
  (95, [(95, .iload 9, 2, 0, 0, 0), (97, .iload 5, 2, 0, 0, 0), (99, .if_icmp .ge 240, 3, 0, 0, 0), (102, .aload_n 0, 1, 0, 0, 0), (103, .getfield 7, 3, 7, 2, 610), (106, .iload_n 1, 1, 0, 0, 0), (107, .iaload, 1, 0, 0, 0), (108, .ifCond .le 13, 3, 0, 0, 0), (111, .aload_n 0, 1, 0, 0, 0), (112, .getfield 19, 3, 7, 5, 613), (115, .iload 9, 2, 0, 0, 0), (117, .iaload, 1, 0, 0, 0), (118, .goto 4, 3, 0, 0, 0)], 121),
  (121, [(121, .iconst 0, 1, 0, 0, 0)], 122),
  (122, [(122, .istore 10, 2, 0, 0, 0), (124, .iconst 0, 1, 0, 0, 0), (125, .istore 11, 2, 0, 0, 0)], 127),
  (127, [(127, .iload 11, 2, 0, 0, 0), (129, .iload 6, 2, 0, 0, 0), (131, .if_icmp .ge 202, 3, 0, 0, 0), (134, .iload 10, 2, 0, 0, 0), (136, .bipush (-9), 2, 0, 0, 0), (138, .if_icmp .eq 195, 3, 0, 0, 0), (141, .iload 10, 2, 0, 0, 0), (143, .iload 8, 2, 0, 0, 0), (145, .if_icmp .gt 188, 3, 0, 0, 0), (148, .aload_n 0, 1, 0, 0, 0), (149, .getfield 7, 3, 7, 2, 610), (152, .iload_n 1, 1, 0, 0, 0), (153, .iaload, 1, 0, 0, 0), (154, .iconst 1, 1, 0, 0, 0), (155, .if_icmp .le 13, 3, 0, 0, 0), (158, .aload_n 0, 1, 0, 0, 0), (159, .getfield 19, 3, 7, 5, 613), (162, .iload 11, 2, 0, 0, 0), (164, .iaload, 1, 0, 0, 0), (165, .goto 4, 3, 0, 0, 0)], 168),
  (168, [(168, .iconst 0, 1, 0, 0, 0)], 169),
  (169, [(169, .istore 12, 2, 0, 0, 0), (171, .iconst 0, 1, 0, 0, 0), (172, .istore 13, 2, 0, 0, 0)], 174),
  (174, [(174, .iload 13, 2, 0, 0, 0), (176, .iload 7, 2, 0, 0, 0), (178, .if_icmp .ge 149, 3, 0, 0, 0), (181, .iload 12, 2, 0, 0, 0), (183, .bipush (-9), 2, 0, 0, 0), (185, .if_icmp .eq 142, 3, 0, 0, 0), (188, .iload 10, 2, 0, 0, 0), (190, .iload 12, 2, 0, 0, 0), (192, .iadd, 1, 0, 0, 0), (193, .iload 8, 2, 0, 0, 0), (195, .if_icmp .gt 132, 3, 0, 0, 0), (198, .aload_n 0, 1, 0, 0, 0), (199, .getfield 7, 3, 7, 2, 610), (202, .iload_n 1, 1, 0, 0, 0), (203, .iaload, 1, 0, 0, 0), (204, .iconst 2, 1, 0, 0, 0), (205, .if_icmp .le 13, 3, 0, 0, 0), (208, .aload_n 0, 1, 0, 0, 0), (209, .getfield 19, 3, 7, 5, 613), (212, .iload 13, 2, 0, 0, 0), (214, .iaload, 1, 0, 0, 0), (215, .goto 4, 3, 0, 0, 0)], 218),
  (218, [(218, .iconst 0, 1, 0, 0, 0)], 219),
  (219, [(219, .istore 14, 2, 0, 0, 0), (221, .iload 14, 2, 0, 0, 0), (223, .bipush (-9), 2, 0, 0, 0), (225, .if_icmp .eq 96, 3, 0, 0, 0), (228, .iload 10, 2, 0, 0, 0), (230, .iload 12, 2, 0, 0, 0), (232, .iadd, 1, 0, 0, 0), (233, .iload 14, 2, 0, 0, 0), (235, .iadd, 1, 0, 0, 0), (236, .iload 8, 2, 0, 0, 0), (238, .if_icmp .ne 83, 3, 0, 0, 0), (241, .aload_n 0, 1, 0, 0, 0), (242, .iload_n 1, 1, 0, 0, 0), (243, .iload_n 2, 1, 0, 0, 0), (244, .iload 9, 2, 0, 0, 0), (246, .iload 11, 2, 0, 0, 0), (248, .iload 13, 2, 0, 0, 0), (250, .invokevirtual 74, 3, 98, 0, 716), (253, .iload_n 3, 1, 0, 0, 0), (254, .if_icmp .ne 67, 3, 0, 0, 0), (257, .aload_n 0, 1, 0, 0, 0), (258, .aload_n 0, 1, 0, 0, 0), (259, .getfield 7, 3, 7, 2, 610), (262, .iload_n 1, 1, 0, 0, 0), (263, .iaload, 1, 0, 0, 0), (264, .ifCond .le 8, 3, 0, 0, 0), (267, .iload 9, 2, 0, 0, 0), (269, .goto 5, 3, 0, 0, 0)], 272),
  (272, [(272, .bipush (-9), 2, 0, 0, 0)], 274),
  (274, [(274, .putfield 89, 3, 7, 6, 614), (277, .aload_n 0, 1, 0, 0, 0), (278, .aload_n 0, 1, 0, 0, 0), (279, .getfield 7, 3, 7, 2, 610), (282, .iload_n 1, 1, 0, 0, 0), (283, .iaload, 1, 0, 0, 0), (284, .iconst 1, 1, 0, 0, 0), (285, .if_icmp .le 8, 3, 0, 0, 0), (288, .iload 11, 2, 0, 0, 0), (290, .goto 5, 3, 0, 0, 0)], 293),
  (293, [(293, .bipush (-9), 2, 0, 0, 0)], 295),
  (295, [(295, .putfield 92, 3, 7, 7, 615), (298, .aload_n 0, 1, 0, 0, 0), (299, .aload_n 0, 1, 0, 0, 0), (300, .getfield 7, 3, 7, 2, 610), (303, .iload_n 1, 1, 0, 0, 0), (304, .iaload, 1, 0, 0, 0), (305, .iconst 2, 1, 0, 0, 0), (306, .if_icmp .le 8, 3, 0, 0, 0), (309, .iload 13, 2, 0, 0, 0), (311, .goto 5, 3, 0, 0, 0)], 314),
  (314, [(314, .bipush (-9), 2, 0, 0, 0)], 316),
  (316, [(316, .putfield 95, 3, 7, 8, 616), (319, .iconst 1, 1, 0, 0, 0), (320, .ireturn, 1, 0, 0, 0)], 321),
  (321, [(321, .iinc 13 1, 3, 0, 0, 0), (324, .goto (-150), 3, 0, 0, 0)], 327),
  (327, [(327, .iinc 11 1, 3, 0, 0, 0), (330, .goto (-203), 3, 0, 0, 0)], 333),
  (333, [(333, .iinc 9 1, 3, 0, 0, 0), (336, .goto (-241), 3, 0, 0, 0)], 339),
  (339, [(339, .iconst 0, 1, 0, 0, 0), (340, .ireturn, 1, 0, 0, 0)], 341)]
/-- 105: FewSignsModel.by(III)I -/
def zc_105 : List (Nat × List zE × Nat) := [(0, [(0, .aload_n 0, 1, 0, 0, 0), (1, .iconst 0, 1, 0, 0, 0), (2, .putfield 52, 3, 7, 0, 608), (5, .iload_n 1, 1, 0, 0, 0), (6, .iconst 1, 1, 0, 0, 0), (7, .iconst 3, 1, 0, 0, 0), (8, .invokestatic 56, 3, 89, 0, 676), (11, .ifCond .eq 26, 3, 0, 0, 0), (14, .iload_n 2, 1, 0, 0, 0), (15, .iconst 0, 1, 0, 0, 0), (16, .iload_n 1, 1, 0, 0, 0), (17, .invokestatic 60, 3, 91, 0, 679), (20, .iconst 1, 1, 0, 0, 0), (21, .isub, 1, 0, 0, 0), (22, .invokestatic 56, 3, 89, 0, 676), (25, .ifCond .eq 12, 3, 0, 0, 0), (28, .iload_n 3, 1, 0, 0, 0), (29, .iconst (-1), 1, 0, 0, 0), (30, .iconst 2, 1, 0, 0, 0), (31, .invokestatic 56, 3, 89, 0, 676), (34, .ifCond .ne 5, 3, 0, 0, 0)], 37),
  (37, [(37, .iconst (-1), 1, 0, 0, 0), (38, .ireturn, 1, 0, 0, 0)], 39),
  (39, [(39, .aload_n 0, 1, 0, 0, 0), (40, .iload_n 1, 1, 0, 0, 0), (41, .invokevirtual 82, 3, 101, 0, 701), (44, .ifCond .ge 6, 3, 0, 0, 0), (47, .bipush (-2), 2, 0, 0, 0), (49, .ireturn, 1, 0, 0, 0)], 50),
  (50, [(50, .aload_n 0, 1, 0, 0, 0), (51, .iload_n 1, 1, 0, 0, 0), (52, .invokevirtual 85, 3, 100, 0, 709), (55, .aload_n 0, 1, 0, 0, 0), (56, .getfield 19, 3, 7, 5, 613), (59, .iload_n 2, 1, 0, 0, 0), (60, .iaload, 1, 0, 0, 0), (61, .bipush (-9), 2, 0, 0, 0), (63, .if_icmp .eq 12, 3, 0, 0, 0), (66, .aload_n 0, 1, 0, 0, 0), (67, .getfield 19, 3, 7, 5, 613), (70, .iload_n 2, 1, 0, 0, 0), (71, .iaload, 1, 0, 0, 0), (72, .ifCond .ne 6, 3, 0, 0, 0)], 75),
  (75, [(75, .bipush (-9), 2, 0, 0, 0), (77, .ireturn, 1, 0, 0, 0)], 78),
  (78, [(78, .iconst 0, 1, 0, 0, 0), (79, .istore 4, 2, 0, 0, 0)], 81),
  (81, [(81, .aload_n 0, 1, 0, 0, 0), (82, .iload 4, 2, 0, 0, 0), (84, .iload_n 1, 1, 0, 0, 0), (85, .iload_n 2, 1, 0, 0, 0), (86, .invokevirtual 98, 3, 104, 0, 728), (89, .ifCond .ne 9, 3, 0, 0, 0), (92, .iinc 4 1, 3, 0, 0, 0), (95, .goto (-14), 3, 0, 0, 0)], 98),
  (98, [(98, .iload_n 3, 1, 0, 0, 0), (99, .ifCond .ge 8, 3, 0, 0, 0), (102, .iload 4, 2, 0, 0, 0), (104, .goto 30, 3, 0, 0, 0)], 107),
  (107, [(107, .iload_n 3, 1, 0, 0, 0), (108, .ifCond .ne 10, 3, 0, 0, 0), (111, .aload_n 0, 1, 0, 0, 0), (112, .getfield 89, 3, 7, 6, 614), (115, .goto 19, 3, 0, 0, 0)], 118),
  (118, [(118, .iload_n 3, 1, 0, 0, 0), (119, .iconst 1, 1, 0, 0, 0), (120, .if_icmp .ne 10, 3, 0, 0, 0), (123, .aload_n 0, 1, 0, 0, 0), (124, .getfield 92, 3, 7, 7, 615), (127, .goto 7, 3, 0, 0, 0)], 130),
  (130, [(130, .aload_n 0, 1, 0, 0, 0), (131, .getfield 95, 3, 7, 8, 616)], 134),
  (134, [(134, .ireturn, 1, 0, 0, 0)], 135)]
/-- 106: FewSignsModel.farthest(II)I -/
def zc_106 : List (Nat × List zE × Nat) := [(0, [(0, .aload_n 0, 1, 0, 0, 0), (1, .iconst 0, 1, 0, 0, 0), (2, .putfield 52, 3, 7, 0, 608), (5, .iload_n 1, 1, 0, 0, 0), (6, .iconst 1, 1, 0, 0, 0), (7, .iconst 3, 1, 0, 0, 0), (8, .invokestatic 56, 3, 89, 0, 676), (11, .ifCond .eq 12, 3, 0, 0, 0), (14, .iload_n 2, 1, 0, 0, 0), (15, .iconst 0, 1, 0, 0, 0), (16, .iconst 2, 1, 0, 0, 0), (17, .invokestatic 56, 3, 89, 0, 676), (20, .ifCond .ne 5, 3, 0, 0, 0)], 23),
  (23, [(23, .iconst (-1), 1, 0, 0, 0), (24, .ireturn, 1, 0, 0, 0)], 25),
  (25, [(25, .aload_n 0, 1, 0, 0, 0), (26, .iload_n 1, 1, 0, 0, 0), (27, .invokevirtual 82, 3, 101, 0, 701), (30, .ifCond .ge 6, 3, 0, 0, 0), (33, .bipush (-2), 2, 0, 0, 0), (35, .ireturn, 1, 0, 0, 0)], 36),
  (36, [(36, .aload_n 0, 1, 0, 0, 0), (37, .iload_n 1, 1, 0, 0, 0), (38, .invokevirtual 85, 3, 100, 0, 709), (41, .iconst 0, 1, 0, 0, 0), (42, .istore_n 3, 1, 0, 0, 0), (43, .bipush (-9), 2, 0, 0, 0), (45, .istore 4, 2, 0, 0, 0), (47, .bipush (-9), 2, 0, 0, 0), (49, .istore 5, 2, 0, 0, 0), (51, .iconst 0, 1, 0, 0, 0), (52, .istore 6, 2, 0, 0, 0)], 54),
  (54, [(54, .iload 6, 2, 0, 0, 0), (56, .iload_n 1, 1, 0, 0, 0), (57, .invokestatic 60, 3, 91, 0, 679), (60, .if_icmp .ge 70, 3, 0, 0, 0), (63, .aload_n 0, 1, 0, 0, 0), (64, .getfield 19, 3, 7, 5, 613), (67, .iload 6, 2, 0, 0, 0), (69, .iaload, 1, 0, 0, 0), (70, .bipush (-9), 2, 0, 0, 0), (72, .if_icmp .ne 22, 3, 0, 0, 0), (75, .iload 5, 2, 0, 0, 0), (77, .bipush (-9), 2, 0, 0, 0), (79, .if_icmp .ne 8, 3, 0, 0, 0), (82, .iload 6, 2, 0, 0, 0), (84, .goto 5, 3, 0, 0, 0)], 87),
  (87, [(87, .iload 5, 2, 0, 0, 0)], 89),
  (89, [(89, .istore 5, 2, 0, 0, 0), (91, .goto 33, 3, 0, 0, 0)], 94),
  (94, [(94, .iload 4, 2, 0, 0, 0), (96, .bipush (-9), 2, 0, 0, 0), (98, .if_icmp .eq 14, 3, 0, 0, 0), (101, .aload_n 0, 1, 0, 0, 0), (102, .getfield 19, 3, 7, 5, 613), (105, .iload 6, 2, 0, 0, 0), (107, .iaload, 1, 0, 0, 0), (108, .iload_n 3, 1, 0, 0, 0), (109, .if_icmp .le 15, 3, 0, 0, 0)], 112),
  (112, [(112, .iload 6, 2, 0, 0, 0), (114, .istore 4, 2, 0, 0, 0), (116, .aload_n 0, 1, 0, 0, 0), (117, .getfield 19, 3, 7, 5, 613), (120, .iload 6, 2, 0, 0, 0), (122, .iaload, 1, 0, 0, 0), (123, .istore_n 3, 1, 0, 0, 0)], 124),
  (124, [(124, .iinc 6 1, 3, 0, 0, 0), (127, .goto (-73), 3, 0, 0, 0)], 130),
  (130, [(130, .iload_n 2, 1, 0, 0, 0), (131, .ifCond .ne 7, 3, 0, 0, 0), (134, .iload_n 3, 1, 0, 0, 0), (135, .goto 15, 3, 0, 0, 0)], 138),
  (138, [(138, .iload_n 2, 1, 0, 0, 0), (139, .iconst 1, 1, 0, 0, 0), (140, .if_icmp .ne 8, 3, 0, 0, 0), (143, .iload 4, 2, 0, 0, 0), (145, .goto 5, 3, 0, 0, 0)], 148),
  (148, [(148, .iload 5, 2, 0, 0, 0)], 150),
  (150, [(150, .ireturn, 1, 0, 0, 0)], 151)]
/-- 107: FewSignsModel.costing(II)I -/
def zc_107 : List (Nat × List zE × Nat) := [(0, [(0, .aload_n 0, 1, 0, 0, 0), (1, .iconst 0, 1, 0, 0, 0), (2, .putfield 52, 3, 7, 0, 608), (5, .iload_n 1, 1, 0, 0, 0), (6, .iconst 1, 1, 0, 0, 0), (7, .iconst 3, 1, 0, 0, 0), (8, .invokestatic 56, 3, 89, 0, 676), (11, .ifCond .eq 7, 3, 0, 0, 0), (14, .iload_n 2, 1, 0, 0, 0), (15, .ifCond .ge 5, 3, 0, 0, 0)], 18),
  (18, [(18, .iconst (-1), 1, 0, 0, 0), (19, .ireturn, 1, 0, 0, 0)], 20),
  (20, [(20, .aload_n 0, 1, 0, 0, 0), (21, .iload_n 1, 1, 0, 0, 0), (22, .invokevirtual 82, 3, 101, 0, 701), (25, .ifCond .ge 6, 3, 0, 0, 0), (28, .bipush (-2), 2, 0, 0, 0), (30, .ireturn, 1, 0, 0, 0)], 31),
  (31, [(31, .aload_n 0, 1, 0, 0, 0), (32, .iload_n 1, 1, 0, 0, 0), (33, .invokevirtual 85, 3, 100, 0, 709), (36, .iconst 0, 1, 0, 0, 0), (37, .istore_n 3, 1, 0, 0, 0), (38, .iconst 0, 1, 0, 0, 0), (39, .istore 4, 2, 0, 0, 0)], 41),
  (41, [(41, .iload 4, 2, 0, 0, 0), (43, .iload_n 1, 1, 0, 0, 0), (44, .invokestatic 60, 3, 91, 0, 679), (47, .if_icmp .ge 28, 3, 0, 0, 0), (50, .iload_n 3, 1, 0, 0, 0), (51, .aload_n 0, 1, 0, 0, 0), (52, .getfield 19, 3, 7, 5, 613), (55, .iload 4, 2, 0, 0, 0), (57, .iaload, 1, 0, 0, 0), (58, .iload_n 2, 1, 0, 0, 0), (59, .if_icmp .ne 7, 3, 0, 0, 0), (62, .iconst 1, 1, 0, 0, 0), (63, .goto 4, 3, 0, 0, 0)], 66),
  (66, [(66, .iconst 0, 1, 0, 0, 0)], 67),
  (67, [(67, .iadd, 1, 0, 0, 0), (68, .istore_n 3, 1, 0, 0, 0), (69, .iinc 4 1, 3, 0, 0, 0), (72, .goto (-31), 3, 0, 0, 0)], 75),
  (75, [(75, .iload_n 3, 1, 0, 0, 0), (76, .ireturn, 1, 0, 0, 0)], 77)]
/-- 108: FewSignsModel.isSet(I)Z -/
def zc_108 : List (Nat × List zE × Nat) := [(0, [(0, .iload_n 1, 1, 0, 0, 0), (1, .iconst 0, 1, 0, 0, 0), (2, .iconst 1, 1, 0, 0, 0), (3, .aload_n 0, 1, 0, 0, 0), (4, .getfield 64, 3, 7, 1, 609), (7, .ishl, 1, 0, 0, 0), (8, .iconst 1, 1, 0, 0, 0), (9, .isub, 1, 0, 0, 0), (10, .invokestatic 56, 3, 89, 0, 676), (13, .ireturn, 1, 0, 0, 0)], 14)]
/-- 109: FewSignsModel.lacksOf(I)I -/
def zc_109 : List (Nat × List zE × Nat) := [(0, [(0, .bipush 31, 2, 0, 0, 0), (2, .istore_n 2, 1, 0, 0, 0), (3, .iconst 0, 1, 0, 0, 0), (4, .istore_n 3, 1, 0, 0, 0)], 5),
  (5, [(5, .iload_n 3, 1, 0, 0, 0), (6, .aload_n 0, 1, 0, 0, 0), (7, .getfield 64, 3, 7, 1, 609), (10, .if_icmp .ge 41, 3, 0, 0, 0), (13, .iload_n 2, 1, 0, 0, 0), (14, .iload_n 1, 1, 0, 0, 0), (15, .iload_n 3, 1, 0, 0, 0), (16, .ishr, 1, 0, 0, 0), (17, .iconst 1, 1, 0, 0, 0), (18, .iand, 1, 0, 0, 0), (19, .iconst 1, 1, 0, 0, 0), (20, .if_icmp .ne 21, 3, 0, 0, 0), (23, .aload_n 0, 1, 0, 0, 0), (24, .getfield 7, 3, 7, 2, 610), (27, .iload_n 3, 1, 0, 0, 0), (28, .iaload, 1, 0, 0, 0), (29, .aload_n 0, 1, 0, 0, 0), (30, .getfield 13, 3, 7, 3, 611), (33, .iload_n 3, 1, 0, 0, 0), (34, .iaload, 1, 0, 0, 0), (35, .invokestatic 67, 3, 94, 0, 690), (38, .goto 5, 3, 0, 0, 0)], 41),
  (41, [(41, .bipush 31, 2, 0, 0, 0)], 43),
  (43, [(43, .iand, 1, 0, 0, 0), (44, .istore_n 2, 1, 0, 0, 0), (45, .iinc 3 1, 3, 0, 0, 0), (48, .goto (-43), 3, 0, 0, 0)], 51),
  (51, [(51, .iload_n 2, 1, 0, 0, 0), (52, .ireturn, 1, 0, 0, 0)], 53)]
/-- 110: FewSignsModel.says(I)I -/
def zc_110 : List (Nat × List zE × Nat) := [(0, [(0, .aload_n 0, 1, 0, 0, 0), (1, .iconst 0, 1, 0, 0, 0), (2, .putfield 52, 3, 7, 0, 608), (5, .aload_n 0, 1, 0, 0, 0), (6, .iload_n 1, 1, 0, 0, 0), (7, .invokevirtual 101, 3, 108, 0, 744), (10, .ifCond .ne 7, 3, 0, 0, 0), (13, .iconst (-1), 1, 0, 0, 0), (14, .goto 16, 3, 0, 0, 0)], 17),
  (17, [(17, .aload_n 0, 1, 0, 0, 0), (18, .iload_n 1, 1, 0, 0, 0), (19, .invokevirtual 105, 3, 109, 0, 748), (22, .ifCond .ne 7, 3, 0, 0, 0), (25, .iconst 1, 1, 0, 0, 0), (26, .goto 4, 3, 0, 0, 0)], 29),
  (29, [(29, .iconst 0, 1, 0, 0, 0)], 30),
  (30, [(30, .ireturn, 1, 0, 0, 0)], 31)]
/-- 111: FewSignsModel.lacks(I)I -/
def zc_111 : List (Nat × List zE × Nat) := [(0, [(0, .aload_n 0, 1, 0, 0, 0), (1, .iconst 0, 1, 0, 0, 0), (2, .putfield 52, 3, 7, 0, 608), (5, .aload_n 0, 1, 0, 0, 0), (6, .iload_n 1, 1, 0, 0, 0), (7, .invokevirtual 101, 3, 108, 0, 744), (10, .ifCond .eq 11, 3, 0, 0, 0), (13, .aload_n 0, 1, 0, 0, 0), (14, .iload_n 1, 1, 0, 0, 0), (15, .invokevirtual 105, 3, 109, 0, 748), (18, .goto 4, 3, 0, 0, 0)], 21),
  (21, [(21, .iconst (-1), 1, 0, 0, 0)], 22),
  (22, [(22, .ireturn, 1, 0, 0, 0)], 23)]
/-- 112: FewSignsModel.isLeastSet(I)Z -/
def zc_112 : List (Nat × List zE × Nat) := [(0, [(0, .aload_n 0, 1, 0, 0, 0), (1, .iload_n 1, 1, 0, 0, 0), (2, .invokevirtual 105, 3, 109, 0, 748), (5, .ifCond .ne 7, 3, 0, 0, 0), (8, .iconst 1, 1, 0, 0, 0), (9, .goto 4, 3, 0, 0, 0)], 12),
  (12, [(12, .iconst 0, 1, 0, 0, 0)], 13),
  (13, [(13, .istore_n 2, 1, 0, 0, 0), (14, .iconst 0, 1, 0, 0, 0), (15, .istore_n 3, 1, 0, 0, 0)], 16),
  (16, [(16, .iload_n 3, 1, 0, 0, 0), (17, .aload_n 0, 1, 0, 0, 0), (18, .getfield 64, 3, 7, 1, 609), (21, .if_icmp .ge 41, 3, 0, 0, 0), (24, .iload_n 2, 1, 0, 0, 0), (25, .ifCond .eq 37, 3, 0, 0, 0), (28, .iload_n 1, 1, 0, 0, 0), (29, .iload_n 3, 1, 0, 0, 0), (30, .ishr, 1, 0, 0, 0), (31, .iconst 1, 1, 0, 0, 0), (32, .iand, 1, 0, 0, 0), (33, .ifCond .eq 17, 3, 0, 0, 0), (36, .aload_n 0, 1, 0, 0, 0), (37, .iload_n 1, 1, 0, 0, 0), (38, .iconst 1, 1, 0, 0, 0), (39, .iload_n 3, 1, 0, 0, 0), (40, .ishl, 1, 0, 0, 0), (41, .iconst (-1), 1, 0, 0, 0), (42, .ixor, 1, 0, 0, 0), (43, .iand, 1, 0, 0, 0), (44, .invokevirtual 105, 3, 109, 0, 748), (47, .ifCond .eq 7, 3, 0, 0, 0)], 50),
  (50, [(50, .iconst 1, 1, 0, 0, 0), (51, .goto 4, 3, 0, 0, 0)], 54),
  (54, [(54, .iconst 0, 1, 0, 0, 0)], 55),
  (55, [(55, .istore_n 2, 1, 0, 0, 0), (56, .iinc 3 1, 3, 0, 0, 0), (59, .goto (-43), 3, 0, 0, 0)], 62),
  (62, [(62, .iload_n 2, 1, 0, 0, 0), (63, .ireturn, 1, 0, 0, 0)], 64)]
/-- 113: FewSignsModel.sets(I)I -/
def zc_113 : List (Nat × List zE × Nat) := [(0, [(0, .aload_n 0, 1, 0, 0, 0), (1, .iconst 0, 1, 0, 0, 0), (2, .putfield 52, 3, 7, 0, 608), (5, .iload_n 1, 1, 0, 0, 0), (6, .iconst (-1), 1, 0, 0, 0), (7, .if_icmp .ge 5, 3, 0, 0, 0), (10, .iconst (-1), 1, 0, 0, 0), (11, .ireturn, 1, 0, 0, 0)], 12),
  (12, [(12, .iconst 0, 1, 0, 0, 0), (13, .istore_n 2, 1, 0, 0, 0), (14, .iconst 0, 1, 0, 0, 0), (15, .istore_n 3, 1, 0, 0, 0)], 16),
  (16, [(16, .iload_n 3, 1, 0, 0, 0), (17, .iconst 1, 1, 0, 0, 0), (18, .aload_n 0, 1, 0, 0, 0), (19, .getfield 64, 3, 7, 1, 609), (22, .ishl, 1, 0, 0, 0), (23, .if_icmp .ge 27, 3, 0, 0, 0), (26, .aload_n 0, 1, 0, 0, 0), (27, .iload_n 3, 1, 0, 0, 0), (28, .invokevirtual 108, 3, 112, 0, 760), (31, .ifCond .eq 13, 3, 0, 0, 0), (34, .iload_n 2, 1, 0, 0, 0), (35, .iload_n 1, 1, 0, 0, 0), (36, .if_icmp .ne 5, 3, 0, 0, 0), (39, .iload_n 3, 1, 0, 0, 0), (40, .ireturn, 1, 0, 0, 0)], 41),
  (41, [(41, .iinc 2 1, 3, 0, 0, 0)], 44),
  (44, [(44, .iinc 3 1, 3, 0, 0, 0), (47, .goto (-31), 3, 0, 0, 0)], 50),
  (50, [(50, .iload_n 1, 1, 0, 0, 0), (51, .ifCond .ge 7, 3, 0, 0, 0), (54, .iload_n 2, 1, 0, 0, 0), (55, .goto 5, 3, 0, 0, 0)], 58),
  (58, [(58, .bipush (-9), 2, 0, 0, 0)], 60),
  (60, [(60, .ireturn, 1, 0, 0, 0)], 61)]
/-- 114: FewSignsModel.alone(I)I -/
def zc_114 : List (Nat × List zE × Nat) := [(0, [(0, .aload_n 0, 1, 0, 0, 0), (1, .iconst 0, 1, 0, 0, 0), (2, .putfield 52, 3, 7, 0, 608), (5, .iload_n 1, 1, 0, 0, 0), (6, .iconst (-1), 1, 0, 0, 0), (7, .if_icmp .ge 5, 3, 0, 0, 0), (10, .iconst (-1), 1, 0, 0, 0), (11, .ireturn, 1, 0, 0, 0)], 12),
  (12, [(12, .iconst 0, 1, 0, 0, 0), (13, .istore_n 2, 1, 0, 0, 0), (14, .iconst 0, 1, 0, 0, 0), (15, .istore_n 3, 1, 0, 0, 0)], 16),
  (16, [(16, .iload_n 3, 1, 0, 0, 0), (17, .bipush 16, 2, 0, 0, 0), (19, .if_icmp .ge 27, 3, 0, 0, 0), (22, .iconst 2, 1, 0, 0, 0), (23, .iload_n 3, 1, 0, 0, 0), (24, .invokestatic 67, 3, 94, 0, 690), (27, .ifCond .ne 13, 3, 0, 0, 0), (30, .iload_n 2, 1, 0, 0, 0), (31, .iload_n 1, 1, 0, 0, 0), (32, .if_icmp .ne 5, 3, 0, 0, 0), (35, .iload_n 3, 1, 0, 0, 0), (36, .ireturn, 1, 0, 0, 0)], 37),
  (37, [(37, .iinc 2 1, 3, 0, 0, 0)], 40),
  (40, [(40, .iinc 3 1, 3, 0, 0, 0), (43, .goto (-27), 3, 0, 0, 0)], 46),
  (46, [(46, .iload_n 1, 1, 0, 0, 0), (47, .ifCond .ge 7, 3, 0, 0, 0), (50, .iload_n 2, 1, 0, 0, 0), (51, .goto 5, 3, 0, 0, 0)], 54),
  (54, [(54, .bipush (-9), 2, 0, 0, 0)], 56),
  (56, [(56, .ireturn, 1, 0, 0, 0)], 57)]
/-- 115: FewSignsModel.isRelation(II)Z -/
def zc_115 : List (Nat × List zE × Nat) := [(0, [(0, .iload_n 0, 1, 0, 0, 0), (1, .iconst 1, 1, 0, 0, 0), (2, .iconst 3, 1, 0, 0, 0), (3, .invokestatic 56, 3, 89, 0, 676), (6, .ifCond .eq 21, 3, 0, 0, 0), (9, .iload_n 1, 1, 0, 0, 0), (10, .iconst 0, 1, 0, 0, 0), (11, .iload_n 0, 1, 0, 0, 0), (12, .invokestatic 60, 3, 91, 0, 679), (15, .iconst 1, 1, 0, 0, 0), (16, .isub, 1, 0, 0, 0), (17, .invokestatic 56, 3, 89, 0, 676), (20, .ifCond .eq 7, 3, 0, 0, 0), (23, .iconst 1, 1, 0, 0, 0), (24, .goto 4, 3, 0, 0, 0)], 27),
  (27, [(27, .iconst 0, 1, 0, 0, 0)], 28),
  (28, [(28, .ireturn, 1, 0, 0, 0)], 29)]
/-- 116: FewSignsModel.told(IIIII)I -/
def zc_116 : List (Nat × List zE × Nat) := [(0, [(0, .iconst 0, 1, 0, 0, 0), (1, .istore 5, 2, 0, 0, 0), (3, .iconst 0, 1, 0, 0, 0), (4, .istore 6, 2, 0, 0, 0)], 6),
  (6, [(6, .iload 6, 2, 0, 0, 0), (8, .iload_n 1, 1, 0, 0, 0), (9, .if_icmp .ge 50, 3, 0, 0, 0), (12, .iload_n 2, 1, 0, 0, 0), (13, .iload 6, 2, 0, 0, 0), (15, .ishr, 1, 0, 0, 0), (16, .iconst 1, 1, 0, 0, 0), (17, .iand, 1, 0, 0, 0), (18, .iconst 2, 1, 0, 0, 0), (19, .iload_n 3, 1, 0, 0, 0), (20, .iload 6, 2, 0, 0, 0), (22, .ishr, 1, 0, 0, 0), (23, .iconst 1, 1, 0, 0, 0), (24, .iand, 1, 0, 0, 0), (25, .imul, 1, 0, 0, 0), (26, .iadd, 1, 0, 0, 0), (27, .iconst 4, 1, 0, 0, 0), (28, .iload 4, 2, 0, 0, 0), (30, .iload 6, 2, 0, 0, 0), (32, .ishr, 1, 0, 0, 0), (33, .iconst 1, 1, 0, 0, 0), (34, .iand, 1, 0, 0, 0), (35, .imul, 1, 0, 0, 0), (36, .iadd, 1, 0, 0, 0), (37, .istore 7, 2, 0, 0, 0), (39, .iload 5, 2, 0, 0, 0), (41, .iload_n 0, 1, 0, 0, 0), (42, .iload 7, 2, 0, 0, 0), (44, .ishr, 1, 0, 0, 0), (45, .iconst 1, 1, 0, 0, 0), (46, .iand, 1, 0, 0, 0), (47, .iload 6, 2, 0, 0, 0), (49, .ishl, 1, 0, 0, 0), (50, .ior, 1, 0, 0, 0), (51, .istore 5, 2, 0, 0, 0), (53, .iinc 6 1, 3, 0, 0, 0), (56, .goto (-50), 3, 0, 0, 0)], 59),
  (59, [(59, .iload 5, 2, 0, 0, 0), (61, .ireturn, 1, 0, 0, 0)], 62)]
/-- 117: FewSignsModel.makes(IIII)I -/
def zc_117 : List (Nat × List zE × Nat) := [(0, [(0, .iconst 0, 1, 0, 0, 0), (1, .istore 4, 2, 0, 0, 0), (3, .iconst 1, 1, 0, 0, 0), (4, .iload_n 2, 1, 0, 0, 0), (5, .ishl, 1, 0, 0, 0), (6, .istore 5, 2, 0, 0, 0), (8, .iconst 0, 1, 0, 0, 0), (9, .istore 6, 2, 0, 0, 0)], 11),
  (11, [(11, .iload 6, 2, 0, 0, 0), (13, .iload_n 0, 1, 0, 0, 0), (14, .ifCond .le 8, 3, 0, 0, 0), (17, .iload 5, 2, 0, 0, 0), (19, .goto 4, 3, 0, 0, 0)], 22),
  (22, [(22, .iconst 1, 1, 0, 0, 0)], 23),
  (23, [(23, .if_icmp .ge 138, 3, 0, 0, 0), (26, .iconst 0, 1, 0, 0, 0), (27, .istore 7, 2, 0, 0, 0)], 29),
  (29, [(29, .iload 7, 2, 0, 0, 0), (31, .iload_n 0, 1, 0, 0, 0), (32, .iconst 1, 1, 0, 0, 0), (33, .if_icmp .le 8, 3, 0, 0, 0), (36, .iload 5, 2, 0, 0, 0), (38, .goto 4, 3, 0, 0, 0)], 41),
  (41, [(41, .iconst 1, 1, 0, 0, 0)], 42),
  (42, [(42, .if_icmp .ge 113, 3, 0, 0, 0), (45, .iconst 0, 1, 0, 0, 0), (46, .istore 8, 2, 0, 0, 0)], 48),
  (48, [(48, .iload 8, 2, 0, 0, 0), (50, .iload_n 0, 1, 0, 0, 0), (51, .iconst 2, 1, 0, 0, 0), (52, .if_icmp .le 8, 3, 0, 0, 0), (55, .iload 5, 2, 0, 0, 0), (57, .goto 4, 3, 0, 0, 0)], 60),
  (60, [(60, .iconst 1, 1, 0, 0, 0)], 61),
  (61, [(61, .if_icmp .ge 88, 3, 0, 0, 0), (64, .iload_n 0, 1, 0, 0, 0), (65, .iconst 1, 1, 0, 0, 0), (66, .if_icmp .lt 13, 3, 0, 0, 0), (69, .iload_n 3, 1, 0, 0, 0), (70, .iload 6, 2, 0, 0, 0), (72, .ishr, 1, 0, 0, 0), (73, .iconst 1, 1, 0, 0, 0), (74, .iand, 1, 0, 0, 0), (75, .iconst 1, 1, 0, 0, 0), (76, .if_icmp .ne 37, 3, 0, 0, 0)], 79),
  (79, [(79, .iload_n 0, 1, 0, 0, 0), (80, .iconst 2, 1, 0, 0, 0), (81, .if_icmp .lt 13, 3, 0, 0, 0), (84, .iload_n 3, 1, 0, 0, 0), (85, .iload 7, 2, 0, 0, 0), (87, .ishr, 1, 0, 0, 0), (88, .iconst 1, 1, 0, 0, 0), (89, .iand, 1, 0, 0, 0), (90, .iconst 1, 1, 0, 0, 0), (91, .if_icmp .ne 22, 3, 0, 0, 0)], 94),
  (94, [(94, .iload_n 0, 1, 0, 0, 0), (95, .iconst 3, 1, 0, 0, 0), (96, .if_icmp .lt 13, 3, 0, 0, 0), (99, .iload_n 3, 1, 0, 0, 0), (100, .iload 8, 2, 0, 0, 0), (102, .ishr, 1, 0, 0, 0), (103, .iconst 1, 1, 0, 0, 0), (104, .iand, 1, 0, 0, 0), (105, .iconst 1, 1, 0, 0, 0), (106, .if_icmp .ne 7, 3, 0, 0, 0)], 109),
  (109, [(109, .iconst 1, 1, 0, 0, 0), (110, .goto 4, 3, 0, 0, 0)], 113),
  (113, [(113, .iconst 0, 1, 0, 0, 0)], 114),
  (114, [(114, .istore 9, 2, 0, 0, 0), (116, .iload 4, 2, 0, 0, 0), (118, .iload 9, 2, 0, 0, 0), (120, .ifCond .eq 19, 3, 0, 0, 0), (123, .iconst 1, 1, 0, 0, 0), (124, .iload_n 1, 1, 0, 0, 0), (125, .iload_n 2, 1, 0, 0, 0), (126, .iload 6, 2, 0, 0, 0), (128, .iload 7, 2, 0, 0, 0), (130, .iload 8, 2, 0, 0, 0), (132, .invokestatic 111, 3, 116, 0, 782), (135, .ishl, 1, 0, 0, 0), (136, .goto 4, 3, 0, 0, 0)], 139),
  (139, [(139, .iconst 0, 1, 0, 0, 0)], 140),
  (140, [(140, .ior, 1, 0, 0, 0), (141, .istore 4, 2, 0, 0, 0), (143, .iinc 8 1, 3, 0, 0, 0), (146, .goto (-98), 3, 0, 0, 0)], 149),
  (149, [(149, .iinc 7 1, 3, 0, 0, 0), (152, .goto (-123), 3, 0, 0, 0)], 155),
  (155, [(155, .iinc 6 1, 3, 0, 0, 0), (158, .goto (-147), 3, 0, 0, 0)], 161),
  (161, [(161, .iload 4, 2, 0, 0, 0), (163, .ireturn, 1, 0, 0, 0)], 164)]
/-- 118: FewSignsModel.isLet(III)Z -/
def zc_118 : List (Nat × List zE × Nat) := [(0, [(0, .aload_n 0, 1, 0, 0, 0), (1, .getfield 7, 3, 7, 2, 610), (4, .iload_n 1, 1, 0, 0, 0), (5, .iaload, 1, 0, 0, 0), (6, .aload_n 0, 1, 0, 0, 0), (7, .getfield 13, 3, 7, 3, 611), (10, .iload_n 1, 1, 0, 0, 0), (11, .iaload, 1, 0, 0, 0), (12, .iload_n 2, 1, 0, 0, 0), (13, .iload_n 3, 1, 0, 0, 0), (14, .invokestatic 114, 3, 117, 0, 779), (17, .iload_n 3, 1, 0, 0, 0), (18, .iconst (-1), 1, 0, 0, 0), (19, .ixor, 1, 0, 0, 0), (20, .iand, 1, 0, 0, 0), (21, .ifCond .ne 7, 3, 0, 0, 0), (24, .iconst 1, 1, 0, 0, 0), (25, .goto 4, 3, 0, 0, 0)], 28),
  (28, [(28, .iconst 0, 1, 0, 0, 0)], 29),
  (29, [(29, .ireturn, 1, 0, 0, 0)], 30)]
/-- 119: FewSignsModel.lets(III)I -/
def zc_119 : List (Nat × List zE × Nat) := [(0, [(0, .aload_n 0, 1, 0, 0, 0), (1, .iconst 0, 1, 0, 0, 0), (2, .putfield 52, 3, 7, 0, 608), (5, .iload_n 1, 1, 0, 0, 0), (6, .iconst 0, 1, 0, 0, 0), (7, .aload_n 0, 1, 0, 0, 0), (8, .getfield 64, 3, 7, 1, 609), (11, .iconst 1, 1, 0, 0, 0), (12, .isub, 1, 0, 0, 0), (13, .invokestatic 56, 3, 89, 0, 676), (16, .ifCond .eq 11, 3, 0, 0, 0), (19, .iload_n 2, 1, 0, 0, 0), (20, .iload_n 3, 1, 0, 0, 0), (21, .invokestatic 118, 3, 115, 0, 772), (24, .ifCond .ne 7, 3, 0, 0, 0)], 27),
  (27, [(27, .iconst (-1), 1, 0, 0, 0), (28, .goto 18, 3, 0, 0, 0)], 31),
  (31, [(31, .aload_n 0, 1, 0, 0, 0), (32, .iload_n 1, 1, 0, 0, 0), (33, .iload_n 2, 1, 0, 0, 0), (34, .iload_n 3, 1, 0, 0, 0), (35, .invokevirtual 122, 3, 118, 0, 775), (38, .ifCond .eq 7, 3, 0, 0, 0), (41, .iconst 1, 1, 0, 0, 0), (42, .goto 4, 3, 0, 0, 0)], 45),
  (45, [(45, .iconst 0, 1, 0, 0, 0)], 46),
  (46, [(46, .ireturn, 1, 0, 0, 0)], 47)]
/-- 120: FewSignsModel.lettingOf(II)I -/
def zc_120 : List (Nat × List zE × Nat) := [(0, [(0, .iconst 0, 1, 0, 0, 0), (1, .istore_n 3, 1, 0, 0, 0), (2, .iconst 0, 1, 0, 0, 0), (3, .istore 4, 2, 0, 0, 0)], 5),
  (5, [(5, .iload 4, 2, 0, 0, 0), (7, .aload_n 0, 1, 0, 0, 0), (8, .getfield 64, 3, 7, 1, 609), (11, .if_icmp .ge 31, 3, 0, 0, 0), (14, .iload_n 3, 1, 0, 0, 0), (15, .aload_n 0, 1, 0, 0, 0), (16, .iload 4, 2, 0, 0, 0), (18, .iload_n 1, 1, 0, 0, 0), (19, .iload_n 2, 1, 0, 0, 0), (20, .invokevirtual 122, 3, 118, 0, 775), (23, .ifCond .eq 10, 3, 0, 0, 0), (26, .iconst 1, 1, 0, 0, 0), (27, .iload 4, 2, 0, 0, 0), (29, .ishl, 1, 0, 0, 0), (30, .goto 4, 3, 0, 0, 0)], 33),
  (33, [(33, .iconst 0, 1, 0, 0, 0)], 34),
  (34, [(34, .ior, 1, 0, 0, 0), (35, .istore_n 3, 1, 0, 0, 0), (36, .iinc 4 1, 3, 0, 0, 0), (39, .goto (-34), 3, 0, 0, 0)], 42),
  (42, [(42, .iload_n 3, 1, 0, 0, 0), (43, .ireturn, 1, 0, 0, 0)], 44)]
/-- 121: FewSignsModel.letting(II)I -/
def zc_121 : List (Nat × List zE × Nat) := [(0, [(0, .aload_n 0, 1, 0, 0, 0), (1, .iconst 0, 1, 0, 0, 0), (2, .putfield 52, 3, 7, 0, 608), (5, .iload_n 1, 1, 0, 0, 0), (6, .iload_n 2, 1, 0, 0, 0), (7, .invokestatic 118, 3, 115, 0, 772), (10, .ifCond .eq 12, 3, 0, 0, 0), (13, .aload_n 0, 1, 0, 0, 0), (14, .iload_n 1, 1, 0, 0, 0), (15, .iload_n 2, 1, 0, 0, 0), (16, .invokevirtual 125, 3, 120, 0, 789), (19, .goto 4, 3, 0, 0, 0)], 22),
  (22, [(22, .iconst (-1), 1, 0, 0, 0)], 23),
  (23, [(23, .ireturn, 1, 0, 0, 0)], 24)]
/-- 122: FewSignsModel.around(II)I -/
def zc_122 : List (Nat × List zE × Nat) := [(0, [(0, .aload_n 0, 1, 0, 0, 0), (1, .iconst 0, 1, 0, 0, 0), (2, .putfield 52, 3, 7, 0, 608), (5, .iload_n 1, 1, 0, 0, 0), (6, .iload_n 2, 1, 0, 0, 0), (7, .invokestatic 118, 3, 115, 0, 772), (10, .ifCond .ne 5, 3, 0, 0, 0), (13, .iconst (-1), 1, 0, 0, 0), (14, .ireturn, 1, 0, 0, 0)], 15),
  (15, [(15, .iload_n 2, 1, 0, 0, 0), (16, .istore_n 3, 1, 0, 0, 0), (17, .iconst (-1), 1, 0, 0, 0), (18, .istore 4, 2, 0, 0, 0)], 20),
  (20, [(20, .iload_n 3, 1, 0, 0, 0), (21, .iload 4, 2, 0, 0, 0), (23, .if_icmp .eq 49, 3, 0, 0, 0), (26, .iload_n 3, 1, 0, 0, 0), (27, .istore 4, 2, 0, 0, 0), (29, .iconst 0, 1, 0, 0, 0), (30, .istore 5, 2, 0, 0, 0)], 32),
  (32, [(32, .iload 5, 2, 0, 0, 0), (34, .aload_n 0, 1, 0, 0, 0), (35, .getfield 64, 3, 7, 1, 609), (38, .if_icmp .ge 31, 3, 0, 0, 0), (41, .iload_n 3, 1, 0, 0, 0), (42, .aload_n 0, 1, 0, 0, 0), (43, .getfield 7, 3, 7, 2, 610), (46, .iload 5, 2, 0, 0, 0), (48, .iaload, 1, 0, 0, 0), (49, .aload_n 0, 1, 0, 0, 0), (50, .getfield 13, 3, 7, 3, 611), (53, .iload 5, 2, 0, 0, 0), (55, .iaload, 1, 0, 0, 0), (56, .iload_n 1, 1, 0, 0, 0), (57, .iload_n 3, 1, 0, 0, 0), (58, .invokestatic 114, 3, 117, 0, 779), (61, .ior, 1, 0, 0, 0), (62, .istore_n 3, 1, 0, 0, 0), (63, .iinc 5 1, 3, 0, 0, 0), (66, .goto (-34), 3, 0, 0, 0)], 69),
  (69, [(69, .goto (-49), 3, 0, 0, 0)], 72),
  (72, [(72, .iload_n 3, 1, 0, 0, 0), (73, .ireturn, 1, 0, 0, 0)], 74)]
/-- 123: FewSignsModel.sorts(II)I -/
def zc_123 : List (Nat × List zE × Nat) := [(0, [(0, .aload_n 0, 1, 0, 0, 0), (1, .iconst 0, 1, 0, 0, 0), (2, .putfield 52, 3, 7, 0, 608), (5, .iload_n 1, 1, 0, 0, 0), (6, .iload_n 2, 1, 0, 0, 0), (7, .invokestatic 118, 3, 115, 0, 772), (10, .ifCond .ne 5, 3, 0, 0, 0), (13, .iconst (-1), 1, 0, 0, 0), (14, .ireturn, 1, 0, 0, 0)], 15),
  (15, [(15, .iload_n 2, 1, 0, 0, 0), (16, .iconst 1, 1, 0, 0, 0), (17, .iand, 1, 0, 0, 0), (18, .iload_n 2, 1, 0, 0, 0), (19, .iconst 1, 1, 0, 0, 0), (20, .iload_n 1, 1, 0, 0, 0), (21, .ishl, 1, 0, 0, 0), (22, .iconst 1, 1, 0, 0, 0), (23, .isub, 1, 0, 0, 0), (24, .ishr, 1, 0, 0, 0), (25, .iconst 1, 1, 0, 0, 0), (26, .iand, 1, 0, 0, 0), (27, .iconst 1, 1, 0, 0, 0), (28, .if_icmp .ne 7, 3, 0, 0, 0), (31, .iconst 2, 1, 0, 0, 0), (32, .goto 4, 3, 0, 0, 0)], 35),
  (35, [(35, .iconst 0, 1, 0, 0, 0)], 36),
  (36, [(36, .iadd, 1, 0, 0, 0), (37, .istore_n 3, 1, 0, 0, 0), (38, .iload_n 3, 1, 0, 0, 0), (39, .iconst 2, 1, 0, 0, 0), (40, .bipush 8, 2, 0, 0, 0), (42, .iload_n 1, 1, 0, 0, 0), (43, .iload_n 2, 1, 0, 0, 0), (44, .invokestatic 114, 3, 117, 0, 779), (47, .iload_n 2, 1, 0, 0, 0), (48, .iconst (-1), 1, 0, 0, 0), (49, .ixor, 1, 0, 0, 0), (50, .iand, 1, 0, 0, 0), (51, .ifCond .ne 7, 3, 0, 0, 0), (54, .iconst 4, 1, 0, 0, 0), (55, .goto 4, 3, 0, 0, 0)], 58),
  (58, [(58, .iconst 0, 1, 0, 0, 0)], 59),
  (59, [(59, .iadd, 1, 0, 0, 0), (60, .istore_n 3, 1, 0, 0, 0), (61, .iload_n 3, 1, 0, 0, 0), (62, .iconst 2, 1, 0, 0, 0), (63, .bipush 14, 2, 0, 0, 0), (65, .iload_n 1, 1, 0, 0, 0), (66, .iload_n 2, 1, 0, 0, 0), (67, .invokestatic 114, 3, 117, 0, 779), (70, .iload_n 2, 1, 0, 0, 0), (71, .iconst (-1), 1, 0, 0, 0), (72, .ixor, 1, 0, 0, 0), (73, .iand, 1, 0, 0, 0), (74, .ifCond .ne 8, 3, 0, 0, 0), (77, .bipush 8, 2, 0, 0, 0), (79, .goto 4, 3, 0, 0, 0)], 82),
  (82, [(82, .iconst 0, 1, 0, 0, 0)], 83),
  (83, [(83, .iadd, 1, 0, 0, 0), (84, .istore_n 3, 1, 0, 0, 0), (85, .iload_n 3, 1, 0, 0, 0), (86, .iconst 3, 1, 0, 0, 0), (87, .sipush 150, 3, 0, 0, 0), (90, .iload_n 1, 1, 0, 0, 0), (91, .iload_n 2, 1, 0, 0, 0), (92, .invokestatic 114, 3, 117, 0, 779), (95, .iload_n 2, 1, 0, 0, 0), (96, .iconst (-1), 1, 0, 0, 0), (97, .ixor, 1, 0, 0, 0), (98, .iand, 1, 0, 0, 0), (99, .ifCond .ne 8, 3, 0, 0, 0), (102, .bipush 16, 2, 0, 0, 0), (104, .goto 4, 3, 0, 0, 0)], 107),
  (107, [(107, .iconst 0, 1, 0, 0, 0)], 108),
  (108, [(108, .iadd, 1, 0, 0, 0), (109, .istore_n 3, 1, 0, 0, 0), (110, .iload_n 3, 1, 0, 0, 0), (111, .iconst 3, 1, 0, 0, 0), (112, .sipush 232, 3, 0, 0, 0), (115, .iload_n 1, 1, 0, 0, 0), (116, .iload_n 2, 1, 0, 0, 0), (117, .invokestatic 114, 3, 117, 0, 779), (120, .iload_n 2, 1, 0, 0, 0), (121, .iconst (-1), 1, 0, 0, 0), (122, .ixor, 1, 0, 0, 0), (123, .iand, 1, 0, 0, 0), (124, .ifCond .ne 8, 3, 0, 0, 0), (127, .bipush 32, 2, 0, 0, 0), (129, .goto 4, 3, 0, 0, 0)], 132),
  (132, [(132, .iconst 0, 1, 0, 0, 0)], 133),
  (133, [(133, .iadd, 1, 0, 0, 0), (134, .istore_n 3, 1, 0, 0, 0), (135, .iload_n 3, 1, 0, 0, 0), (136, .ireturn, 1, 0, 0, 0)], 137)]
/-- 124: FewSignsModel.kept(I)I -/
def zc_124 : List (Nat × List zE × Nat) := [(0, [(0, .aload_n 0, 1, 0, 0, 0), (1, .iconst 0, 1, 0, 0, 0), (2, .putfield 52, 3, 7, 0, 608), (5, .iload_n 1, 1, 0, 0, 0), (6, .iconst 1, 1, 0, 0, 0), (7, .iconst 3, 1, 0, 0, 0), (8, .invokestatic 56, 3, 89, 0, 676), (11, .ifCond .ne 5, 3, 0, 0, 0), (14, .iconst (-1), 1, 0, 0, 0), (15, .ireturn, 1, 0, 0, 0)], 16),
  (16, [(16, .iconst 0, 1, 0, 0, 0), (17, .istore_n 2, 1, 0, 0, 0), (18, .iconst 0, 1, 0, 0, 0), (19, .istore_n 3, 1, 0, 0, 0)], 20),
  (20, [(20, .iload_n 3, 1, 0, 0, 0), (21, .iload_n 1, 1, 0, 0, 0), (22, .invokestatic 60, 3, 91, 0, 679), (25, .if_icmp .ge 34, 3, 0, 0, 0), (28, .iload_n 2, 1, 0, 0, 0), (29, .aload_n 0, 1, 0, 0, 0), (30, .iload_n 1, 1, 0, 0, 0), (31, .iload_n 3, 1, 0, 0, 0), (32, .invokevirtual 125, 3, 120, 0, 789), (35, .iconst 1, 1, 0, 0, 0), (36, .aload_n 0, 1, 0, 0, 0), (37, .getfield 64, 3, 7, 1, 609), (40, .ishl, 1, 0, 0, 0), (41, .iconst 1, 1, 0, 0, 0), (42, .isub, 1, 0, 0, 0), (43, .if_icmp .ne 7, 3, 0, 0, 0), (46, .iconst 1, 1, 0, 0, 0), (47, .goto 4, 3, 0, 0, 0)], 50),
  (50, [(50, .iconst 0, 1, 0, 0, 0)], 51),
  (51, [(51, .iadd, 1, 0, 0, 0), (52, .istore_n 2, 1, 0, 0, 0), (53, .iinc 3 1, 3, 0, 0, 0), (56, .goto (-36), 3, 0, 0, 0)], 59),
  (59, [(59, .iload_n 2, 1, 0, 0, 0), (60, .ireturn, 1, 0, 0, 0)], 61)]
/-- 125: FewSignsModel.type(JI)I -/
def zc_125 : List (Nat × List zE × Nat) := [(0, [(0, .aload_n 0, 1, 0, 0, 0), (1, .iconst 0, 1, 0, 0, 0), (2, .putfield 52, 3, 7, 0, 608), (5, .iload_n 3, 1, 0, 0, 0), (6, .iconst 1, 1, 0, 0, 0), (7, .bipush 8, 2, 0, 0, 0), (9, .invokestatic 56, 3, 89, 0, 676), (12, .ifCond .ne 5, 3, 0, 0, 0), (15, .iconst (-1), 1, 0, 0, 0), (16, .ireturn, 1, 0, 0, 0)], 17),
  (17, [(17, .aload_n 0, 1, 0, 0, 0), (18, .getfield 128, 3, 7, 10, 618), (21, .iload_n 3, 1, 0, 0, 0), (22, .iadd, 1, 0, 0, 0), (23, .bipush 80, 2, 0, 0, 0), (25, .if_icmp .le 6, 3, 0, 0, 0), (28, .bipush (-3), 2, 0, 0, 0), (30, .ireturn, 1, 0, 0, 0)], 31),
  (31, [(31, .iload_n 3, 1, 0, 0, 0), (32, .iconst 1, 1, 0, 0, 0), (33, .isub, 1, 0, 0, 0), (34, .istore 4, 2, 0, 0, 0)], 36),
  (36, [(36, .iload 4, 2, 0, 0, 0), (38, .ifCond .lt 40, 3, 0, 0, 0), (41, .aload_n 0, 1, 0, 0, 0), (42, .getfield 22, 3, 7, 9, 617), (45, .aload_n 0, 1, 0, 0, 0), (46, .getfield 128, 3, 7, 10, 618), (49, .lload_n 1, 1, 0, 0, 0), (50, .bipush 8, 2, 0, 0, 0), (52, .iload 4, 2, 0, 0, 0), (54, .imul, 1, 0, 0, 0), (55, .lshr, 1, 0, 0, 0), (56, .ldc2_w 131, 3, 255, 0, 809), (59, .land, 1, 0, 0, 0), (60, .l2i, 1, 0, 0, 0), (61, .iastore, 1, 0, 0, 0), (62, .aload_n 0, 1, 0, 0, 0), (63, .dup, 1, 0, 0, 0), (64, .getfield 128, 3, 7, 10, 618), (67, .iconst 1, 1, 0, 0, 0), (68, .iadd, 1, 0, 0, 0), (69, .putfield 128, 3, 7, 10, 618), (72, .iinc 4 (-1), 3, 0, 0, 0), (75, .goto (-39), 3, 0, 0, 0)], 78),
  (78, [(78, .aload_n 0, 1, 0, 0, 0), (79, .getfield 128, 3, 7, 10, 618), (82, .ireturn, 1, 0, 0, 0)], 83)]
/-- 126: FewSignsModel.clear()I -/
def zc_126 : List (Nat × List zE × Nat) := [(0, [(0, .aload_n 0, 1, 0, 0, 0), (1, .iconst 0, 1, 0, 0, 0), (2, .putfield 52, 3, 7, 0, 608), (5, .aload_n 0, 1, 0, 0, 0), (6, .getfield 128, 3, 7, 10, 618), (9, .istore_n 1, 1, 0, 0, 0), (10, .aload_n 0, 1, 0, 0, 0), (11, .iconst 0, 1, 0, 0, 0), (12, .putfield 128, 3, 7, 10, 618), (15, .iload_n 1, 1, 0, 0, 0), (16, .ireturn, 1, 0, 0, 0)], 17)]
/-- 127: FewSignsModel.isFormula()Z -/
def zc_127 : List (Nat × List zE × Nat) := [(0, [(0, .aload_n 0, 1, 0, 0, 0), (1, .iconst 0, 1, 0, 0, 0), (2, .putfield 133, 3, 7, 14, 622), (5, .iconst 0, 1, 0, 0, 0), (6, .istore_n 1, 1, 0, 0, 0), (7, .iconst 0, 1, 0, 0, 0), (8, .istore_n 2, 1, 0, 0, 0), (9, .iconst 0, 1, 0, 0, 0), (10, .istore_n 3, 1, 0, 0, 0), (11, .iconst 0, 1, 0, 0, 0), (12, .istore 4, 2, 0, 0, 0), (14, .iconst 0, 1, 0, 0, 0), (15, .istore 5, 2, 0, 0, 0)], 17),
  (17, [(17, .iload 5, 2, 0, 0, 0), (19, .aload_n 0, 1, 0, 0, 0), (20, .getfield 128, 3, 7, 10, 618), (23, .if_icmp .ge 303, 3, 0, 0, 0), (26, .aload_n 0, 1, 0, 0, 0), (27, .getfield 22, 3, 7, 9, 617), (30, .iload 5, 2, 0, 0, 0), (32, .iaload, 1, 0, 0, 0), (33, .istore 6, 2, 0, 0, 0), (35, .aload_n 0, 1, 0, 0, 0), (36, .iload 5, 2, 0, 0, 0), (38, .putfield 136, 3, 7, 15, 623), (41, .iconst 0, 1, 0, 0, 0), (42, .istore 7, 2, 0, 0, 0), (44, .iload_n 3, 1, 0, 0, 0), (45, .ifCond .eq 5, 3, 0, 0, 0), (48, .iconst 0, 1, 0, 0, 0), (49, .ireturn, 1, 0, 0, 0)], 50),
  (50, [(50, .iload 4, 2, 0, 0, 0), (52, .ifCond .ne 100, 3, 0, 0, 0), (55, .iload 6, 2, 0, 0, 0), (57, .bipush 112, 2, 0, 0, 0), (59, .bipush 112, 2, 0, 0, 0), (61, .aload_n 0, 1, 0, 0, 0), (62, .getfield 64, 3, 7, 1, 609), (65, .iadd, 1, 0, 0, 0), (66, .iconst 1, 1, 0, 0, 0), (67, .isub, 1, 0, 0, 0), (68, .invokestatic 56, 3, 89, 0, 676), (71, .istore 8, 2, 0, 0, 0), (73, .iload 8, 2, 0, 0, 0), (75, .ifCond .ne 15, 3, 0, 0, 0), (78, .iload 6, 2, 0, 0, 0), (80, .bipush 120, 2, 0, 0, 0), (82, .bipush 122, 2, 0, 0, 0), (84, .invokestatic 56, 3, 89, 0, 676), (87, .ifCond .eq 9, 3, 0, 0, 0)], 90),
  (90, [(90, .iload_n 2, 1, 0, 0, 0), (91, .bipush 30, 2, 0, 0, 0), (93, .if_icmp .ne 5, 3, 0, 0, 0)], 96),
  (96, [(96, .iconst 0, 1, 0, 0, 0), (97, .ireturn, 1, 0, 0, 0)], 98),
  (98, [(98, .iinc 2 1, 3, 0, 0, 0), (101, .iload 8, 2, 0, 0, 0), (103, .ifCond .eq 22, 3, 0, 0, 0), (106, .aload_n 0, 1, 0, 0, 0), (107, .getfield 7, 3, 7, 2, 610), (110, .iload 6, 2, 0, 0, 0), (112, .bipush 112, 2, 0, 0, 0), (114, .isub, 1, 0, 0, 0), (115, .iaload, 1, 0, 0, 0), (116, .ifCond .le 9, 3, 0, 0, 0), (119, .iconst 1, 1, 0, 0, 0), (120, .istore 4, 2, 0, 0, 0), (122, .goto 27, 3, 0, 0, 0)], 125),
  (125, [(125, .aload_n 0, 1, 0, 0, 0), (126, .getfield 31, 3, 7, 13, 621), (129, .aload_n 0, 1, 0, 0, 0), (130, .getfield 133, 3, 7, 14, 622), (133, .iload 6, 2, 0, 0, 0), (135, .iastore, 1, 0, 0, 0), (136, .aload_n 0, 1, 0, 0, 0), (137, .dup, 1, 0, 0, 0), (138, .getfield 133, 3, 7, 14, 622), (141, .iconst 1, 1, 0, 0, 0), (142, .iadd, 1, 0, 0, 0), (143, .putfield 133, 3, 7, 14, 622), (146, .iconst 1, 1, 0, 0, 0), (147, .istore 7, 2, 0, 0, 0)], 149),
  (149, [(149, .goto 137, 3, 0, 0, 0)], 152),
  (152, [(152, .iload 4, 2, 0, 0, 0), (154, .iconst 1, 1, 0, 0, 0), (155, .if_icmp .ne 49, 3, 0, 0, 0), (158, .iload 6, 2, 0, 0, 0), (160, .bipush 40, 2, 0, 0, 0), (162, .if_icmp .ne 9, 3, 0, 0, 0), (165, .iload_n 1, 1, 0, 0, 0), (166, .bipush 8, 2, 0, 0, 0), (168, .if_icmp .ne 5, 3, 0, 0, 0)], 171),
  (171, [(171, .iconst 0, 1, 0, 0, 0), (172, .ireturn, 1, 0, 0, 0)], 173),
  (173, [(173, .aload_n 0, 1, 0, 0, 0), (174, .getfield 34, 3, 7, 16, 624), (177, .iload_n 1, 1, 0, 0, 0), (178, .aload_n 0, 1, 0, 0, 0), (179, .getfield 22, 3, 7, 9, 617), (182, .iload 5, 2, 0, 0, 0), (184, .iconst 1, 1, 0, 0, 0), (185, .isub, 1, 0, 0, 0), (186, .iaload, 1, 0, 0, 0), (187, .iastore, 1, 0, 0, 0), (188, .aload_n 0, 1, 0, 0, 0), (189, .getfield 37, 3, 7, 17, 625), (192, .iload_n 1, 1, 0, 0, 0), (193, .iconst 0, 1, 0, 0, 0), (194, .iastore, 1, 0, 0, 0), (195, .iinc 1 1, 3, 0, 0, 0), (198, .iconst 0, 1, 0, 0, 0), (199, .istore 4, 2, 0, 0, 0), (201, .goto 85, 3, 0, 0, 0)], 204),
  (204, [(204, .aload_n 0, 1, 0, 0, 0), (205, .getfield 37, 3, 7, 17, 625), (208, .iload_n 1, 1, 0, 0, 0), (209, .iconst 1, 1, 0, 0, 0), (210, .isub, 1, 0, 0, 0), (211, .iaload, 1, 0, 0, 0), (212, .aload_n 0, 1, 0, 0, 0), (213, .getfield 7, 3, 7, 2, 610), (216, .aload_n 0, 1, 0, 0, 0), (217, .getfield 34, 3, 7, 16, 624), (220, .iload_n 1, 1, 0, 0, 0), (221, .iconst 1, 1, 0, 0, 0), (222, .isub, 1, 0, 0, 0), (223, .iaload, 1, 0, 0, 0), (224, .bipush 112, 2, 0, 0, 0), (226, .isub, 1, 0, 0, 0), (227, .iaload, 1, 0, 0, 0), (228, .if_icmp .ge 18, 3, 0, 0, 0), (231, .iload 6, 2, 0, 0, 0), (233, .bipush 44, 2, 0, 0, 0), (235, .if_icmp .eq 5, 3, 0, 0, 0), (238, .iconst 0, 1, 0, 0, 0), (239, .ireturn, 1, 0, 0, 0)], 240),
  (240, [(240, .iconst 0, 1, 0, 0, 0), (241, .istore 4, 2, 0, 0, 0), (243, .goto 43, 3, 0, 0, 0)], 246),
  (246, [(246, .iload 6, 2, 0, 0, 0), (248, .bipush 41, 2, 0, 0, 0), (250, .if_icmp .eq 5, 3, 0, 0, 0), (253, .iconst 0, 1, 0, 0, 0), (254, .ireturn, 1, 0, 0, 0)], 255),
  (255, [(255, .iinc 1 (-1), 3, 0, 0, 0), (258, .aload_n 0, 1, 0, 0, 0), (259, .getfield 31, 3, 7, 13, 621), (262, .aload_n 0, 1, 0, 0, 0), (263, .getfield 133, 3, 7, 14, 622), (266, .aload_n 0, 1, 0, 0, 0), (267, .getfield 34, 3, 7, 16, 624), (270, .iload_n 1, 1, 0, 0, 0), (271, .iaload, 1, 0, 0, 0), (272, .iastore, 1, 0, 0, 0), (273, .aload_n 0, 1, 0, 0, 0), (274, .dup, 1, 0, 0, 0), (275, .getfield 133, 3, 7, 14, 622), (278, .iconst 1, 1, 0, 0, 0), (279, .iadd, 1, 0, 0, 0), (280, .putfield 133, 3, 7, 14, 622), (283, .iconst 1, 1, 0, 0, 0), (284, .istore 7, 2, 0, 0, 0)], 286),
  (286, [(286, .iload 7, 2, 0, 0, 0), (288, .ifCond .eq 32, 3, 0, 0, 0), (291, .iload_n 1, 1, 0, 0, 0), (292, .ifCond .ne 7, 3, 0, 0, 0), (295, .iconst 1, 1, 0, 0, 0), (296, .goto 4, 3, 0, 0, 0)], 299),
  (299, [(299, .iconst 0, 1, 0, 0, 0)], 300),
  (300, [(300, .istore_n 3, 1, 0, 0, 0), (301, .iconst 2, 1, 0, 0, 0), (302, .istore 4, 2, 0, 0, 0), (304, .iload_n 3, 1, 0, 0, 0), (305, .ifCond .ne 15, 3, 0, 0, 0), (308, .aload_n 0, 1, 0, 0, 0), (309, .getfield 37, 3, 7, 17, 625), (312, .iload_n 1, 1, 0, 0, 0), (313, .iconst 1, 1, 0, 0, 0), (314, .isub, 1, 0, 0, 0), (315, .dup2, 1, 0, 0, 0), (316, .iaload, 1, 0, 0, 0), (317, .iconst 1, 1, 0, 0, 0), (318, .iadd, 1, 0, 0, 0), (319, .iastore, 1, 0, 0, 0)], 320),
  (320, [(320, .iinc 5 1, 3, 0, 0, 0), (323, .goto (-306), 3, 0, 0, 0)], 326),
  (326, [(326, .aload_n 0, 1, 0, 0, 0), (327, .aload_n 0, 1, 0, 0, 0), (328, .getfield 128, 3, 7, 10, 618), (331, .putfield 136, 3, 7, 15, 623), (334, .iload_n 3, 1, 0, 0, 0), (335, .ireturn, 1, 0, 0, 0)], 336)]
/-- 128: FewSignsModel.read(I)I -/
def zc_128 : List (Nat × List zE × Nat) := [(0, [(0, .aload_n 0, 1, 0, 0, 0), (1, .iconst 0, 1, 0, 0, 0), (2, .putfield 52, 3, 7, 0, 608), (5, .iload_n 1, 1, 0, 0, 0), (6, .iconst 0, 1, 0, 0, 0), (7, .iconst 3, 1, 0, 0, 0), (8, .invokestatic 56, 3, 89, 0, 676), (11, .ifCond .ne 5, 3, 0, 0, 0), (14, .iconst (-1), 1, 0, 0, 0), (15, .ireturn, 1, 0, 0, 0)], 16),
  (16, [(16, .aload_n 0, 1, 0, 0, 0), (17, .invokevirtual 139, 3, 127, 0, 818), (20, .ifCond .ne 11, 3, 0, 0, 0), (23, .bipush (-10), 2, 0, 0, 0), (25, .aload_n 0, 1, 0, 0, 0), (26, .getfield 136, 3, 7, 15, 623), (29, .isub, 1, 0, 0, 0), (30, .ireturn, 1, 0, 0, 0)], 31),
  (31, [(31, .iconst 0, 1, 0, 0, 0), (32, .istore_n 2, 1, 0, 0, 0)], 33),
  (33, [(33, .iload_n 2, 1, 0, 0, 0), (34, .aload_n 0, 1, 0, 0, 0), (35, .getfield 133, 3, 7, 14, 622), (38, .if_icmp .ge 26, 3, 0, 0, 0), (41, .aload_n 0, 1, 0, 0, 0), (42, .getfield 25, 3, 7, 11, 619), (45, .bipush 30, 2, 0, 0, 0), (47, .iload_n 1, 1, 0, 0, 0), (48, .imul, 1, 0, 0, 0), (49, .iload_n 2, 1, 0, 0, 0), (50, .iadd, 1, 0, 0, 0), (51, .aload_n 0, 1, 0, 0, 0), (52, .getfield 31, 3, 7, 13, 621), (55, .iload_n 2, 1, 0, 0, 0), (56, .iaload, 1, 0, 0, 0), (57, .iastore, 1, 0, 0, 0), (58, .iinc 2 1, 3, 0, 0, 0), (61, .goto (-28), 3, 0, 0, 0)], 64),
  (64, [(64, .aload_n 0, 1, 0, 0, 0), (65, .getfield 28, 3, 7, 12, 620), (68, .iload_n 1, 1, 0, 0, 0), (69, .aload_n 0, 1, 0, 0, 0), (70, .getfield 133, 3, 7, 14, 622), (73, .iastore, 1, 0, 0, 0), (74, .aload_n 0, 1, 0, 0, 0), (75, .iconst 0, 1, 0, 0, 0), (76, .putfield 128, 3, 7, 10, 618), (79, .aload_n 0, 1, 0, 0, 0), (80, .getfield 133, 3, 7, 14, 622), (83, .ireturn, 1, 0, 0, 0)], 84)]
/-- 129: FewSignsModel.judges(I)V -/
def zc_129 : List (Nat × List zE × Nat) := [(0, [(0, .iconst 0, 1, 0, 0, 0), (1, .istore_n 2, 1, 0, 0, 0), (2, .iconst 0, 1, 0, 0, 0), (3, .istore_n 3, 1, 0, 0, 0)], 4),
  (4, [(4, .iload_n 3, 1, 0, 0, 0), (5, .aload_n 0, 1, 0, 0, 0), (6, .getfield 28, 3, 7, 12, 620), (9, .iload_n 1, 1, 0, 0, 0), (10, .iaload, 1, 0, 0, 0), (11, .if_icmp .ge 242, 3, 0, 0, 0), (14, .aload_n 0, 1, 0, 0, 0), (15, .getfield 25, 3, 7, 11, 619), (18, .bipush 30, 2, 0, 0, 0), (20, .iload_n 1, 1, 0, 0, 0), (21, .imul, 1, 0, 0, 0), (22, .iload_n 3, 1, 0, 0, 0), (23, .iadd, 1, 0, 0, 0), (24, .iaload, 1, 0, 0, 0), (25, .istore 4, 2, 0, 0, 0), (27, .iload 4, 2, 0, 0, 0), (29, .bipush 120, 2, 0, 0, 0), (31, .if_icmp .lt 38, 3, 0, 0, 0), (34, .aload_n 0, 1, 0, 0, 0), (35, .getfield 40, 3, 7, 18, 626), (38, .iload_n 2, 1, 0, 0, 0), (39, .iconst 3, 1, 0, 0, 0), (40, .iload 4, 2, 0, 0, 0), (42, .bipush 120, 2, 0, 0, 0), (44, .isub, 1, 0, 0, 0), (45, .invokestatic 71, 3, 99, 0, 713), (48, .iastore, 1, 0, 0, 0), (49, .aload_n 0, 1, 0, 0, 0), (50, .getfield 43, 3, 7, 19, 627), (53, .iload_n 2, 1, 0, 0, 0), (54, .iconst 0, 1, 0, 0, 0), (55, .iastore, 1, 0, 0, 0), (56, .aload_n 0, 1, 0, 0, 0), (57, .getfield 46, 3, 7, 20, 628), (60, .iload_n 2, 1, 0, 0, 0), (61, .iconst 0, 1, 0, 0, 0), (62, .iastore, 1, 0, 0, 0), (63, .iinc 2 1, 3, 0, 0, 0), (66, .goto 181, 3, 0, 0, 0)], 69),
  (69, [(69, .iload 4, 2, 0, 0, 0), (71, .bipush 112, 2, 0, 0, 0), (73, .isub, 1, 0, 0, 0), (74, .istore 5, 2, 0, 0, 0), (76, .aload_n 0, 1, 0, 0, 0), (77, .getfield 7, 3, 7, 2, 610), (80, .iload 5, 2, 0, 0, 0), (82, .iaload, 1, 0, 0, 0), (83, .istore 6, 2, 0, 0, 0), (85, .iload_n 2, 1, 0, 0, 0), (86, .iload 6, 2, 0, 0, 0), (88, .isub, 1, 0, 0, 0), (89, .istore_n 2, 1, 0, 0, 0), (90, .aload_n 0, 1, 0, 0, 0), (91, .getfield 16, 3, 7, 4, 612), (94, .iload 5, 2, 0, 0, 0), (96, .iaload, 1, 0, 0, 0), (97, .istore 7, 2, 0, 0, 0), (99, .iconst 0, 1, 0, 0, 0), (100, .istore 8, 2, 0, 0, 0), (102, .iconst 0, 1, 0, 0, 0), (103, .istore 9, 2, 0, 0, 0)], 105),
  (105, [(105, .iload 9, 2, 0, 0, 0), (107, .iload 6, 2, 0, 0, 0), (109, .if_icmp .ge 53, 3, 0, 0, 0), (112, .iload 7, 2, 0, 0, 0), (114, .aload_n 0, 1, 0, 0, 0), (115, .getfield 43, 3, 7, 19, 627), (118, .iload_n 2, 1, 0, 0, 0), (119, .iload 9, 2, 0, 0, 0), (121, .iadd, 1, 0, 0, 0), (122, .iaload, 1, 0, 0, 0), (123, .iadd, 1, 0, 0, 0), (124, .istore 7, 2, 0, 0, 0), (126, .aload_n 0, 1, 0, 0, 0), (127, .getfield 46, 3, 7, 20, 628), (130, .iload_n 2, 1, 0, 0, 0), (131, .iload 9, 2, 0, 0, 0), (133, .iadd, 1, 0, 0, 0), (134, .iaload, 1, 0, 0, 0), (135, .iload 8, 2, 0, 0, 0), (137, .if_icmp .le 15, 3, 0, 0, 0), (140, .aload_n 0, 1, 0, 0, 0), (141, .getfield 46, 3, 7, 20, 628), (144, .iload_n 2, 1, 0, 0, 0), (145, .iload 9, 2, 0, 0, 0), (147, .iadd, 1, 0, 0, 0), (148, .iaload, 1, 0, 0, 0), (149, .goto 5, 3, 0, 0, 0)], 152),
  (152, [(152, .iload 8, 2, 0, 0, 0)], 154),
  (154, [(154, .istore 8, 2, 0, 0, 0), (156, .iinc 9 1, 3, 0, 0, 0), (159, .goto (-54), 3, 0, 0, 0)], 162),
  (162, [(162, .aload_n 0, 1, 0, 0, 0), (163, .getfield 40, 3, 7, 18, 626), (166, .iload_n 2, 1, 0, 0, 0), (167, .aload_n 0, 1, 0, 0, 0), (168, .iload 5, 2, 0, 0, 0), (170, .iconst 3, 1, 0, 0, 0), (171, .iload 6, 2, 0, 0, 0), (173, .ifCond .le 12, 3, 0, 0, 0), (176, .aload_n 0, 1, 0, 0, 0), (177, .getfield 40, 3, 7, 18, 626), (180, .iload_n 2, 1, 0, 0, 0), (181, .iaload, 1, 0, 0, 0), (182, .goto 4, 3, 0, 0, 0)], 185),
  (185, [(185, .iconst 0, 1, 0, 0, 0)], 186),
  (186, [(186, .iload 6, 2, 0, 0, 0), (188, .iconst 1, 1, 0, 0, 0), (189, .if_icmp .le 14, 3, 0, 0, 0), (192, .aload_n 0, 1, 0, 0, 0), (193, .getfield 40, 3, 7, 18, 626), (196, .iload_n 2, 1, 0, 0, 0), (197, .iconst 1, 1, 0, 0, 0), (198, .iadd, 1, 0, 0, 0), (199, .iaload, 1, 0, 0, 0), (200, .goto 4, 3, 0, 0, 0)], 203),
  (203, [(203, .iconst 0, 1, 0, 0, 0)], 204),
  (204, [(204, .iload 6, 2, 0, 0, 0), (206, .iconst 2, 1, 0, 0, 0), (207, .if_icmp .le 14, 3, 0, 0, 0), (210, .aload_n 0, 1, 0, 0, 0), (211, .getfield 40, 3, 7, 18, 626), (214, .iload_n 2, 1, 0, 0, 0), (215, .iconst 2, 1, 0, 0, 0), (216, .iadd, 1, 0, 0, 0), (217, .iaload, 1, 0, 0, 0), (218, .goto 4, 3, 0, 0, 0)], 221),
  (221, [(221, .iconst 0, 1, 0, 0, 0)], 222),
  (222, [(222, .invokevirtual 74, 3, 98, 0, 716), (225, .iastore, 1, 0, 0, 0), (226, .aload_n 0, 1, 0, 0, 0), (227, .getfield 43, 3, 7, 19, 627), (230, .iload_n 2, 1, 0, 0, 0), (231, .iload 7, 2, 0, 0, 0), (233, .iastore, 1, 0, 0, 0), (234, .aload_n 0, 1, 0, 0, 0), (235, .getfield 46, 3, 7, 20, 628), (238, .iload_n 2, 1, 0, 0, 0), (239, .iload 8, 2, 0, 0, 0), (241, .iconst 1, 1, 0, 0, 0), (242, .iadd, 1, 0, 0, 0), (243, .iastore, 1, 0, 0, 0), (244, .iinc 2 1, 3, 0, 0, 0)], 247),
  (247, [(247, .iinc 3 1, 3, 0, 0, 0), (250, .goto (-246), 3, 0, 0, 0)], 253),
  (253, [(253, .return_, 1, 0, 0, 0)], 254)]
/-- 130: FewSignsModel.otherHalf(I)I -/
def zc_130 : List (Nat × List zE × Nat) := [(0, [(0, .iconst 0, 1, 0, 0, 0), (1, .istore_n 1, 1, 0, 0, 0), (2, .iconst 0, 1, 0, 0, 0), (3, .istore_n 2, 1, 0, 0, 0)], 4),
  (4, [(4, .iload_n 2, 1, 0, 0, 0), (5, .bipush 8, 2, 0, 0, 0), (7, .if_icmp .ge 24, 3, 0, 0, 0), (10, .iload_n 1, 1, 0, 0, 0), (11, .iconst 1, 1, 0, 0, 0), (12, .iload_n 0, 1, 0, 0, 0), (13, .bipush 7, 2, 0, 0, 0), (15, .iload_n 2, 1, 0, 0, 0), (16, .isub, 1, 0, 0, 0), (17, .ishr, 1, 0, 0, 0), (18, .iconst 1, 1, 0, 0, 0), (19, .iand, 1, 0, 0, 0), (20, .isub, 1, 0, 0, 0), (21, .iload_n 2, 1, 0, 0, 0), (22, .ishl, 1, 0, 0, 0), (23, .ior, 1, 0, 0, 0), (24, .istore_n 1, 1, 0, 0, 0), (25, .iinc 2 1, 3, 0, 0, 0), (28, .goto (-24), 3, 0, 0, 0)], 31),
  (31, [(31, .iload_n 1, 1, 0, 0, 0), (32, .ireturn, 1, 0, 0, 0)], 33)]
/-- 131: FewSignsModel.matters(I)I -/
def zc_131 : List (Nat × List zE × Nat) := [(0, [(0, .iconst 0, 1, 0, 0, 0), (1, .istore_n 1, 1, 0, 0, 0), (2, .iconst 0, 1, 0, 0, 0), (3, .istore_n 2, 1, 0, 0, 0)], 4),
  (4, [(4, .iload_n 2, 1, 0, 0, 0), (5, .bipush 8, 2, 0, 0, 0), (7, .if_icmp .ge 49, 3, 0, 0, 0), (10, .iconst 0, 1, 0, 0, 0), (11, .istore_n 3, 1, 0, 0, 0)], 12),
  (12, [(12, .iload_n 3, 1, 0, 0, 0), (13, .iconst 3, 1, 0, 0, 0), (14, .if_icmp .ge 36, 3, 0, 0, 0), (17, .iload_n 1, 1, 0, 0, 0), (18, .iload_n 0, 1, 0, 0, 0), (19, .iload_n 2, 1, 0, 0, 0), (20, .ishr, 1, 0, 0, 0), (21, .iconst 1, 1, 0, 0, 0), (22, .iand, 1, 0, 0, 0), (23, .iload_n 0, 1, 0, 0, 0), (24, .iload_n 2, 1, 0, 0, 0), (25, .iconst 1, 1, 0, 0, 0), (26, .iload_n 3, 1, 0, 0, 0), (27, .ishl, 1, 0, 0, 0), (28, .ixor, 1, 0, 0, 0), (29, .ishr, 1, 0, 0, 0), (30, .iconst 1, 1, 0, 0, 0), (31, .iand, 1, 0, 0, 0), (32, .if_icmp .eq 9, 3, 0, 0, 0), (35, .iconst 1, 1, 0, 0, 0), (36, .iload_n 3, 1, 0, 0, 0), (37, .ishl, 1, 0, 0, 0), (38, .goto 4, 3, 0, 0, 0)], 41),
  (41, [(41, .iconst 0, 1, 0, 0, 0)], 42),
  (42, [(42, .ior, 1, 0, 0, 0), (43, .istore_n 1, 1, 0, 0, 0), (44, .iinc 3 1, 3, 0, 0, 0), (47, .goto (-35), 3, 0, 0, 0)], 50),
  (50, [(50, .iinc 2 1, 3, 0, 0, 0), (53, .goto (-49), 3, 0, 0, 0)], 56),
  (56, [(56, .iload_n 1, 1, 0, 0, 0), (57, .ireturn, 1, 0, 0, 0)], 58)]
/-- 132: FewSignsModel.tableOf(I)I -/
def zc_132 : List (Nat × List zE × Nat) := [(0, [(0, .aload_n 0, 1, 0, 0, 0), (1, .iload_n 1, 1, 0, 0, 0), (2, .invokevirtual 142, 3, 129, 0, 830), (5, .aload_n 0, 1, 0, 0, 0), (6, .getfield 40, 3, 7, 18, 626), (9, .iconst 0, 1, 0, 0, 0), (10, .iaload, 1, 0, 0, 0), (11, .ireturn, 1, 0, 0, 0)], 12)]
/-- 133: FewSignsModel.formula(II)I -/
def zc_133 : List (Nat × List zE × Nat) := [(0, [(0, .aload_n 0, 1, 0, 0, 0), (1, .iconst 0, 1, 0, 0, 0), (2, .putfield 52, 3, 7, 0, 608), (5, .iload_n 1, 1, 0, 0, 0), (6, .iconst 0, 1, 0, 0, 0), (7, .iconst 3, 1, 0, 0, 0), (8, .invokestatic 56, 3, 89, 0, 676), (11, .ifCond .eq 13, 3, 0, 0, 0), (14, .iload_n 2, 1, 0, 0, 0), (15, .iconst 0, 1, 0, 0, 0), (16, .bipush 7, 2, 0, 0, 0), (18, .invokestatic 56, 3, 89, 0, 676), (21, .ifCond .ne 5, 3, 0, 0, 0)], 24),
  (24, [(24, .iconst (-1), 1, 0, 0, 0), (25, .ireturn, 1, 0, 0, 0)], 26),
  (26, [(26, .aload_n 0, 1, 0, 0, 0), (27, .iload_n 1, 1, 0, 0, 0), (28, .invokevirtual 145, 3, 132, 0, 826), (31, .istore_n 3, 1, 0, 0, 0), (32, .iconst 0, 1, 0, 0, 0), (33, .istore 4, 2, 0, 0, 0), (35, .iconst 0, 1, 0, 0, 0), (36, .istore 5, 2, 0, 0, 0)], 38),
  (38, [(38, .iload 5, 2, 0, 0, 0), (40, .bipush 8, 2, 0, 0, 0), (42, .if_icmp .ge 20, 3, 0, 0, 0), (45, .iload 4, 2, 0, 0, 0), (47, .iload_n 3, 1, 0, 0, 0), (48, .iload 5, 2, 0, 0, 0), (50, .ishr, 1, 0, 0, 0), (51, .iconst 1, 1, 0, 0, 0), (52, .iand, 1, 0, 0, 0), (53, .iadd, 1, 0, 0, 0), (54, .istore 4, 2, 0, 0, 0), (56, .iinc 5 1, 3, 0, 0, 0), (59, .goto (-21), 3, 0, 0, 0)], 62),
  (62, [(62, .iload_n 2, 1, 0, 0, 0), (63, .tableswitch 77 0 6 #[41, 43, 50, 57, 64, 69, 74], 41, 0, 0, 0)], 104),
  (104, [(104, .iload_n 3, 1, 0, 0, 0), (105, .ireturn, 1, 0, 0, 0)], 106),
  (106, [(106, .aload_n 0, 1, 0, 0, 0), (107, .getfield 43, 3, 7, 19, 627), (110, .iconst 0, 1, 0, 0, 0), (111, .iaload, 1, 0, 0, 0), (112, .ireturn, 1, 0, 0, 0)], 113),
  (113, [(113, .aload_n 0, 1, 0, 0, 0), (114, .getfield 46, 3, 7, 20, 628), (117, .iconst 0, 1, 0, 0, 0), (118, .iaload, 1, 0, 0, 0), (119, .ireturn, 1, 0, 0, 0)], 120),
  (120, [(120, .aload_n 0, 1, 0, 0, 0), (121, .getfield 28, 3, 7, 12, 620), (124, .iload_n 1, 1, 0, 0, 0), (125, .iaload, 1, 0, 0, 0), (126, .ireturn, 1, 0, 0, 0)], 127),
  (127, [(127, .iload_n 3, 1, 0, 0, 0), (128, .invokestatic 148, 3, 131, 0, 834), (131, .ireturn, 1, 0, 0, 0)], 132),
  (132, [(132, .iload_n 3, 1, 0, 0, 0), (133, .invokestatic 151, 3, 130, 0, 837), (136, .ireturn, 1, 0, 0, 0)], 137),
  (137, [(137, .iload 4, 2, 0, 0, 0), (139, .ireturn, 1, 0, 0, 0)], 140),
  (140, [(140, .iconst 3, 1, 0, 0, 0), (141, .iload_n 3, 1, 0, 0, 0), (142, .invokestatic 67, 3, 94, 0, 690), (145, .ireturn, 1, 0, 0, 0)], 146)]
/-- 134: FewSignsModel.leastened(I)I -/
def zc_134 : List (Nat × List zE × Nat) := [(0, [(0, .aload_n 0, 1, 0, 0, 0), (1, .iconst 0, 1, 0, 0, 0), (2, .putfield 52, 3, 7, 0, 608), (5, .iload_n 1, 1, 0, 0, 0), (6, .iconst 0, 1, 0, 0, 0), (7, .iconst 3, 1, 0, 0, 0), (8, .invokestatic 56, 3, 89, 0, 676), (11, .ifCond .ne 5, 3, 0, 0, 0), (14, .iconst (-1), 1, 0, 0, 0), (15, .ireturn, 1, 0, 0, 0)], 16),
  (16, [(16, .aload_n 0, 1, 0, 0, 0), (17, .invokevirtual 78, 3, 97, 0, 705), (20, .ifCond .eq 6, 3, 0, 0, 0), (23, .bipush (-2), 2, 0, 0, 0), (25, .ireturn, 1, 0, 0, 0)], 26),
  (26, [(26, .aload_n 0, 1, 0, 0, 0), (27, .iload_n 1, 1, 0, 0, 0), (28, .invokevirtual 145, 3, 132, 0, 826), (31, .istore_n 2, 1, 0, 0, 0), (32, .aload_n 0, 1, 0, 0, 0), (33, .iconst 3, 1, 0, 0, 0), (34, .invokevirtual 85, 3, 100, 0, 709), (37, .aload_n 0, 1, 0, 0, 0), (38, .getfield 19, 3, 7, 5, 613), (41, .iload_n 2, 1, 0, 0, 0), (42, .iaload, 1, 0, 0, 0), (43, .ireturn, 1, 0, 0, 0)], 44)]
/-- 135: FewSignsModel.both(III)I -/
def zc_135 : List (Nat × List zE × Nat) := [(0, [(0, .aload_n 0, 1, 0, 0, 0), (1, .iconst 0, 1, 0, 0, 0), (2, .putfield 52, 3, 7, 0, 608), (5, .iload_n 1, 1, 0, 0, 0), (6, .iconst 0, 1, 0, 0, 0), (7, .iconst 3, 1, 0, 0, 0), (8, .invokestatic 56, 3, 89, 0, 676), (11, .ifCond .eq 21, 3, 0, 0, 0), (14, .iload_n 2, 1, 0, 0, 0), (15, .iconst 0, 1, 0, 0, 0), (16, .iconst 3, 1, 0, 0, 0), (17, .invokestatic 56, 3, 89, 0, 676), (20, .ifCond .eq 12, 3, 0, 0, 0), (23, .iload_n 3, 1, 0, 0, 0), (24, .iconst 0, 1, 0, 0, 0), (25, .iconst 2, 1, 0, 0, 0), (26, .invokestatic 56, 3, 89, 0, 676), (29, .ifCond .ne 5, 3, 0, 0, 0)], 32),
  (32, [(32, .iconst (-1), 1, 0, 0, 0), (33, .ireturn, 1, 0, 0, 0)], 34),
  (34, [(34, .aload_n 0, 1, 0, 0, 0), (35, .iload_n 1, 1, 0, 0, 0), (36, .invokevirtual 145, 3, 132, 0, 826), (39, .istore 4, 2, 0, 0, 0), (41, .aload_n 0, 1, 0, 0, 0), (42, .iload_n 2, 1, 0, 0, 0), (43, .invokevirtual 145, 3, 132, 0, 826), (46, .istore 5, 2, 0, 0, 0), (48, .iload_n 3, 1, 0, 0, 0), (49, .ifCond .ne 18, 3, 0, 0, 0), (52, .iload 4, 2, 0, 0, 0), (54, .iload 5, 2, 0, 0, 0), (56, .if_icmp .ne 7, 3, 0, 0, 0), (59, .iconst 1, 1, 0, 0, 0), (60, .goto 45, 3, 0, 0, 0)], 63),
  (63, [(63, .iconst 0, 1, 0, 0, 0), (64, .goto 41, 3, 0, 0, 0)], 67),
  (67, [(67, .iload_n 3, 1, 0, 0, 0), (68, .iconst 1, 1, 0, 0, 0), (69, .if_icmp .ne 21, 3, 0, 0, 0), (72, .iload 4, 2, 0, 0, 0), (74, .iload 5, 2, 0, 0, 0), (76, .iconst (-1), 1, 0, 0, 0), (77, .ixor, 1, 0, 0, 0), (78, .iand, 1, 0, 0, 0), (79, .ifCond .ne 7, 3, 0, 0, 0), (82, .iconst 1, 1, 0, 0, 0), (83, .goto 22, 3, 0, 0, 0)], 86),
  (86, [(86, .iconst 0, 1, 0, 0, 0), (87, .goto 18, 3, 0, 0, 0)], 90),
  (90, [(90, .iload 4, 2, 0, 0, 0), (92, .iload 5, 2, 0, 0, 0), (94, .invokestatic 151, 3, 130, 0, 837), (97, .if_icmp .ne 7, 3, 0, 0, 0), (100, .iconst 1, 1, 0, 0, 0), (101, .goto 4, 3, 0, 0, 0)], 104),
  (104, [(104, .iconst 0, 1, 0, 0, 0)], 105),
  (105, [(105, .istore 6, 2, 0, 0, 0), (107, .iload 6, 2, 0, 0, 0), (109, .ifCond .eq 7, 3, 0, 0, 0), (112, .iconst 1, 1, 0, 0, 0), (113, .goto 4, 3, 0, 0, 0)], 116),
  (116, [(116, .iconst 0, 1, 0, 0, 0)], 117),
  (117, [(117, .ireturn, 1, 0, 0, 0)], 118)]
/-- 136: FewSignsModel.count(I)I -/
def zc_136 : List (Nat × List zE × Nat) := [(0, [(0, .aload_n 0, 1, 0, 0, 0), (1, .iconst 0, 1, 0, 0, 0), (2, .putfield 52, 3, 7, 0, 608), (5, .iconst 0, 1, 0, 0, 0), (6, .istore_n 2, 1, 0, 0, 0), (7, .iconst 0, 1, 0, 0, 0), (8, .istore_n 3, 1, 0, 0, 0)], 9),
  (9, [(9, .iload_n 3, 1, 0, 0, 0), (10, .aload_n 0, 1, 0, 0, 0), (11, .getfield 64, 3, 7, 1, 609), (14, .if_icmp .ge 27, 3, 0, 0, 0), (17, .iload_n 2, 1, 0, 0, 0), (18, .aload_n 0, 1, 0, 0, 0), (19, .getfield 7, 3, 7, 2, 610), (22, .iload_n 3, 1, 0, 0, 0), (23, .iaload, 1, 0, 0, 0), (24, .iconst 3, 1, 0, 0, 0), (25, .if_icmp .ne 7, 3, 0, 0, 0), (28, .iconst 1, 1, 0, 0, 0), (29, .goto 4, 3, 0, 0, 0)], 32),
  (32, [(32, .iconst 0, 1, 0, 0, 0)], 33),
  (33, [(33, .iadd, 1, 0, 0, 0), (34, .istore_n 2, 1, 0, 0, 0), (35, .iinc 3 1, 3, 0, 0, 0), (38, .goto (-29), 3, 0, 0, 0)], 41),
  (41, [(41, .iload_n 1, 1, 0, 0, 0), (42, .ifCond .ne 10, 3, 0, 0, 0), (45, .aload_n 0, 1, 0, 0, 0), (46, .getfield 64, 3, 7, 1, 609), (49, .goto 25, 3, 0, 0, 0)], 52),
  (52, [(52, .iload_n 1, 1, 0, 0, 0), (53, .iconst 1, 1, 0, 0, 0), (54, .if_icmp .ne 7, 3, 0, 0, 0), (57, .iload_n 2, 1, 0, 0, 0), (58, .goto 16, 3, 0, 0, 0)], 61),
  (61, [(61, .iload_n 1, 1, 0, 0, 0), (62, .iconst 2, 1, 0, 0, 0), (63, .if_icmp .ne 10, 3, 0, 0, 0), (66, .aload_n 0, 1, 0, 0, 0), (67, .getfield 128, 3, 7, 10, 618), (70, .goto 4, 3, 0, 0, 0)], 73),
  (73, [(73, .iconst (-1), 1, 0, 0, 0)], 74),
  (74, [(74, .ireturn, 1, 0, 0, 0)], 75)]
/-- 137: FewSignsLaw.law([I)Z -/
def zc_137 : List (Nat × List zE × Nat) := [(16, [(16, .iconst 0, 1, 0, 0, 0), (17, .istore_n 3, 1, 0, 0, 0)], 18),
  (18, [(18, .iload_n 3, 1, 0, 0, 0), (19, .aload_n 0, 1, 0, 0, 0), (20, .arraylength, 1, 0, 0, 0), (21, .iconst 4, 1, 0, 0, 0), (22, .isub, 1, 0, 0, 0), (23, .if_icmp .gt 896, 3, 0, 0, 0), (26, .aload_n 0, 1, 0, 0, 0), (27, .iload_n 3, 1, 0, 0, 0), (28, .iaload, 1, 0, 0, 0), (29, .bipush 31, 2, 0, 0, 0), (31, .iand, 1, 0, 0, 0), (32, .tableswitch 881 0 24 #[116, 159, 172, 205, 238, 261, 294, 337, 370, 403, 426, 449, 472, 495, 538, 571, 604, 637, 660, 723, 736, 759, 792, 815, 858], 116, 0, 0, 0)], 148),
  (148, [(148, .aload_n 1, 1, 0, 0, 0), (149, .aload_n 0, 1, 0, 0, 0), (150, .iload_n 3, 1, 0, 0, 0), (151, .iconst 1, 1, 0, 0, 0), (152, .iadd, 1, 0, 0, 0), (153, .iaload, 1, 0, 0, 0), (154, .aload_n 0, 1, 0, 0, 0), (155, .iload_n 3, 1, 0, 0, 0), (156, .iconst 2, 1, 0, 0, 0), (157, .iadd, 1, 0, 0, 0), (158, .iaload, 1, 0, 0, 0), (159, .aload_n 0, 1, 0, 0, 0), (160, .iload_n 3, 1, 0, 0, 0), (161, .iconst 3, 1, 0, 0, 0), (162, .iadd, 1, 0, 0, 0), (163, .iaload, 1, 0, 0, 0), (164, .invokevirtual 13, 3, 56, 0, 257), (167, .aload_n 2, 1, 0, 0, 0), (168, .aload_n 0, 1, 0, 0, 0), (169, .iload_n 3, 1, 0, 0, 0), (170, .iconst 1, 1, 0, 0, 0), (171, .iadd, 1, 0, 0, 0), (172, .iaload, 1, 0, 0, 0), (173, .aload_n 0, 1, 0, 0, 0), (174, .iload_n 3, 1, 0, 0, 0), (175, .iconst 2, 1, 0, 0, 0), (176, .iadd, 1, 0, 0, 0), (177, .iaload, 1, 0, 0, 0), (178, .aload_n 0, 1, 0, 0, 0), (179, .iload_n 3, 1, 0, 0, 0), (180, .iconst 3, 1, 0, 0, 0), (181, .iadd, 1, 0, 0, 0), (182, .iaload, 1, 0, 0, 0), (183, .invokevirtual 17, 3, 92, 0, 672), (186, .if_icmp .eq 727, 3, 0, 0, 0), (189, .iconst 0, 1, 0, 0, 0), (190, .ireturn, 1, 0, 0, 0)], 191),
  (191, [(191, .aload_n 1, 1, 0, 0, 0), (192, .invokevirtual 18, 3, 57, 0, 294), (195, .aload_n 2, 1, 0, 0, 0), (196, .invokevirtual 22, 3, 93, 0, 682), (199, .if_icmp .eq 714, 3, 0, 0, 0), (202, .iconst 0, 1, 0, 0, 0), (203, .ireturn, 1, 0, 0, 0)], 204),
  (204, [(204, .aload_n 1, 1, 0, 0, 0), (205, .aload_n 0, 1, 0, 0, 0), (206, .iload_n 3, 1, 0, 0, 0), (207, .iconst 1, 1, 0, 0, 0), (208, .iadd, 1, 0, 0, 0), (209, .iaload, 1, 0, 0, 0), (210, .aload_n 0, 1, 0, 0, 0), (211, .iload_n 3, 1, 0, 0, 0), (212, .iconst 2, 1, 0, 0, 0), (213, .iadd, 1, 0, 0, 0), (214, .iaload, 1, 0, 0, 0), (215, .invokevirtual 23, 3, 58, 0, 298), (218, .aload_n 2, 1, 0, 0, 0), (219, .aload_n 0, 1, 0, 0, 0), (220, .iload_n 3, 1, 0, 0, 0), (221, .iconst 1, 1, 0, 0, 0), (222, .iadd, 1, 0, 0, 0), (223, .iaload, 1, 0, 0, 0), (224, .aload_n 0, 1, 0, 0, 0), (225, .iload_n 3, 1, 0, 0, 0), (226, .iconst 2, 1, 0, 0, 0), (227, .iadd, 1, 0, 0, 0), (228, .iaload, 1, 0, 0, 0), (229, .invokevirtual 27, 3, 95, 0, 686), (232, .if_icmp .eq 681, 3, 0, 0, 0), (235, .iconst 0, 1, 0, 0, 0), (236, .ireturn, 1, 0, 0, 0)], 237),
  (237, [(237, .aload_n 1, 1, 0, 0, 0), (238, .aload_n 0, 1, 0, 0, 0), (239, .iload_n 3, 1, 0, 0, 0), (240, .iconst 1, 1, 0, 0, 0), (241, .iadd, 1, 0, 0, 0), (242, .iaload, 1, 0, 0, 0), (243, .aload_n 0, 1, 0, 0, 0), (244, .iload_n 3, 1, 0, 0, 0), (245, .iconst 2, 1, 0, 0, 0), (246, .iadd, 1, 0, 0, 0), (247, .iaload, 1, 0, 0, 0), (248, .invokevirtual 28, 3, 59, 0, 306), (251, .aload_n 2, 1, 0, 0, 0), (252, .aload_n 0, 1, 0, 0, 0), (253, .iload_n 3, 1, 0, 0, 0), (254, .iconst 1, 1, 0, 0, 0), (255, .iadd, 1, 0, 0, 0), (256, .iaload, 1, 0, 0, 0), (257, .aload_n 0, 1, 0, 0, 0), (258, .iload_n 3, 1, 0, 0, 0), (259, .iconst 2, 1, 0, 0, 0), (260, .iadd, 1, 0, 0, 0), (261, .iaload, 1, 0, 0, 0), (262, .invokevirtual 31, 3, 96, 0, 693), (265, .if_icmp .eq 648, 3, 0, 0, 0), (268, .iconst 0, 1, 0, 0, 0), (269, .ireturn, 1, 0, 0, 0)], 270),
  (270, [(270, .aload_n 1, 1, 0, 0, 0), (271, .aload_n 0, 1, 0, 0, 0), (272, .iload_n 3, 1, 0, 0, 0), (273, .iconst 1, 1, 0, 0, 0), (274, .iadd, 1, 0, 0, 0), (275, .iaload, 1, 0, 0, 0), (276, .invokevirtual 32, 3, 60, 0, 311), (279, .aload_n 2, 1, 0, 0, 0), (280, .aload_n 0, 1, 0, 0, 0), (281, .iload_n 3, 1, 0, 0, 0), (282, .iconst 1, 1, 0, 0, 0), (283, .iadd, 1, 0, 0, 0), (284, .iaload, 1, 0, 0, 0), (285, .invokevirtual 36, 3, 102, 0, 697), (288, .if_icmp .eq 625, 3, 0, 0, 0), (291, .iconst 0, 1, 0, 0, 0), (292, .ireturn, 1, 0, 0, 0)], 293),
  (293, [(293, .aload_n 1, 1, 0, 0, 0), (294, .aload_n 0, 1, 0, 0, 0), (295, .iload_n 3, 1, 0, 0, 0), (296, .iconst 1, 1, 0, 0, 0), (297, .iadd, 1, 0, 0, 0), (298, .iaload, 1, 0, 0, 0), (299, .aload_n 0, 1, 0, 0, 0), (300, .iload_n 3, 1, 0, 0, 0), (301, .iconst 2, 1, 0, 0, 0), (302, .iadd, 1, 0, 0, 0), (303, .iaload, 1, 0, 0, 0), (304, .invokevirtual 37, 3, 61, 0, 376), (307, .aload_n 2, 1, 0, 0, 0), (308, .aload_n 0, 1, 0, 0, 0), (309, .iload_n 3, 1, 0, 0, 0), (310, .iconst 1, 1, 0, 0, 0), (311, .iadd, 1, 0, 0, 0), (312, .iaload, 1, 0, 0, 0), (313, .aload_n 0, 1, 0, 0, 0), (314, .iload_n 3, 1, 0, 0, 0), (315, .iconst 2, 1, 0, 0, 0), (316, .iadd, 1, 0, 0, 0), (317, .iaload, 1, 0, 0, 0), (318, .invokevirtual 40, 3, 103, 0, 720), (321, .if_icmp .eq 592, 3, 0, 0, 0), (324, .iconst 0, 1, 0, 0, 0), (325, .ireturn, 1, 0, 0, 0)], 326),
  (326, [(326, .aload_n 1, 1, 0, 0, 0), (327, .aload_n 0, 1, 0, 0, 0), (328, .iload_n 3, 1, 0, 0, 0), (329, .iconst 1, 1, 0, 0, 0), (330, .iadd, 1, 0, 0, 0), (331, .iaload, 1, 0, 0, 0), (332, .aload_n 0, 1, 0, 0, 0), (333, .iload_n 3, 1, 0, 0, 0), (334, .iconst 2, 1, 0, 0, 0), (335, .iadd, 1, 0, 0, 0), (336, .iaload, 1, 0, 0, 0), (337, .aload_n 0, 1, 0, 0, 0), (338, .iload_n 3, 1, 0, 0, 0), (339, .iconst 3, 1, 0, 0, 0), (340, .iadd, 1, 0, 0, 0), (341, .iaload, 1, 0, 0, 0), (342, .invokevirtual 41, 3, 62, 0, 388), (345, .aload_n 2, 1, 0, 0, 0), (346, .aload_n 0, 1, 0, 0, 0), (347, .iload_n 3, 1, 0, 0, 0), (348, .iconst 1, 1, 0, 0, 0), (349, .iadd, 1, 0, 0, 0), (350, .iaload, 1, 0, 0, 0), (351, .aload_n 0, 1, 0, 0, 0), (352, .iload_n 3, 1, 0, 0, 0), (353, .iconst 2, 1, 0, 0, 0), (354, .iadd, 1, 0, 0, 0), (355, .iaload, 1, 0, 0, 0), (356, .aload_n 0, 1, 0, 0, 0), (357, .iload_n 3, 1, 0, 0, 0), (358, .iconst 3, 1, 0, 0, 0), (359, .iadd, 1, 0, 0, 0), (360, .iaload, 1, 0, 0, 0), (361, .invokevirtual 44, 3, 105, 0, 724), (364, .if_icmp .eq 549, 3, 0, 0, 0), (367, .iconst 0, 1, 0, 0, 0), (368, .ireturn, 1, 0, 0, 0)], 369),
  (369, [(369, .aload_n 1, 1, 0, 0, 0), (370, .aload_n 0, 1, 0, 0, 0), (371, .iload_n 3, 1, 0, 0, 0), (372, .iconst 1, 1, 0, 0, 0), (373, .iadd, 1, 0, 0, 0), (374, .iaload, 1, 0, 0, 0), (375, .aload_n 0, 1, 0, 0, 0), (376, .iload_n 3, 1, 0, 0, 0), (377, .iconst 2, 1, 0, 0, 0), (378, .iadd, 1, 0, 0, 0), (379, .iaload, 1, 0, 0, 0), (380, .invokevirtual 45, 3, 63, 0, 402), (383, .aload_n 2, 1, 0, 0, 0), (384, .aload_n 0, 1, 0, 0, 0), (385, .iload_n 3, 1, 0, 0, 0), (386, .iconst 1, 1, 0, 0, 0), (387, .iadd, 1, 0, 0, 0), (388, .iaload, 1, 0, 0, 0), (389, .aload_n 0, 1, 0, 0, 0), (390, .iload_n 3, 1, 0, 0, 0), (391, .iconst 2, 1, 0, 0, 0), (392, .iadd, 1, 0, 0, 0), (393, .iaload, 1, 0, 0, 0), (394, .invokevirtual 48, 3, 106, 0, 732), (397, .if_icmp .eq 516, 3, 0, 0, 0), (400, .iconst 0, 1, 0, 0, 0), (401, .ireturn, 1, 0, 0, 0)], 402),
  (402, [(402, .aload_n 1, 1, 0, 0, 0), (403, .aload_n 0, 1, 0, 0, 0), (404, .iload_n 3, 1, 0, 0, 0), (405, .iconst 1, 1, 0, 0, 0), (406, .iadd, 1, 0, 0, 0), (407, .iaload, 1, 0, 0, 0), (408, .aload_n 0, 1, 0, 0, 0), (409, .iload_n 3, 1, 0, 0, 0), (410, .iconst 2, 1, 0, 0, 0), (411, .iadd, 1, 0, 0, 0), (412, .iaload, 1, 0, 0, 0), (413, .invokevirtual 49, 3, 64, 0, 421), (416, .aload_n 2, 1, 0, 0, 0), (417, .aload_n 0, 1, 0, 0, 0), (418, .iload_n 3, 1, 0, 0, 0), (419, .iconst 1, 1, 0, 0, 0), (420, .iadd, 1, 0, 0, 0), (421, .iaload, 1, 0, 0, 0), (422, .aload_n 0, 1, 0, 0, 0), (423, .iload_n 3, 1, 0, 0, 0), (424, .iconst 2, 1, 0, 0, 0), (425, .iadd, 1, 0, 0, 0), (426, .iaload, 1, 0, 0, 0), (427, .invokevirtual 52, 3, 107, 0, 736), (430, .if_icmp .eq 483, 3, 0, 0, 0), (433, .iconst 0, 1, 0, 0, 0), (434, .ireturn, 1, 0, 0, 0)], 435),
  (435, [(435, .aload_n 1, 1, 0, 0, 0), (436, .aload_n 0, 1, 0, 0, 0), (437, .iload_n 3, 1, 0, 0, 0), (438, .iconst 1, 1, 0, 0, 0), (439, .iadd, 1, 0, 0, 0), (440, .iaload, 1, 0, 0, 0), (441, .invokevirtual 53, 3, 65, 0, 429), (444, .aload_n 2, 1, 0, 0, 0), (445, .aload_n 0, 1, 0, 0, 0), (446, .iload_n 3, 1, 0, 0, 0), (447, .iconst 1, 1, 0, 0, 0), (448, .iadd, 1, 0, 0, 0), (449, .iaload, 1, 0, 0, 0), (450, .invokevirtual 56, 3, 110, 0, 740), (453, .if_icmp .eq 460, 3, 0, 0, 0), (456, .iconst 0, 1, 0, 0, 0), (457, .ireturn, 1, 0, 0, 0)], 458),
  (458, [(458, .aload_n 1, 1, 0, 0, 0), (459, .aload_n 0, 1, 0, 0, 0), (460, .iload_n 3, 1, 0, 0, 0), (461, .iconst 1, 1, 0, 0, 0), (462, .iadd, 1, 0, 0, 0), (463, .iaload, 1, 0, 0, 0), (464, .invokevirtual 57, 3, 66, 0, 445), (467, .aload_n 2, 1, 0, 0, 0), (468, .aload_n 0, 1, 0, 0, 0), (469, .iload_n 3, 1, 0, 0, 0), (470, .iconst 1, 1, 0, 0, 0), (471, .iadd, 1, 0, 0, 0), (472, .iaload, 1, 0, 0, 0), (473, .invokevirtual 60, 3, 111, 0, 752), (476, .if_icmp .eq 437, 3, 0, 0, 0), (479, .iconst 0, 1, 0, 0, 0), (480, .ireturn, 1, 0, 0, 0)], 481),
  (481, [(481, .aload_n 1, 1, 0, 0, 0), (482, .aload_n 0, 1, 0, 0, 0), (483, .iload_n 3, 1, 0, 0, 0), (484, .iconst 1, 1, 0, 0, 0), (485, .iadd, 1, 0, 0, 0), (486, .iaload, 1, 0, 0, 0), (487, .invokevirtual 61, 3, 67, 0, 450), (490, .aload_n 2, 1, 0, 0, 0), (491, .aload_n 0, 1, 0, 0, 0), (492, .iload_n 3, 1, 0, 0, 0), (493, .iconst 1, 1, 0, 0, 0), (494, .iadd, 1, 0, 0, 0), (495, .iaload, 1, 0, 0, 0), (496, .invokevirtual 64, 3, 113, 0, 756), (499, .if_icmp .eq 414, 3, 0, 0, 0), (502, .iconst 0, 1, 0, 0, 0), (503, .ireturn, 1, 0, 0, 0)], 504),
  (504, [(504, .aload_n 1, 1, 0, 0, 0), (505, .aload_n 0, 1, 0, 0, 0), (506, .iload_n 3, 1, 0, 0, 0), (507, .iconst 1, 1, 0, 0, 0), (508, .iadd, 1, 0, 0, 0), (509, .iaload, 1, 0, 0, 0), (510, .invokevirtual 65, 3, 68, 0, 459), (513, .aload_n 2, 1, 0, 0, 0), (514, .aload_n 0, 1, 0, 0, 0), (515, .iload_n 3, 1, 0, 0, 0), (516, .iconst 1, 1, 0, 0, 0), (517, .iadd, 1, 0, 0, 0), (518, .iaload, 1, 0, 0, 0), (519, .invokevirtual 68, 3, 114, 0, 764), (522, .if_icmp .eq 391, 3, 0, 0, 0), (525, .iconst 0, 1, 0, 0, 0), (526, .ireturn, 1, 0, 0, 0)], 527),
  (527, [(527, .aload_n 1, 1, 0, 0, 0), (528, .aload_n 0, 1, 0, 0, 0), (529, .iload_n 3, 1, 0, 0, 0), (530, .iconst 1, 1, 0, 0, 0), (531, .iadd, 1, 0, 0, 0), (532, .iaload, 1, 0, 0, 0), (533, .aload_n 0, 1, 0, 0, 0), (534, .iload_n 3, 1, 0, 0, 0), (535, .iconst 2, 1, 0, 0, 0), (536, .iadd, 1, 0, 0, 0), (537, .iaload, 1, 0, 0, 0), (538, .aload_n 0, 1, 0, 0, 0), (539, .iload_n 3, 1, 0, 0, 0), (540, .iconst 3, 1, 0, 0, 0), (541, .iadd, 1, 0, 0, 0), (542, .iaload, 1, 0, 0, 0), (543, .invokevirtual 69, 3, 69, 0, 463), (546, .aload_n 2, 1, 0, 0, 0), (547, .aload_n 0, 1, 0, 0, 0), (548, .iload_n 3, 1, 0, 0, 0), (549, .iconst 1, 1, 0, 0, 0), (550, .iadd, 1, 0, 0, 0), (551, .iaload, 1, 0, 0, 0), (552, .aload_n 0, 1, 0, 0, 0), (553, .iload_n 3, 1, 0, 0, 0), (554, .iconst 2, 1, 0, 0, 0), (555, .iadd, 1, 0, 0, 0), (556, .iaload, 1, 0, 0, 0), (557, .aload_n 0, 1, 0, 0, 0), (558, .iload_n 3, 1, 0, 0, 0), (559, .iconst 3, 1, 0, 0, 0), (560, .iadd, 1, 0, 0, 0), (561, .iaload, 1, 0, 0, 0), (562, .invokevirtual 72, 3, 119, 0, 768), (565, .if_icmp .eq 348, 3, 0, 0, 0), (568, .iconst 0, 1, 0, 0, 0), (569, .ireturn, 1, 0, 0, 0)], 570),
  (570, [(570, .aload_n 1, 1, 0, 0, 0), (571, .aload_n 0, 1, 0, 0, 0), (572, .iload_n 3, 1, 0, 0, 0), (573, .iconst 1, 1, 0, 0, 0), (574, .iadd, 1, 0, 0, 0), (575, .iaload, 1, 0, 0, 0), (576, .aload_n 0, 1, 0, 0, 0), (577, .iload_n 3, 1, 0, 0, 0), (578, .iconst 2, 1, 0, 0, 0), (579, .iadd, 1, 0, 0, 0), (580, .iaload, 1, 0, 0, 0), (581, .invokevirtual 73, 3, 70, 0, 484), (584, .aload_n 2, 1, 0, 0, 0), (585, .aload_n 0, 1, 0, 0, 0), (586, .iload_n 3, 1, 0, 0, 0), (587, .iconst 1, 1, 0, 0, 0), (588, .iadd, 1, 0, 0, 0), (589, .iaload, 1, 0, 0, 0), (590, .aload_n 0, 1, 0, 0, 0), (591, .iload_n 3, 1, 0, 0, 0), (592, .iconst 2, 1, 0, 0, 0), (593, .iadd, 1, 0, 0, 0), (594, .iaload, 1, 0, 0, 0), (595, .invokevirtual 76, 3, 121, 0, 785), (598, .if_icmp .eq 315, 3, 0, 0, 0), (601, .iconst 0, 1, 0, 0, 0), (602, .ireturn, 1, 0, 0, 0)], 603),
  (603, [(603, .aload_n 1, 1, 0, 0, 0), (604, .aload_n 0, 1, 0, 0, 0), (605, .iload_n 3, 1, 0, 0, 0), (606, .iconst 1, 1, 0, 0, 0), (607, .iadd, 1, 0, 0, 0), (608, .iaload, 1, 0, 0, 0), (609, .aload_n 0, 1, 0, 0, 0), (610, .iload_n 3, 1, 0, 0, 0), (611, .iconst 2, 1, 0, 0, 0), (612, .iadd, 1, 0, 0, 0), (613, .iaload, 1, 0, 0, 0), (614, .invokevirtual 77, 3, 71, 0, 488), (617, .aload_n 2, 1, 0, 0, 0), (618, .aload_n 0, 1, 0, 0, 0), (619, .iload_n 3, 1, 0, 0, 0), (620, .iconst 1, 1, 0, 0, 0), (621, .iadd, 1, 0, 0, 0), (622, .iaload, 1, 0, 0, 0), (623, .aload_n 0, 1, 0, 0, 0), (624, .iload_n 3, 1, 0, 0, 0), (625, .iconst 2, 1, 0, 0, 0), (626, .iadd, 1, 0, 0, 0), (627, .iaload, 1, 0, 0, 0), (628, .invokevirtual 80, 3, 122, 0, 793), (631, .if_icmp .eq 282, 3, 0, 0, 0), (634, .iconst 0, 1, 0, 0, 0), (635, .ireturn, 1, 0, 0, 0)], 636),
  (636, [(636, .aload_n 1, 1, 0, 0, 0), (637, .aload_n 0, 1, 0, 0, 0), (638, .iload_n 3, 1, 0, 0, 0), (639, .iconst 1, 1, 0, 0, 0), (640, .iadd, 1, 0, 0, 0), (641, .iaload, 1, 0, 0, 0), (642, .aload_n 0, 1, 0, 0, 0), (643, .iload_n 3, 1, 0, 0, 0), (644, .iconst 2, 1, 0, 0, 0), (645, .iadd, 1, 0, 0, 0), (646, .iaload, 1, 0, 0, 0), (647, .invokevirtual 81, 3, 72, 0, 497), (650, .aload_n 2, 1, 0, 0, 0), (651, .aload_n 0, 1, 0, 0, 0), (652, .iload_n 3, 1, 0, 0, 0), (653, .iconst 1, 1, 0, 0, 0), (654, .iadd, 1, 0, 0, 0), (655, .iaload, 1, 0, 0, 0), (656, .aload_n 0, 1, 0, 0, 0), (657, .iload_n 3, 1, 0, 0, 0), (658, .iconst 2, 1, 0, 0, 0), (659, .iadd, 1, 0, 0, 0), (660, .iaload, 1, 0, 0, 0), (661, .invokevirtual 84, 3, 123, 0, 797), (664, .if_icmp .eq 249, 3, 0, 0, 0), (667, .iconst 0, 1, 0, 0, 0), (668, .ireturn, 1, 0, 0, 0)], 669),
  (669, [(669, .aload_n 1, 1, 0, 0, 0), (670, .aload_n 0, 1, 0, 0, 0), (671, .iload_n 3, 1, 0, 0, 0), (672, .iconst 1, 1, 0, 0, 0), (673, .iadd, 1, 0, 0, 0), (674, .iaload, 1, 0, 0, 0), (675, .invokevirtual 85, 3, 73, 0, 507), (678, .aload_n 2, 1, 0, 0, 0), (679, .aload_n 0, 1, 0, 0, 0), (680, .iload_n 3, 1, 0, 0, 0), (681, .iconst 1, 1, 0, 0, 0), (682, .iadd, 1, 0, 0, 0), (683, .iaload, 1, 0, 0, 0), (684, .invokevirtual 88, 3, 124, 0, 801), (687, .if_icmp .eq 226, 3, 0, 0, 0), (690, .iconst 0, 1, 0, 0, 0), (691, .ireturn, 1, 0, 0, 0)], 692),
  (692, [(692, .aload_n 1, 1, 0, 0, 0), (693, .aload_n 0, 1, 0, 0, 0), (694, .iload_n 3, 1, 0, 0, 0), (695, .iconst 1, 1, 0, 0, 0), (696, .iadd, 1, 0, 0, 0), (697, .iaload, 1, 0, 0, 0), (698, .i2l, 1, 0, 0, 0), (699, .bipush 32, 2, 0, 0, 0), (701, .lshl, 1, 0, 0, 0), (702, .aload_n 0, 1, 0, 0, 0), (703, .iload_n 3, 1, 0, 0, 0), (704, .iconst 2, 1, 0, 0, 0), (705, .iadd, 1, 0, 0, 0), (706, .iaload, 1, 0, 0, 0), (707, .i2l, 1, 0, 0, 0), (708, .ldc2_w 89, 3, 4294967295, 0, 852), (711, .land, 1, 0, 0, 0), (712, .lor, 1, 0, 0, 0), (713, .aload_n 0, 1, 0, 0, 0), (714, .iload_n 3, 1, 0, 0, 0), (715, .iconst 3, 1, 0, 0, 0), (716, .iadd, 1, 0, 0, 0), (717, .iaload, 1, 0, 0, 0), (718, .invokevirtual 91, 3, 74, 0, 521), (721, .aload_n 2, 1, 0, 0, 0), (722, .aload_n 0, 1, 0, 0, 0), (723, .iload_n 3, 1, 0, 0, 0), (724, .iconst 1, 1, 0, 0, 0), (725, .iadd, 1, 0, 0, 0), (726, .iaload, 1, 0, 0, 0), (727, .i2l, 1, 0, 0, 0), (728, .bipush 32, 2, 0, 0, 0), (730, .lshl, 1, 0, 0, 0), (731, .aload_n 0, 1, 0, 0, 0), (732, .iload_n 3, 1, 0, 0, 0), (733, .iconst 2, 1, 0, 0, 0), (734, .iadd, 1, 0, 0, 0), (735, .iaload, 1, 0, 0, 0), (736, .i2l, 1, 0, 0, 0), (737, .ldc2_w 89, 3, 4294967295, 0, 852), (740, .land, 1, 0, 0, 0), (741, .lor, 1, 0, 0, 0), (742, .aload_n 0, 1, 0, 0, 0), (743, .iload_n 3, 1, 0, 0, 0), (744, .iconst 3, 1, 0, 0, 0), (745, .iadd, 1, 0, 0, 0), (746, .iaload, 1, 0, 0, 0), (747, .invokevirtual 95, 3, 125, 0, 805), (750, .if_icmp .eq 163, 3, 0, 0, 0), (753, .iconst 0, 1, 0, 0, 0), (754, .ireturn, 1, 0, 0, 0)], 755),
  (755, [(755, .aload_n 1, 1, 0, 0, 0), (756, .invokevirtual 96, 3, 75, 0, 533), (759, .aload_n 2, 1, 0, 0, 0), (760, .invokevirtual 99, 3, 126, 0, 810), (763, .if_icmp .eq 150, 3, 0, 0, 0), (766, .iconst 0, 1, 0, 0, 0), (767, .ireturn, 1, 0, 0, 0)], 768),
  (768, [(768, .aload_n 1, 1, 0, 0, 0), (769, .aload_n 0, 1, 0, 0, 0), (770, .iload_n 3, 1, 0, 0, 0), (771, .iconst 1, 1, 0, 0, 0), (772, .iadd, 1, 0, 0, 0), (773, .iaload, 1, 0, 0, 0), (774, .invokevirtual 100, 3, 76, 0, 537), (777, .aload_n 2, 1, 0, 0, 0), (778, .aload_n 0, 1, 0, 0, 0), (779, .iload_n 3, 1, 0, 0, 0), (780, .iconst 1, 1, 0, 0, 0), (781, .iadd, 1, 0, 0, 0), (782, .iaload, 1, 0, 0, 0), (783, .invokevirtual 103, 3, 128, 0, 814), (786, .if_icmp .eq 127, 3, 0, 0, 0), (789, .iconst 0, 1, 0, 0, 0), (790, .ireturn, 1, 0, 0, 0)], 791),
  (791, [(791, .aload_n 1, 1, 0, 0, 0), (792, .aload_n 0, 1, 0, 0, 0), (793, .iload_n 3, 1, 0, 0, 0), (794, .iconst 1, 1, 0, 0, 0), (795, .iadd, 1, 0, 0, 0), (796, .iaload, 1, 0, 0, 0), (797, .aload_n 0, 1, 0, 0, 0), (798, .iload_n 3, 1, 0, 0, 0), (799, .iconst 2, 1, 0, 0, 0), (800, .iadd, 1, 0, 0, 0), (801, .iaload, 1, 0, 0, 0), (802, .invokevirtual 104, 3, 77, 0, 572), (805, .aload_n 2, 1, 0, 0, 0), (806, .aload_n 0, 1, 0, 0, 0), (807, .iload_n 3, 1, 0, 0, 0), (808, .iconst 1, 1, 0, 0, 0), (809, .iadd, 1, 0, 0, 0), (810, .iaload, 1, 0, 0, 0), (811, .aload_n 0, 1, 0, 0, 0), (812, .iload_n 3, 1, 0, 0, 0), (813, .iconst 2, 1, 0, 0, 0), (814, .iadd, 1, 0, 0, 0), (815, .iaload, 1, 0, 0, 0), (816, .invokevirtual 107, 3, 133, 0, 822), (819, .if_icmp .eq 94, 3, 0, 0, 0), (822, .iconst 0, 1, 0, 0, 0), (823, .ireturn, 1, 0, 0, 0)], 824),
  (824, [(824, .aload_n 1, 1, 0, 0, 0), (825, .aload_n 0, 1, 0, 0, 0), (826, .iload_n 3, 1, 0, 0, 0), (827, .iconst 1, 1, 0, 0, 0), (828, .iadd, 1, 0, 0, 0), (829, .iaload, 1, 0, 0, 0), (830, .invokevirtual 108, 3, 78, 0, 586), (833, .aload_n 2, 1, 0, 0, 0), (834, .aload_n 0, 1, 0, 0, 0), (835, .iload_n 3, 1, 0, 0, 0), (836, .iconst 1, 1, 0, 0, 0), (837, .iadd, 1, 0, 0, 0), (838, .iaload, 1, 0, 0, 0), (839, .invokevirtual 111, 3, 134, 0, 840), (842, .if_icmp .eq 71, 3, 0, 0, 0), (845, .iconst 0, 1, 0, 0, 0), (846, .ireturn, 1, 0, 0, 0)], 847),
  (847, [(847, .aload_n 1, 1, 0, 0, 0), (848, .aload_n 0, 1, 0, 0, 0), (849, .iload_n 3, 1, 0, 0, 0), (850, .iconst 1, 1, 0, 0, 0), (851, .iadd, 1, 0, 0, 0), (852, .iaload, 1, 0, 0, 0), (853, .aload_n 0, 1, 0, 0, 0), (854, .iload_n 3, 1, 0, 0, 0), (855, .iconst 2, 1, 0, 0, 0), (856, .iadd, 1, 0, 0, 0), (857, .iaload, 1, 0, 0, 0), (858, .aload_n 0, 1, 0, 0, 0), (859, .iload_n 3, 1, 0, 0, 0), (860, .iconst 3, 1, 0, 0, 0), (861, .iadd, 1, 0, 0, 0), (862, .iaload, 1, 0, 0, 0), (863, .invokevirtual 112, 3, 79, 0, 590), (866, .aload_n 2, 1, 0, 0, 0), (867, .aload_n 0, 1, 0, 0, 0), (868, .iload_n 3, 1, 0, 0, 0), (869, .iconst 1, 1, 0, 0, 0), (870, .iadd, 1, 0, 0, 0), (871, .iaload, 1, 0, 0, 0), (872, .aload_n 0, 1, 0, 0, 0), (873, .iload_n 3, 1, 0, 0, 0), (874, .iconst 2, 1, 0, 0, 0), (875, .iadd, 1, 0, 0, 0), (876, .iaload, 1, 0, 0, 0), (877, .aload_n 0, 1, 0, 0, 0), (878, .iload_n 3, 1, 0, 0, 0), (879, .iconst 3, 1, 0, 0, 0), (880, .iadd, 1, 0, 0, 0), (881, .iaload, 1, 0, 0, 0), (882, .invokevirtual 115, 3, 135, 0, 844), (885, .if_icmp .eq 28, 3, 0, 0, 0), (888, .iconst 0, 1, 0, 0, 0), (889, .ireturn, 1, 0, 0, 0)], 890),
  (890, [(890, .aload_n 1, 1, 0, 0, 0), (891, .aload_n 0, 1, 0, 0, 0), (892, .iload_n 3, 1, 0, 0, 0), (893, .iconst 1, 1, 0, 0, 0), (894, .iadd, 1, 0, 0, 0), (895, .iaload, 1, 0, 0, 0), (896, .invokevirtual 116, 3, 80, 0, 594), (899, .aload_n 2, 1, 0, 0, 0), (900, .aload_n 0, 1, 0, 0, 0), (901, .iload_n 3, 1, 0, 0, 0), (902, .iconst 1, 1, 0, 0, 0), (903, .iadd, 1, 0, 0, 0), (904, .iaload, 1, 0, 0, 0), (905, .invokevirtual 119, 3, 136, 0, 848), (908, .if_icmp .eq 5, 3, 0, 0, 0), (911, .iconst 0, 1, 0, 0, 0), (912, .ireturn, 1, 0, 0, 0)], 913),
  (913, [(913, .iinc 3 4, 3, 0, 0, 0), (916, .goto (-898), 3, 0, 0, 0)], 919),
  (919, [(919, .iconst 1, 1, 0, 0, 0), (920, .ireturn, 1, 0, 0, 0)], 921)]
def zcodes : List (List (Nat × List zE × Nat)) := [zc_0, zc_1, zc_2, zc_3, zc_4, zc_5, zc_6, zc_7, zc_8, zc_9, zc_10, zc_11, zc_12, zc_13, zc_14, zc_15, zc_16, zc_17, zc_18, zc_19, zc_20, zc_21, zc_22, zc_23, zc_24, zc_25, zc_26, zc_27, zc_28, zc_29, zc_30, zc_31, zc_32, zc_33, zc_34, zc_35, zc_36, zc_37, zc_38, zc_39, zc_40, zc_41, zc_42, zc_43, zc_44, zc_45, zc_46, zc_47, zc_48, zc_49, zc_50, zc_51, zc_52, zc_53, zc_54, zc_55, zc_56, zc_57, zc_58, zc_59, zc_60, zc_61, zc_62, zc_63, zc_64, zc_65, zc_66, zc_67, zc_68, zc_69, zc_70, zc_71, zc_72, zc_73, zc_74, zc_75, zc_76, zc_77, zc_78, zc_79, zc_80, zc_81, zc_82, zc_83, zc_84, zc_85, zc_86, zc_87, zc_88, zc_89, zc_90, zc_91, zc_92, zc_93, zc_94, zc_95, zc_96, zc_97, zc_98, zc_99, zc_100, zc_101, zc_102, zc_103, zc_104, zc_105, zc_106, zc_107, zc_108, zc_109, zc_110, zc_111, zc_112, zc_113, zc_114, zc_115, zc_116, zc_117, zc_118, zc_119, zc_120, zc_121, zc_122, zc_123, zc_124, zc_125, zc_126, zc_127, zc_128, zc_129, zc_130, zc_131, zc_132, zc_133, zc_134, zc_135, zc_136, zc_137]
/-- class name, method, bytes, locals, return, static, its class in vwCl, parameters, places in lw_tbl of: code, initialized, static or instanceMethod, selects -/
def zinfos : List zI := [(RX5, yX5_fits, cX5_fits, 2, some .boolean, true, 99, 2, 263, 32, 262, 0),
  (RX5, yX5_full, cX5_full, 1, some .int, true, 99, 1, 111, 32, 110, 0),
  (RX5, yX5_ofPlace, cX5_ofPlace, 1, some .int, true, 99, 1, 227, 32, 226, 0),
  (RX5, yX5_bit, cX5_bit, 2, some .int, true, 99, 2, 283, 32, 282, 0),
  (RX5, yX5_widened, cX5_widened, 2, some .int, true, 99, 2, 275, 32, 274, 0),
  (RX5, yX5_pick, cX5_pick, 3, some .int, true, 99, 3, 371, 32, 370, 0),
  (RX5, yX5_tellOfTwo, cX5_tellOfTwo, 5, some .int, true, 99, 3, 479, 32, 478, 0),
  (RX5, yX5_tell, cX5_tell, 4, some .int, true, 99, 4, 569, 32, 568, 0),
  (RX5, yX5_toldRows, cX5_toldRows, 13, some .int, true, 99, 4, 476, 32, 475, 0),
  (RX5, yX5_pickedRows, cX5_pickedRows, 6, some .int, true, 99, 4, 483, 32, 482, 0),
  (RX5, yX5_otherHalf, cX5_otherHalf, 5, some .int, true, 99, 2, 286, 32, 285, 0),
  (RX5, yX5_matteringPlaces, cX5_matteringPlaces, 5, some .int, true, 99, 2, 578, 32, 577, 0),
  (RX5, yX5_keptBits, cX5_keptBits, 3, some .int, true, 99, 2, 280, 32, 279, 0),
  (RX5, yX5_isRising, cX5_isRising, 4, some .boolean, true, 99, 2, 289, 32, 288, 0),
  (RX5, yX5_isSum, cX5_isSum, 5, some .boolean, true, 99, 2, 292, 32, 291, 0),
  (RX7, yX7_begin, cX7_begin, 1, some .int, true, 99, 1, 342, 37, 341, 0),
  (RX7, yX7_with, cX7_with, 3, some .int, true, 99, 3, 357, 37, 356, 0),
  (RX7, yX7_letter, cX7_letter, 1, some .int, true, 99, 1, 398, 37, 397, 0),
  (RX7, yX7_part, cX7_part, 2, some .int, true, 99, 2, 401, 37, 400, 0),
  (RX7, yX7_shiftOf, cX7_shiftOf, 1, some .int, true, 99, 1, 360, 37, 359, 0),
  (RX0, yX0_becomeX, cX0_becomeX, 1, none, false, 0, 0, 224, 35, 222, 223),
  (RX0, yX0_become, cX0_become, 5, none, false, 0, 4, 231, 35, 229, 230),
  (RX3, yX3_become, cX3_become, 4, none, false, 3, 3, 272, 30, 270, 271),
  (RX3, yX3_preserves, cX3_preserves, 3, some .boolean, false, 3, 2, 473, 30, 471, 472),
  (RX4, yX4_has, cX4_has, 2, some .boolean, false, 4, 1, 305, 29, 303, 304),
  (RX4, yX4_hasAll, cX4_hasAll, 2, some .boolean, false, 4, 1, 436, 29, 434, 435),
  (RX4, yX4_append, cX4_append, 5, some .int, false, 4, 3, 268, 29, 266, 267),
  (RX4, yX4_ofThreePlaces, cX4_ofThreePlaces, 3, some .int, false, 4, 0, 325, 29, 323, 324),
  (RX4, yX4_keptByAll, cX4_keptByAll, 4, some .int, false, 4, 1, 444, 29, 442, 443),
  (RX4, yX4_saysAll, cX4_saysAll, 2, some .boolean, false, 4, 1, 440, 29, 438, 439),
  (RX4, yX4_isLeastSet, cX4_isLeastSet, 3, some .boolean, false, 4, 1, 457, 29, 455, 456),
  (RX4, yX4_allPreserve, cX4_allPreserve, 4, some .boolean, false, 4, 2, 519, 29, 517, 518),
  (RX4, yX4_preservedRelations, cX4_preservedRelations, 4, some .int, false, 4, 1, 514, 29, 512, 513),
  (RX4, yX4_grown, cX4_grown, 7, some .int, false, 4, 2, 495, 29, 493, 494),
  (RX6, yX6_hasRoom, cX6_hasRoom, 2, some .boolean, false, 5, 1, 528, 33, 526, 527),
  (RX6, yX6_append, cX6_append, 5, none, false, 5, 2, 532, 33, 530, 531),
  (RX6, yX6_byteAt, cX6_byteAt, 2, some .int, false, 5, 1, 555, 33, 553, 554),
  (RX2, yX2_understands, cX2_understands, 1, some .boolean, false, 2, 0, 547, 34, 545, 546),
  (RX2, yX2_tableOfNext, cX2_tableOfNext, 5, some .int, false, 2, 1, 551, 34, 550, 10),
  (RX2, yX2_tableOfParts, cX2_tableOfParts, 9, some .int, false, 2, 2, 561, 34, 560, 11),
  (RX2, yX2_takes, cX2_takes, 2, some .boolean, false, 2, 1, 565, 34, 564, 12),
  (RX1, yX1_explore, cX1_explore, 5, none, false, 1, 1, 333, 31, 331, 332),
  (RX1, yX1_begin, cX1_begin, 4, none, false, 1, 1, 337, 31, 336, 3),
  (RX1, yX1_cheapestOpen, cX1_cheapestOpen, 4, some .int, false, 1, 0, 350, 31, 349, 5),
  (RX1, yX1_join, cX1_join, 5, none, false, 1, 3, 354, 31, 353, 6),
  (RX1, yX1_joinAt, cX1_joinAt, 17, none, false, 1, 4, 364, 31, 363, 7),
  (RX1, yX1_joinLast, cX1_joinLast, 9, none, false, 1, 5, 375, 31, 374, 8),
  (RX1, yX1_leftOf, cX1_leftOf, 6, some .int, true, 1, 4, 367, 31, 366, 0),
  (RX1, yX1_offer, cX1_offer, 5, none, false, 1, 3, 346, 31, 345, 4),
  (RX1, yX1_covers, cX1_covers, 2, some .boolean, false, 1, 1, 387, 31, 386, 9),
  (RX1, yX1_leastCost, cX1_leastCost, 2, some .int, false, 1, 1, 383, 31, 381, 382),
  (RX1, yX1_wayTo, cX1_wayTo, 2, some .int, false, 1, 1, 395, 31, 393, 394),
  (RX1, yX1_greatestCost, cX1_greatestCost, 3, some .int, false, 1, 0, 409, 31, 407, 408),
  (RX1, yX1_firstCosting, cX1_firstCosting, 3, some .int, false, 1, 1, 416, 31, 414, 415),
  (RX1, yX1_firstUnreached, cX1_firstUnreached, 2, some .int, false, 1, 0, 420, 31, 418, 419),
  (RX1, yX1_howManyCost, cX1_howManyCost, 4, some .int, false, 1, 1, 428, 31, 426, 427),
  (RX8, yX8_sign, cX8_sign, 5, some .int, false, 6, 3, 260, 28, 258, 259),
  (RX8, yX8_drop, cX8_drop, 1, some .int, false, 6, 0, 297, 28, 295, 296),
  (RX8, yX8_about, cX8_about, 4, some .int, false, 6, 2, 301, 28, 299, 300),
  (RX8, yX8_keeps, cX8_keeps, 3, some .int, false, 6, 2, 309, 28, 307, 308),
  (RX8, yX8_reached, cX8_reached, 2, some .int, false, 6, 1, 314, 28, 312, 313),
  (RX8, yX8_least, cX8_least, 3, some .int, false, 6, 2, 379, 28, 377, 378),
  (RX8, yX8_by, cX8_by, 6, some .int, false, 6, 3, 391, 28, 389, 390),
  (RX8, yX8_farthest, cX8_farthest, 4, some .int, false, 6, 2, 405, 28, 403, 404),
  (RX8, yX8_costing, cX8_costing, 3, some .int, false, 6, 2, 424, 28, 422, 423),
  (RX8, yX8_says, cX8_says, 2, some .int, false, 6, 1, 432, 28, 430, 431),
  (RX8, yX8_lacks, cX8_lacks, 2, some .int, false, 6, 1, 448, 28, 446, 447),
  (RX8, yX8_sets, cX8_sets, 4, some .int, false, 6, 1, 453, 28, 451, 452),
  (RX8, yX8_alone, cX8_alone, 4, some .int, false, 6, 1, 462, 28, 460, 461),
  (RX8, yX8_lets, cX8_lets, 4, some .int, false, 6, 3, 466, 28, 464, 465),
  (RX8, yX8_letting, cX8_letting, 5, some .int, false, 6, 2, 487, 28, 485, 486),
  (RX8, yX8_around, cX8_around, 3, some .int, false, 6, 2, 491, 28, 489, 490),
  (RX8, yX8_sorts, cX8_sorts, 7, some .int, false, 6, 2, 500, 28, 498, 499),
  (RX8, yX8_kept, cX8_kept, 2, some .int, false, 6, 1, 510, 28, 508, 509),
  (RX8, yX8_type, cX8_type, 4, some .int, false, 6, 2, 524, 28, 522, 523),
  (RX8, yX8_clear, cX8_clear, 2, some .int, false, 6, 0, 536, 28, 534, 535),
  (RX8, yX8_read, cX8_read, 3, some .int, false, 6, 1, 540, 28, 538, 539),
  (RX8, yX8_formula, cX8_formula, 4, some .int, false, 6, 2, 575, 28, 573, 574),
  (RX8, yX8_leastened, cX8_leastened, 2, some .int, false, 6, 1, 589, 28, 587, 588),
  (RX8, yX8_both, cX8_both, 7, some .int, false, 6, 3, 593, 28, 591, 592),
  (RX8, yX8_count, cX8_count, 2, some .int, false, 6, 1, 597, 28, 595, 596),
  (RX8, yX8_forgetAnswers, cX8_forgetAnswers, 2, none, false, 6, 0, 220, 28, 219, 0),
  (RX8, yX8_isCount, cX8_isCount, 1, some .boolean, true, 6, 1, 317, 28, 316, 0),
  (RX8, yX8_isRelation, cX8_isRelation, 2, some .boolean, true, 6, 2, 469, 28, 468, 0),
  (RX8, yX8_isFormula, cX8_isFormula, 1, some .boolean, true, 6, 1, 543, 28, 542, 0),
  (RX8, yX8_isBarred, cX8_isBarred, 2, some .boolean, false, 6, 1, 321, 28, 320, 1),
  (RX8, yX8_reachOf, cX8_reachOf, 3, some (.object "FewSigns$Reach"), false, 6, 1, 329, 28, 328, 2),
  (RJ6, yJ6_bitCount_0f7a4, cJ6_bitCount_0f7a4, 1, some .int, true, 99, 1, 582, 39, 581, 0),
  (RJ9, yJ9_max_7cf53, cJ9_max_7cf53, 2, some .int, false, 99, 2, 412, 38, 411, 0),
  (RX9, yX9_in, cX9_in, 3, some .boolean, true, 7, 3, 678, 36, 677, 0),
  (RX9, yX9_empties, cX9_empties, 2, none, false, 7, 0, 607, 36, 606, 13),
  (RX9, yX9_tables, cX9_tables, 1, some .int, true, 7, 1, 681, 36, 680, 0),
  (RX9, yX9_sign, cX9_sign, 4, some .int, false, 7, 3, 675, 36, 673, 674),
  (RX9, yX9_drop, cX9_drop, 1, some .int, false, 7, 0, 685, 36, 683, 684),
  (RX9, yX9_keepsOf, cX9_keepsOf, 13, some .int, true, 7, 2, 692, 36, 691, 0),
  (RX9, yX9_about, cX9_about, 3, some .int, false, 7, 2, 689, 36, 687, 688),
  (RX9, yX9_keeps, cX9_keeps, 3, some .int, false, 7, 2, 696, 36, 694, 695),
  (RX9, yX9_hasThree, cX9_hasThree, 3, some .boolean, false, 7, 0, 708, 36, 707, 15),
  (RX9, yX9_joined, cX9_joined, 9, some .int, false, 7, 5, 719, 36, 718, 17),
  (RX9, yX9_place, cX9_place, 4, some .int, true, 7, 2, 715, 36, 714, 0),
  (RX9, yX9_finds, cX9_finds, 16, none, false, 7, 1, 712, 36, 711, 16),
  (RX9, yX9_refuses, cX9_refuses, 2, some .int, false, 7, 1, 704, 36, 703, 14),
  (RX9, yX9_reached, cX9_reached, 5, some .int, false, 7, 1, 700, 36, 698, 699),
  (RX9, yX9_least, cX9_least, 3, some .int, false, 7, 2, 723, 36, 721, 722),
  (RX9, yX9_isBy, cX9_isBy, 15, some .boolean, false, 7, 3, 731, 36, 730, 18),
  (RX9, yX9_by, cX9_by, 5, some .int, false, 7, 3, 727, 36, 725, 726),
  (RX9, yX9_farthest, cX9_farthest, 7, some .int, false, 7, 2, 735, 36, 733, 734),
  (RX9, yX9_costing, cX9_costing, 5, some .int, false, 7, 2, 739, 36, 737, 738),
  (RX9, yX9_isSet, cX9_isSet, 2, some .boolean, false, 7, 1, 747, 36, 746, 19),
  (RX9, yX9_lacksOf, cX9_lacksOf, 4, some .int, false, 7, 1, 751, 36, 750, 20),
  (RX9, yX9_says, cX9_says, 2, some .int, false, 7, 1, 743, 36, 741, 742),
  (RX9, yX9_lacks, cX9_lacks, 2, some .int, false, 7, 1, 755, 36, 753, 754),
  (RX9, yX9_isLeastSet, cX9_isLeastSet, 4, some .boolean, false, 7, 1, 763, 36, 762, 21),
  (RX9, yX9_sets, cX9_sets, 4, some .int, false, 7, 1, 759, 36, 757, 758),
  (RX9, yX9_alone, cX9_alone, 4, some .int, false, 7, 1, 767, 36, 765, 766),
  (RX9, yX9_isRelation, cX9_isRelation, 2, some .boolean, true, 7, 2, 774, 36, 773, 0),
  (RX9, yX9_told, cX9_told, 8, some .int, true, 7, 5, 784, 36, 783, 0),
  (RX9, yX9_makes, cX9_makes, 10, some .int, true, 7, 4, 781, 36, 780, 0),
  (RX9, yX9_isLet, cX9_isLet, 4, some .boolean, false, 7, 3, 778, 36, 777, 22),
  (RX9, yX9_lets, cX9_lets, 4, some .int, false, 7, 3, 771, 36, 769, 770),
  (RX9, yX9_lettingOf, cX9_lettingOf, 5, some .int, false, 7, 2, 792, 36, 791, 23),
  (RX9, yX9_letting, cX9_letting, 3, some .int, false, 7, 2, 788, 36, 786, 787),
  (RX9, yX9_around, cX9_around, 6, some .int, false, 7, 2, 796, 36, 794, 795),
  (RX9, yX9_sorts, cX9_sorts, 4, some .int, false, 7, 2, 800, 36, 798, 799),
  (RX9, yX9_kept, cX9_kept, 4, some .int, false, 7, 1, 804, 36, 802, 803),
  (RX9, yX9_type, cX9_type, 5, some .int, false, 7, 2, 808, 36, 806, 807),
  (RX9, yX9_clear, cX9_clear, 2, some .int, false, 7, 0, 813, 36, 811, 812),
  (RX9, yX9_isFormula, cX9_isFormula, 9, some .boolean, false, 7, 0, 821, 36, 820, 24),
  (RX9, yX9_read, cX9_read, 3, some .int, false, 7, 1, 817, 36, 815, 816),
  (RX9, yX9_judges, cX9_judges, 10, none, false, 7, 1, 833, 36, 832, 26),
  (RX9, yX9_otherHalf, cX9_otherHalf, 3, some .int, true, 7, 1, 839, 36, 838, 0),
  (RX9, yX9_matters, cX9_matters, 4, some .int, true, 7, 1, 836, 36, 835, 0),
  (RX9, yX9_tableOf, cX9_tableOf, 2, some .int, false, 7, 1, 829, 36, 828, 25),
  (RX9, yX9_formula, cX9_formula, 6, some .int, false, 7, 2, 825, 36, 823, 824),
  (RX9, yX9_leastened, cX9_leastened, 3, some .int, false, 7, 1, 843, 36, 841, 842),
  (RX9, yX9_both, cX9_both, 7, some .int, false, 7, 3, 847, 36, 845, 846),
  (RX9, yX9_count, cX9_count, 4, some .int, false, 7, 1, 851, 36, 849, 850),
  (RL, yL_law, cL_law, 4, some .boolean, false, 99, 1, 0, 0, 0, 0)]
