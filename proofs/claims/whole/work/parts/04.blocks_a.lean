/-! printed: the blocks -/
/- HillPaths$Choice.<init>()V -/
def b_Choice_init_0 : mm_B := ([(0, .aload_n 0, 1, (0, 0, 0), 0), (1, .invokespecial 3, 3, (0, 0, 0), 0), (4, .aload_n 0, 1, (0, 0, 0), 0), (5, .bipush 30, 2, (0, 0, 0), 30), (7, .newarray .int, 2, (20, 0, 0), 0), (9, .putfield 9, 3, (0, 0, 22), 0), (12, .aload_n 0, 1, (0, 0, 0), 0), (13, .bipush 30, 2, (0, 0, 0), 30), (15, .newarray .int, 2, (21, 0, 0), 0), (17, .putfield 15, 3, (0, 1, 23), 0), (20, .aload_n 0, 1, (0, 0, 0), 0), (21, .bipush 30, 2, (0, 0, 0), 30), (23, .newarray .boolean, 2, (200, 0, 0), 0), (25, .putfield 18, 3, (0, 2, 202), 0), (28, .aload_n 0, 1, (0, 0, 0), 0), (29, .bipush 7, 2, (0, 0, 0), 7), (31, .newarray .int, 2, (22, 0, 0), 0), (33, .putfield 22, 3, (0, 3, 24), 0), (36, .aload_n 0, 1, (0, 0, 0), 0), (37, .bipush 6, 2, (0, 0, 0), 6), (39, .newarray .int, 2, (23, 0, 0), 0), (41, .putfield 25, 3, (0, 4, 25), 0), (44, .aload_n 0, 1, (0, 0, 0), 0), (45, .bipush 6, 2, (0, 0, 0), 6), (47, .newarray .int, 2, (24, 0, 0), 0), (49, .putfield 28, 3, (0, 5, 26), 0)], .inr (52, .return_, 1, (0, 0), (0, 0, 0), []))
def t_Choice_init : List mm_B := [b_Choice_init_0]
/- HillPaths$Choice.begin(II)V -/
def b_Choice_begin_0 : mm_B := ([(0, .aload_n 0, 1, (0, 0, 0), 0), (1, .bipush 6, 2, (0, 0, 0), 6), (3, .iload_n 1, 1, (0, 0, 0), 0), (4, .invokestatic 31, 3, (1, 0, 0), 0), (7, .putfield 37, 3, (0, 6, 0), 0), (10, .aload_n 0, 1, (0, 0, 0), 0), (11, .iload_n 2, 1, (0, 0, 0), 0), (12, .putfield 41, 3, (0, 7, 0), 0), (15, .iconst 0, 1, (0, 0, 0), 0), (16, .istore_n 3, 1, (0, 0, 0), 0)], .inl 1)
def b_Choice_begin_1 : mm_B := ([(17, .iload_n 3, 1, (0, 0, 0), 0), (18, .bipush 30, 2, (0, 0, 0), 30)], .inr (20, .if_icmp .ge 40, 3, (6, 2), (0, 0, 0), []))
def b_Choice_begin_2 : mm_B := ([(23, .aload_n 0, 1, (0, 0, 0), 0), (24, .getfield 9, 3, (0, 0, 21), 0), (27, .iload_n 3, 1, (0, 0, 0), 0), (28, .iconst 0, 1, (0, 0, 0), 0), (29, .iastore, 1, (0, 0, 0), 0), (30, .aload_n 0, 1, (0, 0, 0), 0), (31, .getfield 15, 3, (0, 1, 22), 0), (34, .iload_n 3, 1, (0, 0, 0), 0), (35, .iconst 0, 1, (0, 0, 0), 0), (36, .iastore, 1, (0, 0, 0), 0), (37, .aload_n 0, 1, (0, 0, 0), 0), (38, .getfield 18, 3, (0, 2, 201), 0), (41, .iload_n 3, 1, (0, 0, 0), 0), (42, .iload_n 3, 1, (0, 0, 0), 0), (43, .iconst 5, 1, (0, 0, 0), 5), (44, .irem, 1, (0, 0, 0), 0)], .inr (45, .ifCond .ne 7, 3, (4, 3), (0, 0, 0), []))
def b_Choice_begin_3 : mm_B := ([(48, .iconst 1, 1, (0, 0, 0), 1)], .inr (49, .goto 4, 3, (5, 0), (0, 0, 0), []))
def b_Choice_begin_4 : mm_B := ([(52, .iconst 0, 1, (0, 0, 0), 0)], .inl 5)
def b_Choice_begin_5 : mm_B := ([(53, .bastore, 1, (0, 0, 0), 0), (54, .iinc 3 1, 3, (0, 0, 0), 1)], .inr (57, .goto (-40), 3, (1, 0), (0, 0, 0), []))
def b_Choice_begin_6 : mm_B := ([], .inr (60, .return_, 1, (0, 0), (0, 0, 0), []))
def t_Choice_begin : List mm_B := [b_Choice_begin_0, b_Choice_begin_1, b_Choice_begin_2, b_Choice_begin_3, b_Choice_begin_4, b_Choice_begin_5, b_Choice_begin_6]
/- HillPaths$Choice.offer(IIII)V -/
def b_Choice_offer_0 : mm_B := ([(0, .iload_n 1, 1, (0, 0, 0), 0), (1, .iconst 5, 1, (0, 0, 0), 5), (2, .imul, 1, (0, 0, 0), 0), (3, .iload_n 2, 1, (0, 0, 0), 0), (4, .iadd, 1, (0, 0, 0), 0), (5, .istore 5, 2, (0, 0, 0), 0), (7, .iload 5, 2, (0, 0, 0), 0)], .inr (9, .ifCond .lt 10, 3, (2, 1), (0, 0, 0), []))
def b_Choice_offer_1 : mm_B := ([(12, .iload 5, 2, (0, 0, 0), 0), (14, .bipush 30, 2, (0, 0, 0), 30)], .inr (16, .if_icmp .lt 4, 3, (3, 2), (0, 0, 0), []))
def b_Choice_offer_2 : mm_B := ([], .inr (19, .return_, 1, (0, 0), (0, 0, 0), []))
def b_Choice_offer_3 : mm_B := ([(20, .aload_n 0, 1, (0, 0, 0), 0), (21, .getfield 9, 3, (0, 0, 21), 0), (24, .iload 5, 2, (0, 0, 0), 0), (26, .iload_n 3, 1, (0, 0, 0), 0), (27, .iastore, 1, (0, 0, 0), 0), (28, .aload_n 0, 1, (0, 0, 0), 0), (29, .getfield 15, 3, (0, 1, 22), 0), (32, .iload 5, 2, (0, 0, 0), 0), (34, .iload 4, 2, (0, 0, 0), 0), (36, .iastore, 1, (0, 0, 0), 0), (37, .aload_n 0, 1, (0, 0, 0), 0), (38, .getfield 18, 3, (0, 2, 201), 0), (41, .iload 5, 2, (0, 0, 0), 0), (43, .iconst 1, 1, (0, 0, 0), 1), (44, .bastore, 1, (0, 0, 0), 0)], .inr (45, .return_, 1, (0, 0), (0, 0, 0), []))
def t_Choice_offer : List mm_B := [b_Choice_offer_0, b_Choice_offer_1, b_Choice_offer_2, b_Choice_offer_3]
/- HillPaths$Choice.findBest()V -/
def b_Choice_findBest_0 : mm_B := ([(0, .aload_n 0, 1, (0, 0, 0), 0), (1, .getfield 22, 3, (0, 3, 23), 0), (4, .aload_n 0, 1, (0, 0, 0), 0), (5, .getfield 37, 3, (0, 6, 0), 0), (8, .iconst 0, 1, (0, 0, 0), 0), (9, .iastore, 1, (0, 0, 0), 0), (10, .aload_n 0, 1, (0, 0, 0), 0), (11, .getfield 37, 3, (0, 6, 0), 0), (14, .iconst 1, 1, (0, 0, 0), 1), (15, .isub, 1, (0, 0, 0), 0), (16, .istore_n 1, 1, (0, 0, 0), 0)], .inl 1)
def b_Choice_findBest_1 : mm_B := ([(17, .iload_n 1, 1, (0, 0, 0), 0)], .inr (18, .ifCond .lt 29, 3, (4, 2), (0, 0, 0), []))
def b_Choice_findBest_2 : mm_B := ([(21, .aload_n 0, 1, (0, 0, 0), 0), (22, .getfield 22, 3, (0, 3, 23), 0), (25, .iload_n 1, 1, (0, 0, 0), 0), (26, .aload_n 0, 1, (0, 0, 0), 0), (27, .getfield 22, 3, (0, 3, 23), 0), (30, .iload_n 1, 1, (0, 0, 0), 0), (31, .iconst 1, 1, (0, 0, 0), 1), (32, .iadd, 1, (0, 0, 0), 0), (33, .iaload, 1, (0, 0, 0), 0), (34, .aload_n 0, 1, (0, 0, 0), 0), (35, .iload_n 1, 1, (0, 0, 0), 0)], .inr (36, .invokevirtual 44, 3, (3, 0), (q_Choice_bestOf, 2, 0), []))
def b_Choice_findBest_3 : mm_B := ([(39, .iadd, 1, (0, 0, 0), 0), (40, .iastore, 1, (0, 0, 0), 0), (41, .iinc 1 (-1), 3, (0, 0, 0), (-1))], .inr (44, .goto (-27), 3, (1, 0), (0, 0, 0), []))
def b_Choice_findBest_4 : mm_B := ([(47, .aload_n 0, 1, (0, 0, 0), 0), (48, .iconst (-1), 1, (0, 0, 0), (-1)), (49, .putfield 48, 3, (0, 8, 0), 0), (52, .aload_n 0, 1, (0, 0, 0), 0), (53, .iconst 0, 1, (0, 0, 0), 0), (54, .putfield 51, 3, (0, 9, 0), 0), (57, .aload_n 0, 1, (0, 0, 0), 0), (58, .iconst 0, 1, (0, 0, 0), 0), (59, .iconst 0, 1, (0, 0, 0), 0), (60, .iconst 0, 1, (0, 0, 0), 0)], .inr (61, .invokevirtual 54, 3, (5, 0), (q_Choice_pick, 4, 0), []))
def b_Choice_findBest_5 : mm_B := ([], .inr (64, .return_, 1, (0, 0), (0, 0, 0), []))
def t_Choice_findBest : List mm_B := [b_Choice_findBest_0, b_Choice_findBest_1, b_Choice_findBest_2, b_Choice_findBest_3, b_Choice_findBest_4, b_Choice_findBest_5]
/- HillPaths$Choice.bestOf(I)I -/
def b_Choice_bestOf_0 : mm_B := ([(0, .iconst 0, 1, (0, 0, 0), 0), (1, .istore_n 2, 1, (0, 0, 0), 0), (2, .iconst 0, 1, (0, 0, 0), 0), (3, .istore_n 3, 1, (0, 0, 0), 0)], .inl 1)
def b_Choice_bestOf_1 : mm_B := ([(4, .iload_n 3, 1, (0, 0, 0), 0), (5, .iconst 5, 1, (0, 0, 0), 5)], .inr (6, .if_icmp .ge 37, 3, (5, 2), (0, 0, 0), []))
def b_Choice_bestOf_2 : mm_B := ([(9, .aload_n 0, 1, (0, 0, 0), 0), (10, .getfield 18, 3, (0, 2, 201), 0), (13, .iload_n 1, 1, (0, 0, 0), 0), (14, .iconst 5, 1, (0, 0, 0), 5), (15, .imul, 1, (0, 0, 0), 0), (16, .iload_n 3, 1, (0, 0, 0), 0), (17, .iadd, 1, (0, 0, 0), 0), (18, .baload, 1, (0, 0, 0), 0)], .inr (19, .ifCond .eq 18, 3, (4, 3), (0, 0, 0), []))
def b_Choice_bestOf_3 : mm_B := ([(22, .iload_n 2, 1, (0, 0, 0), 0), (23, .aload_n 0, 1, (0, 0, 0), 0), (24, .getfield 9, 3, (0, 0, 21), 0), (27, .iload_n 1, 1, (0, 0, 0), 0), (28, .iconst 5, 1, (0, 0, 0), 5), (29, .imul, 1, (0, 0, 0), 0), (30, .iload_n 3, 1, (0, 0, 0), 0), (31, .iadd, 1, (0, 0, 0), 0), (32, .iaload, 1, (0, 0, 0), 0), (33, .invokestatic 58, 3, (0, 0, 0), 0), (36, .istore_n 2, 1, (0, 0, 0), 0)], .inl 4)
def b_Choice_bestOf_4 : mm_B := ([(37, .iinc 3 1, 3, (0, 0, 0), 1)], .inr (40, .goto (-36), 3, (1, 0), (0, 0, 0), []))
def b_Choice_bestOf_5 : mm_B := ([(43, .iload_n 2, 1, (0, 0, 0), 0)], .inr (44, .ireturn, 1, (0, 0), (0, 0, 0), []))
def t_Choice_bestOf : List mm_B := [b_Choice_bestOf_0, b_Choice_bestOf_1, b_Choice_bestOf_2, b_Choice_bestOf_3, b_Choice_bestOf_4, b_Choice_bestOf_5]
/- HillPaths$Choice.pick(III)V -/
def b_Choice_pick_0 : mm_B := ([(0, .iload_n 3, 1, (0, 0, 0), 0), (1, .aload_n 0, 1, (0, 0, 0), 0), (2, .getfield 41, 3, (0, 7, 0), 0)], .inr (5, .if_icmp .gt 18, 3, (2, 1), (0, 0, 0), []))
def b_Choice_pick_1 : mm_B := ([(8, .iload_n 2, 1, (0, 0, 0), 0), (9, .aload_n 0, 1, (0, 0, 0), 0), (10, .getfield 22, 3, (0, 3, 23), 0), (13, .iload_n 1, 1, (0, 0, 0), 0), (14, .iaload, 1, (0, 0, 0), 0), (15, .iadd, 1, (0, 0, 0), 0), (16, .aload_n 0, 1, (0, 0, 0), 0), (17, .getfield 48, 3, (0, 8, 0), 0)], .inr (20, .if_icmp .ge 4, 3, (3, 2), (0, 0, 0), []))
def b_Choice_pick_2 : mm_B := ([], .inr (23, .return_, 1, (0, 0), (0, 0, 0), []))
def b_Choice_pick_3 : mm_B := ([(24, .iload_n 2, 1, (0, 0, 0), 0), (25, .aload_n 0, 1, (0, 0, 0), 0), (26, .getfield 22, 3, (0, 3, 23), 0), (29, .iload_n 1, 1, (0, 0, 0), 0), (30, .iaload, 1, (0, 0, 0), 0), (31, .iadd, 1, (0, 0, 0), 0), (32, .aload_n 0, 1, (0, 0, 0), 0), (33, .getfield 48, 3, (0, 8, 0), 0)], .inr (36, .if_icmp .ne 12, 3, (6, 4), (0, 0, 0), []))
def b_Choice_pick_4 : mm_B := ([(39, .iload_n 3, 1, (0, 0, 0), 0), (40, .aload_n 0, 1, (0, 0, 0), 0), (41, .getfield 51, 3, (0, 9, 0), 0)], .inr (44, .if_icmp .lt 4, 3, (6, 5), (0, 0, 0), []))
def b_Choice_pick_5 : mm_B := ([], .inr (47, .return_, 1, (0, 0), (0, 0, 0), []))
def b_Choice_pick_6 : mm_B := ([(48, .iload_n 1, 1, (0, 0, 0), 0), (49, .aload_n 0, 1, (0, 0, 0), 0), (50, .getfield 37, 3, (0, 6, 0), 0)], .inr (53, .if_icmp .lt 46, 3, (11, 7), (0, 0, 0), []))
def b_Choice_pick_7 : mm_B := ([(56, .aload_n 0, 1, (0, 0, 0), 0), (57, .iload_n 2, 1, (0, 0, 0), 0), (58, .putfield 48, 3, (0, 8, 0), 0), (61, .aload_n 0, 1, (0, 0, 0), 0), (62, .iload_n 3, 1, (0, 0, 0), 0), (63, .putfield 51, 3, (0, 9, 0), 0), (66, .iconst 0, 1, (0, 0, 0), 0), (67, .istore 4, 2, (0, 0, 0), 0)], .inl 8)
def b_Choice_pick_8 : mm_B := ([(69, .iload 4, 2, (0, 0, 0), 0), (71, .aload_n 0, 1, (0, 0, 0), 0), (72, .getfield 37, 3, (0, 6, 0), 0)], .inr (75, .if_icmp .ge 23, 3, (10, 9), (0, 0, 0), []))
def b_Choice_pick_9 : mm_B := ([(78, .aload_n 0, 1, (0, 0, 0), 0), (79, .getfield 28, 3, (0, 5, 25), 0), (82, .iload 4, 2, (0, 0, 0), 0), (84, .aload_n 0, 1, (0, 0, 0), 0), (85, .getfield 25, 3, (0, 4, 24), 0), (88, .iload 4, 2, (0, 0, 0), 0), (90, .iaload, 1, (0, 0, 0), 0), (91, .iastore, 1, (0, 0, 0), 0), (92, .iinc 4 1, 3, (0, 0, 0), 1)], .inr (95, .goto (-26), 3, (8, 0), (0, 0, 0), []))
def b_Choice_pick_10 : mm_B := ([], .inr (98, .return_, 1, (0, 0), (0, 0, 0), []))
def b_Choice_pick_11 : mm_B := ([(99, .iconst 0, 1, (0, 0, 0), 0), (100, .istore 4, 2, (0, 0, 0), 0)], .inl 12)
def b_Choice_pick_12 : mm_B := ([(102, .iload 4, 2, (0, 0, 0), 0), (104, .iconst 5, 1, (0, 0, 0), 5)], .inr (105, .if_icmp .ge 63, 3, (17, 13), (0, 0, 0), []))
def b_Choice_pick_13 : mm_B := ([(108, .iload_n 1, 1, (0, 0, 0), 0), (109, .iconst 5, 1, (0, 0, 0), 5), (110, .imul, 1, (0, 0, 0), 0), (111, .iload 4, 2, (0, 0, 0), 0), (113, .iadd, 1, (0, 0, 0), 0), (114, .istore 5, 2, (0, 0, 0), 0), (116, .aload_n 0, 1, (0, 0, 0), 0), (117, .getfield 18, 3, (0, 2, 201), 0), (120, .iload 5, 2, (0, 0, 0), 0), (122, .baload, 1, (0, 0, 0), 0)], .inr (123, .ifCond .ne 6, 3, (15, 14), (0, 0, 0), []))
def b_Choice_pick_14 : mm_B := ([], .inr (126, .goto 36, 3, (16, 0), (0, 0, 0), []))
def b_Choice_pick_15 : mm_B := ([(129, .aload_n 0, 1, (0, 0, 0), 0), (130, .getfield 25, 3, (0, 4, 24), 0), (133, .iload_n 1, 1, (0, 0, 0), 0), (134, .iload 4, 2, (0, 0, 0), 0), (136, .iastore, 1, (0, 0, 0), 0), (137, .aload_n 0, 1, (0, 0, 0), 0), (138, .iload_n 1, 1, (0, 0, 0), 0), (139, .iconst 1, 1, (0, 0, 0), 1), (140, .iadd, 1, (0, 0, 0), 0), (141, .iload_n 2, 1, (0, 0, 0), 0), (142, .aload_n 0, 1, (0, 0, 0), 0), (143, .getfield 9, 3, (0, 0, 21), 0), (146, .iload 5, 2, (0, 0, 0), 0), (148, .iaload, 1, (0, 0, 0), 0), (149, .iadd, 1, (0, 0, 0), 0), (150, .iload_n 3, 1, (0, 0, 0), 0), (151, .aload_n 0, 1, (0, 0, 0), 0), (152, .getfield 15, 3, (0, 1, 22), 0), (155, .iload 5, 2, (0, 0, 0), 0), (157, .iaload, 1, (0, 0, 0), 0), (158, .iadd, 1, (0, 0, 0), 0)], .inr (159, .invokevirtual 54, 3, (16, 0), (q_Choice_pick, 4, 0), []))
def b_Choice_pick_16 : mm_B := ([(162, .iinc 4 1, 3, (0, 0, 0), 1)], .inr (165, .goto (-63), 3, (12, 0), (0, 0, 0), []))
def b_Choice_pick_17 : mm_B := ([], .inr (168, .return_, 1, (0, 0), (0, 0, 0), []))
def t_Choice_pick : List mm_B := [b_Choice_pick_0, b_Choice_pick_1, b_Choice_pick_2, b_Choice_pick_3, b_Choice_pick_4, b_Choice_pick_5, b_Choice_pick_6, b_Choice_pick_7, b_Choice_pick_8, b_Choice_pick_9, b_Choice_pick_10, b_Choice_pick_11, b_Choice_pick_12, b_Choice_pick_13, b_Choice_pick_14, b_Choice_pick_15, b_Choice_pick_16, b_Choice_pick_17]
/- HillPaths$Counter.<init>()V -/
def b_Counter_init_0 : mm_B := ([(0, .aload_n 0, 1, (0, 0, 0), 0), (1, .invokespecial 3, 3, (0, 0, 0), 0), (4, .aload_n 0, 1, (0, 0, 0), 0), (5, .iconst (-1), 1, (0, 0, 0), (-1)), (6, .putfield 9, 3, (1, 0, 0), 0), (9, .aload_n 0, 1, (0, 0, 0), 0), (10, .iconst 0, 1, (0, 0, 0), 0), (11, .putfield 15, 3, (1, 1, 0), 0), (14, .aload_n 0, 1, (0, 0, 0), 0), (15, .bipush 24, 2, (0, 0, 0), 24), (17, .newarray .int, 2, (25, 0, 0), 0), (19, .putfield 18, 3, (1, 2, 27), 0)], .inr (22, .return_, 1, (0, 0), (0, 0, 0), []))
def t_Counter_init : List mm_B := [b_Counter_init_0]
/- HillPaths$Counter.begin(II)V -/
def b_Counter_begin_0 : mm_B := ([(0, .aload_n 0, 1, (0, 0, 0), 0), (1, .iload_n 1, 1, (0, 0, 0), 0), (2, .putfield 9, 3, (1, 0, 0), 0), (5, .aload_n 0, 1, (0, 0, 0), 0), (6, .iconst 0, 1, (0, 0, 0), 0), (7, .bipush 24, 2, (0, 0, 0), 24), (9, .iload_n 2, 1, (0, 0, 0), 0), (10, .invokestatic 22, 3, (1, 0, 0), 0), (13, .invokestatic 28, 3, (0, 0, 0), 0), (16, .putfield 15, 3, (1, 1, 0), 0), (19, .iconst 0, 1, (0, 0, 0), 0), (20, .istore_n 3, 1, (0, 0, 0), 0)], .inl 1)
def b_Counter_begin_1 : mm_B := ([(21, .iload_n 3, 1, (0, 0, 0), 0), (22, .bipush 24, 2, (0, 0, 0), 24)], .inr (24, .if_icmp .ge 16, 3, (3, 2), (0, 0, 0), []))
def b_Counter_begin_2 : mm_B := ([(27, .aload_n 0, 1, (0, 0, 0), 0), (28, .getfield 18, 3, (1, 2, 26), 0), (31, .iload_n 3, 1, (0, 0, 0), 0), (32, .iconst 0, 1, (0, 0, 0), 0), (33, .iastore, 1, (0, 0, 0), 0), (34, .iinc 3 1, 3, (0, 0, 0), 1)], .inr (37, .goto (-16), 3, (1, 0), (0, 0, 0), []))
def b_Counter_begin_3 : mm_B := ([], .inr (40, .return_, 1, (0, 0), (0, 0, 0), []))
def t_Counter_begin : List mm_B := [b_Counter_begin_0, b_Counter_begin_1, b_Counter_begin_2, b_Counter_begin_3]
/- HillPaths$Counter.become(LHillPaths$Counter;)V -/
def b_Counter_become_0 : mm_B := ([(0, .aload_n 0, 1, (0, 0, 0), 0), (1, .aload_n 1, 1, (0, 0, 0), 0), (2, .getfield 9, 3, (1, 0, 0), 0), (5, .putfield 9, 3, (1, 0, 0), 0), (8, .aload_n 0, 1, (0, 0, 0), 0), (9, .aload_n 1, 1, (0, 0, 0), 0), (10, .getfield 15, 3, (1, 1, 0), 0), (13, .putfield 15, 3, (1, 1, 0), 0), (16, .aload_n 1, 1, (0, 0, 0), 0), (17, .getfield 18, 3, (1, 2, 26), 0), (20, .iconst 0, 1, (0, 0, 0), 0), (21, .aload_n 0, 1, (0, 0, 0), 0), (22, .getfield 18, 3, (1, 2, 26), 0), (25, .iconst 0, 1, (0, 0, 0), 0), (26, .bipush 24, 2, (0, 0, 0), 24), (28, .invokestatic 31, 3, (2, 0, 0), 0)], .inr (31, .return_, 1, (0, 0), (0, 0, 0), []))
def t_Counter_become : List mm_B := [b_Counter_become_0]
/- HillPaths$Counter.hasPlaces(II)Z -/
def b_Counter_hasPlaces_0 : mm_B := ([(0, .iload_n 2, 1, (0, 0, 0), 0)], .inr (1, .ifCond .lt 29, 3, (5, 1), (0, 0, 0), []))
def b_Counter_hasPlaces_1 : mm_B := ([(4, .iload_n 1, 1, (0, 0, 0), 0)], .inr (5, .ifCond .lt 25, 3, (5, 2), (0, 0, 0), []))
def b_Counter_hasPlaces_2 : mm_B := ([(8, .iload_n 1, 1, (0, 0, 0), 0), (9, .aload_n 0, 1, (0, 0, 0), 0), (10, .getfield 15, 3, (1, 1, 0), 0)], .inr (13, .if_icmp .gt 17, 3, (5, 3), (0, 0, 0), []))
def b_Counter_hasPlaces_3 : mm_B := ([(16, .iload_n 2, 1, (0, 0, 0), 0), (17, .aload_n 0, 1, (0, 0, 0), 0), (18, .getfield 15, 3, (1, 1, 0), 0), (21, .iload_n 1, 1, (0, 0, 0), 0), (22, .isub, 1, (0, 0, 0), 0)], .inr (23, .if_icmp .gt 7, 3, (5, 4), (0, 0, 0), []))
def b_Counter_hasPlaces_4 : mm_B := ([(26, .iconst 1, 1, (0, 0, 0), 1)], .inr (27, .goto 4, 3, (6, 0), (0, 0, 0), []))
def b_Counter_hasPlaces_5 : mm_B := ([(30, .iconst 0, 1, (0, 0, 0), 0)], .inl 6)
def b_Counter_hasPlaces_6 : mm_B := ([], .inr (31, .ireturn, 1, (0, 0), (1, 0, 0), []))
def t_Counter_hasPlaces : List mm_B := [b_Counter_hasPlaces_0, b_Counter_hasPlaces_1, b_Counter_hasPlaces_2, b_Counter_hasPlaces_3, b_Counter_hasPlaces_4, b_Counter_hasPlaces_5, b_Counter_hasPlaces_6]
/- HillPaths$Counter.gapCount()I -/
def b_Counter_gapCount_0 : mm_B := ([(0, .iconst 0, 1, (0, 0, 0), 0), (1, .istore_n 1, 1, (0, 0, 0), 0), (2, .iconst 0, 1, (0, 0, 0), 0), (3, .istore_n 2, 1, (0, 0, 0), 0)], .inl 1)
def b_Counter_gapCount_1 : mm_B := ([(4, .iload_n 2, 1, (0, 0, 0), 0), (5, .aload_n 0, 1, (0, 0, 0), 0), (6, .getfield 15, 3, (1, 1, 0), 0)], .inr (9, .if_icmp .ge 22, 3, (5, 2), (0, 0, 0), []))
def b_Counter_gapCount_2 : mm_B := ([(12, .aload_n 0, 1, (0, 0, 0), 0), (13, .getfield 18, 3, (1, 2, 26), 0), (16, .iload_n 2, 1, (0, 0, 0), 0), (17, .iaload, 1, (0, 0, 0), 0), (18, .iconst (-1), 1, (0, 0, 0), (-1))], .inr (19, .if_icmp .ne 6, 3, (4, 3), (0, 0, 0), []))
def b_Counter_gapCount_3 : mm_B := ([(22, .iinc 1 1, 3, (0, 0, 0), 1)], .inl 4)
def b_Counter_gapCount_4 : mm_B := ([(25, .iinc 2 1, 3, (0, 0, 0), 1)], .inr (28, .goto (-24), 3, (1, 0), (0, 0, 0), []))
def b_Counter_gapCount_5 : mm_B := ([(31, .iload_n 1, 1, (0, 0, 0), 0)], .inr (32, .ireturn, 1, (0, 0), (0, 0, 0), []))
def t_Counter_gapCount : List mm_B := [b_Counter_gapCount_0, b_Counter_gapCount_1, b_Counter_gapCount_2, b_Counter_gapCount_3, b_Counter_gapCount_4, b_Counter_gapCount_5]
/- HillPaths$Counter.edgeOfSpan(II)I -/
def b_Counter_edgeOfSpan_0 : mm_B := ([(0, .aload_n 0, 1, (0, 0, 0), 0), (1, .iload_n 1, 1, (0, 0, 0), 0)], .inr (2, .invokevirtual 37, 3, (1, 0), (q_Counter_lastNumberUpTo, 2, 1), []))
def b_Counter_edgeOfSpan_1 : mm_B := ([(5, .istore_n 3, 1, (0, 0, 0), 0), (6, .aload_n 0, 1, (0, 0, 0), 0), (7, .iload_n 1, 1, (0, 0, 0), 0)], .inr (8, .invokevirtual 41, 3, (2, 0), (q_Counter_firstNumberFrom, 2, 1), []))
def b_Counter_edgeOfSpan_2 : mm_B := ([(11, .istore 4, 2, (0, 0, 0), 0), (13, .iload_n 3, 1, (0, 0, 0), 0), (14, .iconst (-1), 1, (0, 0, 0), (-1))], .inr (15, .if_icmp .ne 6, 3, (4, 3), (0, 0, 0), []))
def b_Counter_edgeOfSpan_3 : mm_B := ([(18, .iload 4, 2, (0, 0, 0), 0)], .inr (20, .ireturn, 1, (0, 0), (0, 0, 0), []))
def b_Counter_edgeOfSpan_4 : mm_B := ([(21, .iload 4, 2, (0, 0, 0), 0), (23, .iconst (-1), 1, (0, 0, 0), (-1))], .inr (24, .if_icmp .ne 5, 3, (6, 5), (0, 0, 0), []))
def b_Counter_edgeOfSpan_5 : mm_B := ([(27, .iload_n 3, 1, (0, 0, 0), 0)], .inr (28, .ireturn, 1, (0, 0), (0, 0, 0), []))
def b_Counter_edgeOfSpan_6 : mm_B := ([(29, .iload_n 2, 1, (0, 0, 0), 0), (30, .iconst 1, 1, (0, 0, 0), 1)], .inr (31, .if_icmp .ne 12, 3, (8, 7), (0, 0, 0), []))
def b_Counter_edgeOfSpan_7 : mm_B := ([(34, .iload_n 3, 1, (0, 0, 0), 0), (35, .iload 4, 2, (0, 0, 0), 0), (37, .invokestatic 28, 3, (0, 0, 0), 0)], .inr (40, .goto 9, 3, (9, 0), (0, 0, 0), []))
def b_Counter_edgeOfSpan_8 : mm_B := ([(43, .iload_n 3, 1, (0, 0, 0), 0), (44, .iload 4, 2, (0, 0, 0), 0), (46, .invokestatic 22, 3, (1, 0, 0), 0)], .inl 9)
def b_Counter_edgeOfSpan_9 : mm_B := ([], .inr (49, .ireturn, 1, (0, 0), (0, 0, 0), []))
def t_Counter_edgeOfSpan : List mm_B := [b_Counter_edgeOfSpan_0, b_Counter_edgeOfSpan_1, b_Counter_edgeOfSpan_2, b_Counter_edgeOfSpan_3, b_Counter_edgeOfSpan_4, b_Counter_edgeOfSpan_5, b_Counter_edgeOfSpan_6, b_Counter_edgeOfSpan_7, b_Counter_edgeOfSpan_8, b_Counter_edgeOfSpan_9]
/- HillPaths$Counter.lastNumberUpTo(I)I -/
def b_Counter_lastNumberUpTo_0 : mm_B := ([(0, .iload_n 1, 1, (0, 0, 0), 0), (1, .aload_n 0, 1, (0, 0, 0), 0), (2, .getfield 15, 3, (1, 1, 0), 0), (5, .iconst 1, 1, (0, 0, 0), 1), (6, .isub, 1, (0, 0, 0), 0), (7, .invokestatic 22, 3, (1, 0, 0), 0), (10, .istore_n 2, 1, (0, 0, 0), 0)], .inl 1)
def b_Counter_lastNumberUpTo_1 : mm_B := ([(11, .iload_n 2, 1, (0, 0, 0), 0)], .inr (12, .ifCond .lt 26, 3, (5, 2), (0, 0, 0), []))
def b_Counter_lastNumberUpTo_2 : mm_B := ([(15, .aload_n 0, 1, (0, 0, 0), 0), (16, .getfield 18, 3, (1, 2, 26), 0), (19, .iload_n 2, 1, (0, 0, 0), 0), (20, .iaload, 1, (0, 0, 0), 0), (21, .iconst (-1), 1, (0, 0, 0), (-1))], .inr (22, .if_icmp .eq 10, 3, (4, 3), (0, 0, 0), []))
def b_Counter_lastNumberUpTo_3 : mm_B := ([(25, .aload_n 0, 1, (0, 0, 0), 0), (26, .getfield 18, 3, (1, 2, 26), 0), (29, .iload_n 2, 1, (0, 0, 0), 0), (30, .iaload, 1, (0, 0, 0), 0)], .inr (31, .ireturn, 1, (0, 0), (0, 0, 0), []))
def b_Counter_lastNumberUpTo_4 : mm_B := ([(32, .iinc 2 (-1), 3, (0, 0, 0), (-1))], .inr (35, .goto (-24), 3, (1, 0), (0, 0, 0), []))
def b_Counter_lastNumberUpTo_5 : mm_B := ([(38, .iconst (-1), 1, (0, 0, 0), (-1))], .inr (39, .ireturn, 1, (0, 0), (0, 0, 0), []))
def t_Counter_lastNumberUpTo : List mm_B := [b_Counter_lastNumberUpTo_0, b_Counter_lastNumberUpTo_1, b_Counter_lastNumberUpTo_2, b_Counter_lastNumberUpTo_3, b_Counter_lastNumberUpTo_4, b_Counter_lastNumberUpTo_5]
/- HillPaths$Counter.firstNumberFrom(I)I -/
def b_Counter_firstNumberFrom_0 : mm_B := ([(0, .iconst 0, 1, (0, 0, 0), 0), (1, .iload_n 1, 1, (0, 0, 0), 0), (2, .invokestatic 28, 3, (0, 0, 0), 0), (5, .istore_n 2, 1, (0, 0, 0), 0)], .inl 1)
def b_Counter_firstNumberFrom_1 : mm_B := ([(6, .iload_n 2, 1, (0, 0, 0), 0), (7, .aload_n 0, 1, (0, 0, 0), 0), (8, .getfield 15, 3, (1, 1, 0), 0)], .inr (11, .if_icmp .ge 26, 3, (5, 2), (0, 0, 0), []))
def b_Counter_firstNumberFrom_2 : mm_B := ([(14, .aload_n 0, 1, (0, 0, 0), 0), (15, .getfield 18, 3, (1, 2, 26), 0), (18, .iload_n 2, 1, (0, 0, 0), 0), (19, .iaload, 1, (0, 0, 0), 0), (20, .iconst (-1), 1, (0, 0, 0), (-1))], .inr (21, .if_icmp .eq 10, 3, (4, 3), (0, 0, 0), []))
def b_Counter_firstNumberFrom_3 : mm_B := ([(24, .aload_n 0, 1, (0, 0, 0), 0), (25, .getfield 18, 3, (1, 2, 26), 0), (28, .iload_n 2, 1, (0, 0, 0), 0), (29, .iaload, 1, (0, 0, 0), 0)], .inr (30, .ireturn, 1, (0, 0), (0, 0, 0), []))
def b_Counter_firstNumberFrom_4 : mm_B := ([(31, .iinc 2 1, 3, (0, 0, 0), 1)], .inr (34, .goto (-28), 3, (1, 0), (0, 0, 0), []))
def b_Counter_firstNumberFrom_5 : mm_B := ([(37, .iconst (-1), 1, (0, 0, 0), (-1))], .inr (38, .ireturn, 1, (0, 0), (0, 0, 0), []))
def t_Counter_firstNumberFrom : List mm_B := [b_Counter_firstNumberFrom_0, b_Counter_firstNumberFrom_1, b_Counter_firstNumberFrom_2, b_Counter_firstNumberFrom_3, b_Counter_firstNumberFrom_4, b_Counter_firstNumberFrom_5]
/- HillPaths$Flights.<init>()V -/
def b_Flights_init_0 : mm_B := ([(0, .aload_n 0, 1, (0, 0, 0), 0), (1, .invokespecial 3, 3, (0, 0, 0), 0), (4, .aload_n 0, 1, (0, 0, 0), 0), (5, .bipush 10, 2, (0, 0, 0), 10), (7, .newarray .int, 2, (26, 0, 0), 0), (9, .putfield 9, 3, (2, 0, 28), 0), (12, .aload_n 0, 1, (0, 0, 0), 0), (13, .bipush 10, 2, (0, 0, 0), 10), (15, .newarray .int, 2, (27, 0, 0), 0), (17, .putfield 15, 3, (2, 1, 29), 0)], .inr (20, .return_, 1, (0, 0), (0, 0, 0), []))
def t_Flights_init : List mm_B := [b_Flights_init_0]
/- HillPaths$Flights.findFewest(LHillPaths$Rows;)V -/
def b_Flights_findFewest_0 : mm_B := ([(0, .iconst 0, 1, (0, 0, 0), 0), (1, .istore_n 2, 1, (0, 0, 0), 0), (2, .iconst 0, 1, (0, 0, 0), 0), (3, .istore_n 3, 1, (0, 0, 0), 0)], .inl 1)
def b_Flights_findFewest_1 : mm_B := ([(4, .iload_n 3, 1, (0, 0, 0), 0), (5, .aload_n 1, 1, (0, 0, 0), 0), (6, .getfield 18, 3, (7, 3, 0), 0)], .inr (9, .if_icmp .ge 18, 3, (4, 2), (0, 0, 0), []))
def b_Flights_findFewest_2 : mm_B := ([(12, .iload_n 2, 1, (0, 0, 0), 0), (13, .aload_n 1, 1, (0, 0, 0), 0), (14, .iload_n 3, 1, (0, 0, 0), 0), (15, .iconst 0, 1, (0, 0, 0), 0)], .inr (16, .invokevirtual 24, 3, (3, 0), (q_Rows_at, 3, 7), []))
def b_Flights_findFewest_3 : mm_B := ([(19, .iadd, 1, (0, 0, 0), 0), (20, .istore_n 2, 1, (0, 0, 0), 0), (21, .iinc 3 1, 3, (0, 0, 0), 1)], .inr (24, .goto (-20), 3, (1, 0), (0, 0, 0), []))
def b_Flights_findFewest_4 : mm_B := ([(27, .iload_n 2, 1, (0, 0, 0), 0), (28, .bipush 100, 2, (0, 0, 0), 100), (30, .iadd, 1, (0, 0, 0), 0), (31, .iconst 1, 1, (0, 0, 0), 1), (32, .isub, 1, (0, 0, 0), 0), (33, .bipush 100, 2, (0, 0, 0), 100), (35, .idiv, 1, (0, 0, 0), 0), (36, .istore_n 3, 1, (0, 0, 0), 0), (37, .iload_n 3, 1, (0, 0, 0), 0), (38, .istore 4, 2, (0, 0, 0), 0)], .inl 5)
def b_Flights_findFewest_5 : mm_B := ([(40, .iload 4, 2, (0, 0, 0), 0), (42, .aload_n 1, 1, (0, 0, 0), 0), (43, .getfield 18, 3, (7, 3, 0), 0)], .inr (46, .if_icmp .gt 49, 3, (13, 6), (0, 0, 0), []))
def b_Flights_findFewest_6 : mm_B := ([(49, .aload_n 0, 1, (0, 0, 0), 0), (50, .iload 4, 2, (0, 0, 0), 0), (52, .putfield 28, 3, (2, 2, 0), 0), (55, .iconst 0, 1, (0, 0, 0), 0), (56, .istore 5, 2, (0, 0, 0), 0)], .inl 7)
def b_Flights_findFewest_7 : mm_B := ([(58, .iload 5, 2, (0, 0, 0), 0), (60, .bipush 10, 2, (0, 0, 0), 10)], .inr (62, .if_icmp .ge 17, 3, (9, 8), (0, 0, 0), []))
def b_Flights_findFewest_8 : mm_B := ([(65, .aload_n 0, 1, (0, 0, 0), 0), (66, .getfield 15, 3, (2, 1, 28), 0), (69, .iload 5, 2, (0, 0, 0), 0), (71, .iconst 0, 1, (0, 0, 0), 0), (72, .iastore, 1, (0, 0, 0), 0), (73, .iinc 5 1, 3, (0, 0, 0), 1)], .inr (76, .goto (-18), 3, (7, 0), (0, 0, 0), []))
def b_Flights_findFewest_9 : mm_B := ([(79, .aload_n 0, 1, (0, 0, 0), 0), (80, .aload_n 1, 1, (0, 0, 0), 0), (81, .iconst 0, 1, (0, 0, 0), 0)], .inr (82, .invokevirtual 31, 3, (10, 0), (q_Flights_place, 3, 2), []))
def b_Flights_findFewest_10 : mm_B := ([], .inr (85, .ifCond .eq 4, 3, (12, 11), (0, 0, 0), []))
def b_Flights_findFewest_11 : mm_B := ([], .inr (88, .return_, 1, (0, 0), (0, 0, 0), []))
def b_Flights_findFewest_12 : mm_B := ([(89, .iinc 4 1, 3, (0, 0, 0), 1)], .inr (92, .goto (-52), 3, (5, 0), (0, 0, 0), []))
def b_Flights_findFewest_13 : mm_B := ([], .inr (95, .return_, 1, (0, 0), (0, 0, 0), []))
def t_Flights_findFewest : List mm_B := [b_Flights_findFewest_0, b_Flights_findFewest_1, b_Flights_findFewest_2, b_Flights_findFewest_3, b_Flights_findFewest_4, b_Flights_findFewest_5, b_Flights_findFewest_6, b_Flights_findFewest_7, b_Flights_findFewest_8, b_Flights_findFewest_9, b_Flights_findFewest_10, b_Flights_findFewest_11, b_Flights_findFewest_12, b_Flights_findFewest_13]
/- HillPaths$Flights.place(LHillPaths$Rows;I)Z -/
def b_Flights_place_0 : mm_B := ([(0, .iload_n 2, 1, (0, 0, 0), 0), (1, .aload_n 1, 1, (0, 0, 0), 0), (2, .getfield 18, 3, (7, 3, 0), 0)], .inr (5, .if_icmp .ge 9, 3, (2, 1), (0, 0, 0), []))
def b_Flights_place_1 : mm_B := ([(8, .iload_n 2, 1, (0, 0, 0), 0), (9, .bipush 10, 2, (0, 0, 0), 10)], .inr (11, .if_icmp .lt 5, 3, (3, 2), (0, 0, 0), []))
def b_Flights_place_2 : mm_B := ([(14, .iconst 1, 1, (0, 0, 0), 1)], .inr (15, .ireturn, 1, (0, 0), (1, 0, 0), []))
def b_Flights_place_3 : mm_B := ([(16, .aload_n 1, 1, (0, 0, 0), 0), (17, .iload_n 2, 1, (0, 0, 0), 0), (18, .iconst 0, 1, (0, 0, 0), 0)], .inr (19, .invokevirtual 24, 3, (4, 0), (q_Rows_at, 3, 7), []))
def b_Flights_place_4 : mm_B := ([(22, .istore_n 3, 1, (0, 0, 0), 0), (23, .iconst 0, 1, (0, 0, 0), 0), (24, .istore 4, 2, (0, 0, 0), 0)], .inl 5)
def b_Flights_place_5 : mm_B := ([(26, .iload 4, 2, (0, 0, 0), 0), (28, .aload_n 0, 1, (0, 0, 0), 0), (29, .getfield 28, 3, (2, 2, 0), 0)], .inr (32, .if_icmp .ge 85, 3, (16, 6), (0, 0, 0), []))
def b_Flights_place_6 : mm_B := ([(35, .iload 4, 2, (0, 0, 0), 0), (37, .bipush 10, 2, (0, 0, 0), 10)], .inr (39, .if_icmp .ge 78, 3, (16, 7), (0, 0, 0), []))
def b_Flights_place_7 : mm_B := ([(42, .aload_n 0, 1, (0, 0, 0), 0), (43, .getfield 15, 3, (2, 1, 28), 0), (46, .iload 4, 2, (0, 0, 0), 0), (48, .iaload, 1, (0, 0, 0), 0), (49, .iload_n 3, 1, (0, 0, 0), 0), (50, .iadd, 1, (0, 0, 0), 0), (51, .bipush 100, 2, (0, 0, 0), 100)], .inr (53, .if_icmp .gt 58, 3, (15, 8), (0, 0, 0), []))
def b_Flights_place_8 : mm_B := ([(56, .aload_n 0, 1, (0, 0, 0), 0), (57, .iload 4, 2, (0, 0, 0), 0)], .inr (59, .invokevirtual 35, 3, (9, 0), (q_Flights_isLikeOneAhead, 2, 2), []))
def b_Flights_place_9 : mm_B := ([], .inr (62, .ifCond .eq 6, 3, (11, 10), (0, 0, 0), []))
def b_Flights_place_10 : mm_B := ([], .inr (65, .goto 46, 3, (15, 0), (0, 0, 0), []))
def b_Flights_place_11 : mm_B := ([(68, .aload_n 0, 1, (0, 0, 0), 0), (69, .getfield 15, 3, (2, 1, 28), 0), (72, .iload 4, 2, (0, 0, 0), 0), (74, .dup2, 1, (0, 0, 0), 0), (75, .iaload, 1, (0, 0, 0), 0), (76, .iload_n 3, 1, (0, 0, 0), 0), (77, .iadd, 1, (0, 0, 0), 0), (78, .iastore, 1, (0, 0, 0), 0), (79, .aload_n 0, 1, (0, 0, 0), 0), (80, .getfield 9, 3, (2, 0, 27), 0), (83, .iload_n 2, 1, (0, 0, 0), 0), (84, .iload 4, 2, (0, 0, 0), 0), (86, .iastore, 1, (0, 0, 0), 0), (87, .aload_n 0, 1, (0, 0, 0), 0), (88, .aload_n 1, 1, (0, 0, 0), 0), (89, .iload_n 2, 1, (0, 0, 0), 0), (90, .iconst 1, 1, (0, 0, 0), 1), (91, .iadd, 1, (0, 0, 0), 0)], .inr (92, .invokevirtual 31, 3, (12, 0), (q_Flights_place, 3, 2), []))
def b_Flights_place_12 : mm_B := ([], .inr (95, .ifCond .eq 5, 3, (14, 13), (0, 0, 0), []))
def b_Flights_place_13 : mm_B := ([(98, .iconst 1, 1, (0, 0, 0), 1)], .inr (99, .ireturn, 1, (0, 0), (1, 0, 0), []))
def b_Flights_place_14 : mm_B := ([(100, .aload_n 0, 1, (0, 0, 0), 0), (101, .getfield 15, 3, (2, 1, 28), 0), (104, .iload 4, 2, (0, 0, 0), 0), (106, .dup2, 1, (0, 0, 0), 0), (107, .iaload, 1, (0, 0, 0), 0), (108, .iload_n 3, 1, (0, 0, 0), 0), (109, .isub, 1, (0, 0, 0), 0), (110, .iastore, 1, (0, 0, 0), 0)], .inl 15)
def b_Flights_place_15 : mm_B := ([(111, .iinc 4 1, 3, (0, 0, 0), 1)], .inr (114, .goto (-88), 3, (5, 0), (0, 0, 0), []))
def b_Flights_place_16 : mm_B := ([(117, .iconst 0, 1, (0, 0, 0), 0)], .inr (118, .ireturn, 1, (0, 0), (1, 0, 0), []))
def t_Flights_place : List mm_B := [b_Flights_place_0, b_Flights_place_1, b_Flights_place_2, b_Flights_place_3, b_Flights_place_4, b_Flights_place_5, b_Flights_place_6, b_Flights_place_7, b_Flights_place_8, b_Flights_place_9, b_Flights_place_10, b_Flights_place_11, b_Flights_place_12, b_Flights_place_13, b_Flights_place_14, b_Flights_place_15, b_Flights_place_16]
/- HillPaths$Flights.isLikeOneAhead(I)Z -/
def b_Flights_isLikeOneAhead_0 : mm_B := ([(0, .iconst 0, 1, (0, 0, 0), 0), (1, .istore_n 2, 1, (0, 0, 0), 0)], .inl 1)
def b_Flights_isLikeOneAhead_1 : mm_B := ([(2, .iload_n 2, 1, (0, 0, 0), 0), (3, .iload_n 1, 1, (0, 0, 0), 0)], .inr (4, .if_icmp .ge 26, 3, (5, 2), (0, 0, 0), []))
def b_Flights_isLikeOneAhead_2 : mm_B := ([(7, .aload_n 0, 1, (0, 0, 0), 0), (8, .getfield 15, 3, (2, 1, 28), 0), (11, .iload_n 2, 1, (0, 0, 0), 0), (12, .iaload, 1, (0, 0, 0), 0), (13, .aload_n 0, 1, (0, 0, 0), 0), (14, .getfield 15, 3, (2, 1, 28), 0), (17, .iload_n 1, 1, (0, 0, 0), 0), (18, .iaload, 1, (0, 0, 0), 0)], .inr (19, .if_icmp .ne 5, 3, (4, 3), (0, 0, 0), []))
def b_Flights_isLikeOneAhead_3 : mm_B := ([(22, .iconst 1, 1, (0, 0, 0), 1)], .inr (23, .ireturn, 1, (0, 0), (1, 0, 0), []))
def b_Flights_isLikeOneAhead_4 : mm_B := ([(24, .iinc 2 1, 3, (0, 0, 0), 1)], .inr (27, .goto (-25), 3, (1, 0), (0, 0, 0), []))
def b_Flights_isLikeOneAhead_5 : mm_B := ([(30, .iconst 0, 1, (0, 0, 0), 0)], .inr (31, .ireturn, 1, (0, 0), (1, 0, 0), []))
def t_Flights_isLikeOneAhead : List mm_B := [b_Flights_isLikeOneAhead_0, b_Flights_isLikeOneAhead_1, b_Flights_isLikeOneAhead_2, b_Flights_isLikeOneAhead_3, b_Flights_isLikeOneAhead_4, b_Flights_isLikeOneAhead_5]
/- HillPaths$Hills.<init>()V -/
def b_Hills_init_0 : mm_B := ([(0, .aload_n 0, 1, (0, 0, 0), 0), (1, .invokespecial 3, 3, (0, 0, 0), 0), (4, .aload_n 0, 1, (0, 0, 0), 0), (5, .bipush 16, 2, (0, 0, 0), 16), (7, .anewarray 9, 3, (300, 0, 0), 0), (10, .putfield 11, 3, (3, 0, 302), 0), (13, .aload_n 0, 1, (0, 0, 0), 0), (14, .iconst 0, 1, (0, 0, 0), 0), (15, .putfield 17, 3, (3, 1, 0), 0), (18, .aload_n 0, 1, (0, 0, 0), 0), (19, .new 21, 3, (7, 4, 0), 0), (22, .dup, 1, (0, 0, 0), 0), (23, .bipush 12, 2, (0, 0, 0), 12), (25, .iconst 3, 1, (0, 0, 0), 3)], .inr (26, .invokespecial 23, 3, (1, 0), (q_Rows_init, 3, 7), []))
def b_Hills_init_1 : mm_B := ([(29, .putfield 26, 3, (3, 2, 9), 0), (32, .aload_n 0, 1, (0, 0, 0), 0), (33, .sipush 201, 3, (0, 0, 0), 201), (36, .newarray .int, 2, (28, 0, 0), 0), (38, .putfield 30, 3, (3, 3, 30), 0), (41, .aload_n 0, 1, (0, 0, 0), 0), (42, .iconst 0, 1, (0, 0, 0), 0), (43, .putfield 34, 3, (3, 4, 0), 0), (46, .aload_n 0, 1, (0, 0, 0), 0), (47, .iconst 0, 1, (0, 0, 0), 0), (48, .putfield 37, 3, (3, 5, 0), 0), (51, .aload_n 0, 1, (0, 0, 0), 0), (52, .new 21, 3, (7, 4, 0), 0), (55, .dup, 1, (0, 0, 0), 0), (56, .bipush 20, 2, (0, 0, 0), 20), (58, .iconst 4, 1, (0, 0, 0), 4)], .inr (59, .invokespecial 23, 3, (2, 0), (q_Rows_init, 3, 7), []))
def b_Hills_init_2 : mm_B := ([(62, .putfield 40, 3, (3, 6, 9), 0), (65, .aload_n 0, 1, (0, 0, 0), 0), (66, .iconst 0, 1, (0, 0, 0), 0), (67, .putfield 43, 3, (3, 7, 0), 0), (70, .aload_n 0, 1, (0, 0, 0), 0), (71, .new 21, 3, (7, 4, 0), 0), (74, .dup, 1, (0, 0, 0), 0), (75, .bipush 6, 2, (0, 0, 0), 6), (77, .iconst 1, 1, (0, 0, 0), 1)], .inr (78, .invokespecial 23, 3, (3, 0), (q_Rows_init, 3, 7), []))
def b_Hills_init_3 : mm_B := ([(81, .putfield 46, 3, (3, 8, 9), 0), (84, .aload_n 0, 1, (0, 0, 0), 0), (85, .new 21, 3, (7, 4, 0), 0), (88, .dup, 1, (0, 0, 0), 0), (89, .bipush 12, 2, (0, 0, 0), 12), (91, .iconst 2, 1, (0, 0, 0), 2)], .inr (92, .invokespecial 23, 3, (4, 0), (q_Rows_init, 3, 7), []))
def b_Hills_init_4 : mm_B := ([(95, .putfield 49, 3, (3, 9, 9), 0), (98, .aload_n 0, 1, (0, 0, 0), 0), (99, .new 21, 3, (7, 4, 0), 0), (102, .dup, 1, (0, 0, 0), 0), (103, .bipush 10, 2, (0, 0, 0), 10), (105, .iconst 1, 1, (0, 0, 0), 1)], .inr (106, .invokespecial 23, 3, (5, 0), (q_Rows_init, 3, 7), []))
def b_Hills_init_5 : mm_B := ([(109, .putfield 52, 3, (3, 10, 9), 0), (112, .aload_n 0, 1, (0, 0, 0), 0), (113, .new 21, 3, (7, 4, 0), 0), (116, .dup, 1, (0, 0, 0), 0), (117, .bipush 10, 2, (0, 0, 0), 10), (119, .iconst 2, 1, (0, 0, 0), 2)], .inr (120, .invokespecial 23, 3, (6, 0), (q_Rows_init, 3, 7), []))
def b_Hills_init_6 : mm_B := ([(123, .putfield 55, 3, (3, 11, 9), 0), (126, .aload_n 0, 1, (0, 0, 0), 0), (127, .new 21, 3, (7, 4, 0), 0), (130, .dup, 1, (0, 0, 0), 0), (131, .iconst 4, 1, (0, 0, 0), 4), (132, .iconst 2, 1, (0, 0, 0), 2)], .inr (133, .invokespecial 23, 3, (7, 0), (q_Rows_init, 3, 7), []))
def b_Hills_init_7 : mm_B := ([(136, .putfield 58, 3, (3, 12, 9), 0), (139, .aload_n 0, 1, (0, 0, 0), 0), (140, .bipush 10, 2, (0, 0, 0), 10), (142, .putfield 61, 3, (3, 13, 0), 0), (145, .iconst 0, 1, (0, 0, 0), 0), (146, .istore_n 1, 1, (0, 0, 0), 0)], .inl 8)
def b_Hills_init_8 : mm_B := ([(147, .iload_n 1, 1, (0, 0, 0), 0), (148, .bipush 16, 2, (0, 0, 0), 16)], .inr (150, .if_icmp .ge 22, 3, (11, 9), (0, 0, 0), []))
def b_Hills_init_9 : mm_B := ([(153, .aload_n 0, 1, (0, 0, 0), 0), (154, .getfield 11, 3, (3, 0, 301), 0), (157, .iload_n 1, 1, (0, 0, 0), 0), (158, .new 9, 3, (8, 9, 0), 0), (161, .dup, 1, (0, 0, 0), 0)], .inr (162, .invokespecial 64, 3, (10, 0), (q_Stretch_init, 1, 8), []))
def b_Hills_init_10 : mm_B := ([(165, .aastore, 1, (0, 0, 0), 0), (166, .iinc 1 1, 3, (0, 0, 0), 1)], .inr (169, .goto (-22), 3, (8, 0), (0, 0, 0), []))
def b_Hills_init_11 : mm_B := ([(172, .iconst 0, 1, (0, 0, 0), 0), (173, .istore_n 1, 1, (0, 0, 0), 0)], .inl 12)
def b_Hills_init_12 : mm_B := ([(174, .iload_n 1, 1, (0, 0, 0), 0), (175, .sipush 200, 3, (0, 0, 0), 200)], .inr (178, .if_icmp .gt 16, 3, (14, 13), (0, 0, 0), []))
def b_Hills_init_13 : mm_B := ([(181, .aload_n 0, 1, (0, 0, 0), 0), (182, .getfield 30, 3, (3, 3, 29), 0), (185, .iload_n 1, 1, (0, 0, 0), 0), (186, .iconst 5, 1, (0, 0, 0), 5), (187, .iastore, 1, (0, 0, 0), 0), (188, .iinc 1 1, 3, (0, 0, 0), 1)], .inr (191, .goto (-17), 3, (12, 0), (0, 0, 0), []))
def b_Hills_init_14 : mm_B := ([], .inr (194, .return_, 1, (0, 0), (0, 0, 0), []))
def t_Hills_init : List mm_B := [b_Hills_init_0, b_Hills_init_1, b_Hills_init_2, b_Hills_init_3, b_Hills_init_4, b_Hills_init_5, b_Hills_init_6, b_Hills_init_7, b_Hills_init_8, b_Hills_init_9, b_Hills_init_10, b_Hills_init_11, b_Hills_init_12, b_Hills_init_13, b_Hills_init_14]
/- HillPaths$Hills.become(LHillPaths$Hills;)V -/
def b_Hills_become_0 : mm_B := ([(0, .iconst 0, 1, (0, 0, 0), 0), (1, .istore_n 2, 1, (0, 0, 0), 0)], .inl 1)
def b_Hills_become_1 : mm_B := ([(2, .iload_n 2, 1, (0, 0, 0), 0), (3, .aload_n 1, 1, (0, 0, 0), 0), (4, .getfield 17, 3, (3, 1, 0), 0)], .inr (7, .if_icmp .ge 24, 3, (4, 2), (0, 0, 0), []))
def b_Hills_become_2 : mm_B := ([(10, .aload_n 0, 1, (0, 0, 0), 0), (11, .getfield 11, 3, (3, 0, 301), 0), (14, .iload_n 2, 1, (0, 0, 0), 0), (15, .aaload, 1, (0, 0, 0), 0), (16, .aload_n 1, 1, (0, 0, 0), 0), (17, .getfield 11, 3, (3, 0, 301), 0), (20, .iload_n 2, 1, (0, 0, 0), 0), (21, .aaload, 1, (0, 0, 0), 0)], .inr (22, .invokevirtual 65, 3, (3, 0), (q_Stretch_become, 2, 8), []))
def b_Hills_become_3 : mm_B := ([(25, .iinc 2 1, 3, (0, 0, 0), 1)], .inr (28, .goto (-26), 3, (1, 0), (0, 0, 0), []))
def b_Hills_become_4 : mm_B := ([(31, .aload_n 0, 1, (0, 0, 0), 0), (32, .aload_n 1, 1, (0, 0, 0), 0), (33, .getfield 17, 3, (3, 1, 0), 0), (36, .putfield 17, 3, (3, 1, 0), 0), (39, .aload_n 0, 1, (0, 0, 0), 0), (40, .getfield 26, 3, (3, 2, 8), 0), (43, .aload_n 1, 1, (0, 0, 0), 0), (44, .getfield 26, 3, (3, 2, 8), 0)], .inr (47, .invokevirtual 69, 3, (5, 0), (q_Rows_become, 2, 7), []))
def b_Hills_become_5 : mm_B := ([(50, .aload_n 1, 1, (0, 0, 0), 0), (51, .getfield 30, 3, (3, 3, 29), 0), (54, .iconst 0, 1, (0, 0, 0), 0), (55, .aload_n 0, 1, (0, 0, 0), 0), (56, .getfield 30, 3, (3, 3, 29), 0), (59, .iconst 0, 1, (0, 0, 0), 0), (60, .sipush 201, 3, (0, 0, 0), 201), (63, .invokestatic 72, 3, (2, 0, 0), 0), (66, .aload_n 0, 1, (0, 0, 0), 0), (67, .aload_n 1, 1, (0, 0, 0), 0), (68, .getfield 34, 3, (3, 4, 0), 0), (71, .putfield 34, 3, (3, 4, 0), 0), (74, .aload_n 0, 1, (0, 0, 0), 0), (75, .aload_n 1, 1, (0, 0, 0), 0), (76, .getfield 37, 3, (3, 5, 0), 0), (79, .putfield 37, 3, (3, 5, 0), 0), (82, .aload_n 0, 1, (0, 0, 0), 0), (83, .getfield 40, 3, (3, 6, 8), 0), (86, .aload_n 1, 1, (0, 0, 0), 0), (87, .getfield 40, 3, (3, 6, 8), 0)], .inr (90, .invokevirtual 69, 3, (6, 0), (q_Rows_become, 2, 7), []))
def b_Hills_become_6 : mm_B := ([(93, .aload_n 0, 1, (0, 0, 0), 0), (94, .aload_n 1, 1, (0, 0, 0), 0), (95, .getfield 43, 3, (3, 7, 0), 0), (98, .putfield 43, 3, (3, 7, 0), 0), (101, .aload_n 0, 1, (0, 0, 0), 0), (102, .getfield 46, 3, (3, 8, 8), 0), (105, .aload_n 1, 1, (0, 0, 0), 0), (106, .getfield 46, 3, (3, 8, 8), 0)], .inr (109, .invokevirtual 69, 3, (7, 0), (q_Rows_become, 2, 7), []))
def b_Hills_become_7 : mm_B := ([(112, .aload_n 0, 1, (0, 0, 0), 0), (113, .getfield 49, 3, (3, 9, 8), 0), (116, .aload_n 1, 1, (0, 0, 0), 0), (117, .getfield 49, 3, (3, 9, 8), 0)], .inr (120, .invokevirtual 69, 3, (8, 0), (q_Rows_become, 2, 7), []))
def b_Hills_become_8 : mm_B := ([(123, .aload_n 0, 1, (0, 0, 0), 0), (124, .getfield 52, 3, (3, 10, 8), 0), (127, .aload_n 1, 1, (0, 0, 0), 0), (128, .getfield 52, 3, (3, 10, 8), 0)], .inr (131, .invokevirtual 69, 3, (9, 0), (q_Rows_become, 2, 7), []))
def b_Hills_become_9 : mm_B := ([(134, .aload_n 0, 1, (0, 0, 0), 0), (135, .getfield 55, 3, (3, 11, 8), 0), (138, .aload_n 1, 1, (0, 0, 0), 0), (139, .getfield 55, 3, (3, 11, 8), 0)], .inr (142, .invokevirtual 69, 3, (10, 0), (q_Rows_become, 2, 7), []))
def b_Hills_become_10 : mm_B := ([(145, .aload_n 0, 1, (0, 0, 0), 0), (146, .getfield 58, 3, (3, 12, 8), 0), (149, .aload_n 1, 1, (0, 0, 0), 0), (150, .getfield 58, 3, (3, 12, 8), 0)], .inr (153, .invokevirtual 69, 3, (11, 0), (q_Rows_become, 2, 7), []))
def b_Hills_become_11 : mm_B := ([(156, .aload_n 0, 1, (0, 0, 0), 0), (157, .aload_n 1, 1, (0, 0, 0), 0), (158, .getfield 61, 3, (3, 13, 0), 0), (161, .putfield 61, 3, (3, 13, 0), 0)], .inr (164, .return_, 1, (0, 0), (0, 0, 0), []))
def t_Hills_become : List mm_B := [b_Hills_become_0, b_Hills_become_1, b_Hills_become_2, b_Hills_become_3, b_Hills_become_4, b_Hills_become_5, b_Hills_become_6, b_Hills_become_7, b_Hills_become_8, b_Hills_become_9, b_Hills_become_10, b_Hills_become_11]
/- HillPaths$Hills.rainIn(I)I -/
def b_Hills_rainIn_0 : mm_B := ([(0, .iload_n 1, 1, (0, 0, 0), 0)], .inr (1, .ifCond .lt 19, 3, (3, 1), (0, 0, 0), []))
def b_Hills_rainIn_1 : mm_B := ([(4, .iload_n 1, 1, (0, 0, 0), 0), (5, .sipush 200, 3, (0, 0, 0), 200)], .inr (8, .if_icmp .gt 12, 3, (3, 2), (0, 0, 0), []))
def b_Hills_rainIn_2 : mm_B := ([(11, .aload_n 0, 1, (0, 0, 0), 0), (12, .getfield 30, 3, (3, 3, 29), 0), (15, .iload_n 1, 1, (0, 0, 0), 0), (16, .iaload, 1, (0, 0, 0), 0)], .inr (17, .goto 4, 3, (4, 0), (0, 0, 0), []))
def b_Hills_rainIn_3 : mm_B := ([(20, .iconst 5, 1, (0, 0, 0), 5)], .inl 4)
def b_Hills_rainIn_4 : mm_B := ([], .inr (21, .ireturn, 1, (0, 0), (0, 0, 0), []))
def t_Hills_rainIn : List mm_B := [b_Hills_rainIn_0, b_Hills_rainIn_1, b_Hills_rainIn_2, b_Hills_rainIn_3, b_Hills_rainIn_4]
/- HillPaths$Hills.widths()I -/
def b_Hills_widths_0 : mm_B := ([(0, .iconst 0, 1, (0, 0, 0), 0), (1, .istore_n 1, 1, (0, 0, 0), 0), (2, .iconst 0, 1, (0, 0, 0), 0), (3, .istore_n 2, 1, (0, 0, 0), 0)], .inl 1)
def b_Hills_widths_1 : mm_B := ([(4, .iload_n 2, 1, (0, 0, 0), 0), (5, .aload_n 0, 1, (0, 0, 0), 0), (6, .getfield 17, 3, (3, 1, 0), 0)], .inr (9, .if_icmp .ge 21, 3, (3, 2), (0, 0, 0), []))
def b_Hills_widths_2 : mm_B := ([(12, .iload_n 1, 1, (0, 0, 0), 0), (13, .aload_n 0, 1, (0, 0, 0), 0), (14, .getfield 11, 3, (3, 0, 301), 0), (17, .iload_n 2, 1, (0, 0, 0), 0), (18, .aaload, 1, (0, 0, 0), 0), (19, .getfield 78, 3, (8, 6, 0), 0), (22, .iadd, 1, (0, 0, 0), 0), (23, .istore_n 1, 1, (0, 0, 0), 0), (24, .iinc 2 1, 3, (0, 0, 0), 1)], .inr (27, .goto (-23), 3, (1, 0), (0, 0, 0), []))
def b_Hills_widths_3 : mm_B := ([(30, .iload_n 1, 1, (0, 0, 0), 0)], .inr (31, .ireturn, 1, (0, 0), (0, 0, 0), []))
def t_Hills_widths : List mm_B := [b_Hills_widths_0, b_Hills_widths_1, b_Hills_widths_2, b_Hills_widths_3]
/- HillPaths$Hills.shutCount()I -/
def b_Hills_shutCount_0 : mm_B := ([(0, .iconst 0, 1, (0, 0, 0), 0), (1, .istore_n 1, 1, (0, 0, 0), 0), (2, .iconst 0, 1, (0, 0, 0), 0), (3, .istore_n 2, 1, (0, 0, 0), 0)], .inl 1)
def b_Hills_shutCount_1 : mm_B := ([(4, .iload_n 2, 1, (0, 0, 0), 0), (5, .aload_n 0, 1, (0, 0, 0), 0), (6, .getfield 17, 3, (3, 1, 0), 0)], .inr (9, .if_icmp .ge 24, 3, (5, 2), (0, 0, 0), []))
def b_Hills_shutCount_2 : mm_B := ([(12, .aload_n 0, 1, (0, 0, 0), 0), (13, .getfield 11, 3, (3, 0, 301), 0), (16, .iload_n 2, 1, (0, 0, 0), 0), (17, .aaload, 1, (0, 0, 0), 0), (18, .getfield 81, 3, (8, 8, 0), 0)], .inr (21, .ifCond .eq 6, 3, (4, 3), (0, 0, 0), []))
def b_Hills_shutCount_3 : mm_B := ([(24, .iinc 1 1, 3, (0, 0, 0), 1)], .inl 4)
def b_Hills_shutCount_4 : mm_B := ([(27, .iinc 2 1, 3, (0, 0, 0), 1)], .inr (30, .goto (-26), 3, (1, 0), (0, 0, 0), []))
def b_Hills_shutCount_5 : mm_B := ([(33, .iload_n 1, 1, (0, 0, 0), 0)], .inr (34, .ireturn, 1, (0, 0), (0, 0, 0), []))
def t_Hills_shutCount : List mm_B := [b_Hills_shutCount_0, b_Hills_shutCount_1, b_Hills_shutCount_2, b_Hills_shutCount_3, b_Hills_shutCount_4, b_Hills_shutCount_5]
/- HillPaths$Hills.meetingAt(I)I -/
def b_Hills_meetingAt_0 : mm_B := ([(0, .iconst 0, 1, (0, 0, 0), 0), (1, .istore_n 2, 1, (0, 0, 0), 0), (2, .iconst 0, 1, (0, 0, 0), 0), (3, .istore_n 3, 1, (0, 0, 0), 0)], .inl 1)
def b_Hills_meetingAt_1 : mm_B := ([(4, .iload_n 3, 1, (0, 0, 0), 0), (5, .aload_n 0, 1, (0, 0, 0), 0), (6, .getfield 17, 3, (3, 1, 0), 0)], .inr (9, .if_icmp .ge 25, 3, (6, 2), (0, 0, 0), []))
def b_Hills_meetingAt_2 : mm_B := ([(12, .aload_n 0, 1, (0, 0, 0), 0), (13, .getfield 11, 3, (3, 0, 301), 0), (16, .iload_n 3, 1, (0, 0, 0), 0), (17, .aaload, 1, (0, 0, 0), 0), (18, .iload_n 1, 1, (0, 0, 0), 0)], .inr (19, .invokevirtual 85, 3, (3, 0), (q_Stretch_meets, 2, 8), []))
def b_Hills_meetingAt_3 : mm_B := ([], .inr (22, .ifCond .eq 6, 3, (5, 4), (0, 0, 0), []))
def b_Hills_meetingAt_4 : mm_B := ([(25, .iinc 2 1, 3, (0, 0, 0), 1)], .inl 5)
def b_Hills_meetingAt_5 : mm_B := ([(28, .iinc 3 1, 3, (0, 0, 0), 1)], .inr (31, .goto (-27), 3, (1, 0), (0, 0, 0), []))
def b_Hills_meetingAt_6 : mm_B := ([(34, .iload_n 2, 1, (0, 0, 0), 0)], .inr (35, .ireturn, 1, (0, 0), (0, 0, 0), []))
def t_Hills_meetingAt : List mm_B := [b_Hills_meetingAt_0, b_Hills_meetingAt_1, b_Hills_meetingAt_2, b_Hills_meetingAt_3, b_Hills_meetingAt_4, b_Hills_meetingAt_5, b_Hills_meetingAt_6]
/- HillPaths$Hills.mendsWaiting()I -/
def b_Hills_mendsWaiting_0 : mm_B := ([(0, .iconst 0, 1, (0, 0, 0), 0), (1, .istore_n 1, 1, (0, 0, 0), 0), (2, .iconst 0, 1, (0, 0, 0), 0), (3, .istore_n 2, 1, (0, 0, 0), 0)], .inl 1)
def b_Hills_mendsWaiting_1 : mm_B := ([(4, .iload_n 2, 1, (0, 0, 0), 0), (5, .aload_n 0, 1, (0, 0, 0), 0), (6, .getfield 40, 3, (3, 6, 8), 0), (9, .getfield 89, 3, (7, 3, 0), 0)], .inr (12, .if_icmp .ge 23, 3, (4, 2), (0, 0, 0), []))
def b_Hills_mendsWaiting_2 : mm_B := ([(15, .iload_n 1, 1, (0, 0, 0), 0), (16, .iconst 1, 1, (0, 0, 0), 1), (17, .aload_n 0, 1, (0, 0, 0), 0), (18, .getfield 40, 3, (3, 6, 8), 0), (21, .iload_n 2, 1, (0, 0, 0), 0), (22, .iconst 3, 1, (0, 0, 0), 3)], .inr (23, .invokevirtual 92, 3, (3, 0), (q_Rows_at, 3, 7), []))
def b_Hills_mendsWaiting_3 : mm_B := ([(26, .isub, 1, (0, 0, 0), 0), (27, .iadd, 1, (0, 0, 0), 0), (28, .istore_n 1, 1, (0, 0, 0), 0), (29, .iinc 2 1, 3, (0, 0, 0), 1)], .inr (32, .goto (-28), 3, (1, 0), (0, 0, 0), []))
def b_Hills_mendsWaiting_4 : mm_B := ([(35, .iload_n 1, 1, (0, 0, 0), 0)], .inr (36, .ireturn, 1, (0, 0), (0, 0, 0), []))
def t_Hills_mendsWaiting : List mm_B := [b_Hills_mendsWaiting_0, b_Hills_mendsWaiting_1, b_Hills_mendsWaiting_2, b_Hills_mendsWaiting_3, b_Hills_mendsWaiting_4]
/- HillPaths$Hills.hasMendWaiting(I)Z -/
def b_Hills_hasMendWaiting_0 : mm_B := ([(0, .iconst 0, 1, (0, 0, 0), 0), (1, .istore_n 2, 1, (0, 0, 0), 0)], .inl 1)
def b_Hills_hasMendWaiting_1 : mm_B := ([(2, .iload_n 2, 1, (0, 0, 0), 0), (3, .aload_n 0, 1, (0, 0, 0), 0), (4, .getfield 40, 3, (3, 6, 8), 0), (7, .getfield 89, 3, (7, 3, 0), 0)], .inr (10, .if_icmp .ge 36, 3, (8, 2), (0, 0, 0), []))
def b_Hills_hasMendWaiting_2 : mm_B := ([(13, .aload_n 0, 1, (0, 0, 0), 0), (14, .getfield 40, 3, (3, 6, 8), 0), (17, .iload_n 2, 1, (0, 0, 0), 0), (18, .iconst 0, 1, (0, 0, 0), 0)], .inr (19, .invokevirtual 92, 3, (3, 0), (q_Rows_at, 3, 7), []))
def b_Hills_hasMendWaiting_3 : mm_B := ([(22, .iload_n 1, 1, (0, 0, 0), 0)], .inr (23, .if_icmp .ne 17, 3, (7, 4), (0, 0, 0), []))
def b_Hills_hasMendWaiting_4 : mm_B := ([(26, .aload_n 0, 1, (0, 0, 0), 0), (27, .getfield 40, 3, (3, 6, 8), 0), (30, .iload_n 2, 1, (0, 0, 0), 0), (31, .iconst 3, 1, (0, 0, 0), 3)], .inr (32, .invokevirtual 92, 3, (5, 0), (q_Rows_at, 3, 7), []))
def b_Hills_hasMendWaiting_5 : mm_B := ([], .inr (35, .ifCond .ne 5, 3, (7, 6), (0, 0, 0), []))
def b_Hills_hasMendWaiting_6 : mm_B := ([(38, .iconst 1, 1, (0, 0, 0), 1)], .inr (39, .ireturn, 1, (0, 0), (1, 0, 0), []))
def b_Hills_hasMendWaiting_7 : mm_B := ([(40, .iinc 2 1, 3, (0, 0, 0), 1)], .inr (43, .goto (-41), 3, (1, 0), (0, 0, 0), []))
def b_Hills_hasMendWaiting_8 : mm_B := ([(46, .iconst 0, 1, (0, 0, 0), 0)], .inr (47, .ireturn, 1, (0, 0), (1, 0, 0), []))
def t_Hills_hasMendWaiting : List mm_B := [b_Hills_hasMendWaiting_0, b_Hills_hasMendWaiting_1, b_Hills_hasMendWaiting_2, b_Hills_hasMendWaiting_3, b_Hills_hasMendWaiting_4, b_Hills_hasMendWaiting_5, b_Hills_hasMendWaiting_6, b_Hills_hasMendWaiting_7, b_Hills_hasMendWaiting_8]
/- HillPaths$Hills.passYear(LHillPaths$Walk;)V -/
def b_Hills_passYear_0 : mm_B := ([(0, .aload_n 1, 1, (0, 0, 0), 0), (1, .aload_n 0, 1, (0, 0, 0), 0), (2, .ldc 96, 2, (0, 0, 0), (-1000000005))], .inr (4, .invokevirtual 97, 3, (1, 0), (q_Walk_tread, 3, 10), []))
def b_Hills_passYear_1 : mm_B := ([(7, .aload_n 0, 1, (0, 0, 0), 0), (8, .aload_n 0, 1, (0, 0, 0), 0), (9, .getfield 34, 3, (3, 4, 0), 0)], .inr (12, .invokevirtual 103, 3, (2, 0), (q_Hills_rainIn, 2, 3), []))
def b_Hills_passYear_2 : mm_B := ([(15, .istore_n 2, 1, (0, 0, 0), 0), (16, .iconst 0, 1, (0, 0, 0), 0), (17, .istore_n 3, 1, (0, 0, 0), 0)], .inl 3)
def b_Hills_passYear_3 : mm_B := ([(18, .iload_n 3, 1, (0, 0, 0), 0), (19, .aload_n 0, 1, (0, 0, 0), 0), (20, .getfield 17, 3, (3, 1, 0), 0)], .inr (23, .if_icmp .ge 25, 3, (6, 4), (0, 0, 0), []))
def b_Hills_passYear_4 : mm_B := ([(26, .aload_n 0, 1, (0, 0, 0), 0), (27, .getfield 11, 3, (3, 0, 301), 0), (30, .iload_n 3, 1, (0, 0, 0), 0), (31, .aaload, 1, (0, 0, 0), 0), (32, .aload_n 1, 1, (0, 0, 0), 0), (33, .getfield 107, 3, (10, 3, 44), 0), (36, .iload_n 3, 1, (0, 0, 0), 0), (37, .iaload, 1, (0, 0, 0), 0), (38, .iload_n 2, 1, (0, 0, 0), 0)], .inr (39, .invokevirtual 110, 3, (5, 0), (q_Stretch_grow, 3, 8), []))
def b_Hills_passYear_5 : mm_B := ([(42, .iinc 3 1, 3, (0, 0, 0), 1)], .inr (45, .goto (-27), 3, (3, 0), (0, 0, 0), []))
def b_Hills_passYear_6 : mm_B := ([(48, .aload_n 0, 1, (0, 0, 0), 0)], .inr (49, .invokevirtual 113, 3, (7, 0), (q_Hills_doMendsDue, 1, 3), []))
def b_Hills_passYear_7 : mm_B := ([(52, .aload_n 0, 1, (0, 0, 0), 0)], .inr (53, .invokevirtual 116, 3, (8, 0), (q_Hills_takeGiftsDue, 1, 3), []))
def b_Hills_passYear_8 : mm_B := ([(56, .aload_n 0, 1, (0, 0, 0), 0), (57, .dup, 1, (0, 0, 0), 0), (58, .getfield 34, 3, (3, 4, 0), 0), (61, .iconst 1, 1, (0, 0, 0), 1), (62, .iadd, 1, (0, 0, 0), 0), (63, .putfield 34, 3, (3, 4, 0), 0)], .inr (66, .return_, 1, (0, 0), (0, 0, 0), []))
def t_Hills_passYear : List mm_B := [b_Hills_passYear_0, b_Hills_passYear_1, b_Hills_passYear_2, b_Hills_passYear_3, b_Hills_passYear_4, b_Hills_passYear_5, b_Hills_passYear_6, b_Hills_passYear_7, b_Hills_passYear_8]
/- HillPaths$Hills.doMendsDue()V -/
def b_Hills_doMendsDue_0 : mm_B := ([(0, .iconst 0, 1, (0, 0, 0), 0), (1, .istore_n 1, 1, (0, 0, 0), 0)], .inl 1)
def b_Hills_doMendsDue_1 : mm_B := ([(2, .iload_n 1, 1, (0, 0, 0), 0), (3, .aload_n 0, 1, (0, 0, 0), 0), (4, .getfield 40, 3, (3, 6, 8), 0), (7, .getfield 89, 3, (7, 3, 0), 0)], .inr (10, .if_icmp .ge 91, 3, (15, 2), (0, 0, 0), []))
def b_Hills_doMendsDue_2 : mm_B := ([(13, .aload_n 0, 1, (0, 0, 0), 0), (14, .getfield 40, 3, (3, 6, 8), 0), (17, .iload_n 1, 1, (0, 0, 0), 0), (18, .iconst 3, 1, (0, 0, 0), 3)], .inr (19, .invokevirtual 92, 3, (3, 0), (q_Rows_at, 3, 7), []))
def b_Hills_doMendsDue_3 : mm_B := ([], .inr (22, .ifCond .ne 73, 3, (14, 4), (0, 0, 0), []))
def b_Hills_doMendsDue_4 : mm_B := ([(25, .aload_n 0, 1, (0, 0, 0), 0), (26, .getfield 40, 3, (3, 6, 8), 0), (29, .iload_n 1, 1, (0, 0, 0), 0), (30, .iconst 2, 1, (0, 0, 0), 2)], .inr (31, .invokevirtual 92, 3, (5, 0), (q_Rows_at, 3, 7), []))
def b_Hills_doMendsDue_5 : mm_B := ([(34, .aload_n 0, 1, (0, 0, 0), 0), (35, .getfield 34, 3, (3, 4, 0), 0)], .inr (38, .if_icmp .eq 6, 3, (7, 6), (0, 0, 0), []))
def b_Hills_doMendsDue_6 : mm_B := ([], .inr (41, .goto 54, 3, (14, 0), (0, 0, 0), []))
def b_Hills_doMendsDue_7 : mm_B := ([(44, .aload_n 0, 1, (0, 0, 0), 0), (45, .getfield 40, 3, (3, 6, 8), 0), (48, .iload_n 1, 1, (0, 0, 0), 0), (49, .iconst 0, 1, (0, 0, 0), 0)], .inr (50, .invokevirtual 92, 3, (8, 0), (q_Rows_at, 3, 7), []))
def b_Hills_doMendsDue_8 : mm_B := ([(53, .istore_n 2, 1, (0, 0, 0), 0), (54, .iload_n 2, 1, (0, 0, 0), 0)], .inr (55, .ifCond .lt 29, 3, (12, 9), (0, 0, 0), []))
def b_Hills_doMendsDue_9 : mm_B := ([(58, .iload_n 2, 1, (0, 0, 0), 0), (59, .aload_n 0, 1, (0, 0, 0), 0), (60, .getfield 17, 3, (3, 1, 0), 0)], .inr (63, .if_icmp .ge 21, 3, (12, 10), (0, 0, 0), []))
def b_Hills_doMendsDue_10 : mm_B := ([(66, .aload_n 0, 1, (0, 0, 0), 0), (67, .getfield 11, 3, (3, 0, 301), 0), (70, .iload_n 2, 1, (0, 0, 0), 0), (71, .aaload, 1, (0, 0, 0), 0), (72, .aload_n 0, 1, (0, 0, 0), 0), (73, .getfield 40, 3, (3, 6, 8), 0), (76, .iload_n 1, 1, (0, 0, 0), 0), (77, .iconst 1, 1, (0, 0, 0), 1)], .inr (78, .invokevirtual 92, 3, (11, 0), (q_Rows_at, 3, 7), []))
def b_Hills_doMendsDue_11 : mm_B := ([], .inr (81, .invokevirtual 119, 3, (12, 0), (q_Stretch_mendTo, 2, 8), []))
def b_Hills_doMendsDue_12 : mm_B := ([(84, .aload_n 0, 1, (0, 0, 0), 0), (85, .getfield 40, 3, (3, 6, 8), 0), (88, .iload_n 1, 1, (0, 0, 0), 0), (89, .iconst 3, 1, (0, 0, 0), 3), (90, .iconst 1, 1, (0, 0, 0), 1)], .inr (91, .invokevirtual 123, 3, (13, 0), (q_Rows_put, 4, 7), []))
def b_Hills_doMendsDue_13 : mm_B := ([(94, .pop, 1, (0, 0, 0), 0)], .inl 14)
def b_Hills_doMendsDue_14 : mm_B := ([(95, .iinc 1 1, 3, (0, 0, 0), 1)], .inr (98, .goto (-96), 3, (1, 0), (0, 0, 0), []))
def b_Hills_doMendsDue_15 : mm_B := ([], .inr (101, .return_, 1, (0, 0), (0, 0, 0), []))
def t_Hills_doMendsDue : List mm_B := [b_Hills_doMendsDue_0, b_Hills_doMendsDue_1, b_Hills_doMendsDue_2, b_Hills_doMendsDue_3, b_Hills_doMendsDue_4, b_Hills_doMendsDue_5, b_Hills_doMendsDue_6, b_Hills_doMendsDue_7, b_Hills_doMendsDue_8, b_Hills_doMendsDue_9, b_Hills_doMendsDue_10, b_Hills_doMendsDue_11, b_Hills_doMendsDue_12, b_Hills_doMendsDue_13, b_Hills_doMendsDue_14, b_Hills_doMendsDue_15]
/- HillPaths$Hills.takeGiftsDue()V -/
def b_Hills_takeGiftsDue_0 : mm_B := ([(0, .iconst 0, 1, (0, 0, 0), 0), (1, .istore_n 1, 1, (0, 0, 0), 0)], .inl 1)
def b_Hills_takeGiftsDue_1 : mm_B := ([(2, .iload_n 1, 1, (0, 0, 0), 0), (3, .aload_n 0, 1, (0, 0, 0), 0), (4, .getfield 49, 3, (3, 9, 8), 0), (7, .getfield 89, 3, (7, 3, 0), 0)], .inr (10, .if_icmp .ge 48, 3, (7, 2), (0, 0, 0), []))
def b_Hills_takeGiftsDue_2 : mm_B := ([(13, .aload_n 0, 1, (0, 0, 0), 0), (14, .getfield 49, 3, (3, 9, 8), 0), (17, .iload_n 1, 1, (0, 0, 0), 0), (18, .iconst 0, 1, (0, 0, 0), 0)], .inr (19, .invokevirtual 92, 3, (3, 0), (q_Rows_at, 3, 7), []))
def b_Hills_takeGiftsDue_3 : mm_B := ([(22, .aload_n 0, 1, (0, 0, 0), 0), (23, .getfield 34, 3, (3, 4, 0), 0)], .inr (26, .if_icmp .ne 26, 3, (6, 4), (0, 0, 0), []))
def b_Hills_takeGiftsDue_4 : mm_B := ([(29, .aload_n 0, 1, (0, 0, 0), 0), (30, .ldc 127, 2, (0, 0, 0), 999999999), (32, .aload_n 0, 1, (0, 0, 0), 0), (33, .getfield 43, 3, (3, 7, 0), 0), (36, .aload_n 0, 1, (0, 0, 0), 0), (37, .getfield 49, 3, (3, 9, 8), 0), (40, .iload_n 1, 1, (0, 0, 0), 0), (41, .iconst 1, 1, (0, 0, 0), 1)], .inr (42, .invokevirtual 92, 3, (5, 0), (q_Rows_at, 3, 7), []))
def b_Hills_takeGiftsDue_5 : mm_B := ([(45, .iadd, 1, (0, 0, 0), 0), (46, .invokestatic 128, 3, (1, 0, 0), 0), (49, .putfield 43, 3, (3, 7, 0), 0)], .inl 6)
def b_Hills_takeGiftsDue_6 : mm_B := ([(52, .iinc 1 1, 3, (0, 0, 0), 1)], .inr (55, .goto (-53), 3, (1, 0), (0, 0, 0), []))
def b_Hills_takeGiftsDue_7 : mm_B := ([], .inr (58, .return_, 1, (0, 0), (0, 0, 0), []))
def t_Hills_takeGiftsDue : List mm_B := [b_Hills_takeGiftsDue_0, b_Hills_takeGiftsDue_1, b_Hills_takeGiftsDue_2, b_Hills_takeGiftsDue_3, b_Hills_takeGiftsDue_4, b_Hills_takeGiftsDue_5, b_Hills_takeGiftsDue_6, b_Hills_takeGiftsDue_7]
/- HillPaths$Hut.<init>()V -/
def b_Hut_init_0 : mm_B := ([(0, .aload_n 0, 1, (0, 0, 0), 0), (1, .invokespecial 3, 3, (0, 0, 0), 0), (4, .aload_n 0, 1, (0, 0, 0), 0), (5, .iconst 0, 1, (0, 0, 0), 0), (6, .putfield 9, 3, (4, 0, 0), 0), (9, .aload_n 0, 1, (0, 0, 0), 0), (10, .new 15, 3, (8, 9, 0), 0), (13, .dup, 1, (0, 0, 0), 0)], .inr (14, .invokespecial 17, 3, (1, 0), (q_Stretch_init, 1, 8), []))
def b_Hut_init_1 : mm_B := ([(17, .putfield 18, 3, (4, 1, 10), 0), (20, .aload_n 0, 1, (0, 0, 0), 0), (21, .new 22, 3, (1, 3, 0), 0), (24, .dup, 1, (0, 0, 0), 0)], .inr (25, .invokespecial 24, 3, (2, 0), (q_Counter_init, 1, 1), []))
def b_Hut_init_2 : mm_B := ([(28, .putfield 25, 3, (4, 2, 3), 0), (31, .aload_n 0, 1, (0, 0, 0), 0), (32, .iconst 0, 1, (0, 0, 0), 0), (33, .putfield 29, 3, (4, 3, 0), 0)], .inr (36, .return_, 1, (0, 0), (0, 0, 0), []))
def t_Hut_init : List mm_B := [b_Hut_init_0, b_Hut_init_1, b_Hut_init_2]
/- HillPaths$Reader.<init>()V -/
def b_Reader_init_0 : mm_B := ([(0, .aload_n 0, 1, (0, 0, 0), 0), (1, .invokespecial 3, 3, (0, 0, 0), 0), (4, .aload_n 0, 1, (0, 0, 0), 0), (5, .bipush 96, 2, (0, 0, 0), 96), (7, .newarray .int, 2, (29, 0, 0), 0), (9, .putfield 9, 3, (5, 0, 31), 0), (12, .aload_n 0, 1, (0, 0, 0), 0), (13, .iconst 0, 1, (0, 0, 0), 0), (14, .putfield 15, 3, (5, 1, 0), 0), (17, .aload_n 0, 1, (0, 0, 0), 0), (18, .bipush 96, 2, (0, 0, 0), 96), (20, .newarray .int, 2, (30, 0, 0), 0), (22, .putfield 19, 3, (5, 2, 32), 0), (25, .aload_n 0, 1, (0, 0, 0), 0), (26, .iconst 0, 1, (0, 0, 0), 0), (27, .putfield 22, 3, (5, 3, 0), 0), (30, .aload_n 0, 1, (0, 0, 0), 0), (31, .iconst 0, 1, (0, 0, 0), 0), (32, .putfield 25, 3, (5, 4, 0), 0), (35, .aload_n 0, 1, (0, 0, 0), 0), (36, .iconst 0, 1, (0, 0, 0), 0), (37, .putfield 28, 3, (5, 5, 0), 0), (40, .aload_n 0, 1, (0, 0, 0), 0), (41, .sipush 256, 3, (0, 0, 0), 256), (44, .putfield 31, 3, (5, 6, 0), 0), (47, .aload_n 0, 1, (0, 0, 0), 0), (48, .iconst 0, 1, (0, 0, 0), 0), (49, .putfield 34, 3, (5, 7, 0), 0), (52, .aload_n 0, 1, (0, 0, 0), 0), (53, .iconst 0, 1, (0, 0, 0), 0), (54, .putfield 37, 3, (5, 8, 0), 0)], .inr (57, .return_, 1, (0, 0), (0, 0, 0), []))
def t_Reader_init : List mm_B := [b_Reader_init_0]
/- HillPaths$Reader.take(I)V -/
def b_Reader_take_0 : mm_B := ([(0, .bipush 24, 2, (0, 0, 0), 24), (2, .istore_n 2, 1, (0, 0, 0), 0)], .inl 1)
def b_Reader_take_1 : mm_B := ([(3, .iload_n 2, 1, (0, 0, 0), 0)], .inr (4, .ifCond .lt 44, 3, (4, 2), (0, 0, 0), []))
def b_Reader_take_2 : mm_B := ([(7, .aload_n 0, 1, (0, 0, 0), 0), (8, .getfield 15, 3, (5, 1, 0), 0), (11, .bipush 96, 2, (0, 0, 0), 96)], .inr (13, .if_icmp .ge 35, 3, (4, 3), (0, 0, 0), []))
def b_Reader_take_3 : mm_B := ([(16, .aload_n 0, 1, (0, 0, 0), 0), (17, .getfield 9, 3, (5, 0, 30), 0), (20, .aload_n 0, 1, (0, 0, 0), 0), (21, .getfield 15, 3, (5, 1, 0), 0), (24, .iload_n 1, 1, (0, 0, 0), 0), (25, .iload_n 2, 1, (0, 0, 0), 0), (26, .iushr, 1, (0, 0, 0), 0), (27, .sipush 255, 3, (0, 0, 0), 255), (30, .iand, 1, (0, 0, 0), 0), (31, .iastore, 1, (0, 0, 0), 0), (32, .aload_n 0, 1, (0, 0, 0), 0), (33, .dup, 1, (0, 0, 0), 0), (34, .getfield 15, 3, (5, 1, 0), 0), (37, .iconst 1, 1, (0, 0, 0), 1), (38, .iadd, 1, (0, 0, 0), 0), (39, .putfield 15, 3, (5, 1, 0), 0), (42, .iinc 2 (-8), 3, (0, 0, 0), (-8))], .inr (45, .goto (-42), 3, (1, 0), (0, 0, 0), []))
def b_Reader_take_4 : mm_B := ([], .inr (48, .return_, 1, (0, 0), (0, 0, 0), []))
def t_Reader_take : List mm_B := [b_Reader_take_0, b_Reader_take_1, b_Reader_take_2, b_Reader_take_3, b_Reader_take_4]
/- HillPaths$Reader.readText()I -/
def b_Reader_readText_0 : mm_B := ([(0, .aload_n 0, 1, (0, 0, 0), 0), (1, .iconst 0, 1, (0, 0, 0), 0), (2, .putfield 22, 3, (5, 3, 0), 0), (5, .aload_n 0, 1, (0, 0, 0), 0), (6, .iconst 0, 1, (0, 0, 0), 0), (7, .putfield 25, 3, (5, 4, 0), 0), (10, .aload_n 0, 1, (0, 0, 0), 0), (11, .sipush 256, 3, (0, 0, 0), 256), (14, .putfield 31, 3, (5, 6, 0), 0), (17, .aload_n 0, 1, (0, 0, 0), 0), (18, .iconst 0, 1, (0, 0, 0), 0), (19, .putfield 37, 3, (5, 8, 0), 0), (22, .aload_n 0, 1, (0, 0, 0), 0)], .inr (23, .invokevirtual 40, 3, (1, 0), (q_Reader_step, 1, 5), []))
def b_Reader_readText_1 : mm_B := ([(26, .aload_n 0, 1, (0, 0, 0), 0), (27, .aload_n 0, 1, (0, 0, 0), 0)], .inr (28, .invokevirtual 43, 3, (2, 0), (q_Reader_keyHere, 1, 5), []))
def b_Reader_readText_2 : mm_B := ([(31, .putfield 28, 3, (5, 5, 0), 0), (34, .aload_n 0, 1, (0, 0, 0), 0), (35, .getfield 28, 3, (5, 5, 0), 0)], .inr (38, .ifCond .ge 8, 3, (4, 3), (0, 0, 0), []))
def b_Reader_readText_3 : mm_B := ([(41, .aload_n 0, 1, (0, 0, 0), 0), (42, .getfield 34, 3, (5, 7, 0), 0)], .inr (45, .ireturn, 1, (0, 0), (0, 0, 0), []))
def b_Reader_readText_4 : mm_B := ([(46, .aload_n 0, 1, (0, 0, 0), 0)], .inr (47, .invokevirtual 40, 3, (5, 0), (q_Reader_step, 1, 5), []))
def b_Reader_readText_5 : mm_B := ([(50, .aload_n 0, 1, (0, 0, 0), 0), (51, .iconst 0, 1, (0, 0, 0), 0), (52, .iconst 0, 1, (0, 0, 0), 0)], .inr (53, .invokevirtual 47, 3, (6, 0), (q_Reader_readOr, 3, 5), []))
def b_Reader_readText_6 : mm_B := ([], .inr (56, .ifCond .eq 13, 3, (8, 7), (0, 0, 0), []))
def b_Reader_readText_7 : mm_B := ([(59, .aload_n 0, 1, (0, 0, 0), 0), (60, .getfield 31, 3, (5, 6, 0), 0), (63, .sipush 256, 3, (0, 0, 0), 256)], .inr (66, .if_icmp .eq 8, 3, (9, 8), (0, 0, 0), []))
def b_Reader_readText_8 : mm_B := ([(69, .aload_n 0, 1, (0, 0, 0), 0), (70, .getfield 34, 3, (5, 7, 0), 0)], .inr (73, .ireturn, 1, (0, 0), (0, 0, 0), []))
def b_Reader_readText_9 : mm_B := ([(74, .iconst (-1), 1, (0, 0, 0), (-1))], .inr (75, .ireturn, 1, (0, 0), (0, 0, 0), []))
def t_Reader_readText : List mm_B := [b_Reader_readText_0, b_Reader_readText_1, b_Reader_readText_2, b_Reader_readText_3, b_Reader_readText_4, b_Reader_readText_5, b_Reader_readText_6, b_Reader_readText_7, b_Reader_readText_8, b_Reader_readText_9]
/- HillPaths$Reader.step()V -/
def b_Reader_step_0 : mm_B := ([(0, .aload_n 0, 1, (0, 0, 0), 0), (1, .getfield 31, 3, (5, 6, 0), 0), (4, .sipush 257, 3, (0, 0, 0), 257)], .inr (7, .if_icmp .eq 13, 3, (2, 1), (0, 0, 0), []))
def b_Reader_step_1 : mm_B := ([(10, .aload_n 0, 1, (0, 0, 0), 0), (11, .getfield 31, 3, (5, 6, 0), 0), (14, .sipush 258, 3, (0, 0, 0), 258)], .inr (17, .if_icmp .ne 7, 3, (3, 2), (0, 0, 0), []))
def b_Reader_step_2 : mm_B := ([(20, .iconst 1, 1, (0, 0, 0), 1)], .inr (21, .goto 4, 3, (4, 0), (0, 0, 0), []))
def b_Reader_step_3 : mm_B := ([(24, .iconst 0, 1, (0, 0, 0), 0)], .inl 4)
def b_Reader_step_4 : mm_B := ([(25, .istore_n 1, 1, (0, 0, 0), 0), (26, .aload_n 0, 1, (0, 0, 0), 0), (27, .getfield 37, 3, (5, 8, 0), 0), (30, .istore_n 2, 1, (0, 0, 0), 0), (31, .aload_n 0, 1, (0, 0, 0), 0), (32, .aload_n 0, 1, (0, 0, 0), 0), (33, .getfield 37, 3, (5, 8, 0), 0), (36, .putfield 34, 3, (5, 7, 0), 0)], .inl 5)
def b_Reader_step_5 : mm_B := ([(39, .aload_n 0, 1, (0, 0, 0), 0), (40, .getfield 34, 3, (5, 7, 0), 0), (43, .aload_n 0, 1, (0, 0, 0), 0), (44, .getfield 15, 3, (5, 1, 0), 0)], .inr (47, .if_icmp .ge 30, 3, (8, 6), (0, 0, 0), []))
def b_Reader_step_6 : mm_B := ([(50, .aload_n 0, 1, (0, 0, 0), 0), (51, .getfield 9, 3, (5, 0, 30), 0), (54, .aload_n 0, 1, (0, 0, 0), 0), (55, .getfield 34, 3, (5, 7, 0), 0), (58, .iaload, 1, (0, 0, 0), 0), (59, .bipush 32, 2, (0, 0, 0), 32)], .inr (61, .if_icmp .ne 16, 3, (8, 7), (0, 0, 0), []))
def b_Reader_step_7 : mm_B := ([(64, .aload_n 0, 1, (0, 0, 0), 0), (65, .dup, 1, (0, 0, 0), 0), (66, .getfield 34, 3, (5, 7, 0), 0), (69, .iconst 1, 1, (0, 0, 0), 1), (70, .iadd, 1, (0, 0, 0), 0), (71, .putfield 34, 3, (5, 7, 0), 0)], .inr (74, .goto (-35), 3, (5, 0), (0, 0, 0), []))
def b_Reader_step_8 : mm_B := ([(77, .aload_n 0, 1, (0, 0, 0), 0), (78, .aload_n 0, 1, (0, 0, 0), 0), (79, .getfield 34, 3, (5, 7, 0), 0), (82, .putfield 37, 3, (5, 8, 0), 0), (85, .aload_n 0, 1, (0, 0, 0), 0), (86, .getfield 34, 3, (5, 7, 0), 0), (89, .aload_n 0, 1, (0, 0, 0), 0), (90, .getfield 15, 3, (5, 1, 0), 0)], .inr (93, .if_icmp .lt 11, 3, (10, 9), (0, 0, 0), []))
def b_Reader_step_9 : mm_B := ([(96, .aload_n 0, 1, (0, 0, 0), 0), (97, .sipush 256, 3, (0, 0, 0), 256), (100, .putfield 31, 3, (5, 6, 0), 0)], .inr (103, .return_, 1, (0, 0), (0, 0, 0), []))
def b_Reader_step_10 : mm_B := ([(104, .aload_n 0, 1, (0, 0, 0), 0), (105, .getfield 9, 3, (5, 0, 30), 0), (108, .aload_n 0, 1, (0, 0, 0), 0), (109, .getfield 34, 3, (5, 7, 0), 0), (112, .iaload, 1, (0, 0, 0), 0)], .inr (113, .invokestatic 51, 3, (11, 0), (q_Reader_sortOf, 1, 0), []))
def b_Reader_step_11 : mm_B := ([(116, .istore_n 3, 1, (0, 0, 0), 0), (117, .aload_n 0, 1, (0, 0, 0), 0), (118, .aload_n 0, 1, (0, 0, 0), 0), (119, .getfield 34, 3, (5, 7, 0), 0), (122, .iconst 1, 1, (0, 0, 0), 1), (123, .iadd, 1, (0, 0, 0), 0), (124, .putfield 37, 3, (5, 8, 0), 0), (127, .iload_n 3, 1, (0, 0, 0), 0), (128, .sipush 257, 3, (0, 0, 0), 257)], .inr (131, .if_icmp .eq 10, 3, (13, 12), (0, 0, 0), []))
def b_Reader_step_12 : mm_B := ([(134, .iload_n 3, 1, (0, 0, 0), 0), (135, .sipush 258, 3, (0, 0, 0), 258)], .inr (138, .if_icmp .ne 69, 3, (22, 13), (0, 0, 0), []))
def b_Reader_step_13 : mm_B := ([(141, .aload_n 0, 1, (0, 0, 0), 0), (142, .getfield 37, 3, (5, 8, 0), 0), (145, .aload_n 0, 1, (0, 0, 0), 0), (146, .getfield 15, 3, (5, 1, 0), 0)], .inr (149, .if_icmp .ge 32, 3, (17, 14), (0, 0, 0), []))
def b_Reader_step_14 : mm_B := ([(152, .aload_n 0, 1, (0, 0, 0), 0), (153, .getfield 9, 3, (5, 0, 30), 0), (156, .aload_n 0, 1, (0, 0, 0), 0), (157, .getfield 37, 3, (5, 8, 0), 0), (160, .iaload, 1, (0, 0, 0), 0)], .inr (161, .invokestatic 51, 3, (15, 0), (q_Reader_sortOf, 1, 0), []))
def b_Reader_step_15 : mm_B := ([(164, .iload_n 3, 1, (0, 0, 0), 0)], .inr (165, .if_icmp .ne 16, 3, (17, 16), (0, 0, 0), []))
def b_Reader_step_16 : mm_B := ([(168, .aload_n 0, 1, (0, 0, 0), 0), (169, .dup, 1, (0, 0, 0), 0), (170, .getfield 37, 3, (5, 8, 0), 0), (173, .iconst 1, 1, (0, 0, 0), 1), (174, .iadd, 1, (0, 0, 0), 0), (175, .putfield 37, 3, (5, 8, 0), 0)], .inr (178, .goto (-37), 3, (13, 0), (0, 0, 0), []))
def b_Reader_step_17 : mm_B := ([(181, .aload_n 0, 1, (0, 0, 0), 0), (182, .iload_n 1, 1, (0, 0, 0), 0)], .inr (183, .ifCond .eq 17, 3, (20, 18), (0, 0, 0), []))
def b_Reader_step_18 : mm_B := ([(186, .aload_n 0, 1, (0, 0, 0), 0), (187, .getfield 34, 3, (5, 7, 0), 0), (190, .iload_n 2, 1, (0, 0, 0), 0)], .inr (191, .if_icmp .ne 9, 3, (20, 19), (0, 0, 0), []))
def b_Reader_step_19 : mm_B := ([(194, .sipush 259, 3, (0, 0, 0), 259)], .inr (197, .goto 4, 3, (21, 0), (0, 0, 0), []))
def b_Reader_step_20 : mm_B := ([(200, .iload_n 3, 1, (0, 0, 0), 0)], .inl 21)
def b_Reader_step_21 : mm_B := ([(201, .putfield 31, 3, (5, 6, 0), 0)], .inr (204, .goto 8, 3, (23, 0), (0, 0, 0), []))
def b_Reader_step_22 : mm_B := ([(207, .aload_n 0, 1, (0, 0, 0), 0), (208, .iload_n 3, 1, (0, 0, 0), 0), (209, .putfield 31, 3, (5, 6, 0), 0)], .inl 23)
def b_Reader_step_23 : mm_B := ([], .inr (212, .return_, 1, (0, 0), (0, 0, 0), []))
def t_Reader_step : List mm_B := [b_Reader_step_0, b_Reader_step_1, b_Reader_step_2, b_Reader_step_3, b_Reader_step_4, b_Reader_step_5, b_Reader_step_6, b_Reader_step_7, b_Reader_step_8, b_Reader_step_9, b_Reader_step_10, b_Reader_step_11, b_Reader_step_12, b_Reader_step_13, b_Reader_step_14, b_Reader_step_15, b_Reader_step_16, b_Reader_step_17, b_Reader_step_18, b_Reader_step_19, b_Reader_step_20, b_Reader_step_21, b_Reader_step_22, b_Reader_step_23]
/- HillPaths$Reader.sortOf(I)I -/
def b_Reader_sortOf_0 : mm_B := ([(0, .iload_n 0, 1, (0, 0, 0), 0), (1, .bipush 97, 2, (0, 0, 0), 97)], .inr (3, .if_icmp .lt 13, 3, (3, 1), (0, 0, 0), []))
def b_Reader_sortOf_1 : mm_B := ([(6, .iload_n 0, 1, (0, 0, 0), 0), (7, .bipush 122, 2, (0, 0, 0), 122)], .inr (9, .if_icmp .gt 7, 3, (3, 2), (0, 0, 0), []))
def b_Reader_sortOf_2 : mm_B := ([(12, .sipush 257, 3, (0, 0, 0), 257)], .inr (15, .ireturn, 1, (0, 0), (0, 0, 0), []))
def b_Reader_sortOf_3 : mm_B := ([(16, .iload_n 0, 1, (0, 0, 0), 0), (17, .bipush 48, 2, (0, 0, 0), 48)], .inr (19, .if_icmp .lt 13, 3, (6, 4), (0, 0, 0), []))
def b_Reader_sortOf_4 : mm_B := ([(22, .iload_n 0, 1, (0, 0, 0), 0), (23, .bipush 57, 2, (0, 0, 0), 57)], .inr (25, .if_icmp .gt 7, 3, (6, 5), (0, 0, 0), []))
def b_Reader_sortOf_5 : mm_B := ([(28, .sipush 258, 3, (0, 0, 0), 258)], .inr (31, .ireturn, 1, (0, 0), (0, 0, 0), []))
def b_Reader_sortOf_6 : mm_B := ([(32, .iload_n 0, 1, (0, 0, 0), 0)], .inr (33, .ireturn, 1, (0, 0), (0, 0, 0), []))
def t_Reader_sortOf : List mm_B := [b_Reader_sortOf_0, b_Reader_sortOf_1, b_Reader_sortOf_2, b_Reader_sortOf_3, b_Reader_sortOf_4, b_Reader_sortOf_5, b_Reader_sortOf_6]
/- HillPaths$Reader.keyHere()I -/
def b_Reader_keyHere_0 : mm_B := ([(0, .iconst 0, 1, (0, 0, 0), 0), (1, .istore_n 1, 1, (0, 0, 0), 0)], .inl 1)
def b_Reader_keyHere_1 : mm_B := ([(2, .iload_n 1, 1, (0, 0, 0), 0), (3, .iconst 4, 1, (0, 0, 0), 4)], .inr (4, .if_icmp .ge 32, 3, (8, 2), (0, 0, 0), []))
def b_Reader_keyHere_2 : mm_B := ([(7, .aload_n 0, 1, (0, 0, 0), 0), (8, .getfield 31, 3, (5, 6, 0), 0), (11, .sipush 257, 3, (0, 0, 0), 257)], .inr (14, .if_icmp .ne 16, 3, (7, 3), (0, 0, 0), []))
def b_Reader_keyHere_3 : mm_B := ([(17, .aload_n 0, 1, (0, 0, 0), 0), (18, .iload_n 1, 1, (0, 0, 0), 0)], .inr (19, .invokestatic 55, 3, (4, 0), (q_Reader_wordOf, 1, 0), []))
def b_Reader_keyHere_4 : mm_B := ([], .inr (22, .invokevirtual 59, 3, (5, 0), (q_Reader_isWord, 2, 5), []))
def b_Reader_keyHere_5 : mm_B := ([], .inr (25, .ifCond .eq 5, 3, (7, 6), (0, 0, 0), []))
def b_Reader_keyHere_6 : mm_B := ([(28, .iload_n 1, 1, (0, 0, 0), 0)], .inr (29, .ireturn, 1, (0, 0), (0, 0, 0), []))
def b_Reader_keyHere_7 : mm_B := ([(30, .iinc 1 1, 3, (0, 0, 0), 1)], .inr (33, .goto (-31), 3, (1, 0), (0, 0, 0), []))
def b_Reader_keyHere_8 : mm_B := ([(36, .iconst (-1), 1, (0, 0, 0), (-1))], .inr (37, .ireturn, 1, (0, 0), (0, 0, 0), []))
def t_Reader_keyHere : List mm_B := [b_Reader_keyHere_0, b_Reader_keyHere_1, b_Reader_keyHere_2, b_Reader_keyHere_3, b_Reader_keyHere_4, b_Reader_keyHere_5, b_Reader_keyHere_6, b_Reader_keyHere_7, b_Reader_keyHere_8]
/- HillPaths$Reader.isWord(Ljava/lang/String;)Z -/
def b_Reader_isWord_0 : mm_B := ([(0, .aload_n 0, 1, (0, 0, 0), 0), (1, .getfield 37, 3, (5, 8, 0), 0), (4, .aload_n 0, 1, (0, 0, 0), 0), (5, .getfield 34, 3, (5, 7, 0), 0), (8, .isub, 1, (0, 0, 0), 0), (9, .aload_n 1, 1, (0, 0, 0), 0), (10, .invokevirtual 63, 3, (0, 0, 0), 0)], .inr (13, .if_icmp .eq 5, 3, (2, 1), (0, 0, 0), []))
def b_Reader_isWord_1 : mm_B := ([(16, .iconst 0, 1, (0, 0, 0), 0)], .inr (17, .ireturn, 1, (0, 0), (1, 0, 0), []))
def b_Reader_isWord_2 : mm_B := ([(18, .iconst 0, 1, (0, 0, 0), 0), (19, .istore_n 2, 1, (0, 0, 0), 0)], .inl 3)
def b_Reader_isWord_3 : mm_B := ([(20, .iload_n 2, 1, (0, 0, 0), 0), (21, .aload_n 1, 1, (0, 0, 0), 0), (22, .invokevirtual 63, 3, (0, 0, 0), 0)], .inr (25, .if_icmp .ge 30, 3, (7, 4), (0, 0, 0), []))
def b_Reader_isWord_4 : mm_B := ([(28, .aload_n 0, 1, (0, 0, 0), 0), (29, .getfield 9, 3, (5, 0, 30), 0), (32, .aload_n 0, 1, (0, 0, 0), 0), (33, .getfield 34, 3, (5, 7, 0), 0), (36, .iload_n 2, 1, (0, 0, 0), 0), (37, .iadd, 1, (0, 0, 0), 0), (38, .iaload, 1, (0, 0, 0), 0), (39, .aload_n 1, 1, (0, 0, 0), 0), (40, .iload_n 2, 1, (0, 0, 0), 0), (41, .invokevirtual 67, 3, (1, 0, 0), 0)], .inr (44, .if_icmp .eq 5, 3, (6, 5), (0, 0, 0), []))
def b_Reader_isWord_5 : mm_B := ([(47, .iconst 0, 1, (0, 0, 0), 0)], .inr (48, .ireturn, 1, (0, 0), (1, 0, 0), []))
def b_Reader_isWord_6 : mm_B := ([(49, .iinc 2 1, 3, (0, 0, 0), 1)], .inr (52, .goto (-32), 3, (3, 0), (0, 0, 0), []))
def b_Reader_isWord_7 : mm_B := ([(55, .iconst 1, 1, (0, 0, 0), 1)], .inr (56, .ireturn, 1, (0, 0), (1, 0, 0), []))
def t_Reader_isWord : List mm_B := [b_Reader_isWord_0, b_Reader_isWord_1, b_Reader_isWord_2, b_Reader_isWord_3, b_Reader_isWord_4, b_Reader_isWord_5, b_Reader_isWord_6, b_Reader_isWord_7]
/- HillPaths$Reader.wordOf(I)Ljava/lang/String; -/
def b_Reader_wordOf_0 : mm_B := ([(0, .iload_n 0, 1, (0, 0, 0), 0)], .inr (1, .tableswitch 36 0 2 #[27, 30, 33], 27, (4, 0), (0, 0, 0), [(0, 1), (1, 2), (2, 3)]))
def b_Reader_wordOf_1 : mm_B := ([(28, .ldc 71, 2, (1, 0, 0), 0)], .inr (30, .areturn, 1, (0, 0), (0, 0, 0), []))
def b_Reader_wordOf_2 : mm_B := ([(31, .ldc 73, 2, (1, 1, 0), 0)], .inr (33, .areturn, 1, (0, 0), (0, 0, 0), []))
def b_Reader_wordOf_3 : mm_B := ([(34, .ldc 75, 2, (1, 2, 0), 0)], .inr (36, .areturn, 1, (0, 0), (0, 0, 0), []))
def b_Reader_wordOf_4 : mm_B := ([(37, .ldc 77, 2, (1, 3, 0), 0)], .inr (39, .areturn, 1, (0, 0), (0, 0, 0), []))
def t_Reader_wordOf : List mm_B := [b_Reader_wordOf_0, b_Reader_wordOf_1, b_Reader_wordOf_2, b_Reader_wordOf_3, b_Reader_wordOf_4]
/- HillPaths$Reader.namesOf(I)Ljava/lang/String; -/
def b_Reader_namesOf_0 : mm_B := ([(0, .iload_n 0, 1, (0, 0, 0), 0)], .inr (1, .tableswitch 36 0 2 #[27, 30, 33], 27, (4, 0), (0, 0, 0), [(0, 1), (1, 2), (2, 3)]))
def b_Reader_namesOf_1 : mm_B := ([(28, .ldc 79, 2, (1, 4, 0), 0)], .inr (30, .areturn, 1, (0, 0), (0, 0, 0), []))
def b_Reader_namesOf_2 : mm_B := ([(31, .ldc 81, 2, (1, 5, 0), 0)], .inr (33, .areturn, 1, (0, 0), (0, 0, 0), []))
def b_Reader_namesOf_3 : mm_B := ([(34, .ldc 83, 2, (1, 6, 0), 0)], .inr (36, .areturn, 1, (0, 0), (0, 0, 0), []))
def b_Reader_namesOf_4 : mm_B := ([(37, .ldc 85, 2, (1, 7, 0), 0)], .inr (39, .areturn, 1, (0, 0), (0, 0, 0), []))
def t_Reader_namesOf : List mm_B := [b_Reader_namesOf_0, b_Reader_namesOf_1, b_Reader_namesOf_2, b_Reader_namesOf_3, b_Reader_namesOf_4]
/- HillPaths$Reader.put(I)V -/
def b_Reader_put_0 : mm_B := ([(0, .aload_n 0, 1, (0, 0, 0), 0), (1, .getfield 22, 3, (5, 3, 0), 0), (4, .bipush 96, 2, (0, 0, 0), 96)], .inr (6, .if_icmp .lt 4, 3, (2, 1), (0, 0, 0), []))
def b_Reader_put_1 : mm_B := ([], .inr (9, .return_, 1, (0, 0), (0, 0, 0), []))
def b_Reader_put_2 : mm_B := ([(10, .aload_n 0, 1, (0, 0, 0), 0), (11, .getfield 19, 3, (5, 2, 31), 0), (14, .aload_n 0, 1, (0, 0, 0), 0), (15, .getfield 22, 3, (5, 3, 0), 0), (18, .iload_n 1, 1, (0, 0, 0), 0), (19, .iastore, 1, (0, 0, 0), 0), (20, .aload_n 0, 1, (0, 0, 0), 0), (21, .dup, 1, (0, 0, 0), 0), (22, .getfield 22, 3, (5, 3, 0), 0), (25, .iconst 1, 1, (0, 0, 0), 1), (26, .iadd, 1, (0, 0, 0), 0), (27, .putfield 22, 3, (5, 3, 0), 0)], .inr (30, .return_, 1, (0, 0), (0, 0, 0), []))
def t_Reader_put : List mm_B := [b_Reader_put_0, b_Reader_put_1, b_Reader_put_2]
/- HillPaths$Reader.readOr(II)Z -/
def b_Reader_readOr_0 : mm_B := ([(0, .aload_n 0, 1, (0, 0, 0), 0), (1, .iload_n 1, 1, (0, 0, 0), 0), (2, .iload_n 2, 1, (0, 0, 0), 0)], .inr (3, .invokevirtual 87, 3, (1, 0), (q_Reader_readAnd, 3, 5), []))
def b_Reader_readOr_1 : mm_B := ([], .inr (6, .ifCond .ne 5, 3, (3, 2), (0, 0, 0), []))
def b_Reader_readOr_2 : mm_B := ([(9, .iconst 0, 1, (0, 0, 0), 0)], .inr (10, .ireturn, 1, (0, 0), (1, 0, 0), []))
def b_Reader_readOr_3 : mm_B := ([(11, .iconst 0, 1, (0, 0, 0), 0), (12, .istore_n 3, 1, (0, 0, 0), 0)], .inl 4)
def b_Reader_readOr_4 : mm_B := ([(13, .iload_n 3, 1, (0, 0, 0), 0), (14, .bipush 96, 2, (0, 0, 0), 96)], .inr (16, .if_icmp .ge 40, 3, (12, 5), (0, 0, 0), []))
def b_Reader_readOr_5 : mm_B := ([(19, .aload_n 0, 1, (0, 0, 0), 0), (20, .getfield 31, 3, (5, 6, 0), 0), (23, .bipush 124, 2, (0, 0, 0), 124)], .inr (25, .if_icmp .ne 31, 3, (12, 6), (0, 0, 0), []))
def b_Reader_readOr_6 : mm_B := ([(28, .aload_n 0, 1, (0, 0, 0), 0)], .inr (29, .invokevirtual 40, 3, (7, 0), (q_Reader_step, 1, 5), []))
def b_Reader_readOr_7 : mm_B := ([(32, .aload_n 0, 1, (0, 0, 0), 0), (33, .iload_n 1, 1, (0, 0, 0), 0), (34, .iload_n 2, 1, (0, 0, 0), 0)], .inr (35, .invokevirtual 87, 3, (8, 0), (q_Reader_readAnd, 3, 5), []))
def b_Reader_readOr_8 : mm_B := ([], .inr (38, .ifCond .ne 5, 3, (10, 9), (0, 0, 0), []))
def b_Reader_readOr_9 : mm_B := ([(41, .iconst 0, 1, (0, 0, 0), 0)], .inr (42, .ireturn, 1, (0, 0), (1, 0, 0), []))
def b_Reader_readOr_10 : mm_B := ([(43, .aload_n 0, 1, (0, 0, 0), 0), (44, .sipush 20124, 3, (0, 0, 0), 20124)], .inr (47, .invokevirtual 92, 3, (11, 0), (q_Reader_put, 2, 5), []))
def b_Reader_readOr_11 : mm_B := ([(50, .iinc 3 1, 3, (0, 0, 0), 1)], .inr (53, .goto (-40), 3, (4, 0), (0, 0, 0), []))
def b_Reader_readOr_12 : mm_B := ([(56, .iconst 1, 1, (0, 0, 0), 1)], .inr (57, .ireturn, 1, (0, 0), (1, 0, 0), []))
def t_Reader_readOr : List mm_B := [b_Reader_readOr_0, b_Reader_readOr_1, b_Reader_readOr_2, b_Reader_readOr_3, b_Reader_readOr_4, b_Reader_readOr_5, b_Reader_readOr_6, b_Reader_readOr_7, b_Reader_readOr_8, b_Reader_readOr_9, b_Reader_readOr_10, b_Reader_readOr_11, b_Reader_readOr_12]
/- HillPaths$Reader.readAnd(II)Z -/
def b_Reader_readAnd_0 : mm_B := ([(0, .aload_n 0, 1, (0, 0, 0), 0), (1, .iload_n 1, 1, (0, 0, 0), 0), (2, .iload_n 2, 1, (0, 0, 0), 0)], .inr (3, .invokevirtual 96, 3, (1, 0), (q_Reader_readTest, 3, 5), []))
def b_Reader_readAnd_1 : mm_B := ([], .inr (6, .ifCond .ne 5, 3, (3, 2), (0, 0, 0), []))
def b_Reader_readAnd_2 : mm_B := ([(9, .iconst 0, 1, (0, 0, 0), 0)], .inr (10, .ireturn, 1, (0, 0), (1, 0, 0), []))
def b_Reader_readAnd_3 : mm_B := ([(11, .iconst 0, 1, (0, 0, 0), 0), (12, .istore_n 3, 1, (0, 0, 0), 0)], .inl 4)
def b_Reader_readAnd_4 : mm_B := ([(13, .iload_n 3, 1, (0, 0, 0), 0), (14, .bipush 96, 2, (0, 0, 0), 96)], .inr (16, .if_icmp .ge 40, 3, (12, 5), (0, 0, 0), []))
def b_Reader_readAnd_5 : mm_B := ([(19, .aload_n 0, 1, (0, 0, 0), 0), (20, .getfield 31, 3, (5, 6, 0), 0), (23, .bipush 38, 2, (0, 0, 0), 38)], .inr (25, .if_icmp .ne 31, 3, (12, 6), (0, 0, 0), []))
def b_Reader_readAnd_6 : mm_B := ([(28, .aload_n 0, 1, (0, 0, 0), 0)], .inr (29, .invokevirtual 40, 3, (7, 0), (q_Reader_step, 1, 5), []))
def b_Reader_readAnd_7 : mm_B := ([(32, .aload_n 0, 1, (0, 0, 0), 0), (33, .iload_n 1, 1, (0, 0, 0), 0), (34, .iload_n 2, 1, (0, 0, 0), 0)], .inr (35, .invokevirtual 96, 3, (8, 0), (q_Reader_readTest, 3, 5), []))
def b_Reader_readAnd_8 : mm_B := ([], .inr (38, .ifCond .ne 5, 3, (10, 9), (0, 0, 0), []))
def b_Reader_readAnd_9 : mm_B := ([(41, .iconst 0, 1, (0, 0, 0), 0)], .inr (42, .ireturn, 1, (0, 0), (1, 0, 0), []))
def b_Reader_readAnd_10 : mm_B := ([(43, .aload_n 0, 1, (0, 0, 0), 0), (44, .sipush 20038, 3, (0, 0, 0), 20038)], .inr (47, .invokevirtual 92, 3, (11, 0), (q_Reader_put, 2, 5), []))
def b_Reader_readAnd_11 : mm_B := ([(50, .iinc 3 1, 3, (0, 0, 0), 1)], .inr (53, .goto (-40), 3, (4, 0), (0, 0, 0), []))
def b_Reader_readAnd_12 : mm_B := ([(56, .iconst 1, 1, (0, 0, 0), 1)], .inr (57, .ireturn, 1, (0, 0), (1, 0, 0), []))
def t_Reader_readAnd : List mm_B := [b_Reader_readAnd_0, b_Reader_readAnd_1, b_Reader_readAnd_2, b_Reader_readAnd_3, b_Reader_readAnd_4, b_Reader_readAnd_5, b_Reader_readAnd_6, b_Reader_readAnd_7, b_Reader_readAnd_8, b_Reader_readAnd_9, b_Reader_readAnd_10, b_Reader_readAnd_11, b_Reader_readAnd_12]
/- HillPaths$Reader.readTest(II)Z -/
def b_Reader_readTest_0 : mm_B := ([(0, .aload_n 0, 1, (0, 0, 0), 0), (1, .iload_n 1, 1, (0, 0, 0), 0), (2, .iload_n 2, 1, (0, 0, 0), 0)], .inr (3, .invokevirtual 99, 3, (1, 0), (q_Reader_readTerms, 3, 5), []))
def b_Reader_readTest_1 : mm_B := ([], .inr (6, .ifCond .ne 5, 3, (3, 2), (0, 0, 0), []))
def b_Reader_readTest_2 : mm_B := ([(9, .iconst 0, 1, (0, 0, 0), 0)], .inr (10, .ireturn, 1, (0, 0), (1, 0, 0), []))
def b_Reader_readTest_3 : mm_B := ([(11, .aload_n 0, 1, (0, 0, 0), 0), (12, .getfield 31, 3, (5, 6, 0), 0), (15, .bipush 60, 2, (0, 0, 0), 60)], .inr (17, .if_icmp .eq 23, 3, (7, 4), (0, 0, 0), []))
def b_Reader_readTest_4 : mm_B := ([(20, .aload_n 0, 1, (0, 0, 0), 0), (21, .getfield 31, 3, (5, 6, 0), 0), (24, .bipush 61, 2, (0, 0, 0), 61)], .inr (26, .if_icmp .eq 14, 3, (7, 5), (0, 0, 0), []))
def b_Reader_readTest_5 : mm_B := ([(29, .aload_n 0, 1, (0, 0, 0), 0), (30, .getfield 31, 3, (5, 6, 0), 0), (33, .bipush 62, 2, (0, 0, 0), 62)], .inr (35, .if_icmp .eq 5, 3, (7, 6), (0, 0, 0), []))
def b_Reader_readTest_6 : mm_B := ([(38, .iconst 1, 1, (0, 0, 0), 1)], .inr (39, .ireturn, 1, (0, 0), (1, 0, 0), []))
def b_Reader_readTest_7 : mm_B := ([(40, .aload_n 0, 1, (0, 0, 0), 0), (41, .getfield 31, 3, (5, 6, 0), 0), (44, .istore_n 3, 1, (0, 0, 0), 0), (45, .aload_n 0, 1, (0, 0, 0), 0)], .inr (46, .invokevirtual 40, 3, (8, 0), (q_Reader_step, 1, 5), []))
def b_Reader_readTest_8 : mm_B := ([(49, .aload_n 0, 1, (0, 0, 0), 0), (50, .iload_n 1, 1, (0, 0, 0), 0), (51, .iload_n 2, 1, (0, 0, 0), 0)], .inr (52, .invokevirtual 99, 3, (9, 0), (q_Reader_readTerms, 3, 5), []))
def b_Reader_readTest_9 : mm_B := ([], .inr (55, .ifCond .ne 5, 3, (11, 10), (0, 0, 0), []))
def b_Reader_readTest_10 : mm_B := ([(58, .iconst 0, 1, (0, 0, 0), 0)], .inr (59, .ireturn, 1, (0, 0), (1, 0, 0), []))
def b_Reader_readTest_11 : mm_B := ([(60, .aload_n 0, 1, (0, 0, 0), 0), (61, .sipush 20000, 3, (0, 0, 0), 20000), (64, .iload_n 3, 1, (0, 0, 0), 0), (65, .iadd, 1, (0, 0, 0), 0)], .inr (66, .invokevirtual 92, 3, (12, 0), (q_Reader_put, 2, 5), []))
def b_Reader_readTest_12 : mm_B := ([(69, .iconst 1, 1, (0, 0, 0), 1)], .inr (70, .ireturn, 1, (0, 0), (1, 0, 0), []))
def t_Reader_readTest : List mm_B := [b_Reader_readTest_0, b_Reader_readTest_1, b_Reader_readTest_2, b_Reader_readTest_3, b_Reader_readTest_4, b_Reader_readTest_5, b_Reader_readTest_6, b_Reader_readTest_7, b_Reader_readTest_8, b_Reader_readTest_9, b_Reader_readTest_10, b_Reader_readTest_11, b_Reader_readTest_12]
/- HillPaths$Reader.readTerms(II)Z -/
def b_Reader_readTerms_0 : mm_B := ([(0, .aload_n 0, 1, (0, 0, 0), 0), (1, .iload_n 1, 1, (0, 0, 0), 0), (2, .iload_n 2, 1, (0, 0, 0), 0)], .inr (3, .invokevirtual 102, 3, (1, 0), (q_Reader_readTerm, 3, 5), []))
def b_Reader_readTerms_1 : mm_B := ([], .inr (6, .ifCond .ne 5, 3, (3, 2), (0, 0, 0), []))
def b_Reader_readTerms_2 : mm_B := ([(9, .iconst 0, 1, (0, 0, 0), 0)], .inr (10, .ireturn, 1, (0, 0), (1, 0, 0), []))
def b_Reader_readTerms_3 : mm_B := ([(11, .iconst 0, 1, (0, 0, 0), 0), (12, .istore_n 3, 1, (0, 0, 0), 0)], .inl 4)
def b_Reader_readTerms_4 : mm_B := ([(13, .iload_n 3, 1, (0, 0, 0), 0), (14, .bipush 96, 2, (0, 0, 0), 96)], .inr (16, .if_icmp .ge 58, 3, (13, 5), (0, 0, 0), []))
def b_Reader_readTerms_5 : mm_B := ([(19, .aload_n 0, 1, (0, 0, 0), 0), (20, .getfield 31, 3, (5, 6, 0), 0), (23, .bipush 43, 2, (0, 0, 0), 43)], .inr (25, .if_icmp .eq 12, 3, (7, 6), (0, 0, 0), []))
def b_Reader_readTerms_6 : mm_B := ([(28, .aload_n 0, 1, (0, 0, 0), 0), (29, .getfield 31, 3, (5, 6, 0), 0), (32, .bipush 45, 2, (0, 0, 0), 45)], .inr (34, .if_icmp .ne 40, 3, (13, 7), (0, 0, 0), []))
def b_Reader_readTerms_7 : mm_B := ([(37, .aload_n 0, 1, (0, 0, 0), 0), (38, .getfield 31, 3, (5, 6, 0), 0), (41, .istore 4, 2, (0, 0, 0), 0), (43, .aload_n 0, 1, (0, 0, 0), 0)], .inr (44, .invokevirtual 40, 3, (8, 0), (q_Reader_step, 1, 5), []))
def b_Reader_readTerms_8 : mm_B := ([(47, .aload_n 0, 1, (0, 0, 0), 0), (48, .iload_n 1, 1, (0, 0, 0), 0), (49, .iload_n 2, 1, (0, 0, 0), 0)], .inr (50, .invokevirtual 102, 3, (9, 0), (q_Reader_readTerm, 3, 5), []))
def b_Reader_readTerms_9 : mm_B := ([], .inr (53, .ifCond .ne 5, 3, (11, 10), (0, 0, 0), []))
def b_Reader_readTerms_10 : mm_B := ([(56, .iconst 0, 1, (0, 0, 0), 0)], .inr (57, .ireturn, 1, (0, 0), (1, 0, 0), []))
def b_Reader_readTerms_11 : mm_B := ([(58, .aload_n 0, 1, (0, 0, 0), 0), (59, .sipush 20000, 3, (0, 0, 0), 20000), (62, .iload 4, 2, (0, 0, 0), 0), (64, .iadd, 1, (0, 0, 0), 0)], .inr (65, .invokevirtual 92, 3, (12, 0), (q_Reader_put, 2, 5), []))
def b_Reader_readTerms_12 : mm_B := ([(68, .iinc 3 1, 3, (0, 0, 0), 1)], .inr (71, .goto (-58), 3, (4, 0), (0, 0, 0), []))
def b_Reader_readTerms_13 : mm_B := ([(74, .iconst 1, 1, (0, 0, 0), 1)], .inr (75, .ireturn, 1, (0, 0), (1, 0, 0), []))
def t_Reader_readTerms : List mm_B := [b_Reader_readTerms_0, b_Reader_readTerms_1, b_Reader_readTerms_2, b_Reader_readTerms_3, b_Reader_readTerms_4, b_Reader_readTerms_5, b_Reader_readTerms_6, b_Reader_readTerms_7, b_Reader_readTerms_8, b_Reader_readTerms_9, b_Reader_readTerms_10, b_Reader_readTerms_11, b_Reader_readTerms_12, b_Reader_readTerms_13]
/- HillPaths$Reader.readTerm(II)Z -/
def b_Reader_readTerm_0 : mm_B := ([(0, .aload_n 0, 1, (0, 0, 0), 0), (1, .iload_n 1, 1, (0, 0, 0), 0), (2, .iload_n 2, 1, (0, 0, 0), 0)], .inr (3, .invokevirtual 105, 3, (1, 0), (q_Reader_readPart, 3, 5), []))
def b_Reader_readTerm_1 : mm_B := ([], .inr (6, .ifCond .ne 5, 3, (3, 2), (0, 0, 0), []))
def b_Reader_readTerm_2 : mm_B := ([(9, .iconst 0, 1, (0, 0, 0), 0)], .inr (10, .ireturn, 1, (0, 0), (1, 0, 0), []))
def b_Reader_readTerm_3 : mm_B := ([(11, .iconst 0, 1, (0, 0, 0), 0), (12, .istore_n 3, 1, (0, 0, 0), 0)], .inl 4)
def b_Reader_readTerm_4 : mm_B := ([(13, .iload_n 3, 1, (0, 0, 0), 0), (14, .bipush 96, 2, (0, 0, 0), 96)], .inr (16, .if_icmp .ge 58, 3, (13, 5), (0, 0, 0), []))
def b_Reader_readTerm_5 : mm_B := ([(19, .aload_n 0, 1, (0, 0, 0), 0), (20, .getfield 31, 3, (5, 6, 0), 0), (23, .bipush 42, 2, (0, 0, 0), 42)], .inr (25, .if_icmp .eq 12, 3, (7, 6), (0, 0, 0), []))
def b_Reader_readTerm_6 : mm_B := ([(28, .aload_n 0, 1, (0, 0, 0), 0), (29, .getfield 31, 3, (5, 6, 0), 0), (32, .bipush 47, 2, (0, 0, 0), 47)], .inr (34, .if_icmp .ne 40, 3, (13, 7), (0, 0, 0), []))
def b_Reader_readTerm_7 : mm_B := ([(37, .aload_n 0, 1, (0, 0, 0), 0), (38, .getfield 31, 3, (5, 6, 0), 0), (41, .istore 4, 2, (0, 0, 0), 0), (43, .aload_n 0, 1, (0, 0, 0), 0)], .inr (44, .invokevirtual 40, 3, (8, 0), (q_Reader_step, 1, 5), []))
def b_Reader_readTerm_8 : mm_B := ([(47, .aload_n 0, 1, (0, 0, 0), 0), (48, .iload_n 1, 1, (0, 0, 0), 0), (49, .iload_n 2, 1, (0, 0, 0), 0)], .inr (50, .invokevirtual 105, 3, (9, 0), (q_Reader_readPart, 3, 5), []))
def b_Reader_readTerm_9 : mm_B := ([], .inr (53, .ifCond .ne 5, 3, (11, 10), (0, 0, 0), []))
def b_Reader_readTerm_10 : mm_B := ([(56, .iconst 0, 1, (0, 0, 0), 0)], .inr (57, .ireturn, 1, (0, 0), (1, 0, 0), []))
def b_Reader_readTerm_11 : mm_B := ([(58, .aload_n 0, 1, (0, 0, 0), 0), (59, .sipush 20000, 3, (0, 0, 0), 20000), (62, .iload 4, 2, (0, 0, 0), 0), (64, .iadd, 1, (0, 0, 0), 0)], .inr (65, .invokevirtual 92, 3, (12, 0), (q_Reader_put, 2, 5), []))
def b_Reader_readTerm_12 : mm_B := ([(68, .iinc 3 1, 3, (0, 0, 0), 1)], .inr (71, .goto (-58), 3, (4, 0), (0, 0, 0), []))
def b_Reader_readTerm_13 : mm_B := ([(74, .iconst 1, 1, (0, 0, 0), 1)], .inr (75, .ireturn, 1, (0, 0), (1, 0, 0), []))
def t_Reader_readTerm : List mm_B := [b_Reader_readTerm_0, b_Reader_readTerm_1, b_Reader_readTerm_2, b_Reader_readTerm_3, b_Reader_readTerm_4, b_Reader_readTerm_5, b_Reader_readTerm_6, b_Reader_readTerm_7, b_Reader_readTerm_8, b_Reader_readTerm_9, b_Reader_readTerm_10, b_Reader_readTerm_11, b_Reader_readTerm_12, b_Reader_readTerm_13]
/- HillPaths$Reader.readPart(II)Z -/
def b_Reader_readPart_0 : mm_B := ([(0, .aload_n 0, 1, (0, 0, 0), 0), (1, .getfield 31, 3, (5, 6, 0), 0), (4, .sipush 258, 3, (0, 0, 0), 258)], .inr (7, .if_icmp .ne 8, 3, (3, 1), (0, 0, 0), []))
def b_Reader_readPart_1 : mm_B := ([(10, .aload_n 0, 1, (0, 0, 0), 0)], .inr (11, .invokevirtual 108, 3, (2, 0), (q_Reader_readNumber, 1, 5), []))
def b_Reader_readPart_2 : mm_B := ([], .inr (14, .ireturn, 1, (0, 0), (1, 0, 0), []))
def b_Reader_readPart_3 : mm_B := ([(15, .aload_n 0, 1, (0, 0, 0), 0), (16, .getfield 31, 3, (5, 6, 0), 0), (19, .sipush 257, 3, (0, 0, 0), 257)], .inr (22, .if_icmp .ne 8, 3, (6, 4), (0, 0, 0), []))
def b_Reader_readPart_4 : mm_B := ([(25, .aload_n 0, 1, (0, 0, 0), 0)], .inr (26, .invokevirtual 112, 3, (5, 0), (q_Reader_readName, 1, 5), []))
def b_Reader_readPart_5 : mm_B := ([], .inr (29, .ireturn, 1, (0, 0), (1, 0, 0), []))
def b_Reader_readPart_6 : mm_B := ([(30, .aload_n 0, 1, (0, 0, 0), 0), (31, .getfield 31, 3, (5, 6, 0), 0), (34, .bipush 33, 2, (0, 0, 0), 33)], .inr (36, .if_icmp .ne 35, 3, (14, 7), (0, 0, 0), []))
def b_Reader_readPart_7 : mm_B := ([(39, .iload_n 2, 1, (0, 0, 0), 0), (40, .bipush 8, 2, (0, 0, 0), 8)], .inr (42, .if_icmp .ge 29, 3, (14, 8), (0, 0, 0), []))
def b_Reader_readPart_8 : mm_B := ([(45, .aload_n 0, 1, (0, 0, 0), 0)], .inr (46, .invokevirtual 40, 3, (9, 0), (q_Reader_step, 1, 5), []))
def b_Reader_readPart_9 : mm_B := ([(49, .aload_n 0, 1, (0, 0, 0), 0), (50, .iload_n 1, 1, (0, 0, 0), 0), (51, .iload_n 2, 1, (0, 0, 0), 0), (52, .iconst 1, 1, (0, 0, 0), 1), (53, .iadd, 1, (0, 0, 0), 0)], .inr (54, .invokevirtual 105, 3, (10, 0), (q_Reader_readPart, 3, 5), []))
def b_Reader_readPart_10 : mm_B := ([], .inr (57, .ifCond .ne 5, 3, (12, 11), (0, 0, 0), []))
def b_Reader_readPart_11 : mm_B := ([(60, .iconst 0, 1, (0, 0, 0), 0)], .inr (61, .ireturn, 1, (0, 0), (1, 0, 0), []))
def b_Reader_readPart_12 : mm_B := ([(62, .aload_n 0, 1, (0, 0, 0), 0), (63, .sipush 20033, 3, (0, 0, 0), 20033)], .inr (66, .invokevirtual 92, 3, (13, 0), (q_Reader_put, 2, 5), []))
def b_Reader_readPart_13 : mm_B := ([(69, .iconst 1, 1, (0, 0, 0), 1)], .inr (70, .ireturn, 1, (0, 0), (1, 0, 0), []))
def b_Reader_readPart_14 : mm_B := ([(71, .aload_n 0, 1, (0, 0, 0), 0), (72, .getfield 31, 3, (5, 6, 0), 0), (75, .bipush 40, 2, (0, 0, 0), 40)], .inr (77, .if_icmp .ne 41, 3, (23, 15), (0, 0, 0), []))
def b_Reader_readPart_15 : mm_B := ([(80, .iload_n 1, 1, (0, 0, 0), 0), (81, .bipush 8, 2, (0, 0, 0), 8)], .inr (83, .if_icmp .ge 35, 3, (23, 16), (0, 0, 0), []))
def b_Reader_readPart_16 : mm_B := ([(86, .aload_n 0, 1, (0, 0, 0), 0)], .inr (87, .invokevirtual 40, 3, (17, 0), (q_Reader_step, 1, 5), []))
def b_Reader_readPart_17 : mm_B := ([(90, .aload_n 0, 1, (0, 0, 0), 0), (91, .iload_n 1, 1, (0, 0, 0), 0), (92, .iconst 1, 1, (0, 0, 0), 1), (93, .iadd, 1, (0, 0, 0), 0), (94, .iload_n 2, 1, (0, 0, 0), 0)], .inr (95, .invokevirtual 47, 3, (18, 0), (q_Reader_readOr, 3, 5), []))
def b_Reader_readPart_18 : mm_B := ([], .inr (98, .ifCond .eq 12, 3, (20, 19), (0, 0, 0), []))
def b_Reader_readPart_19 : mm_B := ([(101, .aload_n 0, 1, (0, 0, 0), 0), (102, .getfield 31, 3, (5, 6, 0), 0), (105, .bipush 41, 2, (0, 0, 0), 41)], .inr (107, .if_icmp .eq 5, 3, (21, 20), (0, 0, 0), []))
def b_Reader_readPart_20 : mm_B := ([(110, .iconst 0, 1, (0, 0, 0), 0)], .inr (111, .ireturn, 1, (0, 0), (1, 0, 0), []))
def b_Reader_readPart_21 : mm_B := ([(112, .aload_n 0, 1, (0, 0, 0), 0)], .inr (113, .invokevirtual 40, 3, (22, 0), (q_Reader_step, 1, 5), []))
def b_Reader_readPart_22 : mm_B := ([(116, .iconst 1, 1, (0, 0, 0), 1)], .inr (117, .ireturn, 1, (0, 0), (1, 0, 0), []))
def b_Reader_readPart_23 : mm_B := ([(118, .iconst 0, 1, (0, 0, 0), 0)], .inr (119, .ireturn, 1, (0, 0), (1, 0, 0), []))
def t_Reader_readPart : List mm_B := [b_Reader_readPart_0, b_Reader_readPart_1, b_Reader_readPart_2, b_Reader_readPart_3, b_Reader_readPart_4, b_Reader_readPart_5, b_Reader_readPart_6, b_Reader_readPart_7, b_Reader_readPart_8, b_Reader_readPart_9, b_Reader_readPart_10, b_Reader_readPart_11, b_Reader_readPart_12, b_Reader_readPart_13, b_Reader_readPart_14, b_Reader_readPart_15, b_Reader_readPart_16, b_Reader_readPart_17, b_Reader_readPart_18, b_Reader_readPart_19, b_Reader_readPart_20, b_Reader_readPart_21, b_Reader_readPart_22, b_Reader_readPart_23]
/- HillPaths$Reader.readNumber()Z -/
def b_Reader_readNumber_0 : mm_B := ([(0, .aload_n 0, 1, (0, 0, 0), 0), (1, .getfield 37, 3, (5, 8, 0), 0), (4, .aload_n 0, 1, (0, 0, 0), 0), (5, .getfield 34, 3, (5, 7, 0), 0), (8, .isub, 1, (0, 0, 0), 0), (9, .iconst 4, 1, (0, 0, 0), 4)], .inr (10, .if_icmp .le 5, 3, (2, 1), (0, 0, 0), []))
def b_Reader_readNumber_1 : mm_B := ([(13, .iconst 0, 1, (0, 0, 0), 0)], .inr (14, .ireturn, 1, (0, 0), (1, 0, 0), []))
def b_Reader_readNumber_2 : mm_B := ([(15, .iconst 0, 1, (0, 0, 0), 0), (16, .istore_n 1, 1, (0, 0, 0), 0), (17, .aload_n 0, 1, (0, 0, 0), 0), (18, .getfield 34, 3, (5, 7, 0), 0), (21, .istore_n 2, 1, (0, 0, 0), 0)], .inl 3)
def b_Reader_readNumber_3 : mm_B := ([(22, .iload_n 2, 1, (0, 0, 0), 0), (23, .aload_n 0, 1, (0, 0, 0), 0), (24, .getfield 37, 3, (5, 8, 0), 0)], .inr (27, .if_icmp .ge 24, 3, (5, 4), (0, 0, 0), []))
def b_Reader_readNumber_4 : mm_B := ([(30, .iload_n 1, 1, (0, 0, 0), 0), (31, .bipush 10, 2, (0, 0, 0), 10), (33, .imul, 1, (0, 0, 0), 0), (34, .aload_n 0, 1, (0, 0, 0), 0), (35, .getfield 9, 3, (5, 0, 30), 0), (38, .iload_n 2, 1, (0, 0, 0), 0), (39, .iaload, 1, (0, 0, 0), 0), (40, .iadd, 1, (0, 0, 0), 0), (41, .bipush 48, 2, (0, 0, 0), 48), (43, .isub, 1, (0, 0, 0), 0), (44, .istore_n 1, 1, (0, 0, 0), 0), (45, .iinc 2 1, 3, (0, 0, 0), 1)], .inr (48, .goto (-26), 3, (3, 0), (0, 0, 0), []))
def b_Reader_readNumber_5 : mm_B := ([(51, .aload_n 0, 1, (0, 0, 0), 0), (52, .iload_n 1, 1, (0, 0, 0), 0)], .inr (53, .invokevirtual 115, 3, (6, 0), (q_Reader_readOperand, 2, 5), []))
def b_Reader_readNumber_6 : mm_B := ([], .inr (56, .ireturn, 1, (0, 0), (1, 0, 0), []))
def t_Reader_readNumber : List mm_B := [b_Reader_readNumber_0, b_Reader_readNumber_1, b_Reader_readNumber_2, b_Reader_readNumber_3, b_Reader_readNumber_4, b_Reader_readNumber_5, b_Reader_readNumber_6]
/- HillPaths$Reader.readName()Z -/
def b_Reader_readName_0 : mm_B := ([(0, .aload_n 0, 1, (0, 0, 0), 0), (1, .getfield 37, 3, (5, 8, 0), 0), (4, .aload_n 0, 1, (0, 0, 0), 0), (5, .getfield 34, 3, (5, 7, 0), 0), (8, .isub, 1, (0, 0, 0), 0), (9, .iconst 1, 1, (0, 0, 0), 1)], .inr (10, .if_icmp .eq 5, 3, (2, 1), (0, 0, 0), []))
def b_Reader_readName_1 : mm_B := ([(13, .iconst 0, 1, (0, 0, 0), 0)], .inr (14, .ireturn, 1, (0, 0), (1, 0, 0), []))
def b_Reader_readName_2 : mm_B := ([(15, .aload_n 0, 1, (0, 0, 0), 0), (16, .getfield 28, 3, (5, 5, 0), 0)], .inr (19, .invokestatic 119, 3, (3, 0), (q_Reader_namesOf, 1, 0), []))
def b_Reader_readName_3 : mm_B := ([(22, .aload_n 0, 1, (0, 0, 0), 0), (23, .getfield 9, 3, (5, 0, 30), 0), (26, .aload_n 0, 1, (0, 0, 0), 0), (27, .getfield 34, 3, (5, 7, 0), 0), (30, .iaload, 1, (0, 0, 0), 0), (31, .i2c, 1, (0, 0, 0), 0), (32, .invokevirtual 122, 3, (2, 0, 0), 0), (35, .istore_n 1, 1, (0, 0, 0), 0), (36, .iload_n 1, 1, (0, 0, 0), 0)], .inr (37, .ifCond .lt 19, 3, (7, 4), (0, 0, 0), []))
def b_Reader_readName_4 : mm_B := ([(40, .aload_n 0, 1, (0, 0, 0), 0), (41, .sipush 10000, 3, (0, 0, 0), 10000), (44, .iload_n 1, 1, (0, 0, 0), 0), (45, .iadd, 1, (0, 0, 0), 0)], .inr (46, .invokevirtual 115, 3, (5, 0), (q_Reader_readOperand, 2, 5), []))
def b_Reader_readName_5 : mm_B := ([], .inr (49, .ifCond .eq 7, 3, (7, 6), (0, 0, 0), []))
def b_Reader_readName_6 : mm_B := ([(52, .iconst 1, 1, (0, 0, 0), 1)], .inr (53, .goto 4, 3, (8, 0), (0, 0, 0), []))
def b_Reader_readName_7 : mm_B := ([(56, .iconst 0, 1, (0, 0, 0), 0)], .inl 8)
def b_Reader_readName_8 : mm_B := ([], .inr (57, .ireturn, 1, (0, 0), (1, 0, 0), []))
def t_Reader_readName : List mm_B := [b_Reader_readName_0, b_Reader_readName_1, b_Reader_readName_2, b_Reader_readName_3, b_Reader_readName_4, b_Reader_readName_5, b_Reader_readName_6, b_Reader_readName_7, b_Reader_readName_8]
/- HillPaths$Reader.readOperand(I)Z -/
def b_Reader_readOperand_0 : mm_B := ([(0, .aload_n 0, 1, (0, 0, 0), 0), (1, .iload_n 1, 1, (0, 0, 0), 0)], .inr (2, .invokevirtual 92, 3, (1, 0), (q_Reader_put, 2, 5), []))
def b_Reader_readOperand_1 : mm_B := ([(5, .aload_n 0, 1, (0, 0, 0), 0), (6, .dup, 1, (0, 0, 0), 0), (7, .getfield 25, 3, (5, 4, 0), 0), (10, .iconst 1, 1, (0, 0, 0), 1), (11, .iadd, 1, (0, 0, 0), 0), (12, .putfield 25, 3, (5, 4, 0), 0), (15, .aload_n 0, 1, (0, 0, 0), 0)], .inr (16, .invokevirtual 40, 3, (2, 0), (q_Reader_step, 1, 5), []))
def b_Reader_readOperand_2 : mm_B := ([(19, .iconst 1, 1, (0, 0, 0), 1)], .inr (20, .ireturn, 1, (0, 0), (1, 0, 0), []))
def t_Reader_readOperand : List mm_B := [b_Reader_readOperand_0, b_Reader_readOperand_1, b_Reader_readOperand_2]
/- HillPaths$Roster.<init>()V -/
def b_Roster_init_0 : mm_B := ([(0, .aload_n 0, 1, (0, 0, 0), 0), (1, .invokespecial 3, 3, (0, 0, 0), 0), (4, .aload_n 0, 1, (0, 0, 0), 0), (5, .bipush 24, 2, (0, 0, 0), 24), (7, .newarray .int, 2, (31, 0, 0), 0), (9, .putfield 9, 3, (6, 0, 33), 0), (12, .aload_n 0, 1, (0, 0, 0), 0), (13, .bipush 28, 2, (0, 0, 0), 28), (15, .newarray .int, 2, (32, 0, 0), 0), (17, .putfield 15, 3, (6, 1, 34), 0), (20, .aload_n 0, 1, (0, 0, 0), 0), (21, .iconst 4, 1, (0, 0, 0), 4), (22, .newarray .int, 2, (33, 0, 0), 0), (24, .putfield 18, 3, (6, 2, 35), 0), (27, .aload_n 0, 1, (0, 0, 0), 0), (28, .iconst 4, 1, (0, 0, 0), 4), (29, .newarray .int, 2, (34, 0, 0), 0), (31, .putfield 21, 3, (6, 3, 36), 0), (34, .aload_n 0, 1, (0, 0, 0), 0), (35, .bipush 6, 2, (0, 0, 0), 6), (37, .newarray .int, 2, (35, 0, 0), 0), (39, .putfield 24, 3, (6, 4, 37), 0), (42, .aload_n 0, 1, (0, 0, 0), 0), (43, .bipush 6, 2, (0, 0, 0), 6), (45, .newarray .int, 2, (36, 0, 0), 0), (47, .putfield 27, 3, (6, 5, 38), 0)], .inr (50, .return_, 1, (0, 0), (0, 0, 0), []))
def t_Roster_init : List mm_B := [b_Roster_init_0]
/- HillPaths$Roster.findBest(LHillPaths$Hills;)V -/
def b_Roster_findBest_0 : mm_B := ([(0, .aload_n 0, 1, (0, 0, 0), 0), (1, .iconst 4, 1, (0, 0, 0), 4), (2, .aload_n 1, 1, (0, 0, 0), 0), (3, .getfield 30, 3, (3, 12, 8), 0), (6, .getfield 36, 3, (7, 3, 0), 0), (9, .invokestatic 42, 3, (1, 0, 0), 0), (12, .putfield 48, 3, (6, 6, 0), 0), (15, .iconst 0, 1, (0, 0, 0), 0), (16, .istore_n 2, 1, (0, 0, 0), 0)], .inl 1)
def b_Roster_findBest_1 : mm_B := ([(17, .iload_n 2, 1, (0, 0, 0), 0), (18, .aload_n 0, 1, (0, 0, 0), 0), (19, .getfield 48, 3, (6, 6, 0), 0)], .inr (22, .if_icmp .ge 114, 3, (9, 2), (0, 0, 0), []))
def b_Roster_findBest_2 : mm_B := ([(25, .aload_n 0, 1, (0, 0, 0), 0), (26, .getfield 18, 3, (6, 2, 34), 0), (29, .iload_n 2, 1, (0, 0, 0), 0), (30, .aload_n 1, 1, (0, 0, 0), 0), (31, .getfield 30, 3, (3, 12, 8), 0), (34, .iload_n 2, 1, (0, 0, 0), 0), (35, .iconst 1, 1, (0, 0, 0), 1)], .inr (36, .invokevirtual 50, 3, (3, 0), (q_Rows_at, 3, 7), []))
def b_Roster_findBest_3 : mm_B := ([(39, .iastore, 1, (0, 0, 0), 0), (40, .aload_n 0, 1, (0, 0, 0), 0), (41, .getfield 21, 3, (6, 3, 35), 0), (44, .iload_n 2, 1, (0, 0, 0), 0), (45, .iconst 0, 1, (0, 0, 0), 0), (46, .iastore, 1, (0, 0, 0), 0), (47, .aload_n 0, 1, (0, 0, 0), 0), (48, .getfield 15, 3, (6, 1, 33), 0), (51, .bipush 24, 2, (0, 0, 0), 24), (53, .iload_n 2, 1, (0, 0, 0), 0), (54, .iadd, 1, (0, 0, 0), 0), (55, .iconst 0, 1, (0, 0, 0), 0), (56, .iastore, 1, (0, 0, 0), 0), (57, .iconst 5, 1, (0, 0, 0), 5), (58, .istore_n 3, 1, (0, 0, 0), 0)], .inl 4)
def b_Roster_findBest_4 : mm_B := ([(59, .iload_n 3, 1, (0, 0, 0), 0)], .inr (60, .ifCond .lt 70, 3, (8, 5), (0, 0, 0), []))
def b_Roster_findBest_5 : mm_B := ([(63, .iload_n 3, 1, (0, 0, 0), 0), (64, .iconst 4, 1, (0, 0, 0), 4), (65, .imul, 1, (0, 0, 0), 0), (66, .iload_n 2, 1, (0, 0, 0), 0), (67, .iadd, 1, (0, 0, 0), 0), (68, .istore 4, 2, (0, 0, 0), 0), (70, .aload_n 0, 1, (0, 0, 0), 0), (71, .getfield 9, 3, (6, 0, 32), 0), (74, .iload 4, 2, (0, 0, 0), 0), (76, .iconst 2, 1, (0, 0, 0), 2), (77, .aload_n 1, 1, (0, 0, 0), 0), (78, .getfield 53, 3, (3, 13, 0), 0), (81, .aload_n 1, 1, (0, 0, 0), 0), (82, .iload_n 3, 1, (0, 0, 0), 0), (83, .aload_n 1, 1, (0, 0, 0), 0), (84, .getfield 30, 3, (3, 12, 8), 0), (87, .iload_n 2, 1, (0, 0, 0), 0), (88, .iconst 0, 1, (0, 0, 0), 0)], .inr (89, .invokevirtual 50, 3, (6, 0), (q_Rows_at, 3, 7), []))
def b_Roster_findBest_6 : mm_B := ([], .inr (92, .invokestatic 56, 3, (7, 0), (q_Roster_ableOn, 3, 0), []))
def b_Roster_findBest_7 : mm_B := ([(95, .invokestatic 42, 3, (1, 0, 0), 0), (98, .imul, 1, (0, 0, 0), 0), (99, .iastore, 1, (0, 0, 0), 0), (100, .aload_n 0, 1, (0, 0, 0), 0), (101, .getfield 15, 3, (6, 1, 33), 0), (104, .iload 4, 2, (0, 0, 0), 0), (106, .aload_n 0, 1, (0, 0, 0), 0), (107, .getfield 9, 3, (6, 0, 32), 0), (110, .iload 4, 2, (0, 0, 0), 0), (112, .iaload, 1, (0, 0, 0), 0), (113, .aload_n 0, 1, (0, 0, 0), 0), (114, .getfield 15, 3, (6, 1, 33), 0), (117, .iload 4, 2, (0, 0, 0), 0), (119, .iconst 4, 1, (0, 0, 0), 4), (120, .iadd, 1, (0, 0, 0), 0), (121, .iaload, 1, (0, 0, 0), 0), (122, .iadd, 1, (0, 0, 0), 0), (123, .iastore, 1, (0, 0, 0), 0), (124, .iinc 3 (-1), 3, (0, 0, 0), (-1))], .inr (127, .goto (-68), 3, (4, 0), (0, 0, 0), []))
def b_Roster_findBest_8 : mm_B := ([(130, .iinc 2 1, 3, (0, 0, 0), 1)], .inr (133, .goto (-116), 3, (1, 0), (0, 0, 0), []))
def b_Roster_findBest_9 : mm_B := ([(136, .aload_n 0, 1, (0, 0, 0), 0), (137, .iconst (-1), 1, (0, 0, 0), (-1)), (138, .putfield 60, 3, (6, 7, 0), 0), (141, .aload_n 0, 1, (0, 0, 0), 0), (142, .iconst 0, 1, (0, 0, 0), 0), (143, .putfield 63, 3, (6, 8, 0), 0), (146, .aload_n 0, 1, (0, 0, 0), 0), (147, .iconst 0, 1, (0, 0, 0), 0)], .inr (148, .invokevirtual 66, 3, (10, 0), (q_Roster_pick, 2, 6), []))
def b_Roster_findBest_10 : mm_B := ([], .inr (151, .return_, 1, (0, 0), (0, 0, 0), []))
def t_Roster_findBest : List mm_B := [b_Roster_findBest_0, b_Roster_findBest_1, b_Roster_findBest_2, b_Roster_findBest_3, b_Roster_findBest_4, b_Roster_findBest_5, b_Roster_findBest_6, b_Roster_findBest_7, b_Roster_findBest_8, b_Roster_findBest_9, b_Roster_findBest_10]
/- HillPaths$Roster.ableOn(LHillPaths$Hills;II)I -/
def b_Roster_ableOn_0 : mm_B := ([(0, .iconst 0, 1, (0, 0, 0), 0), (1, .istore_n 3, 1, (0, 0, 0), 0), (2, .iconst 0, 1, (0, 0, 0), 0), (3, .istore 4, 2, (0, 0, 0), 0)], .inl 1)
def b_Roster_ableOn_1 : mm_B := ([(5, .iload 4, 2, (0, 0, 0), 0), (7, .aload_n 0, 1, (0, 0, 0), 0), (8, .getfield 70, 3, (3, 11, 8), 0), (11, .getfield 36, 3, (7, 3, 0), 0)], .inr (14, .if_icmp .ge 49, 3, (5, 2), (0, 0, 0), []))
def b_Roster_ableOn_2 : mm_B := ([(17, .aload_n 0, 1, (0, 0, 0), 0), (18, .getfield 70, 3, (3, 11, 8), 0), (21, .iload 4, 2, (0, 0, 0), 0), (23, .iconst 0, 1, (0, 0, 0), 0)], .inr (24, .invokevirtual 50, 3, (3, 0), (q_Rows_at, 3, 7), []))
def b_Roster_ableOn_3 : mm_B := ([(27, .iload_n 2, 1, (0, 0, 0), 0), (28, .ishr, 1, (0, 0, 0), 0), (29, .iconst 1, 1, (0, 0, 0), 1), (30, .iand, 1, (0, 0, 0), 0), (31, .istore 5, 2, (0, 0, 0), 0), (33, .aload_n 0, 1, (0, 0, 0), 0), (34, .getfield 70, 3, (3, 11, 8), 0), (37, .iload 4, 2, (0, 0, 0), 0), (39, .iconst 1, 1, (0, 0, 0), 1)], .inr (40, .invokevirtual 50, 3, (4, 0), (q_Rows_at, 3, 7), []))
def b_Roster_ableOn_4 : mm_B := ([(43, .iload_n 1, 1, (0, 0, 0), 0), (44, .ishr, 1, (0, 0, 0), 0), (45, .iconst 1, 1, (0, 0, 0), 1), (46, .iand, 1, (0, 0, 0), 0), (47, .istore 6, 2, (0, 0, 0), 0), (49, .iload_n 3, 1, (0, 0, 0), 0), (50, .iload 5, 2, (0, 0, 0), 0), (52, .iload 6, 2, (0, 0, 0), 0), (54, .iand, 1, (0, 0, 0), 0), (55, .iadd, 1, (0, 0, 0), 0), (56, .istore_n 3, 1, (0, 0, 0), 0), (57, .iinc 4 1, 3, (0, 0, 0), 1)], .inr (60, .goto (-55), 3, (1, 0), (0, 0, 0), []))
def b_Roster_ableOn_5 : mm_B := ([(63, .iload_n 3, 1, (0, 0, 0), 0)], .inr (64, .ireturn, 1, (0, 0), (0, 0, 0), []))
def t_Roster_ableOn : List mm_B := [b_Roster_ableOn_0, b_Roster_ableOn_1, b_Roster_ableOn_2, b_Roster_ableOn_3, b_Roster_ableOn_4, b_Roster_ableOn_5]
/- HillPaths$Roster.pick(I)V -/
def b_Roster_pick_0 : mm_B := ([(0, .aload_n 0, 1, (0, 0, 0), 0), (1, .iload_n 1, 1, (0, 0, 0), 0)], .inr (2, .invokevirtual 73, 3, (1, 0), (q_Roster_mayBeBetter, 2, 6), []))
def b_Roster_pick_1 : mm_B := ([], .inr (5, .ifCond .ne 4, 3, (3, 2), (0, 0, 0), []))
def b_Roster_pick_2 : mm_B := ([], .inr (8, .return_, 1, (0, 0), (0, 0, 0), []))
def b_Roster_pick_3 : mm_B := ([(9, .iload_n 1, 1, (0, 0, 0), 0), (10, .bipush 6, 2, (0, 0, 0), 6)], .inr (12, .if_icmp .lt 8, 3, (6, 4), (0, 0, 0), []))
def b_Roster_pick_4 : mm_B := ([(15, .aload_n 0, 1, (0, 0, 0), 0)], .inr (16, .invokevirtual 77, 3, (5, 0), (q_Roster_takeAsBest, 1, 6), []))
def b_Roster_pick_5 : mm_B := ([], .inr (19, .return_, 1, (0, 0), (0, 0, 0), []))
def b_Roster_pick_6 : mm_B := ([(20, .aload_n 0, 1, (0, 0, 0), 0), (21, .getfield 24, 3, (6, 4, 36), 0), (24, .iload_n 1, 1, (0, 0, 0), 0), (25, .ldc 80, 2, (0, 0, 0), (-1000000005)), (27, .iastore, 1, (0, 0, 0), 0), (28, .aload_n 0, 1, (0, 0, 0), 0), (29, .iload_n 1, 1, (0, 0, 0), 0), (30, .iconst 1, 1, (0, 0, 0), 1), (31, .iadd, 1, (0, 0, 0), 0)], .inr (32, .invokevirtual 66, 3, (7, 0), (q_Roster_pick, 2, 6), []))
def b_Roster_pick_7 : mm_B := ([(35, .iconst 0, 1, (0, 0, 0), 0), (36, .istore_n 2, 1, (0, 0, 0), 0)], .inl 8)
def b_Roster_pick_8 : mm_B := ([(37, .iload_n 2, 1, (0, 0, 0), 0), (38, .aload_n 0, 1, (0, 0, 0), 0), (39, .getfield 48, 3, (6, 6, 0), 0)], .inr (42, .if_icmp .ge 76, 3, (15, 9), (0, 0, 0), []))
def b_Roster_pick_9 : mm_B := ([(45, .aload_n 0, 1, (0, 0, 0), 0), (46, .getfield 9, 3, (6, 0, 32), 0), (49, .iload_n 1, 1, (0, 0, 0), 0), (50, .iconst 4, 1, (0, 0, 0), 4), (51, .imul, 1, (0, 0, 0), 0), (52, .iload_n 2, 1, (0, 0, 0), 0), (53, .iadd, 1, (0, 0, 0), 0), (54, .iaload, 1, (0, 0, 0), 0), (55, .istore_n 3, 1, (0, 0, 0), 0), (56, .iload_n 3, 1, (0, 0, 0), 0)], .inr (57, .ifCond .eq 55, 3, (14, 10), (0, 0, 0), []))
def b_Roster_pick_10 : mm_B := ([(60, .aload_n 0, 1, (0, 0, 0), 0), (61, .getfield 21, 3, (6, 3, 35), 0), (64, .iload_n 2, 1, (0, 0, 0), 0), (65, .iaload, 1, (0, 0, 0), 0), (66, .aload_n 0, 1, (0, 0, 0), 0), (67, .getfield 18, 3, (6, 2, 34), 0), (70, .iload_n 2, 1, (0, 0, 0), 0), (71, .iaload, 1, (0, 0, 0), 0)], .inr (72, .if_icmp .lt 6, 3, (12, 11), (0, 0, 0), []))
def b_Roster_pick_11 : mm_B := ([], .inr (75, .goto 37, 3, (14, 0), (0, 0, 0), []))
def b_Roster_pick_12 : mm_B := ([(78, .aload_n 0, 1, (0, 0, 0), 0), (79, .getfield 24, 3, (6, 4, 36), 0), (82, .iload_n 1, 1, (0, 0, 0), 0), (83, .iload_n 2, 1, (0, 0, 0), 0), (84, .iastore, 1, (0, 0, 0), 0), (85, .aload_n 0, 1, (0, 0, 0), 0), (86, .getfield 21, 3, (6, 3, 35), 0), (89, .iload_n 2, 1, (0, 0, 0), 0), (90, .dup2, 1, (0, 0, 0), 0), (91, .iaload, 1, (0, 0, 0), 0), (92, .iload_n 3, 1, (0, 0, 0), 0), (93, .iadd, 1, (0, 0, 0), 0), (94, .iastore, 1, (0, 0, 0), 0), (95, .aload_n 0, 1, (0, 0, 0), 0), (96, .iload_n 1, 1, (0, 0, 0), 0), (97, .iconst 1, 1, (0, 0, 0), 1), (98, .iadd, 1, (0, 0, 0), 0)], .inr (99, .invokevirtual 66, 3, (13, 0), (q_Roster_pick, 2, 6), []))
def b_Roster_pick_13 : mm_B := ([(102, .aload_n 0, 1, (0, 0, 0), 0), (103, .getfield 21, 3, (6, 3, 35), 0), (106, .iload_n 2, 1, (0, 0, 0), 0), (107, .dup2, 1, (0, 0, 0), 0), (108, .iaload, 1, (0, 0, 0), 0), (109, .iload_n 3, 1, (0, 0, 0), 0), (110, .isub, 1, (0, 0, 0), 0), (111, .iastore, 1, (0, 0, 0), 0)], .inl 14)
def b_Roster_pick_14 : mm_B := ([(112, .iinc 2 1, 3, (0, 0, 0), 1)], .inr (115, .goto (-78), 3, (8, 0), (0, 0, 0), []))
def b_Roster_pick_15 : mm_B := ([], .inr (118, .return_, 1, (0, 0), (0, 0, 0), []))
def t_Roster_pick : List mm_B := [b_Roster_pick_0, b_Roster_pick_1, b_Roster_pick_2, b_Roster_pick_3, b_Roster_pick_4, b_Roster_pick_5, b_Roster_pick_6, b_Roster_pick_7, b_Roster_pick_8, b_Roster_pick_9, b_Roster_pick_10, b_Roster_pick_11, b_Roster_pick_12, b_Roster_pick_13, b_Roster_pick_14, b_Roster_pick_15]
/- HillPaths$Roster.mayBeBetter(I)Z -/
def b_Roster_mayBeBetter_0 : mm_B := ([(0, .iconst 0, 1, (0, 0, 0), 0), (1, .istore_n 2, 1, (0, 0, 0), 0), (2, .iconst 0, 1, (0, 0, 0), 0), (3, .istore_n 3, 1, (0, 0, 0), 0), (4, .iconst 0, 1, (0, 0, 0), 0), (5, .istore 4, 2, (0, 0, 0), 0)], .inl 1)
def b_Roster_mayBeBetter_1 : mm_B := ([(7, .iload 4, 2, (0, 0, 0), 0), (9, .aload_n 0, 1, (0, 0, 0), 0), (10, .getfield 48, 3, (6, 6, 0), 0)], .inr (13, .if_icmp .ge 60, 3, (5, 2), (0, 0, 0), []))
def b_Roster_mayBeBetter_2 : mm_B := ([(16, .aload_n 0, 1, (0, 0, 0), 0), (17, .getfield 21, 3, (6, 3, 35), 0), (20, .iload 4, 2, (0, 0, 0), 0), (22, .iaload, 1, (0, 0, 0), 0), (23, .aload_n 0, 1, (0, 0, 0), 0), (24, .getfield 15, 3, (6, 1, 33), 0), (27, .iload_n 1, 1, (0, 0, 0), 0), (28, .iconst 4, 1, (0, 0, 0), 4), (29, .imul, 1, (0, 0, 0), 0), (30, .iload 4, 2, (0, 0, 0), 0), (32, .iadd, 1, (0, 0, 0), 0), (33, .iaload, 1, (0, 0, 0), 0), (34, .iadd, 1, (0, 0, 0), 0), (35, .istore 5, 2, (0, 0, 0), 0), (37, .iload 5, 2, (0, 0, 0), 0), (39, .aload_n 0, 1, (0, 0, 0), 0), (40, .getfield 18, 3, (6, 2, 34), 0), (43, .iload 4, 2, (0, 0, 0), 0), (45, .iaload, 1, (0, 0, 0), 0)], .inr (46, .if_icmp .lt 6, 3, (4, 3), (0, 0, 0), []))
def b_Roster_mayBeBetter_3 : mm_B := ([(49, .iinc 2 1, 3, (0, 0, 0), 1)], .inl 4)
def b_Roster_mayBeBetter_4 : mm_B := ([(52, .iload_n 3, 1, (0, 0, 0), 0), (53, .iload 5, 2, (0, 0, 0), 0), (55, .aload_n 0, 1, (0, 0, 0), 0), (56, .getfield 18, 3, (6, 2, 34), 0), (59, .iload 4, 2, (0, 0, 0), 0), (61, .iaload, 1, (0, 0, 0), 0), (62, .invokestatic 42, 3, (1, 0, 0), 0), (65, .iadd, 1, (0, 0, 0), 0), (66, .istore_n 3, 1, (0, 0, 0), 0), (67, .iinc 4 1, 3, (0, 0, 0), 1)], .inr (70, .goto (-63), 3, (1, 0), (0, 0, 0), []))
def b_Roster_mayBeBetter_5 : mm_B := ([(73, .iload_n 2, 1, (0, 0, 0), 0), (74, .aload_n 0, 1, (0, 0, 0), 0), (75, .getfield 60, 3, (6, 7, 0), 0)], .inr (78, .if_icmp .gt 19, 3, (8, 6), (0, 0, 0), []))
def b_Roster_mayBeBetter_6 : mm_B := ([(81, .iload_n 2, 1, (0, 0, 0), 0), (82, .aload_n 0, 1, (0, 0, 0), 0), (83, .getfield 60, 3, (6, 7, 0), 0)], .inr (86, .if_icmp .ne 15, 3, (9, 7), (0, 0, 0), []))
def b_Roster_mayBeBetter_7 : mm_B := ([(89, .iload_n 3, 1, (0, 0, 0), 0), (90, .aload_n 0, 1, (0, 0, 0), 0), (91, .getfield 63, 3, (6, 8, 0), 0)], .inr (94, .if_icmp .le 7, 3, (9, 8), (0, 0, 0), []))
def b_Roster_mayBeBetter_8 : mm_B := ([(97, .iconst 1, 1, (0, 0, 0), 1)], .inr (98, .goto 4, 3, (10, 0), (0, 0, 0), []))
def b_Roster_mayBeBetter_9 : mm_B := ([(101, .iconst 0, 1, (0, 0, 0), 0)], .inl 10)
def b_Roster_mayBeBetter_10 : mm_B := ([], .inr (102, .ireturn, 1, (0, 0), (1, 0, 0), []))
def t_Roster_mayBeBetter : List mm_B := [b_Roster_mayBeBetter_0, b_Roster_mayBeBetter_1, b_Roster_mayBeBetter_2, b_Roster_mayBeBetter_3, b_Roster_mayBeBetter_4, b_Roster_mayBeBetter_5, b_Roster_mayBeBetter_6, b_Roster_mayBeBetter_7, b_Roster_mayBeBetter_8, b_Roster_mayBeBetter_9, b_Roster_mayBeBetter_10]
/- HillPaths$Roster.takeAsBest()V -/
def b_Roster_takeAsBest_0 : mm_B := ([(0, .aload_n 0, 1, (0, 0, 0), 0), (1, .iconst 0, 1, (0, 0, 0), 0), (2, .putfield 60, 3, (6, 7, 0), 0), (5, .aload_n 0, 1, (0, 0, 0), 0), (6, .iconst 0, 1, (0, 0, 0), 0), (7, .putfield 63, 3, (6, 8, 0), 0), (10, .iconst 0, 1, (0, 0, 0), 0), (11, .istore_n 1, 1, (0, 0, 0), 0)], .inl 1)
def b_Roster_takeAsBest_1 : mm_B := ([(12, .iload_n 1, 1, (0, 0, 0), 0), (13, .aload_n 0, 1, (0, 0, 0), 0), (14, .getfield 48, 3, (6, 6, 0), 0)], .inr (17, .if_icmp .ge 58, 3, (5, 2), (0, 0, 0), []))
def b_Roster_takeAsBest_2 : mm_B := ([(20, .aload_n 0, 1, (0, 0, 0), 0), (21, .getfield 21, 3, (6, 3, 35), 0), (24, .iload_n 1, 1, (0, 0, 0), 0), (25, .iaload, 1, (0, 0, 0), 0), (26, .aload_n 0, 1, (0, 0, 0), 0), (27, .getfield 18, 3, (6, 2, 34), 0), (30, .iload_n 1, 1, (0, 0, 0), 0), (31, .iaload, 1, (0, 0, 0), 0)], .inr (32, .if_icmp .lt 13, 3, (4, 3), (0, 0, 0), []))
def b_Roster_takeAsBest_3 : mm_B := ([(35, .aload_n 0, 1, (0, 0, 0), 0), (36, .dup, 1, (0, 0, 0), 0), (37, .getfield 60, 3, (6, 7, 0), 0), (40, .iconst 1, 1, (0, 0, 0), 1), (41, .iadd, 1, (0, 0, 0), 0), (42, .putfield 60, 3, (6, 7, 0), 0)], .inl 4)
def b_Roster_takeAsBest_4 : mm_B := ([(45, .aload_n 0, 1, (0, 0, 0), 0), (46, .dup, 1, (0, 0, 0), 0), (47, .getfield 63, 3, (6, 8, 0), 0), (50, .aload_n 0, 1, (0, 0, 0), 0), (51, .getfield 21, 3, (6, 3, 35), 0), (54, .iload_n 1, 1, (0, 0, 0), 0), (55, .iaload, 1, (0, 0, 0), 0), (56, .aload_n 0, 1, (0, 0, 0), 0), (57, .getfield 18, 3, (6, 2, 34), 0), (60, .iload_n 1, 1, (0, 0, 0), 0), (61, .iaload, 1, (0, 0, 0), 0), (62, .invokestatic 42, 3, (1, 0, 0), 0), (65, .iadd, 1, (0, 0, 0), 0), (66, .putfield 63, 3, (6, 8, 0), 0), (69, .iinc 1 1, 3, (0, 0, 0), 1)], .inr (72, .goto (-60), 3, (1, 0), (0, 0, 0), []))
def b_Roster_takeAsBest_5 : mm_B := ([(75, .iconst 0, 1, (0, 0, 0), 0), (76, .istore_n 1, 1, (0, 0, 0), 0)], .inl 6)
def b_Roster_takeAsBest_6 : mm_B := ([(77, .iload_n 1, 1, (0, 0, 0), 0), (78, .bipush 6, 2, (0, 0, 0), 6)], .inr (80, .if_icmp .ge 21, 3, (8, 7), (0, 0, 0), []))
def b_Roster_takeAsBest_7 : mm_B := ([(83, .aload_n 0, 1, (0, 0, 0), 0), (84, .getfield 27, 3, (6, 5, 37), 0), (87, .iload_n 1, 1, (0, 0, 0), 0), (88, .aload_n 0, 1, (0, 0, 0), 0), (89, .getfield 24, 3, (6, 4, 36), 0), (92, .iload_n 1, 1, (0, 0, 0), 0), (93, .iaload, 1, (0, 0, 0), 0), (94, .iastore, 1, (0, 0, 0), 0), (95, .iinc 1 1, 3, (0, 0, 0), 1)], .inr (98, .goto (-21), 3, (6, 0), (0, 0, 0), []))
def b_Roster_takeAsBest_8 : mm_B := ([], .inr (101, .return_, 1, (0, 0), (0, 0, 0), []))
def t_Roster_takeAsBest : List mm_B := [b_Roster_takeAsBest_0, b_Roster_takeAsBest_1, b_Roster_takeAsBest_2, b_Roster_takeAsBest_3, b_Roster_takeAsBest_4, b_Roster_takeAsBest_5, b_Roster_takeAsBest_6, b_Roster_takeAsBest_7, b_Roster_takeAsBest_8]
/- HillPaths$Rows.<init>(II)V -/
def b_Rows_init_0 : mm_B := ([(0, .aload_n 0, 1, (0, 0, 0), 0), (1, .invokespecial 3, 3, (0, 0, 0), 0), (4, .aload_n 0, 1, (0, 0, 0), 0), (5, .iconst 0, 1, (0, 0, 0), 0), (6, .putfield 9, 3, (7, 3, 0), 0), (9, .aload_n 0, 1, (0, 0, 0), 0), (10, .iload_n 1, 1, (0, 0, 0), 0), (11, .putfield 15, 3, (7, 1, 0), 0), (14, .aload_n 0, 1, (0, 0, 0), 0), (15, .iload_n 2, 1, (0, 0, 0), 0), (16, .putfield 18, 3, (7, 2, 0), 0), (19, .aload_n 0, 1, (0, 0, 0), 0), (20, .iload_n 1, 1, (0, 0, 0), 0), (21, .iload_n 2, 1, (0, 0, 0), 0), (22, .imul, 1, (0, 0, 0), 0), (23, .newarray .int, 2, (37, 0, 0), 0), (25, .putfield 21, 3, (7, 0, 39), 0)], .inr (28, .return_, 1, (0, 0), (0, 0, 0), []))
def t_Rows_init : List mm_B := [b_Rows_init_0]
/- HillPaths$Rows.isFull()Z -/
def b_Rows_isFull_0 : mm_B := ([(0, .aload_n 0, 1, (0, 0, 0), 0), (1, .getfield 9, 3, (7, 3, 0), 0), (4, .aload_n 0, 1, (0, 0, 0), 0), (5, .getfield 15, 3, (7, 1, 0), 0)], .inr (8, .if_icmp .lt 7, 3, (2, 1), (0, 0, 0), []))
def b_Rows_isFull_1 : mm_B := ([(11, .iconst 1, 1, (0, 0, 0), 1)], .inr (12, .goto 4, 3, (3, 0), (0, 0, 0), []))
def b_Rows_isFull_2 : mm_B := ([(15, .iconst 0, 1, (0, 0, 0), 0)], .inl 3)
def b_Rows_isFull_3 : mm_B := ([], .inr (16, .ireturn, 1, (0, 0), (1, 0, 0), []))
def t_Rows_isFull : List mm_B := [b_Rows_isFull_0, b_Rows_isFull_1, b_Rows_isFull_2, b_Rows_isFull_3]
/- HillPaths$Rows.has(I)Z -/
def b_Rows_has_0 : mm_B := ([(0, .iload_n 1, 1, (0, 0, 0), 0)], .inr (1, .ifCond .lt 15, 3, (3, 1), (0, 0, 0), []))
def b_Rows_has_1 : mm_B := ([(4, .iload_n 1, 1, (0, 0, 0), 0), (5, .aload_n 0, 1, (0, 0, 0), 0), (6, .getfield 9, 3, (7, 3, 0), 0)], .inr (9, .if_icmp .ge 7, 3, (3, 2), (0, 0, 0), []))
def b_Rows_has_2 : mm_B := ([(12, .iconst 1, 1, (0, 0, 0), 1)], .inr (13, .goto 4, 3, (4, 0), (0, 0, 0), []))
def b_Rows_has_3 : mm_B := ([(16, .iconst 0, 1, (0, 0, 0), 0)], .inl 4)
def b_Rows_has_4 : mm_B := ([], .inr (17, .ireturn, 1, (0, 0), (1, 0, 0), []))
def t_Rows_has : List mm_B := [b_Rows_has_0, b_Rows_has_1, b_Rows_has_2, b_Rows_has_3, b_Rows_has_4]
/- HillPaths$Rows.add(III)I -/
def b_Rows_add_0 : mm_B := ([(0, .aload_n 0, 1, (0, 0, 0), 0)], .inr (1, .invokevirtual 25, 3, (1, 0), (q_Rows_isFull, 1, 7), []))
def b_Rows_add_1 : mm_B := ([], .inr (4, .ifCond .eq 6, 3, (3, 2), (0, 0, 0), []))
def b_Rows_add_2 : mm_B := ([(7, .ldc 29, 2, (0, 0, 0), (-1000000003))], .inr (9, .ireturn, 1, (0, 0), (0, 0, 0), []))
def b_Rows_add_3 : mm_B := ([(10, .aload_n 0, 1, (0, 0, 0), 0), (11, .getfield 9, 3, (7, 3, 0), 0), (14, .istore 4, 2, (0, 0, 0), 0), (16, .aload_n 0, 1, (0, 0, 0), 0), (17, .iload 4, 2, (0, 0, 0), 0), (19, .iconst 1, 1, (0, 0, 0), 1), (20, .iadd, 1, (0, 0, 0), 0), (21, .putfield 9, 3, (7, 3, 0), 0), (24, .iconst 0, 1, (0, 0, 0), 0), (25, .istore 5, 2, (0, 0, 0), 0)], .inl 4)
def b_Rows_add_4 : mm_B := ([(27, .iload 5, 2, (0, 0, 0), 0), (29, .aload_n 0, 1, (0, 0, 0), 0), (30, .getfield 18, 3, (7, 2, 0), 0)], .inr (33, .if_icmp .ge 48, 3, (14, 5), (0, 0, 0), []))
def b_Rows_add_5 : mm_B := ([(36, .aload_n 0, 1, (0, 0, 0), 0), (37, .iload 4, 2, (0, 0, 0), 0), (39, .iload 5, 2, (0, 0, 0), 0), (41, .iload 5, 2, (0, 0, 0), 0)], .inr (43, .ifCond .ne 7, 3, (7, 6), (0, 0, 0), []))
def b_Rows_add_6 : mm_B := ([(46, .iload_n 1, 1, (0, 0, 0), 0)], .inr (47, .goto 24, 3, (12, 0), (0, 0, 0), []))
def b_Rows_add_7 : mm_B := ([(50, .iload 5, 2, (0, 0, 0), 0), (52, .iconst 1, 1, (0, 0, 0), 1)], .inr (53, .if_icmp .ne 7, 3, (9, 8), (0, 0, 0), []))
def b_Rows_add_8 : mm_B := ([(56, .iload_n 2, 1, (0, 0, 0), 0)], .inr (57, .goto 14, 3, (12, 0), (0, 0, 0), []))
def b_Rows_add_9 : mm_B := ([(60, .iload 5, 2, (0, 0, 0), 0), (62, .iconst 2, 1, (0, 0, 0), 2)], .inr (63, .if_icmp .ne 7, 3, (11, 10), (0, 0, 0), []))
def b_Rows_add_10 : mm_B := ([(66, .iload_n 3, 1, (0, 0, 0), 0)], .inr (67, .goto 4, 3, (12, 0), (0, 0, 0), []))
def b_Rows_add_11 : mm_B := ([(70, .iconst 0, 1, (0, 0, 0), 0)], .inl 12)
def b_Rows_add_12 : mm_B := ([], .inr (71, .invokevirtual 30, 3, (13, 0), (q_Rows_put, 4, 7), []))
def b_Rows_add_13 : mm_B := ([(74, .pop, 1, (0, 0, 0), 0), (75, .iinc 5 1, 3, (0, 0, 0), 1)], .inr (78, .goto (-51), 3, (4, 0), (0, 0, 0), []))
def b_Rows_add_14 : mm_B := ([(81, .iload 4, 2, (0, 0, 0), 0)], .inr (83, .ireturn, 1, (0, 0), (0, 0, 0), []))
def t_Rows_add : List mm_B := [b_Rows_add_0, b_Rows_add_1, b_Rows_add_2, b_Rows_add_3, b_Rows_add_4, b_Rows_add_5, b_Rows_add_6, b_Rows_add_7, b_Rows_add_8, b_Rows_add_9, b_Rows_add_10, b_Rows_add_11, b_Rows_add_12, b_Rows_add_13, b_Rows_add_14]
/- HillPaths$Rows.at(II)I -/
def b_Rows_at_0 : mm_B := ([(0, .aload_n 0, 1, (0, 0, 0), 0), (1, .iload_n 1, 1, (0, 0, 0), 0)], .inr (2, .invokevirtual 34, 3, (1, 0), (q_Rows_has, 2, 7), []))
def b_Rows_at_1 : mm_B := ([], .inr (5, .ifCond .eq 33, 3, (5, 2), (0, 0, 0), []))
def b_Rows_at_2 : mm_B := ([(8, .iload_n 2, 1, (0, 0, 0), 0), (9, .iconst 0, 1, (0, 0, 0), 0), (10, .aload_n 0, 1, (0, 0, 0), 0), (11, .getfield 18, 3, (7, 2, 0), 0), (14, .iconst 1, 1, (0, 0, 0), 1), (15, .isub, 1, (0, 0, 0), 0)], .inr (16, .invokestatic 38, 3, (3, 0), (q_H_within, 3, 0), []))
def b_Rows_at_3 : mm_B := ([], .inr (19, .ifCond .eq 19, 3, (5, 4), (0, 0, 0), []))
def b_Rows_at_4 : mm_B := ([(22, .aload_n 0, 1, (0, 0, 0), 0), (23, .getfield 21, 3, (7, 0, 38), 0), (26, .iload_n 1, 1, (0, 0, 0), 0), (27, .aload_n 0, 1, (0, 0, 0), 0), (28, .getfield 18, 3, (7, 2, 0), 0), (31, .imul, 1, (0, 0, 0), 0), (32, .iload_n 2, 1, (0, 0, 0), 0), (33, .iadd, 1, (0, 0, 0), 0), (34, .iaload, 1, (0, 0, 0), 0)], .inr (35, .goto 4, 3, (6, 0), (0, 0, 0), []))
def b_Rows_at_5 : mm_B := ([(38, .iconst 0, 1, (0, 0, 0), 0)], .inl 6)
def b_Rows_at_6 : mm_B := ([], .inr (39, .ireturn, 1, (0, 0), (0, 0, 0), []))
def t_Rows_at : List mm_B := [b_Rows_at_0, b_Rows_at_1, b_Rows_at_2, b_Rows_at_3, b_Rows_at_4, b_Rows_at_5, b_Rows_at_6]
/- HillPaths$Rows.put(III)I -/
def b_Rows_put_0 : mm_B := ([(0, .aload_n 0, 1, (0, 0, 0), 0), (1, .iload_n 1, 1, (0, 0, 0), 0), (2, .iload_n 2, 1, (0, 0, 0), 0)], .inr (3, .invokevirtual 42, 3, (1, 0), (q_Rows_at, 3, 7), []))
def b_Rows_put_1 : mm_B := ([(6, .istore 4, 2, (0, 0, 0), 0), (8, .aload_n 0, 1, (0, 0, 0), 0), (9, .iload_n 1, 1, (0, 0, 0), 0)], .inr (10, .invokevirtual 34, 3, (2, 0), (q_Rows_has, 2, 7), []))
def b_Rows_put_2 : mm_B := ([], .inr (13, .ifCond .eq 31, 3, (6, 3), (0, 0, 0), []))
def b_Rows_put_3 : mm_B := ([(16, .iload_n 2, 1, (0, 0, 0), 0), (17, .iconst 0, 1, (0, 0, 0), 0), (18, .aload_n 0, 1, (0, 0, 0), 0), (19, .getfield 18, 3, (7, 2, 0), 0), (22, .iconst 1, 1, (0, 0, 0), 1), (23, .isub, 1, (0, 0, 0), 0)], .inr (24, .invokestatic 38, 3, (4, 0), (q_H_within, 3, 0), []))
def b_Rows_put_4 : mm_B := ([], .inr (27, .ifCond .eq 17, 3, (6, 5), (0, 0, 0), []))
def b_Rows_put_5 : mm_B := ([(30, .aload_n 0, 1, (0, 0, 0), 0), (31, .getfield 21, 3, (7, 0, 38), 0), (34, .iload_n 1, 1, (0, 0, 0), 0), (35, .aload_n 0, 1, (0, 0, 0), 0), (36, .getfield 18, 3, (7, 2, 0), 0), (39, .imul, 1, (0, 0, 0), 0), (40, .iload_n 2, 1, (0, 0, 0), 0), (41, .iadd, 1, (0, 0, 0), 0), (42, .iload_n 3, 1, (0, 0, 0), 0), (43, .iastore, 1, (0, 0, 0), 0)], .inl 6)
def b_Rows_put_6 : mm_B := ([(44, .iload 4, 2, (0, 0, 0), 0)], .inr (46, .ireturn, 1, (0, 0), (0, 0, 0), []))
def t_Rows_put : List mm_B := [b_Rows_put_0, b_Rows_put_1, b_Rows_put_2, b_Rows_put_3, b_Rows_put_4, b_Rows_put_5, b_Rows_put_6]
/- HillPaths$Rows.become(LHillPaths$Rows;)V -/
def b_Rows_become_0 : mm_B := ([(0, .aload_n 0, 1, (0, 0, 0), 0), (1, .aload_n 0, 1, (0, 0, 0), 0), (2, .getfield 15, 3, (7, 1, 0), 0), (5, .aload_n 1, 1, (0, 0, 0), 0), (6, .getfield 9, 3, (7, 3, 0), 0), (9, .invokestatic 46, 3, (1, 0, 0), 0), (12, .putfield 9, 3, (7, 3, 0), 0), (15, .aload_n 1, 1, (0, 0, 0), 0), (16, .getfield 21, 3, (7, 0, 38), 0), (19, .iconst 0, 1, (0, 0, 0), 0), (20, .aload_n 0, 1, (0, 0, 0), 0), (21, .getfield 21, 3, (7, 0, 38), 0), (24, .iconst 0, 1, (0, 0, 0), 0), (25, .aload_n 0, 1, (0, 0, 0), 0), (26, .getfield 21, 3, (7, 0, 38), 0), (29, .arraylength, 1, (0, 0, 0), 0), (30, .aload_n 1, 1, (0, 0, 0), 0), (31, .getfield 21, 3, (7, 0, 38), 0), (34, .arraylength, 1, (0, 0, 0), 0), (35, .invokestatic 46, 3, (1, 0, 0), 0), (38, .invokestatic 51, 3, (2, 0, 0), 0)], .inr (41, .return_, 1, (0, 0), (0, 0, 0), []))
def t_Rows_become : List mm_B := [b_Rows_become_0]
/- HillPaths$Stretch.<init>()V -/
def b_Stretch_init_0 : mm_B := ([(0, .aload_n 0, 1, (0, 0, 0), 0), (1, .invokespecial 3, 3, (0, 0, 0), 0)], .inr (4, .return_, 1, (0, 0), (0, 0, 0), []))
def t_Stretch_init : List mm_B := [b_Stretch_init_0]
/- HillPaths$Stretch.begin(IIII)V -/
def b_Stretch_begin_0 : mm_B := ([(0, .aload_n 0, 1, (0, 0, 0), 0), (1, .iload_n 1, 1, (0, 0, 0), 0), (2, .bipush 10, 2, (0, 0, 0), 10), (4, .idiv, 1, (0, 0, 0), 0), (5, .putfield 9, 3, (8, 0, 0), 0), (8, .aload_n 0, 1, (0, 0, 0), 0), (9, .iload_n 1, 1, (0, 0, 0), 0), (10, .bipush 10, 2, (0, 0, 0), 10), (12, .irem, 1, (0, 0, 0), 0), (13, .putfield 15, 3, (8, 1, 0), 0), (16, .aload_n 0, 1, (0, 0, 0), 0), (17, .iload_n 2, 1, (0, 0, 0), 0), (18, .putfield 18, 3, (8, 2, 0), 0), (21, .aload_n 0, 1, (0, 0, 0), 0), (22, .iload_n 3, 1, (0, 0, 0), 0), (23, .bipush 10, 2, (0, 0, 0), 10), (25, .idiv, 1, (0, 0, 0), 0), (26, .putfield 21, 3, (8, 3, 0), 0), (29, .aload_n 0, 1, (0, 0, 0), 0), (30, .iload_n 3, 1, (0, 0, 0), 0), (31, .bipush 10, 2, (0, 0, 0), 10), (33, .irem, 1, (0, 0, 0), 0), (34, .putfield 24, 3, (8, 4, 0), 0), (37, .aload_n 0, 1, (0, 0, 0), 0), (38, .iload 4, 2, (0, 0, 0), 0), (40, .putfield 27, 3, (8, 5, 0), 0), (43, .aload_n 0, 1, (0, 0, 0), 0), (44, .bipush 10, 2, (0, 0, 0), 10), (46, .putfield 30, 3, (8, 6, 0), 0), (49, .aload_n 0, 1, (0, 0, 0), 0), (50, .iconst 0, 1, (0, 0, 0), 0), (51, .putfield 33, 3, (8, 7, 0), 0), (54, .aload_n 0, 1, (0, 0, 0), 0), (55, .iconst 0, 1, (0, 0, 0), 0), (56, .putfield 36, 3, (8, 8, 1), 0)], .inr (59, .return_, 1, (0, 0), (0, 0, 0), []))
def t_Stretch_begin : List mm_B := [b_Stretch_begin_0]
/- HillPaths$Stretch.become(LHillPaths$Stretch;)V -/
def b_Stretch_become_0 : mm_B := ([(0, .aload_n 0, 1, (0, 0, 0), 0), (1, .aload_n 1, 1, (0, 0, 0), 0), (2, .getfield 9, 3, (8, 0, 0), 0), (5, .putfield 9, 3, (8, 0, 0), 0), (8, .aload_n 0, 1, (0, 0, 0), 0), (9, .aload_n 1, 1, (0, 0, 0), 0), (10, .getfield 15, 3, (8, 1, 0), 0), (13, .putfield 15, 3, (8, 1, 0), 0), (16, .aload_n 0, 1, (0, 0, 0), 0), (17, .aload_n 1, 1, (0, 0, 0), 0), (18, .getfield 18, 3, (8, 2, 0), 0), (21, .putfield 18, 3, (8, 2, 0), 0), (24, .aload_n 0, 1, (0, 0, 0), 0), (25, .aload_n 1, 1, (0, 0, 0), 0), (26, .getfield 21, 3, (8, 3, 0), 0), (29, .putfield 21, 3, (8, 3, 0), 0), (32, .aload_n 0, 1, (0, 0, 0), 0), (33, .aload_n 1, 1, (0, 0, 0), 0), (34, .getfield 24, 3, (8, 4, 0), 0), (37, .putfield 24, 3, (8, 4, 0), 0), (40, .aload_n 0, 1, (0, 0, 0), 0), (41, .aload_n 1, 1, (0, 0, 0), 0), (42, .getfield 27, 3, (8, 5, 0), 0), (45, .putfield 27, 3, (8, 5, 0), 0), (48, .aload_n 0, 1, (0, 0, 0), 0), (49, .aload_n 1, 1, (0, 0, 0), 0), (50, .getfield 30, 3, (8, 6, 0), 0), (53, .putfield 30, 3, (8, 6, 0), 0), (56, .aload_n 0, 1, (0, 0, 0), 0), (57, .aload_n 1, 1, (0, 0, 0), 0), (58, .getfield 33, 3, (8, 7, 0), 0), (61, .putfield 33, 3, (8, 7, 0), 0), (64, .aload_n 0, 1, (0, 0, 0), 0), (65, .aload_n 1, 1, (0, 0, 0), 0), (66, .getfield 36, 3, (8, 8, 0), 0), (69, .putfield 36, 3, (8, 8, 1), 0)], .inr (72, .return_, 1, (0, 0), (0, 0, 0), []))
def t_Stretch_become : List mm_B := [b_Stretch_become_0]
/- HillPaths$Stretch.isOf(I)Z -/
def b_Stretch_isOf_0 : mm_B := ([(0, .iload_n 1, 1, (0, 0, 0), 0)], .inr (1, .ifCond .eq 11, 3, (2, 1), (0, 0, 0), []))
def b_Stretch_isOf_1 : mm_B := ([(4, .iload_n 1, 1, (0, 0, 0), 0), (5, .aload_n 0, 1, (0, 0, 0), 0), (6, .getfield 33, 3, (8, 7, 0), 0)], .inr (9, .if_icmp .ne 5, 3, (3, 2), (0, 0, 0), []))
def b_Stretch_isOf_2 : mm_B := ([(12, .iconst 1, 1, (0, 0, 0), 1)], .inr (13, .ireturn, 1, (0, 0), (1, 0, 0), []))
def b_Stretch_isOf_3 : mm_B := ([(14, .iload_n 1, 1, (0, 0, 0), 0), (15, .iconst 1, 1, (0, 0, 0), 1)], .inr (16, .if_icmp .ne 11, 3, (5, 4), (0, 0, 0), []))
def b_Stretch_isOf_4 : mm_B := ([(19, .aload_n 0, 1, (0, 0, 0), 0), (20, .getfield 33, 3, (8, 7, 0), 0), (23, .iconst 3, 1, (0, 0, 0), 3)], .inr (24, .if_icmp .eq 16, 3, (7, 5), (0, 0, 0), []))
def b_Stretch_isOf_5 : mm_B := ([(27, .iload_n 1, 1, (0, 0, 0), 0), (28, .iconst 2, 1, (0, 0, 0), 2)], .inr (29, .if_icmp .ne 15, 3, (8, 6), (0, 0, 0), []))
def b_Stretch_isOf_6 : mm_B := ([(32, .aload_n 0, 1, (0, 0, 0), 0), (33, .getfield 33, 3, (8, 7, 0), 0), (36, .iconst 4, 1, (0, 0, 0), 4)], .inr (37, .if_icmp .ne 7, 3, (8, 7), (0, 0, 0), []))
def b_Stretch_isOf_7 : mm_B := ([(40, .iconst 1, 1, (0, 0, 0), 1)], .inr (41, .goto 4, 3, (9, 0), (0, 0, 0), []))
def b_Stretch_isOf_8 : mm_B := ([(44, .iconst 0, 1, (0, 0, 0), 0)], .inl 9)
def b_Stretch_isOf_9 : mm_B := ([], .inr (45, .ireturn, 1, (0, 0), (1, 0, 0), []))
def t_Stretch_isOf : List mm_B := [b_Stretch_isOf_0, b_Stretch_isOf_1, b_Stretch_isOf_2, b_Stretch_isOf_3, b_Stretch_isOf_4, b_Stretch_isOf_5, b_Stretch_isOf_6, b_Stretch_isOf_7, b_Stretch_isOf_8, b_Stretch_isOf_9]
/- HillPaths$Stretch.meets(I)Z -/
def b_Stretch_meets_0 : mm_B := ([(0, .aload_n 0, 1, (0, 0, 0), 0), (1, .getfield 9, 3, (8, 0, 0), 0), (4, .iload_n 1, 1, (0, 0, 0), 0)], .inr (5, .if_icmp .eq 11, 3, (2, 1), (0, 0, 0), []))
def b_Stretch_meets_1 : mm_B := ([(8, .aload_n 0, 1, (0, 0, 0), 0), (9, .getfield 15, 3, (8, 1, 0), 0), (12, .iload_n 1, 1, (0, 0, 0), 0)], .inr (13, .if_icmp .ne 7, 3, (3, 2), (0, 0, 0), []))
def b_Stretch_meets_2 : mm_B := ([(16, .iconst 1, 1, (0, 0, 0), 1)], .inr (17, .goto 4, 3, (4, 0), (0, 0, 0), []))
def b_Stretch_meets_3 : mm_B := ([(20, .iconst 0, 1, (0, 0, 0), 0)], .inl 4)
def b_Stretch_meets_4 : mm_B := ([], .inr (21, .ireturn, 1, (0, 0), (1, 0, 0), []))
def t_Stretch_meets : List mm_B := [b_Stretch_meets_0, b_Stretch_meets_1, b_Stretch_meets_2, b_Stretch_meets_3, b_Stretch_meets_4]
/- HillPaths$Stretch.effort()I -/
def b_Stretch_effort_0 : mm_B := ([(0, .aload_n 0, 1, (0, 0, 0), 0), (1, .getfield 18, 3, (8, 2, 0), 0), (4, .bipush 10, 2, (0, 0, 0), 10), (6, .aload_n 0, 1, (0, 0, 0), 0), (7, .getfield 21, 3, (8, 3, 0), 0), (10, .iadd, 1, (0, 0, 0), 0), (11, .imul, 1, (0, 0, 0), 0), (12, .aload_n 0, 1, (0, 0, 0), 0), (13, .getfield 30, 3, (8, 6, 0), 0), (16, .bipush 10, 2, (0, 0, 0), 10), (18, .idiv, 1, (0, 0, 0), 0), (19, .iadd, 1, (0, 0, 0), 0), (20, .istore_n 1, 1, (0, 0, 0), 0), (21, .aload_n 0, 1, (0, 0, 0), 0), (22, .getfield 33, 3, (8, 7, 0), 0)], .inr (25, .tableswitch 72 1 4 #[31, 40, 47, 63], 31, (5, 0), (0, 0, 0), [(1, 1), (2, 2), (3, 3), (4, 4)]))
def b_Stretch_effort_1 : mm_B := ([(56, .iload_n 1, 1, (0, 0, 0), 0), (57, .iconst 5, 1, (0, 0, 0), 5), (58, .aload_n 0, 1, (0, 0, 0), 0), (59, .getfield 21, 3, (8, 3, 0), 0), (62, .imul, 1, (0, 0, 0), 0), (63, .iadd, 1, (0, 0, 0), 0)], .inr (64, .ireturn, 1, (0, 0), (0, 0, 0), []))
def b_Stretch_effort_2 : mm_B := ([(65, .iload_n 1, 1, (0, 0, 0), 0), (66, .aload_n 0, 1, (0, 0, 0), 0), (67, .getfield 18, 3, (8, 2, 0), 0), (70, .isub, 1, (0, 0, 0), 0)], .inr (71, .ireturn, 1, (0, 0), (0, 0, 0), []))
def b_Stretch_effort_3 : mm_B := ([(72, .iload_n 1, 1, (0, 0, 0), 0), (73, .iconst 5, 1, (0, 0, 0), 5), (74, .aload_n 0, 1, (0, 0, 0), 0), (75, .getfield 21, 3, (8, 3, 0), 0), (78, .imul, 1, (0, 0, 0), 0), (79, .iadd, 1, (0, 0, 0), 0), (80, .iconst 2, 1, (0, 0, 0), 2), (81, .aload_n 0, 1, (0, 0, 0), 0), (82, .getfield 18, 3, (8, 2, 0), 0), (85, .imul, 1, (0, 0, 0), 0), (86, .isub, 1, (0, 0, 0), 0)], .inr (87, .ireturn, 1, (0, 0), (0, 0, 0), []))
def b_Stretch_effort_4 : mm_B := ([(88, .iload_n 1, 1, (0, 0, 0), 0), (89, .aload_n 0, 1, (0, 0, 0), 0), (90, .getfield 18, 3, (8, 2, 0), 0), (93, .isub, 1, (0, 0, 0), 0), (94, .iconst 2, 1, (0, 0, 0), 2), (95, .idiv, 1, (0, 0, 0), 0)], .inr (96, .ireturn, 1, (0, 0), (0, 0, 0), []))
def b_Stretch_effort_5 : mm_B := ([(97, .iload_n 1, 1, (0, 0, 0), 0)], .inr (98, .ireturn, 1, (0, 0), (0, 0, 0), []))
def t_Stretch_effort : List mm_B := [b_Stretch_effort_0, b_Stretch_effort_1, b_Stretch_effort_2, b_Stretch_effort_3, b_Stretch_effort_4, b_Stretch_effort_5]
/- HillPaths$Stretch.wear(II)I -/
def b_Stretch_wear_0 : mm_B := ([(0, .iconst 1, 1, (0, 0, 0), 1), (1, .aload_n 0, 1, (0, 0, 0), 0), (2, .getfield 24, 3, (8, 4, 0), 0), (5, .ishl, 1, (0, 0, 0), 0), (6, .istore_n 3, 1, (0, 0, 0), 0), (7, .iload_n 1, 1, (0, 0, 0), 0), (8, .aload_n 0, 1, (0, 0, 0), 0), (9, .getfield 21, 3, (8, 3, 0), 0), (12, .iconst 1, 1, (0, 0, 0), 1), (13, .iadd, 1, (0, 0, 0), 0), (14, .imul, 1, (0, 0, 0), 0), (15, .iload_n 3, 1, (0, 0, 0), 0), (16, .imul, 1, (0, 0, 0), 0), (17, .bipush 100, 2, (0, 0, 0), 100), (19, .idiv, 1, (0, 0, 0), 0), (20, .iload_n 2, 1, (0, 0, 0), 0), (21, .aload_n 0, 1, (0, 0, 0), 0), (22, .getfield 21, 3, (8, 3, 0), 0), (25, .imul, 1, (0, 0, 0), 0), (26, .bipush 10, 2, (0, 0, 0), 10), (28, .idiv, 1, (0, 0, 0), 0), (29, .iadd, 1, (0, 0, 0), 0), (30, .istore 4, 2, (0, 0, 0), 0), (32, .aload_n 0, 1, (0, 0, 0), 0), (33, .getfield 33, 3, (8, 7, 0), 0)], .inr (36, .tableswitch 66 1 4 #[32, 37, 46, 53], 32, (5, 0), (0, 0, 0), [(1, 1), (2, 2), (3, 3), (4, 4)]))
def b_Stretch_wear_1 : mm_B := ([(68, .iload 4, 2, (0, 0, 0), 0), (70, .iconst 4, 1, (0, 0, 0), 4), (71, .idiv, 1, (0, 0, 0), 0)], .inr (72, .ireturn, 1, (0, 0), (0, 0, 0), []))
def b_Stretch_wear_2 : mm_B := ([(73, .iconst 0, 1, (0, 0, 0), 0), (74, .iload 4, 2, (0, 0, 0), 0), (76, .iload_n 2, 1, (0, 0, 0), 0), (77, .isub, 1, (0, 0, 0), 0), (78, .invokestatic 40, 3, (0, 0, 0), 0)], .inr (81, .ireturn, 1, (0, 0), (0, 0, 0), []))
def b_Stretch_wear_3 : mm_B := ([(82, .iload 4, 2, (0, 0, 0), 0), (84, .iconst 4, 1, (0, 0, 0), 4), (85, .idiv, 1, (0, 0, 0), 0), (86, .iconst 2, 1, (0, 0, 0), 2), (87, .idiv, 1, (0, 0, 0), 0)], .inr (88, .ireturn, 1, (0, 0), (0, 0, 0), []))
def b_Stretch_wear_4 : mm_B := ([(89, .iconst 0, 1, (0, 0, 0), 0), (90, .iload 4, 2, (0, 0, 0), 0), (92, .iload_n 2, 1, (0, 0, 0), 0), (93, .isub, 1, (0, 0, 0), 0), (94, .invokestatic 40, 3, (0, 0, 0), 0), (97, .iconst 3, 1, (0, 0, 0), 3), (98, .idiv, 1, (0, 0, 0), 0), (99, .iconst 1, 1, (0, 0, 0), 1), (100, .iadd, 1, (0, 0, 0), 0)], .inr (101, .ireturn, 1, (0, 0), (0, 0, 0), []))
def b_Stretch_wear_5 : mm_B := ([(102, .iload 4, 2, (0, 0, 0), 0)], .inr (104, .ireturn, 1, (0, 0), (0, 0, 0), []))
def t_Stretch_wear : List mm_B := [b_Stretch_wear_0, b_Stretch_wear_1, b_Stretch_wear_2, b_Stretch_wear_3, b_Stretch_wear_4, b_Stretch_wear_5]
/- HillPaths$Stretch.wearAndBare(II)I -/
def b_Stretch_wearAndBare_0 : mm_B := ([(0, .aload_n 0, 1, (0, 0, 0), 0), (1, .getfield 30, 3, (8, 6, 0), 0), (4, .bipush 60, 2, (0, 0, 0), 60)], .inr (6, .if_icmp .le 13, 3, (2, 1), (0, 0, 0), []))
def b_Stretch_wearAndBare_1 : mm_B := ([(9, .aload_n 0, 1, (0, 0, 0), 0), (10, .getfield 30, 3, (8, 6, 0), 0), (13, .bipush 30, 2, (0, 0, 0), 30), (15, .idiv, 1, (0, 0, 0), 0)], .inr (16, .goto 4, 3, (3, 0), (0, 0, 0), []))
def b_Stretch_wearAndBare_2 : mm_B := ([(19, .iconst 0, 1, (0, 0, 0), 0)], .inl 3)
def b_Stretch_wearAndBare_3 : mm_B := ([(20, .istore_n 3, 1, (0, 0, 0), 0), (21, .aload_n 0, 1, (0, 0, 0), 0), (22, .iload_n 1, 1, (0, 0, 0), 0), (23, .iload_n 2, 1, (0, 0, 0), 0)], .inr (24, .invokevirtual 46, 3, (4, 0), (q_Stretch_wear, 3, 8), []))
def b_Stretch_wearAndBare_4 : mm_B := ([(27, .iload_n 3, 1, (0, 0, 0), 0), (28, .iadd, 1, (0, 0, 0), 0)], .inr (29, .ireturn, 1, (0, 0), (0, 0, 0), []))
def t_Stretch_wearAndBare : List mm_B := [b_Stretch_wearAndBare_0, b_Stretch_wearAndBare_1, b_Stretch_wearAndBare_2, b_Stretch_wearAndBare_3, b_Stretch_wearAndBare_4]
/- HillPaths$Stretch.holds()I -/
def b_Stretch_holds_0 : mm_B := ([(0, .bipush 20, 2, (0, 0, 0), 20), (2, .iconst 2, 1, (0, 0, 0), 2), (3, .aload_n 0, 1, (0, 0, 0), 0), (4, .getfield 21, 3, (8, 3, 0), 0), (7, .imul, 1, (0, 0, 0), 0), (8, .isub, 1, (0, 0, 0), 0), (9, .aload_n 0, 1, (0, 0, 0), 0), (10, .getfield 24, 3, (8, 4, 0), 0)], .inr (13, .ifCond .ne 7, 3, (2, 1), (0, 0, 0), []))
def b_Stretch_holds_1 : mm_B := ([(16, .iconst 5, 1, (0, 0, 0), 5)], .inr (17, .goto 4, 3, (3, 0), (0, 0, 0), []))
def b_Stretch_holds_2 : mm_B := ([(20, .iconst 0, 1, (0, 0, 0), 0)], .inl 3)
def b_Stretch_holds_3 : mm_B := ([(21, .iadd, 1, (0, 0, 0), 0), (22, .istore_n 1, 1, (0, 0, 0), 0), (23, .aload_n 0, 1, (0, 0, 0), 0), (24, .getfield 33, 3, (8, 7, 0), 0)], .inr (27, .tableswitch 61 1 4 #[29, 34, 29, 44], 29, (9, 0), (0, 0, 0), [(1, 4), (2, 5), (3, 4), (4, 7)]))
def b_Stretch_holds_4 : mm_B := ([(56, .iload_n 1, 1, (0, 0, 0), 0), (57, .bipush 10, 2, (0, 0, 0), 10), (59, .iadd, 1, (0, 0, 0), 0)], .inr (60, .ireturn, 1, (0, 0), (0, 0, 0), []))
def b_Stretch_holds_5 : mm_B := ([(61, .iload_n 1, 1, (0, 0, 0), 0), (62, .aload_n 0, 1, (0, 0, 0), 0), (63, .bipush 100, 2, (0, 0, 0), 100), (65, .iconst 5, 1, (0, 0, 0), 5)], .inr (66, .invokevirtual 46, 3, (6, 0), (q_Stretch_wear, 3, 8), []))
def b_Stretch_holds_6 : mm_B := ([(69, .isub, 1, (0, 0, 0), 0)], .inr (70, .ireturn, 1, (0, 0), (0, 0, 0), []))
def b_Stretch_holds_7 : mm_B := ([(71, .iload_n 1, 1, (0, 0, 0), 0), (72, .aload_n 0, 1, (0, 0, 0), 0), (73, .bipush 100, 2, (0, 0, 0), 100), (75, .iconst 5, 1, (0, 0, 0), 5)], .inr (76, .invokevirtual 46, 3, (8, 0), (q_Stretch_wear, 3, 8), []))
def b_Stretch_holds_8 : mm_B := ([(79, .isub, 1, (0, 0, 0), 0), (80, .aload_n 0, 1, (0, 0, 0), 0), (81, .getfield 18, 3, (8, 2, 0), 0), (84, .iconst 2, 1, (0, 0, 0), 2), (85, .idiv, 1, (0, 0, 0), 0), (86, .isub, 1, (0, 0, 0), 0)], .inr (87, .ireturn, 1, (0, 0), (0, 0, 0), []))
def b_Stretch_holds_9 : mm_B := ([(88, .iload_n 1, 1, (0, 0, 0), 0)], .inr (89, .ireturn, 1, (0, 0), (0, 0, 0), []))
def t_Stretch_holds : List mm_B := [b_Stretch_holds_0, b_Stretch_holds_1, b_Stretch_holds_2, b_Stretch_holds_3, b_Stretch_holds_4, b_Stretch_holds_5, b_Stretch_holds_6, b_Stretch_holds_7, b_Stretch_holds_8, b_Stretch_holds_9]
/- HillPaths$Stretch.grow(II)V -/
def b_Stretch_grow_0 : mm_B := ([(0, .aload_n 0, 1, (0, 0, 0), 0), (1, .sipush 9999, 3, (0, 0, 0), 9999), (4, .aload_n 0, 1, (0, 0, 0), 0), (5, .getfield 30, 3, (8, 6, 0), 0), (8, .aload_n 0, 1, (0, 0, 0), 0), (9, .iload_n 1, 1, (0, 0, 0), 0), (10, .iload_n 2, 1, (0, 0, 0), 0)], .inr (11, .invokevirtual 49, 3, (1, 0), (q_Stretch_wearAndBare, 3, 8), []))
def b_Stretch_grow_1 : mm_B := ([(14, .iadd, 1, (0, 0, 0), 0), (15, .invokestatic 52, 3, (1, 0, 0), 0), (18, .putfield 30, 3, (8, 6, 0), 0)], .inr (21, .return_, 1, (0, 0), (0, 0, 0), []))
def t_Stretch_grow : List mm_B := [b_Stretch_grow_0, b_Stretch_grow_1]
/- HillPaths$Stretch.mendTo(I)V -/
def b_Stretch_mendTo_0 : mm_B := ([(0, .aload_n 0, 1, (0, 0, 0), 0), (1, .iload_n 1, 1, (0, 0, 0), 0), (2, .putfield 33, 3, (8, 7, 0), 0), (5, .aload_n 0, 1, (0, 0, 0), 0), (6, .aload_n 0, 1, (0, 0, 0), 0), (7, .getfield 30, 3, (8, 6, 0), 0), (10, .bipush 12, 2, (0, 0, 0), 12), (12, .invokestatic 52, 3, (1, 0, 0), 0), (15, .putfield 30, 3, (8, 6, 0), 0)], .inr (18, .return_, 1, (0, 0), (0, 0, 0), []))
def t_Stretch_mendTo : List mm_B := [b_Stretch_mendTo_0]
/- HillPaths$Text.<init>()V -/
def b_Text_init_0 : mm_B := ([(0, .aload_n 0, 1, (0, 0, 0), 0), (1, .invokespecial 3, 3, (0, 0, 0), 0), (4, .aload_n 0, 1, (0, 0, 0), 0), (5, .bipush 96, 2, (0, 0, 0), 96), (7, .newarray .int, 2, (38, 0, 0), 0), (9, .putfield 9, 3, (9, 5, 40), 0), (12, .aload_n 0, 1, (0, 0, 0), 0), (13, .bipush 96, 2, (0, 0, 0), 96), (15, .newarray .int, 2, (39, 0, 0), 0), (17, .putfield 15, 3, (9, 6, 41), 0)], .inr (20, .return_, 1, (0, 0), (0, 0, 0), []))
def t_Text_init : List mm_B := [b_Text_init_0]
/- HillPaths$Text.begin(IILHillPaths$Reader;)V -/
def b_Text_begin_0 : mm_B := ([(0, .aload_n 0, 1, (0, 0, 0), 0), (1, .iload_n 1, 1, (0, 0, 0), 0), (2, .putfield 18, 3, (9, 0, 0), 0), (5, .aload_n 0, 1, (0, 0, 0), 0), (6, .iload_n 2, 1, (0, 0, 0), 0), (7, .putfield 22, 3, (9, 1, 0), 0), (10, .aload_n 0, 1, (0, 0, 0), 0), (11, .aload_n 3, 1, (0, 0, 0), 0), (12, .getfield 25, 3, (5, 5, 0), 0), (15, .putfield 30, 3, (9, 2, 0), 0), (18, .aload_n 0, 1, (0, 0, 0), 0), (19, .aload_n 3, 1, (0, 0, 0), 0), (20, .getfield 31, 3, (5, 4, 0), 0), (23, .putfield 34, 3, (9, 3, 0), 0), (26, .aload_n 0, 1, (0, 0, 0), 0), (27, .aload_n 3, 1, (0, 0, 0), 0), (28, .getfield 35, 3, (5, 3, 0), 0), (31, .putfield 38, 3, (9, 4, 0), 0), (34, .aload_n 3, 1, (0, 0, 0), 0), (35, .getfield 41, 3, (5, 2, 31), 0), (38, .iconst 0, 1, (0, 0, 0), 0), (39, .aload_n 0, 1, (0, 0, 0), 0), (40, .getfield 9, 3, (9, 5, 39), 0), (43, .iconst 0, 1, (0, 0, 0), 0), (44, .bipush 96, 2, (0, 0, 0), 96), (46, .invokestatic 42, 3, (2, 0, 0), 0)], .inr (49, .return_, 1, (0, 0), (0, 0, 0), []))
def t_Text_begin : List mm_B := [b_Text_begin_0]
/- HillPaths$Text.workOut([I)I -/
def b_Text_workOut_0 : mm_B := ([(0, .iconst 0, 1, (0, 0, 0), 0), (1, .istore_n 2, 1, (0, 0, 0), 0), (2, .iconst 0, 1, (0, 0, 0), 0), (3, .istore_n 3, 1, (0, 0, 0), 0)], .inl 1)
def b_Text_workOut_1 : mm_B := ([(4, .iload_n 3, 1, (0, 0, 0), 0), (5, .aload_n 0, 1, (0, 0, 0), 0), (6, .getfield 38, 3, (9, 4, 0), 0)], .inr (9, .if_icmp .ge 153, 3, (21, 2), (0, 0, 0), []))
def b_Text_workOut_2 : mm_B := ([(12, .aload_n 0, 1, (0, 0, 0), 0), (13, .getfield 9, 3, (9, 5, 39), 0), (16, .iload_n 3, 1, (0, 0, 0), 0), (17, .iaload, 1, (0, 0, 0), 0), (18, .istore 4, 2, (0, 0, 0), 0), (20, .iload 4, 2, (0, 0, 0), 0), (22, .sipush 20000, 3, (0, 0, 0), 20000)], .inr (25, .if_icmp .ge 48, 3, (9, 3), (0, 0, 0), []))
def b_Text_workOut_3 : mm_B := ([(28, .iload_n 2, 1, (0, 0, 0), 0), (29, .bipush 96, 2, (0, 0, 0), 96)], .inr (31, .if_icmp .lt 5, 3, (5, 4), (0, 0, 0), []))
def b_Text_workOut_4 : mm_B := ([(34, .iconst 0, 1, (0, 0, 0), 0)], .inr (35, .ireturn, 1, (0, 0), (0, 0, 0), []))
def b_Text_workOut_5 : mm_B := ([(36, .aload_n 0, 1, (0, 0, 0), 0), (37, .getfield 15, 3, (9, 6, 40), 0), (40, .iload_n 2, 1, (0, 0, 0), 0), (41, .iload 4, 2, (0, 0, 0), 0), (43, .sipush 10000, 3, (0, 0, 0), 10000)], .inr (46, .if_icmp .ge 8, 3, (7, 6), (0, 0, 0), []))
def b_Text_workOut_6 : mm_B := ([(49, .iload 4, 2, (0, 0, 0), 0)], .inr (51, .goto 15, 3, (8, 0), (0, 0, 0), []))
def b_Text_workOut_7 : mm_B := ([(54, .aload_n 1, 1, (0, 0, 0), 0), (55, .iconst 2, 1, (0, 0, 0), 2), (56, .iload 4, 2, (0, 0, 0), 0), (58, .sipush 10000, 3, (0, 0, 0), 10000), (61, .isub, 1, (0, 0, 0), 0), (62, .invokestatic 48, 3, (1, 0, 0), 0), (65, .iaload, 1, (0, 0, 0), 0)], .inl 8)
def b_Text_workOut_8 : mm_B := ([(66, .iastore, 1, (0, 0, 0), 0), (67, .iinc 2 1, 3, (0, 0, 0), 1)], .inr (70, .goto 86, 3, (20, 0), (0, 0, 0), []))
def b_Text_workOut_9 : mm_B := ([(73, .iload 4, 2, (0, 0, 0), 0), (75, .sipush 20033, 3, (0, 0, 0), 20033)], .inr (78, .if_icmp .ne 37, 3, (16, 10), (0, 0, 0), []))
def b_Text_workOut_10 : mm_B := ([(81, .iload_n 2, 1, (0, 0, 0), 0), (82, .iconst 1, 1, (0, 0, 0), 1)], .inr (83, .if_icmp .ge 5, 3, (12, 11), (0, 0, 0), []))
def b_Text_workOut_11 : mm_B := ([(86, .iconst 0, 1, (0, 0, 0), 0)], .inr (87, .ireturn, 1, (0, 0), (0, 0, 0), []))
def b_Text_workOut_12 : mm_B := ([(88, .aload_n 0, 1, (0, 0, 0), 0), (89, .getfield 15, 3, (9, 6, 40), 0), (92, .iload_n 2, 1, (0, 0, 0), 0), (93, .iconst 1, 1, (0, 0, 0), 1), (94, .isub, 1, (0, 0, 0), 0), (95, .aload_n 0, 1, (0, 0, 0), 0), (96, .getfield 15, 3, (9, 6, 40), 0), (99, .iload_n 2, 1, (0, 0, 0), 0), (100, .iconst 1, 1, (0, 0, 0), 1), (101, .isub, 1, (0, 0, 0), 0), (102, .iaload, 1, (0, 0, 0), 0)], .inr (103, .ifCond .ne 7, 3, (14, 13), (0, 0, 0), []))
def b_Text_workOut_13 : mm_B := ([(106, .iconst 1, 1, (0, 0, 0), 1)], .inr (107, .goto 4, 3, (15, 0), (0, 0, 0), []))
def b_Text_workOut_14 : mm_B := ([(110, .iconst 0, 1, (0, 0, 0), 0)], .inl 15)
def b_Text_workOut_15 : mm_B := ([(111, .iastore, 1, (0, 0, 0), 0)], .inr (112, .goto 44, 3, (20, 0), (0, 0, 0), []))
def b_Text_workOut_16 : mm_B := ([(115, .iload_n 2, 1, (0, 0, 0), 0), (116, .iconst 2, 1, (0, 0, 0), 2)], .inr (117, .if_icmp .ge 5, 3, (18, 17), (0, 0, 0), []))
def b_Text_workOut_17 : mm_B := ([(120, .iconst 0, 1, (0, 0, 0), 0)], .inr (121, .ireturn, 1, (0, 0), (0, 0, 0), []))
def b_Text_workOut_18 : mm_B := ([(122, .iinc 2 (-1), 3, (0, 0, 0), (-1)), (125, .aload_n 0, 1, (0, 0, 0), 0), (126, .getfield 15, 3, (9, 6, 40), 0), (129, .iload_n 2, 1, (0, 0, 0), 0), (130, .iconst 1, 1, (0, 0, 0), 1), (131, .isub, 1, (0, 0, 0), 0), (132, .iload 4, 2, (0, 0, 0), 0), (134, .sipush 20000, 3, (0, 0, 0), 20000), (137, .isub, 1, (0, 0, 0), 0), (138, .aload_n 0, 1, (0, 0, 0), 0), (139, .getfield 15, 3, (9, 6, 40), 0), (142, .iload_n 2, 1, (0, 0, 0), 0), (143, .iconst 1, 1, (0, 0, 0), 1), (144, .isub, 1, (0, 0, 0), 0), (145, .iaload, 1, (0, 0, 0), 0), (146, .aload_n 0, 1, (0, 0, 0), 0), (147, .getfield 15, 3, (9, 6, 40), 0), (150, .iload_n 2, 1, (0, 0, 0), 0), (151, .iaload, 1, (0, 0, 0), 0)], .inr (152, .invokestatic 54, 3, (19, 0), (q_Text_join, 3, 0), []))
def b_Text_workOut_19 : mm_B := ([(155, .iastore, 1, (0, 0, 0), 0)], .inl 20)
def b_Text_workOut_20 : mm_B := ([(156, .iinc 3 1, 3, (0, 0, 0), 1)], .inr (159, .goto (-155), 3, (1, 0), (0, 0, 0), []))
def b_Text_workOut_21 : mm_B := ([(162, .iload_n 2, 1, (0, 0, 0), 0)], .inr (163, .ifCond .le 14, 3, (23, 22), (0, 0, 0), []))
def b_Text_workOut_22 : mm_B := ([(166, .aload_n 0, 1, (0, 0, 0), 0), (167, .getfield 15, 3, (9, 6, 40), 0), (170, .iload_n 2, 1, (0, 0, 0), 0), (171, .iconst 1, 1, (0, 0, 0), 1), (172, .isub, 1, (0, 0, 0), 0), (173, .iaload, 1, (0, 0, 0), 0)], .inr (174, .goto 4, 3, (24, 0), (0, 0, 0), []))
def b_Text_workOut_23 : mm_B := ([(177, .iconst 0, 1, (0, 0, 0), 0)], .inl 24)
def b_Text_workOut_24 : mm_B := ([], .inr (178, .ireturn, 1, (0, 0), (0, 0, 0), []))
def t_Text_workOut : List mm_B := [b_Text_workOut_0, b_Text_workOut_1, b_Text_workOut_2, b_Text_workOut_3, b_Text_workOut_4, b_Text_workOut_5, b_Text_workOut_6, b_Text_workOut_7, b_Text_workOut_8, b_Text_workOut_9, b_Text_workOut_10, b_Text_workOut_11, b_Text_workOut_12, b_Text_workOut_13, b_Text_workOut_14, b_Text_workOut_15, b_Text_workOut_16, b_Text_workOut_17, b_Text_workOut_18, b_Text_workOut_19, b_Text_workOut_20, b_Text_workOut_21, b_Text_workOut_22, b_Text_workOut_23, b_Text_workOut_24]
/- HillPaths$Text.join(III)I -/
def b_Text_join_0 : mm_B := ([(0, .iload_n 0, 1, (0, 0, 0), 0)], .inr (1, .lookupswitch 148 #[(38, 89), (42, 144), (43, 136), (45, 140), (60, 103), (61, 114), (62, 125), (124, 75)], 75, (26, 0), (0, 0, 0), [(38, 6), (42, 25), (43, 23), (45, 24), (60, 11), (61, 15), (62, 19), (124, 1)]))
def b_Text_join_1 : mm_B := ([(76, .iload_n 1, 1, (0, 0, 0), 0)], .inr (77, .ifCond .ne 7, 3, (3, 2), (0, 0, 0), []))
def b_Text_join_2 : mm_B := ([(80, .iload_n 2, 1, (0, 0, 0), 0)], .inr (81, .ifCond .eq 7, 3, (4, 3), (0, 0, 0), []))
def b_Text_join_3 : mm_B := ([(84, .iconst 1, 1, (0, 0, 0), 1)], .inr (85, .goto 4, 3, (5, 0), (0, 0, 0), []))
def b_Text_join_4 : mm_B := ([(88, .iconst 0, 1, (0, 0, 0), 0)], .inl 5)
def b_Text_join_5 : mm_B := ([], .inr (89, .ireturn, 1, (0, 0), (0, 0, 0), []))
def b_Text_join_6 : mm_B := ([(90, .iload_n 1, 1, (0, 0, 0), 0)], .inr (91, .ifCond .eq 11, 3, (9, 7), (0, 0, 0), []))
def b_Text_join_7 : mm_B := ([(94, .iload_n 2, 1, (0, 0, 0), 0)], .inr (95, .ifCond .eq 7, 3, (9, 8), (0, 0, 0), []))
def b_Text_join_8 : mm_B := ([(98, .iconst 1, 1, (0, 0, 0), 1)], .inr (99, .goto 4, 3, (10, 0), (0, 0, 0), []))
def b_Text_join_9 : mm_B := ([(102, .iconst 0, 1, (0, 0, 0), 0)], .inl 10)
def b_Text_join_10 : mm_B := ([], .inr (103, .ireturn, 1, (0, 0), (0, 0, 0), []))
def b_Text_join_11 : mm_B := ([(104, .iload_n 1, 1, (0, 0, 0), 0), (105, .iload_n 2, 1, (0, 0, 0), 0)], .inr (106, .if_icmp .ge 7, 3, (13, 12), (0, 0, 0), []))
def b_Text_join_12 : mm_B := ([(109, .iconst 1, 1, (0, 0, 0), 1)], .inr (110, .goto 4, 3, (14, 0), (0, 0, 0), []))
def b_Text_join_13 : mm_B := ([(113, .iconst 0, 1, (0, 0, 0), 0)], .inl 14)
def b_Text_join_14 : mm_B := ([], .inr (114, .ireturn, 1, (0, 0), (0, 0, 0), []))
def b_Text_join_15 : mm_B := ([(115, .iload_n 1, 1, (0, 0, 0), 0), (116, .iload_n 2, 1, (0, 0, 0), 0)], .inr (117, .if_icmp .ne 7, 3, (17, 16), (0, 0, 0), []))
def b_Text_join_16 : mm_B := ([(120, .iconst 1, 1, (0, 0, 0), 1)], .inr (121, .goto 4, 3, (18, 0), (0, 0, 0), []))
def b_Text_join_17 : mm_B := ([(124, .iconst 0, 1, (0, 0, 0), 0)], .inl 18)
def b_Text_join_18 : mm_B := ([], .inr (125, .ireturn, 1, (0, 0), (0, 0, 0), []))
def b_Text_join_19 : mm_B := ([(126, .iload_n 1, 1, (0, 0, 0), 0), (127, .iload_n 2, 1, (0, 0, 0), 0)], .inr (128, .if_icmp .le 7, 3, (21, 20), (0, 0, 0), []))
def b_Text_join_20 : mm_B := ([(131, .iconst 1, 1, (0, 0, 0), 1)], .inr (132, .goto 4, 3, (22, 0), (0, 0, 0), []))
def b_Text_join_21 : mm_B := ([(135, .iconst 0, 1, (0, 0, 0), 0)], .inl 22)
def b_Text_join_22 : mm_B := ([], .inr (136, .ireturn, 1, (0, 0), (0, 0, 0), []))
def b_Text_join_23 : mm_B := ([(137, .iload_n 1, 1, (0, 0, 0), 0), (138, .iload_n 2, 1, (0, 0, 0), 0), (139, .iadd, 1, (0, 0, 0), 0)], .inr (140, .ireturn, 1, (0, 0), (0, 0, 0), []))
def b_Text_join_24 : mm_B := ([(141, .iload_n 1, 1, (0, 0, 0), 0), (142, .iload_n 2, 1, (0, 0, 0), 0), (143, .isub, 1, (0, 0, 0), 0)], .inr (144, .ireturn, 1, (0, 0), (0, 0, 0), []))
def b_Text_join_25 : mm_B := ([(145, .iload_n 1, 1, (0, 0, 0), 0), (146, .iload_n 2, 1, (0, 0, 0), 0), (147, .imul, 1, (0, 0, 0), 0)], .inr (148, .ireturn, 1, (0, 0), (0, 0, 0), []))
def b_Text_join_26 : mm_B := ([(149, .iload_n 2, 1, (0, 0, 0), 0)], .inr (150, .ifCond .ne 7, 3, (28, 27), (0, 0, 0), []))
def b_Text_join_27 : mm_B := ([(153, .iconst 0, 1, (0, 0, 0), 0)], .inr (154, .goto 6, 3, (29, 0), (0, 0, 0), []))
def b_Text_join_28 : mm_B := ([(157, .iload_n 1, 1, (0, 0, 0), 0), (158, .iload_n 2, 1, (0, 0, 0), 0), (159, .idiv, 1, (0, 0, 0), 0)], .inl 29)
def b_Text_join_29 : mm_B := ([], .inr (160, .ireturn, 1, (0, 0), (0, 0, 0), []))
def t_Text_join : List mm_B := [b_Text_join_0, b_Text_join_1, b_Text_join_2, b_Text_join_3, b_Text_join_4, b_Text_join_5, b_Text_join_6, b_Text_join_7, b_Text_join_8, b_Text_join_9, b_Text_join_10, b_Text_join_11, b_Text_join_12, b_Text_join_13, b_Text_join_14, b_Text_join_15, b_Text_join_16, b_Text_join_17, b_Text_join_18, b_Text_join_19, b_Text_join_20, b_Text_join_21, b_Text_join_22, b_Text_join_23, b_Text_join_24, b_Text_join_25, b_Text_join_26, b_Text_join_27, b_Text_join_28, b_Text_join_29]
/- HillPaths$Walk.<init>()V -/
def b_Walk_init_0 : mm_B := ([(0, .aload_n 0, 1, (0, 0, 0), 0), (1, .invokespecial 3, 3, (0, 0, 0), 0), (4, .aload_n 0, 1, (0, 0, 0), 0), (5, .bipush 16, 2, (0, 0, 0), 16), (7, .newarray .int, 2, (40, 0, 0), 0), (9, .putfield 9, 3, (10, 0, 42), 0), (12, .aload_n 0, 1, (0, 0, 0), 0), (13, .bipush 10, 2, (0, 0, 0), 10), (15, .newarray .int, 2, (41, 0, 0), 0), (17, .putfield 15, 3, (10, 1, 43), 0), (20, .aload_n 0, 1, (0, 0, 0), 0), (21, .bipush 10, 2, (0, 0, 0), 10), (23, .newarray .int, 2, (42, 0, 0), 0), (25, .putfield 18, 3, (10, 2, 44), 0), (28, .aload_n 0, 1, (0, 0, 0), 0), (29, .bipush 16, 2, (0, 0, 0), 16), (31, .newarray .int, 2, (43, 0, 0), 0), (33, .putfield 21, 3, (10, 3, 45), 0), (36, .aload_n 0, 1, (0, 0, 0), 0), (37, .iconst 0, 1, (0, 0, 0), 0), (38, .putfield 24, 3, (10, 4, 0), 0), (41, .aload_n 0, 1, (0, 0, 0), 0), (42, .iconst 0, 1, (0, 0, 0), 0), (43, .putfield 28, 3, (10, 5, 0), 0)], .inr (46, .return_, 1, (0, 0), (0, 0, 0), []))
def t_Walk_init : List mm_B := [b_Walk_init_0]
/- HillPaths$Walk.weigh(LHillPaths$Hills;I)V -/
def b_Walk_weigh_0 : mm_B := ([(0, .iconst 0, 1, (0, 0, 0), 0), (1, .istore_n 3, 1, (0, 0, 0), 0)], .inl 1)
def b_Walk_weigh_1 : mm_B := ([(2, .iload_n 3, 1, (0, 0, 0), 0), (3, .aload_n 1, 1, (0, 0, 0), 0), (4, .getfield 31, 3, (3, 1, 0), 0)], .inr (7, .if_icmp .ge 50, 3, (8, 2), (0, 0, 0), []))
def b_Walk_weigh_2 : mm_B := ([(10, .aload_n 1, 1, (0, 0, 0), 0), (11, .getfield 36, 3, (3, 0, 301), 0), (14, .iload_n 3, 1, (0, 0, 0), 0), (15, .aaload, 1, (0, 0, 0), 0), (16, .astore 4, 2, (0, 0, 0), 0), (18, .aload_n 0, 1, (0, 0, 0), 0), (19, .getfield 9, 3, (10, 0, 41), 0), (22, .iload_n 3, 1, (0, 0, 0), 0), (23, .aload 4, 2, (0, 0, 0), 0), (25, .getfield 40, 3, (8, 8, 0), 0)], .inr (28, .ifCond .ne 8, 3, (4, 3), (0, 0, 0), []))
def b_Walk_weigh_3 : mm_B := ([(31, .iload_n 3, 1, (0, 0, 0), 0), (32, .iload_n 2, 1, (0, 0, 0), 0)], .inr (33, .if_icmp .ne 7, 3, (5, 4), (0, 0, 0), []))
def b_Walk_weigh_4 : mm_B := ([(36, .iconst 0, 1, (0, 0, 0), 0)], .inr (37, .goto 13, 3, (7, 0), (0, 0, 0), []))
def b_Walk_weigh_5 : mm_B := ([(40, .aload 4, 2, (0, 0, 0), 0)], .inr (42, .invokevirtual 46, 3, (6, 0), (q_Stretch_effort, 1, 8), []))
def b_Walk_weigh_6 : mm_B := ([(45, .bipush 16, 2, (0, 0, 0), 16), (47, .imul, 1, (0, 0, 0), 0), (48, .iconst 1, 1, (0, 0, 0), 1), (49, .iadd, 1, (0, 0, 0), 0)], .inl 7)
def b_Walk_weigh_7 : mm_B := ([(50, .iastore, 1, (0, 0, 0), 0), (51, .iinc 3 1, 3, (0, 0, 0), 1)], .inr (54, .goto (-52), 3, (1, 0), (0, 0, 0), []))
def b_Walk_weigh_8 : mm_B := ([], .inr (57, .return_, 1, (0, 0), (0, 0, 0), []))
def t_Walk_weigh : List mm_B := [b_Walk_weigh_0, b_Walk_weigh_1, b_Walk_weigh_2, b_Walk_weigh_3, b_Walk_weigh_4, b_Walk_weigh_5, b_Walk_weigh_6, b_Walk_weigh_7, b_Walk_weigh_8]
/- HillPaths$Walk.tread(LHillPaths$Hills;I)V -/
def b_Walk_tread_0 : mm_B := ([(0, .aload_n 0, 1, (0, 0, 0), 0), (1, .aload_n 1, 1, (0, 0, 0), 0), (2, .iload_n 2, 1, (0, 0, 0), 0)], .inr (3, .invokevirtual 49, 3, (1, 0), (q_Walk_weigh, 3, 10), []))
def b_Walk_tread_1 : mm_B := ([(6, .iconst 0, 1, (0, 0, 0), 0), (7, .istore_n 3, 1, (0, 0, 0), 0)], .inl 2)
def b_Walk_tread_2 : mm_B := ([(8, .iload_n 3, 1, (0, 0, 0), 0), (9, .bipush 16, 2, (0, 0, 0), 16)], .inr (11, .if_icmp .ge 16, 3, (4, 3), (0, 0, 0), []))
def b_Walk_tread_3 : mm_B := ([(14, .aload_n 0, 1, (0, 0, 0), 0), (15, .getfield 21, 3, (10, 3, 44), 0), (18, .iload_n 3, 1, (0, 0, 0), 0), (19, .iconst 0, 1, (0, 0, 0), 0), (20, .iastore, 1, (0, 0, 0), 0), (21, .iinc 3 1, 3, (0, 0, 0), 1)], .inr (24, .goto (-16), 3, (2, 0), (0, 0, 0), []))
def b_Walk_tread_4 : mm_B := ([(27, .iconst 0, 1, (0, 0, 0), 0), (28, .istore_n 3, 1, (0, 0, 0), 0)], .inl 5)
def b_Walk_tread_5 : mm_B := ([(29, .iload_n 3, 1, (0, 0, 0), 0), (30, .aload_n 1, 1, (0, 0, 0), 0), (31, .getfield 53, 3, (3, 2, 8), 0), (34, .getfield 57, 3, (7, 3, 0), 0)], .inr (37, .if_icmp .ge 89, 3, (17, 6), (0, 0, 0), []))
def b_Walk_tread_6 : mm_B := ([(40, .aload_n 1, 1, (0, 0, 0), 0), (41, .getfield 53, 3, (3, 2, 8), 0), (44, .iload_n 3, 1, (0, 0, 0), 0), (45, .iconst 2, 1, (0, 0, 0), 2)], .inr (46, .invokevirtual 62, 3, (7, 0), (q_Rows_at, 3, 7), []))
def b_Walk_tread_7 : mm_B := ([(49, .istore 4, 2, (0, 0, 0), 0), (51, .iload 4, 2, (0, 0, 0), 0)], .inr (53, .ifCond .eq 67, 3, (16, 8), (0, 0, 0), []))
def b_Walk_tread_8 : mm_B := ([(56, .aload_n 0, 1, (0, 0, 0), 0), (57, .aload_n 1, 1, (0, 0, 0), 0), (58, .aload_n 1, 1, (0, 0, 0), 0), (59, .getfield 53, 3, (3, 2, 8), 0), (62, .iload_n 3, 1, (0, 0, 0), 0), (63, .iconst 0, 1, (0, 0, 0), 0)], .inr (64, .invokevirtual 62, 3, (9, 0), (q_Rows_at, 3, 7), []))
def b_Walk_tread_9 : mm_B := ([(67, .aload_n 1, 1, (0, 0, 0), 0), (68, .getfield 53, 3, (3, 2, 8), 0), (71, .iload_n 3, 1, (0, 0, 0), 0), (72, .iconst 1, 1, (0, 0, 0), 1)], .inr (73, .invokevirtual 62, 3, (10, 0), (q_Rows_at, 3, 7), []))
def b_Walk_tread_10 : mm_B := ([], .inr (76, .invokevirtual 66, 3, (11, 0), (q_Walk_find, 4, 10), []))
def b_Walk_tread_11 : mm_B := ([], .inr (79, .ifCond .ne 6, 3, (13, 12), (0, 0, 0), []))
def b_Walk_tread_12 : mm_B := ([], .inr (82, .goto 38, 3, (16, 0), (0, 0, 0), []))
def b_Walk_tread_13 : mm_B := ([(85, .iconst 0, 1, (0, 0, 0), 0), (86, .istore 5, 2, (0, 0, 0), 0)], .inl 14)
def b_Walk_tread_14 : mm_B := ([(88, .iload 5, 2, (0, 0, 0), 0), (90, .aload_n 0, 1, (0, 0, 0), 0), (91, .getfield 24, 3, (10, 4, 0), 0)], .inr (94, .if_icmp .ge 26, 3, (16, 15), (0, 0, 0), []))
def b_Walk_tread_15 : mm_B := ([(97, .aload_n 0, 1, (0, 0, 0), 0), (98, .getfield 21, 3, (10, 3, 44), 0), (101, .aload_n 0, 1, (0, 0, 0), 0), (102, .getfield 18, 3, (10, 2, 43), 0), (105, .iload 5, 2, (0, 0, 0), 0), (107, .iaload, 1, (0, 0, 0), 0), (108, .dup2, 1, (0, 0, 0), 0), (109, .iaload, 1, (0, 0, 0), 0), (110, .iload 4, 2, (0, 0, 0), 0), (112, .iadd, 1, (0, 0, 0), 0), (113, .iastore, 1, (0, 0, 0), 0), (114, .iinc 5 1, 3, (0, 0, 0), 1)], .inr (117, .goto (-29), 3, (14, 0), (0, 0, 0), []))
def b_Walk_tread_16 : mm_B := ([(120, .iinc 3 1, 3, (0, 0, 0), 1)], .inr (123, .goto (-94), 3, (5, 0), (0, 0, 0), []))
def b_Walk_tread_17 : mm_B := ([], .inr (126, .return_, 1, (0, 0), (0, 0, 0), []))
def t_Walk_tread : List mm_B := [b_Walk_tread_0, b_Walk_tread_1, b_Walk_tread_2, b_Walk_tread_3, b_Walk_tread_4, b_Walk_tread_5, b_Walk_tread_6, b_Walk_tread_7, b_Walk_tread_8, b_Walk_tread_9, b_Walk_tread_10, b_Walk_tread_11, b_Walk_tread_12, b_Walk_tread_13, b_Walk_tread_14, b_Walk_tread_15, b_Walk_tread_16, b_Walk_tread_17]
/- HillPaths$Walk.find(LHillPaths$Hills;II)Z -/
def b_Walk_find_0 : mm_B := ([(0, .aload_n 0, 1, (0, 0, 0), 0), (1, .iconst 0, 1, (0, 0, 0), 0), (2, .putfield 24, 3, (10, 4, 0), 0), (5, .aload_n 0, 1, (0, 0, 0), 0), (6, .iconst 0, 1, (0, 0, 0), 0), (7, .putfield 28, 3, (10, 5, 0), 0), (10, .aload_n 0, 1, (0, 0, 0), 0), (11, .aload_n 1, 1, (0, 0, 0), 0), (12, .iload_n 3, 1, (0, 0, 0), 0)], .inr (13, .invokevirtual 70, 3, (1, 0), (q_Walk_measure, 3, 10), []))
def b_Walk_find_1 : mm_B := ([(16, .aload_n 0, 1, (0, 0, 0), 0), (17, .getfield 15, 3, (10, 1, 42), 0), (20, .iload_n 2, 1, (0, 0, 0), 0), (21, .iaload, 1, (0, 0, 0), 0), (22, .ldc 73, 2, (0, 0, 0), 536870912)], .inr (24, .if_icmp .lt 5, 3, (3, 2), (0, 0, 0), []))
def b_Walk_find_2 : mm_B := ([(27, .iconst 0, 1, (0, 0, 0), 0)], .inr (28, .ireturn, 1, (0, 0), (1, 0, 0), []))
def b_Walk_find_3 : mm_B := ([(29, .aload_n 0, 1, (0, 0, 0), 0), (30, .aload_n 0, 1, (0, 0, 0), 0), (31, .getfield 15, 3, (10, 1, 42), 0), (34, .iload_n 2, 1, (0, 0, 0), 0), (35, .iaload, 1, (0, 0, 0), 0), (36, .bipush 16, 2, (0, 0, 0), 16), (38, .idiv, 1, (0, 0, 0), 0), (39, .putfield 28, 3, (10, 5, 0), 0), (42, .iload_n 2, 1, (0, 0, 0), 0), (43, .istore 4, 2, (0, 0, 0), 0), (45, .iconst 0, 1, (0, 0, 0), 0), (46, .istore 5, 2, (0, 0, 0), 0)], .inl 4)
def b_Walk_find_4 : mm_B := ([(48, .iload 5, 2, (0, 0, 0), 0), (50, .bipush 10, 2, (0, 0, 0), 10)], .inr (52, .if_icmp .ge 64, 3, (11, 5), (0, 0, 0), []))
def b_Walk_find_5 : mm_B := ([(55, .iload 4, 2, (0, 0, 0), 0), (57, .iload_n 3, 1, (0, 0, 0), 0)], .inr (58, .if_icmp .eq 58, 3, (11, 6), (0, 0, 0), []))
def b_Walk_find_6 : mm_B := ([(61, .aload_n 0, 1, (0, 0, 0), 0), (62, .aload_n 1, 1, (0, 0, 0), 0), (63, .iload 4, 2, (0, 0, 0), 0)], .inr (65, .invokevirtual 74, 3, (7, 0), (q_Walk_firstOnward, 3, 10), []))
def b_Walk_find_7 : mm_B := ([(68, .istore 6, 2, (0, 0, 0), 0), (70, .iload 6, 2, (0, 0, 0), 0), (72, .ldc 78, 2, (0, 0, 0), (-1000000005))], .inr (74, .if_icmp .ne 5, 3, (9, 8), (0, 0, 0), []))
def b_Walk_find_8 : mm_B := ([(77, .iconst 0, 1, (0, 0, 0), 0)], .inr (78, .ireturn, 1, (0, 0), (1, 0, 0), []))
def b_Walk_find_9 : mm_B := ([(79, .aload_n 0, 1, (0, 0, 0), 0), (80, .getfield 18, 3, (10, 2, 43), 0), (83, .iload 5, 2, (0, 0, 0), 0), (85, .iload 6, 2, (0, 0, 0), 0), (87, .iastore, 1, (0, 0, 0), 0), (88, .aload_n 0, 1, (0, 0, 0), 0), (89, .iload 5, 2, (0, 0, 0), 0), (91, .iconst 1, 1, (0, 0, 0), 1), (92, .iadd, 1, (0, 0, 0), 0), (93, .putfield 24, 3, (10, 4, 0), 0), (96, .aload_n 1, 1, (0, 0, 0), 0), (97, .getfield 36, 3, (3, 0, 301), 0), (100, .iload 6, 2, (0, 0, 0), 0), (102, .aaload, 1, (0, 0, 0), 0), (103, .iload 4, 2, (0, 0, 0), 0)], .inr (105, .invokestatic 79, 3, (10, 0), (q_Walk_otherEnd, 2, 0), []))
def b_Walk_find_10 : mm_B := ([(108, .istore 4, 2, (0, 0, 0), 0), (110, .iinc 5 1, 3, (0, 0, 0), 1)], .inr (113, .goto (-65), 3, (4, 0), (0, 0, 0), []))
def b_Walk_find_11 : mm_B := ([(116, .iload 4, 2, (0, 0, 0), 0), (118, .iload_n 3, 1, (0, 0, 0), 0)], .inr (119, .if_icmp .ne 7, 3, (13, 12), (0, 0, 0), []))
def b_Walk_find_12 : mm_B := ([(122, .iconst 1, 1, (0, 0, 0), 1)], .inr (123, .goto 4, 3, (14, 0), (0, 0, 0), []))
def b_Walk_find_13 : mm_B := ([(126, .iconst 0, 1, (0, 0, 0), 0)], .inl 14)
def b_Walk_find_14 : mm_B := ([], .inr (127, .ireturn, 1, (0, 0), (1, 0, 0), []))
def t_Walk_find : List mm_B := [b_Walk_find_0, b_Walk_find_1, b_Walk_find_2, b_Walk_find_3, b_Walk_find_4, b_Walk_find_5, b_Walk_find_6, b_Walk_find_7, b_Walk_find_8, b_Walk_find_9, b_Walk_find_10, b_Walk_find_11, b_Walk_find_12, b_Walk_find_13, b_Walk_find_14]
/- HillPaths$Walk.measure(LHillPaths$Hills;I)V -/
def b_Walk_measure_0 : mm_B := ([(0, .iconst 0, 1, (0, 0, 0), 0), (1, .istore_n 3, 1, (0, 0, 0), 0)], .inl 1)
def b_Walk_measure_1 : mm_B := ([(2, .iload_n 3, 1, (0, 0, 0), 0), (3, .bipush 10, 2, (0, 0, 0), 10)], .inr (5, .if_icmp .ge 17, 3, (3, 2), (0, 0, 0), []))
def b_Walk_measure_2 : mm_B := ([(8, .aload_n 0, 1, (0, 0, 0), 0), (9, .getfield 15, 3, (10, 1, 42), 0), (12, .iload_n 3, 1, (0, 0, 0), 0), (13, .ldc 73, 2, (0, 0, 0), 536870912), (15, .iastore, 1, (0, 0, 0), 0), (16, .iinc 3 1, 3, (0, 0, 0), 1)], .inr (19, .goto (-17), 3, (1, 0), (0, 0, 0), []))
def b_Walk_measure_3 : mm_B := ([(22, .aload_n 0, 1, (0, 0, 0), 0), (23, .getfield 15, 3, (10, 1, 42), 0), (26, .iload_n 2, 1, (0, 0, 0), 0), (27, .iconst 0, 1, (0, 0, 0), 0), (28, .iastore, 1, (0, 0, 0), 0), (29, .iconst 1, 1, (0, 0, 0), 1), (30, .istore_n 3, 1, (0, 0, 0), 0), (31, .iconst 0, 1, (0, 0, 0), 0), (32, .istore 4, 2, (0, 0, 0), 0)], .inl 4)
def b_Walk_measure_4 : mm_B := ([(34, .iload 4, 2, (0, 0, 0), 0), (36, .bipush 10, 2, (0, 0, 0), 10)], .inr (38, .if_icmp .ge 66, 3, (14, 5), (0, 0, 0), []))
def b_Walk_measure_5 : mm_B := ([(41, .iload_n 3, 1, (0, 0, 0), 0)], .inr (42, .ifCond .eq 62, 3, (14, 6), (0, 0, 0), []))
def b_Walk_measure_6 : mm_B := ([(45, .iconst 0, 1, (0, 0, 0), 0), (46, .istore_n 3, 1, (0, 0, 0), 0), (47, .iconst 0, 1, (0, 0, 0), 0), (48, .istore 5, 2, (0, 0, 0), 0)], .inl 7)
def b_Walk_measure_7 : mm_B := ([(50, .iload 5, 2, (0, 0, 0), 0), (52, .aload_n 1, 1, (0, 0, 0), 0), (53, .getfield 31, 3, (3, 1, 0), 0)], .inr (56, .if_icmp .ge 42, 3, (13, 8), (0, 0, 0), []))
def b_Walk_measure_8 : mm_B := ([(59, .aload_n 0, 1, (0, 0, 0), 0), (60, .getfield 9, 3, (10, 0, 41), 0), (63, .iload 5, 2, (0, 0, 0), 0), (65, .iaload, 1, (0, 0, 0), 0)], .inr (66, .ifCond .le 26, 3, (12, 9), (0, 0, 0), []))
def b_Walk_measure_9 : mm_B := ([(69, .aload_n 0, 1, (0, 0, 0), 0), (70, .aload_n 1, 1, (0, 0, 0), 0), (71, .getfield 36, 3, (3, 0, 301), 0), (74, .iload 5, 2, (0, 0, 0), 0), (76, .aaload, 1, (0, 0, 0), 0), (77, .aload_n 0, 1, (0, 0, 0), 0), (78, .getfield 9, 3, (10, 0, 41), 0), (81, .iload 5, 2, (0, 0, 0), 0), (83, .iaload, 1, (0, 0, 0), 0)], .inr (84, .invokevirtual 83, 3, (10, 0), (q_Walk_bringNearer, 3, 10), []))
def b_Walk_measure_10 : mm_B := ([], .inr (87, .ifCond .eq 5, 3, (12, 11), (0, 0, 0), []))
def b_Walk_measure_11 : mm_B := ([(90, .iconst 1, 1, (0, 0, 0), 1), (91, .istore_n 3, 1, (0, 0, 0), 0)], .inl 12)
def b_Walk_measure_12 : mm_B := ([(92, .iinc 5 1, 3, (0, 0, 0), 1)], .inr (95, .goto (-45), 3, (7, 0), (0, 0, 0), []))
def b_Walk_measure_13 : mm_B := ([(98, .iinc 4 1, 3, (0, 0, 0), 1)], .inr (101, .goto (-67), 3, (4, 0), (0, 0, 0), []))
def b_Walk_measure_14 : mm_B := ([], .inr (104, .return_, 1, (0, 0), (0, 0, 0), []))
def t_Walk_measure : List mm_B := [b_Walk_measure_0, b_Walk_measure_1, b_Walk_measure_2, b_Walk_measure_3, b_Walk_measure_4, b_Walk_measure_5, b_Walk_measure_6, b_Walk_measure_7, b_Walk_measure_8, b_Walk_measure_9, b_Walk_measure_10, b_Walk_measure_11, b_Walk_measure_12, b_Walk_measure_13, b_Walk_measure_14]
/- HillPaths$Walk.bringNearer(LHillPaths$Stretch;I)Z -/
def b_Walk_bringNearer_0 : mm_B := ([(0, .aload_n 0, 1, (0, 0, 0), 0), (1, .getfield 15, 3, (10, 1, 42), 0), (4, .aload_n 1, 1, (0, 0, 0), 0), (5, .getfield 87, 3, (8, 1, 0), 0), (8, .iaload, 1, (0, 0, 0), 0), (9, .iload_n 2, 1, (0, 0, 0), 0), (10, .iadd, 1, (0, 0, 0), 0), (11, .aload_n 0, 1, (0, 0, 0), 0), (12, .getfield 15, 3, (10, 1, 42), 0), (15, .aload_n 1, 1, (0, 0, 0), 0), (16, .getfield 90, 3, (8, 0, 0), 0), (19, .iaload, 1, (0, 0, 0), 0)], .inr (20, .if_icmp .ge 25, 3, (2, 1), (0, 0, 0), []))
def b_Walk_bringNearer_1 : mm_B := ([(23, .aload_n 0, 1, (0, 0, 0), 0), (24, .getfield 15, 3, (10, 1, 42), 0), (27, .aload_n 1, 1, (0, 0, 0), 0), (28, .getfield 90, 3, (8, 0, 0), 0), (31, .aload_n 0, 1, (0, 0, 0), 0), (32, .getfield 15, 3, (10, 1, 42), 0), (35, .aload_n 1, 1, (0, 0, 0), 0), (36, .getfield 87, 3, (8, 1, 0), 0), (39, .iaload, 1, (0, 0, 0), 0), (40, .iload_n 2, 1, (0, 0, 0), 0), (41, .iadd, 1, (0, 0, 0), 0), (42, .iastore, 1, (0, 0, 0), 0), (43, .iconst 1, 1, (0, 0, 0), 1)], .inr (44, .ireturn, 1, (0, 0), (1, 0, 0), []))
def b_Walk_bringNearer_2 : mm_B := ([(45, .aload_n 0, 1, (0, 0, 0), 0), (46, .getfield 15, 3, (10, 1, 42), 0), (49, .aload_n 1, 1, (0, 0, 0), 0), (50, .getfield 90, 3, (8, 0, 0), 0), (53, .iaload, 1, (0, 0, 0), 0), (54, .iload_n 2, 1, (0, 0, 0), 0), (55, .iadd, 1, (0, 0, 0), 0), (56, .aload_n 0, 1, (0, 0, 0), 0), (57, .getfield 15, 3, (10, 1, 42), 0), (60, .aload_n 1, 1, (0, 0, 0), 0), (61, .getfield 87, 3, (8, 1, 0), 0), (64, .iaload, 1, (0, 0, 0), 0)], .inr (65, .if_icmp .ge 25, 3, (4, 3), (0, 0, 0), []))
def b_Walk_bringNearer_3 : mm_B := ([(68, .aload_n 0, 1, (0, 0, 0), 0), (69, .getfield 15, 3, (10, 1, 42), 0), (72, .aload_n 1, 1, (0, 0, 0), 0), (73, .getfield 87, 3, (8, 1, 0), 0), (76, .aload_n 0, 1, (0, 0, 0), 0), (77, .getfield 15, 3, (10, 1, 42), 0), (80, .aload_n 1, 1, (0, 0, 0), 0), (81, .getfield 90, 3, (8, 0, 0), 0), (84, .iaload, 1, (0, 0, 0), 0), (85, .iload_n 2, 1, (0, 0, 0), 0), (86, .iadd, 1, (0, 0, 0), 0), (87, .iastore, 1, (0, 0, 0), 0), (88, .iconst 1, 1, (0, 0, 0), 1)], .inr (89, .ireturn, 1, (0, 0), (1, 0, 0), []))
def b_Walk_bringNearer_4 : mm_B := ([(90, .iconst 0, 1, (0, 0, 0), 0)], .inr (91, .ireturn, 1, (0, 0), (1, 0, 0), []))
def t_Walk_bringNearer : List mm_B := [b_Walk_bringNearer_0, b_Walk_bringNearer_1, b_Walk_bringNearer_2, b_Walk_bringNearer_3, b_Walk_bringNearer_4]
/- HillPaths$Walk.firstOnward(LHillPaths$Hills;I)I -/
def b_Walk_firstOnward_0 : mm_B := ([(0, .iconst 0, 1, (0, 0, 0), 0), (1, .istore_n 3, 1, (0, 0, 0), 0)], .inl 1)
def b_Walk_firstOnward_1 : mm_B := ([(2, .iload_n 3, 1, (0, 0, 0), 0), (3, .aload_n 1, 1, (0, 0, 0), 0), (4, .getfield 31, 3, (3, 1, 0), 0)], .inr (7, .if_icmp .ge 64, 3, (9, 2), (0, 0, 0), []))
def b_Walk_firstOnward_2 : mm_B := ([(10, .aload_n 1, 1, (0, 0, 0), 0), (11, .getfield 36, 3, (3, 0, 301), 0), (14, .iload_n 3, 1, (0, 0, 0), 0), (15, .aaload, 1, (0, 0, 0), 0), (16, .astore 4, 2, (0, 0, 0), 0), (18, .aload_n 0, 1, (0, 0, 0), 0), (19, .getfield 9, 3, (10, 0, 41), 0), (22, .iload_n 3, 1, (0, 0, 0), 0), (23, .iaload, 1, (0, 0, 0), 0)], .inr (24, .ifCond .le 41, 3, (8, 3), (0, 0, 0), []))
def b_Walk_firstOnward_3 : mm_B := ([(27, .aload 4, 2, (0, 0, 0), 0), (29, .iload_n 2, 1, (0, 0, 0), 0)], .inr (30, .invokevirtual 93, 3, (4, 0), (q_Stretch_meets, 2, 8), []))
def b_Walk_firstOnward_4 : mm_B := ([], .inr (33, .ifCond .eq 32, 3, (8, 5), (0, 0, 0), []))
def b_Walk_firstOnward_5 : mm_B := ([(36, .aload_n 0, 1, (0, 0, 0), 0), (37, .getfield 15, 3, (10, 1, 42), 0), (40, .aload 4, 2, (0, 0, 0), 0), (42, .iload_n 2, 1, (0, 0, 0), 0)], .inr (43, .invokestatic 79, 3, (6, 0), (q_Walk_otherEnd, 2, 0), []))
def b_Walk_firstOnward_6 : mm_B := ([(46, .iaload, 1, (0, 0, 0), 0), (47, .aload_n 0, 1, (0, 0, 0), 0), (48, .getfield 9, 3, (10, 0, 41), 0), (51, .iload_n 3, 1, (0, 0, 0), 0), (52, .iaload, 1, (0, 0, 0), 0), (53, .iadd, 1, (0, 0, 0), 0), (54, .aload_n 0, 1, (0, 0, 0), 0), (55, .getfield 15, 3, (10, 1, 42), 0), (58, .iload_n 2, 1, (0, 0, 0), 0), (59, .iaload, 1, (0, 0, 0), 0)], .inr (60, .if_icmp .ne 5, 3, (8, 7), (0, 0, 0), []))
def b_Walk_firstOnward_7 : mm_B := ([(63, .iload_n 3, 1, (0, 0, 0), 0)], .inr (64, .ireturn, 1, (0, 0), (0, 0, 0), []))
def b_Walk_firstOnward_8 : mm_B := ([(65, .iinc 3 1, 3, (0, 0, 0), 1)], .inr (68, .goto (-66), 3, (1, 0), (0, 0, 0), []))
def b_Walk_firstOnward_9 : mm_B := ([(71, .ldc 78, 2, (0, 0, 0), (-1000000005))], .inr (73, .ireturn, 1, (0, 0), (0, 0, 0), []))
def t_Walk_firstOnward : List mm_B := [b_Walk_firstOnward_0, b_Walk_firstOnward_1, b_Walk_firstOnward_2, b_Walk_firstOnward_3, b_Walk_firstOnward_4, b_Walk_firstOnward_5, b_Walk_firstOnward_6, b_Walk_firstOnward_7, b_Walk_firstOnward_8, b_Walk_firstOnward_9]
/- HillPaths$Walk.otherEnd(LHillPaths$Stretch;I)I -/
def b_Walk_otherEnd_0 : mm_B := ([(0, .aload_n 0, 1, (0, 0, 0), 0), (1, .getfield 90, 3, (8, 0, 0), 0), (4, .iload_n 1, 1, (0, 0, 0), 0)], .inr (5, .if_icmp .ne 10, 3, (2, 1), (0, 0, 0), []))
def b_Walk_otherEnd_1 : mm_B := ([(8, .aload_n 0, 1, (0, 0, 0), 0), (9, .getfield 87, 3, (8, 1, 0), 0)], .inr (12, .goto 7, 3, (3, 0), (0, 0, 0), []))
def b_Walk_otherEnd_2 : mm_B := ([(15, .aload_n 0, 1, (0, 0, 0), 0), (16, .getfield 90, 3, (8, 0, 0), 0)], .inl 3)
def b_Walk_otherEnd_3 : mm_B := ([], .inr (19, .ireturn, 1, (0, 0), (0, 0, 0), []))
def t_Walk_otherEnd : List mm_B := [b_Walk_otherEnd_0, b_Walk_otherEnd_1, b_Walk_otherEnd_2, b_Walk_otherEnd_3]
