/-! ===== stretches of instructions ===== -/
def bX11_thrown_0 : List Op3 := [(0, .aload_n 0, 1, (0, 0, 0, 0, 0, 0), 0), (1, .getfield 50, 3, (30, 0, 0, 0, 0, 0), 0), (4, .ireturn, 1, (0, 0, 0, 0, 0, 0), 0)]
theorem obX11_thrown_0 : dcd RX11 cX11_thrown 0 bX11_thrown_0 = true := by decide +kernel
def bX11_fail_0 : List Op3 := [(0, .aload_n 0, 1, (0, 0, 0, 0, 0, 0), 0), (1, .iload_n 1, 1, (1, 0, 0, 0, 0, 0), 0), (2, .putfield 50, 3, (30, 0, 0, 0, 0, 0), 0), (5, .iconst 0, 1, (0, 0, 0, 0, 0, 0), nI 0), (6, .ireturn, 1, (0, 0, 0, 0, 0, 0), 0)]
theorem obX11_fail_0 : dcd RX11 cX11_fail 0 bX11_fail_0 = true := by decide +kernel
def bX11_isIn_0 : List Op3 := [(0, .iload_n 0, 1, (0, 0, 0, 0, 0, 0), 0), (1, .iload_n 1, 1, (1, 0, 0, 0, 0, 0), 0), (2, .if_icmp .lt 12, 3, (14, 0, 0, 0, 0, 0), 0), (5, .iload_n 0, 1, (0, 0, 0, 0, 0, 0), 0), (6, .iload_n 2, 1, (2, 0, 0, 0, 0, 0), 0), (7, .if_icmp .gt 7, 3, (14, 0, 0, 0, 0, 0), 0), (10, .iconst 1, 1, (0, 0, 0, 0, 0, 0), nI 1), (11, .goto 4, 3, (15, 0, 0, 0, 0, 0), 0)]
theorem obX11_isIn_0 : dcd RX11 cX11_isIn 0 bX11_isIn_0 = true := by decide +kernel
def bX11_isIn_14 : List Op3 := [(14, .iconst 0, 1, (0, 0, 0, 0, 0, 0), nI 0), (15, .ireturn, 1, (0, 0, 0, 0, 0, 0), 0)]
theorem obX11_isIn_14 : dcd RX11 cX11_isIn 14 bX11_isIn_14 = true := by decide +kernel
def bX11_isIn_15 : List Op3 := [(15, .ireturn, 1, (0, 0, 0, 0, 0, 0), 0)]
theorem obX11_isIn_15 : dcd RX11 cX11_isIn 15 bX11_isIn_15 = true := by decide +kernel
def bX11_lays_0 : List Op3 := [(0, .iconst 0, 1, (0, 0, 0, 0, 0, 0), nI 0), (1, .istore_n 2, 1, (2, 0, 0, 0, 0, 0), 0)]
theorem obX11_lays_0 : dcd RX11 cX11_lays 0 bX11_lays_0 = true := by decide +kernel
def bX11_lays_2 : List Op3 := [(2, .iload_n 2, 1, (2, 0, 0, 0, 0, 0), 0), (3, .sipush 136, 3, (0, 0, 0, 0, 0, 0), nI 136), (6, .if_icmp .ge 15, 3, (21, 0, 0, 0, 0, 0), 0), (9, .aload_n 0, 1, (0, 0, 0, 0, 0, 0), 0), (10, .iload_n 2, 1, (2, 0, 0, 0, 0, 0), 0), (11, .aload_n 1, 1, (1, 0, 0, 0, 0, 0), 0), (12, .iload_n 2, 1, (2, 0, 0, 0, 0, 0), 0), (13, .iaload, 1, (0, 0, 0, 0, 0, 0), 0), (14, .iastore, 1, (0, 0, 0, 0, 0, 0), 0), (15, .iinc 2 1, 3, (2, 0, 0, 0, 0, 0), nI 1), (18, .goto (-16), 3, (2, 0, 0, 0, 0, 0), 0)]
theorem obX11_lays_2 : dcd RX11 cX11_lays 2 bX11_lays_2 = true := by decide +kernel
def bX11_lays_21 : List Op3 := [(21, .return_, 1, (0, 0, 0, 0, 0, 0), 0)]
theorem obX11_lays_21 : dcd RX11 cX11_lays 21 bX11_lays_21 = true := by decide +kernel
def bX11_begins_0 : List Op3 := [(0, .aload_n 0, 1, (0, 0, 0, 0, 0, 0), 0), (1, .iconst 0, 1, (0, 0, 0, 0, 0, 0), nI 0), (2, .putfield 50, 3, (30, 0, 0, 0, 0, 0), 0), (5, .aload_n 0, 1, (0, 0, 0, 0, 0, 0), 0), (6, .getfield 20, 3, (30, 6, 2, 32, 0, 0), 0), (9, .aload_n 0, 1, (0, 0, 0, 0, 0, 0), 0), (10, .getfield 16, 3, (30, 5, 2, 31, 0, 0), 0)]
theorem obX11_begins_0 : dcd RX11 cX11_begins 0 bX11_begins_0 = true := by decide +kernel
def bX11_begins_16 : List Op3 := [(16, .return_, 1, (0, 0, 0, 0, 0, 0), 0)]
theorem obX11_begins_16 : dcd RX11 cX11_begins 16 bX11_begins_16 = true := by decide +kernel
def bX11_ends_0 : List Op3 := [(0, .aload_n 0, 1, (0, 0, 0, 0, 0, 0), 0), (1, .getfield 50, 3, (30, 0, 0, 0, 0, 0), 0), (4, .ifCond .eq 16, 3, (20, 0, 0, 0, 0, 0), 0), (7, .aload_n 0, 1, (0, 0, 0, 0, 0, 0), 0), (8, .getfield 16, 3, (30, 5, 2, 31, 0, 0), 0), (11, .aload_n 0, 1, (0, 0, 0, 0, 0, 0), 0), (12, .getfield 20, 3, (30, 6, 2, 32, 0, 0), 0)]
theorem obX11_ends_0 : dcd RX11 cX11_ends 0 bX11_ends_0 = true := by decide +kernel
def bX11_ends_18 : List Op3 := [(18, .iconst 0, 1, (0, 0, 0, 0, 0, 0), nI 0), (19, .ireturn, 1, (0, 0, 0, 0, 0, 0), 0)]
theorem obX11_ends_18 : dcd RX11 cX11_ends 18 bX11_ends_18 = true := by decide +kernel
def bX11_ends_20 : List Op3 := [(20, .aload_n 0, 1, (0, 0, 0, 0, 0, 0), 0), (21, .getfield 57, 3, (30, 1, 0, 0, 0, 0), 0), (24, .bipush 8, 2, (0, 0, 0, 0, 0, 0), nI 8), (26, .if_icmp .ne 44, 3, (70, 0, 0, 0, 0, 0), 0), (29, .iconst 0, 1, (0, 0, 0, 0, 0, 0), nI 0), (30, .istore_n 2, 1, (2, 0, 0, 0, 0, 0), 0)]
theorem obX11_ends_20 : dcd RX11 cX11_ends 20 bX11_ends_20 = true := by decide +kernel
def bX11_ends_31 : List Op3 := [(31, .iload_n 2, 1, (2, 0, 0, 0, 0, 0), 0), (32, .sipush 952, 3, (0, 0, 0, 0, 0, 0), nI 952), (35, .if_icmp .ge 25, 3, (60, 0, 0, 0, 0, 0), 0), (38, .aload_n 0, 1, (0, 0, 0, 0, 0, 0), 0), (39, .getfield 26, 3, (30, 8, 2, 34, 0, 0), 0), (42, .iload_n 2, 1, (2, 0, 0, 0, 0, 0), 0), (43, .aload_n 0, 1, (0, 0, 0, 0, 0, 0), 0), (44, .getfield 26, 3, (30, 8, 2, 34, 0, 0), 0), (47, .iload_n 2, 1, (2, 0, 0, 0, 0, 0), 0), (48, .sipush 136, 3, (0, 0, 0, 0, 0, 0), nI 136), (51, .iadd, 1, (0, 0, 0, 0, 0, 0), 0), (52, .iaload, 1, (0, 0, 0, 0, 0, 0), 0), (53, .iastore, 1, (0, 0, 0, 0, 0, 0), 0), (54, .iinc 2 1, 3, (2, 0, 0, 0, 0, 0), nI 1), (57, .goto (-26), 3, (31, 0, 0, 0, 0, 0), 0)]
theorem obX11_ends_31 : dcd RX11 cX11_ends 31 bX11_ends_31 = true := by decide +kernel
def bX11_ends_60 : List Op3 := [(60, .aload_n 0, 1, (0, 0, 0, 0, 0, 0), 0), (61, .dup, 1, (0, 0, 0, 0, 0, 0), 0), (62, .getfield 57, 3, (30, 1, 0, 0, 0, 0), 0), (65, .iconst 1, 1, (0, 0, 0, 0, 0, 0), nI 1), (66, .isub, 1, (0, 0, 0, 0, 0, 0), 0), (67, .putfield 57, 3, (30, 1, 0, 0, 0, 0), 0), (70, .iconst 0, 1, (0, 0, 0, 0, 0, 0), nI 0), (71, .istore_n 2, 1, (2, 0, 0, 0, 0, 0), 0)]
theorem obX11_ends_60 : dcd RX11 cX11_ends 60 bX11_ends_60 = true := by decide +kernel
def bX11_ends_70 : List Op3 := [(70, .iconst 0, 1, (0, 0, 0, 0, 0, 0), nI 0), (71, .istore_n 2, 1, (2, 0, 0, 0, 0, 0), 0)]
theorem obX11_ends_70 : dcd RX11 cX11_ends 70 bX11_ends_70 = true := by decide +kernel
def bX11_ends_72 : List Op3 := [(72, .iload_n 2, 1, (2, 0, 0, 0, 0, 0), 0), (73, .sipush 136, 3, (0, 0, 0, 0, 0, 0), nI 136), (76, .if_icmp .ge 30, 3, (106, 0, 0, 0, 0, 0), 0), (79, .aload_n 0, 1, (0, 0, 0, 0, 0, 0), 0), (80, .getfield 26, 3, (30, 8, 2, 34, 0, 0), 0), (83, .aload_n 0, 1, (0, 0, 0, 0, 0, 0), 0), (84, .getfield 57, 3, (30, 1, 0, 0, 0, 0), 0), (87, .sipush 136, 3, (0, 0, 0, 0, 0, 0), nI 136), (90, .imul, 1, (0, 0, 0, 0, 0, 0), 0), (91, .iload_n 2, 1, (2, 0, 0, 0, 0, 0), 0), (92, .iadd, 1, (0, 0, 0, 0, 0, 0), 0), (93, .aload_n 0, 1, (0, 0, 0, 0, 0, 0), 0), (94, .getfield 20, 3, (30, 6, 2, 32, 0, 0), 0), (97, .iload_n 2, 1, (2, 0, 0, 0, 0, 0), 0), (98, .iaload, 1, (0, 0, 0, 0, 0, 0), 0), (99, .iastore, 1, (0, 0, 0, 0, 0, 0), 0), (100, .iinc 2 1, 3, (2, 0, 0, 0, 0, 0), nI 1), (103, .goto (-31), 3, (72, 0, 0, 0, 0, 0), 0)]
theorem obX11_ends_72 : dcd RX11 cX11_ends 72 bX11_ends_72 = true := by decide +kernel
def bX11_ends_106 : List Op3 := [(106, .aload_n 0, 1, (0, 0, 0, 0, 0, 0), 0), (107, .dup, 1, (0, 0, 0, 0, 0, 0), 0), (108, .getfield 57, 3, (30, 1, 0, 0, 0, 0), 0), (111, .iconst 1, 1, (0, 0, 0, 0, 0, 0), nI 1), (112, .iadd, 1, (0, 0, 0, 0, 0, 0), 0), (113, .putfield 57, 3, (30, 1, 0, 0, 0, 0), 0), (116, .iload_n 1, 1, (1, 0, 0, 0, 0, 0), 0), (117, .ireturn, 1, (0, 0, 0, 0, 0, 0), 0)]
theorem obX11_ends_106 : dcd RX11 cX11_ends 106 bX11_ends_106 = true := by decide +kernel
def bX11_of_0 : List Op3 := [(0, .bipush 16, 2, (0, 0, 0, 0, 0, 0), nI 16), (2, .bipush 12, 2, (0, 0, 0, 0, 0, 0), nI 12), (4, .iload_n 0, 1, (0, 0, 0, 0, 0, 0), 0), (5, .imul, 1, (0, 0, 0, 0, 0, 0), 0), (6, .iadd, 1, (0, 0, 0, 0, 0, 0), 0), (7, .iload_n 1, 1, (1, 0, 0, 0, 0, 0), 0), (8, .iadd, 1, (0, 0, 0, 0, 0, 0), 0), (9, .ireturn, 1, (0, 0, 0, 0, 0, 0), 0)]
theorem obX11_of_0 : dcd RX11 cX11_of 0 bX11_of_0 = true := by decide +kernel
def bX11_isLot_0 : List Op3 := [(0, .aload_n 0, 1, (0, 0, 0, 0, 0, 0), 0), (1, .getfield 16, 3, (30, 5, 2, 31, 0, 0), 0), (4, .iload_n 1, 1, (1, 0, 0, 0, 0, 0), 0), (5, .iconst 1, 1, (0, 0, 0, 0, 0, 0), nI 1)]
theorem obX11_isLot_0 : dcd RX11 cX11_isLot 0 bX11_isLot_0 = true := by decide +kernel
def bX11_isLot_9 : List Op3 := [(9, .iaload, 1, (0, 0, 0, 0, 0, 0), 0), (10, .iconst 1, 1, (0, 0, 0, 0, 0, 0), nI 1), (11, .if_icmp .ne 7, 3, (18, 0, 0, 0, 0, 0), 0), (14, .iconst 1, 1, (0, 0, 0, 0, 0, 0), nI 1), (15, .goto 4, 3, (19, 0, 0, 0, 0, 0), 0)]
theorem obX11_isLot_9 : dcd RX11 cX11_isLot 9 bX11_isLot_9 = true := by decide +kernel
def bX11_isLot_18 : List Op3 := [(18, .iconst 0, 1, (0, 0, 0, 0, 0, 0), nI 0), (19, .ireturn, 1, (0, 0, 0, 0, 0, 0), 0)]
theorem obX11_isLot_18 : dcd RX11 cX11_isLot 18 bX11_isLot_18 = true := by decide +kernel
def bX11_isLot_19 : List Op3 := [(19, .ireturn, 1, (0, 0, 0, 0, 0, 0), 0)]
theorem obX11_isLot_19 : dcd RX11 cX11_isLot 19 bX11_isLot_19 = true := by decide +kernel
def bX11_find_0 : List Op3 := [(0, .iconst 0, 1, (0, 0, 0, 0, 0, 0), nI 0), (1, .istore_n 2, 1, (2, 0, 0, 0, 0, 0), 0)]
theorem obX11_find_0 : dcd RX11 cX11_find 0 bX11_find_0 = true := by decide +kernel
def bX11_find_2 : List Op3 := [(2, .iload_n 2, 1, (2, 0, 0, 0, 0, 0), 0), (3, .aload_n 0, 1, (0, 0, 0, 0, 0, 0), 0), (4, .getfield 16, 3, (30, 5, 2, 31, 0, 0), 0), (7, .iconst 4, 1, (0, 0, 0, 0, 0, 0), nI 4), (8, .iaload, 1, (0, 0, 0, 0, 0, 0), 0), (9, .if_icmp .ge 25, 3, (34, 0, 0, 0, 0, 0), 0), (12, .aload_n 0, 1, (0, 0, 0, 0, 0, 0), 0), (13, .getfield 16, 3, (30, 5, 2, 31, 0, 0), 0), (16, .iload_n 2, 1, (2, 0, 0, 0, 0, 0), 0), (17, .iconst 0, 1, (0, 0, 0, 0, 0, 0), nI 0)]
theorem obX11_find_2 : dcd RX11 cX11_find 2 bX11_find_2 = true := by decide +kernel
def bX11_find_21 : List Op3 := [(21, .iaload, 1, (0, 0, 0, 0, 0, 0), 0), (22, .iload_n 1, 1, (1, 0, 0, 0, 0, 0), 0), (23, .if_icmp .ne 5, 3, (28, 0, 0, 0, 0, 0), 0), (26, .iload_n 2, 1, (2, 0, 0, 0, 0, 0), 0), (27, .ireturn, 1, (0, 0, 0, 0, 0, 0), 0)]
theorem obX11_find_21 : dcd RX11 cX11_find 21 bX11_find_21 = true := by decide +kernel
def bX11_find_28 : List Op3 := [(28, .iinc 2 1, 3, (2, 0, 0, 0, 0, 0), nI 1), (31, .goto (-29), 3, (2, 0, 0, 0, 0, 0), 0)]
theorem obX11_find_28 : dcd RX11 cX11_find 28 bX11_find_28 = true := by decide +kernel
def bX11_find_34 : List Op3 := [(34, .iconst (-1), 1, (0, 0, 0, 0, 0, 0), -1), (35, .ireturn, 1, (0, 0, 0, 0, 0, 0), 0)]
theorem obX11_find_34 : dcd RX11 cX11_find 34 bX11_find_34 = true := by decide +kernel
def bX11_findOf_0 : List Op3 := [(0, .aload_n 0, 1, (0, 0, 0, 0, 0, 0), 0), (1, .iload_n 1, 1, (1, 0, 0, 0, 0, 0), 0)]
theorem obX11_findOf_0 : dcd RX11 cX11_findOf 0 bX11_findOf_0 = true := by decide +kernel
def bX11_findOf_5 : List Op3 := [(5, .istore_n 3, 1, (3, 0, 0, 0, 0, 0), 0), (6, .iload_n 3, 1, (3, 0, 0, 0, 0, 0), 0), (7, .ifCond .lt 16, 3, (23, 0, 0, 0, 0, 0), 0), (10, .aload_n 0, 1, (0, 0, 0, 0, 0, 0), 0), (11, .iload_n 3, 1, (3, 0, 0, 0, 0, 0), 0)]
theorem obX11_findOf_5 : dcd RX11 cX11_findOf 5 bX11_findOf_5 = true := by decide +kernel
def bX11_findOf_15 : List Op3 := [(15, .iload_n 2, 1, (2, 0, 0, 0, 0, 0), 0), (16, .if_icmp .ne 7, 3, (23, 0, 0, 0, 0, 0), 0), (19, .iload_n 3, 1, (3, 0, 0, 0, 0, 0), 0), (20, .goto 4, 3, (24, 0, 0, 0, 0, 0), 0)]
theorem obX11_findOf_15 : dcd RX11 cX11_findOf 15 bX11_findOf_15 = true := by decide +kernel
def bX11_findOf_23 : List Op3 := [(23, .iconst (-1), 1, (0, 0, 0, 0, 0, 0), -1), (24, .ireturn, 1, (0, 0, 0, 0, 0, 0), 0)]
theorem obX11_findOf_23 : dcd RX11 cX11_findOf 23 bX11_findOf_23 = true := by decide +kernel
def bX11_findOf_24 : List Op3 := [(24, .ireturn, 1, (0, 0, 0, 0, 0, 0), 0)]
theorem obX11_findOf_24 : dcd RX11 cX11_findOf 24 bX11_findOf_24 = true := by decide +kernel
def bX11_count_0 : List Op3 := [(0, .iconst 0, 1, (0, 0, 0, 0, 0, 0), nI 0), (1, .istore_n 2, 1, (2, 0, 0, 0, 0, 0), 0), (2, .iconst 0, 1, (0, 0, 0, 0, 0, 0), nI 0), (3, .istore_n 3, 1, (3, 0, 0, 0, 0, 0), 0)]
theorem obX11_count_0 : dcd RX11 cX11_count 0 bX11_count_0 = true := by decide +kernel
def bX11_count_4 : List Op3 := [(4, .iload_n 3, 1, (3, 0, 0, 0, 0, 0), 0), (5, .aload_n 0, 1, (0, 0, 0, 0, 0, 0), 0), (6, .getfield 16, 3, (30, 5, 2, 31, 0, 0), 0), (9, .iconst 4, 1, (0, 0, 0, 0, 0, 0), nI 4), (10, .iaload, 1, (0, 0, 0, 0, 0, 0), 0), (11, .if_icmp .ge 26, 3, (37, 0, 0, 0, 0, 0), 0), (14, .iload_n 2, 1, (2, 0, 0, 0, 0, 0), 0), (15, .aload_n 0, 1, (0, 0, 0, 0, 0, 0), 0), (16, .iload_n 3, 1, (3, 0, 0, 0, 0, 0), 0)]
theorem obX11_count_4 : dcd RX11 cX11_count 4 bX11_count_4 = true := by decide +kernel
def bX11_count_20 : List Op3 := [(20, .iload_n 1, 1, (1, 0, 0, 0, 0, 0), 0), (21, .if_icmp .ne 7, 3, (28, 0, 0, 0, 0, 0), 0), (24, .iconst 1, 1, (0, 0, 0, 0, 0, 0), nI 1), (25, .goto 4, 3, (29, 0, 0, 0, 0, 0), 0)]
theorem obX11_count_20 : dcd RX11 cX11_count 20 bX11_count_20 = true := by decide +kernel
def bX11_count_28 : List Op3 := [(28, .iconst 0, 1, (0, 0, 0, 0, 0, 0), nI 0), (29, .iadd, 1, (0, 0, 0, 0, 0, 0), 0), (30, .istore_n 2, 1, (2, 0, 0, 0, 0, 0), 0), (31, .iinc 3 1, 3, (3, 0, 0, 0, 0, 0), nI 1), (34, .goto (-30), 3, (4, 0, 0, 0, 0, 0), 0)]
theorem obX11_count_28 : dcd RX11 cX11_count 28 bX11_count_28 = true := by decide +kernel
def bX11_count_29 : List Op3 := [(29, .iadd, 1, (0, 0, 0, 0, 0, 0), 0), (30, .istore_n 2, 1, (2, 0, 0, 0, 0, 0), 0), (31, .iinc 3 1, 3, (3, 0, 0, 0, 0, 0), nI 1), (34, .goto (-30), 3, (4, 0, 0, 0, 0, 0), 0)]
theorem obX11_count_29 : dcd RX11 cX11_count 29 bX11_count_29 = true := by decide +kernel
def bX11_count_37 : List Op3 := [(37, .iload_n 2, 1, (2, 0, 0, 0, 0, 0), 0), (38, .ireturn, 1, (0, 0, 0, 0, 0, 0), 0)]
theorem obX11_count_37 : dcd RX11 cX11_count 37 bX11_count_37 = true := by decide +kernel
def bX11_placed_0 : List Op3 := [(0, .iload_n 1, 1, (1, 0, 0, 0, 0, 0), 0), (1, .istore_n 3, 1, (3, 0, 0, 0, 0, 0), 0), (2, .iconst 0, 1, (0, 0, 0, 0, 0, 0), nI 0), (3, .istore 4, 2, (4, 0, 0, 0, 0, 0), 0)]
theorem obX11_placed_0 : dcd RX11 cX11_placed 0 bX11_placed_0 = true := by decide +kernel
def bX11_placed_5 : List Op3 := [(5, .iload 4, 2, (4, 0, 0, 0, 0, 0), 0), (7, .aload_n 0, 1, (0, 0, 0, 0, 0, 0), 0), (8, .getfield 16, 3, (30, 5, 2, 31, 0, 0), 0), (11, .iconst 4, 1, (0, 0, 0, 0, 0, 0), nI 4), (12, .iaload, 1, (0, 0, 0, 0, 0, 0), 0), (13, .if_icmp .ge 45, 3, (58, 0, 0, 0, 0, 0), 0), (16, .iload_n 3, 1, (3, 0, 0, 0, 0, 0), 0), (17, .ifCond .lt 41, 3, (58, 0, 0, 0, 0, 0), 0), (20, .aload_n 0, 1, (0, 0, 0, 0, 0, 0), 0), (21, .iload 4, 2, (4, 0, 0, 0, 0, 0), 0)]
theorem obX11_placed_5 : dcd RX11 cX11_placed 5 bX11_placed_5 = true := by decide +kernel
def bX11_placed_26 : List Op3 := [(26, .iload_n 2, 1, (2, 0, 0, 0, 0, 0), 0), (27, .if_icmp .eq 6, 3, (33, 0, 0, 0, 0, 0), 0), (30, .goto 22, 3, (52, 0, 0, 0, 0, 0), 0)]
theorem obX11_placed_26 : dcd RX11 cX11_placed 26 bX11_placed_26 = true := by decide +kernel
def bX11_placed_33 : List Op3 := [(33, .iload_n 3, 1, (3, 0, 0, 0, 0, 0), 0), (34, .ifCond .ne 15, 3, (49, 0, 0, 0, 0, 0), 0), (37, .aload_n 0, 1, (0, 0, 0, 0, 0, 0), 0), (38, .getfield 16, 3, (30, 5, 2, 31, 0, 0), 0), (41, .iload 4, 2, (4, 0, 0, 0, 0, 0), 0), (43, .iconst 0, 1, (0, 0, 0, 0, 0, 0), nI 0)]
theorem obX11_placed_33 : dcd RX11 cX11_placed 33 bX11_placed_33 = true := by decide +kernel
def bX11_placed_47 : List Op3 := [(47, .iaload, 1, (0, 0, 0, 0, 0, 0), 0), (48, .ireturn, 1, (0, 0, 0, 0, 0, 0), 0)]
theorem obX11_placed_47 : dcd RX11 cX11_placed 47 bX11_placed_47 = true := by decide +kernel
def bX11_placed_49 : List Op3 := [(49, .iinc 3 (-1), 3, (3, 0, 0, 0, 0, 0), -1), (52, .iinc 4 1, 3, (4, 0, 0, 0, 0, 0), nI 1), (55, .goto (-50), 3, (5, 0, 0, 0, 0, 0), 0)]
theorem obX11_placed_49 : dcd RX11 cX11_placed 49 bX11_placed_49 = true := by decide +kernel
def bX11_placed_52 : List Op3 := [(52, .iinc 4 1, 3, (4, 0, 0, 0, 0, 0), nI 1), (55, .goto (-50), 3, (5, 0, 0, 0, 0, 0), 0)]
theorem obX11_placed_52 : dcd RX11 cX11_placed 52 bX11_placed_52 = true := by decide +kernel
def bX11_placed_58 : List Op3 := [(58, .iconst (-1), 1, (0, 0, 0, 0, 0, 0), -1), (59, .ireturn, 1, (0, 0, 0, 0, 0, 0), 0)]
theorem obX11_placed_58 : dcd RX11 cX11_placed 58 bX11_placed_58 = true := by decide +kernel
def bX11_goes_0 : List Op3 := [(0, .iload_n 1, 1, (1, 0, 0, 0, 0, 0), 0), (1, .iconst 0, 1, (0, 0, 0, 0, 0, 0), nI 0)]
theorem obX11_goes_0 : dcd RX11 cX11_goes 0 bX11_goes_0 = true := by decide +kernel
def bX11_goes_5 : List Op3 := [(5, .istore_n 2, 1, (2, 0, 0, 0, 0, 0), 0)]
theorem obX11_goes_5 : dcd RX11 cX11_goes 5 bX11_goes_5 = true := by decide +kernel
def bX11_goes_6 : List Op3 := [(6, .iload_n 2, 1, (2, 0, 0, 0, 0, 0), 0), (7, .sipush 136, 3, (0, 0, 0, 0, 0, 0), nI 136), (10, .if_icmp .ge 38, 3, (48, 0, 0, 0, 0, 0), 0), (13, .aload_n 0, 1, (0, 0, 0, 0, 0, 0), 0), (14, .getfield 16, 3, (30, 5, 2, 31, 0, 0), 0), (17, .iload_n 2, 1, (2, 0, 0, 0, 0, 0), 0), (18, .iload_n 2, 1, (2, 0, 0, 0, 0, 0), 0), (19, .bipush 12, 2, (0, 0, 0, 0, 0, 0), nI 12), (21, .iadd, 1, (0, 0, 0, 0, 0, 0), 0), (22, .sipush 136, 3, (0, 0, 0, 0, 0, 0), nI 136), (25, .if_icmp .ge 15, 3, (40, 0, 0, 0, 0, 0), 0), (28, .aload_n 0, 1, (0, 0, 0, 0, 0, 0), 0), (29, .getfield 16, 3, (30, 5, 2, 31, 0, 0), 0), (32, .iload_n 2, 1, (2, 0, 0, 0, 0, 0), 0), (33, .bipush 12, 2, (0, 0, 0, 0, 0, 0), nI 12), (35, .iadd, 1, (0, 0, 0, 0, 0, 0), 0), (36, .iaload, 1, (0, 0, 0, 0, 0, 0), 0), (37, .goto 4, 3, (41, 0, 0, 0, 0, 0), 0)]
theorem obX11_goes_6 : dcd RX11 cX11_goes 6 bX11_goes_6 = true := by decide +kernel
def bX11_goes_40 : List Op3 := [(40, .iconst 0, 1, (0, 0, 0, 0, 0, 0), nI 0), (41, .iastore, 1, (0, 0, 0, 0, 0, 0), 0), (42, .iinc 2 1, 3, (2, 0, 0, 0, 0, 0), nI 1), (45, .goto (-39), 3, (6, 0, 0, 0, 0, 0), 0)]
theorem obX11_goes_40 : dcd RX11 cX11_goes 40 bX11_goes_40 = true := by decide +kernel
def bX11_goes_41 : List Op3 := [(41, .iastore, 1, (0, 0, 0, 0, 0, 0), 0), (42, .iinc 2 1, 3, (2, 0, 0, 0, 0, 0), nI 1), (45, .goto (-39), 3, (6, 0, 0, 0, 0, 0), 0)]
theorem obX11_goes_41 : dcd RX11 cX11_goes 41 bX11_goes_41 = true := by decide +kernel
def bX11_goes_48 : List Op3 := [(48, .aload_n 0, 1, (0, 0, 0, 0, 0, 0), 0), (49, .getfield 16, 3, (30, 5, 2, 31, 0, 0), 0), (52, .iconst 4, 1, (0, 0, 0, 0, 0, 0), nI 4), (53, .dup2, 1, (0, 0, 0, 0, 0, 0), 0), (54, .iaload, 1, (0, 0, 0, 0, 0, 0), 0), (55, .iconst 1, 1, (0, 0, 0, 0, 0, 0), nI 1), (56, .isub, 1, (0, 0, 0, 0, 0, 0), 0), (57, .iastore, 1, (0, 0, 0, 0, 0, 0), 0), (58, .return_, 1, (0, 0, 0, 0, 0, 0), 0)]
theorem obX11_goes_48 : dcd RX11 cX11_goes 48 bX11_goes_48 = true := by decide +kernel
def bX11_pledges_0 : List Op3 := [(0, .iload_n 1, 1, (1, 0, 0, 0, 0, 0), 0), (1, .iconst 0, 1, (0, 0, 0, 0, 0, 0), nI 0), (2, .iconst 5, 1, (0, 0, 0, 0, 0, 0), nI 5)]
theorem obX11_pledges_0 : dcd RX11 cX11_pledges 0 bX11_pledges_0 = true := by decide +kernel
def bX11_pledges_6 : List Op3 := [(6, .ifCond .eq 24, 3, (30, 0, 0, 0, 0, 0), 0), (9, .iload_n 2, 1, (2, 0, 0, 0, 0, 0), 0), (10, .iconst 1, 1, (0, 0, 0, 0, 0, 0), nI 1), (11, .sipush 240, 3, (0, 0, 0, 0, 0, 0), nI 240)]
theorem obX11_pledges_6 : dcd RX11 cX11_pledges 6 bX11_pledges_6 = true := by decide +kernel
def bX11_pledges_17 : List Op3 := [(17, .ifCond .eq 13, 3, (30, 0, 0, 0, 0, 0), 0), (20, .iload_n 3, 1, (3, 0, 0, 0, 0, 0), 0), (21, .iconst 1, 1, (0, 0, 0, 0, 0, 0), nI 1), (22, .bipush 60, 2, (0, 0, 0, 0, 0, 0), nI 60)]
theorem obX11_pledges_17 : dcd RX11 cX11_pledges 17 bX11_pledges_17 = true := by decide +kernel
def bX11_pledges_27 : List Op3 := [(27, .ifCond .ne 9, 3, (36, 0, 0, 0, 0, 0), 0), (30, .aload_n 0, 1, (0, 0, 0, 0, 0, 0), 0), (31, .iconst 1, 1, (0, 0, 0, 0, 0, 0), nI 1)]
theorem obX11_pledges_27 : dcd RX11 cX11_pledges 27 bX11_pledges_27 = true := by decide +kernel
def bX11_pledges_30 : List Op3 := [(30, .aload_n 0, 1, (0, 0, 0, 0, 0, 0), 0), (31, .iconst 1, 1, (0, 0, 0, 0, 0, 0), nI 1)]
theorem obX11_pledges_30 : dcd RX11 cX11_pledges 30 bX11_pledges_30 = true := by decide +kernel
def bX11_pledges_35 : List Op3 := [(35, .ireturn, 1, (0, 0, 0, 0, 0, 0), 0)]
theorem obX11_pledges_35 : dcd RX11 cX11_pledges 35 bX11_pledges_35 = true := by decide +kernel
def bX11_pledges_36 : List Op3 := [(36, .aload_n 0, 1, (0, 0, 0, 0, 0, 0), 0), (37, .getfield 16, 3, (30, 5, 2, 31, 0, 0), 0), (40, .iconst 4, 1, (0, 0, 0, 0, 0, 0), nI 4), (41, .iaload, 1, (0, 0, 0, 0, 0, 0), 0), (42, .istore 4, 2, (4, 0, 0, 0, 0, 0), 0), (44, .iload_n 2, 1, (2, 0, 0, 0, 0, 0), 0), (45, .aload_n 0, 1, (0, 0, 0, 0, 0, 0), 0), (46, .getfield 16, 3, (30, 5, 2, 31, 0, 0), 0), (49, .iconst 1, 1, (0, 0, 0, 0, 0, 0), nI 1), (50, .iaload, 1, (0, 0, 0, 0, 0, 0), 0), (51, .imul, 1, (0, 0, 0, 0, 0, 0), 0), (52, .istore 5, 2, (5, 0, 0, 0, 0, 0), 0), (54, .iload 4, 2, (4, 0, 0, 0, 0, 0), 0), (56, .bipush 10, 2, (0, 0, 0, 0, 0, 0), nI 10), (58, .if_icmp .ne 9, 3, (67, 0, 0, 0, 0, 0), 0), (61, .aload_n 0, 1, (0, 0, 0, 0, 0, 0), 0), (62, .iconst 2, 1, (0, 0, 0, 0, 0, 0), nI 2)]
theorem obX11_pledges_36 : dcd RX11 cX11_pledges 36 bX11_pledges_36 = true := by decide +kernel
def bX11_pledges_66 : List Op3 := [(66, .ireturn, 1, (0, 0, 0, 0, 0, 0), 0)]
theorem obX11_pledges_66 : dcd RX11 cX11_pledges 66 bX11_pledges_66 = true := by decide +kernel
def bX11_pledges_67 : List Op3 := [(67, .aload_n 0, 1, (0, 0, 0, 0, 0, 0), 0), (68, .getfield 16, 3, (30, 5, 2, 31, 0, 0), 0), (71, .iconst 2, 1, (0, 0, 0, 0, 0, 0), nI 2), (72, .iaload, 1, (0, 0, 0, 0, 0, 0), 0), (73, .iload 5, 2, (5, 0, 0, 0, 0, 0), 0), (75, .if_icmp .ge 9, 3, (84, 0, 0, 0, 0, 0), 0), (78, .aload_n 0, 1, (0, 0, 0, 0, 0, 0), 0), (79, .iconst 3, 1, (0, 0, 0, 0, 0, 0), nI 3)]
theorem obX11_pledges_67 : dcd RX11 cX11_pledges 67 bX11_pledges_67 = true := by decide +kernel
def bX11_pledges_83 : List Op3 := [(83, .ireturn, 1, (0, 0, 0, 0, 0, 0), 0)]
theorem obX11_pledges_83 : dcd RX11 cX11_pledges 83 bX11_pledges_83 = true := by decide +kernel
def bX11_pledges_84 : List Op3 := [(84, .iconst 0, 1, (0, 0, 0, 0, 0, 0), nI 0), (85, .istore 6, 2, (6, 0, 0, 0, 0, 0), 0)]
theorem obX11_pledges_84 : dcd RX11 cX11_pledges 84 bX11_pledges_84 = true := by decide +kernel
def bX11_pledges_87 : List Op3 := [(87, .iload 6, 2, (6, 0, 0, 0, 0, 0), 0), (89, .bipush 12, 2, (0, 0, 0, 0, 0, 0), nI 12), (91, .if_icmp .ge 22, 3, (113, 0, 0, 0, 0, 0), 0), (94, .aload_n 0, 1, (0, 0, 0, 0, 0, 0), 0), (95, .getfield 16, 3, (30, 5, 2, 31, 0, 0), 0), (98, .iload 4, 2, (4, 0, 0, 0, 0, 0), 0), (100, .iload 6, 2, (6, 0, 0, 0, 0, 0), 0)]
theorem obX11_pledges_87 : dcd RX11 cX11_pledges 87 bX11_pledges_87 = true := by decide +kernel
def bX11_pledges_105 : List Op3 := [(105, .iconst 0, 1, (0, 0, 0, 0, 0, 0), nI 0), (106, .iastore, 1, (0, 0, 0, 0, 0, 0), 0), (107, .iinc 6 1, 3, (6, 0, 0, 0, 0, 0), nI 1), (110, .goto (-23), 3, (87, 0, 0, 0, 0, 0), 0)]
theorem obX11_pledges_105 : dcd RX11 cX11_pledges 105 bX11_pledges_105 = true := by decide +kernel
def bX11_pledges_113 : List Op3 := [(113, .aload_n 0, 1, (0, 0, 0, 0, 0, 0), 0), (114, .getfield 16, 3, (30, 5, 2, 31, 0, 0), 0), (117, .iload 4, 2, (4, 0, 0, 0, 0, 0), 0), (119, .iconst 0, 1, (0, 0, 0, 0, 0, 0), nI 0)]
theorem obX11_pledges_113 : dcd RX11 cX11_pledges 113 bX11_pledges_113 = true := by decide +kernel
def bX11_pledges_123 : List Op3 := [(123, .aload_n 0, 1, (0, 0, 0, 0, 0, 0), 0), (124, .getfield 16, 3, (30, 5, 2, 31, 0, 0), 0), (127, .iconst 3, 1, (0, 0, 0, 0, 0, 0), nI 3), (128, .iaload, 1, (0, 0, 0, 0, 0, 0), 0), (129, .iastore, 1, (0, 0, 0, 0, 0, 0), 0), (130, .aload_n 0, 1, (0, 0, 0, 0, 0, 0), 0), (131, .getfield 16, 3, (30, 5, 2, 31, 0, 0), 0), (134, .iload 4, 2, (4, 0, 0, 0, 0, 0), 0), (136, .iconst 2, 1, (0, 0, 0, 0, 0, 0), nI 2)]
theorem obX11_pledges_123 : dcd RX11 cX11_pledges 123 bX11_pledges_123 = true := by decide +kernel
def bX11_pledges_140 : List Op3 := [(140, .iload_n 1, 1, (1, 0, 0, 0, 0, 0), 0), (141, .iastore, 1, (0, 0, 0, 0, 0, 0), 0), (142, .aload_n 0, 1, (0, 0, 0, 0, 0, 0), 0), (143, .getfield 16, 3, (30, 5, 2, 31, 0, 0), 0), (146, .iload 4, 2, (4, 0, 0, 0, 0, 0), 0), (148, .iconst 3, 1, (0, 0, 0, 0, 0, 0), nI 3)]
theorem obX11_pledges_140 : dcd RX11 cX11_pledges 140 bX11_pledges_140 = true := by decide +kernel
def bX11_pledges_152 : List Op3 := [(152, .iload_n 2, 1, (2, 0, 0, 0, 0, 0), 0), (153, .iastore, 1, (0, 0, 0, 0, 0, 0), 0), (154, .aload_n 0, 1, (0, 0, 0, 0, 0, 0), 0), (155, .getfield 16, 3, (30, 5, 2, 31, 0, 0), 0), (158, .iload 4, 2, (4, 0, 0, 0, 0, 0), 0), (160, .iconst 4, 1, (0, 0, 0, 0, 0, 0), nI 4)]
theorem obX11_pledges_152 : dcd RX11 cX11_pledges 152 bX11_pledges_152 = true := by decide +kernel
def bX11_pledges_164 : List Op3 := [(164, .iload 5, 2, (5, 0, 0, 0, 0, 0), 0), (166, .iastore, 1, (0, 0, 0, 0, 0, 0), 0), (167, .aload_n 0, 1, (0, 0, 0, 0, 0, 0), 0), (168, .getfield 16, 3, (30, 5, 2, 31, 0, 0), 0), (171, .iload 4, 2, (4, 0, 0, 0, 0, 0), 0), (173, .iconst 5, 1, (0, 0, 0, 0, 0, 0), nI 5)]
theorem obX11_pledges_164 : dcd RX11 cX11_pledges 164 bX11_pledges_164 = true := by decide +kernel
def bX11_pledges_177 : List Op3 := [(177, .aload_n 0, 1, (0, 0, 0, 0, 0, 0), 0), (178, .getfield 16, 3, (30, 5, 2, 31, 0, 0), 0), (181, .iconst 0, 1, (0, 0, 0, 0, 0, 0), nI 0), (182, .iaload, 1, (0, 0, 0, 0, 0, 0), 0), (183, .iastore, 1, (0, 0, 0, 0, 0, 0), 0), (184, .aload_n 0, 1, (0, 0, 0, 0, 0, 0), 0), (185, .getfield 16, 3, (30, 5, 2, 31, 0, 0), 0), (188, .iload 4, 2, (4, 0, 0, 0, 0, 0), 0), (190, .bipush 6, 2, (0, 0, 0, 0, 0, 0), nI 6)]
theorem obX11_pledges_177 : dcd RX11 cX11_pledges 177 bX11_pledges_177 = true := by decide +kernel
def bX11_pledges_195 : List Op3 := [(195, .aload_n 0, 1, (0, 0, 0, 0, 0, 0), 0), (196, .getfield 16, 3, (30, 5, 2, 31, 0, 0), 0), (199, .iconst 0, 1, (0, 0, 0, 0, 0, 0), nI 0), (200, .iaload, 1, (0, 0, 0, 0, 0, 0), 0), (201, .iload_n 3, 1, (3, 0, 0, 0, 0, 0), 0), (202, .iadd, 1, (0, 0, 0, 0, 0, 0), 0), (203, .iastore, 1, (0, 0, 0, 0, 0, 0), 0), (204, .aload_n 0, 1, (0, 0, 0, 0, 0, 0), 0), (205, .getfield 16, 3, (30, 5, 2, 31, 0, 0), 0), (208, .iconst 2, 1, (0, 0, 0, 0, 0, 0), nI 2), (209, .dup2, 1, (0, 0, 0, 0, 0, 0), 0), (210, .iaload, 1, (0, 0, 0, 0, 0, 0), 0), (211, .iload 5, 2, (5, 0, 0, 0, 0, 0), 0), (213, .isub, 1, (0, 0, 0, 0, 0, 0), 0), (214, .iastore, 1, (0, 0, 0, 0, 0, 0), 0), (215, .aload_n 0, 1, (0, 0, 0, 0, 0, 0), 0), (216, .getfield 16, 3, (30, 5, 2, 31, 0, 0), 0), (219, .bipush 8, 2, (0, 0, 0, 0, 0, 0), nI 8), (221, .dup2, 1, (0, 0, 0, 0, 0, 0), 0), (222, .iaload, 1, (0, 0, 0, 0, 0, 0), 0), (223, .iload_n 2, 1, (2, 0, 0, 0, 0, 0), 0), (224, .iadd, 1, (0, 0, 0, 0, 0, 0), 0), (225, .iastore, 1, (0, 0, 0, 0, 0, 0), 0), (226, .aload_n 0, 1, (0, 0, 0, 0, 0, 0), 0), (227, .getfield 16, 3, (30, 5, 2, 31, 0, 0), 0), (230, .iconst 4, 1, (0, 0, 0, 0, 0, 0), nI 4), (231, .dup2, 1, (0, 0, 0, 0, 0, 0), 0), (232, .iaload, 1, (0, 0, 0, 0, 0, 0), 0), (233, .iconst 1, 1, (0, 0, 0, 0, 0, 0), nI 1), (234, .iadd, 1, (0, 0, 0, 0, 0, 0), 0), (235, .iastore, 1, (0, 0, 0, 0, 0, 0), 0), (236, .aload_n 0, 1, (0, 0, 0, 0, 0, 0), 0), (237, .getfield 16, 3, (30, 5, 2, 31, 0, 0), 0), (240, .iconst 3, 1, (0, 0, 0, 0, 0, 0), nI 3), (241, .dup2, 1, (0, 0, 0, 0, 0, 0), 0), (242, .iaload, 1, (0, 0, 0, 0, 0, 0), 0), (243, .iconst 1, 1, (0, 0, 0, 0, 0, 0), nI 1), (244, .iadd, 1, (0, 0, 0, 0, 0, 0), 0), (245, .iastore, 1, (0, 0, 0, 0, 0, 0), 0), (246, .aload_n 0, 1, (0, 0, 0, 0, 0, 0), 0), (247, .getfield 16, 3, (30, 5, 2, 31, 0, 0), 0), (250, .iload 4, 2, (4, 0, 0, 0, 0, 0), 0), (252, .iconst 0, 1, (0, 0, 0, 0, 0, 0), nI 0)]
theorem obX11_pledges_195 : dcd RX11 cX11_pledges 195 bX11_pledges_195 = true := by decide +kernel
def bX11_pledges_256 : List Op3 := [(256, .iaload, 1, (0, 0, 0, 0, 0, 0), 0), (257, .ireturn, 1, (0, 0, 0, 0, 0, 0), 0)]
theorem obX11_pledges_256 : dcd RX11 cX11_pledges 256 bX11_pledges_256 = true := by decide +kernel
def bX11_pledge_0 : List Op3 := [(0, .aload_n 0, 1, (0, 0, 0, 0, 0, 0), 0)]
theorem obX11_pledge_0 : dcd RX11 cX11_pledge 0 bX11_pledge_0 = true := by decide +kernel
def bX11_pledge_4 : List Op3 := [(4, .aload_n 0, 1, (0, 0, 0, 0, 0, 0), 0), (5, .aload_n 0, 1, (0, 0, 0, 0, 0, 0), 0), (6, .iload_n 1, 1, (1, 0, 0, 0, 0, 0), 0), (7, .iload_n 2, 1, (2, 0, 0, 0, 0, 0), 0), (8, .iload_n 3, 1, (3, 0, 0, 0, 0, 0), 0)]
theorem obX11_pledge_4 : dcd RX11 cX11_pledge 4 bX11_pledge_4 = true := by decide +kernel
def bX11_pledge_15 : List Op3 := [(15, .ireturn, 1, (0, 0, 0, 0, 0, 0), 0)]
theorem obX11_pledge_15 : dcd RX11 cX11_pledge 15 bX11_pledge_15 = true := by decide +kernel
def bX11_interest_0 : List Op3 := [(0, .iconst 0, 1, (0, 0, 0, 0, 0, 0), nI 0), (1, .istore_n 3, 1, (3, 0, 0, 0, 0, 0), 0), (2, .aload_n 0, 1, (0, 0, 0, 0, 0, 0), 0), (3, .getfield 16, 3, (30, 5, 2, 31, 0, 0), 0), (6, .iload_n 1, 1, (1, 0, 0, 0, 0, 0), 0), (7, .iconst 5, 1, (0, 0, 0, 0, 0, 0), nI 5)]
theorem obX11_interest_0 : dcd RX11 cX11_interest 0 bX11_interest_0 = true := by decide +kernel
def bX11_interest_11 : List Op3 := [(11, .iaload, 1, (0, 0, 0, 0, 0, 0), 0), (12, .iconst 1, 1, (0, 0, 0, 0, 0, 0), nI 1), (13, .iadd, 1, (0, 0, 0, 0, 0, 0), 0), (14, .istore 4, 2, (4, 0, 0, 0, 0, 0), 0)]
theorem obX11_interest_11 : dcd RX11 cX11_interest 11 bX11_interest_11 = true := by decide +kernel
def bX11_interest_16 : List Op3 := [(16, .iload 4, 2, (4, 0, 0, 0, 0, 0), 0), (18, .iload_n 2, 1, (2, 0, 0, 0, 0, 0), 0), (19, .if_icmp .gt 25, 3, (44, 0, 0, 0, 0, 0), 0), (22, .iload_n 3, 1, (3, 0, 0, 0, 0, 0), 0), (23, .aload_n 0, 1, (0, 0, 0, 0, 0, 0), 0), (24, .getfield 16, 3, (30, 5, 2, 31, 0, 0), 0), (27, .bipush 9, 2, (0, 0, 0, 0, 0, 0), nI 9), (29, .iload 4, 2, (4, 0, 0, 0, 0, 0), 0), (31, .bipush 7, 2, (0, 0, 0, 0, 0, 0), nI 7), (33, .irem, 1, (0, 0, 0, 0, 0, 0), 0), (34, .iadd, 1, (0, 0, 0, 0, 0, 0), 0), (35, .iaload, 1, (0, 0, 0, 0, 0, 0), 0), (36, .iadd, 1, (0, 0, 0, 0, 0, 0), 0), (37, .istore_n 3, 1, (3, 0, 0, 0, 0, 0), 0), (38, .iinc 4 1, 3, (4, 0, 0, 0, 0, 0), nI 1), (41, .goto (-25), 3, (16, 0, 0, 0, 0, 0), 0)]
theorem obX11_interest_16 : dcd RX11 cX11_interest 16 bX11_interest_16 = true := by decide +kernel
def bX11_interest_44 : List Op3 := [(44, .aload_n 0, 1, (0, 0, 0, 0, 0, 0), 0), (45, .getfield 16, 3, (30, 5, 2, 31, 0, 0), 0), (48, .iload_n 1, 1, (1, 0, 0, 0, 0, 0), 0), (49, .iconst 4, 1, (0, 0, 0, 0, 0, 0), nI 4)]
theorem obX11_interest_44 : dcd RX11 cX11_interest 44 bX11_interest_44 = true := by decide +kernel
def bX11_interest_53 : List Op3 := [(53, .iaload, 1, (0, 0, 0, 0, 0, 0), 0), (54, .iload_n 3, 1, (3, 0, 0, 0, 0, 0), 0), (55, .imul, 1, (0, 0, 0, 0, 0, 0), 0), (56, .bipush 100, 2, (0, 0, 0, 0, 0, 0), nI 100), (58, .idiv, 1, (0, 0, 0, 0, 0, 0), 0), (59, .ireturn, 1, (0, 0, 0, 0, 0, 0), 0)]
theorem obX11_interest_53 : dcd RX11 cX11_interest 53 bX11_interest_53 = true := by decide +kernel
def bX11_debt_0 : List Op3 := [(0, .aload_n 0, 1, (0, 0, 0, 0, 0, 0), 0), (1, .getfield 16, 3, (30, 5, 2, 31, 0, 0), 0), (4, .iload_n 1, 1, (1, 0, 0, 0, 0, 0), 0), (5, .iconst 4, 1, (0, 0, 0, 0, 0, 0), nI 4)]
theorem obX11_debt_0 : dcd RX11 cX11_debt 0 bX11_debt_0 = true := by decide +kernel
def bX11_debt_9 : List Op3 := [(9, .iaload, 1, (0, 0, 0, 0, 0, 0), 0), (10, .aload_n 0, 1, (0, 0, 0, 0, 0, 0), 0), (11, .iload_n 1, 1, (1, 0, 0, 0, 0, 0), 0), (12, .aload_n 0, 1, (0, 0, 0, 0, 0, 0), 0), (13, .getfield 16, 3, (30, 5, 2, 31, 0, 0), 0), (16, .iconst 0, 1, (0, 0, 0, 0, 0, 0), nI 0), (17, .iaload, 1, (0, 0, 0, 0, 0, 0), 0)]
theorem obX11_debt_9 : dcd RX11 cX11_debt 9 bX11_debt_9 = true := by decide +kernel
def bX11_debt_21 : List Op3 := [(21, .iadd, 1, (0, 0, 0, 0, 0, 0), 0), (22, .ireturn, 1, (0, 0, 0, 0, 0, 0), 0)]
theorem obX11_debt_21 : dcd RX11 cX11_debt 21 bX11_debt_21 = true := by decide +kernel
def bX11_redeems_0 : List Op3 := [(0, .iload_n 1, 1, (1, 0, 0, 0, 0, 0), 0), (1, .ifCond .ge 9, 3, (10, 0, 0, 0, 0, 0), 0), (4, .aload_n 0, 1, (0, 0, 0, 0, 0, 0), 0), (5, .iconst 1, 1, (0, 0, 0, 0, 0, 0), nI 1)]
theorem obX11_redeems_0 : dcd RX11 cX11_redeems 0 bX11_redeems_0 = true := by decide +kernel
def bX11_redeems_9 : List Op3 := [(9, .ireturn, 1, (0, 0, 0, 0, 0, 0), 0)]
theorem obX11_redeems_9 : dcd RX11 cX11_redeems 9 bX11_redeems_9 = true := by decide +kernel
def bX11_redeems_10 : List Op3 := [(10, .aload_n 0, 1, (0, 0, 0, 0, 0, 0), 0), (11, .iload_n 1, 1, (1, 0, 0, 0, 0, 0), 0)]
theorem obX11_redeems_10 : dcd RX11 cX11_redeems 10 bX11_redeems_10 = true := by decide +kernel
def bX11_redeems_15 : List Op3 := [(15, .istore_n 2, 1, (2, 0, 0, 0, 0, 0), 0), (16, .aload_n 0, 1, (0, 0, 0, 0, 0, 0), 0), (17, .getfield 16, 3, (30, 5, 2, 31, 0, 0), 0), (20, .iconst 2, 1, (0, 0, 0, 0, 0, 0), nI 2), (21, .dup2, 1, (0, 0, 0, 0, 0, 0), 0), (22, .iaload, 1, (0, 0, 0, 0, 0, 0), 0), (23, .iload_n 2, 1, (2, 0, 0, 0, 0, 0), 0), (24, .iadd, 1, (0, 0, 0, 0, 0, 0), 0), (25, .iastore, 1, (0, 0, 0, 0, 0, 0), 0), (26, .aload_n 0, 1, (0, 0, 0, 0, 0, 0), 0), (27, .getfield 16, 3, (30, 5, 2, 31, 0, 0), 0), (30, .iconst 5, 1, (0, 0, 0, 0, 0, 0), nI 5), (31, .dup2, 1, (0, 0, 0, 0, 0, 0), 0), (32, .iaload, 1, (0, 0, 0, 0, 0, 0), 0), (33, .aload_n 0, 1, (0, 0, 0, 0, 0, 0), 0), (34, .getfield 16, 3, (30, 5, 2, 31, 0, 0), 0), (37, .iload_n 1, 1, (1, 0, 0, 0, 0, 0), 0), (38, .iconst 3, 1, (0, 0, 0, 0, 0, 0), nI 3)]
theorem obX11_redeems_15 : dcd RX11 cX11_redeems 15 bX11_redeems_15 = true := by decide +kernel
def bX11_redeems_42 : List Op3 := [(42, .iaload, 1, (0, 0, 0, 0, 0, 0), 0), (43, .iadd, 1, (0, 0, 0, 0, 0, 0), 0), (44, .iastore, 1, (0, 0, 0, 0, 0, 0), 0), (45, .aload_n 0, 1, (0, 0, 0, 0, 0, 0), 0), (46, .iload_n 1, 1, (1, 0, 0, 0, 0, 0), 0)]
theorem obX11_redeems_42 : dcd RX11 cX11_redeems 42 bX11_redeems_42 = true := by decide +kernel
def bX11_redeems_50 : List Op3 := [(50, .iload_n 2, 1, (2, 0, 0, 0, 0, 0), 0), (51, .ireturn, 1, (0, 0, 0, 0, 0, 0), 0)]
theorem obX11_redeems_50 : dcd RX11 cX11_redeems 50 bX11_redeems_50 = true := by decide +kernel
def bX11_redeem_0 : List Op3 := [(0, .aload_n 0, 1, (0, 0, 0, 0, 0, 0), 0)]
theorem obX11_redeem_0 : dcd RX11 cX11_redeem 0 bX11_redeem_0 = true := by decide +kernel
def bX11_redeem_4 : List Op3 := [(4, .aload_n 0, 1, (0, 0, 0, 0, 0, 0), 0), (5, .aload_n 0, 1, (0, 0, 0, 0, 0, 0), 0), (6, .aload_n 0, 1, (0, 0, 0, 0, 0, 0), 0), (7, .iload_n 1, 1, (1, 0, 0, 0, 0, 0), 0), (8, .iconst 0, 1, (0, 0, 0, 0, 0, 0), nI 0)]
theorem obX11_redeem_4 : dcd RX11 cX11_redeem 4 bX11_redeem_4 = true := by decide +kernel
def bX11_redeem_18 : List Op3 := [(18, .ireturn, 1, (0, 0, 0, 0, 0, 0), 0)]
theorem obX11_redeem_18 : dcd RX11 cX11_redeem 18 bX11_redeem_18 = true := by decide +kernel
def bX11_extends1_0 : List Op3 := [(0, .iload_n 1, 1, (1, 0, 0, 0, 0, 0), 0), (1, .ifCond .ge 9, 3, (10, 0, 0, 0, 0, 0), 0), (4, .aload_n 0, 1, (0, 0, 0, 0, 0, 0), 0), (5, .iconst 1, 1, (0, 0, 0, 0, 0, 0), nI 1)]
theorem obX11_extends1_0 : dcd RX11 cX11_extends1 0 bX11_extends1_0 = true := by decide +kernel
def bX11_extends1_9 : List Op3 := [(9, .ireturn, 1, (0, 0, 0, 0, 0, 0), 0)]
theorem obX11_extends1_9 : dcd RX11 cX11_extends1 9 bX11_extends1_9 = true := by decide +kernel
def bX11_extends1_10 : List Op3 := [(10, .iload_n 2, 1, (2, 0, 0, 0, 0, 0), 0), (11, .iconst 1, 1, (0, 0, 0, 0, 0, 0), nI 1), (12, .bipush 60, 2, (0, 0, 0, 0, 0, 0), nI 60)]
theorem obX11_extends1_10 : dcd RX11 cX11_extends1 10 bX11_extends1_10 = true := by decide +kernel
def bX11_extends1_17 : List Op3 := [(17, .ifCond .ne 9, 3, (26, 0, 0, 0, 0, 0), 0), (20, .aload_n 0, 1, (0, 0, 0, 0, 0, 0), 0), (21, .iconst 2, 1, (0, 0, 0, 0, 0, 0), nI 2)]
theorem obX11_extends1_17 : dcd RX11 cX11_extends1 17 bX11_extends1_17 = true := by decide +kernel
def bX11_extends1_25 : List Op3 := [(25, .ireturn, 1, (0, 0, 0, 0, 0, 0), 0)]
theorem obX11_extends1_25 : dcd RX11 cX11_extends1 25 bX11_extends1_25 = true := by decide +kernel
def bX11_extends1_26 : List Op3 := [(26, .aload_n 0, 1, (0, 0, 0, 0, 0, 0), 0), (27, .iload_n 1, 1, (1, 0, 0, 0, 0, 0), 0), (28, .aload_n 0, 1, (0, 0, 0, 0, 0, 0), 0), (29, .getfield 16, 3, (30, 5, 2, 31, 0, 0), 0), (32, .iconst 0, 1, (0, 0, 0, 0, 0, 0), nI 0), (33, .iaload, 1, (0, 0, 0, 0, 0, 0), 0)]
theorem obX11_extends1_26 : dcd RX11 cX11_extends1 26 bX11_extends1_26 = true := by decide +kernel
def bX11_extends1_37 : List Op3 := [(37, .istore_n 3, 1, (3, 0, 0, 0, 0, 0), 0), (38, .aload_n 0, 1, (0, 0, 0, 0, 0, 0), 0), (39, .getfield 16, 3, (30, 5, 2, 31, 0, 0), 0), (42, .iconst 2, 1, (0, 0, 0, 0, 0, 0), nI 2), (43, .dup2, 1, (0, 0, 0, 0, 0, 0), 0), (44, .iaload, 1, (0, 0, 0, 0, 0, 0), 0), (45, .iload_n 3, 1, (3, 0, 0, 0, 0, 0), 0), (46, .iadd, 1, (0, 0, 0, 0, 0, 0), 0), (47, .iastore, 1, (0, 0, 0, 0, 0, 0), 0), (48, .aload_n 0, 1, (0, 0, 0, 0, 0, 0), 0), (49, .getfield 16, 3, (30, 5, 2, 31, 0, 0), 0), (52, .iload_n 1, 1, (1, 0, 0, 0, 0, 0), 0), (53, .iconst 5, 1, (0, 0, 0, 0, 0, 0), nI 5)]
theorem obX11_extends1_37 : dcd RX11 cX11_extends1 37 bX11_extends1_37 = true := by decide +kernel
def bX11_extends1_57 : List Op3 := [(57, .aload_n 0, 1, (0, 0, 0, 0, 0, 0), 0), (58, .getfield 16, 3, (30, 5, 2, 31, 0, 0), 0), (61, .iconst 0, 1, (0, 0, 0, 0, 0, 0), nI 0), (62, .iaload, 1, (0, 0, 0, 0, 0, 0), 0), (63, .iastore, 1, (0, 0, 0, 0, 0, 0), 0), (64, .aload_n 0, 1, (0, 0, 0, 0, 0, 0), 0), (65, .getfield 16, 3, (30, 5, 2, 31, 0, 0), 0), (68, .iload_n 1, 1, (1, 0, 0, 0, 0, 0), 0), (69, .bipush 6, 2, (0, 0, 0, 0, 0, 0), nI 6)]
theorem obX11_extends1_57 : dcd RX11 cX11_extends1 57 bX11_extends1_57 = true := by decide +kernel
def bX11_extends1_74 : List Op3 := [(74, .aload_n 0, 1, (0, 0, 0, 0, 0, 0), 0), (75, .getfield 16, 3, (30, 5, 2, 31, 0, 0), 0), (78, .iconst 0, 1, (0, 0, 0, 0, 0, 0), nI 0), (79, .iaload, 1, (0, 0, 0, 0, 0, 0), 0), (80, .iload_n 2, 1, (2, 0, 0, 0, 0, 0), 0), (81, .iadd, 1, (0, 0, 0, 0, 0, 0), 0), (82, .iastore, 1, (0, 0, 0, 0, 0, 0), 0), (83, .iload_n 3, 1, (3, 0, 0, 0, 0, 0), 0), (84, .ireturn, 1, (0, 0, 0, 0, 0, 0), 0)]
theorem obX11_extends1_74 : dcd RX11 cX11_extends1 74 bX11_extends1_74 = true := by decide +kernel
def bX11_extend_0 : List Op3 := [(0, .aload_n 0, 1, (0, 0, 0, 0, 0, 0), 0)]
theorem obX11_extend_0 : dcd RX11 cX11_extend 0 bX11_extend_0 = true := by decide +kernel
def bX11_extend_4 : List Op3 := [(4, .aload_n 0, 1, (0, 0, 0, 0, 0, 0), 0), (5, .aload_n 0, 1, (0, 0, 0, 0, 0, 0), 0), (6, .aload_n 0, 1, (0, 0, 0, 0, 0, 0), 0), (7, .iload_n 1, 1, (1, 0, 0, 0, 0, 0), 0), (8, .iconst 0, 1, (0, 0, 0, 0, 0, 0), nI 0)]
theorem obX11_extend_4 : dcd RX11 cX11_extend 4 bX11_extend_4 = true := by decide +kernel
def bX11_extend_12 : List Op3 := [(12, .iload_n 2, 1, (2, 0, 0, 0, 0, 0), 0)]
theorem obX11_extend_12 : dcd RX11 cX11_extend 12 bX11_extend_12 = true := by decide +kernel
def bX11_extend_19 : List Op3 := [(19, .ireturn, 1, (0, 0, 0, 0, 0, 0), 0)]
theorem obX11_extend_19 : dcd RX11 cX11_extend 19 bX11_extend_19 = true := by decide +kernel
def bX11_passes_0 : List Op3 := [(0, .iload_n 1, 1, (1, 0, 0, 0, 0, 0), 0), (1, .iconst 1, 1, (0, 0, 0, 0, 0, 0), nI 1), (2, .bipush 90, 2, (0, 0, 0, 0, 0, 0), nI 90)]
theorem obX11_passes_0 : dcd RX11 cX11_passes 0 bX11_passes_0 = true := by decide +kernel
def bX11_passes_7 : List Op3 := [(7, .ifCond .ne 9, 3, (16, 0, 0, 0, 0, 0), 0), (10, .aload_n 0, 1, (0, 0, 0, 0, 0, 0), 0), (11, .iconst 1, 1, (0, 0, 0, 0, 0, 0), nI 1)]
theorem obX11_passes_7 : dcd RX11 cX11_passes 7 bX11_passes_7 = true := by decide +kernel
def bX11_passes_15 : List Op3 := [(15, .ireturn, 1, (0, 0, 0, 0, 0, 0), 0)]
theorem obX11_passes_15 : dcd RX11 cX11_passes 15 bX11_passes_15 = true := by decide +kernel
def bX11_passes_16 : List Op3 := [(16, .iconst 0, 1, (0, 0, 0, 0, 0, 0), nI 0), (17, .istore_n 2, 1, (2, 0, 0, 0, 0, 0), 0), (18, .iconst 0, 1, (0, 0, 0, 0, 0, 0), nI 0), (19, .istore_n 3, 1, (3, 0, 0, 0, 0, 0), 0)]
theorem obX11_passes_16 : dcd RX11 cX11_passes 16 bX11_passes_16 = true := by decide +kernel
def bX11_passes_20 : List Op3 := [(20, .iload_n 3, 1, (3, 0, 0, 0, 0, 0), 0), (21, .iload_n 1, 1, (1, 0, 0, 0, 0, 0), 0), (22, .if_icmp .ge 108, 3, (130, 0, 0, 0, 0, 0), 0), (25, .aload_n 0, 1, (0, 0, 0, 0, 0, 0), 0), (26, .getfield 16, 3, (30, 5, 2, 31, 0, 0), 0), (29, .iconst 0, 1, (0, 0, 0, 0, 0, 0), nI 0), (30, .dup2, 1, (0, 0, 0, 0, 0, 0), 0), (31, .iaload, 1, (0, 0, 0, 0, 0, 0), 0), (32, .iconst 1, 1, (0, 0, 0, 0, 0, 0), nI 1), (33, .iadd, 1, (0, 0, 0, 0, 0, 0), 0), (34, .iastore, 1, (0, 0, 0, 0, 0, 0), 0), (35, .iconst 0, 1, (0, 0, 0, 0, 0, 0), nI 0), (36, .istore 4, 2, (4, 0, 0, 0, 0, 0), 0)]
theorem obX11_passes_20 : dcd RX11 cX11_passes 20 bX11_passes_20 = true := by decide +kernel
def bX11_passes_38 : List Op3 := [(38, .iload 4, 2, (4, 0, 0, 0, 0, 0), 0), (40, .aload_n 0, 1, (0, 0, 0, 0, 0, 0), 0), (41, .getfield 16, 3, (30, 5, 2, 31, 0, 0), 0), (44, .iconst 4, 1, (0, 0, 0, 0, 0, 0), nI 4), (45, .iaload, 1, (0, 0, 0, 0, 0, 0), 0), (46, .if_icmp .ge 78, 3, (124, 0, 0, 0, 0, 0), 0), (49, .aload_n 0, 1, (0, 0, 0, 0, 0, 0), 0), (50, .iload 4, 2, (4, 0, 0, 0, 0, 0), 0)]
theorem obX11_passes_38 : dcd RX11 cX11_passes 38 bX11_passes_38 = true := by decide +kernel
def bX11_passes_55 : List Op3 := [(55, .ifCond .ne 63, 3, (118, 0, 0, 0, 0, 0), 0), (58, .aload_n 0, 1, (0, 0, 0, 0, 0, 0), 0), (59, .getfield 16, 3, (30, 5, 2, 31, 0, 0), 0), (62, .iload 4, 2, (4, 0, 0, 0, 0, 0), 0), (64, .bipush 6, 2, (0, 0, 0, 0, 0, 0), nI 6)]
theorem obX11_passes_55 : dcd RX11 cX11_passes 55 bX11_passes_55 = true := by decide +kernel
def bX11_passes_69 : List Op3 := [(69, .iaload, 1, (0, 0, 0, 0, 0, 0), 0), (70, .aload_n 0, 1, (0, 0, 0, 0, 0, 0), 0), (71, .getfield 16, 3, (30, 5, 2, 31, 0, 0), 0), (74, .iconst 0, 1, (0, 0, 0, 0, 0, 0), nI 0), (75, .iaload, 1, (0, 0, 0, 0, 0, 0), 0), (76, .if_icmp .lt 6, 3, (82, 0, 0, 0, 0, 0), 0), (79, .goto 39, 3, (118, 0, 0, 0, 0, 0), 0)]
theorem obX11_passes_69 : dcd RX11 cX11_passes 69 bX11_passes_69 = true := by decide +kernel
def bX11_passes_82 : List Op3 := [(82, .aload_n 0, 1, (0, 0, 0, 0, 0, 0), 0), (83, .getfield 16, 3, (30, 5, 2, 31, 0, 0), 0), (86, .iload 4, 2, (4, 0, 0, 0, 0, 0), 0), (88, .iconst 1, 1, (0, 0, 0, 0, 0, 0), nI 1)]
theorem obX11_passes_82 : dcd RX11 cX11_passes 82 bX11_passes_82 = true := by decide +kernel
def bX11_passes_92 : List Op3 := [(92, .iconst 1, 1, (0, 0, 0, 0, 0, 0), nI 1), (93, .iastore, 1, (0, 0, 0, 0, 0, 0), 0), (94, .aload_n 0, 1, (0, 0, 0, 0, 0, 0), 0), (95, .getfield 16, 3, (30, 5, 2, 31, 0, 0), 0), (98, .bipush 6, 2, (0, 0, 0, 0, 0, 0), nI 6), (100, .dup2, 1, (0, 0, 0, 0, 0, 0), 0), (101, .iaload, 1, (0, 0, 0, 0, 0, 0), 0), (102, .aload_n 0, 1, (0, 0, 0, 0, 0, 0), 0), (103, .getfield 16, 3, (30, 5, 2, 31, 0, 0), 0), (106, .iload 4, 2, (4, 0, 0, 0, 0, 0), 0), (108, .iconst 3, 1, (0, 0, 0, 0, 0, 0), nI 3)]
theorem obX11_passes_92 : dcd RX11 cX11_passes 92 bX11_passes_92 = true := by decide +kernel
def bX11_passes_112 : List Op3 := [(112, .iaload, 1, (0, 0, 0, 0, 0, 0), 0), (113, .iadd, 1, (0, 0, 0, 0, 0, 0), 0), (114, .iastore, 1, (0, 0, 0, 0, 0, 0), 0), (115, .iinc 2 1, 3, (2, 0, 0, 0, 0, 0), nI 1), (118, .iinc 4 1, 3, (4, 0, 0, 0, 0, 0), nI 1), (121, .goto (-83), 3, (38, 0, 0, 0, 0, 0), 0)]
theorem obX11_passes_112 : dcd RX11 cX11_passes 112 bX11_passes_112 = true := by decide +kernel
def bX11_passes_118 : List Op3 := [(118, .iinc 4 1, 3, (4, 0, 0, 0, 0, 0), nI 1), (121, .goto (-83), 3, (38, 0, 0, 0, 0, 0), 0)]
theorem obX11_passes_118 : dcd RX11 cX11_passes 118 bX11_passes_118 = true := by decide +kernel
def bX11_passes_124 : List Op3 := [(124, .iinc 3 1, 3, (3, 0, 0, 0, 0, 0), nI 1), (127, .goto (-107), 3, (20, 0, 0, 0, 0, 0), 0)]
theorem obX11_passes_124 : dcd RX11 cX11_passes 124 bX11_passes_124 = true := by decide +kernel
def bX11_passes_130 : List Op3 := [(130, .iload_n 2, 1, (2, 0, 0, 0, 0, 0), 0), (131, .ireturn, 1, (0, 0, 0, 0, 0, 0), 0)]
theorem obX11_passes_130 : dcd RX11 cX11_passes 130 bX11_passes_130 = true := by decide +kernel
def bX11_passDays_0 : List Op3 := [(0, .aload_n 0, 1, (0, 0, 0, 0, 0, 0), 0)]
theorem obX11_passDays_0 : dcd RX11 cX11_passDays 0 bX11_passDays_0 = true := by decide +kernel
def bX11_passDays_4 : List Op3 := [(4, .aload_n 0, 1, (0, 0, 0, 0, 0, 0), 0), (5, .aload_n 0, 1, (0, 0, 0, 0, 0, 0), 0), (6, .iload_n 1, 1, (1, 0, 0, 0, 0, 0), 0)]
theorem obX11_passDays_4 : dcd RX11 cX11_passDays 4 bX11_passDays_4 = true := by decide +kernel
def bX11_passDays_13 : List Op3 := [(13, .ireturn, 1, (0, 0, 0, 0, 0, 0), 0)]
theorem obX11_passDays_13 : dcd RX11 cX11_passDays 13 bX11_passDays_13 = true := by decide +kernel
def bX11_prices_0 : List Op3 := [(0, .iload_n 1, 1, (1, 0, 0, 0, 0, 0), 0), (1, .iconst 1, 1, (0, 0, 0, 0, 0, 0), nI 1), (2, .bipush 9, 2, (0, 0, 0, 0, 0, 0), nI 9)]
theorem obX11_prices_0 : dcd RX11 cX11_prices 0 bX11_prices_0 = true := by decide +kernel
def bX11_prices_7 : List Op3 := [(7, .ifCond .ne 9, 3, (16, 0, 0, 0, 0, 0), 0), (10, .aload_n 0, 1, (0, 0, 0, 0, 0, 0), 0), (11, .iconst 1, 1, (0, 0, 0, 0, 0, 0), nI 1)]
theorem obX11_prices_7 : dcd RX11 cX11_prices 7 bX11_prices_7 = true := by decide +kernel
def bX11_prices_15 : List Op3 := [(15, .ireturn, 1, (0, 0, 0, 0, 0, 0), 0)]
theorem obX11_prices_15 : dcd RX11 cX11_prices 15 bX11_prices_15 = true := by decide +kernel
def bX11_prices_16 : List Op3 := [(16, .aload_n 0, 1, (0, 0, 0, 0, 0, 0), 0), (17, .getfield 16, 3, (30, 5, 2, 31, 0, 0), 0), (20, .iconst 1, 1, (0, 0, 0, 0, 0, 0), nI 1), (21, .iaload, 1, (0, 0, 0, 0, 0, 0), 0), (22, .istore_n 2, 1, (2, 0, 0, 0, 0, 0), 0), (23, .aload_n 0, 1, (0, 0, 0, 0, 0, 0), 0), (24, .getfield 16, 3, (30, 5, 2, 31, 0, 0), 0), (27, .iconst 1, 1, (0, 0, 0, 0, 0, 0), nI 1), (28, .iload_n 1, 1, (1, 0, 0, 0, 0, 0), 0), (29, .iastore, 1, (0, 0, 0, 0, 0, 0), 0), (30, .iload_n 2, 1, (2, 0, 0, 0, 0, 0), 0), (31, .ireturn, 1, (0, 0, 0, 0, 0, 0), 0)]
theorem obX11_prices_16 : dcd RX11 cX11_prices 16 bX11_prices_16 = true := by decide +kernel
def bX11_setPrice_0 : List Op3 := [(0, .aload_n 0, 1, (0, 0, 0, 0, 0, 0), 0)]
theorem obX11_setPrice_0 : dcd RX11 cX11_setPrice 0 bX11_setPrice_0 = true := by decide +kernel
def bX11_setPrice_4 : List Op3 := [(4, .aload_n 0, 1, (0, 0, 0, 0, 0, 0), 0), (5, .aload_n 0, 1, (0, 0, 0, 0, 0, 0), 0), (6, .iload_n 1, 1, (1, 0, 0, 0, 0, 0), 0)]
theorem obX11_setPrice_4 : dcd RX11 cX11_setPrice 4 bX11_setPrice_4 = true := by decide +kernel
def bX11_setPrice_13 : List Op3 := [(13, .ireturn, 1, (0, 0, 0, 0, 0, 0), 0)]
theorem obX11_setPrice_13 : dcd RX11 cX11_setPrice 13 bX11_setPrice_13 = true := by decide +kernel
def bX11_rates_0 : List Op3 := [(0, .iload_n 1, 1, (1, 0, 0, 0, 0, 0), 0), (1, .iconst 0, 1, (0, 0, 0, 0, 0, 0), nI 0), (2, .bipush 6, 2, (0, 0, 0, 0, 0, 0), nI 6)]
theorem obX11_rates_0 : dcd RX11 cX11_rates 0 bX11_rates_0 = true := by decide +kernel
def bX11_rates_7 : List Op3 := [(7, .ifCond .eq 13, 3, (20, 0, 0, 0, 0, 0), 0), (10, .iload_n 2, 1, (2, 0, 0, 0, 0, 0), 0), (11, .iconst 0, 1, (0, 0, 0, 0, 0, 0), nI 0), (12, .bipush 9, 2, (0, 0, 0, 0, 0, 0), nI 9)]
theorem obX11_rates_7 : dcd RX11 cX11_rates 7 bX11_rates_7 = true := by decide +kernel
def bX11_rates_17 : List Op3 := [(17, .ifCond .ne 9, 3, (26, 0, 0, 0, 0, 0), 0), (20, .aload_n 0, 1, (0, 0, 0, 0, 0, 0), 0), (21, .iconst 1, 1, (0, 0, 0, 0, 0, 0), nI 1)]
theorem obX11_rates_17 : dcd RX11 cX11_rates 17 bX11_rates_17 = true := by decide +kernel
def bX11_rates_20 : List Op3 := [(20, .aload_n 0, 1, (0, 0, 0, 0, 0, 0), 0), (21, .iconst 1, 1, (0, 0, 0, 0, 0, 0), nI 1)]
theorem obX11_rates_20 : dcd RX11 cX11_rates 20 bX11_rates_20 = true := by decide +kernel
def bX11_rates_25 : List Op3 := [(25, .ireturn, 1, (0, 0, 0, 0, 0, 0), 0)]
theorem obX11_rates_25 : dcd RX11 cX11_rates 25 bX11_rates_25 = true := by decide +kernel
def bX11_rates_26 : List Op3 := [(26, .aload_n 0, 1, (0, 0, 0, 0, 0, 0), 0), (27, .getfield 16, 3, (30, 5, 2, 31, 0, 0), 0), (30, .bipush 9, 2, (0, 0, 0, 0, 0, 0), nI 9), (32, .iload_n 1, 1, (1, 0, 0, 0, 0, 0), 0), (33, .iadd, 1, (0, 0, 0, 0, 0, 0), 0), (34, .iaload, 1, (0, 0, 0, 0, 0, 0), 0), (35, .istore_n 3, 1, (3, 0, 0, 0, 0, 0), 0), (36, .aload_n 0, 1, (0, 0, 0, 0, 0, 0), 0), (37, .getfield 16, 3, (30, 5, 2, 31, 0, 0), 0), (40, .bipush 9, 2, (0, 0, 0, 0, 0, 0), nI 9), (42, .iload_n 1, 1, (1, 0, 0, 0, 0, 0), 0), (43, .iadd, 1, (0, 0, 0, 0, 0, 0), 0), (44, .iload_n 2, 1, (2, 0, 0, 0, 0, 0), 0), (45, .iastore, 1, (0, 0, 0, 0, 0, 0), 0), (46, .iload_n 3, 1, (3, 0, 0, 0, 0, 0), 0), (47, .ireturn, 1, (0, 0, 0, 0, 0, 0), 0)]
theorem obX11_rates_26 : dcd RX11 cX11_rates 26 bX11_rates_26 = true := by decide +kernel
def bX11_setRate_0 : List Op3 := [(0, .aload_n 0, 1, (0, 0, 0, 0, 0, 0), 0)]
theorem obX11_setRate_0 : dcd RX11 cX11_setRate 0 bX11_setRate_0 = true := by decide +kernel
def bX11_setRate_4 : List Op3 := [(4, .aload_n 0, 1, (0, 0, 0, 0, 0, 0), 0), (5, .aload_n 0, 1, (0, 0, 0, 0, 0, 0), 0), (6, .iload_n 1, 1, (1, 0, 0, 0, 0, 0), 0), (7, .iload_n 2, 1, (2, 0, 0, 0, 0, 0), 0)]
theorem obX11_setRate_4 : dcd RX11 cX11_setRate 4 bX11_setRate_4 = true := by decide +kernel
def bX11_setRate_14 : List Op3 := [(14, .ireturn, 1, (0, 0, 0, 0, 0, 0), 0)]
theorem obX11_setRate_14 : dcd RX11 cX11_setRate 14 bX11_setRate_14 = true := by decide +kernel
def bX11_tells_0 : List Op3 := [(0, .aload_n 0, 1, (0, 0, 0, 0, 0, 0), 0), (1, .iconst 0, 1, (0, 0, 0, 0, 0, 0), nI 0), (2, .putfield 50, 3, (30, 0, 0, 0, 0, 0), 0), (5, .aload_n 0, 1, (0, 0, 0, 0, 0, 0), 0), (6, .getfield 16, 3, (30, 5, 2, 31, 0, 0), 0), (9, .iload_n 1, 1, (1, 0, 0, 0, 0, 0), 0), (10, .iaload, 1, (0, 0, 0, 0, 0, 0), 0), (11, .ireturn, 1, (0, 0, 0, 0, 0, 0), 0)]
theorem obX11_tells_0 : dcd RX11 cX11_tells 0 bX11_tells_0 = true := by decide +kernel
def bX11_day_0 : List Op3 := [(0, .aload_n 0, 1, (0, 0, 0, 0, 0, 0), 0), (1, .iconst 0, 1, (0, 0, 0, 0, 0, 0), nI 0)]
theorem obX11_day_0 : dcd RX11 cX11_day 0 bX11_day_0 = true := by decide +kernel
def bX11_day_5 : List Op3 := [(5, .ireturn, 1, (0, 0, 0, 0, 0, 0), 0)]
theorem obX11_day_5 : dcd RX11 cX11_day 5 bX11_day_5 = true := by decide +kernel
def bX11_price_0 : List Op3 := [(0, .aload_n 0, 1, (0, 0, 0, 0, 0, 0), 0), (1, .iconst 1, 1, (0, 0, 0, 0, 0, 0), nI 1)]
theorem obX11_price_0 : dcd RX11 cX11_price 0 bX11_price_0 = true := by decide +kernel
def bX11_price_5 : List Op3 := [(5, .ireturn, 1, (0, 0, 0, 0, 0, 0), 0)]
theorem obX11_price_5 : dcd RX11 cX11_price 5 bX11_price_5 = true := by decide +kernel
def bX11_rateOf_0 : List Op3 := [(0, .aload_n 0, 1, (0, 0, 0, 0, 0, 0), 0), (1, .iload_n 1, 1, (1, 0, 0, 0, 0, 0), 0), (2, .iconst 0, 1, (0, 0, 0, 0, 0, 0), nI 0), (3, .bipush 6, 2, (0, 0, 0, 0, 0, 0), nI 6)]
theorem obX11_rateOf_0 : dcd RX11 cX11_rateOf 0 bX11_rateOf_0 = true := by decide +kernel
def bX11_rateOf_8 : List Op3 := [(8, .ifCond .eq 7, 3, (15, 0, 0, 0, 0, 0), 0), (11, .iconst 0, 1, (0, 0, 0, 0, 0, 0), nI 0), (12, .goto 4, 3, (16, 0, 0, 0, 0, 0), 0)]
theorem obX11_rateOf_8 : dcd RX11 cX11_rateOf 8 bX11_rateOf_8 = true := by decide +kernel
def bX11_rateOf_15 : List Op3 := [(15, .iconst 1, 1, (0, 0, 0, 0, 0, 0), nI 1), (16, .putfield 50, 3, (30, 0, 0, 0, 0, 0), 0), (19, .aload_n 0, 1, (0, 0, 0, 0, 0, 0), 0), (20, .getfield 50, 3, (30, 0, 0, 0, 0, 0), 0), (23, .ifCond .ne 15, 3, (38, 0, 0, 0, 0, 0), 0), (26, .aload_n 0, 1, (0, 0, 0, 0, 0, 0), 0), (27, .getfield 16, 3, (30, 5, 2, 31, 0, 0), 0), (30, .bipush 9, 2, (0, 0, 0, 0, 0, 0), nI 9), (32, .iload_n 1, 1, (1, 0, 0, 0, 0, 0), 0), (33, .iadd, 1, (0, 0, 0, 0, 0, 0), 0), (34, .iaload, 1, (0, 0, 0, 0, 0, 0), 0), (35, .goto 4, 3, (39, 0, 0, 0, 0, 0), 0)]
theorem obX11_rateOf_15 : dcd RX11 cX11_rateOf 15 bX11_rateOf_15 = true := by decide +kernel
def bX11_rateOf_16 : List Op3 := [(16, .putfield 50, 3, (30, 0, 0, 0, 0, 0), 0), (19, .aload_n 0, 1, (0, 0, 0, 0, 0, 0), 0), (20, .getfield 50, 3, (30, 0, 0, 0, 0, 0), 0), (23, .ifCond .ne 15, 3, (38, 0, 0, 0, 0, 0), 0), (26, .aload_n 0, 1, (0, 0, 0, 0, 0, 0), 0), (27, .getfield 16, 3, (30, 5, 2, 31, 0, 0), 0), (30, .bipush 9, 2, (0, 0, 0, 0, 0, 0), nI 9), (32, .iload_n 1, 1, (1, 0, 0, 0, 0, 0), 0), (33, .iadd, 1, (0, 0, 0, 0, 0, 0), 0), (34, .iaload, 1, (0, 0, 0, 0, 0, 0), 0), (35, .goto 4, 3, (39, 0, 0, 0, 0, 0), 0)]
theorem obX11_rateOf_16 : dcd RX11 cX11_rateOf 16 bX11_rateOf_16 = true := by decide +kernel
def bX11_rateOf_38 : List Op3 := [(38, .iconst 0, 1, (0, 0, 0, 0, 0, 0), nI 0), (39, .ireturn, 1, (0, 0, 0, 0, 0, 0), 0)]
theorem obX11_rateOf_38 : dcd RX11 cX11_rateOf 38 bX11_rateOf_38 = true := by decide +kernel
def bX11_rateOf_39 : List Op3 := [(39, .ireturn, 1, (0, 0, 0, 0, 0, 0), 0)]
theorem obX11_rateOf_39 : dcd RX11 cX11_rateOf 39 bX11_rateOf_39 = true := by decide +kernel
def bX11_coins_0 : List Op3 := [(0, .aload_n 0, 1, (0, 0, 0, 0, 0, 0), 0), (1, .iconst 2, 1, (0, 0, 0, 0, 0, 0), nI 2)]
theorem obX11_coins_0 : dcd RX11 cX11_coins 0 bX11_coins_0 = true := by decide +kernel
def bX11_coins_5 : List Op3 := [(5, .ireturn, 1, (0, 0, 0, 0, 0, 0), 0)]
theorem obX11_coins_5 : dcd RX11 cX11_coins 5 bX11_coins_5 = true := by decide +kernel
def bX11_coinsByAccounts_0 : List Op3 := [(0, .aload_n 0, 1, (0, 0, 0, 0, 0, 0), 0), (1, .iconst 2, 1, (0, 0, 0, 0, 0, 0), nI 2)]
theorem obX11_coinsByAccounts_0 : dcd RX11 cX11_coinsByAccounts 0 bX11_coinsByAccounts_0 = true := by decide +kernel
def bX11_coinsByAccounts_5 : List Op3 := [(5, .ireturn, 1, (0, 0, 0, 0, 0, 0), 0)]
theorem obX11_coinsByAccounts_5 : dcd RX11 cX11_coinsByAccounts 5 bX11_coinsByAccounts_5 = true := by decide +kernel
def bX11_pledgeCount_0 : List Op3 := [(0, .aload_n 0, 1, (0, 0, 0, 0, 0, 0), 0), (1, .iconst 0, 1, (0, 0, 0, 0, 0, 0), nI 0), (2, .putfield 50, 3, (30, 0, 0, 0, 0, 0), 0), (5, .aload_n 0, 1, (0, 0, 0, 0, 0, 0), 0), (6, .iconst 0, 1, (0, 0, 0, 0, 0, 0), nI 0)]
theorem obX11_pledgeCount_0 : dcd RX11 cX11_pledgeCount 0 bX11_pledgeCount_0 = true := by decide +kernel
def bX11_pledgeCount_10 : List Op3 := [(10, .ireturn, 1, (0, 0, 0, 0, 0, 0), 0)]
theorem obX11_pledgeCount_10 : dcd RX11 cX11_pledgeCount 10 bX11_pledgeCount_10 = true := by decide +kernel
def bX11_pledgeAt_0 : List Op3 := [(0, .iload_n 1, 1, (1, 0, 0, 0, 0, 0), 0), (1, .ifCond .ge 7, 3, (8, 0, 0, 0, 0, 0), 0), (4, .iconst (-1), 1, (0, 0, 0, 0, 0, 0), -1), (5, .goto 9, 3, (14, 0, 0, 0, 0, 0), 0)]
theorem obX11_pledgeAt_0 : dcd RX11 cX11_pledgeAt 0 bX11_pledgeAt_0 = true := by decide +kernel
def bX11_pledgeAt_8 : List Op3 := [(8, .aload_n 0, 1, (0, 0, 0, 0, 0, 0), 0), (9, .iload_n 1, 1, (1, 0, 0, 0, 0, 0), 0), (10, .iconst 0, 1, (0, 0, 0, 0, 0, 0), nI 0)]
theorem obX11_pledgeAt_8 : dcd RX11 cX11_pledgeAt 8 bX11_pledgeAt_8 = true := by decide +kernel
def bX11_pledgeAt_14 : List Op3 := [(14, .istore_n 2, 1, (2, 0, 0, 0, 0, 0), 0), (15, .aload_n 0, 1, (0, 0, 0, 0, 0, 0), 0), (16, .iload_n 2, 1, (2, 0, 0, 0, 0, 0), 0), (17, .ifCond .ge 7, 3, (24, 0, 0, 0, 0, 0), 0), (20, .iconst 1, 1, (0, 0, 0, 0, 0, 0), nI 1), (21, .goto 4, 3, (25, 0, 0, 0, 0, 0), 0)]
theorem obX11_pledgeAt_14 : dcd RX11 cX11_pledgeAt 14 bX11_pledgeAt_14 = true := by decide +kernel
def bX11_pledgeAt_24 : List Op3 := [(24, .iconst 0, 1, (0, 0, 0, 0, 0, 0), nI 0), (25, .putfield 50, 3, (30, 0, 0, 0, 0, 0), 0), (28, .aload_n 0, 1, (0, 0, 0, 0, 0, 0), 0), (29, .getfield 50, 3, (30, 0, 0, 0, 0, 0), 0), (32, .ifCond .ne 7, 3, (39, 0, 0, 0, 0, 0), 0), (35, .iload_n 2, 1, (2, 0, 0, 0, 0, 0), 0), (36, .goto 4, 3, (40, 0, 0, 0, 0, 0), 0)]
theorem obX11_pledgeAt_24 : dcd RX11 cX11_pledgeAt 24 bX11_pledgeAt_24 = true := by decide +kernel
def bX11_pledgeAt_25 : List Op3 := [(25, .putfield 50, 3, (30, 0, 0, 0, 0, 0), 0), (28, .aload_n 0, 1, (0, 0, 0, 0, 0, 0), 0), (29, .getfield 50, 3, (30, 0, 0, 0, 0, 0), 0), (32, .ifCond .ne 7, 3, (39, 0, 0, 0, 0, 0), 0), (35, .iload_n 2, 1, (2, 0, 0, 0, 0, 0), 0), (36, .goto 4, 3, (40, 0, 0, 0, 0, 0), 0)]
theorem obX11_pledgeAt_25 : dcd RX11 cX11_pledgeAt 25 bX11_pledgeAt_25 = true := by decide +kernel
def bX11_pledgeAt_39 : List Op3 := [(39, .iconst 0, 1, (0, 0, 0, 0, 0, 0), nI 0), (40, .ireturn, 1, (0, 0, 0, 0, 0, 0), 0)]
theorem obX11_pledgeAt_39 : dcd RX11 cX11_pledgeAt 39 bX11_pledgeAt_39 = true := by decide +kernel
def bX11_pledgeAt_40 : List Op3 := [(40, .ireturn, 1, (0, 0, 0, 0, 0, 0), 0)]
theorem obX11_pledgeAt_40 : dcd RX11 cX11_pledgeAt 40 bX11_pledgeAt_40 = true := by decide +kernel
def bX11_tellsOf_0 : List Op3 := [(0, .aload_n 0, 1, (0, 0, 0, 0, 0, 0), 0), (1, .iload_n 1, 1, (1, 0, 0, 0, 0, 0), 0), (2, .ifCond .ge 7, 3, (9, 0, 0, 0, 0, 0), 0), (5, .iconst 1, 1, (0, 0, 0, 0, 0, 0), nI 1), (6, .goto 4, 3, (10, 0, 0, 0, 0, 0), 0)]
theorem obX11_tellsOf_0 : dcd RX11 cX11_tellsOf 0 bX11_tellsOf_0 = true := by decide +kernel
def bX11_tellsOf_9 : List Op3 := [(9, .iconst 0, 1, (0, 0, 0, 0, 0, 0), nI 0), (10, .putfield 50, 3, (30, 0, 0, 0, 0, 0), 0), (13, .aload_n 0, 1, (0, 0, 0, 0, 0, 0), 0), (14, .getfield 50, 3, (30, 0, 0, 0, 0, 0), 0), (17, .ifCond .ne 16, 3, (33, 0, 0, 0, 0, 0), 0), (20, .aload_n 0, 1, (0, 0, 0, 0, 0, 0), 0), (21, .getfield 16, 3, (30, 5, 2, 31, 0, 0), 0), (24, .iload_n 1, 1, (1, 0, 0, 0, 0, 0), 0), (25, .iload_n 2, 1, (2, 0, 0, 0, 0, 0), 0)]
theorem obX11_tellsOf_9 : dcd RX11 cX11_tellsOf 9 bX11_tellsOf_9 = true := by decide +kernel
def bX11_tellsOf_10 : List Op3 := [(10, .putfield 50, 3, (30, 0, 0, 0, 0, 0), 0), (13, .aload_n 0, 1, (0, 0, 0, 0, 0, 0), 0), (14, .getfield 50, 3, (30, 0, 0, 0, 0, 0), 0), (17, .ifCond .ne 16, 3, (33, 0, 0, 0, 0, 0), 0), (20, .aload_n 0, 1, (0, 0, 0, 0, 0, 0), 0), (21, .getfield 16, 3, (30, 5, 2, 31, 0, 0), 0), (24, .iload_n 1, 1, (1, 0, 0, 0, 0, 0), 0), (25, .iload_n 2, 1, (2, 0, 0, 0, 0, 0), 0)]
theorem obX11_tellsOf_10 : dcd RX11 cX11_tellsOf 10 bX11_tellsOf_10 = true := by decide +kernel
def bX11_tellsOf_29 : List Op3 := [(29, .iaload, 1, (0, 0, 0, 0, 0, 0), 0), (30, .goto 4, 3, (34, 0, 0, 0, 0, 0), 0)]
theorem obX11_tellsOf_29 : dcd RX11 cX11_tellsOf 29 bX11_tellsOf_29 = true := by decide +kernel
def bX11_tellsOf_33 : List Op3 := [(33, .iconst 0, 1, (0, 0, 0, 0, 0, 0), nI 0), (34, .ireturn, 1, (0, 0, 0, 0, 0, 0), 0)]
theorem obX11_tellsOf_33 : dcd RX11 cX11_tellsOf 33 bX11_tellsOf_33 = true := by decide +kernel
def bX11_tellsOf_34 : List Op3 := [(34, .ireturn, 1, (0, 0, 0, 0, 0, 0), 0)]
theorem obX11_tellsOf_34 : dcd RX11 cX11_tellsOf 34 bX11_tellsOf_34 = true := by decide +kernel
def bX11_customerOf_0 : List Op3 := [(0, .aload_n 0, 1, (0, 0, 0, 0, 0, 0), 0), (1, .aload_n 0, 1, (0, 0, 0, 0, 0, 0), 0), (2, .iload_n 1, 1, (1, 0, 0, 0, 0, 0), 0), (3, .iconst 0, 1, (0, 0, 0, 0, 0, 0), nI 0)]
theorem obX11_customerOf_0 : dcd RX11 cX11_customerOf 0 bX11_customerOf_0 = true := by decide +kernel
def bX11_customerOf_7 : List Op3 := [(7, .iconst 2, 1, (0, 0, 0, 0, 0, 0), nI 2)]
theorem obX11_customerOf_7 : dcd RX11 cX11_customerOf 7 bX11_customerOf_7 = true := by decide +kernel
def bX11_customerOf_11 : List Op3 := [(11, .ireturn, 1, (0, 0, 0, 0, 0, 0), 0)]
theorem obX11_customerOf_11 : dcd RX11 cX11_customerOf 11 bX11_customerOf_11 = true := by decide +kernel
def bX11_minutesOf_0 : List Op3 := [(0, .aload_n 0, 1, (0, 0, 0, 0, 0, 0), 0), (1, .aload_n 0, 1, (0, 0, 0, 0, 0, 0), 0), (2, .iload_n 1, 1, (1, 0, 0, 0, 0, 0), 0)]
theorem obX11_minutesOf_0 : dcd RX11 cX11_minutesOf 0 bX11_minutesOf_0 = true := by decide +kernel
def bX11_minutesOf_6 : List Op3 := [(6, .iconst 3, 1, (0, 0, 0, 0, 0, 0), nI 3)]
theorem obX11_minutesOf_6 : dcd RX11 cX11_minutesOf 6 bX11_minutesOf_6 = true := by decide +kernel
def bX11_minutesOf_10 : List Op3 := [(10, .ireturn, 1, (0, 0, 0, 0, 0, 0), 0)]
theorem obX11_minutesOf_10 : dcd RX11 cX11_minutesOf 10 bX11_minutesOf_10 = true := by decide +kernel
def bX11_loanOf_0 : List Op3 := [(0, .aload_n 0, 1, (0, 0, 0, 0, 0, 0), 0), (1, .aload_n 0, 1, (0, 0, 0, 0, 0, 0), 0), (2, .iload_n 1, 1, (1, 0, 0, 0, 0, 0), 0)]
theorem obX11_loanOf_0 : dcd RX11 cX11_loanOf 0 bX11_loanOf_0 = true := by decide +kernel
def bX11_loanOf_6 : List Op3 := [(6, .iconst 4, 1, (0, 0, 0, 0, 0, 0), nI 4)]
theorem obX11_loanOf_6 : dcd RX11 cX11_loanOf 6 bX11_loanOf_6 = true := by decide +kernel
def bX11_loanOf_10 : List Op3 := [(10, .ireturn, 1, (0, 0, 0, 0, 0, 0), 0)]
theorem obX11_loanOf_10 : dcd RX11 cX11_loanOf 10 bX11_loanOf_10 = true := by decide +kernel
def bX11_dueDayOf_0 : List Op3 := [(0, .aload_n 0, 1, (0, 0, 0, 0, 0, 0), 0), (1, .aload_n 0, 1, (0, 0, 0, 0, 0, 0), 0), (2, .iload_n 1, 1, (1, 0, 0, 0, 0, 0), 0), (3, .iconst 0, 1, (0, 0, 0, 0, 0, 0), nI 0)]
theorem obX11_dueDayOf_0 : dcd RX11 cX11_dueDayOf 0 bX11_dueDayOf_0 = true := by decide +kernel
def bX11_dueDayOf_7 : List Op3 := [(7, .bipush 6, 2, (0, 0, 0, 0, 0, 0), nI 6)]
theorem obX11_dueDayOf_7 : dcd RX11 cX11_dueDayOf 7 bX11_dueDayOf_7 = true := by decide +kernel
def bX11_dueDayOf_12 : List Op3 := [(12, .ireturn, 1, (0, 0, 0, 0, 0, 0), 0)]
theorem obX11_dueDayOf_12 : dcd RX11 cX11_dueDayOf 12 bX11_dueDayOf_12 = true := by decide +kernel
def bX11_pledgeByDueDay_0 : List Op3 := [(0, .aload_n 0, 1, (0, 0, 0, 0, 0, 0), 0), (1, .iconst 0, 1, (0, 0, 0, 0, 0, 0), nI 0), (2, .putfield 50, 3, (30, 0, 0, 0, 0, 0), 0), (5, .iconst 0, 1, (0, 0, 0, 0, 0, 0), nI 0), (6, .istore_n 2, 1, (2, 0, 0, 0, 0, 0), 0)]
theorem obX11_pledgeByDueDay_0 : dcd RX11 cX11_pledgeByDueDay 0 bX11_pledgeByDueDay_0 = true := by decide +kernel
def bX11_pledgeByDueDay_7 : List Op3 := [(7, .iload_n 2, 1, (2, 0, 0, 0, 0, 0), 0), (8, .aload_n 0, 1, (0, 0, 0, 0, 0, 0), 0), (9, .getfield 16, 3, (30, 5, 2, 31, 0, 0), 0), (12, .iconst 4, 1, (0, 0, 0, 0, 0, 0), nI 4), (13, .iaload, 1, (0, 0, 0, 0, 0, 0), 0), (14, .if_icmp .ge 136, 3, (150, 0, 0, 0, 0, 0), 0), (17, .aload_n 0, 1, (0, 0, 0, 0, 0, 0), 0), (18, .iload_n 2, 1, (2, 0, 0, 0, 0, 0), 0)]
theorem obX11_pledgeByDueDay_7 : dcd RX11 cX11_pledgeByDueDay 7 bX11_pledgeByDueDay_7 = true := by decide +kernel
def bX11_pledgeByDueDay_22 : List Op3 := [(22, .ifCond .eq 6, 3, (28, 0, 0, 0, 0, 0), 0), (25, .goto 119, 3, (144, 0, 0, 0, 0, 0), 0)]
theorem obX11_pledgeByDueDay_22 : dcd RX11 cX11_pledgeByDueDay 22 bX11_pledgeByDueDay_22 = true := by decide +kernel
def bX11_pledgeByDueDay_28 : List Op3 := [(28, .iconst 0, 1, (0, 0, 0, 0, 0, 0), nI 0), (29, .istore_n 3, 1, (3, 0, 0, 0, 0, 0), 0), (30, .iconst 0, 1, (0, 0, 0, 0, 0, 0), nI 0), (31, .istore 4, 2, (4, 0, 0, 0, 0, 0), 0)]
theorem obX11_pledgeByDueDay_28 : dcd RX11 cX11_pledgeByDueDay 28 bX11_pledgeByDueDay_28 = true := by decide +kernel
def bX11_pledgeByDueDay_33 : List Op3 := [(33, .iload 4, 2, (4, 0, 0, 0, 0, 0), 0), (35, .aload_n 0, 1, (0, 0, 0, 0, 0, 0), 0), (36, .getfield 16, 3, (30, 5, 2, 31, 0, 0), 0), (39, .iconst 4, 1, (0, 0, 0, 0, 0, 0), nI 4), (40, .iaload, 1, (0, 0, 0, 0, 0, 0), 0), (41, .if_icmp .ge 87, 3, (128, 0, 0, 0, 0, 0), 0), (44, .aload_n 0, 1, (0, 0, 0, 0, 0, 0), 0), (45, .iload 4, 2, (4, 0, 0, 0, 0, 0), 0)]
theorem obX11_pledgeByDueDay_33 : dcd RX11 cX11_pledgeByDueDay 33 bX11_pledgeByDueDay_33 = true := by decide +kernel
def bX11_pledgeByDueDay_50 : List Op3 := [(50, .ifCond .eq 6, 3, (56, 0, 0, 0, 0, 0), 0), (53, .goto 69, 3, (122, 0, 0, 0, 0, 0), 0)]
theorem obX11_pledgeByDueDay_50 : dcd RX11 cX11_pledgeByDueDay 50 bX11_pledgeByDueDay_50 = true := by decide +kernel
def bX11_pledgeByDueDay_56 : List Op3 := [(56, .iload_n 3, 1, (3, 0, 0, 0, 0, 0), 0), (57, .aload_n 0, 1, (0, 0, 0, 0, 0, 0), 0), (58, .getfield 16, 3, (30, 5, 2, 31, 0, 0), 0), (61, .iload 4, 2, (4, 0, 0, 0, 0, 0), 0), (63, .bipush 6, 2, (0, 0, 0, 0, 0, 0), nI 6)]
theorem obX11_pledgeByDueDay_56 : dcd RX11 cX11_pledgeByDueDay 56 bX11_pledgeByDueDay_56 = true := by decide +kernel
def bX11_pledgeByDueDay_68 : List Op3 := [(68, .iaload, 1, (0, 0, 0, 0, 0, 0), 0), (69, .aload_n 0, 1, (0, 0, 0, 0, 0, 0), 0), (70, .getfield 16, 3, (30, 5, 2, 31, 0, 0), 0), (73, .iload_n 2, 1, (2, 0, 0, 0, 0, 0), 0), (74, .bipush 6, 2, (0, 0, 0, 0, 0, 0), nI 6)]
theorem obX11_pledgeByDueDay_68 : dcd RX11 cX11_pledgeByDueDay 68 bX11_pledgeByDueDay_68 = true := by decide +kernel
def bX11_pledgeByDueDay_79 : List Op3 := [(79, .iaload, 1, (0, 0, 0, 0, 0, 0), 0), (80, .if_icmp .lt 35, 3, (115, 0, 0, 0, 0, 0), 0), (83, .aload_n 0, 1, (0, 0, 0, 0, 0, 0), 0), (84, .getfield 16, 3, (30, 5, 2, 31, 0, 0), 0), (87, .iload 4, 2, (4, 0, 0, 0, 0, 0), 0), (89, .bipush 6, 2, (0, 0, 0, 0, 0, 0), nI 6)]
theorem obX11_pledgeByDueDay_79 : dcd RX11 cX11_pledgeByDueDay 79 bX11_pledgeByDueDay_79 = true := by decide +kernel
def bX11_pledgeByDueDay_94 : List Op3 := [(94, .iaload, 1, (0, 0, 0, 0, 0, 0), 0), (95, .aload_n 0, 1, (0, 0, 0, 0, 0, 0), 0), (96, .getfield 16, 3, (30, 5, 2, 31, 0, 0), 0), (99, .iload_n 2, 1, (2, 0, 0, 0, 0, 0), 0), (100, .bipush 6, 2, (0, 0, 0, 0, 0, 0), nI 6)]
theorem obX11_pledgeByDueDay_94 : dcd RX11 cX11_pledgeByDueDay 94 bX11_pledgeByDueDay_94 = true := by decide +kernel
def bX11_pledgeByDueDay_105 : List Op3 := [(105, .iaload, 1, (0, 0, 0, 0, 0, 0), 0), (106, .if_icmp .ne 13, 3, (119, 0, 0, 0, 0, 0), 0), (109, .iload 4, 2, (4, 0, 0, 0, 0, 0), 0), (111, .iload_n 2, 1, (2, 0, 0, 0, 0, 0), 0), (112, .if_icmp .ge 7, 3, (119, 0, 0, 0, 0, 0), 0), (115, .iconst 1, 1, (0, 0, 0, 0, 0, 0), nI 1), (116, .goto 4, 3, (120, 0, 0, 0, 0, 0), 0)]
theorem obX11_pledgeByDueDay_105 : dcd RX11 cX11_pledgeByDueDay 105 bX11_pledgeByDueDay_105 = true := by decide +kernel
def bX11_pledgeByDueDay_115 : List Op3 := [(115, .iconst 1, 1, (0, 0, 0, 0, 0, 0), nI 1), (116, .goto 4, 3, (120, 0, 0, 0, 0, 0), 0)]
theorem obX11_pledgeByDueDay_115 : dcd RX11 cX11_pledgeByDueDay 115 bX11_pledgeByDueDay_115 = true := by decide +kernel
def bX11_pledgeByDueDay_119 : List Op3 := [(119, .iconst 0, 1, (0, 0, 0, 0, 0, 0), nI 0), (120, .iadd, 1, (0, 0, 0, 0, 0, 0), 0), (121, .istore_n 3, 1, (3, 0, 0, 0, 0, 0), 0), (122, .iinc 4 1, 3, (4, 0, 0, 0, 0, 0), nI 1), (125, .goto (-92), 3, (33, 0, 0, 0, 0, 0), 0)]
theorem obX11_pledgeByDueDay_119 : dcd RX11 cX11_pledgeByDueDay 119 bX11_pledgeByDueDay_119 = true := by decide +kernel
def bX11_pledgeByDueDay_120 : List Op3 := [(120, .iadd, 1, (0, 0, 0, 0, 0, 0), 0), (121, .istore_n 3, 1, (3, 0, 0, 0, 0, 0), 0), (122, .iinc 4 1, 3, (4, 0, 0, 0, 0, 0), nI 1), (125, .goto (-92), 3, (33, 0, 0, 0, 0, 0), 0)]
theorem obX11_pledgeByDueDay_120 : dcd RX11 cX11_pledgeByDueDay 120 bX11_pledgeByDueDay_120 = true := by decide +kernel
def bX11_pledgeByDueDay_122 : List Op3 := [(122, .iinc 4 1, 3, (4, 0, 0, 0, 0, 0), nI 1), (125, .goto (-92), 3, (33, 0, 0, 0, 0, 0), 0)]
theorem obX11_pledgeByDueDay_122 : dcd RX11 cX11_pledgeByDueDay 122 bX11_pledgeByDueDay_122 = true := by decide +kernel
def bX11_pledgeByDueDay_128 : List Op3 := [(128, .iload_n 3, 1, (3, 0, 0, 0, 0, 0), 0), (129, .iload_n 1, 1, (1, 0, 0, 0, 0, 0), 0), (130, .if_icmp .ne 14, 3, (144, 0, 0, 0, 0, 0), 0), (133, .aload_n 0, 1, (0, 0, 0, 0, 0, 0), 0), (134, .getfield 16, 3, (30, 5, 2, 31, 0, 0), 0), (137, .iload_n 2, 1, (2, 0, 0, 0, 0, 0), 0), (138, .iconst 0, 1, (0, 0, 0, 0, 0, 0), nI 0)]
theorem obX11_pledgeByDueDay_128 : dcd RX11 cX11_pledgeByDueDay 128 bX11_pledgeByDueDay_128 = true := by decide +kernel
def bX11_pledgeByDueDay_142 : List Op3 := [(142, .iaload, 1, (0, 0, 0, 0, 0, 0), 0), (143, .ireturn, 1, (0, 0, 0, 0, 0, 0), 0)]
theorem obX11_pledgeByDueDay_142 : dcd RX11 cX11_pledgeByDueDay 142 bX11_pledgeByDueDay_142 = true := by decide +kernel
def bX11_pledgeByDueDay_144 : List Op3 := [(144, .iinc 2 1, 3, (2, 0, 0, 0, 0, 0), nI 1), (147, .goto (-140), 3, (7, 0, 0, 0, 0, 0), 0)]
theorem obX11_pledgeByDueDay_144 : dcd RX11 cX11_pledgeByDueDay 144 bX11_pledgeByDueDay_144 = true := by decide +kernel
def bX11_pledgeByDueDay_150 : List Op3 := [(150, .aload_n 0, 1, (0, 0, 0, 0, 0, 0), 0), (151, .iconst 1, 1, (0, 0, 0, 0, 0, 0), nI 1)]
theorem obX11_pledgeByDueDay_150 : dcd RX11 cX11_pledgeByDueDay 150 bX11_pledgeByDueDay_150 = true := by decide +kernel
def bX11_pledgeByDueDay_155 : List Op3 := [(155, .ireturn, 1, (0, 0, 0, 0, 0, 0), 0)]
theorem obX11_pledgeByDueDay_155 : dcd RX11 cX11_pledgeByDueDay 155 bX11_pledgeByDueDay_155 = true := by decide +kernel
def bX11_interestOf_0 : List Op3 := [(0, .aload_n 0, 1, (0, 0, 0, 0, 0, 0), 0), (1, .iload_n 1, 1, (1, 0, 0, 0, 0, 0), 0), (2, .iconst 0, 1, (0, 0, 0, 0, 0, 0), nI 0)]
theorem obX11_interestOf_0 : dcd RX11 cX11_interestOf 0 bX11_interestOf_0 = true := by decide +kernel
def bX11_interestOf_6 : List Op3 := [(6, .istore_n 2, 1, (2, 0, 0, 0, 0, 0), 0), (7, .aload_n 0, 1, (0, 0, 0, 0, 0, 0), 0), (8, .iload_n 2, 1, (2, 0, 0, 0, 0, 0), 0), (9, .ifCond .ge 7, 3, (16, 0, 0, 0, 0, 0), 0), (12, .iconst 1, 1, (0, 0, 0, 0, 0, 0), nI 1), (13, .goto 4, 3, (17, 0, 0, 0, 0, 0), 0)]
theorem obX11_interestOf_6 : dcd RX11 cX11_interestOf 6 bX11_interestOf_6 = true := by decide +kernel
def bX11_interestOf_16 : List Op3 := [(16, .iconst 0, 1, (0, 0, 0, 0, 0, 0), nI 0), (17, .putfield 50, 3, (30, 0, 0, 0, 0, 0), 0), (20, .aload_n 0, 1, (0, 0, 0, 0, 0, 0), 0), (21, .getfield 50, 3, (30, 0, 0, 0, 0, 0), 0), (24, .ifCond .ne 17, 3, (41, 0, 0, 0, 0, 0), 0), (27, .aload_n 0, 1, (0, 0, 0, 0, 0, 0), 0), (28, .iload_n 2, 1, (2, 0, 0, 0, 0, 0), 0), (29, .aload_n 0, 1, (0, 0, 0, 0, 0, 0), 0), (30, .getfield 16, 3, (30, 5, 2, 31, 0, 0), 0), (33, .iconst 0, 1, (0, 0, 0, 0, 0, 0), nI 0), (34, .iaload, 1, (0, 0, 0, 0, 0, 0), 0)]
theorem obX11_interestOf_16 : dcd RX11 cX11_interestOf 16 bX11_interestOf_16 = true := by decide +kernel
def bX11_interestOf_17 : List Op3 := [(17, .putfield 50, 3, (30, 0, 0, 0, 0, 0), 0), (20, .aload_n 0, 1, (0, 0, 0, 0, 0, 0), 0), (21, .getfield 50, 3, (30, 0, 0, 0, 0, 0), 0), (24, .ifCond .ne 17, 3, (41, 0, 0, 0, 0, 0), 0), (27, .aload_n 0, 1, (0, 0, 0, 0, 0, 0), 0), (28, .iload_n 2, 1, (2, 0, 0, 0, 0, 0), 0), (29, .aload_n 0, 1, (0, 0, 0, 0, 0, 0), 0), (30, .getfield 16, 3, (30, 5, 2, 31, 0, 0), 0), (33, .iconst 0, 1, (0, 0, 0, 0, 0, 0), nI 0), (34, .iaload, 1, (0, 0, 0, 0, 0, 0), 0)]
theorem obX11_interestOf_17 : dcd RX11 cX11_interestOf 17 bX11_interestOf_17 = true := by decide +kernel
def bX11_interestOf_38 : List Op3 := [(38, .goto 4, 3, (42, 0, 0, 0, 0, 0), 0)]
theorem obX11_interestOf_38 : dcd RX11 cX11_interestOf 38 bX11_interestOf_38 = true := by decide +kernel
def bX11_interestOf_41 : List Op3 := [(41, .iconst 0, 1, (0, 0, 0, 0, 0, 0), nI 0), (42, .ireturn, 1, (0, 0, 0, 0, 0, 0), 0)]
theorem obX11_interestOf_41 : dcd RX11 cX11_interestOf 41 bX11_interestOf_41 = true := by decide +kernel
def bX11_interestOf_42 : List Op3 := [(42, .ireturn, 1, (0, 0, 0, 0, 0, 0), 0)]
theorem obX11_interestOf_42 : dcd RX11 cX11_interestOf 42 bX11_interestOf_42 = true := by decide +kernel
def bX11_interestByWeeks_0 : List Op3 := [(0, .aload_n 0, 1, (0, 0, 0, 0, 0, 0), 0), (1, .iload_n 1, 1, (1, 0, 0, 0, 0, 0), 0)]
theorem obX11_interestByWeeks_0 : dcd RX11 cX11_interestByWeeks 0 bX11_interestByWeeks_0 = true := by decide +kernel
def bX11_interestByWeeks_5 : List Op3 := [(5, .ireturn, 1, (0, 0, 0, 0, 0, 0), 0)]
theorem obX11_interestByWeeks_5 : dcd RX11 cX11_interestByWeeks 5 bX11_interestByWeeks_5 = true := by decide +kernel
def bX11_debtAfter_0 : List Op3 := [(0, .aload_n 0, 1, (0, 0, 0, 0, 0, 0), 0), (1, .iload_n 1, 1, (1, 0, 0, 0, 0, 0), 0), (2, .iconst 0, 1, (0, 0, 0, 0, 0, 0), nI 0)]
theorem obX11_debtAfter_0 : dcd RX11 cX11_debtAfter 0 bX11_debtAfter_0 = true := by decide +kernel
def bX11_debtAfter_6 : List Op3 := [(6, .istore_n 3, 1, (3, 0, 0, 0, 0, 0), 0), (7, .aload_n 0, 1, (0, 0, 0, 0, 0, 0), 0), (8, .iload_n 3, 1, (3, 0, 0, 0, 0, 0), 0), (9, .ifCond .ge 7, 3, (16, 0, 0, 0, 0, 0), 0), (12, .iconst 1, 1, (0, 0, 0, 0, 0, 0), nI 1), (13, .goto 18, 3, (31, 0, 0, 0, 0, 0), 0)]
theorem obX11_debtAfter_6 : dcd RX11 cX11_debtAfter 6 bX11_debtAfter_6 = true := by decide +kernel
def bX11_debtAfter_16 : List Op3 := [(16, .iload_n 2, 1, (2, 0, 0, 0, 0, 0), 0), (17, .iconst 0, 1, (0, 0, 0, 0, 0, 0), nI 0), (18, .bipush 90, 2, (0, 0, 0, 0, 0, 0), nI 90)]
theorem obX11_debtAfter_16 : dcd RX11 cX11_debtAfter 16 bX11_debtAfter_16 = true := by decide +kernel
def bX11_debtAfter_23 : List Op3 := [(23, .ifCond .eq 7, 3, (30, 0, 0, 0, 0, 0), 0), (26, .iconst 0, 1, (0, 0, 0, 0, 0, 0), nI 0), (27, .goto 4, 3, (31, 0, 0, 0, 0, 0), 0)]
theorem obX11_debtAfter_23 : dcd RX11 cX11_debtAfter 23 bX11_debtAfter_23 = true := by decide +kernel
def bX11_debtAfter_30 : List Op3 := [(30, .iconst 2, 1, (0, 0, 0, 0, 0, 0), nI 2), (31, .putfield 50, 3, (30, 0, 0, 0, 0, 0), 0), (34, .aload_n 0, 1, (0, 0, 0, 0, 0, 0), 0), (35, .getfield 50, 3, (30, 0, 0, 0, 0, 0), 0), (38, .ifCond .ne 30, 3, (68, 0, 0, 0, 0, 0), 0), (41, .aload_n 0, 1, (0, 0, 0, 0, 0, 0), 0), (42, .getfield 16, 3, (30, 5, 2, 31, 0, 0), 0), (45, .iload_n 3, 1, (3, 0, 0, 0, 0, 0), 0), (46, .iconst 4, 1, (0, 0, 0, 0, 0, 0), nI 4)]
theorem obX11_debtAfter_30 : dcd RX11 cX11_debtAfter 30 bX11_debtAfter_30 = true := by decide +kernel
def bX11_debtAfter_31 : List Op3 := [(31, .putfield 50, 3, (30, 0, 0, 0, 0, 0), 0), (34, .aload_n 0, 1, (0, 0, 0, 0, 0, 0), 0), (35, .getfield 50, 3, (30, 0, 0, 0, 0, 0), 0), (38, .ifCond .ne 30, 3, (68, 0, 0, 0, 0, 0), 0), (41, .aload_n 0, 1, (0, 0, 0, 0, 0, 0), 0), (42, .getfield 16, 3, (30, 5, 2, 31, 0, 0), 0), (45, .iload_n 3, 1, (3, 0, 0, 0, 0, 0), 0), (46, .iconst 4, 1, (0, 0, 0, 0, 0, 0), nI 4)]
theorem obX11_debtAfter_31 : dcd RX11 cX11_debtAfter 31 bX11_debtAfter_31 = true := by decide +kernel
def bX11_debtAfter_50 : List Op3 := [(50, .iaload, 1, (0, 0, 0, 0, 0, 0), 0), (51, .aload_n 0, 1, (0, 0, 0, 0, 0, 0), 0), (52, .iload_n 3, 1, (3, 0, 0, 0, 0, 0), 0), (53, .aload_n 0, 1, (0, 0, 0, 0, 0, 0), 0), (54, .getfield 16, 3, (30, 5, 2, 31, 0, 0), 0), (57, .iconst 0, 1, (0, 0, 0, 0, 0, 0), nI 0), (58, .iaload, 1, (0, 0, 0, 0, 0, 0), 0), (59, .iload_n 2, 1, (2, 0, 0, 0, 0, 0), 0), (60, .iadd, 1, (0, 0, 0, 0, 0, 0), 0)]
theorem obX11_debtAfter_50 : dcd RX11 cX11_debtAfter 50 bX11_debtAfter_50 = true := by decide +kernel
def bX11_debtAfter_64 : List Op3 := [(64, .iadd, 1, (0, 0, 0, 0, 0, 0), 0), (65, .goto 4, 3, (69, 0, 0, 0, 0, 0), 0)]
theorem obX11_debtAfter_64 : dcd RX11 cX11_debtAfter 64 bX11_debtAfter_64 = true := by decide +kernel
def bX11_debtAfter_68 : List Op3 := [(68, .iconst 0, 1, (0, 0, 0, 0, 0, 0), nI 0), (69, .ireturn, 1, (0, 0, 0, 0, 0, 0), 0)]
theorem obX11_debtAfter_68 : dcd RX11 cX11_debtAfter 68 bX11_debtAfter_68 = true := by decide +kernel
def bX11_debtAfter_69 : List Op3 := [(69, .ireturn, 1, (0, 0, 0, 0, 0, 0), 0)]
theorem obX11_debtAfter_69 : dcd RX11 cX11_debtAfter 69 bX11_debtAfter_69 = true := by decide +kernel
def bX11_cheapestWeekday_0 : List Op3 := [(0, .aload_n 0, 1, (0, 0, 0, 0, 0, 0), 0), (1, .iconst 0, 1, (0, 0, 0, 0, 0, 0), nI 0), (2, .putfield 50, 3, (30, 0, 0, 0, 0, 0), 0), (5, .aload_n 0, 1, (0, 0, 0, 0, 0, 0), 0), (6, .getfield 16, 3, (30, 5, 2, 31, 0, 0), 0), (9, .iconst 0, 1, (0, 0, 0, 0, 0, 0), nI 0), (10, .iaload, 1, (0, 0, 0, 0, 0, 0), 0), (11, .bipush 7, 2, (0, 0, 0, 0, 0, 0), nI 7), (13, .irem, 1, (0, 0, 0, 0, 0, 0), 0), (14, .istore_n 1, 1, (1, 0, 0, 0, 0, 0), 0), (15, .iconst 1, 1, (0, 0, 0, 0, 0, 0), nI 1), (16, .istore_n 2, 1, (2, 0, 0, 0, 0, 0), 0)]
theorem obX11_cheapestWeekday_0 : dcd RX11 cX11_cheapestWeekday 0 bX11_cheapestWeekday_0 = true := by decide +kernel
def bX11_cheapestWeekday_17 : List Op3 := [(17, .iload_n 2, 1, (2, 0, 0, 0, 0, 0), 0), (18, .bipush 7, 2, (0, 0, 0, 0, 0, 0), nI 7), (20, .if_icmp .ge 44, 3, (64, 0, 0, 0, 0, 0), 0), (23, .aload_n 0, 1, (0, 0, 0, 0, 0, 0), 0), (24, .getfield 16, 3, (30, 5, 2, 31, 0, 0), 0), (27, .iconst 0, 1, (0, 0, 0, 0, 0, 0), nI 0), (28, .iaload, 1, (0, 0, 0, 0, 0, 0), 0), (29, .iload_n 2, 1, (2, 0, 0, 0, 0, 0), 0), (30, .iadd, 1, (0, 0, 0, 0, 0, 0), 0), (31, .bipush 7, 2, (0, 0, 0, 0, 0, 0), nI 7), (33, .irem, 1, (0, 0, 0, 0, 0, 0), 0), (34, .istore_n 3, 1, (3, 0, 0, 0, 0, 0), 0), (35, .aload_n 0, 1, (0, 0, 0, 0, 0, 0), 0), (36, .getfield 16, 3, (30, 5, 2, 31, 0, 0), 0), (39, .bipush 9, 2, (0, 0, 0, 0, 0, 0), nI 9), (41, .iload_n 3, 1, (3, 0, 0, 0, 0, 0), 0), (42, .iadd, 1, (0, 0, 0, 0, 0, 0), 0), (43, .iaload, 1, (0, 0, 0, 0, 0, 0), 0), (44, .aload_n 0, 1, (0, 0, 0, 0, 0, 0), 0), (45, .getfield 16, 3, (30, 5, 2, 31, 0, 0), 0), (48, .bipush 9, 2, (0, 0, 0, 0, 0, 0), nI 9), (50, .iload_n 1, 1, (1, 0, 0, 0, 0, 0), 0), (51, .iadd, 1, (0, 0, 0, 0, 0, 0), 0), (52, .iaload, 1, (0, 0, 0, 0, 0, 0), 0), (53, .if_icmp .ge 5, 3, (58, 0, 0, 0, 0, 0), 0), (56, .iload_n 3, 1, (3, 0, 0, 0, 0, 0), 0), (57, .istore_n 1, 1, (1, 0, 0, 0, 0, 0), 0), (58, .iinc 2 1, 3, (2, 0, 0, 0, 0, 0), nI 1), (61, .goto (-44), 3, (17, 0, 0, 0, 0, 0), 0)]
theorem obX11_cheapestWeekday_17 : dcd RX11 cX11_cheapestWeekday 17 bX11_cheapestWeekday_17 = true := by decide +kernel
def bX11_cheapestWeekday_58 : List Op3 := [(58, .iinc 2 1, 3, (2, 0, 0, 0, 0, 0), nI 1), (61, .goto (-44), 3, (17, 0, 0, 0, 0, 0), 0)]
theorem obX11_cheapestWeekday_58 : dcd RX11 cX11_cheapestWeekday 58 bX11_cheapestWeekday_58 = true := by decide +kernel
def bX11_cheapestWeekday_64 : List Op3 := [(64, .iload_n 1, 1, (1, 0, 0, 0, 0, 0), 0), (65, .ireturn, 1, (0, 0, 0, 0, 0, 0), 0)]
theorem obX11_cheapestWeekday_64 : dcd RX11 cX11_cheapestWeekday 64 bX11_cheapestWeekday_64 = true := by decide +kernel
def bX11_mostMinutes_0 : List Op3 := [(0, .aload_n 0, 1, (0, 0, 0, 0, 0, 0), 0), (1, .iload_n 1, 1, (1, 0, 0, 0, 0, 0), 0), (2, .iconst 0, 1, (0, 0, 0, 0, 0, 0), nI 0), (3, .iconst 5, 1, (0, 0, 0, 0, 0, 0), nI 5)]
theorem obX11_mostMinutes_0 : dcd RX11 cX11_mostMinutes 0 bX11_mostMinutes_0 = true := by decide +kernel
def bX11_mostMinutes_7 : List Op3 := [(7, .ifCond .eq 18, 3, (25, 0, 0, 0, 0, 0), 0), (10, .iload_n 2, 1, (2, 0, 0, 0, 0, 0), 0), (11, .iconst 0, 1, (0, 0, 0, 0, 0, 0), nI 0), (12, .sipush 9999, 3, (0, 0, 0, 0, 0, 0), nI 9999)]
theorem obX11_mostMinutes_7 : dcd RX11 cX11_mostMinutes 7 bX11_mostMinutes_7 = true := by decide +kernel
def bX11_mostMinutes_18 : List Op3 := [(18, .ifCond .eq 7, 3, (25, 0, 0, 0, 0, 0), 0), (21, .iconst 0, 1, (0, 0, 0, 0, 0, 0), nI 0), (22, .goto 4, 3, (26, 0, 0, 0, 0, 0), 0)]
theorem obX11_mostMinutes_18 : dcd RX11 cX11_mostMinutes 18 bX11_mostMinutes_18 = true := by decide +kernel
def bX11_mostMinutes_25 : List Op3 := [(25, .iconst 1, 1, (0, 0, 0, 0, 0, 0), nI 1), (26, .putfield 50, 3, (30, 0, 0, 0, 0, 0), 0), (29, .aload_n 0, 1, (0, 0, 0, 0, 0, 0), 0), (30, .getfield 50, 3, (30, 0, 0, 0, 0, 0), 0), (33, .ifCond .eq 5, 3, (38, 0, 0, 0, 0, 0), 0), (36, .iconst 0, 1, (0, 0, 0, 0, 0, 0), nI 0), (37, .ireturn, 1, (0, 0, 0, 0, 0, 0), 0)]
theorem obX11_mostMinutes_25 : dcd RX11 cX11_mostMinutes 25 bX11_mostMinutes_25 = true := by decide +kernel
def bX11_mostMinutes_26 : List Op3 := [(26, .putfield 50, 3, (30, 0, 0, 0, 0, 0), 0), (29, .aload_n 0, 1, (0, 0, 0, 0, 0, 0), 0), (30, .getfield 50, 3, (30, 0, 0, 0, 0, 0), 0), (33, .ifCond .eq 5, 3, (38, 0, 0, 0, 0, 0), 0), (36, .iconst 0, 1, (0, 0, 0, 0, 0, 0), nI 0), (37, .ireturn, 1, (0, 0, 0, 0, 0, 0), 0)]
theorem obX11_mostMinutes_26 : dcd RX11 cX11_mostMinutes 26 bX11_mostMinutes_26 = true := by decide +kernel
def bX11_mostMinutes_38 : List Op3 := [(38, .iconst 0, 1, (0, 0, 0, 0, 0, 0), nI 0), (39, .istore_n 3, 1, (3, 0, 0, 0, 0, 0), 0), (40, .iconst 0, 1, (0, 0, 0, 0, 0, 0), nI 0), (41, .istore 4, 2, (4, 0, 0, 0, 0, 0), 0)]
theorem obX11_mostMinutes_38 : dcd RX11 cX11_mostMinutes 38 bX11_mostMinutes_38 = true := by decide +kernel
def bX11_mostMinutes_43 : List Op3 := [(43, .iload 4, 2, (4, 0, 0, 0, 0, 0), 0), (45, .iconst 1, 1, (0, 0, 0, 0, 0, 0), nI 1), (46, .aload_n 0, 1, (0, 0, 0, 0, 0, 0), 0), (47, .getfield 16, 3, (30, 5, 2, 31, 0, 0), 0), (50, .iconst 4, 1, (0, 0, 0, 0, 0, 0), nI 4), (51, .iaload, 1, (0, 0, 0, 0, 0, 0), 0), (52, .ishl, 1, (0, 0, 0, 0, 0, 0), 0), (53, .if_icmp .ge 132, 3, (185, 0, 0, 0, 0, 0), 0), (56, .iconst 0, 1, (0, 0, 0, 0, 0, 0), nI 0), (57, .istore 5, 2, (5, 0, 0, 0, 0, 0), 0), (59, .iconst 0, 1, (0, 0, 0, 0, 0, 0), nI 0), (60, .istore 6, 2, (6, 0, 0, 0, 0, 0), 0), (62, .iconst 1, 1, (0, 0, 0, 0, 0, 0), nI 1), (63, .istore 7, 2, (7, 0, 0, 0, 0, 0), 0), (65, .iconst 0, 1, (0, 0, 0, 0, 0, 0), nI 0), (66, .istore 8, 2, (8, 0, 0, 0, 0, 0), 0)]
theorem obX11_mostMinutes_43 : dcd RX11 cX11_mostMinutes 43 bX11_mostMinutes_43 = true := by decide +kernel
def bX11_mostMinutes_68 : List Op3 := [(68, .iload 8, 2, (8, 0, 0, 0, 0, 0), 0), (70, .aload_n 0, 1, (0, 0, 0, 0, 0, 0), 0), (71, .getfield 16, 3, (30, 5, 2, 31, 0, 0), 0), (74, .iconst 4, 1, (0, 0, 0, 0, 0, 0), nI 4), (75, .iaload, 1, (0, 0, 0, 0, 0, 0), 0), (76, .if_icmp .ge 83, 3, (159, 0, 0, 0, 0, 0), 0), (79, .iload 4, 2, (4, 0, 0, 0, 0, 0), 0), (81, .iload 8, 2, (8, 0, 0, 0, 0, 0), 0), (83, .ishr, 1, (0, 0, 0, 0, 0, 0), 0), (84, .iconst 1, 1, (0, 0, 0, 0, 0, 0), nI 1), (85, .iand, 1, (0, 0, 0, 0, 0, 0), 0), (86, .ifCond .ne 6, 3, (92, 0, 0, 0, 0, 0), 0), (89, .goto 64, 3, (153, 0, 0, 0, 0, 0), 0)]
theorem obX11_mostMinutes_68 : dcd RX11 cX11_mostMinutes 68 bX11_mostMinutes_68 = true := by decide +kernel
def bX11_mostMinutes_92 : List Op3 := [(92, .iload 7, 2, (7, 0, 0, 0, 0, 0), 0), (94, .aload_n 0, 1, (0, 0, 0, 0, 0, 0), 0), (95, .iload 8, 2, (8, 0, 0, 0, 0, 0), 0)]
theorem obX11_mostMinutes_92 : dcd RX11 cX11_mostMinutes 92 bX11_mostMinutes_92 = true := by decide +kernel
def bX11_mostMinutes_100 : List Op3 := [(100, .ifCond .ne 22, 3, (122, 0, 0, 0, 0, 0), 0), (103, .aload_n 0, 1, (0, 0, 0, 0, 0, 0), 0), (104, .getfield 16, 3, (30, 5, 2, 31, 0, 0), 0), (107, .iload 8, 2, (8, 0, 0, 0, 0, 0), 0), (109, .iconst 2, 1, (0, 0, 0, 0, 0, 0), nI 2)]
theorem obX11_mostMinutes_100 : dcd RX11 cX11_mostMinutes 100 bX11_mostMinutes_100 = true := by decide +kernel
def bX11_mostMinutes_113 : List Op3 := [(113, .iaload, 1, (0, 0, 0, 0, 0, 0), 0), (114, .iload_n 1, 1, (1, 0, 0, 0, 0, 0), 0), (115, .if_icmp .ne 7, 3, (122, 0, 0, 0, 0, 0), 0), (118, .iconst 1, 1, (0, 0, 0, 0, 0, 0), nI 1), (119, .goto 4, 3, (123, 0, 0, 0, 0, 0), 0)]
theorem obX11_mostMinutes_113 : dcd RX11 cX11_mostMinutes 113 bX11_mostMinutes_113 = true := by decide +kernel
def bX11_mostMinutes_122 : List Op3 := [(122, .iconst 0, 1, (0, 0, 0, 0, 0, 0), nI 0), (123, .iand, 1, (0, 0, 0, 0, 0, 0), 0), (124, .istore 7, 2, (7, 0, 0, 0, 0, 0), 0), (126, .iload 5, 2, (5, 0, 0, 0, 0, 0), 0), (128, .aload_n 0, 1, (0, 0, 0, 0, 0, 0), 0), (129, .getfield 16, 3, (30, 5, 2, 31, 0, 0), 0), (132, .iload 8, 2, (8, 0, 0, 0, 0, 0), 0), (134, .iconst 3, 1, (0, 0, 0, 0, 0, 0), nI 3)]
theorem obX11_mostMinutes_122 : dcd RX11 cX11_mostMinutes 122 bX11_mostMinutes_122 = true := by decide +kernel
def bX11_mostMinutes_123 : List Op3 := [(123, .iand, 1, (0, 0, 0, 0, 0, 0), 0), (124, .istore 7, 2, (7, 0, 0, 0, 0, 0), 0), (126, .iload 5, 2, (5, 0, 0, 0, 0, 0), 0), (128, .aload_n 0, 1, (0, 0, 0, 0, 0, 0), 0), (129, .getfield 16, 3, (30, 5, 2, 31, 0, 0), 0), (132, .iload 8, 2, (8, 0, 0, 0, 0, 0), 0), (134, .iconst 3, 1, (0, 0, 0, 0, 0, 0), nI 3)]
theorem obX11_mostMinutes_123 : dcd RX11 cX11_mostMinutes 123 bX11_mostMinutes_123 = true := by decide +kernel
def bX11_mostMinutes_138 : List Op3 := [(138, .iaload, 1, (0, 0, 0, 0, 0, 0), 0), (139, .iadd, 1, (0, 0, 0, 0, 0, 0), 0), (140, .istore 5, 2, (5, 0, 0, 0, 0, 0), 0), (142, .iload 6, 2, (6, 0, 0, 0, 0, 0), 0), (144, .aload_n 0, 1, (0, 0, 0, 0, 0, 0), 0), (145, .iload 8, 2, (8, 0, 0, 0, 0, 0), 0)]
theorem obX11_mostMinutes_138 : dcd RX11 cX11_mostMinutes 138 bX11_mostMinutes_138 = true := by decide +kernel
def bX11_mostMinutes_150 : List Op3 := [(150, .iadd, 1, (0, 0, 0, 0, 0, 0), 0), (151, .istore 6, 2, (6, 0, 0, 0, 0, 0), 0), (153, .iinc 8 1, 3, (8, 0, 0, 0, 0, 0), nI 1), (156, .goto (-88), 3, (68, 0, 0, 0, 0, 0), 0)]
theorem obX11_mostMinutes_150 : dcd RX11 cX11_mostMinutes 150 bX11_mostMinutes_150 = true := by decide +kernel
def bX11_mostMinutes_153 : List Op3 := [(153, .iinc 8 1, 3, (8, 0, 0, 0, 0, 0), nI 1), (156, .goto (-88), 3, (68, 0, 0, 0, 0, 0), 0)]
theorem obX11_mostMinutes_153 : dcd RX11 cX11_mostMinutes 153 bX11_mostMinutes_153 = true := by decide +kernel
def bX11_mostMinutes_159 : List Op3 := [(159, .iload 7, 2, (7, 0, 0, 0, 0, 0), 0), (161, .ifCond .eq 18, 3, (179, 0, 0, 0, 0, 0), 0), (164, .iload 6, 2, (6, 0, 0, 0, 0, 0), 0), (166, .iload_n 2, 1, (2, 0, 0, 0, 0, 0), 0), (167, .if_icmp .gt 12, 3, (179, 0, 0, 0, 0, 0), 0), (170, .iload 5, 2, (5, 0, 0, 0, 0, 0), 0), (172, .iload_n 3, 1, (3, 0, 0, 0, 0, 0), 0), (173, .if_icmp .le 6, 3, (179, 0, 0, 0, 0, 0), 0), (176, .iload 5, 2, (5, 0, 0, 0, 0, 0), 0), (178, .istore_n 3, 1, (3, 0, 0, 0, 0, 0), 0), (179, .iinc 4 1, 3, (4, 0, 0, 0, 0, 0), nI 1), (182, .goto (-139), 3, (43, 0, 0, 0, 0, 0), 0)]
theorem obX11_mostMinutes_159 : dcd RX11 cX11_mostMinutes 159 bX11_mostMinutes_159 = true := by decide +kernel
def bX11_mostMinutes_179 : List Op3 := [(179, .iinc 4 1, 3, (4, 0, 0, 0, 0, 0), nI 1), (182, .goto (-139), 3, (43, 0, 0, 0, 0, 0), 0)]
theorem obX11_mostMinutes_179 : dcd RX11 cX11_mostMinutes 179 bX11_mostMinutes_179 = true := by decide +kernel
def bX11_mostMinutes_185 : List Op3 := [(185, .iload_n 3, 1, (3, 0, 0, 0, 0, 0), 0), (186, .ireturn, 1, (0, 0, 0, 0, 0, 0), 0)]
theorem obX11_mostMinutes_185 : dcd RX11 cX11_mostMinutes 185 bX11_mostMinutes_185 = true := by decide +kernel
def bX11_mostMinutesByTable_0 : List Op3 := [(0, .aload_n 0, 1, (0, 0, 0, 0, 0, 0), 0), (1, .iload_n 1, 1, (1, 0, 0, 0, 0, 0), 0), (2, .iload_n 2, 1, (2, 0, 0, 0, 0, 0), 0)]
theorem obX11_mostMinutesByTable_0 : dcd RX11 cX11_mostMinutesByTable 0 bX11_mostMinutesByTable_0 = true := by decide +kernel
def bX11_mostMinutesByTable_6 : List Op3 := [(6, .ireturn, 1, (0, 0, 0, 0, 0, 0), 0)]
theorem obX11_mostMinutesByTable_6 : dcd RX11 cX11_mostMinutesByTable 6 bX11_mostMinutesByTable_6 = true := by decide +kernel
def bX11_debtOf_0 : List Op3 := [(0, .aload_n 0, 1, (0, 0, 0, 0, 0, 0), 0), (1, .iload_n 1, 1, (1, 0, 0, 0, 0, 0), 0), (2, .iconst 0, 1, (0, 0, 0, 0, 0, 0), nI 0), (3, .iconst 5, 1, (0, 0, 0, 0, 0, 0), nI 5)]
theorem obX11_debtOf_0 : dcd RX11 cX11_debtOf 0 bX11_debtOf_0 = true := by decide +kernel
def bX11_debtOf_7 : List Op3 := [(7, .ifCond .eq 7, 3, (14, 0, 0, 0, 0, 0), 0), (10, .iconst 0, 1, (0, 0, 0, 0, 0, 0), nI 0), (11, .goto 4, 3, (15, 0, 0, 0, 0, 0), 0)]
theorem obX11_debtOf_7 : dcd RX11 cX11_debtOf 7 bX11_debtOf_7 = true := by decide +kernel
def bX11_debtOf_14 : List Op3 := [(14, .iconst 1, 1, (0, 0, 0, 0, 0, 0), nI 1), (15, .putfield 50, 3, (30, 0, 0, 0, 0, 0), 0), (18, .iconst 0, 1, (0, 0, 0, 0, 0, 0), nI 0), (19, .istore_n 2, 1, (2, 0, 0, 0, 0, 0), 0), (20, .iconst 0, 1, (0, 0, 0, 0, 0, 0), nI 0), (21, .istore_n 3, 1, (3, 0, 0, 0, 0, 0), 0)]
theorem obX11_debtOf_14 : dcd RX11 cX11_debtOf 14 bX11_debtOf_14 = true := by decide +kernel
def bX11_debtOf_15 : List Op3 := [(15, .putfield 50, 3, (30, 0, 0, 0, 0, 0), 0), (18, .iconst 0, 1, (0, 0, 0, 0, 0, 0), nI 0), (19, .istore_n 2, 1, (2, 0, 0, 0, 0, 0), 0), (20, .iconst 0, 1, (0, 0, 0, 0, 0, 0), nI 0), (21, .istore_n 3, 1, (3, 0, 0, 0, 0, 0), 0)]
theorem obX11_debtOf_15 : dcd RX11 cX11_debtOf 15 bX11_debtOf_15 = true := by decide +kernel
def bX11_debtOf_22 : List Op3 := [(22, .iload_n 3, 1, (3, 0, 0, 0, 0, 0), 0), (23, .aload_n 0, 1, (0, 0, 0, 0, 0, 0), 0), (24, .getfield 16, 3, (30, 5, 2, 31, 0, 0), 0), (27, .iconst 4, 1, (0, 0, 0, 0, 0, 0), nI 4), (28, .iaload, 1, (0, 0, 0, 0, 0, 0), 0), (29, .if_icmp .ge 43, 3, (72, 0, 0, 0, 0, 0), 0), (32, .iload_n 2, 1, (2, 0, 0, 0, 0, 0), 0), (33, .aload_n 0, 1, (0, 0, 0, 0, 0, 0), 0), (34, .iload_n 3, 1, (3, 0, 0, 0, 0, 0), 0)]
theorem obX11_debtOf_22 : dcd RX11 cX11_debtOf 22 bX11_debtOf_22 = true := by decide +kernel
def bX11_debtOf_38 : List Op3 := [(38, .ifCond .ne 25, 3, (63, 0, 0, 0, 0, 0), 0), (41, .aload_n 0, 1, (0, 0, 0, 0, 0, 0), 0), (42, .getfield 16, 3, (30, 5, 2, 31, 0, 0), 0), (45, .iload_n 3, 1, (3, 0, 0, 0, 0, 0), 0), (46, .iconst 2, 1, (0, 0, 0, 0, 0, 0), nI 2)]
theorem obX11_debtOf_38 : dcd RX11 cX11_debtOf 38 bX11_debtOf_38 = true := by decide +kernel
def bX11_debtOf_50 : List Op3 := [(50, .iaload, 1, (0, 0, 0, 0, 0, 0), 0), (51, .iload_n 1, 1, (1, 0, 0, 0, 0, 0), 0), (52, .if_icmp .ne 11, 3, (63, 0, 0, 0, 0, 0), 0), (55, .aload_n 0, 1, (0, 0, 0, 0, 0, 0), 0), (56, .iload_n 3, 1, (3, 0, 0, 0, 0, 0), 0)]
theorem obX11_debtOf_50 : dcd RX11 cX11_debtOf 50 bX11_debtOf_50 = true := by decide +kernel
def bX11_debtOf_60 : List Op3 := [(60, .goto 4, 3, (64, 0, 0, 0, 0, 0), 0)]
theorem obX11_debtOf_60 : dcd RX11 cX11_debtOf 60 bX11_debtOf_60 = true := by decide +kernel
def bX11_debtOf_63 : List Op3 := [(63, .iconst 0, 1, (0, 0, 0, 0, 0, 0), nI 0), (64, .iadd, 1, (0, 0, 0, 0, 0, 0), 0), (65, .istore_n 2, 1, (2, 0, 0, 0, 0, 0), 0), (66, .iinc 3 1, 3, (3, 0, 0, 0, 0, 0), nI 1), (69, .goto (-47), 3, (22, 0, 0, 0, 0, 0), 0)]
theorem obX11_debtOf_63 : dcd RX11 cX11_debtOf 63 bX11_debtOf_63 = true := by decide +kernel
def bX11_debtOf_64 : List Op3 := [(64, .iadd, 1, (0, 0, 0, 0, 0, 0), 0), (65, .istore_n 2, 1, (2, 0, 0, 0, 0, 0), 0), (66, .iinc 3 1, 3, (3, 0, 0, 0, 0, 0), nI 1), (69, .goto (-47), 3, (22, 0, 0, 0, 0, 0), 0)]
theorem obX11_debtOf_64 : dcd RX11 cX11_debtOf 64 bX11_debtOf_64 = true := by decide +kernel
def bX11_debtOf_72 : List Op3 := [(72, .iload_n 2, 1, (2, 0, 0, 0, 0, 0), 0), (73, .ireturn, 1, (0, 0, 0, 0, 0, 0), 0)]
theorem obX11_debtOf_72 : dcd RX11 cX11_debtOf 72 bX11_debtOf_72 = true := by decide +kernel
def bX11_daysToForfeit_0 : List Op3 := [(0, .iconst (-1), 1, (0, 0, 0, 0, 0, 0), -1), (1, .istore_n 1, 1, (1, 0, 0, 0, 0, 0), 0), (2, .iconst 0, 1, (0, 0, 0, 0, 0, 0), nI 0), (3, .istore_n 2, 1, (2, 0, 0, 0, 0, 0), 0)]
theorem obX11_daysToForfeit_0 : dcd RX11 cX11_daysToForfeit 0 bX11_daysToForfeit_0 = true := by decide +kernel
def bX11_daysToForfeit_4 : List Op3 := [(4, .iload_n 2, 1, (2, 0, 0, 0, 0, 0), 0), (5, .aload_n 0, 1, (0, 0, 0, 0, 0, 0), 0), (6, .getfield 16, 3, (30, 5, 2, 31, 0, 0), 0), (9, .iconst 4, 1, (0, 0, 0, 0, 0, 0), nI 4), (10, .iaload, 1, (0, 0, 0, 0, 0, 0), 0), (11, .if_icmp .ge 49, 3, (60, 0, 0, 0, 0, 0), 0), (14, .aload_n 0, 1, (0, 0, 0, 0, 0, 0), 0), (15, .getfield 16, 3, (30, 5, 2, 31, 0, 0), 0), (18, .iload_n 2, 1, (2, 0, 0, 0, 0, 0), 0), (19, .bipush 6, 2, (0, 0, 0, 0, 0, 0), nI 6)]
theorem obX11_daysToForfeit_4 : dcd RX11 cX11_daysToForfeit 4 bX11_daysToForfeit_4 = true := by decide +kernel
def bX11_daysToForfeit_24 : List Op3 := [(24, .iaload, 1, (0, 0, 0, 0, 0, 0), 0), (25, .iconst 1, 1, (0, 0, 0, 0, 0, 0), nI 1), (26, .iadd, 1, (0, 0, 0, 0, 0, 0), 0), (27, .aload_n 0, 1, (0, 0, 0, 0, 0, 0), 0), (28, .getfield 16, 3, (30, 5, 2, 31, 0, 0), 0), (31, .iconst 0, 1, (0, 0, 0, 0, 0, 0), nI 0), (32, .iaload, 1, (0, 0, 0, 0, 0, 0), 0), (33, .isub, 1, (0, 0, 0, 0, 0, 0), 0), (34, .istore_n 3, 1, (3, 0, 0, 0, 0, 0), 0), (35, .aload_n 0, 1, (0, 0, 0, 0, 0, 0), 0), (36, .iload_n 2, 1, (2, 0, 0, 0, 0, 0), 0)]
theorem obX11_daysToForfeit_24 : dcd RX11 cX11_daysToForfeit 24 bX11_daysToForfeit_24 = true := by decide +kernel
def bX11_daysToForfeit_40 : List Op3 := [(40, .ifCond .ne 14, 3, (54, 0, 0, 0, 0, 0), 0), (43, .iload_n 1, 1, (1, 0, 0, 0, 0, 0), 0), (44, .ifCond .lt 8, 3, (52, 0, 0, 0, 0, 0), 0), (47, .iload_n 3, 1, (3, 0, 0, 0, 0, 0), 0), (48, .iload_n 1, 1, (1, 0, 0, 0, 0, 0), 0), (49, .if_icmp .ge 5, 3, (54, 0, 0, 0, 0, 0), 0), (52, .iload_n 3, 1, (3, 0, 0, 0, 0, 0), 0), (53, .istore_n 1, 1, (1, 0, 0, 0, 0, 0), 0), (54, .iinc 2 1, 3, (2, 0, 0, 0, 0, 0), nI 1), (57, .goto (-53), 3, (4, 0, 0, 0, 0, 0), 0)]
theorem obX11_daysToForfeit_40 : dcd RX11 cX11_daysToForfeit 40 bX11_daysToForfeit_40 = true := by decide +kernel
def bX11_daysToForfeit_52 : List Op3 := [(52, .iload_n 3, 1, (3, 0, 0, 0, 0, 0), 0), (53, .istore_n 1, 1, (1, 0, 0, 0, 0, 0), 0), (54, .iinc 2 1, 3, (2, 0, 0, 0, 0, 0), nI 1), (57, .goto (-53), 3, (4, 0, 0, 0, 0, 0), 0)]
theorem obX11_daysToForfeit_52 : dcd RX11 cX11_daysToForfeit 52 bX11_daysToForfeit_52 = true := by decide +kernel
def bX11_daysToForfeit_54 : List Op3 := [(54, .iinc 2 1, 3, (2, 0, 0, 0, 0, 0), nI 1), (57, .goto (-53), 3, (4, 0, 0, 0, 0, 0), 0)]
theorem obX11_daysToForfeit_54 : dcd RX11 cX11_daysToForfeit 54 bX11_daysToForfeit_54 = true := by decide +kernel
def bX11_daysToForfeit_60 : List Op3 := [(60, .aload_n 0, 1, (0, 0, 0, 0, 0, 0), 0), (61, .iload_n 1, 1, (1, 0, 0, 0, 0, 0), 0), (62, .ifCond .ge 7, 3, (69, 0, 0, 0, 0, 0), 0), (65, .iconst 1, 1, (0, 0, 0, 0, 0, 0), nI 1), (66, .goto 4, 3, (70, 0, 0, 0, 0, 0), 0)]
theorem obX11_daysToForfeit_60 : dcd RX11 cX11_daysToForfeit 60 bX11_daysToForfeit_60 = true := by decide +kernel
def bX11_daysToForfeit_69 : List Op3 := [(69, .iconst 0, 1, (0, 0, 0, 0, 0, 0), nI 0), (70, .putfield 50, 3, (30, 0, 0, 0, 0, 0), 0), (73, .aload_n 0, 1, (0, 0, 0, 0, 0, 0), 0), (74, .getfield 50, 3, (30, 0, 0, 0, 0, 0), 0), (77, .ifCond .ne 7, 3, (84, 0, 0, 0, 0, 0), 0), (80, .iload_n 1, 1, (1, 0, 0, 0, 0, 0), 0), (81, .goto 4, 3, (85, 0, 0, 0, 0, 0), 0)]
theorem obX11_daysToForfeit_69 : dcd RX11 cX11_daysToForfeit 69 bX11_daysToForfeit_69 = true := by decide +kernel
def bX11_daysToForfeit_70 : List Op3 := [(70, .putfield 50, 3, (30, 0, 0, 0, 0, 0), 0), (73, .aload_n 0, 1, (0, 0, 0, 0, 0, 0), 0), (74, .getfield 50, 3, (30, 0, 0, 0, 0, 0), 0), (77, .ifCond .ne 7, 3, (84, 0, 0, 0, 0, 0), 0), (80, .iload_n 1, 1, (1, 0, 0, 0, 0, 0), 0), (81, .goto 4, 3, (85, 0, 0, 0, 0, 0), 0)]
theorem obX11_daysToForfeit_70 : dcd RX11 cX11_daysToForfeit 70 bX11_daysToForfeit_70 = true := by decide +kernel
def bX11_daysToForfeit_84 : List Op3 := [(84, .iconst 0, 1, (0, 0, 0, 0, 0, 0), nI 0), (85, .ireturn, 1, (0, 0, 0, 0, 0, 0), 0)]
theorem obX11_daysToForfeit_84 : dcd RX11 cX11_daysToForfeit 84 bX11_daysToForfeit_84 = true := by decide +kernel
def bX11_daysToForfeit_85 : List Op3 := [(85, .ireturn, 1, (0, 0, 0, 0, 0, 0), 0)]
theorem obX11_daysToForfeit_85 : dcd RX11 cX11_daysToForfeit 85 bX11_daysToForfeit_85 = true := by decide +kernel
def bX11_offer_0 : List Op3 := [(0, .aload_n 0, 1, (0, 0, 0, 0, 0, 0), 0), (1, .getfield 16, 3, (30, 5, 2, 31, 0, 0), 0), (4, .iload_n 1, 1, (1, 0, 0, 0, 0, 0), 0), (5, .bipush 7, 2, (0, 0, 0, 0, 0, 0), nI 7), (7, .iload_n 2, 1, (2, 0, 0, 0, 0, 0), 0), (8, .iadd, 1, (0, 0, 0, 0, 0, 0), 0)]
theorem obX11_offer_0 : dcd RX11 cX11_offer 0 bX11_offer_0 = true := by decide +kernel
def bX11_offer_12 : List Op3 := [(12, .iaload, 1, (0, 0, 0, 0, 0, 0), 0), (13, .ireturn, 1, (0, 0, 0, 0, 0, 0), 0)]
theorem obX11_offer_12 : dcd RX11 cX11_offer 12 bX11_offer_12 = true := by decide +kernel
def bX11_bids_0 : List Op3 := [(0, .iload_n 1, 1, (1, 0, 0, 0, 0, 0), 0), (1, .ifCond .ge 9, 3, (10, 0, 0, 0, 0, 0), 0), (4, .aload_n 0, 1, (0, 0, 0, 0, 0, 0), 0), (5, .iconst 1, 1, (0, 0, 0, 0, 0, 0), nI 1)]
theorem obX11_bids_0 : dcd RX11 cX11_bids 0 bX11_bids_0 = true := by decide +kernel
def bX11_bids_9 : List Op3 := [(9, .ireturn, 1, (0, 0, 0, 0, 0, 0), 0)]
theorem obX11_bids_9 : dcd RX11 cX11_bids 9 bX11_bids_9 = true := by decide +kernel
def bX11_bids_10 : List Op3 := [(10, .iload_n 2, 1, (2, 0, 0, 0, 0, 0), 0), (11, .iconst 0, 1, (0, 0, 0, 0, 0, 0), nI 0), (12, .iconst 4, 1, (0, 0, 0, 0, 0, 0), nI 4)]
theorem obX11_bids_10 : dcd RX11 cX11_bids 10 bX11_bids_10 = true := by decide +kernel
def bX11_bids_16 : List Op3 := [(16, .ifCond .eq 14, 3, (30, 0, 0, 0, 0, 0), 0), (19, .iload_n 3, 1, (3, 0, 0, 0, 0, 0), 0), (20, .iconst 1, 1, (0, 0, 0, 0, 0, 0), nI 1), (21, .sipush 999, 3, (0, 0, 0, 0, 0, 0), nI 999)]
theorem obX11_bids_16 : dcd RX11 cX11_bids 16 bX11_bids_16 = true := by decide +kernel
def bX11_bids_27 : List Op3 := [(27, .ifCond .ne 9, 3, (36, 0, 0, 0, 0, 0), 0), (30, .aload_n 0, 1, (0, 0, 0, 0, 0, 0), 0), (31, .iconst 2, 1, (0, 0, 0, 0, 0, 0), nI 2)]
theorem obX11_bids_27 : dcd RX11 cX11_bids 27 bX11_bids_27 = true := by decide +kernel
def bX11_bids_30 : List Op3 := [(30, .aload_n 0, 1, (0, 0, 0, 0, 0, 0), 0), (31, .iconst 2, 1, (0, 0, 0, 0, 0, 0), nI 2)]
theorem obX11_bids_30 : dcd RX11 cX11_bids 30 bX11_bids_30 = true := by decide +kernel
def bX11_bids_35 : List Op3 := [(35, .ireturn, 1, (0, 0, 0, 0, 0, 0), 0)]
theorem obX11_bids_35 : dcd RX11 cX11_bids 35 bX11_bids_35 = true := by decide +kernel
def bX11_bids_36 : List Op3 := [(36, .aload_n 0, 1, (0, 0, 0, 0, 0, 0), 0), (37, .iload_n 1, 1, (1, 0, 0, 0, 0, 0), 0), (38, .iload_n 2, 1, (2, 0, 0, 0, 0, 0), 0)]
theorem obX11_bids_36 : dcd RX11 cX11_bids 36 bX11_bids_36 = true := by decide +kernel
def bX11_bids_42 : List Op3 := [(42, .istore 4, 2, (4, 0, 0, 0, 0, 0), 0), (44, .aload_n 0, 1, (0, 0, 0, 0, 0, 0), 0), (45, .getfield 16, 3, (30, 5, 2, 31, 0, 0), 0), (48, .iload_n 1, 1, (1, 0, 0, 0, 0, 0), 0), (49, .bipush 7, 2, (0, 0, 0, 0, 0, 0), nI 7), (51, .iload_n 2, 1, (2, 0, 0, 0, 0, 0), 0), (52, .iadd, 1, (0, 0, 0, 0, 0, 0), 0)]
theorem obX11_bids_42 : dcd RX11 cX11_bids 42 bX11_bids_42 = true := by decide +kernel
def bX11_bids_56 : List Op3 := [(56, .iload_n 3, 1, (3, 0, 0, 0, 0, 0), 0), (57, .iastore, 1, (0, 0, 0, 0, 0, 0), 0), (58, .iload 4, 2, (4, 0, 0, 0, 0, 0), 0), (60, .ireturn, 1, (0, 0, 0, 0, 0, 0), 0)]
theorem obX11_bids_56 : dcd RX11 cX11_bids 56 bX11_bids_56 = true := by decide +kernel
def bX11_bid_0 : List Op3 := [(0, .aload_n 0, 1, (0, 0, 0, 0, 0, 0), 0)]
theorem obX11_bid_0 : dcd RX11 cX11_bid 0 bX11_bid_0 = true := by decide +kernel
def bX11_bid_4 : List Op3 := [(4, .aload_n 0, 1, (0, 0, 0, 0, 0, 0), 0), (5, .aload_n 0, 1, (0, 0, 0, 0, 0, 0), 0), (6, .aload_n 0, 1, (0, 0, 0, 0, 0, 0), 0), (7, .iload_n 1, 1, (1, 0, 0, 0, 0, 0), 0), (8, .iconst 1, 1, (0, 0, 0, 0, 0, 0), nI 1)]
theorem obX11_bid_4 : dcd RX11 cX11_bid 4 bX11_bid_4 = true := by decide +kernel
def bX11_bid_12 : List Op3 := [(12, .iload_n 2, 1, (2, 0, 0, 0, 0, 0), 0), (13, .iload_n 3, 1, (3, 0, 0, 0, 0, 0), 0)]
theorem obX11_bid_12 : dcd RX11 cX11_bid 12 bX11_bid_12 = true := by decide +kernel
def bX11_bid_20 : List Op3 := [(20, .ireturn, 1, (0, 0, 0, 0, 0, 0), 0)]
theorem obX11_bid_20 : dcd RX11 cX11_bid 20 bX11_bid_20 = true := by decide +kernel
def bX11_buyer_0 : List Op3 := [(0, .iconst (-1), 1, (0, 0, 0, 0, 0, 0), -1), (1, .istore_n 2, 1, (2, 0, 0, 0, 0, 0), 0), (2, .iconst 0, 1, (0, 0, 0, 0, 0, 0), nI 0), (3, .istore_n 3, 1, (3, 0, 0, 0, 0, 0), 0)]
theorem obX11_buyer_0 : dcd RX11 cX11_buyer 0 bX11_buyer_0 = true := by decide +kernel
def bX11_buyer_4 : List Op3 := [(4, .iload_n 3, 1, (3, 0, 0, 0, 0, 0), 0), (5, .iconst 5, 1, (0, 0, 0, 0, 0, 0), nI 5), (6, .if_icmp .ge 49, 3, (55, 0, 0, 0, 0, 0), 0), (9, .aload_n 0, 1, (0, 0, 0, 0, 0, 0), 0), (10, .iload_n 1, 1, (1, 0, 0, 0, 0, 0), 0), (11, .iload_n 3, 1, (3, 0, 0, 0, 0, 0), 0)]
theorem obX11_buyer_4 : dcd RX11 cX11_buyer 4 bX11_buyer_4 = true := by decide +kernel
def bX11_buyer_15 : List Op3 := [(15, .aload_n 0, 1, (0, 0, 0, 0, 0, 0), 0), (16, .getfield 16, 3, (30, 5, 2, 31, 0, 0), 0), (19, .iload_n 1, 1, (1, 0, 0, 0, 0, 0), 0), (20, .iconst 4, 1, (0, 0, 0, 0, 0, 0), nI 4)]
theorem obX11_buyer_15 : dcd RX11 cX11_buyer 15 bX11_buyer_15 = true := by decide +kernel
def bX11_buyer_24 : List Op3 := [(24, .iaload, 1, (0, 0, 0, 0, 0, 0), 0), (25, .if_icmp .lt 24, 3, (49, 0, 0, 0, 0, 0), 0), (28, .iload_n 2, 1, (2, 0, 0, 0, 0, 0), 0), (29, .ifCond .lt 18, 3, (47, 0, 0, 0, 0, 0), 0), (32, .aload_n 0, 1, (0, 0, 0, 0, 0, 0), 0), (33, .iload_n 1, 1, (1, 0, 0, 0, 0, 0), 0), (34, .iload_n 3, 1, (3, 0, 0, 0, 0, 0), 0)]
theorem obX11_buyer_24 : dcd RX11 cX11_buyer 24 bX11_buyer_24 = true := by decide +kernel
def bX11_buyer_38 : List Op3 := [(38, .aload_n 0, 1, (0, 0, 0, 0, 0, 0), 0), (39, .iload_n 1, 1, (1, 0, 0, 0, 0, 0), 0), (40, .iload_n 2, 1, (2, 0, 0, 0, 0, 0), 0)]
theorem obX11_buyer_38 : dcd RX11 cX11_buyer 38 bX11_buyer_38 = true := by decide +kernel
def bX11_buyer_44 : List Op3 := [(44, .if_icmp .le 5, 3, (49, 0, 0, 0, 0, 0), 0), (47, .iload_n 3, 1, (3, 0, 0, 0, 0, 0), 0), (48, .istore_n 2, 1, (2, 0, 0, 0, 0, 0), 0), (49, .iinc 3 1, 3, (3, 0, 0, 0, 0, 0), nI 1), (52, .goto (-48), 3, (4, 0, 0, 0, 0, 0), 0)]
theorem obX11_buyer_44 : dcd RX11 cX11_buyer 44 bX11_buyer_44 = true := by decide +kernel
def bX11_buyer_47 : List Op3 := [(47, .iload_n 3, 1, (3, 0, 0, 0, 0, 0), 0), (48, .istore_n 2, 1, (2, 0, 0, 0, 0, 0), 0), (49, .iinc 3 1, 3, (3, 0, 0, 0, 0, 0), nI 1), (52, .goto (-48), 3, (4, 0, 0, 0, 0, 0), 0)]
theorem obX11_buyer_47 : dcd RX11 cX11_buyer 47 bX11_buyer_47 = true := by decide +kernel
def bX11_buyer_49 : List Op3 := [(49, .iinc 3 1, 3, (3, 0, 0, 0, 0, 0), nI 1), (52, .goto (-48), 3, (4, 0, 0, 0, 0, 0), 0)]
theorem obX11_buyer_49 : dcd RX11 cX11_buyer 49 bX11_buyer_49 = true := by decide +kernel
def bX11_buyer_55 : List Op3 := [(55, .iload_n 2, 1, (2, 0, 0, 0, 0, 0), 0), (56, .ireturn, 1, (0, 0, 0, 0, 0, 0), 0)]
theorem obX11_buyer_55 : dcd RX11 cX11_buyer 55 bX11_buyer_55 = true := by decide +kernel
def bX11_paid_0 : List Op3 := [(0, .aload_n 0, 1, (0, 0, 0, 0, 0, 0), 0), (1, .getfield 16, 3, (30, 5, 2, 31, 0, 0), 0), (4, .iload_n 1, 1, (1, 0, 0, 0, 0, 0), 0), (5, .iconst 4, 1, (0, 0, 0, 0, 0, 0), nI 4)]
theorem obX11_paid_0 : dcd RX11 cX11_paid 0 bX11_paid_0 = true := by decide +kernel
def bX11_paid_9 : List Op3 := [(9, .iaload, 1, (0, 0, 0, 0, 0, 0), 0), (10, .istore_n 3, 1, (3, 0, 0, 0, 0, 0), 0), (11, .iconst 0, 1, (0, 0, 0, 0, 0, 0), nI 0), (12, .istore 4, 2, (4, 0, 0, 0, 0, 0), 0)]
theorem obX11_paid_9 : dcd RX11 cX11_paid 9 bX11_paid_9 = true := by decide +kernel
def bX11_paid_14 : List Op3 := [(14, .iload 4, 2, (4, 0, 0, 0, 0, 0), 0), (16, .iconst 5, 1, (0, 0, 0, 0, 0, 0), nI 5), (17, .if_icmp .ge 34, 3, (51, 0, 0, 0, 0, 0), 0), (20, .iload 4, 2, (4, 0, 0, 0, 0, 0), 0), (22, .iload_n 2, 1, (2, 0, 0, 0, 0, 0), 0), (23, .if_icmp .eq 22, 3, (45, 0, 0, 0, 0, 0), 0), (26, .aload_n 0, 1, (0, 0, 0, 0, 0, 0), 0), (27, .iload_n 1, 1, (1, 0, 0, 0, 0, 0), 0), (28, .iload 4, 2, (4, 0, 0, 0, 0, 0), 0)]
theorem obX11_paid_14 : dcd RX11 cX11_paid 14 bX11_paid_14 = true := by decide +kernel
def bX11_paid_33 : List Op3 := [(33, .iload_n 3, 1, (3, 0, 0, 0, 0, 0), 0), (34, .if_icmp .le 11, 3, (45, 0, 0, 0, 0, 0), 0), (37, .aload_n 0, 1, (0, 0, 0, 0, 0, 0), 0), (38, .iload_n 1, 1, (1, 0, 0, 0, 0, 0), 0), (39, .iload 4, 2, (4, 0, 0, 0, 0, 0), 0)]
theorem obX11_paid_33 : dcd RX11 cX11_paid 33 bX11_paid_33 = true := by decide +kernel
def bX11_paid_44 : List Op3 := [(44, .istore_n 3, 1, (3, 0, 0, 0, 0, 0), 0), (45, .iinc 4 1, 3, (4, 0, 0, 0, 0, 0), nI 1), (48, .goto (-34), 3, (14, 0, 0, 0, 0, 0), 0)]
theorem obX11_paid_44 : dcd RX11 cX11_paid 44 bX11_paid_44 = true := by decide +kernel
def bX11_paid_45 : List Op3 := [(45, .iinc 4 1, 3, (4, 0, 0, 0, 0, 0), nI 1), (48, .goto (-34), 3, (14, 0, 0, 0, 0, 0), 0)]
theorem obX11_paid_45 : dcd RX11 cX11_paid 45 bX11_paid_45 = true := by decide +kernel
def bX11_paid_51 : List Op3 := [(51, .iload_n 3, 1, (3, 0, 0, 0, 0, 0), 0), (52, .ireturn, 1, (0, 0, 0, 0, 0, 0), 0)]
theorem obX11_paid_51 : dcd RX11 cX11_paid 51 bX11_paid_51 = true := by decide +kernel
def bX11_sold_0 : List Op3 := [(0, .aload_n 0, 1, (0, 0, 0, 0, 0, 0), 0), (1, .getfield 16, 3, (30, 5, 2, 31, 0, 0), 0), (4, .iconst 2, 1, (0, 0, 0, 0, 0, 0), nI 2), (5, .dup2, 1, (0, 0, 0, 0, 0, 0), 0), (6, .iaload, 1, (0, 0, 0, 0, 0, 0), 0), (7, .iload_n 2, 1, (2, 0, 0, 0, 0, 0), 0), (8, .iadd, 1, (0, 0, 0, 0, 0, 0), 0), (9, .iastore, 1, (0, 0, 0, 0, 0, 0), 0), (10, .aload_n 0, 1, (0, 0, 0, 0, 0, 0), 0), (11, .getfield 16, 3, (30, 5, 2, 31, 0, 0), 0), (14, .bipush 7, 2, (0, 0, 0, 0, 0, 0), nI 7), (16, .dup2, 1, (0, 0, 0, 0, 0, 0), 0), (17, .iaload, 1, (0, 0, 0, 0, 0, 0), 0), (18, .aload_n 0, 1, (0, 0, 0, 0, 0, 0), 0), (19, .getfield 16, 3, (30, 5, 2, 31, 0, 0), 0), (22, .iload_n 1, 1, (1, 0, 0, 0, 0, 0), 0), (23, .iconst 3, 1, (0, 0, 0, 0, 0, 0), nI 3)]
theorem obX11_sold_0 : dcd RX11 cX11_sold 0 bX11_sold_0 = true := by decide +kernel
def bX11_sold_27 : List Op3 := [(27, .iaload, 1, (0, 0, 0, 0, 0, 0), 0), (28, .iadd, 1, (0, 0, 0, 0, 0, 0), 0), (29, .iastore, 1, (0, 0, 0, 0, 0, 0), 0), (30, .aload_n 0, 1, (0, 0, 0, 0, 0, 0), 0), (31, .iload_n 1, 1, (1, 0, 0, 0, 0, 0), 0)]
theorem obX11_sold_27 : dcd RX11 cX11_sold 27 bX11_sold_27 = true := by decide +kernel
def bX11_sold_35 : List Op3 := [(35, .return_, 1, (0, 0, 0, 0, 0, 0), 0)]
theorem obX11_sold_35 : dcd RX11 cX11_sold 35 bX11_sold_35 = true := by decide +kernel
def bX11_sells_0 : List Op3 := [(0, .iload_n 1, 1, (1, 0, 0, 0, 0, 0), 0), (1, .ifCond .ge 9, 3, (10, 0, 0, 0, 0, 0), 0), (4, .aload_n 0, 1, (0, 0, 0, 0, 0, 0), 0), (5, .iconst 1, 1, (0, 0, 0, 0, 0, 0), nI 1)]
theorem obX11_sells_0 : dcd RX11 cX11_sells 0 bX11_sells_0 = true := by decide +kernel
def bX11_sells_9 : List Op3 := [(9, .ireturn, 1, (0, 0, 0, 0, 0, 0), 0)]
theorem obX11_sells_9 : dcd RX11 cX11_sells 9 bX11_sells_9 = true := by decide +kernel
def bX11_sells_10 : List Op3 := [(10, .aload_n 0, 1, (0, 0, 0, 0, 0, 0), 0), (11, .iload_n 1, 1, (1, 0, 0, 0, 0, 0), 0)]
theorem obX11_sells_10 : dcd RX11 cX11_sells 10 bX11_sells_10 = true := by decide +kernel
def bX11_sells_15 : List Op3 := [(15, .istore_n 2, 1, (2, 0, 0, 0, 0, 0), 0), (16, .iload_n 2, 1, (2, 0, 0, 0, 0, 0), 0), (17, .ifCond .ge 9, 3, (26, 0, 0, 0, 0, 0), 0), (20, .aload_n 0, 1, (0, 0, 0, 0, 0, 0), 0), (21, .iconst 2, 1, (0, 0, 0, 0, 0, 0), nI 2)]
theorem obX11_sells_15 : dcd RX11 cX11_sells 15 bX11_sells_15 = true := by decide +kernel
def bX11_sells_25 : List Op3 := [(25, .ireturn, 1, (0, 0, 0, 0, 0, 0), 0)]
theorem obX11_sells_25 : dcd RX11 cX11_sells 25 bX11_sells_25 = true := by decide +kernel
def bX11_sells_26 : List Op3 := [(26, .aload_n 0, 1, (0, 0, 0, 0, 0, 0), 0), (27, .iload_n 1, 1, (1, 0, 0, 0, 0, 0), 0), (28, .iload_n 2, 1, (2, 0, 0, 0, 0, 0), 0)]
theorem obX11_sells_26 : dcd RX11 cX11_sells 26 bX11_sells_26 = true := by decide +kernel
def bX11_sells_32 : List Op3 := [(32, .istore_n 3, 1, (3, 0, 0, 0, 0, 0), 0), (33, .aload_n 0, 1, (0, 0, 0, 0, 0, 0), 0), (34, .iload_n 1, 1, (1, 0, 0, 0, 0, 0), 0), (35, .iload_n 3, 1, (3, 0, 0, 0, 0, 0), 0)]
theorem obX11_sells_32 : dcd RX11 cX11_sells 32 bX11_sells_32 = true := by decide +kernel
def bX11_sells_39 : List Op3 := [(39, .iload_n 3, 1, (3, 0, 0, 0, 0, 0), 0), (40, .ireturn, 1, (0, 0, 0, 0, 0, 0), 0)]
theorem obX11_sells_39 : dcd RX11 cX11_sells 39 bX11_sells_39 = true := by decide +kernel
def bX11_sell_0 : List Op3 := [(0, .aload_n 0, 1, (0, 0, 0, 0, 0, 0), 0)]
theorem obX11_sell_0 : dcd RX11 cX11_sell 0 bX11_sell_0 = true := by decide +kernel
def bX11_sell_4 : List Op3 := [(4, .aload_n 0, 1, (0, 0, 0, 0, 0, 0), 0), (5, .aload_n 0, 1, (0, 0, 0, 0, 0, 0), 0), (6, .aload_n 0, 1, (0, 0, 0, 0, 0, 0), 0), (7, .iload_n 1, 1, (1, 0, 0, 0, 0, 0), 0), (8, .iconst 1, 1, (0, 0, 0, 0, 0, 0), nI 1)]
theorem obX11_sell_4 : dcd RX11 cX11_sell 4 bX11_sell_4 = true := by decide +kernel
def bX11_sell_18 : List Op3 := [(18, .ireturn, 1, (0, 0, 0, 0, 0, 0), 0)]
theorem obX11_sell_18 : dcd RX11 cX11_sell 18 bX11_sell_18 = true := by decide +kernel
def bX11_mayGet_0 : List Op3 := [(0, .aload_n 0, 1, (0, 0, 0, 0, 0, 0), 0), (1, .iload_n 1, 1, (1, 0, 0, 0, 0, 0), 0)]
theorem obX11_mayGet_0 : dcd RX11 cX11_mayGet 0 bX11_mayGet_0 = true := by decide +kernel
def bX11_mayGet_5 : List Op3 := [(5, .ifCond .eq 43, 3, (48, 0, 0, 0, 0, 0), 0), (8, .iload_n 3, 1, (3, 0, 0, 0, 0, 0), 0), (9, .iload_n 2, 1, (2, 0, 0, 0, 0, 0), 0), (10, .ishr, 1, (0, 0, 0, 0, 0, 0), 0), (11, .iconst 1, 1, (0, 0, 0, 0, 0, 0), nI 1), (12, .iand, 1, (0, 0, 0, 0, 0, 0), 0), (13, .ifCond .ne 35, 3, (48, 0, 0, 0, 0, 0), 0), (16, .aload_n 0, 1, (0, 0, 0, 0, 0, 0), 0), (17, .iload_n 1, 1, (1, 0, 0, 0, 0, 0), 0), (18, .iload_n 2, 1, (2, 0, 0, 0, 0, 0), 0)]
theorem obX11_mayGet_5 : dcd RX11 cX11_mayGet 5 bX11_mayGet_5 = true := by decide +kernel
def bX11_mayGet_22 : List Op3 := [(22, .aload_n 0, 1, (0, 0, 0, 0, 0, 0), 0), (23, .getfield 16, 3, (30, 5, 2, 31, 0, 0), 0), (26, .iload_n 1, 1, (1, 0, 0, 0, 0, 0), 0), (27, .iconst 4, 1, (0, 0, 0, 0, 0, 0), nI 4)]
theorem obX11_mayGet_22 : dcd RX11 cX11_mayGet 22 bX11_mayGet_22 = true := by decide +kernel
def bX11_mayGet_31 : List Op3 := [(31, .iaload, 1, (0, 0, 0, 0, 0, 0), 0), (32, .if_icmp .lt 16, 3, (48, 0, 0, 0, 0, 0), 0), (35, .aload_n 0, 1, (0, 0, 0, 0, 0, 0), 0), (36, .iload_n 1, 1, (1, 0, 0, 0, 0, 0), 0), (37, .iload_n 2, 1, (2, 0, 0, 0, 0, 0), 0)]
theorem obX11_mayGet_31 : dcd RX11 cX11_mayGet 31 bX11_mayGet_31 = true := by decide +kernel
def bX11_mayGet_41 : List Op3 := [(41, .ifCond .le 7, 3, (48, 0, 0, 0, 0, 0), 0), (44, .iconst 1, 1, (0, 0, 0, 0, 0, 0), nI 1), (45, .goto 4, 3, (49, 0, 0, 0, 0, 0), 0)]
theorem obX11_mayGet_41 : dcd RX11 cX11_mayGet 41 bX11_mayGet_41 = true := by decide +kernel
def bX11_mayGet_48 : List Op3 := [(48, .iconst 0, 1, (0, 0, 0, 0, 0, 0), nI 0), (49, .ireturn, 1, (0, 0, 0, 0, 0, 0), 0)]
theorem obX11_mayGet_48 : dcd RX11 cX11_mayGet 48 bX11_mayGet_48 = true := by decide +kernel
def bX11_mayGet_49 : List Op3 := [(49, .ireturn, 1, (0, 0, 0, 0, 0, 0), 0)]
theorem obX11_mayGet_49 : dcd RX11 cX11_mayGet 49 bX11_mayGet_49 = true := by decide +kernel
def bX11_evenings_0 : List Op3 := [(0, .iconst 0, 1, (0, 0, 0, 0, 0, 0), nI 0), (1, .istore_n 1, 1, (1, 0, 0, 0, 0, 0), 0)]
theorem obX11_evenings_0 : dcd RX11 cX11_evenings 0 bX11_evenings_0 = true := by decide +kernel
def bX11_evenings_2 : List Op3 := [(2, .iload_n 1, 1, (1, 0, 0, 0, 0, 0), 0), (3, .bipush 32, 2, (0, 0, 0, 0, 0, 0), nI 32), (5, .if_icmp .ge 26, 3, (31, 0, 0, 0, 0, 0), 0), (8, .aload_n 0, 1, (0, 0, 0, 0, 0, 0), 0), (9, .getfield 29, 3, (30, 9, 2, 35, 0, 0), 0), (12, .bipush 32, 2, (0, 0, 0, 0, 0, 0), nI 32), (14, .aload_n 0, 1, (0, 0, 0, 0, 0, 0), 0), (15, .getfield 16, 3, (30, 5, 2, 31, 0, 0), 0), (18, .iconst 4, 1, (0, 0, 0, 0, 0, 0), nI 4), (19, .iaload, 1, (0, 0, 0, 0, 0, 0), 0), (20, .imul, 1, (0, 0, 0, 0, 0, 0), 0), (21, .iload_n 1, 1, (1, 0, 0, 0, 0, 0), 0), (22, .iadd, 1, (0, 0, 0, 0, 0, 0), 0), (23, .iconst 0, 1, (0, 0, 0, 0, 0, 0), nI 0), (24, .iastore, 1, (0, 0, 0, 0, 0, 0), 0), (25, .iinc 1 1, 3, (1, 0, 0, 0, 0, 0), nI 1), (28, .goto (-26), 3, (2, 0, 0, 0, 0, 0), 0)]
theorem obX11_evenings_2 : dcd RX11 cX11_evenings 2 bX11_evenings_2 = true := by decide +kernel
def bX11_evenings_31 : List Op3 := [(31, .aload_n 0, 1, (0, 0, 0, 0, 0, 0), 0), (32, .getfield 16, 3, (30, 5, 2, 31, 0, 0), 0), (35, .iconst 4, 1, (0, 0, 0, 0, 0, 0), nI 4), (36, .iaload, 1, (0, 0, 0, 0, 0, 0), 0), (37, .iconst 1, 1, (0, 0, 0, 0, 0, 0), nI 1), (38, .isub, 1, (0, 0, 0, 0, 0, 0), 0), (39, .istore_n 1, 1, (1, 0, 0, 0, 0, 0), 0)]
theorem obX11_evenings_31 : dcd RX11 cX11_evenings 31 bX11_evenings_31 = true := by decide +kernel
def bX11_evenings_40 : List Op3 := [(40, .iload_n 1, 1, (1, 0, 0, 0, 0, 0), 0), (41, .ifCond .lt 116, 3, (157, 0, 0, 0, 0, 0), 0), (44, .iconst 0, 1, (0, 0, 0, 0, 0, 0), nI 0), (45, .istore_n 2, 1, (2, 0, 0, 0, 0, 0), 0)]
theorem obX11_evenings_40 : dcd RX11 cX11_evenings 40 bX11_evenings_40 = true := by decide +kernel
def bX11_evenings_46 : List Op3 := [(46, .iload_n 2, 1, (2, 0, 0, 0, 0, 0), 0), (47, .bipush 32, 2, (0, 0, 0, 0, 0, 0), nI 32), (49, .if_icmp .ge 102, 3, (151, 0, 0, 0, 0, 0), 0), (52, .aload_n 0, 1, (0, 0, 0, 0, 0, 0), 0), (53, .getfield 29, 3, (30, 9, 2, 35, 0, 0), 0), (56, .bipush 32, 2, (0, 0, 0, 0, 0, 0), nI 32), (58, .iload_n 1, 1, (1, 0, 0, 0, 0, 0), 0), (59, .iconst 1, 1, (0, 0, 0, 0, 0, 0), nI 1), (60, .iadd, 1, (0, 0, 0, 0, 0, 0), 0), (61, .imul, 1, (0, 0, 0, 0, 0, 0), 0), (62, .iload_n 2, 1, (2, 0, 0, 0, 0, 0), 0), (63, .iadd, 1, (0, 0, 0, 0, 0, 0), 0), (64, .iaload, 1, (0, 0, 0, 0, 0, 0), 0), (65, .istore_n 3, 1, (3, 0, 0, 0, 0, 0), 0), (66, .iconst 0, 1, (0, 0, 0, 0, 0, 0), nI 0), (67, .istore 4, 2, (4, 0, 0, 0, 0, 0), 0)]
theorem obX11_evenings_46 : dcd RX11 cX11_evenings 46 bX11_evenings_46 = true := by decide +kernel
def bX11_evenings_69 : List Op3 := [(69, .iload 4, 2, (4, 0, 0, 0, 0, 0), 0), (71, .iconst 5, 1, (0, 0, 0, 0, 0, 0), nI 5), (72, .if_icmp .ge 61, 3, (133, 0, 0, 0, 0, 0), 0), (75, .aload_n 0, 1, (0, 0, 0, 0, 0, 0), 0), (76, .iload_n 1, 1, (1, 0, 0, 0, 0, 0), 0), (77, .iload 4, 2, (4, 0, 0, 0, 0, 0), 0), (79, .iload_n 2, 1, (2, 0, 0, 0, 0, 0), 0)]
theorem obX11_evenings_69 : dcd RX11 cX11_evenings 69 bX11_evenings_69 = true := by decide +kernel
def bX11_evenings_83 : List Op3 := [(83, .ifCond .eq 32, 3, (115, 0, 0, 0, 0, 0), 0), (86, .aload_n 0, 1, (0, 0, 0, 0, 0, 0), 0), (87, .iload_n 1, 1, (1, 0, 0, 0, 0, 0), 0), (88, .iload 4, 2, (4, 0, 0, 0, 0, 0), 0)]
theorem obX11_evenings_83 : dcd RX11 cX11_evenings 83 bX11_evenings_83 = true := by decide +kernel
def bX11_evenings_93 : List Op3 := [(93, .aload_n 0, 1, (0, 0, 0, 0, 0, 0), 0), (94, .getfield 29, 3, (30, 9, 2, 35, 0, 0), 0), (97, .bipush 32, 2, (0, 0, 0, 0, 0, 0), nI 32), (99, .iload_n 1, 1, (1, 0, 0, 0, 0, 0), 0), (100, .iconst 1, 1, (0, 0, 0, 0, 0, 0), nI 1), (101, .iadd, 1, (0, 0, 0, 0, 0, 0), 0), (102, .imul, 1, (0, 0, 0, 0, 0, 0), 0), (103, .iload_n 2, 1, (2, 0, 0, 0, 0, 0), 0), (104, .iconst 1, 1, (0, 0, 0, 0, 0, 0), nI 1), (105, .iload 4, 2, (4, 0, 0, 0, 0, 0), 0), (107, .ishl, 1, (0, 0, 0, 0, 0, 0), 0), (108, .ior, 1, (0, 0, 0, 0, 0, 0), 0), (109, .iadd, 1, (0, 0, 0, 0, 0, 0), 0), (110, .iaload, 1, (0, 0, 0, 0, 0, 0), 0), (111, .iadd, 1, (0, 0, 0, 0, 0, 0), 0), (112, .goto 4, 3, (116, 0, 0, 0, 0, 0), 0)]
theorem obX11_evenings_93 : dcd RX11 cX11_evenings 93 bX11_evenings_93 = true := by decide +kernel
def bX11_evenings_115 : List Op3 := [(115, .iconst (-1), 1, (0, 0, 0, 0, 0, 0), -1), (116, .istore 5, 2, (5, 0, 0, 0, 0, 0), 0), (118, .iload 5, 2, (5, 0, 0, 0, 0, 0), 0), (120, .iload_n 3, 1, (3, 0, 0, 0, 0, 0), 0), (121, .if_icmp .le 6, 3, (127, 0, 0, 0, 0, 0), 0), (124, .iload 5, 2, (5, 0, 0, 0, 0, 0), 0), (126, .istore_n 3, 1, (3, 0, 0, 0, 0, 0), 0), (127, .iinc 4 1, 3, (4, 0, 0, 0, 0, 0), nI 1), (130, .goto (-61), 3, (69, 0, 0, 0, 0, 0), 0)]
theorem obX11_evenings_115 : dcd RX11 cX11_evenings 115 bX11_evenings_115 = true := by decide +kernel
def bX11_evenings_116 : List Op3 := [(116, .istore 5, 2, (5, 0, 0, 0, 0, 0), 0), (118, .iload 5, 2, (5, 0, 0, 0, 0, 0), 0), (120, .iload_n 3, 1, (3, 0, 0, 0, 0, 0), 0), (121, .if_icmp .le 6, 3, (127, 0, 0, 0, 0, 0), 0), (124, .iload 5, 2, (5, 0, 0, 0, 0, 0), 0), (126, .istore_n 3, 1, (3, 0, 0, 0, 0, 0), 0), (127, .iinc 4 1, 3, (4, 0, 0, 0, 0, 0), nI 1), (130, .goto (-61), 3, (69, 0, 0, 0, 0, 0), 0)]
theorem obX11_evenings_116 : dcd RX11 cX11_evenings 116 bX11_evenings_116 = true := by decide +kernel
def bX11_evenings_127 : List Op3 := [(127, .iinc 4 1, 3, (4, 0, 0, 0, 0, 0), nI 1), (130, .goto (-61), 3, (69, 0, 0, 0, 0, 0), 0)]
theorem obX11_evenings_127 : dcd RX11 cX11_evenings 127 bX11_evenings_127 = true := by decide +kernel
def bX11_evenings_133 : List Op3 := [(133, .aload_n 0, 1, (0, 0, 0, 0, 0, 0), 0), (134, .getfield 29, 3, (30, 9, 2, 35, 0, 0), 0), (137, .bipush 32, 2, (0, 0, 0, 0, 0, 0), nI 32), (139, .iload_n 1, 1, (1, 0, 0, 0, 0, 0), 0), (140, .imul, 1, (0, 0, 0, 0, 0, 0), 0), (141, .iload_n 2, 1, (2, 0, 0, 0, 0, 0), 0), (142, .iadd, 1, (0, 0, 0, 0, 0, 0), 0), (143, .iload_n 3, 1, (3, 0, 0, 0, 0, 0), 0), (144, .iastore, 1, (0, 0, 0, 0, 0, 0), 0), (145, .iinc 2 1, 3, (2, 0, 0, 0, 0, 0), nI 1), (148, .goto (-102), 3, (46, 0, 0, 0, 0, 0), 0)]
theorem obX11_evenings_133 : dcd RX11 cX11_evenings 133 bX11_evenings_133 = true := by decide +kernel
def bX11_evenings_151 : List Op3 := [(151, .iinc 1 (-1), 3, (1, 0, 0, 0, 0, 0), -1), (154, .goto (-114), 3, (40, 0, 0, 0, 0, 0), 0)]
theorem obX11_evenings_151 : dcd RX11 cX11_evenings 151 bX11_evenings_151 = true := by decide +kernel
def bX11_evenings_157 : List Op3 := [(157, .return_, 1, (0, 0, 0, 0, 0, 0), 0)]
theorem obX11_evenings_157 : dcd RX11 cX11_evenings 157 bX11_evenings_157 = true := by decide +kernel
def bX11_gets_0 : List Op3 := [(0, .iconst 0, 1, (0, 0, 0, 0, 0, 0), nI 0), (1, .istore_n 3, 1, (3, 0, 0, 0, 0, 0), 0)]
theorem obX11_gets_0 : dcd RX11 cX11_gets 0 bX11_gets_0 = true := by decide +kernel
def bX11_gets_2 : List Op3 := [(2, .iload_n 3, 1, (3, 0, 0, 0, 0, 0), 0), (3, .iconst 5, 1, (0, 0, 0, 0, 0, 0), nI 5), (4, .if_icmp .ge 59, 3, (63, 0, 0, 0, 0, 0), 0), (7, .aload_n 0, 1, (0, 0, 0, 0, 0, 0), 0), (8, .iload_n 1, 1, (1, 0, 0, 0, 0, 0), 0), (9, .iload_n 3, 1, (3, 0, 0, 0, 0, 0), 0), (10, .iload_n 2, 1, (2, 0, 0, 0, 0, 0), 0)]
theorem obX11_gets_2 : dcd RX11 cX11_gets 2 bX11_gets_2 = true := by decide +kernel
def bX11_gets_14 : List Op3 := [(14, .ifCond .eq 43, 3, (57, 0, 0, 0, 0, 0), 0), (17, .aload_n 0, 1, (0, 0, 0, 0, 0, 0), 0), (18, .iload_n 1, 1, (1, 0, 0, 0, 0, 0), 0), (19, .iload_n 3, 1, (3, 0, 0, 0, 0, 0), 0)]
theorem obX11_gets_14 : dcd RX11 cX11_gets 14 bX11_gets_14 = true := by decide +kernel
def bX11_gets_23 : List Op3 := [(23, .aload_n 0, 1, (0, 0, 0, 0, 0, 0), 0), (24, .getfield 29, 3, (30, 9, 2, 35, 0, 0), 0), (27, .bipush 32, 2, (0, 0, 0, 0, 0, 0), nI 32), (29, .iload_n 1, 1, (1, 0, 0, 0, 0, 0), 0), (30, .iconst 1, 1, (0, 0, 0, 0, 0, 0), nI 1), (31, .iadd, 1, (0, 0, 0, 0, 0, 0), 0), (32, .imul, 1, (0, 0, 0, 0, 0, 0), 0), (33, .iload_n 2, 1, (2, 0, 0, 0, 0, 0), 0), (34, .iconst 1, 1, (0, 0, 0, 0, 0, 0), nI 1), (35, .iload_n 3, 1, (3, 0, 0, 0, 0, 0), 0), (36, .ishl, 1, (0, 0, 0, 0, 0, 0), 0), (37, .ior, 1, (0, 0, 0, 0, 0, 0), 0), (38, .iadd, 1, (0, 0, 0, 0, 0, 0), 0), (39, .iaload, 1, (0, 0, 0, 0, 0, 0), 0), (40, .iadd, 1, (0, 0, 0, 0, 0, 0), 0), (41, .aload_n 0, 1, (0, 0, 0, 0, 0, 0), 0), (42, .getfield 29, 3, (30, 9, 2, 35, 0, 0), 0), (45, .bipush 32, 2, (0, 0, 0, 0, 0, 0), nI 32), (47, .iload_n 1, 1, (1, 0, 0, 0, 0, 0), 0), (48, .imul, 1, (0, 0, 0, 0, 0, 0), 0), (49, .iload_n 2, 1, (2, 0, 0, 0, 0, 0), 0), (50, .iadd, 1, (0, 0, 0, 0, 0, 0), 0), (51, .iaload, 1, (0, 0, 0, 0, 0, 0), 0), (52, .if_icmp .ne 5, 3, (57, 0, 0, 0, 0, 0), 0), (55, .iload_n 3, 1, (3, 0, 0, 0, 0, 0), 0), (56, .ireturn, 1, (0, 0, 0, 0, 0, 0), 0)]
theorem obX11_gets_23 : dcd RX11 cX11_gets 23 bX11_gets_23 = true := by decide +kernel
def bX11_gets_57 : List Op3 := [(57, .iinc 3 1, 3, (3, 0, 0, 0, 0, 0), nI 1), (60, .goto (-58), 3, (2, 0, 0, 0, 0, 0), 0)]
theorem obX11_gets_57 : dcd RX11 cX11_gets 57 bX11_gets_57 = true := by decide +kernel
def bX11_gets_63 : List Op3 := [(63, .iconst (-1), 1, (0, 0, 0, 0, 0, 0), -1), (64, .ireturn, 1, (0, 0, 0, 0, 0, 0), 0)]
theorem obX11_gets_63 : dcd RX11 cX11_gets 63 bX11_gets_63 = true := by decide +kernel
def bX11_sellsAll_0 : List Op3 := [(0, .aload_n 0, 1, (0, 0, 0, 0, 0, 0), 0)]
theorem obX11_sellsAll_0 : dcd RX11 cX11_sellsAll 0 bX11_sellsAll_0 = true := by decide +kernel
def bX11_sellsAll_4 : List Op3 := [(4, .aload_n 0, 1, (0, 0, 0, 0, 0, 0), 0), (5, .getfield 29, 3, (30, 9, 2, 35, 0, 0), 0), (8, .iconst 0, 1, (0, 0, 0, 0, 0, 0), nI 0), (9, .iaload, 1, (0, 0, 0, 0, 0, 0), 0), (10, .istore_n 1, 1, (1, 0, 0, 0, 0, 0), 0), (11, .iconst 0, 1, (0, 0, 0, 0, 0, 0), nI 0), (12, .istore_n 2, 1, (2, 0, 0, 0, 0, 0), 0), (13, .iload_n 1, 1, (1, 0, 0, 0, 0, 0), 0), (14, .ifCond .ne 9, 3, (23, 0, 0, 0, 0, 0), 0), (17, .aload_n 0, 1, (0, 0, 0, 0, 0, 0), 0), (18, .iconst 1, 1, (0, 0, 0, 0, 0, 0), nI 1)]
theorem obX11_sellsAll_4 : dcd RX11 cX11_sellsAll 4 bX11_sellsAll_4 = true := by decide +kernel
def bX11_sellsAll_22 : List Op3 := [(22, .ireturn, 1, (0, 0, 0, 0, 0, 0), 0)]
theorem obX11_sellsAll_22 : dcd RX11 cX11_sellsAll 22 bX11_sellsAll_22 = true := by decide +kernel
def bX11_sellsAll_23 : List Op3 := [(23, .aload_n 0, 1, (0, 0, 0, 0, 0, 0), 0), (24, .getfield 16, 3, (30, 5, 2, 31, 0, 0), 0), (27, .iconst 4, 1, (0, 0, 0, 0, 0, 0), nI 4), (28, .iaload, 1, (0, 0, 0, 0, 0, 0), 0), (29, .istore_n 3, 1, (3, 0, 0, 0, 0, 0), 0), (30, .iconst 0, 1, (0, 0, 0, 0, 0, 0), nI 0), (31, .istore 4, 2, (4, 0, 0, 0, 0, 0), 0)]
theorem obX11_sellsAll_23 : dcd RX11 cX11_sellsAll 23 bX11_sellsAll_23 = true := by decide +kernel
def bX11_sellsAll_33 : List Op3 := [(33, .iload 4, 2, (4, 0, 0, 0, 0, 0), 0), (35, .iload_n 3, 1, (3, 0, 0, 0, 0, 0), 0), (36, .if_icmp .ge 49, 3, (85, 0, 0, 0, 0, 0), 0), (39, .aload_n 0, 1, (0, 0, 0, 0, 0, 0), 0), (40, .getfield 32, 3, (30, 10, 2, 36, 0, 0), 0), (43, .iload 4, 2, (4, 0, 0, 0, 0, 0), 0), (45, .aload_n 0, 1, (0, 0, 0, 0, 0, 0), 0), (46, .iload 4, 2, (4, 0, 0, 0, 0, 0), 0), (48, .iload_n 2, 1, (2, 0, 0, 0, 0, 0), 0)]
theorem obX11_sellsAll_33 : dcd RX11 cX11_sellsAll 33 bX11_sellsAll_33 = true := by decide +kernel
def bX11_sellsAll_52 : List Op3 := [(52, .iastore, 1, (0, 0, 0, 0, 0, 0), 0), (53, .iload_n 2, 1, (2, 0, 0, 0, 0, 0), 0), (54, .aload_n 0, 1, (0, 0, 0, 0, 0, 0), 0), (55, .getfield 32, 3, (30, 10, 2, 36, 0, 0), 0), (58, .iload 4, 2, (4, 0, 0, 0, 0, 0), 0), (60, .iaload, 1, (0, 0, 0, 0, 0, 0), 0), (61, .ifCond .ge 7, 3, (68, 0, 0, 0, 0, 0), 0), (64, .iconst 0, 1, (0, 0, 0, 0, 0, 0), nI 0), (65, .goto 12, 3, (77, 0, 0, 0, 0, 0), 0)]
theorem obX11_sellsAll_52 : dcd RX11 cX11_sellsAll 52 bX11_sellsAll_52 = true := by decide +kernel
def bX11_sellsAll_68 : List Op3 := [(68, .iconst 1, 1, (0, 0, 0, 0, 0, 0), nI 1), (69, .aload_n 0, 1, (0, 0, 0, 0, 0, 0), 0), (70, .getfield 32, 3, (30, 10, 2, 36, 0, 0), 0), (73, .iload 4, 2, (4, 0, 0, 0, 0, 0), 0), (75, .iaload, 1, (0, 0, 0, 0, 0, 0), 0), (76, .ishl, 1, (0, 0, 0, 0, 0, 0), 0), (77, .ior, 1, (0, 0, 0, 0, 0, 0), 0), (78, .istore_n 2, 1, (2, 0, 0, 0, 0, 0), 0), (79, .iinc 4 1, 3, (4, 0, 0, 0, 0, 0), nI 1), (82, .goto (-49), 3, (33, 0, 0, 0, 0, 0), 0)]
theorem obX11_sellsAll_68 : dcd RX11 cX11_sellsAll 68 bX11_sellsAll_68 = true := by decide +kernel
def bX11_sellsAll_77 : List Op3 := [(77, .ior, 1, (0, 0, 0, 0, 0, 0), 0), (78, .istore_n 2, 1, (2, 0, 0, 0, 0, 0), 0), (79, .iinc 4 1, 3, (4, 0, 0, 0, 0, 0), nI 1), (82, .goto (-49), 3, (33, 0, 0, 0, 0, 0), 0)]
theorem obX11_sellsAll_77 : dcd RX11 cX11_sellsAll 77 bX11_sellsAll_77 = true := by decide +kernel
def bX11_sellsAll_85 : List Op3 := [(85, .iload_n 3, 1, (3, 0, 0, 0, 0, 0), 0), (86, .iconst 1, 1, (0, 0, 0, 0, 0, 0), nI 1), (87, .isub, 1, (0, 0, 0, 0, 0, 0), 0), (88, .istore 4, 2, (4, 0, 0, 0, 0, 0), 0)]
theorem obX11_sellsAll_85 : dcd RX11 cX11_sellsAll 85 bX11_sellsAll_85 = true := by decide +kernel
def bX11_sellsAll_90 : List Op3 := [(90, .iload 4, 2, (4, 0, 0, 0, 0, 0), 0), (92, .ifCond .lt 38, 3, (130, 0, 0, 0, 0, 0), 0), (95, .aload_n 0, 1, (0, 0, 0, 0, 0, 0), 0), (96, .getfield 32, 3, (30, 10, 2, 36, 0, 0), 0), (99, .iload 4, 2, (4, 0, 0, 0, 0, 0), 0), (101, .iaload, 1, (0, 0, 0, 0, 0, 0), 0), (102, .ifCond .lt 22, 3, (124, 0, 0, 0, 0, 0), 0), (105, .aload_n 0, 1, (0, 0, 0, 0, 0, 0), 0), (106, .iload 4, 2, (4, 0, 0, 0, 0, 0), 0), (108, .aload_n 0, 1, (0, 0, 0, 0, 0, 0), 0), (109, .iload 4, 2, (4, 0, 0, 0, 0, 0), 0), (111, .aload_n 0, 1, (0, 0, 0, 0, 0, 0), 0), (112, .getfield 32, 3, (30, 10, 2, 36, 0, 0), 0), (115, .iload 4, 2, (4, 0, 0, 0, 0, 0), 0), (117, .iaload, 1, (0, 0, 0, 0, 0, 0), 0)]
theorem obX11_sellsAll_90 : dcd RX11 cX11_sellsAll 90 bX11_sellsAll_90 = true := by decide +kernel
def bX11_sellsAll_124 : List Op3 := [(124, .iinc 4 (-1), 3, (4, 0, 0, 0, 0, 0), -1), (127, .goto (-37), 3, (90, 0, 0, 0, 0, 0), 0)]
theorem obX11_sellsAll_124 : dcd RX11 cX11_sellsAll 124 bX11_sellsAll_124 = true := by decide +kernel
def bX11_sellsAll_130 : List Op3 := [(130, .iload_n 1, 1, (1, 0, 0, 0, 0, 0), 0), (131, .ireturn, 1, (0, 0, 0, 0, 0, 0), 0)]
theorem obX11_sellsAll_130 : dcd RX11 cX11_sellsAll 130 bX11_sellsAll_130 = true := by decide +kernel
def bX11_sellEvening_0 : List Op3 := [(0, .aload_n 0, 1, (0, 0, 0, 0, 0, 0), 0)]
theorem obX11_sellEvening_0 : dcd RX11 cX11_sellEvening 0 bX11_sellEvening_0 = true := by decide +kernel
def bX11_sellEvening_4 : List Op3 := [(4, .aload_n 0, 1, (0, 0, 0, 0, 0, 0), 0), (5, .aload_n 0, 1, (0, 0, 0, 0, 0, 0), 0)]
theorem obX11_sellEvening_4 : dcd RX11 cX11_sellEvening 4 bX11_sellEvening_4 = true := by decide +kernel
def bX11_sellEvening_12 : List Op3 := [(12, .ireturn, 1, (0, 0, 0, 0, 0, 0), 0)]
theorem obX11_sellEvening_12 : dcd RX11 cX11_sellEvening 12 bX11_sellEvening_12 = true := by decide +kernel
def bX11_lotCount_0 : List Op3 := [(0, .aload_n 0, 1, (0, 0, 0, 0, 0, 0), 0), (1, .iconst 0, 1, (0, 0, 0, 0, 0, 0), nI 0), (2, .putfield 50, 3, (30, 0, 0, 0, 0, 0), 0), (5, .aload_n 0, 1, (0, 0, 0, 0, 0, 0), 0), (6, .iconst 1, 1, (0, 0, 0, 0, 0, 0), nI 1)]
theorem obX11_lotCount_0 : dcd RX11 cX11_lotCount 0 bX11_lotCount_0 = true := by decide +kernel
def bX11_lotCount_10 : List Op3 := [(10, .ireturn, 1, (0, 0, 0, 0, 0, 0), 0)]
theorem obX11_lotCount_10 : dcd RX11 cX11_lotCount 10 bX11_lotCount_10 = true := by decide +kernel
def bX11_lotAt_0 : List Op3 := [(0, .iload_n 1, 1, (1, 0, 0, 0, 0, 0), 0), (1, .ifCond .ge 7, 3, (8, 0, 0, 0, 0, 0), 0), (4, .iconst (-1), 1, (0, 0, 0, 0, 0, 0), -1), (5, .goto 9, 3, (14, 0, 0, 0, 0, 0), 0)]
theorem obX11_lotAt_0 : dcd RX11 cX11_lotAt 0 bX11_lotAt_0 = true := by decide +kernel
def bX11_lotAt_8 : List Op3 := [(8, .aload_n 0, 1, (0, 0, 0, 0, 0, 0), 0), (9, .iload_n 1, 1, (1, 0, 0, 0, 0, 0), 0), (10, .iconst 1, 1, (0, 0, 0, 0, 0, 0), nI 1)]
theorem obX11_lotAt_8 : dcd RX11 cX11_lotAt 8 bX11_lotAt_8 = true := by decide +kernel
def bX11_lotAt_14 : List Op3 := [(14, .istore_n 2, 1, (2, 0, 0, 0, 0, 0), 0), (15, .aload_n 0, 1, (0, 0, 0, 0, 0, 0), 0), (16, .iload_n 2, 1, (2, 0, 0, 0, 0, 0), 0), (17, .ifCond .ge 7, 3, (24, 0, 0, 0, 0, 0), 0), (20, .iconst 1, 1, (0, 0, 0, 0, 0, 0), nI 1), (21, .goto 4, 3, (25, 0, 0, 0, 0, 0), 0)]
theorem obX11_lotAt_14 : dcd RX11 cX11_lotAt 14 bX11_lotAt_14 = true := by decide +kernel
def bX11_lotAt_24 : List Op3 := [(24, .iconst 0, 1, (0, 0, 0, 0, 0, 0), nI 0), (25, .putfield 50, 3, (30, 0, 0, 0, 0, 0), 0), (28, .aload_n 0, 1, (0, 0, 0, 0, 0, 0), 0), (29, .getfield 50, 3, (30, 0, 0, 0, 0, 0), 0), (32, .ifCond .ne 7, 3, (39, 0, 0, 0, 0, 0), 0), (35, .iload_n 2, 1, (2, 0, 0, 0, 0, 0), 0), (36, .goto 4, 3, (40, 0, 0, 0, 0, 0), 0)]
theorem obX11_lotAt_24 : dcd RX11 cX11_lotAt 24 bX11_lotAt_24 = true := by decide +kernel
def bX11_lotAt_25 : List Op3 := [(25, .putfield 50, 3, (30, 0, 0, 0, 0, 0), 0), (28, .aload_n 0, 1, (0, 0, 0, 0, 0, 0), 0), (29, .getfield 50, 3, (30, 0, 0, 0, 0, 0), 0), (32, .ifCond .ne 7, 3, (39, 0, 0, 0, 0, 0), 0), (35, .iload_n 2, 1, (2, 0, 0, 0, 0, 0), 0), (36, .goto 4, 3, (40, 0, 0, 0, 0, 0), 0)]
theorem obX11_lotAt_25 : dcd RX11 cX11_lotAt 25 bX11_lotAt_25 = true := by decide +kernel
def bX11_lotAt_39 : List Op3 := [(39, .iconst 0, 1, (0, 0, 0, 0, 0, 0), nI 0), (40, .ireturn, 1, (0, 0, 0, 0, 0, 0), 0)]
theorem obX11_lotAt_39 : dcd RX11 cX11_lotAt 39 bX11_lotAt_39 = true := by decide +kernel
def bX11_lotAt_40 : List Op3 := [(40, .ireturn, 1, (0, 0, 0, 0, 0, 0), 0)]
theorem obX11_lotAt_40 : dcd RX11 cX11_lotAt 40 bX11_lotAt_40 = true := by decide +kernel
def bX11_bidOf_0 : List Op3 := [(0, .aload_n 0, 1, (0, 0, 0, 0, 0, 0), 0), (1, .iload_n 1, 1, (1, 0, 0, 0, 0, 0), 0), (2, .iconst 1, 1, (0, 0, 0, 0, 0, 0), nI 1)]
theorem obX11_bidOf_0 : dcd RX11 cX11_bidOf 0 bX11_bidOf_0 = true := by decide +kernel
def bX11_bidOf_6 : List Op3 := [(6, .istore_n 3, 1, (3, 0, 0, 0, 0, 0), 0), (7, .aload_n 0, 1, (0, 0, 0, 0, 0, 0), 0), (8, .iload_n 3, 1, (3, 0, 0, 0, 0, 0), 0), (9, .ifCond .ge 7, 3, (16, 0, 0, 0, 0, 0), 0), (12, .iconst 1, 1, (0, 0, 0, 0, 0, 0), nI 1), (13, .goto 17, 3, (30, 0, 0, 0, 0, 0), 0)]
theorem obX11_bidOf_6 : dcd RX11 cX11_bidOf 6 bX11_bidOf_6 = true := by decide +kernel
def bX11_bidOf_16 : List Op3 := [(16, .iload_n 2, 1, (2, 0, 0, 0, 0, 0), 0), (17, .iconst 0, 1, (0, 0, 0, 0, 0, 0), nI 0), (18, .iconst 4, 1, (0, 0, 0, 0, 0, 0), nI 4)]
theorem obX11_bidOf_16 : dcd RX11 cX11_bidOf 16 bX11_bidOf_16 = true := by decide +kernel
def bX11_bidOf_22 : List Op3 := [(22, .ifCond .eq 7, 3, (29, 0, 0, 0, 0, 0), 0), (25, .iconst 0, 1, (0, 0, 0, 0, 0, 0), nI 0), (26, .goto 4, 3, (30, 0, 0, 0, 0, 0), 0)]
theorem obX11_bidOf_22 : dcd RX11 cX11_bidOf 22 bX11_bidOf_22 = true := by decide +kernel
def bX11_bidOf_29 : List Op3 := [(29, .iconst 2, 1, (0, 0, 0, 0, 0, 0), nI 2), (30, .putfield 50, 3, (30, 0, 0, 0, 0, 0), 0), (33, .aload_n 0, 1, (0, 0, 0, 0, 0, 0), 0), (34, .getfield 50, 3, (30, 0, 0, 0, 0, 0), 0), (37, .ifCond .ne 12, 3, (49, 0, 0, 0, 0, 0), 0), (40, .aload_n 0, 1, (0, 0, 0, 0, 0, 0), 0), (41, .iload_n 3, 1, (3, 0, 0, 0, 0, 0), 0), (42, .iload_n 2, 1, (2, 0, 0, 0, 0, 0), 0)]
theorem obX11_bidOf_29 : dcd RX11 cX11_bidOf 29 bX11_bidOf_29 = true := by decide +kernel
def bX11_bidOf_30 : List Op3 := [(30, .putfield 50, 3, (30, 0, 0, 0, 0, 0), 0), (33, .aload_n 0, 1, (0, 0, 0, 0, 0, 0), 0), (34, .getfield 50, 3, (30, 0, 0, 0, 0, 0), 0), (37, .ifCond .ne 12, 3, (49, 0, 0, 0, 0, 0), 0), (40, .aload_n 0, 1, (0, 0, 0, 0, 0, 0), 0), (41, .iload_n 3, 1, (3, 0, 0, 0, 0, 0), 0), (42, .iload_n 2, 1, (2, 0, 0, 0, 0, 0), 0)]
theorem obX11_bidOf_30 : dcd RX11 cX11_bidOf 30 bX11_bidOf_30 = true := by decide +kernel
def bX11_bidOf_46 : List Op3 := [(46, .goto 4, 3, (50, 0, 0, 0, 0, 0), 0)]
theorem obX11_bidOf_46 : dcd RX11 cX11_bidOf 46 bX11_bidOf_46 = true := by decide +kernel
def bX11_bidOf_49 : List Op3 := [(49, .iconst 0, 1, (0, 0, 0, 0, 0, 0), nI 0), (50, .ireturn, 1, (0, 0, 0, 0, 0, 0), 0)]
theorem obX11_bidOf_49 : dcd RX11 cX11_bidOf 49 bX11_bidOf_49 = true := by decide +kernel
def bX11_bidOf_50 : List Op3 := [(50, .ireturn, 1, (0, 0, 0, 0, 0, 0), 0)]
theorem obX11_bidOf_50 : dcd RX11 cX11_bidOf 50 bX11_bidOf_50 = true := by decide +kernel
def bX11_buyerOf_0 : List Op3 := [(0, .aload_n 0, 1, (0, 0, 0, 0, 0, 0), 0), (1, .iload_n 1, 1, (1, 0, 0, 0, 0, 0), 0), (2, .iconst 1, 1, (0, 0, 0, 0, 0, 0), nI 1)]
theorem obX11_buyerOf_0 : dcd RX11 cX11_buyerOf 0 bX11_buyerOf_0 = true := by decide +kernel
def bX11_buyerOf_6 : List Op3 := [(6, .istore_n 2, 1, (2, 0, 0, 0, 0, 0), 0), (7, .aload_n 0, 1, (0, 0, 0, 0, 0, 0), 0), (8, .iload_n 2, 1, (2, 0, 0, 0, 0, 0), 0), (9, .ifCond .lt 11, 3, (20, 0, 0, 0, 0, 0), 0), (12, .aload_n 0, 1, (0, 0, 0, 0, 0, 0), 0), (13, .iload_n 2, 1, (2, 0, 0, 0, 0, 0), 0)]
theorem obX11_buyerOf_6 : dcd RX11 cX11_buyerOf 6 bX11_buyerOf_6 = true := by decide +kernel
def bX11_buyerOf_17 : List Op3 := [(17, .ifCond .ge 7, 3, (24, 0, 0, 0, 0, 0), 0), (20, .iconst 1, 1, (0, 0, 0, 0, 0, 0), nI 1), (21, .goto 4, 3, (25, 0, 0, 0, 0, 0), 0)]
theorem obX11_buyerOf_17 : dcd RX11 cX11_buyerOf 17 bX11_buyerOf_17 = true := by decide +kernel
def bX11_buyerOf_20 : List Op3 := [(20, .iconst 1, 1, (0, 0, 0, 0, 0, 0), nI 1), (21, .goto 4, 3, (25, 0, 0, 0, 0, 0), 0)]
theorem obX11_buyerOf_20 : dcd RX11 cX11_buyerOf 20 bX11_buyerOf_20 = true := by decide +kernel
def bX11_buyerOf_24 : List Op3 := [(24, .iconst 0, 1, (0, 0, 0, 0, 0, 0), nI 0), (25, .putfield 50, 3, (30, 0, 0, 0, 0, 0), 0), (28, .aload_n 0, 1, (0, 0, 0, 0, 0, 0), 0), (29, .getfield 50, 3, (30, 0, 0, 0, 0, 0), 0), (32, .ifCond .ne 11, 3, (43, 0, 0, 0, 0, 0), 0), (35, .aload_n 0, 1, (0, 0, 0, 0, 0, 0), 0), (36, .iload_n 2, 1, (2, 0, 0, 0, 0, 0), 0)]
theorem obX11_buyerOf_24 : dcd RX11 cX11_buyerOf 24 bX11_buyerOf_24 = true := by decide +kernel
def bX11_buyerOf_25 : List Op3 := [(25, .putfield 50, 3, (30, 0, 0, 0, 0, 0), 0), (28, .aload_n 0, 1, (0, 0, 0, 0, 0, 0), 0), (29, .getfield 50, 3, (30, 0, 0, 0, 0, 0), 0), (32, .ifCond .ne 11, 3, (43, 0, 0, 0, 0, 0), 0), (35, .aload_n 0, 1, (0, 0, 0, 0, 0, 0), 0), (36, .iload_n 2, 1, (2, 0, 0, 0, 0, 0), 0)]
theorem obX11_buyerOf_25 : dcd RX11 cX11_buyerOf 25 bX11_buyerOf_25 = true := by decide +kernel
def bX11_buyerOf_40 : List Op3 := [(40, .goto 4, 3, (44, 0, 0, 0, 0, 0), 0)]
theorem obX11_buyerOf_40 : dcd RX11 cX11_buyerOf 40 bX11_buyerOf_40 = true := by decide +kernel
def bX11_buyerOf_43 : List Op3 := [(43, .iconst 0, 1, (0, 0, 0, 0, 0, 0), nI 0), (44, .ireturn, 1, (0, 0, 0, 0, 0, 0), 0)]
theorem obX11_buyerOf_43 : dcd RX11 cX11_buyerOf 43 bX11_buyerOf_43 = true := by decide +kernel
def bX11_buyerOf_44 : List Op3 := [(44, .ireturn, 1, (0, 0, 0, 0, 0, 0), 0)]
theorem obX11_buyerOf_44 : dcd RX11 cX11_buyerOf 44 bX11_buyerOf_44 = true := by decide +kernel
def bX11_priceOf_0 : List Op3 := [(0, .aload_n 0, 1, (0, 0, 0, 0, 0, 0), 0), (1, .iload_n 1, 1, (1, 0, 0, 0, 0, 0), 0), (2, .iconst 1, 1, (0, 0, 0, 0, 0, 0), nI 1)]
theorem obX11_priceOf_0 : dcd RX11 cX11_priceOf 0 bX11_priceOf_0 = true := by decide +kernel
def bX11_priceOf_6 : List Op3 := [(6, .istore_n 2, 1, (2, 0, 0, 0, 0, 0), 0), (7, .aload_n 0, 1, (0, 0, 0, 0, 0, 0), 0), (8, .iload_n 2, 1, (2, 0, 0, 0, 0, 0), 0), (9, .ifCond .lt 11, 3, (20, 0, 0, 0, 0, 0), 0), (12, .aload_n 0, 1, (0, 0, 0, 0, 0, 0), 0), (13, .iload_n 2, 1, (2, 0, 0, 0, 0, 0), 0)]
theorem obX11_priceOf_6 : dcd RX11 cX11_priceOf 6 bX11_priceOf_6 = true := by decide +kernel
def bX11_priceOf_17 : List Op3 := [(17, .ifCond .ge 7, 3, (24, 0, 0, 0, 0, 0), 0), (20, .iconst 1, 1, (0, 0, 0, 0, 0, 0), nI 1), (21, .goto 4, 3, (25, 0, 0, 0, 0, 0), 0)]
theorem obX11_priceOf_17 : dcd RX11 cX11_priceOf 17 bX11_priceOf_17 = true := by decide +kernel
def bX11_priceOf_20 : List Op3 := [(20, .iconst 1, 1, (0, 0, 0, 0, 0, 0), nI 1), (21, .goto 4, 3, (25, 0, 0, 0, 0, 0), 0)]
theorem obX11_priceOf_20 : dcd RX11 cX11_priceOf 20 bX11_priceOf_20 = true := by decide +kernel
def bX11_priceOf_24 : List Op3 := [(24, .iconst 0, 1, (0, 0, 0, 0, 0, 0), nI 0), (25, .putfield 50, 3, (30, 0, 0, 0, 0, 0), 0), (28, .aload_n 0, 1, (0, 0, 0, 0, 0, 0), 0), (29, .getfield 50, 3, (30, 0, 0, 0, 0, 0), 0), (32, .ifCond .ne 16, 3, (48, 0, 0, 0, 0, 0), 0), (35, .aload_n 0, 1, (0, 0, 0, 0, 0, 0), 0), (36, .iload_n 2, 1, (2, 0, 0, 0, 0, 0), 0), (37, .aload_n 0, 1, (0, 0, 0, 0, 0, 0), 0), (38, .iload_n 2, 1, (2, 0, 0, 0, 0, 0), 0)]
theorem obX11_priceOf_24 : dcd RX11 cX11_priceOf 24 bX11_priceOf_24 = true := by decide +kernel
def bX11_priceOf_25 : List Op3 := [(25, .putfield 50, 3, (30, 0, 0, 0, 0, 0), 0), (28, .aload_n 0, 1, (0, 0, 0, 0, 0, 0), 0), (29, .getfield 50, 3, (30, 0, 0, 0, 0, 0), 0), (32, .ifCond .ne 16, 3, (48, 0, 0, 0, 0, 0), 0), (35, .aload_n 0, 1, (0, 0, 0, 0, 0, 0), 0), (36, .iload_n 2, 1, (2, 0, 0, 0, 0, 0), 0), (37, .aload_n 0, 1, (0, 0, 0, 0, 0, 0), 0), (38, .iload_n 2, 1, (2, 0, 0, 0, 0, 0), 0)]
theorem obX11_priceOf_25 : dcd RX11 cX11_priceOf 25 bX11_priceOf_25 = true := by decide +kernel
def bX11_priceOf_45 : List Op3 := [(45, .goto 4, 3, (49, 0, 0, 0, 0, 0), 0)]
theorem obX11_priceOf_45 : dcd RX11 cX11_priceOf 45 bX11_priceOf_45 = true := by decide +kernel
def bX11_priceOf_48 : List Op3 := [(48, .iconst 0, 1, (0, 0, 0, 0, 0, 0), nI 0), (49, .ireturn, 1, (0, 0, 0, 0, 0, 0), 0)]
theorem obX11_priceOf_48 : dcd RX11 cX11_priceOf 48 bX11_priceOf_48 = true := by decide +kernel
def bX11_priceOf_49 : List Op3 := [(49, .ireturn, 1, (0, 0, 0, 0, 0, 0), 0)]
theorem obX11_priceOf_49 : dcd RX11 cX11_priceOf 49 bX11_priceOf_49 = true := by decide +kernel
def bX11_bestEvening_0 : List Op3 := [(0, .aload_n 0, 1, (0, 0, 0, 0, 0, 0), 0), (1, .iconst 0, 1, (0, 0, 0, 0, 0, 0), nI 0), (2, .putfield 50, 3, (30, 0, 0, 0, 0, 0), 0), (5, .aload_n 0, 1, (0, 0, 0, 0, 0, 0), 0)]
theorem obX11_bestEvening_0 : dcd RX11 cX11_bestEvening 0 bX11_bestEvening_0 = true := by decide +kernel
def bX11_bestEvening_9 : List Op3 := [(9, .aload_n 0, 1, (0, 0, 0, 0, 0, 0), 0), (10, .getfield 29, 3, (30, 9, 2, 35, 0, 0), 0), (13, .iconst 0, 1, (0, 0, 0, 0, 0, 0), nI 0), (14, .iaload, 1, (0, 0, 0, 0, 0, 0), 0), (15, .ireturn, 1, (0, 0, 0, 0, 0, 0), 0)]
theorem obX11_bestEvening_9 : dcd RX11 cX11_bestEvening 9 bX11_bestEvening_9 = true := by decide +kernel
def bX11_bestEveningByTrying_0 : List Op3 := [(0, .aload_n 0, 1, (0, 0, 0, 0, 0, 0), 0)]
theorem obX11_bestEveningByTrying_0 : dcd RX11 cX11_bestEveningByTrying 0 bX11_bestEveningByTrying_0 = true := by decide +kernel
def bX11_bestEveningByTrying_4 : List Op3 := [(4, .ireturn, 1, (0, 0, 0, 0, 0, 0), 0)]
theorem obX11_bestEveningByTrying_4 : dcd RX11 cX11_bestEveningByTrying 4 bX11_bestEveningByTrying_4 = true := by decide +kernel
def bX11_eveningBuyerOf_0 : List Op3 := [(0, .aload_n 0, 1, (0, 0, 0, 0, 0, 0), 0), (1, .iload_n 1, 1, (1, 0, 0, 0, 0, 0), 0), (2, .iconst 1, 1, (0, 0, 0, 0, 0, 0), nI 1)]
theorem obX11_eveningBuyerOf_0 : dcd RX11 cX11_eveningBuyerOf 0 bX11_eveningBuyerOf_0 = true := by decide +kernel
def bX11_eveningBuyerOf_6 : List Op3 := [(6, .istore_n 2, 1, (2, 0, 0, 0, 0, 0), 0), (7, .iconst 0, 1, (0, 0, 0, 0, 0, 0), nI 0), (8, .istore_n 3, 1, (3, 0, 0, 0, 0, 0), 0), (9, .aload_n 0, 1, (0, 0, 0, 0, 0, 0), 0), (10, .iload_n 2, 1, (2, 0, 0, 0, 0, 0), 0), (11, .ifCond .ge 7, 3, (18, 0, 0, 0, 0, 0), 0), (14, .iconst 1, 1, (0, 0, 0, 0, 0, 0), nI 1), (15, .goto 4, 3, (19, 0, 0, 0, 0, 0), 0)]
theorem obX11_eveningBuyerOf_6 : dcd RX11 cX11_eveningBuyerOf 6 bX11_eveningBuyerOf_6 = true := by decide +kernel
def bX11_eveningBuyerOf_18 : List Op3 := [(18, .iconst 0, 1, (0, 0, 0, 0, 0, 0), nI 0), (19, .putfield 50, 3, (30, 0, 0, 0, 0, 0), 0), (22, .aload_n 0, 1, (0, 0, 0, 0, 0, 0), 0), (23, .getfield 50, 3, (30, 0, 0, 0, 0, 0), 0), (26, .ifCond .eq 5, 3, (31, 0, 0, 0, 0, 0), 0), (29, .iconst 0, 1, (0, 0, 0, 0, 0, 0), nI 0), (30, .ireturn, 1, (0, 0, 0, 0, 0, 0), 0)]
theorem obX11_eveningBuyerOf_18 : dcd RX11 cX11_eveningBuyerOf 18 bX11_eveningBuyerOf_18 = true := by decide +kernel
def bX11_eveningBuyerOf_19 : List Op3 := [(19, .putfield 50, 3, (30, 0, 0, 0, 0, 0), 0), (22, .aload_n 0, 1, (0, 0, 0, 0, 0, 0), 0), (23, .getfield 50, 3, (30, 0, 0, 0, 0, 0), 0), (26, .ifCond .eq 5, 3, (31, 0, 0, 0, 0, 0), 0), (29, .iconst 0, 1, (0, 0, 0, 0, 0, 0), nI 0), (30, .ireturn, 1, (0, 0, 0, 0, 0, 0), 0)]
theorem obX11_eveningBuyerOf_19 : dcd RX11 cX11_eveningBuyerOf 19 bX11_eveningBuyerOf_19 = true := by decide +kernel
def bX11_eveningBuyerOf_31 : List Op3 := [(31, .aload_n 0, 1, (0, 0, 0, 0, 0, 0), 0)]
theorem obX11_eveningBuyerOf_31 : dcd RX11 cX11_eveningBuyerOf 31 bX11_eveningBuyerOf_31 = true := by decide +kernel
def bX11_eveningBuyerOf_35 : List Op3 := [(35, .iconst 0, 1, (0, 0, 0, 0, 0, 0), nI 0), (36, .istore 4, 2, (4, 0, 0, 0, 0, 0), 0)]
theorem obX11_eveningBuyerOf_35 : dcd RX11 cX11_eveningBuyerOf 35 bX11_eveningBuyerOf_35 = true := by decide +kernel
def bX11_eveningBuyerOf_38 : List Op3 := [(38, .iload 4, 2, (4, 0, 0, 0, 0, 0), 0), (40, .iload_n 2, 1, (2, 0, 0, 0, 0, 0), 0), (41, .if_icmp .ge 34, 3, (75, 0, 0, 0, 0, 0), 0), (44, .aload_n 0, 1, (0, 0, 0, 0, 0, 0), 0), (45, .iload 4, 2, (4, 0, 0, 0, 0, 0), 0), (47, .iload_n 3, 1, (3, 0, 0, 0, 0, 0), 0)]
theorem obX11_eveningBuyerOf_38 : dcd RX11 cX11_eveningBuyerOf 38 bX11_eveningBuyerOf_38 = true := by decide +kernel
def bX11_eveningBuyerOf_51 : List Op3 := [(51, .istore 5, 2, (5, 0, 0, 0, 0, 0), 0), (53, .iload_n 3, 1, (3, 0, 0, 0, 0, 0), 0), (54, .iload 5, 2, (5, 0, 0, 0, 0, 0), 0), (56, .ifCond .ge 7, 3, (63, 0, 0, 0, 0, 0), 0), (59, .iconst 0, 1, (0, 0, 0, 0, 0, 0), nI 0), (60, .goto 7, 3, (67, 0, 0, 0, 0, 0), 0)]
theorem obX11_eveningBuyerOf_51 : dcd RX11 cX11_eveningBuyerOf 51 bX11_eveningBuyerOf_51 = true := by decide +kernel
def bX11_eveningBuyerOf_63 : List Op3 := [(63, .iconst 1, 1, (0, 0, 0, 0, 0, 0), nI 1), (64, .iload 5, 2, (5, 0, 0, 0, 0, 0), 0), (66, .ishl, 1, (0, 0, 0, 0, 0, 0), 0), (67, .ior, 1, (0, 0, 0, 0, 0, 0), 0), (68, .istore_n 3, 1, (3, 0, 0, 0, 0, 0), 0), (69, .iinc 4 1, 3, (4, 0, 0, 0, 0, 0), nI 1), (72, .goto (-34), 3, (38, 0, 0, 0, 0, 0), 0)]
theorem obX11_eveningBuyerOf_63 : dcd RX11 cX11_eveningBuyerOf 63 bX11_eveningBuyerOf_63 = true := by decide +kernel
def bX11_eveningBuyerOf_67 : List Op3 := [(67, .ior, 1, (0, 0, 0, 0, 0, 0), 0), (68, .istore_n 3, 1, (3, 0, 0, 0, 0, 0), 0), (69, .iinc 4 1, 3, (4, 0, 0, 0, 0, 0), nI 1), (72, .goto (-34), 3, (38, 0, 0, 0, 0, 0), 0)]
theorem obX11_eveningBuyerOf_67 : dcd RX11 cX11_eveningBuyerOf 67 bX11_eveningBuyerOf_67 = true := by decide +kernel
def bX11_eveningBuyerOf_75 : List Op3 := [(75, .aload_n 0, 1, (0, 0, 0, 0, 0, 0), 0), (76, .iload_n 2, 1, (2, 0, 0, 0, 0, 0), 0), (77, .iload_n 3, 1, (3, 0, 0, 0, 0, 0), 0)]
theorem obX11_eveningBuyerOf_75 : dcd RX11 cX11_eveningBuyerOf 75 bX11_eveningBuyerOf_75 = true := by decide +kernel
def bX11_eveningBuyerOf_81 : List Op3 := [(81, .istore 4, 2, (4, 0, 0, 0, 0, 0), 0), (83, .iload 4, 2, (4, 0, 0, 0, 0, 0), 0), (85, .ifCond .ge 11, 3, (96, 0, 0, 0, 0, 0), 0), (88, .aload_n 0, 1, (0, 0, 0, 0, 0, 0), 0), (89, .iconst 1, 1, (0, 0, 0, 0, 0, 0), nI 1)]
theorem obX11_eveningBuyerOf_81 : dcd RX11 cX11_eveningBuyerOf 81 bX11_eveningBuyerOf_81 = true := by decide +kernel
def bX11_eveningBuyerOf_93 : List Op3 := [(93, .goto 5, 3, (98, 0, 0, 0, 0, 0), 0)]
theorem obX11_eveningBuyerOf_93 : dcd RX11 cX11_eveningBuyerOf 93 bX11_eveningBuyerOf_93 = true := by decide +kernel
def bX11_eveningBuyerOf_96 : List Op3 := [(96, .iload 4, 2, (4, 0, 0, 0, 0, 0), 0), (98, .ireturn, 1, (0, 0, 0, 0, 0, 0), 0)]
theorem obX11_eveningBuyerOf_96 : dcd RX11 cX11_eveningBuyerOf 96 bX11_eveningBuyerOf_96 = true := by decide +kernel
def bX11_eveningBuyerOf_98 : List Op3 := [(98, .ireturn, 1, (0, 0, 0, 0, 0, 0), 0)]
theorem obX11_eveningBuyerOf_98 : dcd RX11 cX11_eveningBuyerOf 98 bX11_eveningBuyerOf_98 = true := by decide +kernel
def bX11_redeemedMinutes_0 : List Op3 := [(0, .aload_n 0, 1, (0, 0, 0, 0, 0, 0), 0), (1, .iconst 5, 1, (0, 0, 0, 0, 0, 0), nI 5)]
theorem obX11_redeemedMinutes_0 : dcd RX11 cX11_redeemedMinutes 0 bX11_redeemedMinutes_0 = true := by decide +kernel
def bX11_redeemedMinutes_5 : List Op3 := [(5, .ireturn, 1, (0, 0, 0, 0, 0, 0), 0)]
theorem obX11_redeemedMinutes_5 : dcd RX11 cX11_redeemedMinutes 5 bX11_redeemedMinutes_5 = true := by decide +kernel
def bX11_forfeitedMinutes_0 : List Op3 := [(0, .aload_n 0, 1, (0, 0, 0, 0, 0, 0), 0), (1, .bipush 6, 2, (0, 0, 0, 0, 0, 0), nI 6)]
theorem obX11_forfeitedMinutes_0 : dcd RX11 cX11_forfeitedMinutes 0 bX11_forfeitedMinutes_0 = true := by decide +kernel
def bX11_forfeitedMinutes_6 : List Op3 := [(6, .ireturn, 1, (0, 0, 0, 0, 0, 0), 0)]
theorem obX11_forfeitedMinutes_6 : dcd RX11 cX11_forfeitedMinutes 6 bX11_forfeitedMinutes_6 = true := by decide +kernel
def bX11_soldMinutes_0 : List Op3 := [(0, .aload_n 0, 1, (0, 0, 0, 0, 0, 0), 0), (1, .bipush 7, 2, (0, 0, 0, 0, 0, 0), nI 7)]
theorem obX11_soldMinutes_0 : dcd RX11 cX11_soldMinutes 0 bX11_soldMinutes_0 = true := by decide +kernel
def bX11_soldMinutes_6 : List Op3 := [(6, .ireturn, 1, (0, 0, 0, 0, 0, 0), 0)]
theorem obX11_soldMinutes_6 : dcd RX11 cX11_soldMinutes 6 bX11_soldMinutes_6 = true := by decide +kernel
def bX11_pledgedMinutes_0 : List Op3 := [(0, .aload_n 0, 1, (0, 0, 0, 0, 0, 0), 0), (1, .bipush 8, 2, (0, 0, 0, 0, 0, 0), nI 8)]
theorem obX11_pledgedMinutes_0 : dcd RX11 cX11_pledgedMinutes 0 bX11_pledgedMinutes_0 = true := by decide +kernel
def bX11_pledgedMinutes_6 : List Op3 := [(6, .i2l, 1, (0, 0, 0, 0, 0, 0), 0), (7, .lreturn, 1, (0, 0, 0, 0, 0, 0), 0)]
theorem obX11_pledgedMinutes_6 : dcd RX11 cX11_pledgedMinutes 6 bX11_pledgedMinutes_6 = true := by decide +kernel
def bX11_meanLoan_0 : List Op3 := [(0, .aload_n 0, 1, (0, 0, 0, 0, 0, 0), 0), (1, .iconst 0, 1, (0, 0, 0, 0, 0, 0), nI 0)]
theorem obX11_meanLoan_0 : dcd RX11 cX11_meanLoan 0 bX11_meanLoan_0 = true := by decide +kernel
def bX11_meanLoan_5 : List Op3 := [(5, .istore_n 1, 1, (1, 0, 0, 0, 0, 0), 0), (6, .iconst 0, 1, (0, 0, 0, 0, 0, 0), nI 0), (7, .istore_n 2, 1, (2, 0, 0, 0, 0, 0), 0), (8, .aload_n 0, 1, (0, 0, 0, 0, 0, 0), 0), (9, .iload_n 1, 1, (1, 0, 0, 0, 0, 0), 0), (10, .ifCond .ne 7, 3, (17, 0, 0, 0, 0, 0), 0), (13, .iconst 1, 1, (0, 0, 0, 0, 0, 0), nI 1), (14, .goto 4, 3, (18, 0, 0, 0, 0, 0), 0)]
theorem obX11_meanLoan_5 : dcd RX11 cX11_meanLoan 5 bX11_meanLoan_5 = true := by decide +kernel
def bX11_meanLoan_17 : List Op3 := [(17, .iconst 0, 1, (0, 0, 0, 0, 0, 0), nI 0), (18, .putfield 50, 3, (30, 0, 0, 0, 0, 0), 0), (21, .iconst 0, 1, (0, 0, 0, 0, 0, 0), nI 0), (22, .istore_n 3, 1, (3, 0, 0, 0, 0, 0), 0)]
theorem obX11_meanLoan_17 : dcd RX11 cX11_meanLoan 17 bX11_meanLoan_17 = true := by decide +kernel
def bX11_meanLoan_18 : List Op3 := [(18, .putfield 50, 3, (30, 0, 0, 0, 0, 0), 0), (21, .iconst 0, 1, (0, 0, 0, 0, 0, 0), nI 0), (22, .istore_n 3, 1, (3, 0, 0, 0, 0, 0), 0)]
theorem obX11_meanLoan_18 : dcd RX11 cX11_meanLoan 18 bX11_meanLoan_18 = true := by decide +kernel
def bX11_meanLoan_23 : List Op3 := [(23, .iload_n 3, 1, (3, 0, 0, 0, 0, 0), 0), (24, .aload_n 0, 1, (0, 0, 0, 0, 0, 0), 0), (25, .getfield 16, 3, (30, 5, 2, 31, 0, 0), 0), (28, .iconst 4, 1, (0, 0, 0, 0, 0, 0), nI 4), (29, .iaload, 1, (0, 0, 0, 0, 0, 0), 0), (30, .if_icmp .ge 34, 3, (64, 0, 0, 0, 0, 0), 0), (33, .iload_n 2, 1, (2, 0, 0, 0, 0, 0), 0), (34, .aload_n 0, 1, (0, 0, 0, 0, 0, 0), 0), (35, .iload_n 3, 1, (3, 0, 0, 0, 0, 0), 0)]
theorem obX11_meanLoan_23 : dcd RX11 cX11_meanLoan 23 bX11_meanLoan_23 = true := by decide +kernel
def bX11_meanLoan_39 : List Op3 := [(39, .ifCond .eq 7, 3, (46, 0, 0, 0, 0, 0), 0), (42, .iconst 0, 1, (0, 0, 0, 0, 0, 0), nI 0), (43, .goto 13, 3, (56, 0, 0, 0, 0, 0), 0)]
theorem obX11_meanLoan_39 : dcd RX11 cX11_meanLoan 39 bX11_meanLoan_39 = true := by decide +kernel
def bX11_meanLoan_46 : List Op3 := [(46, .aload_n 0, 1, (0, 0, 0, 0, 0, 0), 0), (47, .getfield 16, 3, (30, 5, 2, 31, 0, 0), 0), (50, .iload_n 3, 1, (3, 0, 0, 0, 0, 0), 0), (51, .iconst 4, 1, (0, 0, 0, 0, 0, 0), nI 4)]
theorem obX11_meanLoan_46 : dcd RX11 cX11_meanLoan 46 bX11_meanLoan_46 = true := by decide +kernel
def bX11_meanLoan_55 : List Op3 := [(55, .iaload, 1, (0, 0, 0, 0, 0, 0), 0), (56, .iadd, 1, (0, 0, 0, 0, 0, 0), 0), (57, .istore_n 2, 1, (2, 0, 0, 0, 0, 0), 0), (58, .iinc 3 1, 3, (3, 0, 0, 0, 0, 0), nI 1), (61, .goto (-38), 3, (23, 0, 0, 0, 0, 0), 0)]
theorem obX11_meanLoan_55 : dcd RX11 cX11_meanLoan 55 bX11_meanLoan_55 = true := by decide +kernel
def bX11_meanLoan_56 : List Op3 := [(56, .iadd, 1, (0, 0, 0, 0, 0, 0), 0), (57, .istore_n 2, 1, (2, 0, 0, 0, 0, 0), 0), (58, .iinc 3 1, 3, (3, 0, 0, 0, 0, 0), nI 1), (61, .goto (-38), 3, (23, 0, 0, 0, 0, 0), 0)]
theorem obX11_meanLoan_56 : dcd RX11 cX11_meanLoan 56 bX11_meanLoan_56 = true := by decide +kernel
def bX11_meanLoan_64 : List Op3 := [(64, .aload_n 0, 1, (0, 0, 0, 0, 0, 0), 0), (65, .getfield 50, 3, (30, 0, 0, 0, 0, 0), 0), (68, .ifCond .ne 11, 3, (79, 0, 0, 0, 0, 0), 0), (71, .iload_n 2, 1, (2, 0, 0, 0, 0, 0), 0), (72, .i2d, 1, (0, 0, 0, 0, 0, 0), 0), (73, .iload_n 1, 1, (1, 0, 0, 0, 0, 0), 0), (74, .i2d, 1, (0, 0, 0, 0, 0, 0), 0), (75, .ddiv, 1, (0, 0, 0, 0, 0, 0), 0), (76, .goto 4, 3, (80, 0, 0, 0, 0, 0), 0)]
theorem obX11_meanLoan_64 : dcd RX11 cX11_meanLoan 64 bX11_meanLoan_64 = true := by decide +kernel
def bX11_meanLoan_79 : List Op3 := [(79, .dconst 0, 1, (0, 0, 0, 0, 0, 0), 0), (80, .dreturn, 1, (0, 0, 0, 0, 0, 0), 0)]
theorem obX11_meanLoan_79 : dcd RX11 cX11_meanLoan 79 bX11_meanLoan_79 = true := by decide +kernel
def bX11_meanLoan_80 : List Op3 := [(80, .dreturn, 1, (0, 0, 0, 0, 0, 0), 0)]
theorem obX11_meanLoan_80 : dcd RX11 cX11_meanLoan 80 bX11_meanLoan_80 = true := by decide +kernel
def bX11_isConsistent_0 : List Op3 := [(0, .aload_n 0, 1, (0, 0, 0, 0, 0, 0), 0), (1, .iconst 0, 1, (0, 0, 0, 0, 0, 0), nI 0), (2, .putfield 50, 3, (30, 0, 0, 0, 0, 0), 0), (5, .aload_n 0, 1, (0, 0, 0, 0, 0, 0), 0), (6, .getfield 16, 3, (30, 5, 2, 31, 0, 0), 0), (9, .iconst 5, 1, (0, 0, 0, 0, 0, 0), nI 5), (10, .iaload, 1, (0, 0, 0, 0, 0, 0), 0), (11, .aload_n 0, 1, (0, 0, 0, 0, 0, 0), 0), (12, .getfield 16, 3, (30, 5, 2, 31, 0, 0), 0), (15, .bipush 7, 2, (0, 0, 0, 0, 0, 0), nI 7), (17, .iaload, 1, (0, 0, 0, 0, 0, 0), 0), (18, .iadd, 1, (0, 0, 0, 0, 0, 0), 0), (19, .istore_n 1, 1, (1, 0, 0, 0, 0, 0), 0), (20, .iconst 0, 1, (0, 0, 0, 0, 0, 0), nI 0), (21, .istore_n 2, 1, (2, 0, 0, 0, 0, 0), 0)]
theorem obX11_isConsistent_0 : dcd RX11 cX11_isConsistent 0 bX11_isConsistent_0 = true := by decide +kernel
def bX11_isConsistent_22 : List Op3 := [(22, .iload_n 2, 1, (2, 0, 0, 0, 0, 0), 0), (23, .aload_n 0, 1, (0, 0, 0, 0, 0, 0), 0), (24, .getfield 16, 3, (30, 5, 2, 31, 0, 0), 0), (27, .iconst 4, 1, (0, 0, 0, 0, 0, 0), nI 4), (28, .iaload, 1, (0, 0, 0, 0, 0, 0), 0), (29, .if_icmp .ge 22, 3, (51, 0, 0, 0, 0, 0), 0), (32, .iload_n 1, 1, (1, 0, 0, 0, 0, 0), 0), (33, .aload_n 0, 1, (0, 0, 0, 0, 0, 0), 0), (34, .getfield 16, 3, (30, 5, 2, 31, 0, 0), 0), (37, .iload_n 2, 1, (2, 0, 0, 0, 0, 0), 0), (38, .iconst 3, 1, (0, 0, 0, 0, 0, 0), nI 3)]
theorem obX11_isConsistent_22 : dcd RX11 cX11_isConsistent 22 bX11_isConsistent_22 = true := by decide +kernel
def bX11_isConsistent_42 : List Op3 := [(42, .iaload, 1, (0, 0, 0, 0, 0, 0), 0), (43, .iadd, 1, (0, 0, 0, 0, 0, 0), 0), (44, .istore_n 1, 1, (1, 0, 0, 0, 0, 0), 0), (45, .iinc 2 1, 3, (2, 0, 0, 0, 0, 0), nI 1), (48, .goto (-26), 3, (22, 0, 0, 0, 0, 0), 0)]
theorem obX11_isConsistent_42 : dcd RX11 cX11_isConsistent 42 bX11_isConsistent_42 = true := by decide +kernel
def bX11_isConsistent_51 : List Op3 := [(51, .iload_n 1, 1, (1, 0, 0, 0, 0, 0), 0), (52, .aload_n 0, 1, (0, 0, 0, 0, 0, 0), 0), (53, .getfield 16, 3, (30, 5, 2, 31, 0, 0), 0), (56, .bipush 8, 2, (0, 0, 0, 0, 0, 0), nI 8), (58, .iaload, 1, (0, 0, 0, 0, 0, 0), 0), (59, .if_icmp .ne 7, 3, (66, 0, 0, 0, 0, 0), 0), (62, .iconst 1, 1, (0, 0, 0, 0, 0, 0), nI 1), (63, .goto 4, 3, (67, 0, 0, 0, 0, 0), 0)]
theorem obX11_isConsistent_51 : dcd RX11 cX11_isConsistent 51 bX11_isConsistent_51 = true := by decide +kernel
def bX11_isConsistent_66 : List Op3 := [(66, .iconst 0, 1, (0, 0, 0, 0, 0, 0), nI 0), (67, .ireturn, 1, (0, 0, 0, 0, 0, 0), 0)]
theorem obX11_isConsistent_66 : dcd RX11 cX11_isConsistent 66 bX11_isConsistent_66 = true := by decide +kernel
def bX11_isConsistent_67 : List Op3 := [(67, .ireturn, 1, (0, 0, 0, 0, 0, 0), 0)]
theorem obX11_isConsistent_67 : dcd RX11 cX11_isConsistent 67 bX11_isConsistent_67 = true := by decide +kernel
def bX11_writes_0 : List Op3 := [(0, .aload_n 0, 1, (0, 0, 0, 0, 0, 0), 0), (1, .getfield 38, 3, (30, 12, 2, 38, 0, 0), 0), (4, .aload_n 0, 1, (0, 0, 0, 0, 0, 0), 0), (5, .getfield 172, 3, (30, 19, 0, 0, 0, 0), 0), (8, .iload_n 1, 1, (1, 0, 0, 0, 0, 0), 0), (9, .iastore, 1, (0, 0, 0, 0, 0, 0), 0), (10, .aload_n 0, 1, (0, 0, 0, 0, 0, 0), 0), (11, .dup, 1, (0, 0, 0, 0, 0, 0), 0), (12, .getfield 172, 3, (30, 19, 0, 0, 0, 0), 0), (15, .iconst 1, 1, (0, 0, 0, 0, 0, 0), nI 1), (16, .iadd, 1, (0, 0, 0, 0, 0, 0), 0), (17, .putfield 172, 3, (30, 19, 0, 0, 0, 0), 0), (20, .return_, 1, (0, 0, 0, 0, 0, 0), 0)]
theorem obX11_writes_0 : dcd RX11 cX11_writes 0 bX11_writes_0 = true := by decide +kernel
def bX11_writesNumber_0 : List Op3 := [(0, .iconst 1, 1, (0, 0, 0, 0, 0, 0), nI 1), (1, .istore_n 2, 1, (2, 0, 0, 0, 0, 0), 0)]
theorem obX11_writesNumber_0 : dcd RX11 cX11_writesNumber 0 bX11_writesNumber_0 = true := by decide +kernel
def bX11_writesNumber_2 : List Op3 := [(2, .iload_n 1, 1, (1, 0, 0, 0, 0, 0), 0), (3, .iload_n 2, 1, (2, 0, 0, 0, 0, 0), 0), (4, .idiv, 1, (0, 0, 0, 0, 0, 0), 0), (5, .bipush 10, 2, (0, 0, 0, 0, 0, 0), nI 10), (7, .if_icmp .lt 11, 3, (18, 0, 0, 0, 0, 0), 0), (10, .iload_n 2, 1, (2, 0, 0, 0, 0, 0), 0), (11, .bipush 10, 2, (0, 0, 0, 0, 0, 0), nI 10), (13, .imul, 1, (0, 0, 0, 0, 0, 0), 0), (14, .istore_n 2, 1, (2, 0, 0, 0, 0, 0), 0), (15, .goto (-13), 3, (2, 0, 0, 0, 0, 0), 0)]
theorem obX11_writesNumber_2 : dcd RX11 cX11_writesNumber 2 bX11_writesNumber_2 = true := by decide +kernel
def bX11_writesNumber_18 : List Op3 := [(18, .iload_n 2, 1, (2, 0, 0, 0, 0, 0), 0), (19, .ifCond .le 24, 3, (43, 0, 0, 0, 0, 0), 0), (22, .aload_n 0, 1, (0, 0, 0, 0, 0, 0), 0), (23, .bipush 48, 2, (0, 0, 0, 0, 0, 0), nI 48), (25, .iload_n 1, 1, (1, 0, 0, 0, 0, 0), 0), (26, .iload_n 2, 1, (2, 0, 0, 0, 0, 0), 0), (27, .idiv, 1, (0, 0, 0, 0, 0, 0), 0), (28, .bipush 10, 2, (0, 0, 0, 0, 0, 0), nI 10), (30, .irem, 1, (0, 0, 0, 0, 0, 0), 0), (31, .iadd, 1, (0, 0, 0, 0, 0, 0), 0)]
theorem obX11_writesNumber_18 : dcd RX11 cX11_writesNumber 18 bX11_writesNumber_18 = true := by decide +kernel
def bX11_writesNumber_35 : List Op3 := [(35, .iload_n 2, 1, (2, 0, 0, 0, 0, 0), 0), (36, .bipush 10, 2, (0, 0, 0, 0, 0, 0), nI 10), (38, .idiv, 1, (0, 0, 0, 0, 0, 0), 0), (39, .istore_n 2, 1, (2, 0, 0, 0, 0, 0), 0), (40, .goto (-22), 3, (18, 0, 0, 0, 0, 0), 0)]
theorem obX11_writesNumber_35 : dcd RX11 cX11_writesNumber 35 bX11_writesNumber_35 = true := by decide +kernel
def bX11_writesNumber_43 : List Op3 := [(43, .return_, 1, (0, 0, 0, 0, 0, 0), 0)]
theorem obX11_writesNumber_43 : dcd RX11 cX11_writesNumber 43 bX11_writesNumber_43 = true := by decide +kernel
def bX11_writesThree_0 : List Op3 := [(0, .aload_n 0, 1, (0, 0, 0, 0, 0, 0), 0), (1, .iload_n 1, 1, (1, 0, 0, 0, 0, 0), 0)]
theorem obX11_writesThree_0 : dcd RX11 cX11_writesThree 0 bX11_writesThree_0 = true := by decide +kernel
def bX11_writesThree_5 : List Op3 := [(5, .aload_n 0, 1, (0, 0, 0, 0, 0, 0), 0), (6, .iload_n 2, 1, (2, 0, 0, 0, 0, 0), 0)]
theorem obX11_writesThree_5 : dcd RX11 cX11_writesThree 5 bX11_writesThree_5 = true := by decide +kernel
def bX11_writesThree_10 : List Op3 := [(10, .aload_n 0, 1, (0, 0, 0, 0, 0, 0), 0), (11, .iload_n 3, 1, (3, 0, 0, 0, 0, 0), 0)]
theorem obX11_writesThree_10 : dcd RX11 cX11_writesThree 10 bX11_writesThree_10 = true := by decide +kernel
def bX11_writesThree_15 : List Op3 := [(15, .return_, 1, (0, 0, 0, 0, 0, 0), 0)]
theorem obX11_writesThree_15 : dcd RX11 cX11_writesThree 15 bX11_writesThree_15 = true := by decide +kernel
def bX11_writeSlip_0 : List Op3 := [(0, .aload_n 0, 1, (0, 0, 0, 0, 0, 0), 0), (1, .iload_n 1, 1, (1, 0, 0, 0, 0, 0), 0)]
theorem obX11_writeSlip_0 : dcd RX11 cX11_writeSlip 0 bX11_writeSlip_0 = true := by decide +kernel
def bX11_writeSlip_5 : List Op3 := [(5, .istore_n 2, 1, (2, 0, 0, 0, 0, 0), 0), (6, .iload_n 2, 1, (2, 0, 0, 0, 0, 0), 0), (7, .ifCond .ge 9, 3, (16, 0, 0, 0, 0, 0), 0), (10, .aload_n 0, 1, (0, 0, 0, 0, 0, 0), 0), (11, .iconst 1, 1, (0, 0, 0, 0, 0, 0), nI 1)]
theorem obX11_writeSlip_5 : dcd RX11 cX11_writeSlip 5 bX11_writeSlip_5 = true := by decide +kernel
def bX11_writeSlip_15 : List Op3 := [(15, .ireturn, 1, (0, 0, 0, 0, 0, 0), 0)]
theorem obX11_writeSlip_15 : dcd RX11 cX11_writeSlip 15 bX11_writeSlip_15 = true := by decide +kernel
def bX11_writeSlip_16 : List Op3 := [(16, .aload_n 0, 1, (0, 0, 0, 0, 0, 0), 0), (17, .iconst 0, 1, (0, 0, 0, 0, 0, 0), nI 0), (18, .putfield 50, 3, (30, 0, 0, 0, 0, 0), 0), (21, .aload_n 0, 1, (0, 0, 0, 0, 0, 0), 0), (22, .iconst 0, 1, (0, 0, 0, 0, 0, 0), nI 0), (23, .putfield 172, 3, (30, 19, 0, 0, 0, 0), 0), (26, .aload_n 0, 1, (0, 0, 0, 0, 0, 0), 0), (27, .bipush 35, 2, (0, 0, 0, 0, 0, 0), nI 35)]
theorem obX11_writeSlip_16 : dcd RX11 cX11_writeSlip 16 bX11_writeSlip_16 = true := by decide +kernel
def bX11_writeSlip_32 : List Op3 := [(32, .aload_n 0, 1, (0, 0, 0, 0, 0, 0), 0), (33, .iload_n 1, 1, (1, 0, 0, 0, 0, 0), 0)]
theorem obX11_writeSlip_32 : dcd RX11 cX11_writeSlip 32 bX11_writeSlip_32 = true := by decide +kernel
def bX11_writeSlip_37 : List Op3 := [(37, .aload_n 0, 1, (0, 0, 0, 0, 0, 0), 0), (38, .bipush 32, 2, (0, 0, 0, 0, 0, 0), nI 32)]
theorem obX11_writeSlip_37 : dcd RX11 cX11_writeSlip 37 bX11_writeSlip_37 = true := by decide +kernel
def bX11_writeSlip_43 : List Op3 := [(43, .aload_n 0, 1, (0, 0, 0, 0, 0, 0), 0), (44, .aload_n 0, 1, (0, 0, 0, 0, 0, 0), 0), (45, .getfield 16, 3, (30, 5, 2, 31, 0, 0), 0), (48, .iload_n 2, 1, (2, 0, 0, 0, 0, 0), 0), (49, .iconst 3, 1, (0, 0, 0, 0, 0, 0), nI 3)]
theorem obX11_writeSlip_43 : dcd RX11 cX11_writeSlip 43 bX11_writeSlip_43 = true := by decide +kernel
def bX11_writeSlip_53 : List Op3 := [(53, .iaload, 1, (0, 0, 0, 0, 0, 0), 0)]
theorem obX11_writeSlip_53 : dcd RX11 cX11_writeSlip 53 bX11_writeSlip_53 = true := by decide +kernel
def bX11_writeSlip_57 : List Op3 := [(57, .aload_n 0, 1, (0, 0, 0, 0, 0, 0), 0), (58, .bipush 109, 2, (0, 0, 0, 0, 0, 0), nI 109), (60, .bipush 105, 2, (0, 0, 0, 0, 0, 0), nI 105), (62, .bipush 110, 2, (0, 0, 0, 0, 0, 0), nI 110)]
theorem obX11_writeSlip_57 : dcd RX11 cX11_writeSlip 57 bX11_writeSlip_57 = true := by decide +kernel
def bX11_writeSlip_67 : List Op3 := [(67, .aload_n 0, 1, (0, 0, 0, 0, 0, 0), 0), (68, .bipush 32, 2, (0, 0, 0, 0, 0, 0), nI 32)]
theorem obX11_writeSlip_67 : dcd RX11 cX11_writeSlip 67 bX11_writeSlip_67 = true := by decide +kernel
def bX11_writeSlip_73 : List Op3 := [(73, .aload_n 0, 1, (0, 0, 0, 0, 0, 0), 0), (74, .aload_n 0, 1, (0, 0, 0, 0, 0, 0), 0), (75, .getfield 16, 3, (30, 5, 2, 31, 0, 0), 0), (78, .iload_n 2, 1, (2, 0, 0, 0, 0, 0), 0), (79, .iconst 4, 1, (0, 0, 0, 0, 0, 0), nI 4)]
theorem obX11_writeSlip_73 : dcd RX11 cX11_writeSlip 73 bX11_writeSlip_73 = true := by decide +kernel
def bX11_writeSlip_83 : List Op3 := [(83, .iaload, 1, (0, 0, 0, 0, 0, 0), 0)]
theorem obX11_writeSlip_83 : dcd RX11 cX11_writeSlip 83 bX11_writeSlip_83 = true := by decide +kernel
def bX11_writeSlip_87 : List Op3 := [(87, .aload_n 0, 1, (0, 0, 0, 0, 0, 0), 0), (88, .bipush 99, 2, (0, 0, 0, 0, 0, 0), nI 99)]
theorem obX11_writeSlip_87 : dcd RX11 cX11_writeSlip 87 bX11_writeSlip_87 = true := by decide +kernel
def bX11_writeSlip_93 : List Op3 := [(93, .aload_n 0, 1, (0, 0, 0, 0, 0, 0), 0), (94, .bipush 32, 2, (0, 0, 0, 0, 0, 0), nI 32)]
theorem obX11_writeSlip_93 : dcd RX11 cX11_writeSlip 93 bX11_writeSlip_93 = true := by decide +kernel
def bX11_writeSlip_99 : List Op3 := [(99, .aload_n 0, 1, (0, 0, 0, 0, 0, 0), 0), (100, .iload_n 2, 1, (2, 0, 0, 0, 0, 0), 0)]
theorem obX11_writeSlip_99 : dcd RX11 cX11_writeSlip 99 bX11_writeSlip_99 = true := by decide +kernel
def bX11_writeSlip_104 : List Op3 := [(104, .ifCond .ne 59, 3, (163, 0, 0, 0, 0, 0), 0), (107, .aload_n 0, 1, (0, 0, 0, 0, 0, 0), 0), (108, .bipush 98, 2, (0, 0, 0, 0, 0, 0), nI 98), (110, .bipush 121, 2, (0, 0, 0, 0, 0, 0), nI 121), (112, .bipush 32, 2, (0, 0, 0, 0, 0, 0), nI 32)]
theorem obX11_writeSlip_104 : dcd RX11 cX11_writeSlip 104 bX11_writeSlip_104 = true := by decide +kernel
def bX11_writeSlip_117 : List Op3 := [(117, .aload_n 0, 1, (0, 0, 0, 0, 0, 0), 0), (118, .aload_n 0, 1, (0, 0, 0, 0, 0, 0), 0), (119, .getfield 16, 3, (30, 5, 2, 31, 0, 0), 0), (122, .iload_n 2, 1, (2, 0, 0, 0, 0, 0), 0), (123, .bipush 6, 2, (0, 0, 0, 0, 0, 0), nI 6)]
theorem obX11_writeSlip_117 : dcd RX11 cX11_writeSlip 117 bX11_writeSlip_117 = true := by decide +kernel
def bX11_writeSlip_128 : List Op3 := [(128, .iaload, 1, (0, 0, 0, 0, 0, 0), 0)]
theorem obX11_writeSlip_128 : dcd RX11 cX11_writeSlip 128 bX11_writeSlip_128 = true := by decide +kernel
def bX11_writeSlip_132 : List Op3 := [(132, .aload_n 0, 1, (0, 0, 0, 0, 0, 0), 0), (133, .getfield 16, 3, (30, 5, 2, 31, 0, 0), 0), (136, .iload_n 2, 1, (2, 0, 0, 0, 0, 0), 0), (137, .bipush 6, 2, (0, 0, 0, 0, 0, 0), nI 6)]
theorem obX11_writeSlip_132 : dcd RX11 cX11_writeSlip 132 bX11_writeSlip_132 = true := by decide +kernel
def bX11_writeSlip_142 : List Op3 := [(142, .iaload, 1, (0, 0, 0, 0, 0, 0), 0), (143, .aload_n 0, 1, (0, 0, 0, 0, 0, 0), 0), (144, .getfield 16, 3, (30, 5, 2, 31, 0, 0), 0), (147, .iconst 0, 1, (0, 0, 0, 0, 0, 0), nI 0), (148, .iaload, 1, (0, 0, 0, 0, 0, 0), 0), (149, .if_icmp .ne 9, 3, (158, 0, 0, 0, 0, 0), 0), (152, .aload_n 0, 1, (0, 0, 0, 0, 0, 0), 0), (153, .bipush 63, 2, (0, 0, 0, 0, 0, 0), nI 63)]
theorem obX11_writeSlip_142 : dcd RX11 cX11_writeSlip 142 bX11_writeSlip_142 = true := by decide +kernel
def bX11_writeSlip_158 : List Op3 := [(158, .aload_n 0, 1, (0, 0, 0, 0, 0, 0), 0), (159, .getfield 172, 3, (30, 19, 0, 0, 0, 0), 0), (162, .ireturn, 1, (0, 0, 0, 0, 0, 0), 0)]
theorem obX11_writeSlip_158 : dcd RX11 cX11_writeSlip 158 bX11_writeSlip_158 = true := by decide +kernel
def bX11_writeSlip_163 : List Op3 := [(163, .aload_n 0, 1, (0, 0, 0, 0, 0, 0), 0), (164, .bipush 108, 2, (0, 0, 0, 0, 0, 0), nI 108), (166, .bipush 111, 2, (0, 0, 0, 0, 0, 0), nI 111), (168, .bipush 116, 2, (0, 0, 0, 0, 0, 0), nI 116)]
theorem obX11_writeSlip_163 : dcd RX11 cX11_writeSlip 163 bX11_writeSlip_163 = true := by decide +kernel
def bX11_writeSlip_173 : List Op3 := [(173, .iconst 0, 1, (0, 0, 0, 0, 0, 0), nI 0), (174, .istore_n 3, 1, (3, 0, 0, 0, 0, 0), 0)]
theorem obX11_writeSlip_173 : dcd RX11 cX11_writeSlip 173 bX11_writeSlip_173 = true := by decide +kernel
def bX11_writeSlip_175 : List Op3 := [(175, .iload_n 3, 1, (3, 0, 0, 0, 0, 0), 0), (176, .iconst 5, 1, (0, 0, 0, 0, 0, 0), nI 5), (177, .if_icmp .ge 43, 3, (220, 0, 0, 0, 0, 0), 0), (180, .aload_n 0, 1, (0, 0, 0, 0, 0, 0), 0), (181, .iload_n 2, 1, (2, 0, 0, 0, 0, 0), 0), (182, .iload_n 3, 1, (3, 0, 0, 0, 0, 0), 0)]
theorem obX11_writeSlip_175 : dcd RX11 cX11_writeSlip 175 bX11_writeSlip_175 = true := by decide +kernel
def bX11_writeSlip_186 : List Op3 := [(186, .ifCond .ne 6, 3, (192, 0, 0, 0, 0, 0), 0), (189, .goto 25, 3, (214, 0, 0, 0, 0, 0), 0)]
theorem obX11_writeSlip_186 : dcd RX11 cX11_writeSlip 186 bX11_writeSlip_186 = true := by decide +kernel
def bX11_writeSlip_192 : List Op3 := [(192, .aload_n 0, 1, (0, 0, 0, 0, 0, 0), 0), (193, .bipush 32, 2, (0, 0, 0, 0, 0, 0), nI 32), (195, .bipush 48, 2, (0, 0, 0, 0, 0, 0), nI 48), (197, .iload_n 3, 1, (3, 0, 0, 0, 0, 0), 0), (198, .iadd, 1, (0, 0, 0, 0, 0, 0), 0), (199, .bipush 58, 2, (0, 0, 0, 0, 0, 0), nI 58)]
theorem obX11_writeSlip_192 : dcd RX11 cX11_writeSlip 192 bX11_writeSlip_192 = true := by decide +kernel
def bX11_writeSlip_204 : List Op3 := [(204, .aload_n 0, 1, (0, 0, 0, 0, 0, 0), 0), (205, .aload_n 0, 1, (0, 0, 0, 0, 0, 0), 0), (206, .iload_n 2, 1, (2, 0, 0, 0, 0, 0), 0), (207, .iload_n 3, 1, (3, 0, 0, 0, 0, 0), 0)]
theorem obX11_writeSlip_204 : dcd RX11 cX11_writeSlip 204 bX11_writeSlip_204 = true := by decide +kernel
def bX11_writeSlip_214 : List Op3 := [(214, .iinc 3 1, 3, (3, 0, 0, 0, 0, 0), nI 1), (217, .goto (-42), 3, (175, 0, 0, 0, 0, 0), 0)]
theorem obX11_writeSlip_214 : dcd RX11 cX11_writeSlip 214 bX11_writeSlip_214 = true := by decide +kernel
def bX11_writeSlip_220 : List Op3 := [(220, .aload_n 0, 1, (0, 0, 0, 0, 0, 0), 0), (221, .getfield 172, 3, (30, 19, 0, 0, 0, 0), 0), (224, .ireturn, 1, (0, 0, 0, 0, 0, 0), 0)]
theorem obX11_writeSlip_220 : dcd RX11 cX11_writeSlip 220 bX11_writeSlip_220 = true := by decide +kernel
def bX11_slipAt_0 : List Op3 := [(0, .aload_n 0, 1, (0, 0, 0, 0, 0, 0), 0), (1, .iload_n 1, 1, (1, 0, 0, 0, 0, 0), 0), (2, .iconst 0, 1, (0, 0, 0, 0, 0, 0), nI 0), (3, .aload_n 0, 1, (0, 0, 0, 0, 0, 0), 0), (4, .getfield 172, 3, (30, 19, 0, 0, 0, 0), 0), (7, .iconst 1, 1, (0, 0, 0, 0, 0, 0), nI 1), (8, .isub, 1, (0, 0, 0, 0, 0, 0), 0)]
theorem obX11_slipAt_0 : dcd RX11 cX11_slipAt 0 bX11_slipAt_0 = true := by decide +kernel
def bX11_slipAt_12 : List Op3 := [(12, .ifCond .eq 7, 3, (19, 0, 0, 0, 0, 0), 0), (15, .iconst 0, 1, (0, 0, 0, 0, 0, 0), nI 0), (16, .goto 4, 3, (20, 0, 0, 0, 0, 0), 0)]
theorem obX11_slipAt_12 : dcd RX11 cX11_slipAt 12 bX11_slipAt_12 = true := by decide +kernel
def bX11_slipAt_19 : List Op3 := [(19, .iconst 1, 1, (0, 0, 0, 0, 0, 0), nI 1), (20, .putfield 50, 3, (30, 0, 0, 0, 0, 0), 0), (23, .aload_n 0, 1, (0, 0, 0, 0, 0, 0), 0), (24, .getfield 50, 3, (30, 0, 0, 0, 0, 0), 0), (27, .ifCond .ne 13, 3, (40, 0, 0, 0, 0, 0), 0), (30, .aload_n 0, 1, (0, 0, 0, 0, 0, 0), 0), (31, .getfield 38, 3, (30, 12, 2, 38, 0, 0), 0), (34, .iload_n 1, 1, (1, 0, 0, 0, 0, 0), 0), (35, .iaload, 1, (0, 0, 0, 0, 0, 0), 0), (36, .i2c, 1, (0, 0, 0, 0, 0, 0), 0), (37, .goto 5, 3, (42, 0, 0, 0, 0, 0), 0)]
theorem obX11_slipAt_19 : dcd RX11 cX11_slipAt 19 bX11_slipAt_19 = true := by decide +kernel
def bX11_slipAt_20 : List Op3 := [(20, .putfield 50, 3, (30, 0, 0, 0, 0, 0), 0), (23, .aload_n 0, 1, (0, 0, 0, 0, 0, 0), 0), (24, .getfield 50, 3, (30, 0, 0, 0, 0, 0), 0), (27, .ifCond .ne 13, 3, (40, 0, 0, 0, 0, 0), 0), (30, .aload_n 0, 1, (0, 0, 0, 0, 0, 0), 0), (31, .getfield 38, 3, (30, 12, 2, 38, 0, 0), 0), (34, .iload_n 1, 1, (1, 0, 0, 0, 0, 0), 0), (35, .iaload, 1, (0, 0, 0, 0, 0, 0), 0), (36, .i2c, 1, (0, 0, 0, 0, 0, 0), 0), (37, .goto 5, 3, (42, 0, 0, 0, 0, 0), 0)]
theorem obX11_slipAt_20 : dcd RX11 cX11_slipAt 20 bX11_slipAt_20 = true := by decide +kernel
def bX11_slipAt_40 : List Op3 := [(40, .bipush 97, 2, (0, 0, 0, 0, 0, 0), nI 97), (42, .ireturn, 1, (0, 0, 0, 0, 0, 0), 0)]
theorem obX11_slipAt_40 : dcd RX11 cX11_slipAt 40 bX11_slipAt_40 = true := by decide +kernel
def bX11_slipAt_42 : List Op3 := [(42, .ireturn, 1, (0, 0, 0, 0, 0, 0), 0)]
theorem obX11_slipAt_42 : dcd RX11 cX11_slipAt 42 bX11_slipAt_42 = true := by decide +kernel
def bX11_type_0 : List Op3 := [(0, .aload_n 0, 1, (0, 0, 0, 0, 0, 0), 0), (1, .iload_n 1, 1, (1, 0, 0, 0, 0, 0), 0), (2, .bipush 32, 2, (0, 0, 0, 0, 0, 0), nI 32), (4, .bipush 126, 2, (0, 0, 0, 0, 0, 0), nI 126)]
theorem obX11_type_0 : dcd RX11 cX11_type 0 bX11_type_0 = true := by decide +kernel
def bX11_type_9 : List Op3 := [(9, .ifCond .ne 7, 3, (16, 0, 0, 0, 0, 0), 0), (12, .iconst 1, 1, (0, 0, 0, 0, 0, 0), nI 1), (13, .goto 17, 3, (30, 0, 0, 0, 0, 0), 0)]
theorem obX11_type_9 : dcd RX11 cX11_type 9 bX11_type_9 = true := by decide +kernel
def bX11_type_16 : List Op3 := [(16, .aload_n 0, 1, (0, 0, 0, 0, 0, 0), 0), (17, .getfield 185, 3, (30, 16, 0, 0, 0, 0), 0), (20, .bipush 60, 2, (0, 0, 0, 0, 0, 0), nI 60), (22, .if_icmp .ne 7, 3, (29, 0, 0, 0, 0, 0), 0), (25, .iconst 2, 1, (0, 0, 0, 0, 0, 0), nI 2), (26, .goto 4, 3, (30, 0, 0, 0, 0, 0), 0)]
theorem obX11_type_16 : dcd RX11 cX11_type 16 bX11_type_16 = true := by decide +kernel
def bX11_type_29 : List Op3 := [(29, .iconst 0, 1, (0, 0, 0, 0, 0, 0), nI 0), (30, .putfield 50, 3, (30, 0, 0, 0, 0, 0), 0), (33, .aload_n 0, 1, (0, 0, 0, 0, 0, 0), 0), (34, .getfield 50, 3, (30, 0, 0, 0, 0, 0), 0), (37, .ifCond .eq 5, 3, (42, 0, 0, 0, 0, 0), 0), (40, .iconst 0, 1, (0, 0, 0, 0, 0, 0), nI 0), (41, .ireturn, 1, (0, 0, 0, 0, 0, 0), 0)]
theorem obX11_type_29 : dcd RX11 cX11_type 29 bX11_type_29 = true := by decide +kernel
def bX11_type_30 : List Op3 := [(30, .putfield 50, 3, (30, 0, 0, 0, 0, 0), 0), (33, .aload_n 0, 1, (0, 0, 0, 0, 0, 0), 0), (34, .getfield 50, 3, (30, 0, 0, 0, 0, 0), 0), (37, .ifCond .eq 5, 3, (42, 0, 0, 0, 0, 0), 0), (40, .iconst 0, 1, (0, 0, 0, 0, 0, 0), nI 0), (41, .ireturn, 1, (0, 0, 0, 0, 0, 0), 0)]
theorem obX11_type_30 : dcd RX11 cX11_type 30 bX11_type_30 = true := by decide +kernel
def bX11_type_42 : List Op3 := [(42, .aload_n 0, 1, (0, 0, 0, 0, 0, 0), 0), (43, .getfield 35, 3, (30, 11, 2, 37, 0, 0), 0), (46, .aload_n 0, 1, (0, 0, 0, 0, 0, 0), 0), (47, .getfield 185, 3, (30, 16, 0, 0, 0, 0), 0), (50, .iload_n 1, 1, (1, 0, 0, 0, 0, 0), 0), (51, .iastore, 1, (0, 0, 0, 0, 0, 0), 0), (52, .aload_n 0, 1, (0, 0, 0, 0, 0, 0), 0), (53, .dup, 1, (0, 0, 0, 0, 0, 0), 0), (54, .getfield 185, 3, (30, 16, 0, 0, 0, 0), 0), (57, .iconst 1, 1, (0, 0, 0, 0, 0, 0), nI 1), (58, .iadd, 1, (0, 0, 0, 0, 0, 0), 0), (59, .putfield 185, 3, (30, 16, 0, 0, 0, 0), 0), (62, .aload_n 0, 1, (0, 0, 0, 0, 0, 0), 0), (63, .getfield 185, 3, (30, 16, 0, 0, 0, 0), 0), (66, .ireturn, 1, (0, 0, 0, 0, 0, 0), 0)]
theorem obX11_type_42 : dcd RX11 cX11_type 42 bX11_type_42 = true := by decide +kernel
def bX11_sign_0 : List Op3 := [(0, .aload_n 0, 1, (0, 0, 0, 0, 0, 0), 0), (1, .getfield 188, 3, (30, 17, 0, 0, 0, 0), 0), (4, .aload_n 0, 1, (0, 0, 0, 0, 0, 0), 0), (5, .getfield 191, 3, (30, 18, 0, 0, 0, 0), 0), (8, .if_icmp .ge 15, 3, (23, 0, 0, 0, 0, 0), 0), (11, .aload_n 0, 1, (0, 0, 0, 0, 0, 0), 0), (12, .getfield 35, 3, (30, 11, 2, 37, 0, 0), 0), (15, .aload_n 0, 1, (0, 0, 0, 0, 0, 0), 0), (16, .getfield 188, 3, (30, 17, 0, 0, 0, 0), 0), (19, .iaload, 1, (0, 0, 0, 0, 0, 0), 0), (20, .goto 4, 3, (24, 0, 0, 0, 0, 0), 0)]
theorem obX11_sign_0 : dcd RX11 cX11_sign 0 bX11_sign_0 = true := by decide +kernel
def bX11_sign_23 : List Op3 := [(23, .iconst (-1), 1, (0, 0, 0, 0, 0, 0), -1), (24, .ireturn, 1, (0, 0, 0, 0, 0, 0), 0)]
theorem obX11_sign_23 : dcd RX11 cX11_sign 23 bX11_sign_23 = true := by decide +kernel
def bX11_sign_24 : List Op3 := [(24, .ireturn, 1, (0, 0, 0, 0, 0, 0), 0)]
theorem obX11_sign_24 : dcd RX11 cX11_sign 24 bX11_sign_24 = true := by decide +kernel
def bX11_mark_0 : List Op3 := [(0, .aload_n 0, 1, (0, 0, 0, 0, 0, 0), 0), (1, .getfield 194, 3, (30, 20, 0, 0, 0, 0), 0), (4, .ifCond .eq 4, 3, (8, 0, 0, 0, 0, 0), 0), (7, .return_, 1, (0, 0, 0, 0, 0, 0), 0)]
theorem obX11_mark_0 : dcd RX11 cX11_mark 0 bX11_mark_0 = true := by decide +kernel
def bX11_mark_8 : List Op3 := [(8, .aload_n 0, 1, (0, 0, 0, 0, 0, 0), 0), (9, .aload_n 0, 1, (0, 0, 0, 0, 0, 0), 0)]
theorem obX11_mark_8 : dcd RX11 cX11_mark 8 bX11_mark_8 = true := by decide +kernel
def bX11_mark_13 : List Op3 := [(13, .iload_n 1, 1, (1, 0, 0, 0, 0, 0), 0), (14, .if_icmp .eq 7, 3, (21, 0, 0, 0, 0, 0), 0), (17, .iconst 1, 1, (0, 0, 0, 0, 0, 0), nI 1), (18, .goto 4, 3, (22, 0, 0, 0, 0, 0), 0)]
theorem obX11_mark_13 : dcd RX11 cX11_mark 13 bX11_mark_13 = true := by decide +kernel
def bX11_mark_21 : List Op3 := [(21, .iconst 0, 1, (0, 0, 0, 0, 0, 0), nI 0), (22, .putfield 194, 3, (30, 20, 3, 0, 0, 0), 0), (25, .aload_n 0, 1, (0, 0, 0, 0, 0, 0), 0), (26, .dup, 1, (0, 0, 0, 0, 0, 0), 0), (27, .getfield 188, 3, (30, 17, 0, 0, 0, 0), 0), (30, .aload_n 0, 1, (0, 0, 0, 0, 0, 0), 0), (31, .getfield 194, 3, (30, 20, 0, 0, 0, 0), 0), (34, .ifCond .eq 7, 3, (41, 0, 0, 0, 0, 0), 0), (37, .iconst 0, 1, (0, 0, 0, 0, 0, 0), nI 0), (38, .goto 4, 3, (42, 0, 0, 0, 0, 0), 0)]
theorem obX11_mark_21 : dcd RX11 cX11_mark 21 bX11_mark_21 = true := by decide +kernel
def bX11_mark_22 : List Op3 := [(22, .putfield 194, 3, (30, 20, 3, 0, 0, 0), 0), (25, .aload_n 0, 1, (0, 0, 0, 0, 0, 0), 0), (26, .dup, 1, (0, 0, 0, 0, 0, 0), 0), (27, .getfield 188, 3, (30, 17, 0, 0, 0, 0), 0), (30, .aload_n 0, 1, (0, 0, 0, 0, 0, 0), 0), (31, .getfield 194, 3, (30, 20, 0, 0, 0, 0), 0), (34, .ifCond .eq 7, 3, (41, 0, 0, 0, 0, 0), 0), (37, .iconst 0, 1, (0, 0, 0, 0, 0, 0), nI 0), (38, .goto 4, 3, (42, 0, 0, 0, 0, 0), 0)]
theorem obX11_mark_22 : dcd RX11 cX11_mark 22 bX11_mark_22 = true := by decide +kernel
def bX11_mark_41 : List Op3 := [(41, .iconst 1, 1, (0, 0, 0, 0, 0, 0), nI 1), (42, .iadd, 1, (0, 0, 0, 0, 0, 0), 0), (43, .putfield 188, 3, (30, 17, 0, 0, 0, 0), 0), (46, .return_, 1, (0, 0, 0, 0, 0, 0), 0)]
theorem obX11_mark_41 : dcd RX11 cX11_mark 41 bX11_mark_41 = true := by decide +kernel
def bX11_mark_42 : List Op3 := [(42, .iadd, 1, (0, 0, 0, 0, 0, 0), 0), (43, .putfield 188, 3, (30, 17, 0, 0, 0, 0), 0), (46, .return_, 1, (0, 0, 0, 0, 0, 0), 0)]
theorem obX11_mark_42 : dcd RX11 cX11_mark 42 bX11_mark_42 = true := by decide +kernel
def bX11_digits_0 : List Op3 := [(0, .iconst 0, 1, (0, 0, 0, 0, 0, 0), nI 0), (1, .istore_n 2, 1, (2, 0, 0, 0, 0, 0), 0), (2, .iconst 0, 1, (0, 0, 0, 0, 0, 0), nI 0), (3, .istore_n 3, 1, (3, 0, 0, 0, 0, 0), 0)]
theorem obX11_digits_0 : dcd RX11 cX11_digits 0 bX11_digits_0 = true := by decide +kernel
def bX11_digits_4 : List Op3 := [(4, .aload_n 0, 1, (0, 0, 0, 0, 0, 0), 0), (5, .getfield 194, 3, (30, 20, 0, 0, 0, 0), 0), (8, .ifCond .ne 51, 3, (59, 0, 0, 0, 0, 0), 0), (11, .iload_n 3, 1, (3, 0, 0, 0, 0, 0), 0), (12, .iload_n 1, 1, (1, 0, 0, 0, 0, 0), 0), (13, .if_icmp .ge 46, 3, (59, 0, 0, 0, 0, 0), 0), (16, .aload_n 0, 1, (0, 0, 0, 0, 0, 0), 0)]
theorem obX11_digits_4 : dcd RX11 cX11_digits 4 bX11_digits_4 = true := by decide +kernel
def bX11_digits_20 : List Op3 := [(20, .bipush 48, 2, (0, 0, 0, 0, 0, 0), nI 48), (22, .bipush 57, 2, (0, 0, 0, 0, 0, 0), nI 57)]
theorem obX11_digits_20 : dcd RX11 cX11_digits 20 bX11_digits_20 = true := by decide +kernel
def bX11_digits_27 : List Op3 := [(27, .ifCond .eq 32, 3, (59, 0, 0, 0, 0, 0), 0), (30, .bipush 10, 2, (0, 0, 0, 0, 0, 0), nI 10), (32, .iload_n 2, 1, (2, 0, 0, 0, 0, 0), 0), (33, .imul, 1, (0, 0, 0, 0, 0, 0), 0), (34, .aload_n 0, 1, (0, 0, 0, 0, 0, 0), 0)]
theorem obX11_digits_27 : dcd RX11 cX11_digits 27 bX11_digits_27 = true := by decide +kernel
def bX11_digits_38 : List Op3 := [(38, .iadd, 1, (0, 0, 0, 0, 0, 0), 0), (39, .bipush 48, 2, (0, 0, 0, 0, 0, 0), nI 48), (41, .isub, 1, (0, 0, 0, 0, 0, 0), 0), (42, .istore_n 2, 1, (2, 0, 0, 0, 0, 0), 0), (43, .aload_n 0, 1, (0, 0, 0, 0, 0, 0), 0), (44, .dup, 1, (0, 0, 0, 0, 0, 0), 0), (45, .getfield 188, 3, (30, 17, 0, 0, 0, 0), 0), (48, .iconst 1, 1, (0, 0, 0, 0, 0, 0), nI 1), (49, .iadd, 1, (0, 0, 0, 0, 0, 0), 0), (50, .putfield 188, 3, (30, 17, 0, 0, 0, 0), 0), (53, .iinc 3 1, 3, (3, 0, 0, 0, 0, 0), nI 1), (56, .goto (-52), 3, (4, 0, 0, 0, 0, 0), 0)]
theorem obX11_digits_38 : dcd RX11 cX11_digits 38 bX11_digits_38 = true := by decide +kernel
def bX11_digits_59 : List Op3 := [(59, .aload_n 0, 1, (0, 0, 0, 0, 0, 0), 0), (60, .dup, 1, (0, 0, 0, 0, 0, 0), 0), (61, .getfield 194, 3, (30, 20, 0, 0, 0, 0), 0), (64, .iload_n 3, 1, (3, 0, 0, 0, 0, 0), 0), (65, .ifCond .ne 7, 3, (72, 0, 0, 0, 0, 0), 0), (68, .iconst 1, 1, (0, 0, 0, 0, 0, 0), nI 1), (69, .goto 4, 3, (73, 0, 0, 0, 0, 0), 0)]
theorem obX11_digits_59 : dcd RX11 cX11_digits 59 bX11_digits_59 = true := by decide +kernel
def bX11_digits_72 : List Op3 := [(72, .iconst 0, 1, (0, 0, 0, 0, 0, 0), nI 0), (73, .ior, 1, (0, 0, 0, 0, 0, 0), 0), (74, .putfield 194, 3, (30, 20, 3, 0, 0, 0), 0), (77, .iload_n 2, 1, (2, 0, 0, 0, 0, 0), 0), (78, .ireturn, 1, (0, 0, 0, 0, 0, 0), 0)]
theorem obX11_digits_72 : dcd RX11 cX11_digits 72 bX11_digits_72 = true := by decide +kernel
def bX11_digits_73 : List Op3 := [(73, .ior, 1, (0, 0, 0, 0, 0, 0), 0), (74, .putfield 194, 3, (30, 20, 3, 0, 0, 0), 0), (77, .iload_n 2, 1, (2, 0, 0, 0, 0, 0), 0), (78, .ireturn, 1, (0, 0, 0, 0, 0, 0), 0)]
theorem obX11_digits_73 : dcd RX11 cX11_digits 73 bX11_digits_73 = true := by decide +kernel
def bX11_behind_0 : List Op3 := [(0, .aload_n 0, 1, (0, 0, 0, 0, 0, 0), 0), (1, .bipush 32, 2, (0, 0, 0, 0, 0, 0), nI 32)]
theorem obX11_behind_0 : dcd RX11 cX11_behind 0 bX11_behind_0 = true := by decide +kernel
def bX11_behind_6 : List Op3 := [(6, .aload_n 0, 1, (0, 0, 0, 0, 0, 0), 0), (7, .getfield 194, 3, (30, 20, 0, 0, 0, 0), 0), (10, .ifCond .eq 7, 3, (17, 0, 0, 0, 0, 0), 0), (13, .iconst 0, 1, (0, 0, 0, 0, 0, 0), nI 0), (14, .goto 8, 3, (22, 0, 0, 0, 0, 0), 0)]
theorem obX11_behind_6 : dcd RX11 cX11_behind 6 bX11_behind_6 = true := by decide +kernel
def bX11_behind_17 : List Op3 := [(17, .aload_n 0, 1, (0, 0, 0, 0, 0, 0), 0), (18, .iload_n 1, 1, (1, 0, 0, 0, 0, 0), 0)]
theorem obX11_behind_17 : dcd RX11 cX11_behind 17 bX11_behind_17 = true := by decide +kernel
def bX11_behind_22 : List Op3 := [(22, .ireturn, 1, (0, 0, 0, 0, 0, 0), 0)]
theorem obX11_behind_22 : dcd RX11 cX11_behind 22 bX11_behind_22 = true := by decide +kernel
def bX11_word_0 : List Op3 := [(0, .iconst 0, 1, (0, 0, 0, 0, 0, 0), nI 0), (1, .istore_n 1, 1, (1, 0, 0, 0, 0, 0), 0)]
theorem obX11_word_0 : dcd RX11 cX11_word 0 bX11_word_0 = true := by decide +kernel
def bX11_word_2 : List Op3 := [(2, .iload_n 1, 1, (1, 0, 0, 0, 0, 0), 0), (3, .bipush 9, 2, (0, 0, 0, 0, 0, 0), nI 9), (5, .if_icmp .ge 16, 3, (21, 0, 0, 0, 0, 0), 0), (8, .aload_n 0, 1, (0, 0, 0, 0, 0, 0), 0), (9, .getfield 41, 3, (30, 13, 2, 39, 0, 0), 0), (12, .iload_n 1, 1, (1, 0, 0, 0, 0, 0), 0), (13, .iconst 1, 1, (0, 0, 0, 0, 0, 0), nI 1), (14, .iastore, 1, (0, 0, 0, 0, 0, 0), 0), (15, .iinc 1 1, 3, (1, 0, 0, 0, 0, 0), nI 1), (18, .goto (-16), 3, (2, 0, 0, 0, 0, 0), 0)]
theorem obX11_word_2 : dcd RX11 cX11_word 2 bX11_word_2 = true := by decide +kernel
def bX11_word_21 : List Op3 := [(21, .iconst 0, 1, (0, 0, 0, 0, 0, 0), nI 0), (22, .istore_n 1, 1, (1, 0, 0, 0, 0, 0), 0), (23, .iconst (-1), 1, (0, 0, 0, 0, 0, 0), -1), (24, .istore_n 2, 1, (2, 0, 0, 0, 0, 0), 0)]
theorem obX11_word_21 : dcd RX11 cX11_word 21 bX11_word_21 = true := by decide +kernel
def bX11_word_25 : List Op3 := [(25, .iload_n 2, 1, (2, 0, 0, 0, 0, 0), 0), (26, .ifCond .ge 196, 3, (222, 0, 0, 0, 0, 0), 0), (29, .aload_n 0, 1, (0, 0, 0, 0, 0, 0), 0), (30, .getfield 194, 3, (30, 20, 0, 0, 0, 0), 0), (33, .ifCond .ne 189, 3, (222, 0, 0, 0, 0, 0), 0), (36, .iconst 0, 1, (0, 0, 0, 0, 0, 0), nI 0), (37, .istore_n 3, 1, (3, 0, 0, 0, 0, 0), 0), (38, .iconst 0, 1, (0, 0, 0, 0, 0, 0), nI 0), (39, .istore 4, 2, (4, 0, 0, 0, 0, 0), 0)]
theorem obX11_word_25 : dcd RX11 cX11_word 25 bX11_word_25 = true := by decide +kernel
def bX11_word_41 : List Op3 := [(41, .iload 4, 2, (4, 0, 0, 0, 0, 0), 0), (43, .bipush 9, 2, (0, 0, 0, 0, 0, 0), nI 9), (45, .if_icmp .ge 85, 3, (130, 0, 0, 0, 0, 0), 0), (48, .aload_n 0, 1, (0, 0, 0, 0, 0, 0), 0), (49, .getfield 41, 3, (30, 13, 2, 39, 0, 0), 0), (52, .iload 4, 2, (4, 0, 0, 0, 0, 0), 0), (54, .dup2, 1, (0, 0, 0, 0, 0, 0), 0), (55, .iaload, 1, (0, 0, 0, 0, 0, 0), 0), (56, .aload_n 0, 1, (0, 0, 0, 0, 0, 0), 0), (57, .getfield 47, 3, (30, 15, 2, 41, 0, 0), 0), (60, .iload 4, 2, (4, 0, 0, 0, 0, 0), 0), (62, .iaload, 1, (0, 0, 0, 0, 0, 0), 0), (63, .iload_n 1, 1, (1, 0, 0, 0, 0, 0), 0), (64, .iadd, 1, (0, 0, 0, 0, 0, 0), 0), (65, .aload_n 0, 1, (0, 0, 0, 0, 0, 0), 0), (66, .getfield 47, 3, (30, 15, 2, 41, 0, 0), 0), (69, .iload 4, 2, (4, 0, 0, 0, 0, 0), 0), (71, .iconst 1, 1, (0, 0, 0, 0, 0, 0), nI 1), (72, .iadd, 1, (0, 0, 0, 0, 0, 0), 0), (73, .iaload, 1, (0, 0, 0, 0, 0, 0), 0), (74, .if_icmp .ge 28, 3, (102, 0, 0, 0, 0, 0), 0), (77, .aload_n 0, 1, (0, 0, 0, 0, 0, 0), 0), (78, .getfield 44, 3, (30, 14, 2, 40, 0, 0), 0), (81, .aload_n 0, 1, (0, 0, 0, 0, 0, 0), 0), (82, .getfield 47, 3, (30, 15, 2, 41, 0, 0), 0), (85, .iload 4, 2, (4, 0, 0, 0, 0, 0), 0), (87, .iaload, 1, (0, 0, 0, 0, 0, 0), 0), (88, .iload_n 1, 1, (1, 0, 0, 0, 0, 0), 0), (89, .iadd, 1, (0, 0, 0, 0, 0, 0), 0), (90, .iaload, 1, (0, 0, 0, 0, 0, 0), 0), (91, .aload_n 0, 1, (0, 0, 0, 0, 0, 0), 0)]
theorem obX11_word_41 : dcd RX11 cX11_word 41 bX11_word_41 = true := by decide +kernel
def bX11_word_95 : List Op3 := [(95, .if_icmp .ne 7, 3, (102, 0, 0, 0, 0, 0), 0), (98, .iconst 1, 1, (0, 0, 0, 0, 0, 0), nI 1), (99, .goto 4, 3, (103, 0, 0, 0, 0, 0), 0)]
theorem obX11_word_95 : dcd RX11 cX11_word 95 bX11_word_95 = true := by decide +kernel
def bX11_word_102 : List Op3 := [(102, .iconst 0, 1, (0, 0, 0, 0, 0, 0), nI 0), (103, .iand, 1, (0, 0, 0, 0, 0, 0), 0), (104, .iastore, 1, (0, 0, 0, 0, 0, 0), 0), (105, .iload_n 3, 1, (3, 0, 0, 0, 0, 0), 0), (106, .aload_n 0, 1, (0, 0, 0, 0, 0, 0), 0), (107, .getfield 41, 3, (30, 13, 2, 39, 0, 0), 0), (110, .iload 4, 2, (4, 0, 0, 0, 0, 0), 0), (112, .iaload, 1, (0, 0, 0, 0, 0, 0), 0), (113, .iconst 1, 1, (0, 0, 0, 0, 0, 0), nI 1), (114, .if_icmp .ne 7, 3, (121, 0, 0, 0, 0, 0), 0), (117, .iconst 1, 1, (0, 0, 0, 0, 0, 0), nI 1), (118, .goto 4, 3, (122, 0, 0, 0, 0, 0), 0)]
theorem obX11_word_102 : dcd RX11 cX11_word 102 bX11_word_102 = true := by decide +kernel
def bX11_word_103 : List Op3 := [(103, .iand, 1, (0, 0, 0, 0, 0, 0), 0), (104, .iastore, 1, (0, 0, 0, 0, 0, 0), 0), (105, .iload_n 3, 1, (3, 0, 0, 0, 0, 0), 0), (106, .aload_n 0, 1, (0, 0, 0, 0, 0, 0), 0), (107, .getfield 41, 3, (30, 13, 2, 39, 0, 0), 0), (110, .iload 4, 2, (4, 0, 0, 0, 0, 0), 0), (112, .iaload, 1, (0, 0, 0, 0, 0, 0), 0), (113, .iconst 1, 1, (0, 0, 0, 0, 0, 0), nI 1), (114, .if_icmp .ne 7, 3, (121, 0, 0, 0, 0, 0), 0), (117, .iconst 1, 1, (0, 0, 0, 0, 0, 0), nI 1), (118, .goto 4, 3, (122, 0, 0, 0, 0, 0), 0)]
theorem obX11_word_103 : dcd RX11 cX11_word 103 bX11_word_103 = true := by decide +kernel
def bX11_word_121 : List Op3 := [(121, .iconst 0, 1, (0, 0, 0, 0, 0, 0), nI 0), (122, .ior, 1, (0, 0, 0, 0, 0, 0), 0), (123, .istore_n 3, 1, (3, 0, 0, 0, 0, 0), 0), (124, .iinc 4 1, 3, (4, 0, 0, 0, 0, 0), nI 1), (127, .goto (-86), 3, (41, 0, 0, 0, 0, 0), 0)]
theorem obX11_word_121 : dcd RX11 cX11_word 121 bX11_word_121 = true := by decide +kernel
def bX11_word_122 : List Op3 := [(122, .ior, 1, (0, 0, 0, 0, 0, 0), 0), (123, .istore_n 3, 1, (3, 0, 0, 0, 0, 0), 0), (124, .iinc 4 1, 3, (4, 0, 0, 0, 0, 0), nI 1), (127, .goto (-86), 3, (41, 0, 0, 0, 0, 0), 0)]
theorem obX11_word_122 : dcd RX11 cX11_word 122 bX11_word_122 = true := by decide +kernel
def bX11_word_130 : List Op3 := [(130, .aload_n 0, 1, (0, 0, 0, 0, 0, 0), 0), (131, .iload_n 3, 1, (3, 0, 0, 0, 0, 0), 0), (132, .ifCond .ne 7, 3, (139, 0, 0, 0, 0, 0), 0), (135, .iconst 1, 1, (0, 0, 0, 0, 0, 0), nI 1), (136, .goto 4, 3, (140, 0, 0, 0, 0, 0), 0)]
theorem obX11_word_130 : dcd RX11 cX11_word 130 bX11_word_130 = true := by decide +kernel
def bX11_word_139 : List Op3 := [(139, .iconst 0, 1, (0, 0, 0, 0, 0, 0), nI 0), (140, .putfield 194, 3, (30, 20, 3, 0, 0, 0), 0), (143, .aload_n 0, 1, (0, 0, 0, 0, 0, 0), 0), (144, .dup, 1, (0, 0, 0, 0, 0, 0), 0), (145, .getfield 188, 3, (30, 17, 0, 0, 0, 0), 0), (148, .iload_n 3, 1, (3, 0, 0, 0, 0, 0), 0), (149, .ifCond .eq 7, 3, (156, 0, 0, 0, 0, 0), 0), (152, .iconst 1, 1, (0, 0, 0, 0, 0, 0), nI 1), (153, .goto 4, 3, (157, 0, 0, 0, 0, 0), 0)]
theorem obX11_word_139 : dcd RX11 cX11_word 139 bX11_word_139 = true := by decide +kernel
def bX11_word_140 : List Op3 := [(140, .putfield 194, 3, (30, 20, 3, 0, 0, 0), 0), (143, .aload_n 0, 1, (0, 0, 0, 0, 0, 0), 0), (144, .dup, 1, (0, 0, 0, 0, 0, 0), 0), (145, .getfield 188, 3, (30, 17, 0, 0, 0, 0), 0), (148, .iload_n 3, 1, (3, 0, 0, 0, 0, 0), 0), (149, .ifCond .eq 7, 3, (156, 0, 0, 0, 0, 0), 0), (152, .iconst 1, 1, (0, 0, 0, 0, 0, 0), nI 1), (153, .goto 4, 3, (157, 0, 0, 0, 0, 0), 0)]
theorem obX11_word_140 : dcd RX11 cX11_word 140 bX11_word_140 = true := by decide +kernel
def bX11_word_156 : List Op3 := [(156, .iconst 0, 1, (0, 0, 0, 0, 0, 0), nI 0), (157, .iadd, 1, (0, 0, 0, 0, 0, 0), 0), (158, .putfield 188, 3, (30, 17, 0, 0, 0, 0), 0), (161, .iinc 1 1, 3, (1, 0, 0, 0, 0, 0), nI 1), (164, .iconst 0, 1, (0, 0, 0, 0, 0, 0), nI 0), (165, .istore 4, 2, (4, 0, 0, 0, 0, 0), 0)]
theorem obX11_word_156 : dcd RX11 cX11_word 156 bX11_word_156 = true := by decide +kernel
def bX11_word_157 : List Op3 := [(157, .iadd, 1, (0, 0, 0, 0, 0, 0), 0), (158, .putfield 188, 3, (30, 17, 0, 0, 0, 0), 0), (161, .iinc 1 1, 3, (1, 0, 0, 0, 0, 0), nI 1), (164, .iconst 0, 1, (0, 0, 0, 0, 0, 0), nI 0), (165, .istore 4, 2, (4, 0, 0, 0, 0, 0), 0)]
theorem obX11_word_157 : dcd RX11 cX11_word 157 bX11_word_157 = true := by decide +kernel
def bX11_word_167 : List Op3 := [(167, .iload 4, 2, (4, 0, 0, 0, 0, 0), 0), (169, .bipush 9, 2, (0, 0, 0, 0, 0, 0), nI 9), (171, .if_icmp .ge 48, 3, (219, 0, 0, 0, 0, 0), 0), (174, .aload_n 0, 1, (0, 0, 0, 0, 0, 0), 0), (175, .getfield 41, 3, (30, 13, 2, 39, 0, 0), 0), (178, .iload 4, 2, (4, 0, 0, 0, 0, 0), 0), (180, .iaload, 1, (0, 0, 0, 0, 0, 0), 0), (181, .iconst 1, 1, (0, 0, 0, 0, 0, 0), nI 1), (182, .if_icmp .ne 29, 3, (211, 0, 0, 0, 0, 0), 0), (185, .aload_n 0, 1, (0, 0, 0, 0, 0, 0), 0), (186, .getfield 47, 3, (30, 15, 2, 41, 0, 0), 0), (189, .iload 4, 2, (4, 0, 0, 0, 0, 0), 0), (191, .iaload, 1, (0, 0, 0, 0, 0, 0), 0), (192, .iload_n 1, 1, (1, 0, 0, 0, 0, 0), 0), (193, .iadd, 1, (0, 0, 0, 0, 0, 0), 0), (194, .aload_n 0, 1, (0, 0, 0, 0, 0, 0), 0), (195, .getfield 47, 3, (30, 15, 2, 41, 0, 0), 0), (198, .iload 4, 2, (4, 0, 0, 0, 0, 0), 0), (200, .iconst 1, 1, (0, 0, 0, 0, 0, 0), nI 1), (201, .iadd, 1, (0, 0, 0, 0, 0, 0), 0), (202, .iaload, 1, (0, 0, 0, 0, 0, 0), 0), (203, .if_icmp .ne 8, 3, (211, 0, 0, 0, 0, 0), 0), (206, .iload 4, 2, (4, 0, 0, 0, 0, 0), 0), (208, .goto 4, 3, (212, 0, 0, 0, 0, 0), 0)]
theorem obX11_word_167 : dcd RX11 cX11_word 167 bX11_word_167 = true := by decide +kernel
def bX11_word_211 : List Op3 := [(211, .iload_n 2, 1, (2, 0, 0, 0, 0, 0), 0), (212, .istore_n 2, 1, (2, 0, 0, 0, 0, 0), 0), (213, .iinc 4 1, 3, (4, 0, 0, 0, 0, 0), nI 1), (216, .goto (-49), 3, (167, 0, 0, 0, 0, 0), 0)]
theorem obX11_word_211 : dcd RX11 cX11_word 211 bX11_word_211 = true := by decide +kernel
def bX11_word_212 : List Op3 := [(212, .istore_n 2, 1, (2, 0, 0, 0, 0, 0), 0), (213, .iinc 4 1, 3, (4, 0, 0, 0, 0, 0), nI 1), (216, .goto (-49), 3, (167, 0, 0, 0, 0, 0), 0)]
theorem obX11_word_212 : dcd RX11 cX11_word 212 bX11_word_212 = true := by decide +kernel
def bX11_word_219 : List Op3 := [(219, .goto (-194), 3, (25, 0, 0, 0, 0, 0), 0)]
theorem obX11_word_219 : dcd RX11 cX11_word 219 bX11_word_219 = true := by decide +kernel
def bX11_word_222 : List Op3 := [(222, .iload_n 2, 1, (2, 0, 0, 0, 0, 0), 0), (223, .ireturn, 1, (0, 0, 0, 0, 0, 0), 0)]
theorem obX11_word_222 : dcd RX11 cX11_word 222 bX11_word_222 = true := by decide +kernel
def bX11_does_0 : List Op3 := [(0, .iload_n 1, 1, (1, 0, 0, 0, 0, 0), 0)]
theorem obX11_does_0 : dcd RX11 cX11_does 0 bX11_does_0 = true := by decide +kernel
def bX11_does_48 : List Op3 := [(48, .aload_n 0, 1, (0, 0, 0, 0, 0, 0), 0), (49, .iload_n 2, 1, (2, 0, 0, 0, 0, 0), 0), (50, .iload_n 3, 1, (3, 0, 0, 0, 0, 0), 0), (51, .iload 4, 2, (4, 0, 0, 0, 0, 0), 0)]
theorem obX11_does_48 : dcd RX11 cX11_does 48 bX11_does_48 = true := by decide +kernel
def bX11_does_56 : List Op3 := [(56, .ireturn, 1, (0, 0, 0, 0, 0, 0), 0)]
theorem obX11_does_56 : dcd RX11 cX11_does 56 bX11_does_56 = true := by decide +kernel
def bX11_does_57 : List Op3 := [(57, .aload_n 0, 1, (0, 0, 0, 0, 0, 0), 0), (58, .aload_n 0, 1, (0, 0, 0, 0, 0, 0), 0), (59, .iload_n 2, 1, (2, 0, 0, 0, 0, 0), 0), (60, .iconst 0, 1, (0, 0, 0, 0, 0, 0), nI 0)]
theorem obX11_does_57 : dcd RX11 cX11_does 57 bX11_does_57 = true := by decide +kernel
def bX11_does_67 : List Op3 := [(67, .ireturn, 1, (0, 0, 0, 0, 0, 0), 0)]
theorem obX11_does_67 : dcd RX11 cX11_does 67 bX11_does_67 = true := by decide +kernel
def bX11_does_68 : List Op3 := [(68, .aload_n 0, 1, (0, 0, 0, 0, 0, 0), 0), (69, .aload_n 0, 1, (0, 0, 0, 0, 0, 0), 0), (70, .iload_n 2, 1, (2, 0, 0, 0, 0, 0), 0), (71, .iconst 0, 1, (0, 0, 0, 0, 0, 0), nI 0)]
theorem obX11_does_68 : dcd RX11 cX11_does 68 bX11_does_68 = true := by decide +kernel
def bX11_does_75 : List Op3 := [(75, .iload_n 3, 1, (3, 0, 0, 0, 0, 0), 0)]
theorem obX11_does_75 : dcd RX11 cX11_does 75 bX11_does_75 = true := by decide +kernel
def bX11_does_79 : List Op3 := [(79, .ireturn, 1, (0, 0, 0, 0, 0, 0), 0)]
theorem obX11_does_79 : dcd RX11 cX11_does 79 bX11_does_79 = true := by decide +kernel
def bX11_does_80 : List Op3 := [(80, .aload_n 0, 1, (0, 0, 0, 0, 0, 0), 0), (81, .iload_n 2, 1, (2, 0, 0, 0, 0, 0), 0)]
theorem obX11_does_80 : dcd RX11 cX11_does 80 bX11_does_80 = true := by decide +kernel
def bX11_does_85 : List Op3 := [(85, .ireturn, 1, (0, 0, 0, 0, 0, 0), 0)]
theorem obX11_does_85 : dcd RX11 cX11_does 85 bX11_does_85 = true := by decide +kernel
def bX11_does_86 : List Op3 := [(86, .aload_n 0, 1, (0, 0, 0, 0, 0, 0), 0), (87, .iload_n 2, 1, (2, 0, 0, 0, 0, 0), 0)]
theorem obX11_does_86 : dcd RX11 cX11_does 86 bX11_does_86 = true := by decide +kernel
def bX11_does_91 : List Op3 := [(91, .ireturn, 1, (0, 0, 0, 0, 0, 0), 0)]
theorem obX11_does_91 : dcd RX11 cX11_does 91 bX11_does_91 = true := by decide +kernel
def bX11_does_92 : List Op3 := [(92, .aload_n 0, 1, (0, 0, 0, 0, 0, 0), 0), (93, .iload_n 2, 1, (2, 0, 0, 0, 0, 0), 0), (94, .iload_n 3, 1, (3, 0, 0, 0, 0, 0), 0)]
theorem obX11_does_92 : dcd RX11 cX11_does 92 bX11_does_92 = true := by decide +kernel
def bX11_does_98 : List Op3 := [(98, .ireturn, 1, (0, 0, 0, 0, 0, 0), 0)]
theorem obX11_does_98 : dcd RX11 cX11_does 98 bX11_does_98 = true := by decide +kernel
def bX11_does_99 : List Op3 := [(99, .aload_n 0, 1, (0, 0, 0, 0, 0, 0), 0), (100, .aload_n 0, 1, (0, 0, 0, 0, 0, 0), 0), (101, .iload_n 2, 1, (2, 0, 0, 0, 0, 0), 0), (102, .iconst 1, 1, (0, 0, 0, 0, 0, 0), nI 1)]
theorem obX11_does_99 : dcd RX11 cX11_does 99 bX11_does_99 = true := by decide +kernel
def bX11_does_106 : List Op3 := [(106, .iload_n 3, 1, (3, 0, 0, 0, 0, 0), 0), (107, .iload 4, 2, (4, 0, 0, 0, 0, 0), 0)]
theorem obX11_does_106 : dcd RX11 cX11_does 106 bX11_does_106 = true := by decide +kernel
def bX11_does_112 : List Op3 := [(112, .ireturn, 1, (0, 0, 0, 0, 0, 0), 0)]
theorem obX11_does_112 : dcd RX11 cX11_does 112 bX11_does_112 = true := by decide +kernel
def bX11_does_113 : List Op3 := [(113, .aload_n 0, 1, (0, 0, 0, 0, 0, 0), 0), (114, .aload_n 0, 1, (0, 0, 0, 0, 0, 0), 0), (115, .iload_n 2, 1, (2, 0, 0, 0, 0, 0), 0), (116, .iconst 1, 1, (0, 0, 0, 0, 0, 0), nI 1)]
theorem obX11_does_113 : dcd RX11 cX11_does 113 bX11_does_113 = true := by decide +kernel
def bX11_does_123 : List Op3 := [(123, .ireturn, 1, (0, 0, 0, 0, 0, 0), 0)]
theorem obX11_does_123 : dcd RX11 cX11_does 123 bX11_does_123 = true := by decide +kernel
def bX11_does_124 : List Op3 := [(124, .aload_n 0, 1, (0, 0, 0, 0, 0, 0), 0)]
theorem obX11_does_124 : dcd RX11 cX11_does 124 bX11_does_124 = true := by decide +kernel
def bX11_does_128 : List Op3 := [(128, .ireturn, 1, (0, 0, 0, 0, 0, 0), 0)]
theorem obX11_does_128 : dcd RX11 cX11_does 128 bX11_does_128 = true := by decide +kernel
def bX11_command_0 : List Op3 := [(0, .aload_n 0, 1, (0, 0, 0, 0, 0, 0), 0)]
theorem obX11_command_0 : dcd RX11 cX11_command 0 bX11_command_0 = true := by decide +kernel
def bX11_command_4 : List Op3 := [(4, .istore_n 1, 1, (1, 0, 0, 0, 0, 0), 0), (5, .iconst 0, 1, (0, 0, 0, 0, 0, 0), nI 0), (6, .istore_n 2, 1, (2, 0, 0, 0, 0, 0), 0), (7, .iconst 0, 1, (0, 0, 0, 0, 0, 0), nI 0), (8, .istore_n 3, 1, (3, 0, 0, 0, 0, 0), 0), (9, .iconst 0, 1, (0, 0, 0, 0, 0, 0), nI 0), (10, .istore 4, 2, (4, 0, 0, 0, 0, 0), 0), (12, .aload_n 0, 1, (0, 0, 0, 0, 0, 0), 0), (13, .getfield 194, 3, (30, 20, 0, 0, 0, 0), 0), (16, .ifCond .eq 4, 3, (20, 0, 0, 0, 0, 0), 0), (19, .return_, 1, (0, 0, 0, 0, 0, 0), 0)]
theorem obX11_command_4 : dcd RX11 cX11_command 4 bX11_command_4 = true := by decide +kernel
def bX11_command_20 : List Op3 := [(20, .iload_n 1, 1, (1, 0, 0, 0, 0, 0), 0), (21, .bipush 8, 2, (0, 0, 0, 0, 0, 0), nI 8), (23, .if_icmp .ge 27, 3, (50, 0, 0, 0, 0, 0), 0), (26, .aload_n 0, 1, (0, 0, 0, 0, 0, 0), 0), (27, .iload_n 1, 1, (1, 0, 0, 0, 0, 0), 0), (28, .ifCond .eq 13, 3, (41, 0, 0, 0, 0, 0), 0), (31, .iload_n 1, 1, (1, 0, 0, 0, 0, 0), 0), (32, .iconst 4, 1, (0, 0, 0, 0, 0, 0), nI 4), (33, .if_icmp .eq 8, 3, (41, 0, 0, 0, 0, 0), 0), (36, .iload_n 1, 1, (1, 0, 0, 0, 0, 0), 0), (37, .iconst 5, 1, (0, 0, 0, 0, 0, 0), nI 5), (38, .if_icmp .ne 7, 3, (45, 0, 0, 0, 0, 0), 0), (41, .iconst 1, 1, (0, 0, 0, 0, 0, 0), nI 1), (42, .goto 4, 3, (46, 0, 0, 0, 0, 0), 0)]
theorem obX11_command_20 : dcd RX11 cX11_command 20 bX11_command_20 = true := by decide +kernel
def bX11_command_41 : List Op3 := [(41, .iconst 1, 1, (0, 0, 0, 0, 0, 0), nI 1), (42, .goto 4, 3, (46, 0, 0, 0, 0, 0), 0)]
theorem obX11_command_41 : dcd RX11 cX11_command 41 bX11_command_41 = true := by decide +kernel
def bX11_command_45 : List Op3 := [(45, .iconst 3, 1, (0, 0, 0, 0, 0, 0), nI 3)]
theorem obX11_command_45 : dcd RX11 cX11_command 45 bX11_command_45 = true := by decide +kernel
def bX11_command_49 : List Op3 := [(49, .istore_n 2, 1, (2, 0, 0, 0, 0, 0), 0), (50, .iload_n 1, 1, (1, 0, 0, 0, 0, 0), 0), (51, .ifCond .eq 8, 3, (59, 0, 0, 0, 0, 0), 0), (54, .iload_n 1, 1, (1, 0, 0, 0, 0, 0), 0), (55, .iconst 2, 1, (0, 0, 0, 0, 0, 0), nI 2), (56, .if_icmp .ne 16, 3, (72, 0, 0, 0, 0, 0), 0), (59, .aload_n 0, 1, (0, 0, 0, 0, 0, 0), 0), (60, .getfield 194, 3, (30, 20, 0, 0, 0, 0), 0), (63, .ifCond .ne 9, 3, (72, 0, 0, 0, 0, 0), 0), (66, .aload_n 0, 1, (0, 0, 0, 0, 0, 0), 0), (67, .iconst 3, 1, (0, 0, 0, 0, 0, 0), nI 3)]
theorem obX11_command_49 : dcd RX11 cX11_command 49 bX11_command_49 = true := by decide +kernel
def bX11_command_50 : List Op3 := [(50, .iload_n 1, 1, (1, 0, 0, 0, 0, 0), 0), (51, .ifCond .eq 8, 3, (59, 0, 0, 0, 0, 0), 0), (54, .iload_n 1, 1, (1, 0, 0, 0, 0, 0), 0), (55, .iconst 2, 1, (0, 0, 0, 0, 0, 0), nI 2), (56, .if_icmp .ne 16, 3, (72, 0, 0, 0, 0, 0), 0), (59, .aload_n 0, 1, (0, 0, 0, 0, 0, 0), 0), (60, .getfield 194, 3, (30, 20, 0, 0, 0, 0), 0), (63, .ifCond .ne 9, 3, (72, 0, 0, 0, 0, 0), 0), (66, .aload_n 0, 1, (0, 0, 0, 0, 0, 0), 0), (67, .iconst 3, 1, (0, 0, 0, 0, 0, 0), nI 3)]
theorem obX11_command_50 : dcd RX11 cX11_command 50 bX11_command_50 = true := by decide +kernel
def bX11_command_59 : List Op3 := [(59, .aload_n 0, 1, (0, 0, 0, 0, 0, 0), 0), (60, .getfield 194, 3, (30, 20, 0, 0, 0, 0), 0), (63, .ifCond .ne 9, 3, (72, 0, 0, 0, 0, 0), 0), (66, .aload_n 0, 1, (0, 0, 0, 0, 0, 0), 0), (67, .iconst 3, 1, (0, 0, 0, 0, 0, 0), nI 3)]
theorem obX11_command_59 : dcd RX11 cX11_command 59 bX11_command_59 = true := by decide +kernel
def bX11_command_71 : List Op3 := [(71, .istore_n 3, 1, (3, 0, 0, 0, 0, 0), 0), (72, .iload_n 1, 1, (1, 0, 0, 0, 0, 0), 0), (73, .iconst 5, 1, (0, 0, 0, 0, 0, 0), nI 5), (74, .if_icmp .eq 9, 3, (83, 0, 0, 0, 0, 0), 0), (77, .iload_n 1, 1, (1, 0, 0, 0, 0, 0), 0), (78, .bipush 6, 2, (0, 0, 0, 0, 0, 0), nI 6), (80, .if_icmp .ne 16, 3, (96, 0, 0, 0, 0, 0), 0), (83, .aload_n 0, 1, (0, 0, 0, 0, 0, 0), 0), (84, .getfield 194, 3, (30, 20, 0, 0, 0, 0), 0), (87, .ifCond .ne 9, 3, (96, 0, 0, 0, 0, 0), 0), (90, .aload_n 0, 1, (0, 0, 0, 0, 0, 0), 0), (91, .iconst 1, 1, (0, 0, 0, 0, 0, 0), nI 1)]
theorem obX11_command_71 : dcd RX11 cX11_command 71 bX11_command_71 = true := by decide +kernel
def bX11_command_72 : List Op3 := [(72, .iload_n 1, 1, (1, 0, 0, 0, 0, 0), 0), (73, .iconst 5, 1, (0, 0, 0, 0, 0, 0), nI 5), (74, .if_icmp .eq 9, 3, (83, 0, 0, 0, 0, 0), 0), (77, .iload_n 1, 1, (1, 0, 0, 0, 0, 0), 0), (78, .bipush 6, 2, (0, 0, 0, 0, 0, 0), nI 6), (80, .if_icmp .ne 16, 3, (96, 0, 0, 0, 0, 0), 0), (83, .aload_n 0, 1, (0, 0, 0, 0, 0, 0), 0), (84, .getfield 194, 3, (30, 20, 0, 0, 0, 0), 0), (87, .ifCond .ne 9, 3, (96, 0, 0, 0, 0, 0), 0), (90, .aload_n 0, 1, (0, 0, 0, 0, 0, 0), 0), (91, .iconst 1, 1, (0, 0, 0, 0, 0, 0), nI 1)]
theorem obX11_command_72 : dcd RX11 cX11_command 72 bX11_command_72 = true := by decide +kernel
def bX11_command_83 : List Op3 := [(83, .aload_n 0, 1, (0, 0, 0, 0, 0, 0), 0), (84, .getfield 194, 3, (30, 20, 0, 0, 0, 0), 0), (87, .ifCond .ne 9, 3, (96, 0, 0, 0, 0, 0), 0), (90, .aload_n 0, 1, (0, 0, 0, 0, 0, 0), 0), (91, .iconst 1, 1, (0, 0, 0, 0, 0, 0), nI 1)]
theorem obX11_command_83 : dcd RX11 cX11_command 83 bX11_command_83 = true := by decide +kernel
def bX11_command_95 : List Op3 := [(95, .istore_n 3, 1, (3, 0, 0, 0, 0, 0), 0), (96, .iload_n 1, 1, (1, 0, 0, 0, 0, 0), 0), (97, .ifCond .eq 9, 3, (106, 0, 0, 0, 0, 0), 0), (100, .iload_n 1, 1, (1, 0, 0, 0, 0, 0), 0), (101, .bipush 6, 2, (0, 0, 0, 0, 0, 0), nI 6), (103, .if_icmp .ne 17, 3, (120, 0, 0, 0, 0, 0), 0), (106, .aload_n 0, 1, (0, 0, 0, 0, 0, 0), 0), (107, .getfield 194, 3, (30, 20, 0, 0, 0, 0), 0), (110, .ifCond .ne 10, 3, (120, 0, 0, 0, 0, 0), 0), (113, .aload_n 0, 1, (0, 0, 0, 0, 0, 0), 0), (114, .iconst 3, 1, (0, 0, 0, 0, 0, 0), nI 3)]
theorem obX11_command_95 : dcd RX11 cX11_command 95 bX11_command_95 = true := by decide +kernel
def bX11_command_96 : List Op3 := [(96, .iload_n 1, 1, (1, 0, 0, 0, 0, 0), 0), (97, .ifCond .eq 9, 3, (106, 0, 0, 0, 0, 0), 0), (100, .iload_n 1, 1, (1, 0, 0, 0, 0, 0), 0), (101, .bipush 6, 2, (0, 0, 0, 0, 0, 0), nI 6), (103, .if_icmp .ne 17, 3, (120, 0, 0, 0, 0, 0), 0), (106, .aload_n 0, 1, (0, 0, 0, 0, 0, 0), 0), (107, .getfield 194, 3, (30, 20, 0, 0, 0, 0), 0), (110, .ifCond .ne 10, 3, (120, 0, 0, 0, 0, 0), 0), (113, .aload_n 0, 1, (0, 0, 0, 0, 0, 0), 0), (114, .iconst 3, 1, (0, 0, 0, 0, 0, 0), nI 3)]
theorem obX11_command_96 : dcd RX11 cX11_command 96 bX11_command_96 = true := by decide +kernel
def bX11_command_106 : List Op3 := [(106, .aload_n 0, 1, (0, 0, 0, 0, 0, 0), 0), (107, .getfield 194, 3, (30, 20, 0, 0, 0, 0), 0), (110, .ifCond .ne 10, 3, (120, 0, 0, 0, 0, 0), 0), (113, .aload_n 0, 1, (0, 0, 0, 0, 0, 0), 0), (114, .iconst 3, 1, (0, 0, 0, 0, 0, 0), nI 3)]
theorem obX11_command_106 : dcd RX11 cX11_command 106 bX11_command_106 = true := by decide +kernel
def bX11_command_118 : List Op3 := [(118, .istore 4, 2, (4, 0, 0, 0, 0, 0), 0), (120, .aload_n 0, 1, (0, 0, 0, 0, 0, 0), 0), (121, .getfield 194, 3, (30, 20, 0, 0, 0, 0), 0), (124, .ifCond .ne 10, 3, (134, 0, 0, 0, 0, 0), 0), (127, .aload_n 0, 1, (0, 0, 0, 0, 0, 0), 0), (128, .getfield 213, 3, (30, 21, 0, 0, 0, 0), 0), (131, .ifCond .ne 4, 3, (135, 0, 0, 0, 0, 0), 0), (134, .return_, 1, (0, 0, 0, 0, 0, 0), 0)]
theorem obX11_command_118 : dcd RX11 cX11_command 118 bX11_command_118 = true := by decide +kernel
def bX11_command_120 : List Op3 := [(120, .aload_n 0, 1, (0, 0, 0, 0, 0, 0), 0), (121, .getfield 194, 3, (30, 20, 0, 0, 0, 0), 0), (124, .ifCond .ne 10, 3, (134, 0, 0, 0, 0, 0), 0), (127, .aload_n 0, 1, (0, 0, 0, 0, 0, 0), 0), (128, .getfield 213, 3, (30, 21, 0, 0, 0, 0), 0), (131, .ifCond .ne 4, 3, (135, 0, 0, 0, 0, 0), 0), (134, .return_, 1, (0, 0, 0, 0, 0, 0), 0)]
theorem obX11_command_120 : dcd RX11 cX11_command 120 bX11_command_120 = true := by decide +kernel
def bX11_command_134 : List Op3 := [(134, .return_, 1, (0, 0, 0, 0, 0, 0), 0)]
theorem obX11_command_134 : dcd RX11 cX11_command 134 bX11_command_134 = true := by decide +kernel
def bX11_command_135 : List Op3 := [(135, .aload_n 0, 1, (0, 0, 0, 0, 0, 0), 0), (136, .iload_n 1, 1, (1, 0, 0, 0, 0, 0), 0), (137, .iload_n 2, 1, (2, 0, 0, 0, 0, 0), 0), (138, .iload_n 3, 1, (3, 0, 0, 0, 0, 0), 0), (139, .iload 4, 2, (4, 0, 0, 0, 0, 0), 0)]
theorem obX11_command_135 : dcd RX11 cX11_command 135 bX11_command_135 = true := by decide +kernel
def bX11_command_144 : List Op3 := [(144, .istore 5, 2, (5, 0, 0, 0, 0, 0), 0), (146, .return_, 1, (0, 0, 0, 0, 0, 0), 0)]
theorem obX11_command_144 : dcd RX11 cX11_command 144 bX11_command_144 = true := by decide +kernel
def bX11_commands_0 : List Op3 := [(0, .aload_n 0, 1, (0, 0, 0, 0, 0, 0), 0), (1, .iconst 0, 1, (0, 0, 0, 0, 0, 0), nI 0), (2, .putfield 188, 3, (30, 17, 0, 0, 0, 0), 0), (5, .aload_n 0, 1, (0, 0, 0, 0, 0, 0), 0), (6, .iconst 0, 1, (0, 0, 0, 0, 0, 0), nI 0), (7, .putfield 194, 3, (30, 20, 3, 0, 0, 0), 0), (10, .iconst 1, 1, (0, 0, 0, 0, 0, 0), nI 1), (11, .istore_n 1, 1, (1, 0, 0, 0, 0, 0), 0), (12, .aload_n 0, 1, (0, 0, 0, 0, 0, 0), 0)]
theorem obX11_commands_0 : dcd RX11 cX11_commands 0 bX11_commands_0 = true := by decide +kernel
def bX11_commands_16 : List Op3 := [(16, .aload_n 0, 1, (0, 0, 0, 0, 0, 0), 0), (17, .getfield 194, 3, (30, 20, 0, 0, 0, 0), 0), (20, .ifCond .ne 44, 3, (64, 0, 0, 0, 0, 0), 0), (23, .aload_n 0, 1, (0, 0, 0, 0, 0, 0), 0), (24, .getfield 50, 3, (30, 0, 0, 0, 0, 0), 0), (27, .ifCond .ne 37, 3, (64, 0, 0, 0, 0, 0), 0), (30, .aload_n 0, 1, (0, 0, 0, 0, 0, 0), 0), (31, .getfield 188, 3, (30, 17, 0, 0, 0, 0), 0), (34, .aload_n 0, 1, (0, 0, 0, 0, 0, 0), 0), (35, .getfield 191, 3, (30, 18, 0, 0, 0, 0), 0), (38, .if_icmp .ge 26, 3, (64, 0, 0, 0, 0, 0), 0), (41, .aload_n 0, 1, (0, 0, 0, 0, 0, 0), 0), (42, .bipush 59, 2, (0, 0, 0, 0, 0, 0), nI 59)]
theorem obX11_commands_16 : dcd RX11 cX11_commands 16 bX11_commands_16 = true := by decide +kernel
def bX11_commands_47 : List Op3 := [(47, .aload_n 0, 1, (0, 0, 0, 0, 0, 0), 0), (48, .getfield 194, 3, (30, 20, 0, 0, 0, 0), 0), (51, .ifCond .ne 7, 3, (58, 0, 0, 0, 0, 0), 0), (54, .aload_n 0, 1, (0, 0, 0, 0, 0, 0), 0)]
theorem obX11_commands_47 : dcd RX11 cX11_commands 47 bX11_commands_47 = true := by decide +kernel
def bX11_commands_58 : List Op3 := [(58, .iinc 1 1, 3, (1, 0, 0, 0, 0, 0), nI 1), (61, .goto (-45), 3, (16, 0, 0, 0, 0, 0), 0)]
theorem obX11_commands_58 : dcd RX11 cX11_commands 58 bX11_commands_58 = true := by decide +kernel
def bX11_commands_64 : List Op3 := [(64, .iload_n 1, 1, (1, 0, 0, 0, 0, 0), 0), (65, .ireturn, 1, (0, 0, 0, 0, 0, 0), 0)]
theorem obX11_commands_64 : dcd RX11 cX11_commands 64 bX11_commands_64 = true := by decide +kernel
def bX11_execute_0 : List Op3 := [(0, .aload_n 0, 1, (0, 0, 0, 0, 0, 0), 0)]
theorem obX11_execute_0 : dcd RX11 cX11_execute 0 bX11_execute_0 = true := by decide +kernel
def bX11_execute_4 : List Op3 := [(4, .aload_n 0, 1, (0, 0, 0, 0, 0, 0), 0), (5, .aload_n 0, 1, (0, 0, 0, 0, 0, 0), 0), (6, .getfield 185, 3, (30, 16, 0, 0, 0, 0), 0), (9, .putfield 191, 3, (30, 18, 0, 0, 0, 0), 0), (12, .aload_n 0, 1, (0, 0, 0, 0, 0, 0), 0), (13, .iconst 0, 1, (0, 0, 0, 0, 0, 0), nI 0), (14, .putfield 185, 3, (30, 16, 0, 0, 0, 0), 0), (17, .aload_n 0, 1, (0, 0, 0, 0, 0, 0), 0), (18, .iconst 0, 1, (0, 0, 0, 0, 0, 0), nI 0), (19, .putfield 213, 3, (30, 21, 3, 0, 0, 0), 0), (22, .aload_n 0, 1, (0, 0, 0, 0, 0, 0), 0)]
theorem obX11_execute_4 : dcd RX11 cX11_execute 4 bX11_execute_4 = true := by decide +kernel
def bX11_execute_26 : List Op3 := [(26, .istore_n 1, 1, (1, 0, 0, 0, 0, 0), 0), (27, .aload_n 0, 1, (0, 0, 0, 0, 0, 0), 0), (28, .getfield 194, 3, (30, 20, 0, 0, 0, 0), 0), (31, .ifCond .eq 17, 3, (48, 0, 0, 0, 0, 0), 0), (34, .aload_n 0, 1, (0, 0, 0, 0, 0, 0), 0), (35, .aload_n 0, 1, (0, 0, 0, 0, 0, 0), 0), (36, .getfield 188, 3, (30, 17, 0, 0, 0, 0), 0), (39, .putfield 7, 3, (30, 2, 0, 0, 0, 0), 0), (42, .aload_n 0, 1, (0, 0, 0, 0, 0, 0), 0), (43, .iconst 1, 1, (0, 0, 0, 0, 0, 0), nI 1)]
theorem obX11_execute_26 : dcd RX11 cX11_execute 26 bX11_execute_26 = true := by decide +kernel
def bX11_execute_47 : List Op3 := [(47, .ireturn, 1, (0, 0, 0, 0, 0, 0), 0)]
theorem obX11_execute_47 : dcd RX11 cX11_execute 47 bX11_execute_47 = true := by decide +kernel
def bX11_execute_48 : List Op3 := [(48, .aload_n 0, 1, (0, 0, 0, 0, 0, 0), 0), (49, .iconst 1, 1, (0, 0, 0, 0, 0, 0), nI 1), (50, .putfield 213, 3, (30, 21, 3, 0, 0, 0), 0), (53, .aload_n 0, 1, (0, 0, 0, 0, 0, 0), 0)]
theorem obX11_execute_48 : dcd RX11 cX11_execute 48 bX11_execute_48 = true := by decide +kernel
def bX11_execute_57 : List Op3 := [(57, .istore_n 1, 1, (1, 0, 0, 0, 0, 0), 0), (58, .aload_n 0, 1, (0, 0, 0, 0, 0, 0), 0), (59, .getfield 50, 3, (30, 0, 0, 0, 0, 0), 0), (62, .ifCond .eq 15, 3, (77, 0, 0, 0, 0, 0), 0), (65, .aload_n 0, 1, (0, 0, 0, 0, 0, 0), 0), (66, .iload_n 1, 1, (1, 0, 0, 0, 0, 0), 0), (67, .iconst 1, 1, (0, 0, 0, 0, 0, 0), nI 1), (68, .isub, 1, (0, 0, 0, 0, 0, 0), 0), (69, .putfield 13, 3, (30, 3, 0, 0, 0, 0), 0), (72, .aload_n 0, 1, (0, 0, 0, 0, 0, 0), 0), (73, .iconst 2, 1, (0, 0, 0, 0, 0, 0), nI 2), (74, .putfield 50, 3, (30, 0, 0, 0, 0, 0), 0), (77, .aload_n 0, 1, (0, 0, 0, 0, 0, 0), 0), (78, .iload_n 1, 1, (1, 0, 0, 0, 0, 0), 0)]
theorem obX11_execute_57 : dcd RX11 cX11_execute 57 bX11_execute_57 = true := by decide +kernel
def bX11_execute_77 : List Op3 := [(77, .aload_n 0, 1, (0, 0, 0, 0, 0, 0), 0), (78, .iload_n 1, 1, (1, 0, 0, 0, 0, 0), 0)]
theorem obX11_execute_77 : dcd RX11 cX11_execute 77 bX11_execute_77 = true := by decide +kernel
def bX11_execute_82 : List Op3 := [(82, .ireturn, 1, (0, 0, 0, 0, 0, 0), 0)]
theorem obX11_execute_82 : dcd RX11 cX11_execute 82 bX11_execute_82 = true := by decide +kernel
def bX11_errorPosition_0 : List Op3 := [(0, .aload_n 0, 1, (0, 0, 0, 0, 0, 0), 0), (1, .aload_n 0, 1, (0, 0, 0, 0, 0, 0), 0), (2, .getfield 7, 3, (30, 2, 0, 0, 0, 0), 0), (5, .ifCond .ge 7, 3, (12, 0, 0, 0, 0, 0), 0), (8, .iconst 1, 1, (0, 0, 0, 0, 0, 0), nI 1), (9, .goto 4, 3, (13, 0, 0, 0, 0, 0), 0)]
theorem obX11_errorPosition_0 : dcd RX11 cX11_errorPosition 0 bX11_errorPosition_0 = true := by decide +kernel
def bX11_errorPosition_12 : List Op3 := [(12, .iconst 0, 1, (0, 0, 0, 0, 0, 0), nI 0), (13, .putfield 50, 3, (30, 0, 0, 0, 0, 0), 0), (16, .aload_n 0, 1, (0, 0, 0, 0, 0, 0), 0), (17, .getfield 50, 3, (30, 0, 0, 0, 0, 0), 0), (20, .ifCond .ne 10, 3, (30, 0, 0, 0, 0, 0), 0), (23, .aload_n 0, 1, (0, 0, 0, 0, 0, 0), 0), (24, .getfield 7, 3, (30, 2, 0, 0, 0, 0), 0), (27, .goto 4, 3, (31, 0, 0, 0, 0, 0), 0)]
theorem obX11_errorPosition_12 : dcd RX11 cX11_errorPosition 12 bX11_errorPosition_12 = true := by decide +kernel
def bX11_errorPosition_13 : List Op3 := [(13, .putfield 50, 3, (30, 0, 0, 0, 0, 0), 0), (16, .aload_n 0, 1, (0, 0, 0, 0, 0, 0), 0), (17, .getfield 50, 3, (30, 0, 0, 0, 0, 0), 0), (20, .ifCond .ne 10, 3, (30, 0, 0, 0, 0, 0), 0), (23, .aload_n 0, 1, (0, 0, 0, 0, 0, 0), 0), (24, .getfield 7, 3, (30, 2, 0, 0, 0, 0), 0), (27, .goto 4, 3, (31, 0, 0, 0, 0, 0), 0)]
theorem obX11_errorPosition_13 : dcd RX11 cX11_errorPosition 13 bX11_errorPosition_13 = true := by decide +kernel
def bX11_errorPosition_30 : List Op3 := [(30, .iconst 0, 1, (0, 0, 0, 0, 0, 0), nI 0), (31, .ireturn, 1, (0, 0, 0, 0, 0, 0), 0)]
theorem obX11_errorPosition_30 : dcd RX11 cX11_errorPosition 30 bX11_errorPosition_30 = true := by decide +kernel
def bX11_errorPosition_31 : List Op3 := [(31, .ireturn, 1, (0, 0, 0, 0, 0, 0), 0)]
theorem obX11_errorPosition_31 : dcd RX11 cX11_errorPosition 31 bX11_errorPosition_31 = true := by decide +kernel
def bX11_failedCommand_0 : List Op3 := [(0, .aload_n 0, 1, (0, 0, 0, 0, 0, 0), 0), (1, .aload_n 0, 1, (0, 0, 0, 0, 0, 0), 0), (2, .getfield 13, 3, (30, 3, 0, 0, 0, 0), 0), (5, .ifCond .ge 7, 3, (12, 0, 0, 0, 0, 0), 0), (8, .iconst 1, 1, (0, 0, 0, 0, 0, 0), nI 1), (9, .goto 4, 3, (13, 0, 0, 0, 0, 0), 0)]
theorem obX11_failedCommand_0 : dcd RX11 cX11_failedCommand 0 bX11_failedCommand_0 = true := by decide +kernel
def bX11_failedCommand_12 : List Op3 := [(12, .iconst 0, 1, (0, 0, 0, 0, 0, 0), nI 0), (13, .putfield 50, 3, (30, 0, 0, 0, 0, 0), 0), (16, .aload_n 0, 1, (0, 0, 0, 0, 0, 0), 0), (17, .getfield 50, 3, (30, 0, 0, 0, 0, 0), 0), (20, .ifCond .ne 10, 3, (30, 0, 0, 0, 0, 0), 0), (23, .aload_n 0, 1, (0, 0, 0, 0, 0, 0), 0), (24, .getfield 13, 3, (30, 3, 0, 0, 0, 0), 0), (27, .goto 4, 3, (31, 0, 0, 0, 0, 0), 0)]
theorem obX11_failedCommand_12 : dcd RX11 cX11_failedCommand 12 bX11_failedCommand_12 = true := by decide +kernel
def bX11_failedCommand_13 : List Op3 := [(13, .putfield 50, 3, (30, 0, 0, 0, 0, 0), 0), (16, .aload_n 0, 1, (0, 0, 0, 0, 0, 0), 0), (17, .getfield 50, 3, (30, 0, 0, 0, 0, 0), 0), (20, .ifCond .ne 10, 3, (30, 0, 0, 0, 0, 0), 0), (23, .aload_n 0, 1, (0, 0, 0, 0, 0, 0), 0), (24, .getfield 13, 3, (30, 3, 0, 0, 0, 0), 0), (27, .goto 4, 3, (31, 0, 0, 0, 0, 0), 0)]
theorem obX11_failedCommand_13 : dcd RX11 cX11_failedCommand 13 bX11_failedCommand_13 = true := by decide +kernel
def bX11_failedCommand_30 : List Op3 := [(30, .iconst 0, 1, (0, 0, 0, 0, 0, 0), nI 0), (31, .ireturn, 1, (0, 0, 0, 0, 0, 0), 0)]
theorem obX11_failedCommand_30 : dcd RX11 cX11_failedCommand 30 bX11_failedCommand_30 = true := by decide +kernel
def bX11_failedCommand_31 : List Op3 := [(31, .ireturn, 1, (0, 0, 0, 0, 0, 0), 0)]
theorem obX11_failedCommand_31 : dcd RX11 cX11_failedCommand 31 bX11_failedCommand_31 = true := by decide +kernel
def bX11_undo_0 : List Op3 := [(0, .aload_n 0, 1, (0, 0, 0, 0, 0, 0), 0), (1, .aload_n 0, 1, (0, 0, 0, 0, 0, 0), 0), (2, .getfield 57, 3, (30, 1, 0, 0, 0, 0), 0), (5, .ifCond .ne 7, 3, (12, 0, 0, 0, 0, 0), 0), (8, .iconst 1, 1, (0, 0, 0, 0, 0, 0), nI 1), (9, .goto 4, 3, (13, 0, 0, 0, 0, 0), 0)]
theorem obX11_undo_0 : dcd RX11 cX11_undo 0 bX11_undo_0 = true := by decide +kernel
def bX11_undo_12 : List Op3 := [(12, .iconst 0, 1, (0, 0, 0, 0, 0, 0), nI 0), (13, .putfield 50, 3, (30, 0, 0, 0, 0, 0), 0), (16, .aload_n 0, 1, (0, 0, 0, 0, 0, 0), 0), (17, .getfield 50, 3, (30, 0, 0, 0, 0, 0), 0), (20, .ifCond .eq 5, 3, (25, 0, 0, 0, 0, 0), 0), (23, .iconst 0, 1, (0, 0, 0, 0, 0, 0), nI 0), (24, .ireturn, 1, (0, 0, 0, 0, 0, 0), 0)]
theorem obX11_undo_12 : dcd RX11 cX11_undo 12 bX11_undo_12 = true := by decide +kernel
def bX11_undo_13 : List Op3 := [(13, .putfield 50, 3, (30, 0, 0, 0, 0, 0), 0), (16, .aload_n 0, 1, (0, 0, 0, 0, 0, 0), 0), (17, .getfield 50, 3, (30, 0, 0, 0, 0, 0), 0), (20, .ifCond .eq 5, 3, (25, 0, 0, 0, 0, 0), 0), (23, .iconst 0, 1, (0, 0, 0, 0, 0, 0), nI 0), (24, .ireturn, 1, (0, 0, 0, 0, 0, 0), 0)]
theorem obX11_undo_13 : dcd RX11 cX11_undo 13 bX11_undo_13 = true := by decide +kernel
def bX11_undo_25 : List Op3 := [(25, .aload_n 0, 1, (0, 0, 0, 0, 0, 0), 0), (26, .dup, 1, (0, 0, 0, 0, 0, 0), 0), (27, .getfield 57, 3, (30, 1, 0, 0, 0, 0), 0), (30, .iconst 1, 1, (0, 0, 0, 0, 0, 0), nI 1), (31, .isub, 1, (0, 0, 0, 0, 0, 0), 0), (32, .putfield 57, 3, (30, 1, 0, 0, 0, 0), 0), (35, .iconst 0, 1, (0, 0, 0, 0, 0, 0), nI 0), (36, .istore_n 1, 1, (1, 0, 0, 0, 0, 0), 0)]
theorem obX11_undo_25 : dcd RX11 cX11_undo 25 bX11_undo_25 = true := by decide +kernel
def bX11_undo_37 : List Op3 := [(37, .iload_n 1, 1, (1, 0, 0, 0, 0, 0), 0), (38, .sipush 136, 3, (0, 0, 0, 0, 0, 0), nI 136), (41, .if_icmp .ge 30, 3, (71, 0, 0, 0, 0, 0), 0), (44, .aload_n 0, 1, (0, 0, 0, 0, 0, 0), 0), (45, .getfield 16, 3, (30, 5, 2, 31, 0, 0), 0), (48, .iload_n 1, 1, (1, 0, 0, 0, 0, 0), 0), (49, .aload_n 0, 1, (0, 0, 0, 0, 0, 0), 0), (50, .getfield 26, 3, (30, 8, 2, 34, 0, 0), 0), (53, .aload_n 0, 1, (0, 0, 0, 0, 0, 0), 0), (54, .getfield 57, 3, (30, 1, 0, 0, 0, 0), 0), (57, .sipush 136, 3, (0, 0, 0, 0, 0, 0), nI 136), (60, .imul, 1, (0, 0, 0, 0, 0, 0), 0), (61, .iload_n 1, 1, (1, 0, 0, 0, 0, 0), 0), (62, .iadd, 1, (0, 0, 0, 0, 0, 0), 0), (63, .iaload, 1, (0, 0, 0, 0, 0, 0), 0), (64, .iastore, 1, (0, 0, 0, 0, 0, 0), 0), (65, .iinc 1 1, 3, (1, 0, 0, 0, 0, 0), nI 1), (68, .goto (-31), 3, (37, 0, 0, 0, 0, 0), 0)]
theorem obX11_undo_37 : dcd RX11 cX11_undo 37 bX11_undo_37 = true := by decide +kernel
def bX11_undo_71 : List Op3 := [(71, .aload_n 0, 1, (0, 0, 0, 0, 0, 0), 0), (72, .getfield 57, 3, (30, 1, 0, 0, 0, 0), 0), (75, .ireturn, 1, (0, 0, 0, 0, 0, 0), 0)]
theorem obX11_undo_71 : dcd RX11 cX11_undo 71 bX11_undo_71 = true := by decide +kernel
def bX11_save_0 : List Op3 := [(0, .aload_n 0, 1, (0, 0, 0, 0, 0, 0), 0), (1, .iconst 0, 1, (0, 0, 0, 0, 0, 0), nI 0), (2, .putfield 50, 3, (30, 0, 0, 0, 0, 0), 0), (5, .aload_n 0, 1, (0, 0, 0, 0, 0, 0), 0), (6, .getfield 23, 3, (30, 7, 2, 33, 0, 0), 0), (9, .aload_n 0, 1, (0, 0, 0, 0, 0, 0), 0), (10, .getfield 16, 3, (30, 5, 2, 31, 0, 0), 0)]
theorem obX11_save_0 : dcd RX11 cX11_save 0 bX11_save_0 = true := by decide +kernel
def bX11_save_16 : List Op3 := [(16, .aload_n 0, 1, (0, 0, 0, 0, 0, 0), 0), (17, .iconst 1, 1, (0, 0, 0, 0, 0, 0), nI 1), (18, .putfield 226, 3, (30, 4, 3, 0, 0, 0), 0), (21, .aload_n 0, 1, (0, 0, 0, 0, 0, 0), 0), (22, .getfield 16, 3, (30, 5, 2, 31, 0, 0), 0), (25, .iconst 0, 1, (0, 0, 0, 0, 0, 0), nI 0), (26, .iaload, 1, (0, 0, 0, 0, 0, 0), 0), (27, .ireturn, 1, (0, 0, 0, 0, 0, 0), 0)]
theorem obX11_save_16 : dcd RX11 cX11_save 16 bX11_save_16 = true := by decide +kernel
def bX11_restore_0 : List Op3 := [(0, .aload_n 0, 1, (0, 0, 0, 0, 0, 0), 0), (1, .aload_n 0, 1, (0, 0, 0, 0, 0, 0), 0), (2, .getfield 226, 3, (30, 4, 0, 0, 0, 0), 0), (5, .ifCond .eq 7, 3, (12, 0, 0, 0, 0, 0), 0), (8, .iconst 0, 1, (0, 0, 0, 0, 0, 0), nI 0), (9, .goto 4, 3, (13, 0, 0, 0, 0, 0), 0)]
theorem obX11_restore_0 : dcd RX11 cX11_restore 0 bX11_restore_0 = true := by decide +kernel
def bX11_restore_12 : List Op3 := [(12, .iconst 1, 1, (0, 0, 0, 0, 0, 0), nI 1), (13, .putfield 50, 3, (30, 0, 0, 0, 0, 0), 0), (16, .aload_n 0, 1, (0, 0, 0, 0, 0, 0), 0), (17, .getfield 50, 3, (30, 0, 0, 0, 0, 0), 0), (20, .ifCond .eq 5, 3, (25, 0, 0, 0, 0, 0), 0), (23, .iconst 0, 1, (0, 0, 0, 0, 0, 0), nI 0), (24, .ireturn, 1, (0, 0, 0, 0, 0, 0), 0)]
theorem obX11_restore_12 : dcd RX11 cX11_restore 12 bX11_restore_12 = true := by decide +kernel
def bX11_restore_13 : List Op3 := [(13, .putfield 50, 3, (30, 0, 0, 0, 0, 0), 0), (16, .aload_n 0, 1, (0, 0, 0, 0, 0, 0), 0), (17, .getfield 50, 3, (30, 0, 0, 0, 0, 0), 0), (20, .ifCond .eq 5, 3, (25, 0, 0, 0, 0, 0), 0), (23, .iconst 0, 1, (0, 0, 0, 0, 0, 0), nI 0), (24, .ireturn, 1, (0, 0, 0, 0, 0, 0), 0)]
theorem obX11_restore_13 : dcd RX11 cX11_restore 13 bX11_restore_13 = true := by decide +kernel
def bX11_restore_25 : List Op3 := [(25, .aload_n 0, 1, (0, 0, 0, 0, 0, 0), 0), (26, .getfield 16, 3, (30, 5, 2, 31, 0, 0), 0), (29, .aload_n 0, 1, (0, 0, 0, 0, 0, 0), 0), (30, .getfield 23, 3, (30, 7, 2, 33, 0, 0), 0)]
theorem obX11_restore_25 : dcd RX11 cX11_restore 25 bX11_restore_25 = true := by decide +kernel
def bX11_restore_36 : List Op3 := [(36, .aload_n 0, 1, (0, 0, 0, 0, 0, 0), 0), (37, .iconst 0, 1, (0, 0, 0, 0, 0, 0), nI 0), (38, .putfield 57, 3, (30, 1, 0, 0, 0, 0), 0), (41, .aload_n 0, 1, (0, 0, 0, 0, 0, 0), 0), (42, .getfield 16, 3, (30, 5, 2, 31, 0, 0), 0), (45, .iconst 0, 1, (0, 0, 0, 0, 0, 0), nI 0), (46, .iaload, 1, (0, 0, 0, 0, 0, 0), 0), (47, .ireturn, 1, (0, 0, 0, 0, 0, 0), 0)]
theorem obX11_restore_36 : dcd RX11 cX11_restore 36 bX11_restore_36 = true := by decide +kernel
