/-! ===== stretches of instructions ===== -/
def bX1_copyFrom_0 : List Op3 := [(0, .aload_n 0, 1, (0, 0, 0, 0, 0, 0), 0), (1, .aload_n 1, 1, (1, 0, 0, 0, 0, 0), 0), (2, .getfield 9, 3, (4, 0, 0, 0, 0, 0), 0), (5, .putfield 9, 3, (4, 0, 0, 0, 0, 0), 0), (8, .aload_n 0, 1, (0, 0, 0, 0, 0, 0), 0), (9, .aload_n 1, 1, (1, 0, 0, 0, 0, 0), 0), (10, .getfield 15, 3, (4, 1, 0, 0, 0, 0), 0), (13, .putfield 15, 3, (4, 1, 0, 0, 0, 0), 0), (16, .aload_n 0, 1, (0, 0, 0, 0, 0, 0), 0), (17, .aload_n 1, 1, (1, 0, 0, 0, 0, 0), 0), (18, .getfield 18, 3, (4, 2, 0, 0, 0, 0), 0), (21, .putfield 18, 3, (4, 2, 0, 0, 0, 0), 0), (24, .aload_n 0, 1, (0, 0, 0, 0, 0, 0), 0), (25, .aload_n 1, 1, (1, 0, 0, 0, 0, 0), 0), (26, .getfield 21, 3, (4, 3, 0, 0, 0, 0), 0), (29, .putfield 21, 3, (4, 3, 0, 0, 0, 0), 0), (32, .aload_n 0, 1, (0, 0, 0, 0, 0, 0), 0), (33, .aload_n 1, 1, (1, 0, 0, 0, 0, 0), 0), (34, .getfield 24, 3, (4, 4, 0, 0, 0, 0), 0), (37, .putfield 24, 3, (4, 4, 0, 0, 0, 0), 0), (40, .aload_n 0, 1, (0, 0, 0, 0, 0, 0), 0), (41, .aload_n 1, 1, (1, 0, 0, 0, 0, 0), 0), (42, .getfield 27, 3, (4, 5, 1, 0, 0, 0), 0), (45, .putfield 27, 3, (4, 5, 1, 0, 0, 0), 0), (48, .aload_n 0, 1, (0, 0, 0, 0, 0, 0), 0), (49, .aload_n 1, 1, (1, 0, 0, 0, 0, 0), 0), (50, .getfield 31, 3, (4, 6, 0, 0, 0, 0), 0), (53, .putfield 31, 3, (4, 6, 0, 0, 0, 0), 0), (56, .aload_n 0, 1, (0, 0, 0, 0, 0, 0), 0), (57, .aload_n 1, 1, (1, 0, 0, 0, 0, 0), 0), (58, .getfield 34, 3, (4, 7, 0, 0, 0, 0), 0), (61, .putfield 34, 3, (4, 7, 0, 0, 0, 0), 0), (64, .aload_n 0, 1, (0, 0, 0, 0, 0, 0), 0), (65, .aload_n 1, 1, (1, 0, 0, 0, 0, 0), 0), (66, .getfield 37, 3, (4, 8, 0, 0, 0, 0), 0), (69, .putfield 37, 3, (4, 8, 0, 0, 0, 0), 0), (72, .return_, 1, (0, 0, 0, 0, 0, 0), 0)]
theorem obX1_copyFrom_0 : dcd RX1 cX1_copyFrom 0 bX1_copyFrom_0 = true := by decide +kernel
def bX1_coinsFromSums_0 : List Op3 := [(0, .sipush 2000, 3, (0, 0, 0, 0, 0, 0), nI 2000), (3, .aload_n 0, 1, (0, 0, 0, 0, 0, 0), 0), (4, .getfield 15, 3, (4, 1, 0, 0, 0, 0), 0), (7, .isub, 1, (0, 0, 0, 0, 0, 0), 0), (8, .aload_n 0, 1, (0, 0, 0, 0, 0, 0), 0), (9, .getfield 18, 3, (4, 2, 0, 0, 0, 0), 0), (12, .iadd, 1, (0, 0, 0, 0, 0, 0), 0), (13, .aload_n 0, 1, (0, 0, 0, 0, 0, 0), 0), (14, .getfield 21, 3, (4, 3, 0, 0, 0, 0), 0), (17, .iadd, 1, (0, 0, 0, 0, 0, 0), 0), (18, .aload_n 0, 1, (0, 0, 0, 0, 0, 0), 0), (19, .getfield 24, 3, (4, 4, 0, 0, 0, 0), 0), (22, .iadd, 1, (0, 0, 0, 0, 0, 0), 0), (23, .ireturn, 1, (0, 0, 0, 0, 0, 0), 0)]
theorem obX1_coinsFromSums_0 : dcd RX1 cX1_coinsFromSums 0 bX1_coinsFromSums_0 = true := by decide +kernel
def bX1_enterPledge_0 : List Op3 := [(0, .aload_n 0, 1, (0, 0, 0, 0, 0, 0), 0), (1, .dup, 1, (0, 0, 0, 0, 0, 0), 0), (2, .getfield 9, 3, (4, 0, 0, 0, 0, 0), 0), (5, .iload_n 1, 1, (1, 0, 0, 0, 0, 0), 0), (6, .isub, 1, (0, 0, 0, 0, 0, 0), 0), (7, .putfield 9, 3, (4, 0, 0, 0, 0, 0), 0), (10, .aload_n 0, 1, (0, 0, 0, 0, 0, 0), 0), (11, .dup, 1, (0, 0, 0, 0, 0, 0), 0), (12, .getfield 15, 3, (4, 1, 0, 0, 0, 0), 0), (15, .iload_n 1, 1, (1, 0, 0, 0, 0, 0), 0), (16, .iadd, 1, (0, 0, 0, 0, 0, 0), 0), (17, .putfield 15, 3, (4, 1, 0, 0, 0, 0), 0), (20, .aload_n 0, 1, (0, 0, 0, 0, 0, 0), 0), (21, .dup, 1, (0, 0, 0, 0, 0, 0), 0), (22, .getfield 27, 3, (4, 5, 1, 0, 0, 0), 0), (25, .iload_n 2, 1, (2, 0, 0, 0, 0, 0), 0), (26, .i2l, 1, (0, 0, 0, 0, 0, 0), 0), (27, .ladd, 1, (0, 0, 0, 0, 0, 0), 0), (28, .putfield 27, 3, (4, 5, 1, 0, 0, 0), 0), (31, .return_, 1, (0, 0, 0, 0, 0, 0), 0)]
theorem obX1_enterPledge_0 : dcd RX1 cX1_enterPledge 0 bX1_enterPledge_0 = true := by decide +kernel
def bX1_enterRedemption_0 : List Op3 := [(0, .aload_n 0, 1, (0, 0, 0, 0, 0, 0), 0), (1, .dup, 1, (0, 0, 0, 0, 0, 0), 0), (2, .getfield 9, 3, (4, 0, 0, 0, 0, 0), 0), (5, .iload_n 1, 1, (1, 0, 0, 0, 0, 0), 0), (6, .iadd, 1, (0, 0, 0, 0, 0, 0), 0), (7, .putfield 9, 3, (4, 0, 0, 0, 0, 0), 0), (10, .aload_n 0, 1, (0, 0, 0, 0, 0, 0), 0), (11, .dup, 1, (0, 0, 0, 0, 0, 0), 0), (12, .getfield 18, 3, (4, 2, 0, 0, 0, 0), 0), (15, .iload_n 1, 1, (1, 0, 0, 0, 0, 0), 0), (16, .iadd, 1, (0, 0, 0, 0, 0, 0), 0), (17, .putfield 18, 3, (4, 2, 0, 0, 0, 0), 0), (20, .aload_n 0, 1, (0, 0, 0, 0, 0, 0), 0), (21, .dup, 1, (0, 0, 0, 0, 0, 0), 0), (22, .getfield 31, 3, (4, 6, 0, 0, 0, 0), 0), (25, .iload_n 2, 1, (2, 0, 0, 0, 0, 0), 0), (26, .iadd, 1, (0, 0, 0, 0, 0, 0), 0), (27, .putfield 31, 3, (4, 6, 0, 0, 0, 0), 0), (30, .return_, 1, (0, 0, 0, 0, 0, 0), 0)]
theorem obX1_enterRedemption_0 : dcd RX1 cX1_enterRedemption 0 bX1_enterRedemption_0 = true := by decide +kernel
def bX1_enterExtension_0 : List Op3 := [(0, .aload_n 0, 1, (0, 0, 0, 0, 0, 0), 0), (1, .dup, 1, (0, 0, 0, 0, 0, 0), 0), (2, .getfield 9, 3, (4, 0, 0, 0, 0, 0), 0), (5, .iload_n 1, 1, (1, 0, 0, 0, 0, 0), 0), (6, .iadd, 1, (0, 0, 0, 0, 0, 0), 0), (7, .putfield 9, 3, (4, 0, 0, 0, 0, 0), 0), (10, .aload_n 0, 1, (0, 0, 0, 0, 0, 0), 0), (11, .dup, 1, (0, 0, 0, 0, 0, 0), 0), (12, .getfield 21, 3, (4, 3, 0, 0, 0, 0), 0), (15, .iload_n 1, 1, (1, 0, 0, 0, 0, 0), 0), (16, .iadd, 1, (0, 0, 0, 0, 0, 0), 0), (17, .putfield 21, 3, (4, 3, 0, 0, 0, 0), 0), (20, .return_, 1, (0, 0, 0, 0, 0, 0), 0)]
theorem obX1_enterExtension_0 : dcd RX1 cX1_enterExtension 0 bX1_enterExtension_0 = true := by decide +kernel
def bX1_enterSale_0 : List Op3 := [(0, .aload_n 0, 1, (0, 0, 0, 0, 0, 0), 0), (1, .dup, 1, (0, 0, 0, 0, 0, 0), 0), (2, .getfield 9, 3, (4, 0, 0, 0, 0, 0), 0), (5, .iload_n 1, 1, (1, 0, 0, 0, 0, 0), 0), (6, .iadd, 1, (0, 0, 0, 0, 0, 0), 0), (7, .putfield 9, 3, (4, 0, 0, 0, 0, 0), 0), (10, .aload_n 0, 1, (0, 0, 0, 0, 0, 0), 0), (11, .dup, 1, (0, 0, 0, 0, 0, 0), 0), (12, .getfield 24, 3, (4, 4, 0, 0, 0, 0), 0), (15, .iload_n 1, 1, (1, 0, 0, 0, 0, 0), 0), (16, .iadd, 1, (0, 0, 0, 0, 0, 0), 0), (17, .putfield 24, 3, (4, 4, 0, 0, 0, 0), 0), (20, .aload_n 0, 1, (0, 0, 0, 0, 0, 0), 0), (21, .dup, 1, (0, 0, 0, 0, 0, 0), 0), (22, .getfield 37, 3, (4, 8, 0, 0, 0, 0), 0), (25, .iload_n 2, 1, (2, 0, 0, 0, 0, 0), 0), (26, .iadd, 1, (0, 0, 0, 0, 0, 0), 0), (27, .putfield 37, 3, (4, 8, 0, 0, 0, 0), 0), (30, .return_, 1, (0, 0, 0, 0, 0, 0), 0)]
theorem obX1_enterSale_0 : dcd RX1 cX1_enterSale 0 bX1_enterSale_0 = true := by decide +kernel
/-! ===== stretches of instructions ===== -/
def bX2_copyFrom_0 : List Op3 := [(0, .aload_n 0, 1, (0, 0, 0, 0, 0, 0), 0), (1, .aload_n 1, 1, (1, 0, 0, 0, 0, 0), 0), (2, .getfield 9, 3, (3, 0, 0, 0, 0, 0), 0), (5, .putfield 9, 3, (3, 0, 0, 0, 0, 0), 0), (8, .aload_n 1, 1, (1, 0, 0, 0, 0, 0), 0), (9, .getfield 15, 3, (3, 1, 2, 11, 0, 0), 0), (12, .iconst 0, 1, (0, 0, 0, 0, 0, 0), nI 0), (13, .aload_n 0, 1, (0, 0, 0, 0, 0, 0), 0), (14, .getfield 15, 3, (3, 1, 2, 11, 0, 0), 0), (17, .iconst 0, 1, (0, 0, 0, 0, 0, 0), nI 0), (18, .bipush 7, 2, (0, 0, 0, 0, 0, 0), nI 7)]
theorem obX2_copyFrom_0 : dcd RX2 cX2_copyFrom 0 bX2_copyFrom_0 = true := by decide +kernel
def bX2_copyFrom_23 : List Op3 := [(23, .return_, 1, (0, 0, 0, 0, 0, 0), 0)]
theorem obX2_copyFrom_23 : dcd RX2 cX2_copyFrom 23 bX2_copyFrom_23 = true := by decide +kernel
def bX2_changeRate_0 : List Op3 := [(0, .iload_n 1, 1, (1, 0, 0, 0, 0, 0), 0), (1, .ifCond .lt 19, 3, (20, 0, 0, 0, 0, 0), 0), (4, .iload_n 1, 1, (1, 0, 0, 0, 0, 0), 0), (5, .bipush 7, 2, (0, 0, 0, 0, 0, 0), nI 7), (7, .if_icmp .ge 13, 3, (20, 0, 0, 0, 0, 0), 0), (10, .iload_n 2, 1, (2, 0, 0, 0, 0, 0), 0), (11, .ifCond .lt 9, 3, (20, 0, 0, 0, 0, 0), 0), (14, .iload_n 2, 1, (2, 0, 0, 0, 0, 0), 0), (15, .bipush 9, 2, (0, 0, 0, 0, 0, 0), nI 9), (17, .if_icmp .le 13, 3, (30, 0, 0, 0, 0, 0), 0)]
theorem obX2_changeRate_0 : dcd RX2 cX2_changeRate 0 bX2_changeRate_0 = true := by decide +kernel
def bX2_changeRate_23 : List Op3 := [(23, .dup, 1, (0, 0, 0, 0, 0, 0), 0)]
theorem obX2_changeRate_23 : dcd RX2 cX2_changeRate 23 bX2_changeRate_23 = true := by decide +kernel
def bX2_changeRate_30 : List Op3 := [(30, .aload_n 0, 1, (0, 0, 0, 0, 0, 0), 0), (31, .getfield 15, 3, (3, 1, 2, 11, 0, 0), 0), (34, .iload_n 1, 1, (1, 0, 0, 0, 0, 0), 0), (35, .iaload, 1, (0, 0, 0, 0, 0, 0), 0), (36, .istore_n 3, 1, (3, 0, 0, 0, 0, 0), 0), (37, .aload_n 0, 1, (0, 0, 0, 0, 0, 0), 0), (38, .getfield 15, 3, (3, 1, 2, 11, 0, 0), 0), (41, .iload_n 1, 1, (1, 0, 0, 0, 0, 0), 0), (42, .iload_n 2, 1, (2, 0, 0, 0, 0, 0), 0), (43, .iastore, 1, (0, 0, 0, 0, 0, 0), 0), (44, .iload_n 3, 1, (3, 0, 0, 0, 0, 0), 0), (45, .ireturn, 1, (0, 0, 0, 0, 0, 0), 0)]
theorem obX2_changeRate_30 : dcd RX2 cX2_changeRate 30 bX2_changeRate_30 = true := by decide +kernel
def bX2_sumByDays_0 : List Op3 := [(0, .iconst 0, 1, (0, 0, 0, 0, 0, 0), nI 0), (1, .istore_n 3, 1, (3, 0, 0, 0, 0, 0), 0), (2, .iload_n 1, 1, (1, 0, 0, 0, 0, 0), 0), (3, .iconst 1, 1, (0, 0, 0, 0, 0, 0), nI 1), (4, .iadd, 1, (0, 0, 0, 0, 0, 0), 0), (5, .istore 4, 2, (4, 0, 0, 0, 0, 0), 0)]
theorem obX2_sumByDays_0 : dcd RX2 cX2_sumByDays 0 bX2_sumByDays_0 = true := by decide +kernel
def bX2_sumByDays_7 : List Op3 := [(7, .iload 4, 2, (4, 0, 0, 0, 0, 0), 0), (9, .iload_n 2, 1, (2, 0, 0, 0, 0, 0), 0), (10, .if_icmp .gt 24, 3, (34, 0, 0, 0, 0, 0), 0), (13, .iload_n 3, 1, (3, 0, 0, 0, 0, 0), 0), (14, .aload_n 0, 1, (0, 0, 0, 0, 0, 0), 0), (15, .getfield 15, 3, (3, 1, 2, 11, 0, 0), 0), (18, .iload 4, 2, (4, 0, 0, 0, 0, 0), 0), (20, .bipush 7, 2, (0, 0, 0, 0, 0, 0), nI 7)]
theorem obX2_sumByDays_7 : dcd RX2 cX2_sumByDays 7 bX2_sumByDays_7 = true := by decide +kernel
def bX2_sumByDays_25 : List Op3 := [(25, .iaload, 1, (0, 0, 0, 0, 0, 0), 0), (26, .iadd, 1, (0, 0, 0, 0, 0, 0), 0), (27, .istore_n 3, 1, (3, 0, 0, 0, 0, 0), 0), (28, .iinc 4 1, 3, (4, 0, 0, 0, 0, 0), nI 1), (31, .goto (-24), 3, (7, 0, 0, 0, 0, 0), 0)]
theorem obX2_sumByDays_25 : dcd RX2 cX2_sumByDays 25 bX2_sumByDays_25 = true := by decide +kernel
def bX2_sumByDays_34 : List Op3 := [(34, .iload_n 3, 1, (3, 0, 0, 0, 0, 0), 0), (35, .ireturn, 1, (0, 0, 0, 0, 0, 0), 0)]
theorem obX2_sumByDays_34 : dcd RX2 cX2_sumByDays 34 bX2_sumByDays_34 = true := by decide +kernel
def bX2_sumByWeeks_0 : List Op3 := [(0, .iconst 0, 1, (0, 0, 0, 0, 0, 0), nI 0), (1, .istore_n 3, 1, (3, 0, 0, 0, 0, 0), 0), (2, .iconst 0, 1, (0, 0, 0, 0, 0, 0), nI 0), (3, .istore 4, 2, (4, 0, 0, 0, 0, 0), 0)]
theorem obX2_sumByWeeks_0 : dcd RX2 cX2_sumByWeeks 0 bX2_sumByWeeks_0 = true := by decide +kernel
def bX2_sumByWeeks_5 : List Op3 := [(5, .iload 4, 2, (4, 0, 0, 0, 0, 0), 0), (7, .bipush 7, 2, (0, 0, 0, 0, 0, 0), nI 7), (9, .if_icmp .ge 19, 3, (28, 0, 0, 0, 0, 0), 0), (12, .iload_n 3, 1, (3, 0, 0, 0, 0, 0), 0), (13, .aload_n 0, 1, (0, 0, 0, 0, 0, 0), 0), (14, .getfield 15, 3, (3, 1, 2, 11, 0, 0), 0), (17, .iload 4, 2, (4, 0, 0, 0, 0, 0), 0), (19, .iaload, 1, (0, 0, 0, 0, 0, 0), 0), (20, .iadd, 1, (0, 0, 0, 0, 0, 0), 0), (21, .istore_n 3, 1, (3, 0, 0, 0, 0, 0), 0), (22, .iinc 4 1, 3, (4, 0, 0, 0, 0, 0), nI 1), (25, .goto (-20), 3, (5, 0, 0, 0, 0, 0), 0)]
theorem obX2_sumByWeeks_5 : dcd RX2 cX2_sumByWeeks 5 bX2_sumByWeeks_5 = true := by decide +kernel
def bX2_sumByWeeks_28 : List Op3 := [(28, .iload_n 2, 1, (2, 0, 0, 0, 0, 0), 0), (29, .iload_n 1, 1, (1, 0, 0, 0, 0, 0), 0), (30, .isub, 1, (0, 0, 0, 0, 0, 0), 0), (31, .istore 4, 2, (4, 0, 0, 0, 0, 0), 0), (33, .iload 4, 2, (4, 0, 0, 0, 0, 0), 0), (35, .bipush 7, 2, (0, 0, 0, 0, 0, 0), nI 7), (37, .idiv, 1, (0, 0, 0, 0, 0, 0), 0), (38, .iload_n 3, 1, (3, 0, 0, 0, 0, 0), 0), (39, .imul, 1, (0, 0, 0, 0, 0, 0), 0), (40, .istore 5, 2, (5, 0, 0, 0, 0, 0), 0), (42, .iconst 1, 1, (0, 0, 0, 0, 0, 0), nI 1), (43, .istore 6, 2, (6, 0, 0, 0, 0, 0), 0)]
theorem obX2_sumByWeeks_28 : dcd RX2 cX2_sumByWeeks 28 bX2_sumByWeeks_28 = true := by decide +kernel
def bX2_sumByWeeks_45 : List Op3 := [(45, .iload 6, 2, (6, 0, 0, 0, 0, 0), 0), (47, .iload 4, 2, (4, 0, 0, 0, 0, 0), 0), (49, .bipush 7, 2, (0, 0, 0, 0, 0, 0), nI 7), (51, .irem, 1, (0, 0, 0, 0, 0, 0), 0), (52, .if_icmp .gt 28, 3, (80, 0, 0, 0, 0, 0), 0), (55, .iload 5, 2, (5, 0, 0, 0, 0, 0), 0), (57, .aload_n 0, 1, (0, 0, 0, 0, 0, 0), 0), (58, .getfield 15, 3, (3, 1, 2, 11, 0, 0), 0), (61, .iload_n 1, 1, (1, 0, 0, 0, 0, 0), 0), (62, .iload 6, 2, (6, 0, 0, 0, 0, 0), 0), (64, .iadd, 1, (0, 0, 0, 0, 0, 0), 0), (65, .bipush 7, 2, (0, 0, 0, 0, 0, 0), nI 7)]
theorem obX2_sumByWeeks_45 : dcd RX2 cX2_sumByWeeks 45 bX2_sumByWeeks_45 = true := by decide +kernel
def bX2_sumByWeeks_70 : List Op3 := [(70, .iaload, 1, (0, 0, 0, 0, 0, 0), 0), (71, .iadd, 1, (0, 0, 0, 0, 0, 0), 0), (72, .istore 5, 2, (5, 0, 0, 0, 0, 0), 0), (74, .iinc 6 1, 3, (6, 0, 0, 0, 0, 0), nI 1), (77, .goto (-32), 3, (45, 0, 0, 0, 0, 0), 0)]
theorem obX2_sumByWeeks_70 : dcd RX2 cX2_sumByWeeks 70 bX2_sumByWeeks_70 = true := by decide +kernel
def bX2_sumByWeeks_80 : List Op3 := [(80, .iload 5, 2, (5, 0, 0, 0, 0, 0), 0), (82, .ireturn, 1, (0, 0, 0, 0, 0, 0), 0)]
theorem obX2_sumByWeeks_80 : dcd RX2 cX2_sumByWeeks 80 bX2_sumByWeeks_80 = true := by decide +kernel
def bX2_weekdayOfLeastRate_0 : List Op3 := [(0, .aload_n 0, 1, (0, 0, 0, 0, 0, 0), 0), (1, .getfield 9, 3, (3, 0, 0, 0, 0, 0), 0), (4, .bipush 7, 2, (0, 0, 0, 0, 0, 0), nI 7)]
theorem obX2_weekdayOfLeastRate_0 : dcd RX2 cX2_weekdayOfLeastRate 0 bX2_weekdayOfLeastRate_0 = true := by decide +kernel
def bX2_weekdayOfLeastRate_9 : List Op3 := [(9, .istore_n 1, 1, (1, 0, 0, 0, 0, 0), 0), (10, .iconst 1, 1, (0, 0, 0, 0, 0, 0), nI 1), (11, .istore_n 2, 1, (2, 0, 0, 0, 0, 0), 0)]
theorem obX2_weekdayOfLeastRate_9 : dcd RX2 cX2_weekdayOfLeastRate 9 bX2_weekdayOfLeastRate_9 = true := by decide +kernel
def bX2_weekdayOfLeastRate_12 : List Op3 := [(12, .iload_n 2, 1, (2, 0, 0, 0, 0, 0), 0), (13, .bipush 7, 2, (0, 0, 0, 0, 0, 0), nI 7), (15, .if_icmp .ge 38, 3, (53, 0, 0, 0, 0, 0), 0), (18, .aload_n 0, 1, (0, 0, 0, 0, 0, 0), 0), (19, .getfield 9, 3, (3, 0, 0, 0, 0, 0), 0), (22, .iload_n 2, 1, (2, 0, 0, 0, 0, 0), 0), (23, .iadd, 1, (0, 0, 0, 0, 0, 0), 0), (24, .bipush 7, 2, (0, 0, 0, 0, 0, 0), nI 7)]
theorem obX2_weekdayOfLeastRate_12 : dcd RX2 cX2_weekdayOfLeastRate 12 bX2_weekdayOfLeastRate_12 = true := by decide +kernel
def bX2_weekdayOfLeastRate_29 : List Op3 := [(29, .istore_n 3, 1, (3, 0, 0, 0, 0, 0), 0), (30, .aload_n 0, 1, (0, 0, 0, 0, 0, 0), 0), (31, .getfield 15, 3, (3, 1, 2, 11, 0, 0), 0), (34, .iload_n 3, 1, (3, 0, 0, 0, 0, 0), 0), (35, .iaload, 1, (0, 0, 0, 0, 0, 0), 0), (36, .aload_n 0, 1, (0, 0, 0, 0, 0, 0), 0), (37, .getfield 15, 3, (3, 1, 2, 11, 0, 0), 0), (40, .iload_n 1, 1, (1, 0, 0, 0, 0, 0), 0), (41, .iaload, 1, (0, 0, 0, 0, 0, 0), 0), (42, .if_icmp .ge 5, 3, (47, 0, 0, 0, 0, 0), 0), (45, .iload_n 3, 1, (3, 0, 0, 0, 0, 0), 0), (46, .istore_n 1, 1, (1, 0, 0, 0, 0, 0), 0), (47, .iinc 2 1, 3, (2, 0, 0, 0, 0, 0), nI 1), (50, .goto (-38), 3, (12, 0, 0, 0, 0, 0), 0)]
theorem obX2_weekdayOfLeastRate_29 : dcd RX2 cX2_weekdayOfLeastRate 29 bX2_weekdayOfLeastRate_29 = true := by decide +kernel
def bX2_weekdayOfLeastRate_47 : List Op3 := [(47, .iinc 2 1, 3, (2, 0, 0, 0, 0, 0), nI 1), (50, .goto (-38), 3, (12, 0, 0, 0, 0, 0), 0)]
theorem obX2_weekdayOfLeastRate_47 : dcd RX2 cX2_weekdayOfLeastRate 47 bX2_weekdayOfLeastRate_47 = true := by decide +kernel
def bX2_weekdayOfLeastRate_53 : List Op3 := [(53, .iload_n 1, 1, (1, 0, 0, 0, 0, 0), 0), (54, .ireturn, 1, (0, 0, 0, 0, 0, 0), 0)]
theorem obX2_weekdayOfLeastRate_53 : dcd RX2 cX2_weekdayOfLeastRate 53 bX2_weekdayOfLeastRate_53 = true := by decide +kernel
/-! ===== stretches of instructions ===== -/
def bX4_collectOffers_0 : List Op3 := [(0, .aload_n 0, 1, (0, 0, 0, 0, 0, 0), 0), (1, .aload_n 1, 1, (1, 0, 0, 0, 0, 0), 0), (2, .getfield 30, 3, (2, 5, 0, 0, 0, 0), 0), (5, .putfield 26, 3, (7, 4, 0, 0, 0, 0), 0), (8, .iconst 0, 1, (0, 0, 0, 0, 0, 0), nI 0), (9, .istore_n 2, 1, (2, 0, 0, 0, 0, 0), 0)]
theorem obX4_collectOffers_0 : dcd RX4 cX4_collectOffers 0 bX4_collectOffers_0 = true := by decide +kernel
def bX4_collectOffers_10 : List Op3 := [(10, .iload_n 2, 1, (2, 0, 0, 0, 0, 0), 0), (11, .aload_n 0, 1, (0, 0, 0, 0, 0, 0), 0), (12, .getfield 26, 3, (7, 4, 0, 0, 0, 0), 0), (15, .if_icmp .ge 84, 3, (99, 0, 0, 0, 0, 0), 0), (18, .aload_n 1, 1, (1, 0, 0, 0, 0, 0), 0), (19, .getfield 33, 3, (2, 4, 2, 10, 0, 0), 0), (22, .iload_n 2, 1, (2, 0, 0, 0, 0, 0), 0), (23, .aaload, 1, (0, 0, 0, 0, 0, 0), 0), (24, .astore_n 3, 1, (3, 0, 0, 0, 0, 0), 0), (25, .iconst 0, 1, (0, 0, 0, 0, 0, 0), nI 0), (26, .istore 4, 2, (4, 0, 0, 0, 0, 0), 0)]
theorem obX4_collectOffers_10 : dcd RX4 cX4_collectOffers 10 bX4_collectOffers_10 = true := by decide +kernel
def bX4_collectOffers_28 : List Op3 := [(28, .iload 4, 2, (4, 0, 0, 0, 0, 0), 0), (30, .iconst 5, 1, (0, 0, 0, 0, 0, 0), nI 5), (31, .if_icmp .ge 62, 3, (93, 0, 0, 0, 0, 0), 0), (34, .aload_n 3, 1, (3, 0, 0, 0, 0, 0), 0), (35, .getfield 37, 3, (5, 6, 0, 0, 0, 0), 0), (38, .ifCond .eq 21, 3, (59, 0, 0, 0, 0, 0), 0), (41, .aload_n 3, 1, (3, 0, 0, 0, 0, 0), 0), (42, .getfield 43, 3, (5, 7, 2, 12, 0, 0), 0), (45, .iload 4, 2, (4, 0, 0, 0, 0, 0), 0), (47, .iaload, 1, (0, 0, 0, 0, 0, 0), 0), (48, .aload_n 3, 1, (3, 0, 0, 0, 0, 0), 0), (49, .getfield 46, 3, (5, 3, 0, 0, 0, 0), 0), (52, .if_icmp .lt 7, 3, (59, 0, 0, 0, 0, 0), 0), (55, .iconst 1, 1, (0, 0, 0, 0, 0, 0), nI 1), (56, .goto 4, 3, (60, 0, 0, 0, 0, 0), 0)]
theorem obX4_collectOffers_28 : dcd RX4 cX4_collectOffers 28 bX4_collectOffers_28 = true := by decide +kernel
def bX4_collectOffers_59 : List Op3 := [(59, .iconst 0, 1, (0, 0, 0, 0, 0, 0), nI 0), (60, .istore 5, 2, (5, 0, 0, 0, 0, 0), 0), (62, .aload_n 0, 1, (0, 0, 0, 0, 0, 0), 0), (63, .getfield 11, 3, (7, 0, 2, 18, 0, 0), 0), (66, .iload_n 2, 1, (2, 0, 0, 0, 0, 0), 0), (67, .aaload, 1, (0, 0, 0, 0, 0, 0), 0), (68, .iload 4, 2, (4, 0, 0, 0, 0, 0), 0), (70, .iload 5, 2, (5, 0, 0, 0, 0, 0), 0), (72, .ifCond .eq 13, 3, (85, 0, 0, 0, 0, 0), 0), (75, .aload_n 3, 1, (3, 0, 0, 0, 0, 0), 0), (76, .getfield 43, 3, (5, 7, 2, 12, 0, 0), 0), (79, .iload 4, 2, (4, 0, 0, 0, 0, 0), 0), (81, .iaload, 1, (0, 0, 0, 0, 0, 0), 0), (82, .goto 4, 3, (86, 0, 0, 0, 0, 0), 0)]
theorem obX4_collectOffers_59 : dcd RX4 cX4_collectOffers 59 bX4_collectOffers_59 = true := by decide +kernel
def bX4_collectOffers_60 : List Op3 := [(60, .istore 5, 2, (5, 0, 0, 0, 0, 0), 0), (62, .aload_n 0, 1, (0, 0, 0, 0, 0, 0), 0), (63, .getfield 11, 3, (7, 0, 2, 18, 0, 0), 0), (66, .iload_n 2, 1, (2, 0, 0, 0, 0, 0), 0), (67, .aaload, 1, (0, 0, 0, 0, 0, 0), 0), (68, .iload 4, 2, (4, 0, 0, 0, 0, 0), 0), (70, .iload 5, 2, (5, 0, 0, 0, 0, 0), 0), (72, .ifCond .eq 13, 3, (85, 0, 0, 0, 0, 0), 0), (75, .aload_n 3, 1, (3, 0, 0, 0, 0, 0), 0), (76, .getfield 43, 3, (5, 7, 2, 12, 0, 0), 0), (79, .iload 4, 2, (4, 0, 0, 0, 0, 0), 0), (81, .iaload, 1, (0, 0, 0, 0, 0, 0), 0), (82, .goto 4, 3, (86, 0, 0, 0, 0, 0), 0)]
theorem obX4_collectOffers_60 : dcd RX4 cX4_collectOffers 60 bX4_collectOffers_60 = true := by decide +kernel
def bX4_collectOffers_85 : List Op3 := [(85, .iconst 0, 1, (0, 0, 0, 0, 0, 0), nI 0), (86, .iastore, 1, (0, 0, 0, 0, 0, 0), 0), (87, .iinc 4 1, 3, (4, 0, 0, 0, 0, 0), nI 1), (90, .goto (-62), 3, (28, 0, 0, 0, 0, 0), 0)]
theorem obX4_collectOffers_85 : dcd RX4 cX4_collectOffers 85 bX4_collectOffers_85 = true := by decide +kernel
def bX4_collectOffers_86 : List Op3 := [(86, .iastore, 1, (0, 0, 0, 0, 0, 0), 0), (87, .iinc 4 1, 3, (4, 0, 0, 0, 0, 0), nI 1), (90, .goto (-62), 3, (28, 0, 0, 0, 0, 0), 0)]
theorem obX4_collectOffers_86 : dcd RX4 cX4_collectOffers 86 bX4_collectOffers_86 = true := by decide +kernel
def bX4_collectOffers_93 : List Op3 := [(93, .iinc 2 1, 3, (2, 0, 0, 0, 0, 0), nI 1), (96, .goto (-86), 3, (10, 0, 0, 0, 0, 0), 0)]
theorem obX4_collectOffers_93 : dcd RX4 cX4_collectOffers 93 bX4_collectOffers_93 = true := by decide +kernel
def bX4_collectOffers_99 : List Op3 := [(99, .return_, 1, (0, 0, 0, 0, 0, 0), 0)]
theorem obX4_collectOffers_99 : dcd RX4 cX4_collectOffers 99 bX4_collectOffers_99 = true := by decide +kernel
def bX4_bestSum_0 : List Op3 := [(0, .aload_n 0, 1, (0, 0, 0, 0, 0, 0), 0), (1, .aload_n 1, 1, (1, 0, 0, 0, 0, 0), 0)]
theorem obX4_bestSum_0 : dcd RX4 cX4_bestSum 0 bX4_bestSum_0 = true := by decide +kernel
def bX4_bestSum_5 : List Op3 := [(5, .aload_n 0, 1, (0, 0, 0, 0, 0, 0), 0), (6, .getfield 16, 3, (7, 1, 2, 20, 0, 0), 0), (9, .aload_n 0, 1, (0, 0, 0, 0, 0, 0), 0), (10, .getfield 26, 3, (7, 4, 0, 0, 0, 0), 0), (13, .aaload, 1, (0, 0, 0, 0, 0, 0), 0), (14, .iconst 0, 1, (0, 0, 0, 0, 0, 0), nI 0)]
theorem obX4_bestSum_5 : dcd RX4 cX4_bestSum 5 bX4_bestSum_5 = true := by decide +kernel
def bX4_bestSum_18 : List Op3 := [(18, .aload_n 0, 1, (0, 0, 0, 0, 0, 0), 0), (19, .getfield 26, 3, (7, 4, 0, 0, 0, 0), 0), (22, .iconst 1, 1, (0, 0, 0, 0, 0, 0), nI 1), (23, .isub, 1, (0, 0, 0, 0, 0, 0), 0), (24, .istore_n 2, 1, (2, 0, 0, 0, 0, 0), 0)]
theorem obX4_bestSum_18 : dcd RX4 cX4_bestSum 18 bX4_bestSum_18 = true := by decide +kernel
def bX4_bestSum_25 : List Op3 := [(25, .iload_n 2, 1, (2, 0, 0, 0, 0, 0), 0), (26, .ifCond .lt 37, 3, (63, 0, 0, 0, 0, 0), 0), (29, .iconst 0, 1, (0, 0, 0, 0, 0, 0), nI 0), (30, .istore_n 3, 1, (3, 0, 0, 0, 0, 0), 0)]
theorem obX4_bestSum_25 : dcd RX4 cX4_bestSum 25 bX4_bestSum_25 = true := by decide +kernel
def bX4_bestSum_31 : List Op3 := [(31, .iload_n 3, 1, (3, 0, 0, 0, 0, 0), 0), (32, .bipush 32, 2, (0, 0, 0, 0, 0, 0), nI 32), (34, .if_icmp .ge 23, 3, (57, 0, 0, 0, 0, 0), 0), (37, .aload_n 0, 1, (0, 0, 0, 0, 0, 0), 0), (38, .getfield 16, 3, (7, 1, 2, 20, 0, 0), 0), (41, .iload_n 2, 1, (2, 0, 0, 0, 0, 0), 0), (42, .aaload, 1, (0, 0, 0, 0, 0, 0), 0), (43, .iload_n 3, 1, (3, 0, 0, 0, 0, 0), 0), (44, .aload_n 0, 1, (0, 0, 0, 0, 0, 0), 0), (45, .iload_n 2, 1, (2, 0, 0, 0, 0, 0), 0), (46, .iload_n 3, 1, (3, 0, 0, 0, 0, 0), 0)]
theorem obX4_bestSum_31 : dcd RX4 cX4_bestSum 31 bX4_bestSum_31 = true := by decide +kernel
def bX4_bestSum_50 : List Op3 := [(50, .iastore, 1, (0, 0, 0, 0, 0, 0), 0), (51, .iinc 3 1, 3, (3, 0, 0, 0, 0, 0), nI 1), (54, .goto (-23), 3, (31, 0, 0, 0, 0, 0), 0)]
theorem obX4_bestSum_50 : dcd RX4 cX4_bestSum 50 bX4_bestSum_50 = true := by decide +kernel
def bX4_bestSum_57 : List Op3 := [(57, .iinc 2 (-1), 3, (2, 0, 0, 0, 0, 0), -1), (60, .goto (-35), 3, (25, 0, 0, 0, 0, 0), 0)]
theorem obX4_bestSum_57 : dcd RX4 cX4_bestSum 57 bX4_bestSum_57 = true := by decide +kernel
def bX4_bestSum_63 : List Op3 := [(63, .aload_n 0, 1, (0, 0, 0, 0, 0, 0), 0), (64, .getfield 16, 3, (7, 1, 2, 20, 0, 0), 0), (67, .iconst 0, 1, (0, 0, 0, 0, 0, 0), nI 0), (68, .aaload, 1, (0, 0, 0, 0, 0, 0), 0), (69, .iconst 0, 1, (0, 0, 0, 0, 0, 0), nI 0), (70, .iaload, 1, (0, 0, 0, 0, 0, 0), 0), (71, .ireturn, 1, (0, 0, 0, 0, 0, 0), 0)]
theorem obX4_bestSum_63 : dcd RX4 cX4_bestSum 63 bX4_bestSum_63 = true := by decide +kernel
def bX4_bestSumFrom_0 : List Op3 := [(0, .aload_n 0, 1, (0, 0, 0, 0, 0, 0), 0), (1, .getfield 16, 3, (7, 1, 2, 20, 0, 0), 0), (4, .iload_n 1, 1, (1, 0, 0, 0, 0, 0), 0), (5, .iconst 1, 1, (0, 0, 0, 0, 0, 0), nI 1), (6, .iadd, 1, (0, 0, 0, 0, 0, 0), 0), (7, .aaload, 1, (0, 0, 0, 0, 0, 0), 0), (8, .iload_n 2, 1, (2, 0, 0, 0, 0, 0), 0), (9, .iaload, 1, (0, 0, 0, 0, 0, 0), 0), (10, .istore_n 3, 1, (3, 0, 0, 0, 0, 0), 0), (11, .iconst 0, 1, (0, 0, 0, 0, 0, 0), nI 0), (12, .istore 4, 2, (4, 0, 0, 0, 0, 0), 0)]
theorem obX4_bestSumFrom_0 : dcd RX4 cX4_bestSumFrom 0 bX4_bestSumFrom_0 = true := by decide +kernel
def bX4_bestSumFrom_14 : List Op3 := [(14, .iload 4, 2, (4, 0, 0, 0, 0, 0), 0), (16, .iconst 5, 1, (0, 0, 0, 0, 0, 0), nI 5), (17, .if_icmp .ge 66, 3, (83, 0, 0, 0, 0, 0), 0), (20, .aload_n 0, 1, (0, 0, 0, 0, 0, 0), 0), (21, .getfield 11, 3, (7, 0, 2, 18, 0, 0), 0), (24, .iload_n 1, 1, (1, 0, 0, 0, 0, 0), 0), (25, .aaload, 1, (0, 0, 0, 0, 0, 0), 0), (26, .iload 4, 2, (4, 0, 0, 0, 0, 0), 0), (28, .iaload, 1, (0, 0, 0, 0, 0, 0), 0), (29, .ifCond .le 48, 3, (77, 0, 0, 0, 0, 0), 0), (32, .iload_n 2, 1, (2, 0, 0, 0, 0, 0), 0), (33, .iconst 1, 1, (0, 0, 0, 0, 0, 0), nI 1), (34, .iload 4, 2, (4, 0, 0, 0, 0, 0), 0), (36, .ishl, 1, (0, 0, 0, 0, 0, 0), 0), (37, .iand, 1, (0, 0, 0, 0, 0, 0), 0), (38, .ifCond .ne 39, 3, (77, 0, 0, 0, 0, 0), 0), (41, .aload_n 0, 1, (0, 0, 0, 0, 0, 0), 0), (42, .getfield 11, 3, (7, 0, 2, 18, 0, 0), 0), (45, .iload_n 1, 1, (1, 0, 0, 0, 0, 0), 0), (46, .aaload, 1, (0, 0, 0, 0, 0, 0), 0), (47, .iload 4, 2, (4, 0, 0, 0, 0, 0), 0), (49, .iaload, 1, (0, 0, 0, 0, 0, 0), 0), (50, .aload_n 0, 1, (0, 0, 0, 0, 0, 0), 0), (51, .getfield 16, 3, (7, 1, 2, 20, 0, 0), 0), (54, .iload_n 1, 1, (1, 0, 0, 0, 0, 0), 0), (55, .iconst 1, 1, (0, 0, 0, 0, 0, 0), nI 1), (56, .iadd, 1, (0, 0, 0, 0, 0, 0), 0), (57, .aaload, 1, (0, 0, 0, 0, 0, 0), 0), (58, .iload_n 2, 1, (2, 0, 0, 0, 0, 0), 0), (59, .iconst 1, 1, (0, 0, 0, 0, 0, 0), nI 1), (60, .iload 4, 2, (4, 0, 0, 0, 0, 0), 0), (62, .ishl, 1, (0, 0, 0, 0, 0, 0), 0), (63, .ior, 1, (0, 0, 0, 0, 0, 0), 0), (64, .iaload, 1, (0, 0, 0, 0, 0, 0), 0), (65, .iadd, 1, (0, 0, 0, 0, 0, 0), 0), (66, .istore 5, 2, (5, 0, 0, 0, 0, 0), 0), (68, .iload 5, 2, (5, 0, 0, 0, 0, 0), 0), (70, .iload_n 3, 1, (3, 0, 0, 0, 0, 0), 0), (71, .if_icmp .le 6, 3, (77, 0, 0, 0, 0, 0), 0), (74, .iload 5, 2, (5, 0, 0, 0, 0, 0), 0), (76, .istore_n 3, 1, (3, 0, 0, 0, 0, 0), 0), (77, .iinc 4 1, 3, (4, 0, 0, 0, 0, 0), nI 1), (80, .goto (-66), 3, (14, 0, 0, 0, 0, 0), 0)]
theorem obX4_bestSumFrom_14 : dcd RX4 cX4_bestSumFrom 14 bX4_bestSumFrom_14 = true := by decide +kernel
def bX4_bestSumFrom_77 : List Op3 := [(77, .iinc 4 1, 3, (4, 0, 0, 0, 0, 0), nI 1), (80, .goto (-66), 3, (14, 0, 0, 0, 0, 0), 0)]
theorem obX4_bestSumFrom_77 : dcd RX4 cX4_bestSumFrom 77 bX4_bestSumFrom_77 = true := by decide +kernel
def bX4_bestSumFrom_83 : List Op3 := [(83, .iload_n 3, 1, (3, 0, 0, 0, 0, 0), 0), (84, .ireturn, 1, (0, 0, 0, 0, 0, 0), 0)]
theorem obX4_bestSumFrom_83 : dcd RX4 cX4_bestSumFrom 83 bX4_bestSumFrom_83 = true := by decide +kernel
def bX4_plan_0 : List Op3 := [(0, .aload_n 0, 1, (0, 0, 0, 0, 0, 0), 0), (1, .aload_n 1, 1, (1, 0, 0, 0, 0, 0), 0)]
theorem obX4_plan_0 : dcd RX4 cX4_plan 0 bX4_plan_0 = true := by decide +kernel
def bX4_plan_5 : List Op3 := [(5, .istore_n 2, 1, (2, 0, 0, 0, 0, 0), 0), (6, .iconst 0, 1, (0, 0, 0, 0, 0, 0), nI 0), (7, .istore_n 3, 1, (3, 0, 0, 0, 0, 0), 0), (8, .iconst 0, 1, (0, 0, 0, 0, 0, 0), nI 0), (9, .istore 4, 2, (4, 0, 0, 0, 0, 0), 0)]
theorem obX4_plan_5 : dcd RX4 cX4_plan 5 bX4_plan_5 = true := by decide +kernel
def bX4_plan_11 : List Op3 := [(11, .iload 4, 2, (4, 0, 0, 0, 0, 0), 0), (13, .aload_n 0, 1, (0, 0, 0, 0, 0, 0), 0), (14, .getfield 26, 3, (7, 4, 0, 0, 0, 0), 0), (17, .if_icmp .ge 46, 3, (63, 0, 0, 0, 0, 0), 0), (20, .aload_n 0, 1, (0, 0, 0, 0, 0, 0), 0), (21, .getfield 22, 3, (7, 3, 2, 24, 0, 0), 0), (24, .iload 4, 2, (4, 0, 0, 0, 0, 0), 0), (26, .aload_n 0, 1, (0, 0, 0, 0, 0, 0), 0), (27, .iload 4, 2, (4, 0, 0, 0, 0, 0), 0), (29, .iload_n 3, 1, (3, 0, 0, 0, 0, 0), 0)]
theorem obX4_plan_11 : dcd RX4 cX4_plan 11 bX4_plan_11 = true := by decide +kernel
def bX4_plan_33 : List Op3 := [(33, .iastore, 1, (0, 0, 0, 0, 0, 0), 0), (34, .aload_n 0, 1, (0, 0, 0, 0, 0, 0), 0), (35, .getfield 22, 3, (7, 3, 2, 24, 0, 0), 0), (38, .iload 4, 2, (4, 0, 0, 0, 0, 0), 0), (40, .iaload, 1, (0, 0, 0, 0, 0, 0), 0), (41, .iconst (-1), 1, (0, 0, 0, 0, 0, 0), -1), (42, .if_icmp .eq 15, 3, (57, 0, 0, 0, 0, 0), 0), (45, .iload_n 3, 1, (3, 0, 0, 0, 0, 0), 0), (46, .iconst 1, 1, (0, 0, 0, 0, 0, 0), nI 1), (47, .aload_n 0, 1, (0, 0, 0, 0, 0, 0), 0), (48, .getfield 22, 3, (7, 3, 2, 24, 0, 0), 0), (51, .iload 4, 2, (4, 0, 0, 0, 0, 0), 0), (53, .iaload, 1, (0, 0, 0, 0, 0, 0), 0), (54, .ishl, 1, (0, 0, 0, 0, 0, 0), 0), (55, .ior, 1, (0, 0, 0, 0, 0, 0), 0), (56, .istore_n 3, 1, (3, 0, 0, 0, 0, 0), 0), (57, .iinc 4 1, 3, (4, 0, 0, 0, 0, 0), nI 1), (60, .goto (-49), 3, (11, 0, 0, 0, 0, 0), 0)]
theorem obX4_plan_33 : dcd RX4 cX4_plan 33 bX4_plan_33 = true := by decide +kernel
def bX4_plan_57 : List Op3 := [(57, .iinc 4 1, 3, (4, 0, 0, 0, 0, 0), nI 1), (60, .goto (-49), 3, (11, 0, 0, 0, 0, 0), 0)]
theorem obX4_plan_57 : dcd RX4 cX4_plan 57 bX4_plan_57 = true := by decide +kernel
def bX4_plan_63 : List Op3 := [(63, .iload_n 2, 1, (2, 0, 0, 0, 0, 0), 0), (64, .ireturn, 1, (0, 0, 0, 0, 0, 0), 0)]
theorem obX4_plan_63 : dcd RX4 cX4_plan 63 bX4_plan_63 = true := by decide +kernel
def bX4_firstBestBuyer_0 : List Op3 := [(0, .iconst 0, 1, (0, 0, 0, 0, 0, 0), nI 0), (1, .istore_n 3, 1, (3, 0, 0, 0, 0, 0), 0)]
theorem obX4_firstBestBuyer_0 : dcd RX4 cX4_firstBestBuyer 0 bX4_firstBestBuyer_0 = true := by decide +kernel
def bX4_firstBestBuyer_2 : List Op3 := [(2, .iload_n 3, 1, (3, 0, 0, 0, 0, 0), 0), (3, .iconst 5, 1, (0, 0, 0, 0, 0, 0), nI 5), (4, .if_icmp .ge 68, 3, (72, 0, 0, 0, 0, 0), 0), (7, .aload_n 0, 1, (0, 0, 0, 0, 0, 0), 0), (8, .getfield 11, 3, (7, 0, 2, 18, 0, 0), 0), (11, .iload_n 1, 1, (1, 0, 0, 0, 0, 0), 0), (12, .aaload, 1, (0, 0, 0, 0, 0, 0), 0), (13, .iload_n 3, 1, (3, 0, 0, 0, 0, 0), 0), (14, .iaload, 1, (0, 0, 0, 0, 0, 0), 0), (15, .ifCond .le 51, 3, (66, 0, 0, 0, 0, 0), 0), (18, .iload_n 2, 1, (2, 0, 0, 0, 0, 0), 0), (19, .iconst 1, 1, (0, 0, 0, 0, 0, 0), nI 1), (20, .iload_n 3, 1, (3, 0, 0, 0, 0, 0), 0), (21, .ishl, 1, (0, 0, 0, 0, 0, 0), 0), (22, .iand, 1, (0, 0, 0, 0, 0, 0), 0), (23, .ifCond .ne 43, 3, (66, 0, 0, 0, 0, 0), 0), (26, .aload_n 0, 1, (0, 0, 0, 0, 0, 0), 0), (27, .getfield 11, 3, (7, 0, 2, 18, 0, 0), 0), (30, .iload_n 1, 1, (1, 0, 0, 0, 0, 0), 0), (31, .aaload, 1, (0, 0, 0, 0, 0, 0), 0), (32, .iload_n 3, 1, (3, 0, 0, 0, 0, 0), 0), (33, .iaload, 1, (0, 0, 0, 0, 0, 0), 0), (34, .aload_n 0, 1, (0, 0, 0, 0, 0, 0), 0), (35, .getfield 16, 3, (7, 1, 2, 20, 0, 0), 0), (38, .iload_n 1, 1, (1, 0, 0, 0, 0, 0), 0), (39, .iconst 1, 1, (0, 0, 0, 0, 0, 0), nI 1), (40, .iadd, 1, (0, 0, 0, 0, 0, 0), 0), (41, .aaload, 1, (0, 0, 0, 0, 0, 0), 0), (42, .iload_n 2, 1, (2, 0, 0, 0, 0, 0), 0), (43, .iconst 1, 1, (0, 0, 0, 0, 0, 0), nI 1), (44, .iload_n 3, 1, (3, 0, 0, 0, 0, 0), 0), (45, .ishl, 1, (0, 0, 0, 0, 0, 0), 0), (46, .ior, 1, (0, 0, 0, 0, 0, 0), 0), (47, .iaload, 1, (0, 0, 0, 0, 0, 0), 0), (48, .iadd, 1, (0, 0, 0, 0, 0, 0), 0), (49, .istore 4, 2, (4, 0, 0, 0, 0, 0), 0), (51, .iload 4, 2, (4, 0, 0, 0, 0, 0), 0), (53, .aload_n 0, 1, (0, 0, 0, 0, 0, 0), 0), (54, .getfield 16, 3, (7, 1, 2, 20, 0, 0), 0), (57, .iload_n 1, 1, (1, 0, 0, 0, 0, 0), 0), (58, .aaload, 1, (0, 0, 0, 0, 0, 0), 0), (59, .iload_n 2, 1, (2, 0, 0, 0, 0, 0), 0), (60, .iaload, 1, (0, 0, 0, 0, 0, 0), 0), (61, .if_icmp .ne 5, 3, (66, 0, 0, 0, 0, 0), 0), (64, .iload_n 3, 1, (3, 0, 0, 0, 0, 0), 0), (65, .ireturn, 1, (0, 0, 0, 0, 0, 0), 0)]
theorem obX4_firstBestBuyer_2 : dcd RX4 cX4_firstBestBuyer 2 bX4_firstBestBuyer_2 = true := by decide +kernel
def bX4_firstBestBuyer_66 : List Op3 := [(66, .iinc 3 1, 3, (3, 0, 0, 0, 0, 0), nI 1), (69, .goto (-67), 3, (2, 0, 0, 0, 0, 0), 0)]
theorem obX4_firstBestBuyer_66 : dcd RX4 cX4_firstBestBuyer 66 bX4_firstBestBuyer_66 = true := by decide +kernel
def bX4_firstBestBuyer_72 : List Op3 := [(72, .iconst (-1), 1, (0, 0, 0, 0, 0, 0), -1), (73, .ireturn, 1, (0, 0, 0, 0, 0, 0), 0)]
theorem obX4_firstBestBuyer_72 : dcd RX4 cX4_firstBestBuyer 72 bX4_firstBestBuyer_72 = true := by decide +kernel
def bX4_buyerAt_0 : List Op3 := [(0, .iload_n 1, 1, (1, 0, 0, 0, 0, 0), 0), (1, .ifCond .lt 11, 3, (12, 0, 0, 0, 0, 0), 0), (4, .iload_n 1, 1, (1, 0, 0, 0, 0, 0), 0), (5, .aload_n 0, 1, (0, 0, 0, 0, 0, 0), 0), (6, .getfield 26, 3, (7, 4, 0, 0, 0, 0), 0), (9, .if_icmp .lt 7, 3, (16, 0, 0, 0, 0, 0), 0), (12, .iconst (-1), 1, (0, 0, 0, 0, 0, 0), -1), (13, .goto 9, 3, (22, 0, 0, 0, 0, 0), 0)]
theorem obX4_buyerAt_0 : dcd RX4 cX4_buyerAt 0 bX4_buyerAt_0 = true := by decide +kernel
def bX4_buyerAt_12 : List Op3 := [(12, .iconst (-1), 1, (0, 0, 0, 0, 0, 0), -1), (13, .goto 9, 3, (22, 0, 0, 0, 0, 0), 0)]
theorem obX4_buyerAt_12 : dcd RX4 cX4_buyerAt 12 bX4_buyerAt_12 = true := by decide +kernel
def bX4_buyerAt_16 : List Op3 := [(16, .aload_n 0, 1, (0, 0, 0, 0, 0, 0), 0), (17, .getfield 22, 3, (7, 3, 2, 24, 0, 0), 0), (20, .iload_n 1, 1, (1, 0, 0, 0, 0, 0), 0), (21, .iaload, 1, (0, 0, 0, 0, 0, 0), 0), (22, .ireturn, 1, (0, 0, 0, 0, 0, 0), 0)]
theorem obX4_buyerAt_16 : dcd RX4 cX4_buyerAt 16 bX4_buyerAt_16 = true := by decide +kernel
def bX4_buyerAt_22 : List Op3 := [(22, .ireturn, 1, (0, 0, 0, 0, 0, 0), 0)]
theorem obX4_buyerAt_22 : dcd RX4 cX4_buyerAt 22 bX4_buyerAt_22 = true := by decide +kernel
def bX4_bestSumByTrying_0 : List Op3 := [(0, .aload_n 0, 1, (0, 0, 0, 0, 0, 0), 0), (1, .aload_n 1, 1, (1, 0, 0, 0, 0, 0), 0)]
theorem obX4_bestSumByTrying_0 : dcd RX4 cX4_bestSumByTrying 0 bX4_bestSumByTrying_0 = true := by decide +kernel
def bX4_bestSumByTrying_5 : List Op3 := [(5, .aload_n 0, 1, (0, 0, 0, 0, 0, 0), 0)]
theorem obX4_bestSumByTrying_5 : dcd RX4 cX4_bestSumByTrying 5 bX4_bestSumByTrying_5 = true := by decide +kernel
def bX4_bestSumByTrying_9 : List Op3 := [(9, .aload_n 0, 1, (0, 0, 0, 0, 0, 0), 0), (10, .iconst 0, 1, (0, 0, 0, 0, 0, 0), nI 0), (11, .iconst 0, 1, (0, 0, 0, 0, 0, 0), nI 0), (12, .iconst 0, 1, (0, 0, 0, 0, 0, 0), nI 0), (13, .iconst 0, 1, (0, 0, 0, 0, 0, 0), nI 0)]
theorem obX4_bestSumByTrying_9 : dcd RX4 cX4_bestSumByTrying 9 bX4_bestSumByTrying_9 = true := by decide +kernel
def bX4_bestSumByTrying_17 : List Op3 := [(17, .ireturn, 1, (0, 0, 0, 0, 0, 0), 0)]
theorem obX4_bestSumByTrying_17 : dcd RX4 cX4_bestSumByTrying 17 bX4_bestSumByTrying_17 = true := by decide +kernel
def bX4_fillTopOffers_0 : List Op3 := [(0, .aload_n 0, 1, (0, 0, 0, 0, 0, 0), 0), (1, .getfield 19, 3, (7, 2, 2, 22, 0, 0), 0), (4, .aload_n 0, 1, (0, 0, 0, 0, 0, 0), 0), (5, .getfield 26, 3, (7, 4, 0, 0, 0, 0), 0), (8, .aaload, 1, (0, 0, 0, 0, 0, 0), 0), (9, .iconst 0, 1, (0, 0, 0, 0, 0, 0), nI 0)]
theorem obX4_fillTopOffers_0 : dcd RX4 cX4_fillTopOffers 0 bX4_fillTopOffers_0 = true := by decide +kernel
def bX4_fillTopOffers_13 : List Op3 := [(13, .aload_n 0, 1, (0, 0, 0, 0, 0, 0), 0), (14, .getfield 26, 3, (7, 4, 0, 0, 0, 0), 0), (17, .iconst 1, 1, (0, 0, 0, 0, 0, 0), nI 1), (18, .isub, 1, (0, 0, 0, 0, 0, 0), 0), (19, .istore_n 1, 1, (1, 0, 0, 0, 0, 0), 0)]
theorem obX4_fillTopOffers_13 : dcd RX4 cX4_fillTopOffers 13 bX4_fillTopOffers_13 = true := by decide +kernel
def bX4_fillTopOffers_20 : List Op3 := [(20, .iload_n 1, 1, (1, 0, 0, 0, 0, 0), 0), (21, .ifCond .lt 51, 3, (72, 0, 0, 0, 0, 0), 0), (24, .iconst 0, 1, (0, 0, 0, 0, 0, 0), nI 0), (25, .istore_n 2, 1, (2, 0, 0, 0, 0, 0), 0)]
theorem obX4_fillTopOffers_20 : dcd RX4 cX4_fillTopOffers 20 bX4_fillTopOffers_20 = true := by decide +kernel
def bX4_fillTopOffers_26 : List Op3 := [(26, .iload_n 2, 1, (2, 0, 0, 0, 0, 0), 0), (27, .iconst 5, 1, (0, 0, 0, 0, 0, 0), nI 5), (28, .if_icmp .ge 38, 3, (66, 0, 0, 0, 0, 0), 0), (31, .aload_n 0, 1, (0, 0, 0, 0, 0, 0), 0), (32, .getfield 19, 3, (7, 2, 2, 22, 0, 0), 0), (35, .iload_n 1, 1, (1, 0, 0, 0, 0, 0), 0), (36, .aaload, 1, (0, 0, 0, 0, 0, 0), 0), (37, .iload_n 2, 1, (2, 0, 0, 0, 0, 0), 0), (38, .aload_n 0, 1, (0, 0, 0, 0, 0, 0), 0), (39, .getfield 19, 3, (7, 2, 2, 22, 0, 0), 0), (42, .iload_n 1, 1, (1, 0, 0, 0, 0, 0), 0), (43, .iconst 1, 1, (0, 0, 0, 0, 0, 0), nI 1), (44, .iadd, 1, (0, 0, 0, 0, 0, 0), 0), (45, .aaload, 1, (0, 0, 0, 0, 0, 0), 0), (46, .iload_n 2, 1, (2, 0, 0, 0, 0, 0), 0), (47, .iaload, 1, (0, 0, 0, 0, 0, 0), 0), (48, .aload_n 0, 1, (0, 0, 0, 0, 0, 0), 0), (49, .getfield 11, 3, (7, 0, 2, 18, 0, 0), 0), (52, .iload_n 1, 1, (1, 0, 0, 0, 0, 0), 0), (53, .aaload, 1, (0, 0, 0, 0, 0, 0), 0), (54, .iload_n 2, 1, (2, 0, 0, 0, 0, 0), 0), (55, .iaload, 1, (0, 0, 0, 0, 0, 0), 0)]
theorem obX4_fillTopOffers_26 : dcd RX4 cX4_fillTopOffers 26 bX4_fillTopOffers_26 = true := by decide +kernel
def bX4_fillTopOffers_59 : List Op3 := [(59, .iastore, 1, (0, 0, 0, 0, 0, 0), 0), (60, .iinc 2 1, 3, (2, 0, 0, 0, 0, 0), nI 1), (63, .goto (-37), 3, (26, 0, 0, 0, 0, 0), 0)]
theorem obX4_fillTopOffers_59 : dcd RX4 cX4_fillTopOffers 59 bX4_fillTopOffers_59 = true := by decide +kernel
def bX4_fillTopOffers_66 : List Op3 := [(66, .iinc 1 (-1), 3, (1, 0, 0, 0, 0, 0), -1), (69, .goto (-49), 3, (20, 0, 0, 0, 0, 0), 0)]
theorem obX4_fillTopOffers_66 : dcd RX4 cX4_fillTopOffers 66 bX4_fillTopOffers_66 = true := by decide +kernel
def bX4_fillTopOffers_72 : List Op3 := [(72, .return_, 1, (0, 0, 0, 0, 0, 0), 0)]
theorem obX4_fillTopOffers_72 : dcd RX4 cX4_fillTopOffers 72 bX4_fillTopOffers_72 = true := by decide +kernel
def bX4_hopeFrom_0 : List Op3 := [(0, .iconst 0, 1, (0, 0, 0, 0, 0, 0), nI 0), (1, .istore_n 3, 1, (3, 0, 0, 0, 0, 0), 0), (2, .iconst 0, 1, (0, 0, 0, 0, 0, 0), nI 0), (3, .istore 4, 2, (4, 0, 0, 0, 0, 0), 0)]
theorem obX4_hopeFrom_0 : dcd RX4 cX4_hopeFrom 0 bX4_hopeFrom_0 = true := by decide +kernel
def bX4_hopeFrom_5 : List Op3 := [(5, .iload 4, 2, (4, 0, 0, 0, 0, 0), 0), (7, .iconst 5, 1, (0, 0, 0, 0, 0, 0), nI 5), (8, .if_icmp .ge 30, 3, (38, 0, 0, 0, 0, 0), 0), (11, .iload_n 2, 1, (2, 0, 0, 0, 0, 0), 0), (12, .iconst 1, 1, (0, 0, 0, 0, 0, 0), nI 1), (13, .iload 4, 2, (4, 0, 0, 0, 0, 0), 0), (15, .ishl, 1, (0, 0, 0, 0, 0, 0), 0), (16, .iand, 1, (0, 0, 0, 0, 0, 0), 0), (17, .ifCond .ne 15, 3, (32, 0, 0, 0, 0, 0), 0), (20, .iload_n 3, 1, (3, 0, 0, 0, 0, 0), 0), (21, .aload_n 0, 1, (0, 0, 0, 0, 0, 0), 0), (22, .getfield 19, 3, (7, 2, 2, 22, 0, 0), 0), (25, .iload_n 1, 1, (1, 0, 0, 0, 0, 0), 0), (26, .aaload, 1, (0, 0, 0, 0, 0, 0), 0), (27, .iload 4, 2, (4, 0, 0, 0, 0, 0), 0), (29, .iaload, 1, (0, 0, 0, 0, 0, 0), 0), (30, .iadd, 1, (0, 0, 0, 0, 0, 0), 0), (31, .istore_n 3, 1, (3, 0, 0, 0, 0, 0), 0), (32, .iinc 4 1, 3, (4, 0, 0, 0, 0, 0), nI 1), (35, .goto (-30), 3, (5, 0, 0, 0, 0, 0), 0)]
theorem obX4_hopeFrom_5 : dcd RX4 cX4_hopeFrom 5 bX4_hopeFrom_5 = true := by decide +kernel
def bX4_hopeFrom_32 : List Op3 := [(32, .iinc 4 1, 3, (4, 0, 0, 0, 0, 0), nI 1), (35, .goto (-30), 3, (5, 0, 0, 0, 0, 0), 0)]
theorem obX4_hopeFrom_32 : dcd RX4 cX4_hopeFrom 32 bX4_hopeFrom_32 = true := by decide +kernel
def bX4_hopeFrom_38 : List Op3 := [(38, .iload_n 3, 1, (3, 0, 0, 0, 0, 0), 0), (39, .ireturn, 1, (0, 0, 0, 0, 0, 0), 0)]
theorem obX4_hopeFrom_38 : dcd RX4 cX4_hopeFrom 38 bX4_hopeFrom_38 = true := by decide +kernel
def bX4_tryFrom_0 : List Op3 := [(0, .iload_n 1, 1, (1, 0, 0, 0, 0, 0), 0), (1, .aload_n 0, 1, (0, 0, 0, 0, 0, 0), 0), (2, .getfield 26, 3, (7, 4, 0, 0, 0, 0), 0), (5, .if_icmp .lt 10, 3, (15, 0, 0, 0, 0, 0), 0), (8, .iload 4, 2, (4, 0, 0, 0, 0, 0), 0), (10, .iload_n 3, 1, (3, 0, 0, 0, 0, 0), 0)]
theorem obX4_tryFrom_0 : dcd RX4 cX4_tryFrom 0 bX4_tryFrom_0 = true := by decide +kernel
def bX4_tryFrom_14 : List Op3 := [(14, .ireturn, 1, (0, 0, 0, 0, 0, 0), 0)]
theorem obX4_tryFrom_14 : dcd RX4 cX4_tryFrom 14 bX4_tryFrom_14 = true := by decide +kernel
def bX4_tryFrom_15 : List Op3 := [(15, .iload_n 3, 1, (3, 0, 0, 0, 0, 0), 0), (16, .aload_n 0, 1, (0, 0, 0, 0, 0, 0), 0), (17, .iload_n 1, 1, (1, 0, 0, 0, 0, 0), 0), (18, .iload_n 2, 1, (2, 0, 0, 0, 0, 0), 0)]
theorem obX4_tryFrom_15 : dcd RX4 cX4_tryFrom 15 bX4_tryFrom_15 = true := by decide +kernel
def bX4_tryFrom_22 : List Op3 := [(22, .iadd, 1, (0, 0, 0, 0, 0, 0), 0), (23, .iload 4, 2, (4, 0, 0, 0, 0, 0), 0), (25, .if_icmp .gt 6, 3, (31, 0, 0, 0, 0, 0), 0), (28, .iload 4, 2, (4, 0, 0, 0, 0, 0), 0), (30, .ireturn, 1, (0, 0, 0, 0, 0, 0), 0)]
theorem obX4_tryFrom_22 : dcd RX4 cX4_tryFrom 22 bX4_tryFrom_22 = true := by decide +kernel
def bX4_tryFrom_31 : List Op3 := [(31, .iload 4, 2, (4, 0, 0, 0, 0, 0), 0), (33, .istore 5, 2, (5, 0, 0, 0, 0, 0), 0), (35, .iconst 0, 1, (0, 0, 0, 0, 0, 0), nI 0), (36, .istore 6, 2, (6, 0, 0, 0, 0, 0), 0)]
theorem obX4_tryFrom_31 : dcd RX4 cX4_tryFrom 31 bX4_tryFrom_31 = true := by decide +kernel
def bX4_tryFrom_38 : List Op3 := [(38, .iload 6, 2, (6, 0, 0, 0, 0, 0), 0), (40, .iconst 5, 1, (0, 0, 0, 0, 0, 0), nI 5), (41, .if_icmp .ge 55, 3, (96, 0, 0, 0, 0, 0), 0), (44, .aload_n 0, 1, (0, 0, 0, 0, 0, 0), 0), (45, .getfield 11, 3, (7, 0, 2, 18, 0, 0), 0), (48, .iload_n 1, 1, (1, 0, 0, 0, 0, 0), 0), (49, .aaload, 1, (0, 0, 0, 0, 0, 0), 0), (50, .iload 6, 2, (6, 0, 0, 0, 0, 0), 0), (52, .iaload, 1, (0, 0, 0, 0, 0, 0), 0), (53, .istore 7, 2, (7, 0, 0, 0, 0, 0), 0), (55, .iload 7, 2, (7, 0, 0, 0, 0, 0), 0), (57, .ifCond .le 33, 3, (90, 0, 0, 0, 0, 0), 0), (60, .iload_n 2, 1, (2, 0, 0, 0, 0, 0), 0), (61, .iconst 1, 1, (0, 0, 0, 0, 0, 0), nI 1), (62, .iload 6, 2, (6, 0, 0, 0, 0, 0), 0), (64, .ishl, 1, (0, 0, 0, 0, 0, 0), 0), (65, .iand, 1, (0, 0, 0, 0, 0, 0), 0), (66, .ifCond .ne 24, 3, (90, 0, 0, 0, 0, 0), 0), (69, .aload_n 0, 1, (0, 0, 0, 0, 0, 0), 0), (70, .iload_n 1, 1, (1, 0, 0, 0, 0, 0), 0), (71, .iconst 1, 1, (0, 0, 0, 0, 0, 0), nI 1), (72, .iadd, 1, (0, 0, 0, 0, 0, 0), 0), (73, .iload_n 2, 1, (2, 0, 0, 0, 0, 0), 0), (74, .iconst 1, 1, (0, 0, 0, 0, 0, 0), nI 1), (75, .iload 6, 2, (6, 0, 0, 0, 0, 0), 0), (77, .ishl, 1, (0, 0, 0, 0, 0, 0), 0), (78, .ior, 1, (0, 0, 0, 0, 0, 0), 0), (79, .iload_n 3, 1, (3, 0, 0, 0, 0, 0), 0), (80, .iload 7, 2, (7, 0, 0, 0, 0, 0), 0), (82, .iadd, 1, (0, 0, 0, 0, 0, 0), 0), (83, .iload 5, 2, (5, 0, 0, 0, 0, 0), 0)]
theorem obX4_tryFrom_38 : dcd RX4 cX4_tryFrom 38 bX4_tryFrom_38 = true := by decide +kernel
def bX4_tryFrom_88 : List Op3 := [(88, .istore 5, 2, (5, 0, 0, 0, 0, 0), 0), (90, .iinc 6 1, 3, (6, 0, 0, 0, 0, 0), nI 1), (93, .goto (-55), 3, (38, 0, 0, 0, 0, 0), 0)]
theorem obX4_tryFrom_88 : dcd RX4 cX4_tryFrom 88 bX4_tryFrom_88 = true := by decide +kernel
def bX4_tryFrom_90 : List Op3 := [(90, .iinc 6 1, 3, (6, 0, 0, 0, 0, 0), nI 1), (93, .goto (-55), 3, (38, 0, 0, 0, 0, 0), 0)]
theorem obX4_tryFrom_90 : dcd RX4 cX4_tryFrom 90 bX4_tryFrom_90 = true := by decide +kernel
def bX4_tryFrom_96 : List Op3 := [(96, .aload_n 0, 1, (0, 0, 0, 0, 0, 0), 0), (97, .iload_n 1, 1, (1, 0, 0, 0, 0, 0), 0), (98, .iconst 1, 1, (0, 0, 0, 0, 0, 0), nI 1), (99, .iadd, 1, (0, 0, 0, 0, 0, 0), 0), (100, .iload_n 2, 1, (2, 0, 0, 0, 0, 0), 0), (101, .iload_n 3, 1, (3, 0, 0, 0, 0, 0), 0), (102, .iload 5, 2, (5, 0, 0, 0, 0, 0), 0)]
theorem obX4_tryFrom_96 : dcd RX4 cX4_tryFrom 96 bX4_tryFrom_96 = true := by decide +kernel
def bX4_tryFrom_107 : List Op3 := [(107, .ireturn, 1, (0, 0, 0, 0, 0, 0), 0)]
theorem obX4_tryFrom_107 : dcd RX4 cX4_tryFrom 107 bX4_tryFrom_107 = true := by decide +kernel
/-! ===== stretches of instructions ===== -/
def bX5_prepare_0 : List Op3 := [(0, .aload_n 0, 1, (0, 0, 0, 0, 0, 0), 0), (1, .getfield 13, 3, (8, 0, 2, 25, 0, 0), 0), (4, .aload_n 0, 1, (0, 0, 0, 0, 0, 0), 0), (5, .getfield 17, 3, (8, 1, 0, 0, 0, 0), 0), (8, .aaload, 1, (0, 0, 0, 0, 0, 0), 0), (9, .aload_n 1, 1, (1, 0, 0, 0, 0, 0), 0)]
theorem obX5_prepare_0 : dcd RX5 cX5_prepare 0 bX5_prepare_0 = true := by decide +kernel
def bX5_prepare_13 : List Op3 := [(13, .return_, 1, (0, 0, 0, 0, 0, 0), 0)]
theorem obX5_prepare_13 : dcd RX5 cX5_prepare 13 bX5_prepare_13 = true := by decide +kernel
def bX5_keepPrepared_0 : List Op3 := [(0, .aload_n 0, 1, (0, 0, 0, 0, 0, 0), 0), (1, .aload_n 0, 1, (0, 0, 0, 0, 0, 0), 0), (2, .getfield 17, 3, (8, 1, 0, 0, 0, 0), 0), (5, .iconst 1, 1, (0, 0, 0, 0, 0, 0), nI 1), (6, .iadd, 1, (0, 0, 0, 0, 0, 0), 0), (7, .bipush 9, 2, (0, 0, 0, 0, 0, 0), nI 9), (9, .irem, 1, (0, 0, 0, 0, 0, 0), 0), (10, .putfield 17, 3, (8, 1, 0, 0, 0, 0), 0), (13, .aload_n 0, 1, (0, 0, 0, 0, 0, 0), 0), (14, .aload_n 0, 1, (0, 0, 0, 0, 0, 0), 0), (15, .getfield 21, 3, (8, 2, 0, 0, 0, 0), 0), (18, .iconst 1, 1, (0, 0, 0, 0, 0, 0), nI 1), (19, .iadd, 1, (0, 0, 0, 0, 0, 0), 0), (20, .bipush 8, 2, (0, 0, 0, 0, 0, 0), nI 8)]
theorem obX5_keepPrepared_0 : dcd RX5 cX5_keepPrepared 0 bX5_keepPrepared_0 = true := by decide +kernel
def bX5_keepPrepared_25 : List Op3 := [(25, .putfield 21, 3, (8, 2, 0, 0, 0, 0), 0), (28, .return_, 1, (0, 0, 0, 0, 0, 0), 0)]
theorem obX5_keepPrepared_25 : dcd RX5 cX5_keepPrepared 25 bX5_keepPrepared_25 = true := by decide +kernel
def bX5_bringPreparedTo_0 : List Op3 := [(0, .aload_n 1, 1, (1, 0, 0, 0, 0, 0), 0), (1, .aload_n 0, 1, (0, 0, 0, 0, 0, 0), 0), (2, .getfield 13, 3, (8, 0, 2, 25, 0, 0), 0), (5, .aload_n 0, 1, (0, 0, 0, 0, 0, 0), 0), (6, .getfield 17, 3, (8, 1, 0, 0, 0, 0), 0), (9, .aaload, 1, (0, 0, 0, 0, 0, 0), 0)]
theorem obX5_bringPreparedTo_0 : dcd RX5 cX5_bringPreparedTo 0 bX5_bringPreparedTo_0 = true := by decide +kernel
def bX5_bringPreparedTo_13 : List Op3 := [(13, .return_, 1, (0, 0, 0, 0, 0, 0), 0)]
theorem obX5_bringPreparedTo_13 : dcd RX5 cX5_bringPreparedTo 13 bX5_bringPreparedTo_13 = true := by decide +kernel
def bX5_stepBack_0 : List Op3 := [(0, .aload_n 0, 1, (0, 0, 0, 0, 0, 0), 0), (1, .getfield 21, 3, (8, 2, 0, 0, 0, 0), 0), (4, .ifCond .le 40, 3, (44, 0, 0, 0, 0, 0), 0), (7, .aload_n 0, 1, (0, 0, 0, 0, 0, 0), 0), (8, .aload_n 0, 1, (0, 0, 0, 0, 0, 0), 0), (9, .getfield 17, 3, (8, 1, 0, 0, 0, 0), 0), (12, .bipush 8, 2, (0, 0, 0, 0, 0, 0), nI 8), (14, .iadd, 1, (0, 0, 0, 0, 0, 0), 0), (15, .bipush 9, 2, (0, 0, 0, 0, 0, 0), nI 9), (17, .irem, 1, (0, 0, 0, 0, 0, 0), 0), (18, .putfield 17, 3, (8, 1, 0, 0, 0, 0), 0), (21, .aload_n 0, 1, (0, 0, 0, 0, 0, 0), 0), (22, .dup, 1, (0, 0, 0, 0, 0, 0), 0), (23, .getfield 21, 3, (8, 2, 0, 0, 0, 0), 0), (26, .iconst 1, 1, (0, 0, 0, 0, 0, 0), nI 1), (27, .isub, 1, (0, 0, 0, 0, 0, 0), 0), (28, .putfield 21, 3, (8, 2, 0, 0, 0, 0), 0), (31, .aload_n 1, 1, (1, 0, 0, 0, 0, 0), 0), (32, .aload_n 0, 1, (0, 0, 0, 0, 0, 0), 0), (33, .getfield 13, 3, (8, 0, 2, 25, 0, 0), 0), (36, .aload_n 0, 1, (0, 0, 0, 0, 0, 0), 0), (37, .getfield 17, 3, (8, 1, 0, 0, 0, 0), 0), (40, .aaload, 1, (0, 0, 0, 0, 0, 0), 0)]
theorem obX5_stepBack_0 : dcd RX5 cX5_stepBack 0 bX5_stepBack_0 = true := by decide +kernel
def bX5_stepBack_44 : List Op3 := [(44, .return_, 1, (0, 0, 0, 0, 0, 0), 0)]
theorem obX5_stepBack_44 : dcd RX5 cX5_stepBack 44 bX5_stepBack_44 = true := by decide +kernel
def bX5_forget_0 : List Op3 := [(0, .aload_n 0, 1, (0, 0, 0, 0, 0, 0), 0), (1, .iconst 0, 1, (0, 0, 0, 0, 0, 0), nI 0), (2, .putfield 21, 3, (8, 2, 0, 0, 0, 0), 0), (5, .return_, 1, (0, 0, 0, 0, 0, 0), 0)]
theorem obX5_forget_0 : dcd RX5 cX5_forget 0 bX5_forget_0 = true := by decide +kernel
/-! ===== stretches of instructions ===== -/
def bX6_copyFrom_0 : List Op3 := [(0, .aload_n 0, 1, (0, 0, 0, 0, 0, 0), 0), (1, .aload_n 1, 1, (1, 0, 0, 0, 0, 0), 0), (2, .getfield 15, 3, (5, 0, 0, 0, 0, 0), 0), (5, .putfield 15, 3, (5, 0, 0, 0, 0, 0), 0), (8, .aload_n 0, 1, (0, 0, 0, 0, 0, 0), 0), (9, .aload_n 1, 1, (1, 0, 0, 0, 0, 0), 0), (10, .getfield 19, 3, (5, 1, 0, 0, 0, 0), 0), (13, .putfield 19, 3, (5, 1, 0, 0, 0, 0), 0), (16, .aload_n 0, 1, (0, 0, 0, 0, 0, 0), 0), (17, .aload_n 1, 1, (1, 0, 0, 0, 0, 0), 0), (18, .getfield 22, 3, (5, 2, 0, 0, 0, 0), 0), (21, .putfield 22, 3, (5, 2, 0, 0, 0, 0), 0), (24, .aload_n 0, 1, (0, 0, 0, 0, 0, 0), 0), (25, .aload_n 1, 1, (1, 0, 0, 0, 0, 0), 0), (26, .getfield 25, 3, (5, 3, 0, 0, 0, 0), 0), (29, .putfield 25, 3, (5, 3, 0, 0, 0, 0), 0), (32, .aload_n 0, 1, (0, 0, 0, 0, 0, 0), 0), (33, .aload_n 1, 1, (1, 0, 0, 0, 0, 0), 0), (34, .getfield 28, 3, (5, 4, 0, 0, 0, 0), 0), (37, .putfield 28, 3, (5, 4, 0, 0, 0, 0), 0), (40, .aload_n 0, 1, (0, 0, 0, 0, 0, 0), 0), (41, .aload_n 1, 1, (1, 0, 0, 0, 0, 0), 0), (42, .getfield 31, 3, (5, 5, 0, 0, 0, 0), 0), (45, .putfield 31, 3, (5, 5, 0, 0, 0, 0), 0), (48, .aload_n 0, 1, (0, 0, 0, 0, 0, 0), 0), (49, .aload_n 1, 1, (1, 0, 0, 0, 0, 0), 0), (50, .getfield 34, 3, (5, 6, 0, 0, 0, 0), 0), (53, .putfield 34, 3, (5, 6, 3, 0, 0, 0), 0), (56, .aload_n 1, 1, (1, 0, 0, 0, 0, 0), 0), (57, .getfield 9, 3, (5, 7, 2, 12, 0, 0), 0), (60, .iconst 0, 1, (0, 0, 0, 0, 0, 0), nI 0), (61, .aload_n 0, 1, (0, 0, 0, 0, 0, 0), 0), (62, .getfield 9, 3, (5, 7, 2, 12, 0, 0), 0), (65, .iconst 0, 1, (0, 0, 0, 0, 0, 0), nI 0), (66, .iconst 5, 1, (0, 0, 0, 0, 0, 0), nI 5)]
theorem obX6_copyFrom_0 : dcd RX6 cX6_copyFrom 0 bX6_copyFrom_0 = true := by decide +kernel
def bX6_copyFrom_70 : List Op3 := [(70, .return_, 1, (0, 0, 0, 0, 0, 0), 0)]
theorem obX6_copyFrom_70 : dcd RX6 cX6_copyFrom 70 bX6_copyFrom_70 = true := by decide +kernel
def bX6_buyerAlone_0 : List Op3 := [(0, .iconst 0, 1, (0, 0, 0, 0, 0, 0), nI 0), (1, .istore_n 1, 1, (1, 0, 0, 0, 0, 0), 0), (2, .iconst 1, 1, (0, 0, 0, 0, 0, 0), nI 1), (3, .istore_n 2, 1, (2, 0, 0, 0, 0, 0), 0)]
theorem obX6_buyerAlone_0 : dcd RX6 cX6_buyerAlone 0 bX6_buyerAlone_0 = true := by decide +kernel
def bX6_buyerAlone_4 : List Op3 := [(4, .iload_n 2, 1, (2, 0, 0, 0, 0, 0), 0), (5, .iconst 5, 1, (0, 0, 0, 0, 0, 0), nI 5), (6, .if_icmp .ge 26, 3, (32, 0, 0, 0, 0, 0), 0), (9, .aload_n 0, 1, (0, 0, 0, 0, 0, 0), 0), (10, .getfield 9, 3, (5, 7, 2, 12, 0, 0), 0), (13, .iload_n 2, 1, (2, 0, 0, 0, 0, 0), 0), (14, .iaload, 1, (0, 0, 0, 0, 0, 0), 0), (15, .aload_n 0, 1, (0, 0, 0, 0, 0, 0), 0), (16, .getfield 9, 3, (5, 7, 2, 12, 0, 0), 0), (19, .iload_n 1, 1, (1, 0, 0, 0, 0, 0), 0), (20, .iaload, 1, (0, 0, 0, 0, 0, 0), 0), (21, .if_icmp .le 5, 3, (26, 0, 0, 0, 0, 0), 0), (24, .iload_n 2, 1, (2, 0, 0, 0, 0, 0), 0), (25, .istore_n 1, 1, (1, 0, 0, 0, 0, 0), 0), (26, .iinc 2 1, 3, (2, 0, 0, 0, 0, 0), nI 1), (29, .goto (-25), 3, (4, 0, 0, 0, 0, 0), 0)]
theorem obX6_buyerAlone_4 : dcd RX6 cX6_buyerAlone 4 bX6_buyerAlone_4 = true := by decide +kernel
def bX6_buyerAlone_26 : List Op3 := [(26, .iinc 2 1, 3, (2, 0, 0, 0, 0, 0), nI 1), (29, .goto (-25), 3, (4, 0, 0, 0, 0, 0), 0)]
theorem obX6_buyerAlone_26 : dcd RX6 cX6_buyerAlone 26 bX6_buyerAlone_26 = true := by decide +kernel
def bX6_buyerAlone_32 : List Op3 := [(32, .aload_n 0, 1, (0, 0, 0, 0, 0, 0), 0), (33, .getfield 9, 3, (5, 7, 2, 12, 0, 0), 0), (36, .iload_n 1, 1, (1, 0, 0, 0, 0, 0), 0), (37, .iaload, 1, (0, 0, 0, 0, 0, 0), 0), (38, .aload_n 0, 1, (0, 0, 0, 0, 0, 0), 0), (39, .getfield 25, 3, (5, 3, 0, 0, 0, 0), 0), (42, .if_icmp .lt 7, 3, (49, 0, 0, 0, 0, 0), 0), (45, .iload_n 1, 1, (1, 0, 0, 0, 0, 0), 0), (46, .goto 4, 3, (50, 0, 0, 0, 0, 0), 0)]
theorem obX6_buyerAlone_32 : dcd RX6 cX6_buyerAlone 32 bX6_buyerAlone_32 = true := by decide +kernel
def bX6_buyerAlone_49 : List Op3 := [(49, .iconst (-1), 1, (0, 0, 0, 0, 0, 0), -1), (50, .ireturn, 1, (0, 0, 0, 0, 0, 0), 0)]
theorem obX6_buyerAlone_49 : dcd RX6 cX6_buyerAlone 49 bX6_buyerAlone_49 = true := by decide +kernel
def bX6_buyerAlone_50 : List Op3 := [(50, .ireturn, 1, (0, 0, 0, 0, 0, 0), 0)]
theorem obX6_buyerAlone_50 : dcd RX6 cX6_buyerAlone 50 bX6_buyerAlone_50 = true := by decide +kernel
def bX6_priceAlone_0 : List Op3 := [(0, .aload_n 0, 1, (0, 0, 0, 0, 0, 0), 0), (1, .getfield 25, 3, (5, 3, 0, 0, 0, 0), 0), (4, .istore_n 2, 1, (2, 0, 0, 0, 0, 0), 0), (5, .iconst 0, 1, (0, 0, 0, 0, 0, 0), nI 0), (6, .istore_n 3, 1, (3, 0, 0, 0, 0, 0), 0)]
theorem obX6_priceAlone_0 : dcd RX6 cX6_priceAlone 0 bX6_priceAlone_0 = true := by decide +kernel
def bX6_priceAlone_7 : List Op3 := [(7, .iload_n 3, 1, (3, 0, 0, 0, 0, 0), 0), (8, .iconst 5, 1, (0, 0, 0, 0, 0, 0), nI 5), (9, .if_icmp .ge 25, 3, (34, 0, 0, 0, 0, 0), 0), (12, .iload_n 3, 1, (3, 0, 0, 0, 0, 0), 0), (13, .iload_n 1, 1, (1, 0, 0, 0, 0, 0), 0), (14, .if_icmp .eq 14, 3, (28, 0, 0, 0, 0, 0), 0), (17, .iload_n 2, 1, (2, 0, 0, 0, 0, 0), 0), (18, .aload_n 0, 1, (0, 0, 0, 0, 0, 0), 0), (19, .getfield 9, 3, (5, 7, 2, 12, 0, 0), 0), (22, .iload_n 3, 1, (3, 0, 0, 0, 0, 0), 0), (23, .iaload, 1, (0, 0, 0, 0, 0, 0), 0)]
theorem obX6_priceAlone_7 : dcd RX6 cX6_priceAlone 7 bX6_priceAlone_7 = true := by decide +kernel
def bX6_priceAlone_27 : List Op3 := [(27, .istore_n 2, 1, (2, 0, 0, 0, 0, 0), 0), (28, .iinc 3 1, 3, (3, 0, 0, 0, 0, 0), nI 1), (31, .goto (-24), 3, (7, 0, 0, 0, 0, 0), 0)]
theorem obX6_priceAlone_27 : dcd RX6 cX6_priceAlone 27 bX6_priceAlone_27 = true := by decide +kernel
def bX6_priceAlone_28 : List Op3 := [(28, .iinc 3 1, 3, (3, 0, 0, 0, 0, 0), nI 1), (31, .goto (-24), 3, (7, 0, 0, 0, 0, 0), 0)]
theorem obX6_priceAlone_28 : dcd RX6 cX6_priceAlone 28 bX6_priceAlone_28 = true := by decide +kernel
def bX6_priceAlone_34 : List Op3 := [(34, .iload_n 2, 1, (2, 0, 0, 0, 0, 0), 0), (35, .ireturn, 1, (0, 0, 0, 0, 0, 0), 0)]
theorem obX6_priceAlone_34 : dcd RX6 cX6_priceAlone 34 bX6_priceAlone_34 = true := by decide +kernel
/-! ===== stretches of instructions ===== -/
def bX7_add_0 : List Op3 := [(0, .aload_n 0, 1, (0, 0, 0, 0, 0, 0), 0), (1, .getfield 15, 3, (9, 1, 0, 0, 0, 0), 0), (4, .bipush 60, 2, (0, 0, 0, 0, 0, 0), nI 60), (6, .if_icmp .ge 23, 3, (29, 0, 0, 0, 0, 0), 0), (9, .aload_n 0, 1, (0, 0, 0, 0, 0, 0), 0), (10, .getfield 9, 3, (9, 0, 2, 26, 0, 0), 0), (13, .aload_n 0, 1, (0, 0, 0, 0, 0, 0), 0), (14, .getfield 15, 3, (9, 1, 0, 0, 0, 0), 0), (17, .iload_n 1, 1, (1, 0, 0, 0, 0, 0), 0), (18, .castore, 1, (0, 0, 0, 0, 0, 0), 0), (19, .aload_n 0, 1, (0, 0, 0, 0, 0, 0), 0), (20, .dup, 1, (0, 0, 0, 0, 0, 0), 0), (21, .getfield 15, 3, (9, 1, 0, 0, 0, 0), 0), (24, .iconst 1, 1, (0, 0, 0, 0, 0, 0), nI 1), (25, .iadd, 1, (0, 0, 0, 0, 0, 0), 0), (26, .putfield 15, 3, (9, 1, 0, 0, 0, 0), 0), (29, .aload_n 0, 1, (0, 0, 0, 0, 0, 0), 0), (30, .getfield 15, 3, (9, 1, 0, 0, 0, 0), 0), (33, .ireturn, 1, (0, 0, 0, 0, 0, 0), 0)]
theorem obX7_add_0 : dcd RX7 cX7_add 0 bX7_add_0 = true := by decide +kernel
def bX7_add_29 : List Op3 := [(29, .aload_n 0, 1, (0, 0, 0, 0, 0, 0), 0), (30, .getfield 15, 3, (9, 1, 0, 0, 0, 0), 0), (33, .ireturn, 1, (0, 0, 0, 0, 0, 0), 0)]
theorem obX7_add_29 : dcd RX7 cX7_add 29 bX7_add_29 = true := by decide +kernel
def bX7_empty_0 : List Op3 := [(0, .aload_n 0, 1, (0, 0, 0, 0, 0, 0), 0), (1, .iconst 0, 1, (0, 0, 0, 0, 0, 0), nI 0), (2, .putfield 15, 3, (9, 1, 0, 0, 0, 0), 0), (5, .return_, 1, (0, 0, 0, 0, 0, 0), 0)]
theorem obX7_empty_0 : dcd RX7 cX7_empty 0 bX7_empty_0 = true := by decide +kernel
def bX7_parse_0 : List Op3 := [(0, .aload_n 0, 1, (0, 0, 0, 0, 0, 0), 0), (1, .iconst 0, 1, (0, 0, 0, 0, 0, 0), nI 0), (2, .putfield 30, 3, (9, 4, 0, 0, 0, 0), 0), (5, .iconst 0, 1, (0, 0, 0, 0, 0, 0), nI 0), (6, .istore_n 1, 1, (1, 0, 0, 0, 0, 0), 0), (7, .iconst 0, 1, (0, 0, 0, 0, 0, 0), nI 0), (8, .istore_n 2, 1, (2, 0, 0, 0, 0, 0), 0)]
theorem obX7_parse_0 : dcd RX7 cX7_parse 0 bX7_parse_0 = true := by decide +kernel
def bX7_parse_9 : List Op3 := [(9, .iload_n 2, 1, (2, 0, 0, 0, 0, 0), 0), (10, .bipush 9, 2, (0, 0, 0, 0, 0, 0), nI 9), (12, .if_icmp .ge 54, 3, (66, 0, 0, 0, 0, 0), 0), (15, .aload_n 0, 1, (0, 0, 0, 0, 0, 0), 0), (16, .iload_n 1, 1, (1, 0, 0, 0, 0, 0), 0)]
theorem obX7_parse_9 : dcd RX7 cX7_parse 9 bX7_parse_9 = true := by decide +kernel
def bX7_parse_20 : List Op3 := [(20, .istore_n 3, 1, (3, 0, 0, 0, 0, 0), 0), (21, .iload_n 3, 1, (3, 0, 0, 0, 0, 0), 0), (22, .iconst (-1), 1, (0, 0, 0, 0, 0, 0), -1), (23, .if_icmp .ne 5, 3, (28, 0, 0, 0, 0, 0), 0), (26, .iconst 0, 1, (0, 0, 0, 0, 0, 0), nI 0), (27, .ireturn, 1, (0, 0, 0, 0, 0, 0), 0)]
theorem obX7_parse_20 : dcd RX7 cX7_parse 20 bX7_parse_20 = true := by decide +kernel
def bX7_parse_28 : List Op3 := [(28, .iload_n 3, 1, (3, 0, 0, 0, 0, 0), 0), (29, .aload_n 0, 1, (0, 0, 0, 0, 0, 0), 0), (30, .getfield 15, 3, (9, 1, 0, 0, 0, 0), 0), (33, .if_icmp .lt 5, 3, (38, 0, 0, 0, 0, 0), 0), (36, .iconst 1, 1, (0, 0, 0, 0, 0, 0), nI 1), (37, .ireturn, 1, (0, 0, 0, 0, 0, 0), 0)]
theorem obX7_parse_28 : dcd RX7 cX7_parse 28 bX7_parse_28 = true := by decide +kernel
def bX7_parse_38 : List Op3 := [(38, .aload_n 0, 1, (0, 0, 0, 0, 0, 0), 0), (39, .getfield 9, 3, (9, 0, 2, 26, 0, 0), 0), (42, .iload_n 3, 1, (3, 0, 0, 0, 0, 0), 0), (43, .caload, 1, (0, 0, 0, 0, 0, 0), 0), (44, .bipush 59, 2, (0, 0, 0, 0, 0, 0), nI 59), (46, .if_icmp .eq 10, 3, (56, 0, 0, 0, 0, 0), 0), (49, .aload_n 0, 1, (0, 0, 0, 0, 0, 0), 0), (50, .iload_n 3, 1, (3, 0, 0, 0, 0, 0), 0), (51, .putfield 33, 3, (9, 5, 0, 0, 0, 0), 0), (54, .iconst 0, 1, (0, 0, 0, 0, 0, 0), nI 0), (55, .ireturn, 1, (0, 0, 0, 0, 0, 0), 0)]
theorem obX7_parse_38 : dcd RX7 cX7_parse 38 bX7_parse_38 = true := by decide +kernel
def bX7_parse_56 : List Op3 := [(56, .iload_n 3, 1, (3, 0, 0, 0, 0, 0), 0), (57, .iconst 1, 1, (0, 0, 0, 0, 0, 0), nI 1), (58, .iadd, 1, (0, 0, 0, 0, 0, 0), 0), (59, .istore_n 1, 1, (1, 0, 0, 0, 0, 0), 0), (60, .iinc 2 1, 3, (2, 0, 0, 0, 0, 0), nI 1), (63, .goto (-54), 3, (9, 0, 0, 0, 0, 0), 0)]
theorem obX7_parse_56 : dcd RX7 cX7_parse 56 bX7_parse_56 = true := by decide +kernel
def bX7_parse_66 : List Op3 := [(66, .iconst 0, 1, (0, 0, 0, 0, 0, 0), nI 0), (67, .ireturn, 1, (0, 0, 0, 0, 0, 0), 0)]
theorem obX7_parse_66 : dcd RX7 cX7_parse 66 bX7_parse_66 = true := by decide +kernel
def bX7_readCommand_0 : List Op3 := [(0, .aload_n 0, 1, (0, 0, 0, 0, 0, 0), 0), (1, .iload_n 1, 1, (1, 0, 0, 0, 0, 0), 0), (2, .putfield 33, 3, (9, 5, 0, 0, 0, 0), 0), (5, .iconst 0, 1, (0, 0, 0, 0, 0, 0), nI 0), (6, .istore_n 2, 1, (2, 0, 0, 0, 0, 0), 0)]
theorem obX7_readCommand_0 : dcd RX7 cX7_readCommand 0 bX7_readCommand_0 = true := by decide +kernel
def bX7_readCommand_7 : List Op3 := [(7, .iload_n 2, 1, (2, 0, 0, 0, 0, 0), 0)]
theorem obX7_readCommand_7 : dcd RX7 cX7_readCommand 7 bX7_readCommand_7 = true := by decide +kernel
def bX7_readCommand_11 : List Op3 := [(11, .arraylength, 1, (0, 0, 0, 0, 0, 0), 0), (12, .if_icmp .ge 72, 3, (84, 0, 0, 0, 0, 0), 0), (15, .aload_n 0, 1, (0, 0, 0, 0, 0, 0), 0), (16, .getfield 30, 3, (9, 4, 0, 0, 0, 0), 0), (19, .bipush 9, 2, (0, 0, 0, 0, 0, 0), nI 9), (21, .if_icmp .ge 63, 3, (84, 0, 0, 0, 0, 0), 0), (24, .aload_n 0, 1, (0, 0, 0, 0, 0, 0), 0)]
theorem obX7_readCommand_11 : dcd RX7 cX7_readCommand 11 bX7_readCommand_11 = true := by decide +kernel
def bX7_readCommand_28 : List Op3 := [(28, .iload_n 2, 1, (2, 0, 0, 0, 0, 0), 0), (29, .aaload, 1, (0, 0, 0, 0, 0, 0), 0)]
theorem obX7_readCommand_28 : dcd RX7 cX7_readCommand 28 bX7_readCommand_28 = true := by decide +kernel
def bX7_readCommand_33 : List Op3 := [(33, .iload_n 1, 1, (1, 0, 0, 0, 0, 0), 0), (34, .aload_n 0, 1, (0, 0, 0, 0, 0, 0), 0), (35, .getfield 27, 3, (9, 3, 2, 28, 0, 0), 0), (38, .aload_n 0, 1, (0, 0, 0, 0, 0, 0), 0), (39, .getfield 30, 3, (9, 4, 0, 0, 0, 0), 0), (42, .aaload, 1, (0, 0, 0, 0, 0, 0), 0)]
theorem obX7_readCommand_33 : dcd RX7 cX7_readCommand 33 bX7_readCommand_33 = true := by decide +kernel
def bX7_readCommand_46 : List Op3 := [(46, .istore_n 3, 1, (3, 0, 0, 0, 0, 0), 0), (47, .iload_n 3, 1, (3, 0, 0, 0, 0, 0), 0), (48, .iconst (-1), 1, (0, 0, 0, 0, 0, 0), -1), (49, .if_icmp .eq 29, 3, (78, 0, 0, 0, 0, 0), 0), (52, .aload_n 0, 1, (0, 0, 0, 0, 0, 0), 0), (53, .getfield 21, 3, (9, 2, 2, 27, 0, 0), 0), (56, .aload_n 0, 1, (0, 0, 0, 0, 0, 0), 0), (57, .getfield 30, 3, (9, 4, 0, 0, 0, 0), 0)]
theorem obX7_readCommand_46 : dcd RX7 cX7_readCommand 46 bX7_readCommand_46 = true := by decide +kernel
def bX7_readCommand_63 : List Op3 := [(63, .iload_n 2, 1, (2, 0, 0, 0, 0, 0), 0), (64, .aaload, 1, (0, 0, 0, 0, 0, 0), 0), (65, .aastore, 1, (0, 0, 0, 0, 0, 0), 0), (66, .aload_n 0, 1, (0, 0, 0, 0, 0, 0), 0), (67, .dup, 1, (0, 0, 0, 0, 0, 0), 0), (68, .getfield 30, 3, (9, 4, 0, 0, 0, 0), 0), (71, .iconst 1, 1, (0, 0, 0, 0, 0, 0), nI 1), (72, .iadd, 1, (0, 0, 0, 0, 0, 0), 0), (73, .putfield 30, 3, (9, 4, 0, 0, 0, 0), 0), (76, .iload_n 3, 1, (3, 0, 0, 0, 0, 0), 0), (77, .ireturn, 1, (0, 0, 0, 0, 0, 0), 0)]
theorem obX7_readCommand_63 : dcd RX7 cX7_readCommand 63 bX7_readCommand_63 = true := by decide +kernel
def bX7_readCommand_78 : List Op3 := [(78, .iinc 2 1, 3, (2, 0, 0, 0, 0, 0), nI 1), (81, .goto (-74), 3, (7, 0, 0, 0, 0, 0), 0)]
theorem obX7_readCommand_78 : dcd RX7 cX7_readCommand 78 bX7_readCommand_78 = true := by decide +kernel
def bX7_readCommand_84 : List Op3 := [(84, .iconst (-1), 1, (0, 0, 0, 0, 0, 0), -1), (85, .ireturn, 1, (0, 0, 0, 0, 0, 0), 0)]
theorem obX7_readCommand_84 : dcd RX7 cX7_readCommand 84 bX7_readCommand_84 = true := by decide +kernel
def bX7_match_0 : List Op3 := [(0, .iload_n 2, 1, (2, 0, 0, 0, 0, 0), 0), (1, .istore 4, 2, (4, 0, 0, 0, 0, 0), 0), (3, .iconst 0, 1, (0, 0, 0, 0, 0, 0), nI 0), (4, .istore 5, 2, (5, 0, 0, 0, 0, 0), 0), (6, .iconst 0, 1, (0, 0, 0, 0, 0, 0), nI 0), (7, .istore 6, 2, (6, 0, 0, 0, 0, 0), 0)]
theorem obX7_match_0 : dcd RX7 cX7_match 0 bX7_match_0 = true := by decide +kernel
def bX7_match_9 : List Op3 := [(9, .iload 6, 2, (6, 0, 0, 0, 0, 0), 0), (11, .aload_n 1, 1, (1, 0, 0, 0, 0, 0), 0)]
theorem obX7_match_9 : dcd RX7 cX7_match 9 bX7_match_9 = true := by decide +kernel
def bX7_match_15 : List Op3 := [(15, .if_icmp .ge 83, 3, (98, 0, 0, 0, 0, 0), 0), (18, .aload_n 0, 1, (0, 0, 0, 0, 0, 0), 0), (19, .aload_n 1, 1, (1, 0, 0, 0, 0, 0), 0), (20, .iload 6, 2, (6, 0, 0, 0, 0, 0), 0)]
theorem obX7_match_15 : dcd RX7 cX7_match 15 bX7_match_15 = true := by decide +kernel
def bX7_match_25 : List Op3 := [(25, .iload 4, 2, (4, 0, 0, 0, 0, 0), 0)]
theorem obX7_match_25 : dcd RX7 cX7_match 25 bX7_match_25 = true := by decide +kernel
def bX7_match_30 : List Op3 := [(30, .istore 7, 2, (7, 0, 0, 0, 0, 0), 0), (32, .iload 7, 2, (7, 0, 0, 0, 0, 0), 0), (34, .iload 4, 2, (4, 0, 0, 0, 0, 0), 0), (36, .if_icmp .ne 18, 3, (54, 0, 0, 0, 0, 0), 0), (39, .aload_n 0, 1, (0, 0, 0, 0, 0, 0), 0), (40, .aload_n 0, 1, (0, 0, 0, 0, 0, 0), 0), (41, .getfield 33, 3, (9, 5, 0, 0, 0, 0), 0), (44, .iload 4, 2, (4, 0, 0, 0, 0, 0), 0)]
theorem obX7_match_30 : dcd RX7 cX7_match 30 bX7_match_30 = true := by decide +kernel
def bX7_match_49 : List Op3 := [(49, .putfield 33, 3, (9, 5, 0, 0, 0, 0), 0), (52, .iconst (-1), 1, (0, 0, 0, 0, 0, 0), -1), (53, .ireturn, 1, (0, 0, 0, 0, 0, 0), 0)]
theorem obX7_match_49 : dcd RX7 cX7_match 49 bX7_match_49 = true := by decide +kernel
def bX7_match_54 : List Op3 := [(54, .aload_n 1, 1, (1, 0, 0, 0, 0, 0), 0), (55, .iload 6, 2, (6, 0, 0, 0, 0, 0), 0)]
theorem obX7_match_54 : dcd RX7 cX7_match 54 bX7_match_54 = true := by decide +kernel
def bX7_match_63 : List Op3 := [(63, .ifCond .eq 25, 3, (88, 0, 0, 0, 0, 0), 0), (66, .iload 5, 2, (5, 0, 0, 0, 0, 0), 0), (68, .aload_n 3, 1, (3, 0, 0, 0, 0, 0), 0), (69, .arraylength, 1, (0, 0, 0, 0, 0, 0), 0), (70, .if_icmp .ge 18, 3, (88, 0, 0, 0, 0, 0), 0), (73, .aload_n 3, 1, (3, 0, 0, 0, 0, 0), 0), (74, .iload 5, 2, (5, 0, 0, 0, 0, 0), 0), (76, .aload_n 0, 1, (0, 0, 0, 0, 0, 0), 0), (77, .iload 4, 2, (4, 0, 0, 0, 0, 0), 0), (79, .iload 7, 2, (7, 0, 0, 0, 0, 0), 0)]
theorem obX7_match_63 : dcd RX7 cX7_match 63 bX7_match_63 = true := by decide +kernel
def bX7_match_84 : List Op3 := [(84, .iastore, 1, (0, 0, 0, 0, 0, 0), 0), (85, .iinc 5 1, 3, (5, 0, 0, 0, 0, 0), nI 1), (88, .iload 7, 2, (7, 0, 0, 0, 0, 0), 0), (90, .istore 4, 2, (4, 0, 0, 0, 0, 0), 0), (92, .iinc 6 1, 3, (6, 0, 0, 0, 0, 0), nI 1), (95, .goto (-86), 3, (9, 0, 0, 0, 0, 0), 0)]
theorem obX7_match_84 : dcd RX7 cX7_match 84 bX7_match_84 = true := by decide +kernel
def bX7_match_88 : List Op3 := [(88, .iload 7, 2, (7, 0, 0, 0, 0, 0), 0), (90, .istore 4, 2, (4, 0, 0, 0, 0, 0), 0), (92, .iinc 6 1, 3, (6, 0, 0, 0, 0, 0), nI 1), (95, .goto (-86), 3, (9, 0, 0, 0, 0, 0), 0)]
theorem obX7_match_88 : dcd RX7 cX7_match 88 bX7_match_88 = true := by decide +kernel
def bX7_match_98 : List Op3 := [(98, .iload 4, 2, (4, 0, 0, 0, 0, 0), 0), (100, .ireturn, 1, (0, 0, 0, 0, 0, 0), 0)]
theorem obX7_match_98 : dcd RX7 cX7_match 98 bX7_match_98 = true := by decide +kernel
def bX7_isPlaceholder_0 : List Op3 := [(0, .iload_n 0, 1, (0, 0, 0, 0, 0, 0), 0), (1, .bipush 35, 2, (0, 0, 0, 0, 0, 0), nI 35), (3, .if_icmp .eq 9, 3, (12, 0, 0, 0, 0, 0), 0), (6, .iload_n 0, 1, (0, 0, 0, 0, 0, 0), 0), (7, .bipush 42, 2, (0, 0, 0, 0, 0, 0), nI 42), (9, .if_icmp .ne 7, 3, (16, 0, 0, 0, 0, 0), 0), (12, .iconst 1, 1, (0, 0, 0, 0, 0, 0), nI 1), (13, .goto 4, 3, (17, 0, 0, 0, 0, 0), 0)]
theorem obX7_isPlaceholder_0 : dcd RX7 cX7_isPlaceholder 0 bX7_isPlaceholder_0 = true := by decide +kernel
def bX7_isPlaceholder_12 : List Op3 := [(12, .iconst 1, 1, (0, 0, 0, 0, 0, 0), nI 1), (13, .goto 4, 3, (17, 0, 0, 0, 0, 0), 0)]
theorem obX7_isPlaceholder_12 : dcd RX7 cX7_isPlaceholder 12 bX7_isPlaceholder_12 = true := by decide +kernel
def bX7_isPlaceholder_16 : List Op3 := [(16, .iconst 0, 1, (0, 0, 0, 0, 0, 0), nI 0), (17, .ireturn, 1, (0, 0, 0, 0, 0, 0), 0)]
theorem obX7_isPlaceholder_16 : dcd RX7 cX7_isPlaceholder 16 bX7_isPlaceholder_16 = true := by decide +kernel
def bX7_isPlaceholder_17 : List Op3 := [(17, .ireturn, 1, (0, 0, 0, 0, 0, 0), 0)]
theorem obX7_isPlaceholder_17 : dcd RX7 cX7_isPlaceholder 17 bX7_isPlaceholder_17 = true := by decide +kernel
def bX7_matchSign_0 : List Op3 := [(0, .iload_n 1, 1, (1, 0, 0, 0, 0, 0), 0), (1, .bipush 35, 2, (0, 0, 0, 0, 0, 0), nI 35), (3, .if_icmp .ne 10, 3, (13, 0, 0, 0, 0, 0), 0), (6, .aload_n 0, 1, (0, 0, 0, 0, 0, 0), 0), (7, .iload_n 2, 1, (2, 0, 0, 0, 0, 0), 0), (8, .iconst 1, 1, (0, 0, 0, 0, 0, 0), nI 1)]
theorem obX7_matchSign_0 : dcd RX7 cX7_matchSign 0 bX7_matchSign_0 = true := by decide +kernel
def bX7_matchSign_12 : List Op3 := [(12, .ireturn, 1, (0, 0, 0, 0, 0, 0), 0)]
theorem obX7_matchSign_12 : dcd RX7 cX7_matchSign 12 bX7_matchSign_12 = true := by decide +kernel
def bX7_matchSign_13 : List Op3 := [(13, .iload_n 1, 1, (1, 0, 0, 0, 0, 0), 0), (14, .bipush 42, 2, (0, 0, 0, 0, 0, 0), nI 42), (16, .if_icmp .ne 10, 3, (26, 0, 0, 0, 0, 0), 0), (19, .aload_n 0, 1, (0, 0, 0, 0, 0, 0), 0), (20, .iload_n 2, 1, (2, 0, 0, 0, 0, 0), 0), (21, .iconst 3, 1, (0, 0, 0, 0, 0, 0), nI 3)]
theorem obX7_matchSign_13 : dcd RX7 cX7_matchSign 13 bX7_matchSign_13 = true := by decide +kernel
def bX7_matchSign_25 : List Op3 := [(25, .ireturn, 1, (0, 0, 0, 0, 0, 0), 0)]
theorem obX7_matchSign_25 : dcd RX7 cX7_matchSign 25 bX7_matchSign_25 = true := by decide +kernel
def bX7_matchSign_26 : List Op3 := [(26, .iload_n 2, 1, (2, 0, 0, 0, 0, 0), 0), (27, .aload_n 0, 1, (0, 0, 0, 0, 0, 0), 0), (28, .getfield 15, 3, (9, 1, 0, 0, 0, 0), 0), (31, .if_icmp .ge 19, 3, (50, 0, 0, 0, 0, 0), 0), (34, .aload_n 0, 1, (0, 0, 0, 0, 0, 0), 0), (35, .getfield 9, 3, (9, 0, 2, 26, 0, 0), 0), (38, .iload_n 2, 1, (2, 0, 0, 0, 0, 0), 0), (39, .caload, 1, (0, 0, 0, 0, 0, 0), 0), (40, .iload_n 1, 1, (1, 0, 0, 0, 0, 0), 0), (41, .if_icmp .ne 9, 3, (50, 0, 0, 0, 0, 0), 0), (44, .iload_n 2, 1, (2, 0, 0, 0, 0, 0), 0), (45, .iconst 1, 1, (0, 0, 0, 0, 0, 0), nI 1), (46, .iadd, 1, (0, 0, 0, 0, 0, 0), 0), (47, .goto 4, 3, (51, 0, 0, 0, 0, 0), 0)]
theorem obX7_matchSign_26 : dcd RX7 cX7_matchSign 26 bX7_matchSign_26 = true := by decide +kernel
def bX7_matchSign_50 : List Op3 := [(50, .iload_n 2, 1, (2, 0, 0, 0, 0, 0), 0), (51, .ireturn, 1, (0, 0, 0, 0, 0, 0), 0)]
theorem obX7_matchSign_50 : dcd RX7 cX7_matchSign 50 bX7_matchSign_50 = true := by decide +kernel
def bX7_matchSign_51 : List Op3 := [(51, .ireturn, 1, (0, 0, 0, 0, 0, 0), 0)]
theorem obX7_matchSign_51 : dcd RX7 cX7_matchSign 51 bX7_matchSign_51 = true := by decide +kernel
def bX7_skipDigits_0 : List Op3 := [(0, .iload_n 1, 1, (1, 0, 0, 0, 0, 0), 0), (1, .istore_n 3, 1, (3, 0, 0, 0, 0, 0), 0)]
theorem obX7_skipDigits_0 : dcd RX7 cX7_skipDigits 0 bX7_skipDigits_0 = true := by decide +kernel
def bX7_skipDigits_2 : List Op3 := [(2, .iload_n 3, 1, (3, 0, 0, 0, 0, 0), 0), (3, .aload_n 0, 1, (0, 0, 0, 0, 0, 0), 0), (4, .getfield 15, 3, (9, 1, 0, 0, 0, 0), 0), (7, .if_icmp .ge 38, 3, (45, 0, 0, 0, 0, 0), 0), (10, .iload_n 3, 1, (3, 0, 0, 0, 0, 0), 0), (11, .iload_n 1, 1, (1, 0, 0, 0, 0, 0), 0), (12, .iload_n 2, 1, (2, 0, 0, 0, 0, 0), 0), (13, .iadd, 1, (0, 0, 0, 0, 0, 0), 0), (14, .if_icmp .ge 31, 3, (45, 0, 0, 0, 0, 0), 0), (17, .aload_n 0, 1, (0, 0, 0, 0, 0, 0), 0), (18, .getfield 9, 3, (9, 0, 2, 26, 0, 0), 0), (21, .iload_n 3, 1, (3, 0, 0, 0, 0, 0), 0), (22, .caload, 1, (0, 0, 0, 0, 0, 0), 0), (23, .bipush 48, 2, (0, 0, 0, 0, 0, 0), nI 48), (25, .if_icmp .lt 20, 3, (45, 0, 0, 0, 0, 0), 0), (28, .aload_n 0, 1, (0, 0, 0, 0, 0, 0), 0), (29, .getfield 9, 3, (9, 0, 2, 26, 0, 0), 0), (32, .iload_n 3, 1, (3, 0, 0, 0, 0, 0), 0), (33, .caload, 1, (0, 0, 0, 0, 0, 0), 0), (34, .bipush 57, 2, (0, 0, 0, 0, 0, 0), nI 57), (36, .if_icmp .gt 9, 3, (45, 0, 0, 0, 0, 0), 0), (39, .iinc 3 1, 3, (3, 0, 0, 0, 0, 0), nI 1), (42, .goto (-40), 3, (2, 0, 0, 0, 0, 0), 0)]
theorem obX7_skipDigits_2 : dcd RX7 cX7_skipDigits 2 bX7_skipDigits_2 = true := by decide +kernel
def bX7_skipDigits_45 : List Op3 := [(45, .iload_n 3, 1, (3, 0, 0, 0, 0, 0), 0), (46, .ireturn, 1, (0, 0, 0, 0, 0, 0), 0)]
theorem obX7_skipDigits_45 : dcd RX7 cX7_skipDigits 45 bX7_skipDigits_45 = true := by decide +kernel
def bX7_numberBetween_0 : List Op3 := [(0, .iconst 0, 1, (0, 0, 0, 0, 0, 0), nI 0), (1, .istore_n 3, 1, (3, 0, 0, 0, 0, 0), 0), (2, .iload_n 1, 1, (1, 0, 0, 0, 0, 0), 0), (3, .istore 4, 2, (4, 0, 0, 0, 0, 0), 0)]
theorem obX7_numberBetween_0 : dcd RX7 cX7_numberBetween 0 bX7_numberBetween_0 = true := by decide +kernel
def bX7_numberBetween_5 : List Op3 := [(5, .iload 4, 2, (4, 0, 0, 0, 0, 0), 0), (7, .iload_n 2, 1, (2, 0, 0, 0, 0, 0), 0), (8, .if_icmp .ge 25, 3, (33, 0, 0, 0, 0, 0), 0), (11, .iload_n 3, 1, (3, 0, 0, 0, 0, 0), 0), (12, .bipush 10, 2, (0, 0, 0, 0, 0, 0), nI 10), (14, .imul, 1, (0, 0, 0, 0, 0, 0), 0), (15, .aload_n 0, 1, (0, 0, 0, 0, 0, 0), 0), (16, .getfield 9, 3, (9, 0, 2, 26, 0, 0), 0), (19, .iload 4, 2, (4, 0, 0, 0, 0, 0), 0), (21, .caload, 1, (0, 0, 0, 0, 0, 0), 0), (22, .bipush 48, 2, (0, 0, 0, 0, 0, 0), nI 48), (24, .isub, 1, (0, 0, 0, 0, 0, 0), 0), (25, .iadd, 1, (0, 0, 0, 0, 0, 0), 0), (26, .istore_n 3, 1, (3, 0, 0, 0, 0, 0), 0), (27, .iinc 4 1, 3, (4, 0, 0, 0, 0, 0), nI 1), (30, .goto (-25), 3, (5, 0, 0, 0, 0, 0), 0)]
theorem obX7_numberBetween_5 : dcd RX7 cX7_numberBetween 5 bX7_numberBetween_5 = true := by decide +kernel
def bX7_numberBetween_33 : List Op3 := [(33, .iload_n 3, 1, (3, 0, 0, 0, 0, 0), 0), (34, .ireturn, 1, (0, 0, 0, 0, 0, 0), 0)]
theorem obX7_numberBetween_33 : dcd RX7 cX7_numberBetween 33 bX7_numberBetween_33 = true := by decide +kernel
/-! ===== stretches of instructions ===== -/
def bX8_collect_0 : List Op3 := [(0, .aload_n 0, 1, (0, 0, 0, 0, 0, 0), 0), (1, .iconst 0, 1, (0, 0, 0, 0, 0, 0), nI 0), (2, .putfield 18, 3, (6, 2, 0, 0, 0, 0), 0), (5, .iconst 0, 1, (0, 0, 0, 0, 0, 0), nI 0), (6, .istore_n 3, 1, (3, 0, 0, 0, 0, 0), 0)]
theorem obX8_collect_0 : dcd RX8 cX8_collect 0 bX8_collect_0 = true := by decide +kernel
def bX8_collect_7 : List Op3 := [(7, .iload_n 3, 1, (3, 0, 0, 0, 0, 0), 0), (8, .aload_n 1, 1, (1, 0, 0, 0, 0, 0), 0), (9, .getfield 31, 3, (2, 5, 0, 0, 0, 0), 0), (12, .if_icmp .ge 80, 3, (92, 0, 0, 0, 0, 0), 0), (15, .aload_n 1, 1, (1, 0, 0, 0, 0, 0), 0), (16, .getfield 36, 3, (2, 4, 2, 10, 0, 0), 0), (19, .iload_n 3, 1, (3, 0, 0, 0, 0, 0), 0), (20, .aaload, 1, (0, 0, 0, 0, 0, 0), 0), (21, .astore 4, 2, (4, 0, 0, 0, 0, 0), 0), (23, .aload 4, 2, (4, 0, 0, 0, 0, 0), 0), (25, .getfield 40, 3, (5, 6, 0, 0, 0, 0), 0), (28, .ifCond .ne 58, 3, (86, 0, 0, 0, 0, 0), 0), (31, .aload 4, 2, (4, 0, 0, 0, 0, 0), 0), (33, .getfield 46, 3, (5, 1, 0, 0, 0, 0), 0), (36, .iload_n 2, 1, (2, 0, 0, 0, 0, 0), 0), (37, .if_icmp .ne 49, 3, (86, 0, 0, 0, 0, 0), 0), (40, .aload_n 0, 1, (0, 0, 0, 0, 0, 0), 0), (41, .getfield 9, 3, (6, 0, 2, 13, 0, 0), 0), (44, .aload_n 0, 1, (0, 0, 0, 0, 0, 0), 0), (45, .getfield 18, 3, (6, 2, 0, 0, 0, 0), 0), (48, .aload 4, 2, (4, 0, 0, 0, 0, 0), 0), (50, .getfield 49, 3, (5, 3, 0, 0, 0, 0), 0), (53, .aload_n 1, 1, (1, 0, 0, 0, 0, 0), 0), (54, .aload 4, 2, (4, 0, 0, 0, 0, 0), 0), (56, .iconst 0, 1, (0, 0, 0, 0, 0, 0), nI 0)]
theorem obX8_collect_7 : dcd RX8 cX8_collect 7 bX8_collect_7 = true := by decide +kernel
def bX8_collect_60 : List Op3 := [(60, .iadd, 1, (0, 0, 0, 0, 0, 0), 0), (61, .iastore, 1, (0, 0, 0, 0, 0, 0), 0), (62, .aload_n 0, 1, (0, 0, 0, 0, 0, 0), 0), (63, .getfield 15, 3, (6, 1, 2, 14, 0, 0), 0), (66, .aload_n 0, 1, (0, 0, 0, 0, 0, 0), 0), (67, .getfield 18, 3, (6, 2, 0, 0, 0, 0), 0), (70, .aload 4, 2, (4, 0, 0, 0, 0, 0), 0), (72, .getfield 56, 3, (5, 2, 0, 0, 0, 0), 0), (75, .iastore, 1, (0, 0, 0, 0, 0, 0), 0), (76, .aload_n 0, 1, (0, 0, 0, 0, 0, 0), 0), (77, .dup, 1, (0, 0, 0, 0, 0, 0), 0), (78, .getfield 18, 3, (6, 2, 0, 0, 0, 0), 0), (81, .iconst 1, 1, (0, 0, 0, 0, 0, 0), nI 1), (82, .iadd, 1, (0, 0, 0, 0, 0, 0), 0), (83, .putfield 18, 3, (6, 2, 0, 0, 0, 0), 0), (86, .iinc 3 1, 3, (3, 0, 0, 0, 0, 0), nI 1), (89, .goto (-82), 3, (7, 0, 0, 0, 0, 0), 0)]
theorem obX8_collect_60 : dcd RX8 cX8_collect 60 bX8_collect_60 = true := by decide +kernel
def bX8_collect_86 : List Op3 := [(86, .iinc 3 1, 3, (3, 0, 0, 0, 0, 0), nI 1), (89, .goto (-82), 3, (7, 0, 0, 0, 0, 0), 0)]
theorem obX8_collect_86 : dcd RX8 cX8_collect 86 bX8_collect_86 = true := by decide +kernel
def bX8_collect_92 : List Op3 := [(92, .return_, 1, (0, 0, 0, 0, 0, 0), 0)]
theorem obX8_collect_92 : dcd RX8 cX8_collect 92 bX8_collect_92 = true := by decide +kernel
def bX8_wholeDebt_0 : List Op3 := [(0, .iconst 0, 1, (0, 0, 0, 0, 0, 0), nI 0), (1, .istore_n 1, 1, (1, 0, 0, 0, 0, 0), 0), (2, .iconst 0, 1, (0, 0, 0, 0, 0, 0), nI 0), (3, .istore_n 2, 1, (2, 0, 0, 0, 0, 0), 0)]
theorem obX8_wholeDebt_0 : dcd RX8 cX8_wholeDebt 0 bX8_wholeDebt_0 = true := by decide +kernel
def bX8_wholeDebt_4 : List Op3 := [(4, .iload_n 2, 1, (2, 0, 0, 0, 0, 0), 0), (5, .aload_n 0, 1, (0, 0, 0, 0, 0, 0), 0), (6, .getfield 18, 3, (6, 2, 0, 0, 0, 0), 0), (9, .if_icmp .ge 18, 3, (27, 0, 0, 0, 0, 0), 0), (12, .iload_n 1, 1, (1, 0, 0, 0, 0, 0), 0), (13, .aload_n 0, 1, (0, 0, 0, 0, 0, 0), 0), (14, .getfield 9, 3, (6, 0, 2, 13, 0, 0), 0), (17, .iload_n 2, 1, (2, 0, 0, 0, 0, 0), 0), (18, .iaload, 1, (0, 0, 0, 0, 0, 0), 0), (19, .iadd, 1, (0, 0, 0, 0, 0, 0), 0), (20, .istore_n 1, 1, (1, 0, 0, 0, 0, 0), 0), (21, .iinc 2 1, 3, (2, 0, 0, 0, 0, 0), nI 1), (24, .goto (-20), 3, (4, 0, 0, 0, 0, 0), 0)]
theorem obX8_wholeDebt_4 : dcd RX8 cX8_wholeDebt 4 bX8_wholeDebt_4 = true := by decide +kernel
def bX8_wholeDebt_27 : List Op3 := [(27, .iload_n 1, 1, (1, 0, 0, 0, 0, 0), 0), (28, .ireturn, 1, (0, 0, 0, 0, 0, 0), 0)]
theorem obX8_wholeDebt_27 : dcd RX8 cX8_wholeDebt 27 bX8_wholeDebt_27 = true := by decide +kernel
def bX8_mostBySets_0 : List Op3 := [(0, .aload_n 0, 1, (0, 0, 0, 0, 0, 0), 0)]
theorem obX8_mostBySets_0 : dcd RX8 cX8_mostBySets 0 bX8_mostBySets_0 = true := by decide +kernel
def bX8_mostBySets_4 : List Op3 := [(4, .iconst 0, 1, (0, 0, 0, 0, 0, 0), nI 0), (5, .istore_n 2, 1, (2, 0, 0, 0, 0, 0), 0), (6, .iconst 0, 1, (0, 0, 0, 0, 0, 0), nI 0), (7, .istore_n 3, 1, (3, 0, 0, 0, 0, 0), 0)]
theorem obX8_mostBySets_4 : dcd RX8 cX8_mostBySets 4 bX8_mostBySets_4 = true := by decide +kernel
def bX8_mostBySets_8 : List Op3 := [(8, .iload_n 3, 1, (3, 0, 0, 0, 0, 0), 0), (9, .iconst 1, 1, (0, 0, 0, 0, 0, 0), nI 1), (10, .aload_n 0, 1, (0, 0, 0, 0, 0, 0), 0), (11, .getfield 18, 3, (6, 2, 0, 0, 0, 0), 0), (14, .ishl, 1, (0, 0, 0, 0, 0, 0), 0), (15, .if_icmp .ge 30, 3, (45, 0, 0, 0, 0, 0), 0), (18, .aload_n 0, 1, (0, 0, 0, 0, 0, 0), 0), (19, .getfield 22, 3, (6, 3, 2, 15, 0, 0), 0), (22, .iload_n 3, 1, (3, 0, 0, 0, 0, 0), 0), (23, .iaload, 1, (0, 0, 0, 0, 0, 0), 0), (24, .iload_n 1, 1, (1, 0, 0, 0, 0, 0), 0), (25, .if_icmp .gt 14, 3, (39, 0, 0, 0, 0, 0), 0), (28, .iload_n 2, 1, (2, 0, 0, 0, 0, 0), 0), (29, .aload_n 0, 1, (0, 0, 0, 0, 0, 0), 0), (30, .getfield 25, 3, (6, 4, 2, 16, 0, 0), 0), (33, .iload_n 3, 1, (3, 0, 0, 0, 0, 0), 0), (34, .iaload, 1, (0, 0, 0, 0, 0, 0), 0)]
theorem obX8_mostBySets_8 : dcd RX8 cX8_mostBySets 8 bX8_mostBySets_8 = true := by decide +kernel
def bX8_mostBySets_38 : List Op3 := [(38, .istore_n 2, 1, (2, 0, 0, 0, 0, 0), 0), (39, .iinc 3 1, 3, (3, 0, 0, 0, 0, 0), nI 1), (42, .goto (-34), 3, (8, 0, 0, 0, 0, 0), 0)]
theorem obX8_mostBySets_38 : dcd RX8 cX8_mostBySets 38 bX8_mostBySets_38 = true := by decide +kernel
def bX8_mostBySets_39 : List Op3 := [(39, .iinc 3 1, 3, (3, 0, 0, 0, 0, 0), nI 1), (42, .goto (-34), 3, (8, 0, 0, 0, 0, 0), 0)]
theorem obX8_mostBySets_39 : dcd RX8 cX8_mostBySets 39 bX8_mostBySets_39 = true := by decide +kernel
def bX8_mostBySets_45 : List Op3 := [(45, .iload_n 2, 1, (2, 0, 0, 0, 0, 0), 0), (46, .ireturn, 1, (0, 0, 0, 0, 0, 0), 0)]
theorem obX8_mostBySets_45 : dcd RX8 cX8_mostBySets 45 bX8_mostBySets_45 = true := by decide +kernel
def bX8_fillSets_0 : List Op3 := [(0, .aload_n 0, 1, (0, 0, 0, 0, 0, 0), 0), (1, .getfield 22, 3, (6, 3, 2, 15, 0, 0), 0), (4, .iconst 0, 1, (0, 0, 0, 0, 0, 0), nI 0), (5, .iconst 0, 1, (0, 0, 0, 0, 0, 0), nI 0), (6, .iastore, 1, (0, 0, 0, 0, 0, 0), 0), (7, .aload_n 0, 1, (0, 0, 0, 0, 0, 0), 0), (8, .getfield 25, 3, (6, 4, 2, 16, 0, 0), 0), (11, .iconst 0, 1, (0, 0, 0, 0, 0, 0), nI 0), (12, .iconst 0, 1, (0, 0, 0, 0, 0, 0), nI 0), (13, .iastore, 1, (0, 0, 0, 0, 0, 0), 0), (14, .iconst 0, 1, (0, 0, 0, 0, 0, 0), nI 0), (15, .istore_n 1, 1, (1, 0, 0, 0, 0, 0), 0)]
theorem obX8_fillSets_0 : dcd RX8 cX8_fillSets 0 bX8_fillSets_0 = true := by decide +kernel
def bX8_fillSets_16 : List Op3 := [(16, .iload_n 1, 1, (1, 0, 0, 0, 0, 0), 0), (17, .aload_n 0, 1, (0, 0, 0, 0, 0, 0), 0), (18, .getfield 18, 3, (6, 2, 0, 0, 0, 0), 0), (21, .if_icmp .ge 68, 3, (89, 0, 0, 0, 0, 0), 0), (24, .iconst 1, 1, (0, 0, 0, 0, 0, 0), nI 1), (25, .iload_n 1, 1, (1, 0, 0, 0, 0, 0), 0), (26, .ishl, 1, (0, 0, 0, 0, 0, 0), 0), (27, .istore_n 2, 1, (2, 0, 0, 0, 0, 0), 0), (28, .iconst 0, 1, (0, 0, 0, 0, 0, 0), nI 0), (29, .istore_n 3, 1, (3, 0, 0, 0, 0, 0), 0)]
theorem obX8_fillSets_16 : dcd RX8 cX8_fillSets 16 bX8_fillSets_16 = true := by decide +kernel
def bX8_fillSets_30 : List Op3 := [(30, .iload_n 3, 1, (3, 0, 0, 0, 0, 0), 0), (31, .iload_n 2, 1, (2, 0, 0, 0, 0, 0), 0), (32, .if_icmp .ge 51, 3, (83, 0, 0, 0, 0, 0), 0), (35, .aload_n 0, 1, (0, 0, 0, 0, 0, 0), 0), (36, .getfield 22, 3, (6, 3, 2, 15, 0, 0), 0), (39, .iload_n 2, 1, (2, 0, 0, 0, 0, 0), 0), (40, .iload_n 3, 1, (3, 0, 0, 0, 0, 0), 0), (41, .iadd, 1, (0, 0, 0, 0, 0, 0), 0), (42, .aload_n 0, 1, (0, 0, 0, 0, 0, 0), 0), (43, .getfield 22, 3, (6, 3, 2, 15, 0, 0), 0), (46, .iload_n 3, 1, (3, 0, 0, 0, 0, 0), 0), (47, .iaload, 1, (0, 0, 0, 0, 0, 0), 0), (48, .aload_n 0, 1, (0, 0, 0, 0, 0, 0), 0), (49, .getfield 9, 3, (6, 0, 2, 13, 0, 0), 0), (52, .iload_n 1, 1, (1, 0, 0, 0, 0, 0), 0), (53, .iaload, 1, (0, 0, 0, 0, 0, 0), 0), (54, .iadd, 1, (0, 0, 0, 0, 0, 0), 0), (55, .iastore, 1, (0, 0, 0, 0, 0, 0), 0), (56, .aload_n 0, 1, (0, 0, 0, 0, 0, 0), 0), (57, .getfield 25, 3, (6, 4, 2, 16, 0, 0), 0), (60, .iload_n 2, 1, (2, 0, 0, 0, 0, 0), 0), (61, .iload_n 3, 1, (3, 0, 0, 0, 0, 0), 0), (62, .iadd, 1, (0, 0, 0, 0, 0, 0), 0), (63, .aload_n 0, 1, (0, 0, 0, 0, 0, 0), 0), (64, .getfield 25, 3, (6, 4, 2, 16, 0, 0), 0), (67, .iload_n 3, 1, (3, 0, 0, 0, 0, 0), 0), (68, .iaload, 1, (0, 0, 0, 0, 0, 0), 0), (69, .aload_n 0, 1, (0, 0, 0, 0, 0, 0), 0), (70, .getfield 15, 3, (6, 1, 2, 14, 0, 0), 0), (73, .iload_n 1, 1, (1, 0, 0, 0, 0, 0), 0), (74, .iaload, 1, (0, 0, 0, 0, 0, 0), 0), (75, .iadd, 1, (0, 0, 0, 0, 0, 0), 0), (76, .iastore, 1, (0, 0, 0, 0, 0, 0), 0), (77, .iinc 3 1, 3, (3, 0, 0, 0, 0, 0), nI 1), (80, .goto (-50), 3, (30, 0, 0, 0, 0, 0), 0)]
theorem obX8_fillSets_30 : dcd RX8 cX8_fillSets 30 bX8_fillSets_30 = true := by decide +kernel
def bX8_fillSets_83 : List Op3 := [(83, .iinc 1 1, 3, (1, 0, 0, 0, 0, 0), nI 1), (86, .goto (-70), 3, (16, 0, 0, 0, 0, 0), 0)]
theorem obX8_fillSets_83 : dcd RX8 cX8_fillSets 83 bX8_fillSets_83 = true := by decide +kernel
def bX8_fillSets_89 : List Op3 := [(89, .return_, 1, (0, 0, 0, 0, 0, 0), 0)]
theorem obX8_fillSets_89 : dcd RX8 cX8_fillSets 89 bX8_fillSets_89 = true := by decide +kernel
def bX8_mostByTable_0 : List Op3 := [(0, .aload_n 0, 1, (0, 0, 0, 0, 0, 0), 0)]
theorem obX8_mostByTable_0 : dcd RX8 cX8_mostByTable 0 bX8_mostByTable_0 = true := by decide +kernel
def bX8_mostByTable_4 : List Op3 := [(4, .istore_n 2, 1, (2, 0, 0, 0, 0, 0), 0)]
theorem obX8_mostByTable_4 : dcd RX8 cX8_mostByTable 4 bX8_mostByTable_4 = true := by decide +kernel
def bX8_mostByTable_5 : List Op3 := [(5, .iload_n 2, 1, (2, 0, 0, 0, 0, 0), 0), (6, .ifCond .le 19, 3, (25, 0, 0, 0, 0, 0), 0), (9, .aload_n 0, 1, (0, 0, 0, 0, 0, 0), 0), (10, .getfield 28, 3, (6, 5, 2, 17, 0, 0), 0), (13, .iload_n 2, 1, (2, 0, 0, 0, 0, 0), 0), (14, .iaload, 1, (0, 0, 0, 0, 0, 0), 0), (15, .iload_n 1, 1, (1, 0, 0, 0, 0, 0), 0), (16, .if_icmp .le 9, 3, (25, 0, 0, 0, 0, 0), 0), (19, .iinc 2 (-1), 3, (2, 0, 0, 0, 0, 0), -1), (22, .goto (-17), 3, (5, 0, 0, 0, 0, 0), 0)]
theorem obX8_mostByTable_5 : dcd RX8 cX8_mostByTable 5 bX8_mostByTable_5 = true := by decide +kernel
def bX8_mostByTable_25 : List Op3 := [(25, .iload_n 2, 1, (2, 0, 0, 0, 0, 0), 0), (26, .ireturn, 1, (0, 0, 0, 0, 0, 0), 0)]
theorem obX8_mostByTable_25 : dcd RX8 cX8_mostByTable 25 bX8_mostByTable_25 = true := by decide +kernel
def bX8_fillTable_0 : List Op3 := [(0, .aload_n 0, 1, (0, 0, 0, 0, 0, 0), 0), (1, .getfield 28, 3, (6, 5, 2, 17, 0, 0), 0), (4, .iconst 0, 1, (0, 0, 0, 0, 0, 0), nI 0), (5, .iconst 0, 1, (0, 0, 0, 0, 0, 0), nI 0), (6, .iastore, 1, (0, 0, 0, 0, 0, 0), 0), (7, .iconst 0, 1, (0, 0, 0, 0, 0, 0), nI 0), (8, .istore_n 1, 1, (1, 0, 0, 0, 0, 0), 0), (9, .iconst 0, 1, (0, 0, 0, 0, 0, 0), nI 0), (10, .istore_n 2, 1, (2, 0, 0, 0, 0, 0), 0)]
theorem obX8_fillTable_0 : dcd RX8 cX8_fillTable 0 bX8_fillTable_0 = true := by decide +kernel
def bX8_fillTable_11 : List Op3 := [(11, .iload_n 2, 1, (2, 0, 0, 0, 0, 0), 0), (12, .aload_n 0, 1, (0, 0, 0, 0, 0, 0), 0), (13, .getfield 18, 3, (6, 2, 0, 0, 0, 0), 0), (16, .if_icmp .ge 52, 3, (68, 0, 0, 0, 0, 0), 0), (19, .iload_n 1, 1, (1, 0, 0, 0, 0, 0), 0), (20, .istore_n 3, 1, (3, 0, 0, 0, 0, 0), 0), (21, .iload_n 1, 1, (1, 0, 0, 0, 0, 0), 0), (22, .aload_n 0, 1, (0, 0, 0, 0, 0, 0), 0), (23, .getfield 15, 3, (6, 1, 2, 14, 0, 0), 0), (26, .iload_n 2, 1, (2, 0, 0, 0, 0, 0), 0), (27, .iaload, 1, (0, 0, 0, 0, 0, 0), 0), (28, .iadd, 1, (0, 0, 0, 0, 0, 0), 0), (29, .istore_n 1, 1, (1, 0, 0, 0, 0, 0), 0), (30, .aload_n 0, 1, (0, 0, 0, 0, 0, 0), 0), (31, .getfield 28, 3, (6, 5, 2, 17, 0, 0), 0), (34, .iload_n 3, 1, (3, 0, 0, 0, 0, 0), 0), (35, .iconst 1, 1, (0, 0, 0, 0, 0, 0), nI 1), (36, .iadd, 1, (0, 0, 0, 0, 0, 0), 0), (37, .iload_n 1, 1, (1, 0, 0, 0, 0, 0), 0), (38, .iconst 1, 1, (0, 0, 0, 0, 0, 0), nI 1), (39, .iadd, 1, (0, 0, 0, 0, 0, 0), 0)]
theorem obX8_fillTable_11 : dcd RX8 cX8_fillTable 11 bX8_fillTable_11 = true := by decide +kernel
def bX8_fillTable_45 : List Op3 := [(45, .aload_n 0, 1, (0, 0, 0, 0, 0, 0), 0), (46, .aload_n 0, 1, (0, 0, 0, 0, 0, 0), 0), (47, .getfield 15, 3, (6, 1, 2, 14, 0, 0), 0), (50, .iload_n 2, 1, (2, 0, 0, 0, 0, 0), 0), (51, .iaload, 1, (0, 0, 0, 0, 0, 0), 0), (52, .aload_n 0, 1, (0, 0, 0, 0, 0, 0), 0), (53, .getfield 9, 3, (6, 0, 2, 13, 0, 0), 0), (56, .iload_n 2, 1, (2, 0, 0, 0, 0, 0), 0), (57, .iaload, 1, (0, 0, 0, 0, 0, 0), 0), (58, .iload_n 1, 1, (1, 0, 0, 0, 0, 0), 0)]
theorem obX8_fillTable_45 : dcd RX8 cX8_fillTable 45 bX8_fillTable_45 = true := by decide +kernel
def bX8_fillTable_62 : List Op3 := [(62, .iinc 2 1, 3, (2, 0, 0, 0, 0, 0), nI 1), (65, .goto (-54), 3, (11, 0, 0, 0, 0, 0), 0)]
theorem obX8_fillTable_62 : dcd RX8 cX8_fillTable 62 bX8_fillTable_62 = true := by decide +kernel
def bX8_fillTable_68 : List Op3 := [(68, .iload_n 1, 1, (1, 0, 0, 0, 0, 0), 0), (69, .ireturn, 1, (0, 0, 0, 0, 0, 0), 0)]
theorem obX8_fillTable_68 : dcd RX8 cX8_fillTable 68 bX8_fillTable_68 = true := by decide +kernel
def bX8_addToTable_0 : List Op3 := [(0, .iload_n 3, 1, (3, 0, 0, 0, 0, 0), 0), (1, .istore 4, 2, (4, 0, 0, 0, 0, 0), 0)]
theorem obX8_addToTable_0 : dcd RX8 cX8_addToTable 0 bX8_addToTable_0 = true := by decide +kernel
def bX8_addToTable_3 : List Op3 := [(3, .iload 4, 2, (4, 0, 0, 0, 0, 0), 0), (5, .iload_n 1, 1, (1, 0, 0, 0, 0, 0), 0), (6, .if_icmp .lt 48, 3, (54, 0, 0, 0, 0, 0), 0), (9, .aload_n 0, 1, (0, 0, 0, 0, 0, 0), 0), (10, .getfield 28, 3, (6, 5, 2, 17, 0, 0), 0), (13, .iload 4, 2, (4, 0, 0, 0, 0, 0), 0), (15, .iload_n 1, 1, (1, 0, 0, 0, 0, 0), 0), (16, .isub, 1, (0, 0, 0, 0, 0, 0), 0), (17, .iaload, 1, (0, 0, 0, 0, 0, 0), 0), (18, .istore 5, 2, (5, 0, 0, 0, 0, 0), 0), (20, .iload 5, 2, (5, 0, 0, 0, 0, 0), 0)]
theorem obX8_addToTable_3 : dcd RX8 cX8_addToTable 3 bX8_addToTable_3 = true := by decide +kernel
def bX8_addToTable_24 : List Op3 := [(24, .if_icmp .eq 24, 3, (48, 0, 0, 0, 0, 0), 0), (27, .aload_n 0, 1, (0, 0, 0, 0, 0, 0), 0), (28, .getfield 28, 3, (6, 5, 2, 17, 0, 0), 0), (31, .iload 4, 2, (4, 0, 0, 0, 0, 0), 0), (33, .aload_n 0, 1, (0, 0, 0, 0, 0, 0), 0), (34, .getfield 28, 3, (6, 5, 2, 17, 0, 0), 0), (37, .iload 4, 2, (4, 0, 0, 0, 0, 0), 0), (39, .iaload, 1, (0, 0, 0, 0, 0, 0), 0), (40, .iload 5, 2, (5, 0, 0, 0, 0, 0), 0), (42, .iload_n 2, 1, (2, 0, 0, 0, 0, 0), 0), (43, .iadd, 1, (0, 0, 0, 0, 0, 0), 0)]
theorem obX8_addToTable_24 : dcd RX8 cX8_addToTable 24 bX8_addToTable_24 = true := by decide +kernel
def bX8_addToTable_47 : List Op3 := [(47, .iastore, 1, (0, 0, 0, 0, 0, 0), 0), (48, .iinc 4 (-1), 3, (4, 0, 0, 0, 0, 0), -1), (51, .goto (-48), 3, (3, 0, 0, 0, 0, 0), 0)]
theorem obX8_addToTable_47 : dcd RX8 cX8_addToTable 47 bX8_addToTable_47 = true := by decide +kernel
def bX8_addToTable_48 : List Op3 := [(48, .iinc 4 (-1), 3, (4, 0, 0, 0, 0, 0), -1), (51, .goto (-48), 3, (3, 0, 0, 0, 0, 0), 0)]
theorem obX8_addToTable_48 : dcd RX8 cX8_addToTable 48 bX8_addToTable_48 = true := by decide +kernel
def bX8_addToTable_54 : List Op3 := [(54, .return_, 1, (0, 0, 0, 0, 0, 0), 0)]
theorem obX8_addToTable_54 : dcd RX8 cX8_addToTable 54 bX8_addToTable_54 = true := by decide +kernel
/-! ===== stretches of instructions ===== -/
def bX9_copyFrom_0 : List Op3 := [(0, .aload_n 0, 1, (0, 0, 0, 0, 0, 0), 0), (1, .getfield 12, 3, (2, 0, 2, 3, 0, 0), 0), (4, .aload_n 1, 1, (1, 0, 0, 0, 0, 0), 0), (5, .getfield 12, 3, (2, 0, 2, 3, 0, 0), 0)]
theorem obX9_copyFrom_0 : dcd RX9 cX9_copyFrom 0 bX9_copyFrom_0 = true := by decide +kernel
def bX9_copyFrom_11 : List Op3 := [(11, .aload_n 0, 1, (0, 0, 0, 0, 0, 0), 0), (12, .getfield 21, 3, (2, 1, 2, 4, 0, 0), 0), (15, .aload_n 1, 1, (1, 0, 0, 0, 0, 0), 0), (16, .getfield 21, 3, (2, 1, 2, 4, 0, 0), 0)]
theorem obX9_copyFrom_11 : dcd RX9 cX9_copyFrom 11 bX9_copyFrom_11 = true := by decide +kernel
def bX9_copyFrom_22 : List Op3 := [(22, .aload_n 0, 1, (0, 0, 0, 0, 0, 0), 0), (23, .aload_n 1, 1, (1, 0, 0, 0, 0, 0), 0), (24, .getfield 25, 3, (2, 2, 0, 0, 0, 0), 0), (27, .putfield 25, 3, (2, 2, 0, 0, 0, 0), 0), (30, .aload_n 0, 1, (0, 0, 0, 0, 0, 0), 0), (31, .aload_n 1, 1, (1, 0, 0, 0, 0, 0), 0), (32, .getfield 29, 3, (2, 3, 0, 0, 0, 0), 0), (35, .putfield 29, 3, (2, 3, 0, 0, 0, 0), 0), (38, .aload_n 0, 1, (0, 0, 0, 0, 0, 0), 0), (39, .aload_n 1, 1, (1, 0, 0, 0, 0, 0), 0), (40, .getfield 38, 3, (2, 5, 0, 0, 0, 0), 0), (43, .putfield 38, 3, (2, 5, 0, 0, 0, 0), 0), (46, .iconst 0, 1, (0, 0, 0, 0, 0, 0), nI 0), (47, .istore_n 2, 1, (2, 0, 0, 0, 0, 0), 0)]
theorem obX9_copyFrom_22 : dcd RX9 cX9_copyFrom 22 bX9_copyFrom_22 = true := by decide +kernel
def bX9_copyFrom_48 : List Op3 := [(48, .iload_n 2, 1, (2, 0, 0, 0, 0, 0), 0), (49, .aload_n 0, 1, (0, 0, 0, 0, 0, 0), 0), (50, .getfield 38, 3, (2, 5, 0, 0, 0, 0), 0), (53, .if_icmp .ge 24, 3, (77, 0, 0, 0, 0, 0), 0), (56, .aload_n 0, 1, (0, 0, 0, 0, 0, 0), 0), (57, .getfield 34, 3, (2, 4, 2, 10, 0, 0), 0), (60, .iload_n 2, 1, (2, 0, 0, 0, 0, 0), 0), (61, .aaload, 1, (0, 0, 0, 0, 0, 0), 0), (62, .aload_n 1, 1, (1, 0, 0, 0, 0, 0), 0), (63, .getfield 34, 3, (2, 4, 2, 10, 0, 0), 0), (66, .iload_n 2, 1, (2, 0, 0, 0, 0, 0), 0), (67, .aaload, 1, (0, 0, 0, 0, 0, 0), 0)]
theorem obX9_copyFrom_48 : dcd RX9 cX9_copyFrom 48 bX9_copyFrom_48 = true := by decide +kernel
def bX9_copyFrom_71 : List Op3 := [(71, .iinc 2 1, 3, (2, 0, 0, 0, 0, 0), nI 1), (74, .goto (-26), 3, (48, 0, 0, 0, 0, 0), 0)]
theorem obX9_copyFrom_71 : dcd RX9 cX9_copyFrom 71 bX9_copyFrom_71 = true := by decide +kernel
def bX9_copyFrom_77 : List Op3 := [(77, .return_, 1, (0, 0, 0, 0, 0, 0), 0)]
theorem obX9_copyFrom_77 : dcd RX9 cX9_copyFrom 77 bX9_copyFrom_77 = true := by decide +kernel
def bX9_indexOf_0 : List Op3 := [(0, .iconst 0, 1, (0, 0, 0, 0, 0, 0), nI 0), (1, .istore_n 2, 1, (2, 0, 0, 0, 0, 0), 0)]
theorem obX9_indexOf_0 : dcd RX9 cX9_indexOf 0 bX9_indexOf_0 = true := by decide +kernel
def bX9_indexOf_2 : List Op3 := [(2, .iload_n 2, 1, (2, 0, 0, 0, 0, 0), 0), (3, .aload_n 0, 1, (0, 0, 0, 0, 0, 0), 0), (4, .getfield 38, 3, (2, 5, 0, 0, 0, 0), 0), (7, .if_icmp .ge 24, 3, (31, 0, 0, 0, 0, 0), 0), (10, .aload_n 0, 1, (0, 0, 0, 0, 0, 0), 0), (11, .getfield 34, 3, (2, 4, 2, 10, 0, 0), 0), (14, .iload_n 2, 1, (2, 0, 0, 0, 0, 0), 0), (15, .aaload, 1, (0, 0, 0, 0, 0, 0), 0), (16, .getfield 52, 3, (5, 0, 0, 0, 0, 0), 0), (19, .iload_n 1, 1, (1, 0, 0, 0, 0, 0), 0), (20, .if_icmp .ne 5, 3, (25, 0, 0, 0, 0, 0), 0), (23, .iload_n 2, 1, (2, 0, 0, 0, 0, 0), 0), (24, .ireturn, 1, (0, 0, 0, 0, 0, 0), 0)]
theorem obX9_indexOf_2 : dcd RX9 cX9_indexOf 2 bX9_indexOf_2 = true := by decide +kernel
def bX9_indexOf_25 : List Op3 := [(25, .iinc 2 1, 3, (2, 0, 0, 0, 0, 0), nI 1), (28, .goto (-26), 3, (2, 0, 0, 0, 0, 0), 0)]
theorem obX9_indexOf_25 : dcd RX9 cX9_indexOf 25 bX9_indexOf_25 = true := by decide +kernel
def bX9_indexOf_31 : List Op3 := [(31, .iconst (-1), 1, (0, 0, 0, 0, 0, 0), -1), (32, .ireturn, 1, (0, 0, 0, 0, 0, 0), 0)]
theorem obX9_indexOf_31 : dcd RX9 cX9_indexOf 31 bX9_indexOf_31 = true := by decide +kernel
def bX9_requireItem_0 : List Op3 := [(0, .aload_n 0, 1, (0, 0, 0, 0, 0, 0), 0), (1, .iload_n 1, 1, (1, 0, 0, 0, 0, 0), 0)]
theorem obX9_requireItem_0 : dcd RX9 cX9_requireItem 0 bX9_requireItem_0 = true := by decide +kernel
def bX9_requireItem_5 : List Op3 := [(5, .istore_n 2, 1, (2, 0, 0, 0, 0, 0), 0), (6, .iload_n 2, 1, (2, 0, 0, 0, 0, 0), 0), (7, .iconst (-1), 1, (0, 0, 0, 0, 0, 0), -1), (8, .if_icmp .ne 13, 3, (21, 0, 0, 0, 0, 0), 0)]
theorem obX9_requireItem_5 : dcd RX9 cX9_requireItem 5 bX9_requireItem_5 = true := by decide +kernel
def bX9_requireItem_14 : List Op3 := [(14, .dup, 1, (0, 0, 0, 0, 0, 0), 0)]
theorem obX9_requireItem_14 : dcd RX9 cX9_requireItem 14 bX9_requireItem_14 = true := by decide +kernel
def bX9_requireItem_21 : List Op3 := [(21, .aload_n 0, 1, (0, 0, 0, 0, 0, 0), 0), (22, .getfield 34, 3, (2, 4, 2, 10, 0, 0), 0), (25, .iload_n 2, 1, (2, 0, 0, 0, 0, 0), 0), (26, .aaload, 1, (0, 0, 0, 0, 0, 0), 0), (27, .areturn, 1, (0, 0, 0, 0, 0, 0), 0)]
theorem obX9_requireItem_21 : dcd RX9 cX9_requireItem 21 bX9_requireItem_21 = true := by decide +kernel
def bX9_requirePledge_0 : List Op3 := [(0, .aload_n 0, 1, (0, 0, 0, 0, 0, 0), 0), (1, .iload_n 1, 1, (1, 0, 0, 0, 0, 0), 0)]
theorem obX9_requirePledge_0 : dcd RX9 cX9_requirePledge 0 bX9_requirePledge_0 = true := by decide +kernel
def bX9_requirePledge_5 : List Op3 := [(5, .istore_n 2, 1, (2, 0, 0, 0, 0, 0), 0), (6, .iload_n 2, 1, (2, 0, 0, 0, 0, 0), 0), (7, .iconst (-1), 1, (0, 0, 0, 0, 0, 0), -1), (8, .if_icmp .eq 15, 3, (23, 0, 0, 0, 0, 0), 0), (11, .aload_n 0, 1, (0, 0, 0, 0, 0, 0), 0), (12, .getfield 34, 3, (2, 4, 2, 10, 0, 0), 0), (15, .iload_n 2, 1, (2, 0, 0, 0, 0, 0), 0), (16, .aaload, 1, (0, 0, 0, 0, 0, 0), 0), (17, .getfield 66, 3, (5, 6, 0, 0, 0, 0), 0), (20, .ifCond .eq 13, 3, (33, 0, 0, 0, 0, 0), 0)]
theorem obX9_requirePledge_5 : dcd RX9 cX9_requirePledge 5 bX9_requirePledge_5 = true := by decide +kernel
def bX9_requirePledge_26 : List Op3 := [(26, .dup, 1, (0, 0, 0, 0, 0, 0), 0)]
theorem obX9_requirePledge_26 : dcd RX9 cX9_requirePledge 26 bX9_requirePledge_26 = true := by decide +kernel
def bX9_requirePledge_33 : List Op3 := [(33, .aload_n 0, 1, (0, 0, 0, 0, 0, 0), 0), (34, .getfield 34, 3, (2, 4, 2, 10, 0, 0), 0), (37, .iload_n 2, 1, (2, 0, 0, 0, 0, 0), 0), (38, .aaload, 1, (0, 0, 0, 0, 0, 0), 0), (39, .areturn, 1, (0, 0, 0, 0, 0, 0), 0)]
theorem obX9_requirePledge_33 : dcd RX9 cX9_requirePledge 33 bX9_requirePledge_33 = true := by decide +kernel
def bX9_requireLot_0 : List Op3 := [(0, .aload_n 0, 1, (0, 0, 0, 0, 0, 0), 0), (1, .iload_n 1, 1, (1, 0, 0, 0, 0, 0), 0)]
theorem obX9_requireLot_0 : dcd RX9 cX9_requireLot 0 bX9_requireLot_0 = true := by decide +kernel
def bX9_requireLot_5 : List Op3 := [(5, .istore_n 2, 1, (2, 0, 0, 0, 0, 0), 0), (6, .iload_n 2, 1, (2, 0, 0, 0, 0, 0), 0), (7, .iconst (-1), 1, (0, 0, 0, 0, 0, 0), -1), (8, .if_icmp .eq 15, 3, (23, 0, 0, 0, 0, 0), 0), (11, .aload_n 0, 1, (0, 0, 0, 0, 0, 0), 0), (12, .getfield 34, 3, (2, 4, 2, 10, 0, 0), 0), (15, .iload_n 2, 1, (2, 0, 0, 0, 0, 0), 0), (16, .aaload, 1, (0, 0, 0, 0, 0, 0), 0), (17, .getfield 66, 3, (5, 6, 0, 0, 0, 0), 0), (20, .ifCond .ne 13, 3, (33, 0, 0, 0, 0, 0), 0)]
theorem obX9_requireLot_5 : dcd RX9 cX9_requireLot 5 bX9_requireLot_5 = true := by decide +kernel
def bX9_requireLot_26 : List Op3 := [(26, .dup, 1, (0, 0, 0, 0, 0, 0), 0)]
theorem obX9_requireLot_26 : dcd RX9 cX9_requireLot 26 bX9_requireLot_26 = true := by decide +kernel
def bX9_requireLot_33 : List Op3 := [(33, .aload_n 0, 1, (0, 0, 0, 0, 0, 0), 0), (34, .getfield 34, 3, (2, 4, 2, 10, 0, 0), 0), (37, .iload_n 2, 1, (2, 0, 0, 0, 0, 0), 0), (38, .aaload, 1, (0, 0, 0, 0, 0, 0), 0), (39, .areturn, 1, (0, 0, 0, 0, 0, 0), 0)]
theorem obX9_requireLot_33 : dcd RX9 cX9_requireLot 33 bX9_requireLot_33 = true := by decide +kernel
def bX9_countOf_0 : List Op3 := [(0, .iconst 0, 1, (0, 0, 0, 0, 0, 0), nI 0), (1, .istore_n 2, 1, (2, 0, 0, 0, 0, 0), 0), (2, .iconst 0, 1, (0, 0, 0, 0, 0, 0), nI 0), (3, .istore_n 3, 1, (3, 0, 0, 0, 0, 0), 0)]
theorem obX9_countOf_0 : dcd RX9 cX9_countOf 0 bX9_countOf_0 = true := by decide +kernel
def bX9_countOf_4 : List Op3 := [(4, .iload_n 3, 1, (3, 0, 0, 0, 0, 0), 0), (5, .aload_n 0, 1, (0, 0, 0, 0, 0, 0), 0), (6, .getfield 38, 3, (2, 5, 0, 0, 0, 0), 0), (9, .if_icmp .ge 25, 3, (34, 0, 0, 0, 0, 0), 0), (12, .aload_n 0, 1, (0, 0, 0, 0, 0, 0), 0), (13, .getfield 34, 3, (2, 4, 2, 10, 0, 0), 0), (16, .iload_n 3, 1, (3, 0, 0, 0, 0, 0), 0), (17, .aaload, 1, (0, 0, 0, 0, 0, 0), 0), (18, .getfield 66, 3, (5, 6, 0, 0, 0, 0), 0), (21, .iload_n 1, 1, (1, 0, 0, 0, 0, 0), 0), (22, .if_icmp .ne 6, 3, (28, 0, 0, 0, 0, 0), 0), (25, .iinc 2 1, 3, (2, 0, 0, 0, 0, 0), nI 1), (28, .iinc 3 1, 3, (3, 0, 0, 0, 0, 0), nI 1), (31, .goto (-27), 3, (4, 0, 0, 0, 0, 0), 0)]
theorem obX9_countOf_4 : dcd RX9 cX9_countOf 4 bX9_countOf_4 = true := by decide +kernel
def bX9_countOf_28 : List Op3 := [(28, .iinc 3 1, 3, (3, 0, 0, 0, 0, 0), nI 1), (31, .goto (-27), 3, (4, 0, 0, 0, 0, 0), 0)]
theorem obX9_countOf_28 : dcd RX9 cX9_countOf 28 bX9_countOf_28 = true := by decide +kernel
def bX9_countOf_34 : List Op3 := [(34, .iload_n 2, 1, (2, 0, 0, 0, 0, 0), 0), (35, .ireturn, 1, (0, 0, 0, 0, 0, 0), 0)]
theorem obX9_countOf_34 : dcd RX9 cX9_countOf 34 bX9_countOf_34 = true := by decide +kernel
def bX9_nthOf_0 : List Op3 := [(0, .iconst 0, 1, (0, 0, 0, 0, 0, 0), nI 0), (1, .istore_n 3, 1, (3, 0, 0, 0, 0, 0), 0), (2, .iconst 0, 1, (0, 0, 0, 0, 0, 0), nI 0), (3, .istore 4, 2, (4, 0, 0, 0, 0, 0), 0)]
theorem obX9_nthOf_0 : dcd RX9 cX9_nthOf 0 bX9_nthOf_0 = true := by decide +kernel
def bX9_nthOf_5 : List Op3 := [(5, .iload 4, 2, (4, 0, 0, 0, 0, 0), 0), (7, .aload_n 0, 1, (0, 0, 0, 0, 0, 0), 0), (8, .getfield 38, 3, (2, 5, 0, 0, 0, 0), 0), (11, .if_icmp .ge 39, 3, (50, 0, 0, 0, 0, 0), 0), (14, .aload_n 0, 1, (0, 0, 0, 0, 0, 0), 0), (15, .getfield 34, 3, (2, 4, 2, 10, 0, 0), 0), (18, .iload 4, 2, (4, 0, 0, 0, 0, 0), 0), (20, .aaload, 1, (0, 0, 0, 0, 0, 0), 0), (21, .getfield 66, 3, (5, 6, 0, 0, 0, 0), 0), (24, .iload_n 1, 1, (1, 0, 0, 0, 0, 0), 0), (25, .if_icmp .ne 19, 3, (44, 0, 0, 0, 0, 0), 0), (28, .iload_n 3, 1, (3, 0, 0, 0, 0, 0), 0), (29, .iload_n 2, 1, (2, 0, 0, 0, 0, 0), 0), (30, .if_icmp .ne 11, 3, (41, 0, 0, 0, 0, 0), 0), (33, .aload_n 0, 1, (0, 0, 0, 0, 0, 0), 0), (34, .getfield 34, 3, (2, 4, 2, 10, 0, 0), 0), (37, .iload 4, 2, (4, 0, 0, 0, 0, 0), 0), (39, .aaload, 1, (0, 0, 0, 0, 0, 0), 0), (40, .areturn, 1, (0, 0, 0, 0, 0, 0), 0)]
theorem obX9_nthOf_5 : dcd RX9 cX9_nthOf 5 bX9_nthOf_5 = true := by decide +kernel
def bX9_nthOf_41 : List Op3 := [(41, .iinc 3 1, 3, (3, 0, 0, 0, 0, 0), nI 1), (44, .iinc 4 1, 3, (4, 0, 0, 0, 0, 0), nI 1), (47, .goto (-42), 3, (5, 0, 0, 0, 0, 0), 0)]
theorem obX9_nthOf_41 : dcd RX9 cX9_nthOf 41 bX9_nthOf_41 = true := by decide +kernel
def bX9_nthOf_44 : List Op3 := [(44, .iinc 4 1, 3, (4, 0, 0, 0, 0, 0), nI 1), (47, .goto (-42), 3, (5, 0, 0, 0, 0, 0), 0)]
theorem obX9_nthOf_44 : dcd RX9 cX9_nthOf 44 bX9_nthOf_44 = true := by decide +kernel
def bX9_nthOf_50 : List Op3 := [(50, .aconst_null, 1, (0, 0, 0, 0, 0, 0), 0), (51, .areturn, 1, (0, 0, 0, 0, 0, 0), 0)]
theorem obX9_nthOf_50 : dcd RX9 cX9_nthOf 50 bX9_nthOf_50 = true := by decide +kernel
def bX9_pledgeOfDueRank_0 : List Op3 := [(0, .iconst 0, 1, (0, 0, 0, 0, 0, 0), nI 0), (1, .istore_n 2, 1, (2, 0, 0, 0, 0, 0), 0)]
theorem obX9_pledgeOfDueRank_0 : dcd RX9 cX9_pledgeOfDueRank 0 bX9_pledgeOfDueRank_0 = true := by decide +kernel
def bX9_pledgeOfDueRank_2 : List Op3 := [(2, .iload_n 2, 1, (2, 0, 0, 0, 0, 0), 0), (3, .aload_n 0, 1, (0, 0, 0, 0, 0, 0), 0), (4, .getfield 38, 3, (2, 5, 0, 0, 0, 0), 0), (7, .if_icmp .ge 37, 3, (44, 0, 0, 0, 0, 0), 0), (10, .aload_n 0, 1, (0, 0, 0, 0, 0, 0), 0), (11, .getfield 34, 3, (2, 4, 2, 10, 0, 0), 0), (14, .iload_n 2, 1, (2, 0, 0, 0, 0, 0), 0), (15, .aaload, 1, (0, 0, 0, 0, 0, 0), 0), (16, .getfield 66, 3, (5, 6, 0, 0, 0, 0), 0), (19, .ifCond .ne 19, 3, (38, 0, 0, 0, 0, 0), 0), (22, .aload_n 0, 1, (0, 0, 0, 0, 0, 0), 0), (23, .iload_n 2, 1, (2, 0, 0, 0, 0, 0), 0)]
theorem obX9_pledgeOfDueRank_2 : dcd RX9 cX9_pledgeOfDueRank 2 bX9_pledgeOfDueRank_2 = true := by decide +kernel
def bX9_pledgeOfDueRank_27 : List Op3 := [(27, .iload_n 1, 1, (1, 0, 0, 0, 0, 0), 0), (28, .if_icmp .ne 10, 3, (38, 0, 0, 0, 0, 0), 0), (31, .aload_n 0, 1, (0, 0, 0, 0, 0, 0), 0), (32, .getfield 34, 3, (2, 4, 2, 10, 0, 0), 0), (35, .iload_n 2, 1, (2, 0, 0, 0, 0, 0), 0), (36, .aaload, 1, (0, 0, 0, 0, 0, 0), 0), (37, .areturn, 1, (0, 0, 0, 0, 0, 0), 0)]
theorem obX9_pledgeOfDueRank_27 : dcd RX9 cX9_pledgeOfDueRank 27 bX9_pledgeOfDueRank_27 = true := by decide +kernel
def bX9_pledgeOfDueRank_38 : List Op3 := [(38, .iinc 2 1, 3, (2, 0, 0, 0, 0, 0), nI 1), (41, .goto (-39), 3, (2, 0, 0, 0, 0, 0), 0)]
theorem obX9_pledgeOfDueRank_38 : dcd RX9 cX9_pledgeOfDueRank 38 bX9_pledgeOfDueRank_38 = true := by decide +kernel
def bX9_pledgeOfDueRank_44 : List Op3 := [(44, .aconst_null, 1, (0, 0, 0, 0, 0, 0), 0), (45, .areturn, 1, (0, 0, 0, 0, 0, 0), 0)]
theorem obX9_pledgeOfDueRank_44 : dcd RX9 cX9_pledgeOfDueRank 44 bX9_pledgeOfDueRank_44 = true := by decide +kernel
def bX9_pledgesDueBefore_0 : List Op3 := [(0, .aload_n 0, 1, (0, 0, 0, 0, 0, 0), 0), (1, .getfield 34, 3, (2, 4, 2, 10, 0, 0), 0), (4, .iload_n 1, 1, (1, 0, 0, 0, 0, 0), 0), (5, .aaload, 1, (0, 0, 0, 0, 0, 0), 0), (6, .getfield 77, 3, (5, 5, 0, 0, 0, 0), 0), (9, .istore_n 2, 1, (2, 0, 0, 0, 0, 0), 0), (10, .iconst 0, 1, (0, 0, 0, 0, 0, 0), nI 0), (11, .istore_n 3, 1, (3, 0, 0, 0, 0, 0), 0), (12, .iconst 0, 1, (0, 0, 0, 0, 0, 0), nI 0), (13, .istore 4, 2, (4, 0, 0, 0, 0, 0), 0)]
theorem obX9_pledgesDueBefore_0 : dcd RX9 cX9_pledgesDueBefore 0 bX9_pledgesDueBefore_0 = true := by decide +kernel
def bX9_pledgesDueBefore_15 : List Op3 := [(15, .iload 4, 2, (4, 0, 0, 0, 0, 0), 0), (17, .aload_n 0, 1, (0, 0, 0, 0, 0, 0), 0), (18, .getfield 38, 3, (2, 5, 0, 0, 0, 0), 0), (21, .if_icmp .ge 71, 3, (92, 0, 0, 0, 0, 0), 0), (24, .aload_n 0, 1, (0, 0, 0, 0, 0, 0), 0), (25, .getfield 34, 3, (2, 4, 2, 10, 0, 0), 0), (28, .iload 4, 2, (4, 0, 0, 0, 0, 0), 0), (30, .aaload, 1, (0, 0, 0, 0, 0, 0), 0), (31, .getfield 77, 3, (5, 5, 0, 0, 0, 0), 0), (34, .iload_n 2, 1, (2, 0, 0, 0, 0, 0), 0), (35, .if_icmp .lt 23, 3, (58, 0, 0, 0, 0, 0), 0), (38, .aload_n 0, 1, (0, 0, 0, 0, 0, 0), 0), (39, .getfield 34, 3, (2, 4, 2, 10, 0, 0), 0), (42, .iload 4, 2, (4, 0, 0, 0, 0, 0), 0), (44, .aaload, 1, (0, 0, 0, 0, 0, 0), 0), (45, .getfield 77, 3, (5, 5, 0, 0, 0, 0), 0), (48, .iload_n 2, 1, (2, 0, 0, 0, 0, 0), 0), (49, .if_icmp .ne 13, 3, (62, 0, 0, 0, 0, 0), 0), (52, .iload 4, 2, (4, 0, 0, 0, 0, 0), 0), (54, .iload_n 1, 1, (1, 0, 0, 0, 0, 0), 0), (55, .if_icmp .ge 7, 3, (62, 0, 0, 0, 0, 0), 0), (58, .iconst 1, 1, (0, 0, 0, 0, 0, 0), nI 1), (59, .goto 4, 3, (63, 0, 0, 0, 0, 0), 0)]
theorem obX9_pledgesDueBefore_15 : dcd RX9 cX9_pledgesDueBefore 15 bX9_pledgesDueBefore_15 = true := by decide +kernel
def bX9_pledgesDueBefore_58 : List Op3 := [(58, .iconst 1, 1, (0, 0, 0, 0, 0, 0), nI 1), (59, .goto 4, 3, (63, 0, 0, 0, 0, 0), 0)]
theorem obX9_pledgesDueBefore_58 : dcd RX9 cX9_pledgesDueBefore 58 bX9_pledgesDueBefore_58 = true := by decide +kernel
def bX9_pledgesDueBefore_62 : List Op3 := [(62, .iconst 0, 1, (0, 0, 0, 0, 0, 0), nI 0), (63, .istore 5, 2, (5, 0, 0, 0, 0, 0), 0), (65, .aload_n 0, 1, (0, 0, 0, 0, 0, 0), 0), (66, .getfield 34, 3, (2, 4, 2, 10, 0, 0), 0), (69, .iload 4, 2, (4, 0, 0, 0, 0, 0), 0), (71, .aaload, 1, (0, 0, 0, 0, 0, 0), 0), (72, .getfield 66, 3, (5, 6, 0, 0, 0, 0), 0), (75, .ifCond .ne 11, 3, (86, 0, 0, 0, 0, 0), 0), (78, .iload 5, 2, (5, 0, 0, 0, 0, 0), 0), (80, .ifCond .eq 6, 3, (86, 0, 0, 0, 0, 0), 0), (83, .iinc 3 1, 3, (3, 0, 0, 0, 0, 0), nI 1), (86, .iinc 4 1, 3, (4, 0, 0, 0, 0, 0), nI 1), (89, .goto (-74), 3, (15, 0, 0, 0, 0, 0), 0)]
theorem obX9_pledgesDueBefore_62 : dcd RX9 cX9_pledgesDueBefore 62 bX9_pledgesDueBefore_62 = true := by decide +kernel
def bX9_pledgesDueBefore_63 : List Op3 := [(63, .istore 5, 2, (5, 0, 0, 0, 0, 0), 0), (65, .aload_n 0, 1, (0, 0, 0, 0, 0, 0), 0), (66, .getfield 34, 3, (2, 4, 2, 10, 0, 0), 0), (69, .iload 4, 2, (4, 0, 0, 0, 0, 0), 0), (71, .aaload, 1, (0, 0, 0, 0, 0, 0), 0), (72, .getfield 66, 3, (5, 6, 0, 0, 0, 0), 0), (75, .ifCond .ne 11, 3, (86, 0, 0, 0, 0, 0), 0), (78, .iload 5, 2, (5, 0, 0, 0, 0, 0), 0), (80, .ifCond .eq 6, 3, (86, 0, 0, 0, 0, 0), 0), (83, .iinc 3 1, 3, (3, 0, 0, 0, 0, 0), nI 1), (86, .iinc 4 1, 3, (4, 0, 0, 0, 0, 0), nI 1), (89, .goto (-74), 3, (15, 0, 0, 0, 0, 0), 0)]
theorem obX9_pledgesDueBefore_63 : dcd RX9 cX9_pledgesDueBefore 63 bX9_pledgesDueBefore_63 = true := by decide +kernel
def bX9_pledgesDueBefore_86 : List Op3 := [(86, .iinc 4 1, 3, (4, 0, 0, 0, 0, 0), nI 1), (89, .goto (-74), 3, (15, 0, 0, 0, 0, 0), 0)]
theorem obX9_pledgesDueBefore_86 : dcd RX9 cX9_pledgesDueBefore 86 bX9_pledgesDueBefore_86 = true := by decide +kernel
def bX9_pledgesDueBefore_92 : List Op3 := [(92, .iload_n 3, 1, (3, 0, 0, 0, 0, 0), 0), (93, .ireturn, 1, (0, 0, 0, 0, 0, 0), 0)]
theorem obX9_pledgesDueBefore_92 : dcd RX9 cX9_pledgesDueBefore 92 bX9_pledgesDueBefore_92 = true := by decide +kernel
def bX9_takePledge_0 : List Op3 := [(0, .iload_n 1, 1, (1, 0, 0, 0, 0, 0), 0), (1, .ifCond .lt 32, 3, (33, 0, 0, 0, 0, 0), 0), (4, .iload_n 1, 1, (1, 0, 0, 0, 0, 0), 0), (5, .bipush 6, 2, (0, 0, 0, 0, 0, 0), nI 6), (7, .if_icmp .ge 26, 3, (33, 0, 0, 0, 0, 0), 0), (10, .iload_n 2, 1, (2, 0, 0, 0, 0, 0), 0), (11, .iconst 1, 1, (0, 0, 0, 0, 0, 0), nI 1), (12, .if_icmp .lt 21, 3, (33, 0, 0, 0, 0, 0), 0), (15, .iload_n 2, 1, (2, 0, 0, 0, 0, 0), 0), (16, .sipush 240, 3, (0, 0, 0, 0, 0, 0), nI 240), (19, .if_icmp .gt 14, 3, (33, 0, 0, 0, 0, 0), 0), (22, .iload_n 3, 1, (3, 0, 0, 0, 0, 0), 0), (23, .iconst 1, 1, (0, 0, 0, 0, 0, 0), nI 1), (24, .if_icmp .lt 9, 3, (33, 0, 0, 0, 0, 0), 0), (27, .iload_n 3, 1, (3, 0, 0, 0, 0, 0), 0), (28, .bipush 60, 2, (0, 0, 0, 0, 0, 0), nI 60), (30, .if_icmp .le 13, 3, (43, 0, 0, 0, 0, 0), 0)]
theorem obX9_takePledge_0 : dcd RX9 cX9_takePledge 0 bX9_takePledge_0 = true := by decide +kernel
def bX9_takePledge_36 : List Op3 := [(36, .dup, 1, (0, 0, 0, 0, 0, 0), 0)]
theorem obX9_takePledge_36 : dcd RX9 cX9_takePledge 36 bX9_takePledge_36 = true := by decide +kernel
def bX9_takePledge_43 : List Op3 := [(43, .aload_n 0, 1, (0, 0, 0, 0, 0, 0), 0), (44, .getfield 38, 3, (2, 5, 0, 0, 0, 0), 0), (47, .bipush 10, 2, (0, 0, 0, 0, 0, 0), nI 10), (49, .if_icmp .lt 13, 3, (62, 0, 0, 0, 0, 0), 0)]
theorem obX9_takePledge_43 : dcd RX9 cX9_takePledge 43 bX9_takePledge_43 = true := by decide +kernel
def bX9_takePledge_55 : List Op3 := [(55, .dup, 1, (0, 0, 0, 0, 0, 0), 0)]
theorem obX9_takePledge_55 : dcd RX9 cX9_takePledge 55 bX9_takePledge_55 = true := by decide +kernel
def bX9_takePledge_62 : List Op3 := [(62, .iload_n 2, 1, (2, 0, 0, 0, 0, 0), 0), (63, .aload_n 0, 1, (0, 0, 0, 0, 0, 0), 0), (64, .getfield 25, 3, (2, 2, 0, 0, 0, 0), 0), (67, .imul, 1, (0, 0, 0, 0, 0, 0), 0), (68, .istore 4, 2, (4, 0, 0, 0, 0, 0), 0), (70, .aload_n 0, 1, (0, 0, 0, 0, 0, 0), 0), (71, .getfield 21, 3, (2, 1, 2, 4, 0, 0), 0), (74, .getfield 90, 3, (4, 0, 0, 0, 0, 0), 0), (77, .iload 4, 2, (4, 0, 0, 0, 0, 0), 0), (79, .if_icmp .ge 13, 3, (92, 0, 0, 0, 0, 0), 0)]
theorem obX9_takePledge_62 : dcd RX9 cX9_takePledge 62 bX9_takePledge_62 = true := by decide +kernel
def bX9_takePledge_85 : List Op3 := [(85, .dup, 1, (0, 0, 0, 0, 0, 0), 0)]
theorem obX9_takePledge_85 : dcd RX9 cX9_takePledge 85 bX9_takePledge_85 = true := by decide +kernel
def bX9_takePledge_92 : List Op3 := [(92, .aload_n 0, 1, (0, 0, 0, 0, 0, 0), 0), (93, .getfield 34, 3, (2, 4, 2, 10, 0, 0), 0), (96, .aload_n 0, 1, (0, 0, 0, 0, 0, 0), 0), (97, .getfield 38, 3, (2, 5, 0, 0, 0, 0), 0), (100, .aaload, 1, (0, 0, 0, 0, 0, 0), 0), (101, .astore 5, 2, (5, 0, 0, 0, 0, 0), 0), (103, .aload_n 0, 1, (0, 0, 0, 0, 0, 0), 0), (104, .dup, 1, (0, 0, 0, 0, 0, 0), 0), (105, .getfield 38, 3, (2, 5, 0, 0, 0, 0), 0), (108, .iconst 1, 1, (0, 0, 0, 0, 0, 0), nI 1), (109, .iadd, 1, (0, 0, 0, 0, 0, 0), 0), (110, .putfield 38, 3, (2, 5, 0, 0, 0, 0), 0), (113, .aload 5, 2, (5, 0, 0, 0, 0, 0), 0), (115, .aload_n 0, 1, (0, 0, 0, 0, 0, 0), 0), (116, .getfield 29, 3, (2, 3, 0, 0, 0, 0), 0), (119, .putfield 52, 3, (5, 0, 0, 0, 0, 0), 0), (122, .aload_n 0, 1, (0, 0, 0, 0, 0, 0), 0), (123, .dup, 1, (0, 0, 0, 0, 0, 0), 0), (124, .getfield 29, 3, (2, 3, 0, 0, 0, 0), 0), (127, .iconst 1, 1, (0, 0, 0, 0, 0, 0), nI 1), (128, .iadd, 1, (0, 0, 0, 0, 0, 0), 0), (129, .putfield 29, 3, (2, 3, 0, 0, 0, 0), 0), (132, .aload 5, 2, (5, 0, 0, 0, 0, 0), 0), (134, .iload_n 1, 1, (1, 0, 0, 0, 0, 0), 0), (135, .putfield 98, 3, (5, 1, 0, 0, 0, 0), 0), (138, .aload 5, 2, (5, 0, 0, 0, 0, 0), 0), (140, .iload_n 2, 1, (2, 0, 0, 0, 0, 0), 0), (141, .putfield 101, 3, (5, 2, 0, 0, 0, 0), 0), (144, .aload 5, 2, (5, 0, 0, 0, 0, 0), 0), (146, .iload 4, 2, (4, 0, 0, 0, 0, 0), 0), (148, .putfield 104, 3, (5, 3, 0, 0, 0, 0), 0), (151, .aload 5, 2, (5, 0, 0, 0, 0, 0), 0), (153, .aload_n 0, 1, (0, 0, 0, 0, 0, 0), 0), (154, .getfield 12, 3, (2, 0, 2, 3, 0, 0), 0), (157, .getfield 107, 3, (3, 0, 0, 0, 0, 0), 0), (160, .putfield 110, 3, (5, 4, 0, 0, 0, 0), 0), (163, .aload 5, 2, (5, 0, 0, 0, 0, 0), 0), (165, .aload_n 0, 1, (0, 0, 0, 0, 0, 0), 0), (166, .getfield 12, 3, (2, 0, 2, 3, 0, 0), 0), (169, .getfield 107, 3, (3, 0, 0, 0, 0, 0), 0), (172, .iload_n 3, 1, (3, 0, 0, 0, 0, 0), 0), (173, .iadd, 1, (0, 0, 0, 0, 0, 0), 0), (174, .putfield 77, 3, (5, 5, 0, 0, 0, 0), 0), (177, .aload 5, 2, (5, 0, 0, 0, 0, 0), 0), (179, .iconst 0, 1, (0, 0, 0, 0, 0, 0), nI 0), (180, .putfield 66, 3, (5, 6, 3, 0, 0, 0), 0), (183, .aload_n 0, 1, (0, 0, 0, 0, 0, 0), 0), (184, .getfield 21, 3, (2, 1, 2, 4, 0, 0), 0), (187, .iload 4, 2, (4, 0, 0, 0, 0, 0), 0), (189, .iload_n 2, 1, (2, 0, 0, 0, 0, 0), 0)]
theorem obX9_takePledge_92 : dcd RX9 cX9_takePledge 92 bX9_takePledge_92 = true := by decide +kernel
def bX9_takePledge_193 : List Op3 := [(193, .aload 5, 2, (5, 0, 0, 0, 0, 0), 0), (195, .getfield 52, 3, (5, 0, 0, 0, 0, 0), 0), (198, .ireturn, 1, (0, 0, 0, 0, 0, 0), 0)]
theorem obX9_takePledge_193 : dcd RX9 cX9_takePledge 193 bX9_takePledge_193 = true := by decide +kernel
def bX9_redeemPledge_0 : List Op3 := [(0, .aload_n 0, 1, (0, 0, 0, 0, 0, 0), 0), (1, .iload_n 1, 1, (1, 0, 0, 0, 0, 0), 0)]
theorem obX9_redeemPledge_0 : dcd RX9 cX9_redeemPledge 0 bX9_redeemPledge_0 = true := by decide +kernel
def bX9_redeemPledge_5 : List Op3 := [(5, .astore_n 2, 1, (2, 0, 0, 0, 0, 0), 0), (6, .aload_n 2, 1, (2, 0, 0, 0, 0, 0), 0), (7, .getfield 104, 3, (5, 3, 0, 0, 0, 0), 0), (10, .aload_n 0, 1, (0, 0, 0, 0, 0, 0), 0), (11, .aload_n 2, 1, (2, 0, 0, 0, 0, 0), 0), (12, .iconst 0, 1, (0, 0, 0, 0, 0, 0), nI 0)]
theorem obX9_redeemPledge_5 : dcd RX9 cX9_redeemPledge 5 bX9_redeemPledge_5 = true := by decide +kernel
def bX9_redeemPledge_16 : List Op3 := [(16, .iadd, 1, (0, 0, 0, 0, 0, 0), 0), (17, .istore_n 3, 1, (3, 0, 0, 0, 0, 0), 0), (18, .aload_n 0, 1, (0, 0, 0, 0, 0, 0), 0), (19, .getfield 21, 3, (2, 1, 2, 4, 0, 0), 0), (22, .iload_n 3, 1, (3, 0, 0, 0, 0, 0), 0), (23, .aload_n 2, 1, (2, 0, 0, 0, 0, 0), 0), (24, .getfield 101, 3, (5, 2, 0, 0, 0, 0), 0)]
theorem obX9_redeemPledge_16 : dcd RX9 cX9_redeemPledge 16 bX9_redeemPledge_16 = true := by decide +kernel
def bX9_redeemPledge_30 : List Op3 := [(30, .aload_n 0, 1, (0, 0, 0, 0, 0, 0), 0), (31, .aload_n 0, 1, (0, 0, 0, 0, 0, 0), 0), (32, .iload_n 1, 1, (1, 0, 0, 0, 0, 0), 0)]
theorem obX9_redeemPledge_30 : dcd RX9 cX9_redeemPledge 30 bX9_redeemPledge_30 = true := by decide +kernel
def bX9_redeemPledge_39 : List Op3 := [(39, .iload_n 3, 1, (3, 0, 0, 0, 0, 0), 0), (40, .ireturn, 1, (0, 0, 0, 0, 0, 0), 0)]
theorem obX9_redeemPledge_39 : dcd RX9 cX9_redeemPledge 39 bX9_redeemPledge_39 = true := by decide +kernel
def bX9_extendPledge_0 : List Op3 := [(0, .aload_n 0, 1, (0, 0, 0, 0, 0, 0), 0), (1, .iload_n 1, 1, (1, 0, 0, 0, 0, 0), 0)]
theorem obX9_extendPledge_0 : dcd RX9 cX9_extendPledge 0 bX9_extendPledge_0 = true := by decide +kernel
def bX9_extendPledge_5 : List Op3 := [(5, .astore_n 3, 1, (3, 0, 0, 0, 0, 0), 0), (6, .iload_n 2, 1, (2, 0, 0, 0, 0, 0), 0), (7, .iconst 1, 1, (0, 0, 0, 0, 0, 0), nI 1), (8, .if_icmp .lt 9, 3, (17, 0, 0, 0, 0, 0), 0), (11, .iload_n 2, 1, (2, 0, 0, 0, 0, 0), 0), (12, .bipush 60, 2, (0, 0, 0, 0, 0, 0), nI 60), (14, .if_icmp .le 13, 3, (27, 0, 0, 0, 0, 0), 0)]
theorem obX9_extendPledge_5 : dcd RX9 cX9_extendPledge 5 bX9_extendPledge_5 = true := by decide +kernel
def bX9_extendPledge_20 : List Op3 := [(20, .dup, 1, (0, 0, 0, 0, 0, 0), 0)]
theorem obX9_extendPledge_20 : dcd RX9 cX9_extendPledge 20 bX9_extendPledge_20 = true := by decide +kernel
def bX9_extendPledge_27 : List Op3 := [(27, .aload_n 0, 1, (0, 0, 0, 0, 0, 0), 0), (28, .aload_n 3, 1, (3, 0, 0, 0, 0, 0), 0), (29, .iconst 0, 1, (0, 0, 0, 0, 0, 0), nI 0)]
theorem obX9_extendPledge_27 : dcd RX9 cX9_extendPledge 27 bX9_extendPledge_27 = true := by decide +kernel
def bX9_extendPledge_33 : List Op3 := [(33, .istore 4, 2, (4, 0, 0, 0, 0, 0), 0), (35, .aload_n 0, 1, (0, 0, 0, 0, 0, 0), 0), (36, .getfield 21, 3, (2, 1, 2, 4, 0, 0), 0), (39, .iload 4, 2, (4, 0, 0, 0, 0, 0), 0)]
theorem obX9_extendPledge_33 : dcd RX9 cX9_extendPledge 33 bX9_extendPledge_33 = true := by decide +kernel
def bX9_extendPledge_44 : List Op3 := [(44, .aload_n 3, 1, (3, 0, 0, 0, 0, 0), 0), (45, .aload_n 0, 1, (0, 0, 0, 0, 0, 0), 0), (46, .getfield 12, 3, (2, 0, 2, 3, 0, 0), 0), (49, .getfield 107, 3, (3, 0, 0, 0, 0, 0), 0), (52, .putfield 110, 3, (5, 4, 0, 0, 0, 0), 0), (55, .aload_n 3, 1, (3, 0, 0, 0, 0, 0), 0), (56, .aload_n 0, 1, (0, 0, 0, 0, 0, 0), 0), (57, .getfield 12, 3, (2, 0, 2, 3, 0, 0), 0), (60, .getfield 107, 3, (3, 0, 0, 0, 0, 0), 0), (63, .iload_n 2, 1, (2, 0, 0, 0, 0, 0), 0), (64, .iadd, 1, (0, 0, 0, 0, 0, 0), 0), (65, .putfield 77, 3, (5, 5, 0, 0, 0, 0), 0), (68, .iload 4, 2, (4, 0, 0, 0, 0, 0), 0), (70, .ireturn, 1, (0, 0, 0, 0, 0, 0), 0)]
theorem obX9_extendPledge_44 : dcd RX9 cX9_extendPledge 44 bX9_extendPledge_44 = true := by decide +kernel
def bX9_letDaysPass_0 : List Op3 := [(0, .iload_n 1, 1, (1, 0, 0, 0, 0, 0), 0), (1, .iconst 1, 1, (0, 0, 0, 0, 0, 0), nI 1), (2, .if_icmp .lt 9, 3, (11, 0, 0, 0, 0, 0), 0), (5, .iload_n 1, 1, (1, 0, 0, 0, 0, 0), 0), (6, .bipush 90, 2, (0, 0, 0, 0, 0, 0), nI 90), (8, .if_icmp .le 13, 3, (21, 0, 0, 0, 0, 0), 0)]
theorem obX9_letDaysPass_0 : dcd RX9 cX9_letDaysPass 0 bX9_letDaysPass_0 = true := by decide +kernel
def bX9_letDaysPass_14 : List Op3 := [(14, .dup, 1, (0, 0, 0, 0, 0, 0), 0)]
theorem obX9_letDaysPass_14 : dcd RX9 cX9_letDaysPass 14 bX9_letDaysPass_14 = true := by decide +kernel
def bX9_letDaysPass_21 : List Op3 := [(21, .iconst 0, 1, (0, 0, 0, 0, 0, 0), nI 0), (22, .istore_n 2, 1, (2, 0, 0, 0, 0, 0), 0), (23, .iconst 0, 1, (0, 0, 0, 0, 0, 0), nI 0), (24, .istore_n 3, 1, (3, 0, 0, 0, 0, 0), 0)]
theorem obX9_letDaysPass_21 : dcd RX9 cX9_letDaysPass 21 bX9_letDaysPass_21 = true := by decide +kernel
def bX9_letDaysPass_25 : List Op3 := [(25, .iload_n 3, 1, (3, 0, 0, 0, 0, 0), 0), (26, .iload_n 1, 1, (1, 0, 0, 0, 0, 0), 0), (27, .if_icmp .ge 29, 3, (56, 0, 0, 0, 0, 0), 0), (30, .aload_n 0, 1, (0, 0, 0, 0, 0, 0), 0), (31, .getfield 12, 3, (2, 0, 2, 3, 0, 0), 0), (34, .dup, 1, (0, 0, 0, 0, 0, 0), 0), (35, .getfield 107, 3, (3, 0, 0, 0, 0, 0), 0), (38, .iconst 1, 1, (0, 0, 0, 0, 0, 0), nI 1), (39, .iadd, 1, (0, 0, 0, 0, 0, 0), 0), (40, .putfield 107, 3, (3, 0, 0, 0, 0, 0), 0), (43, .iload_n 2, 1, (2, 0, 0, 0, 0, 0), 0), (44, .aload_n 0, 1, (0, 0, 0, 0, 0, 0), 0)]
theorem obX9_letDaysPass_25 : dcd RX9 cX9_letDaysPass 25 bX9_letDaysPass_25 = true := by decide +kernel
def bX9_letDaysPass_48 : List Op3 := [(48, .iadd, 1, (0, 0, 0, 0, 0, 0), 0), (49, .istore_n 2, 1, (2, 0, 0, 0, 0, 0), 0), (50, .iinc 3 1, 3, (3, 0, 0, 0, 0, 0), nI 1), (53, .goto (-28), 3, (25, 0, 0, 0, 0, 0), 0)]
theorem obX9_letDaysPass_48 : dcd RX9 cX9_letDaysPass 48 bX9_letDaysPass_48 = true := by decide +kernel
def bX9_letDaysPass_56 : List Op3 := [(56, .iload_n 2, 1, (2, 0, 0, 0, 0, 0), 0), (57, .ireturn, 1, (0, 0, 0, 0, 0, 0), 0)]
theorem obX9_letDaysPass_56 : dcd RX9 cX9_letDaysPass 56 bX9_letDaysPass_56 = true := by decide +kernel
def bX9_forfeitOverdue_0 : List Op3 := [(0, .iconst 0, 1, (0, 0, 0, 0, 0, 0), nI 0), (1, .istore_n 1, 1, (1, 0, 0, 0, 0, 0), 0), (2, .iconst 0, 1, (0, 0, 0, 0, 0, 0), nI 0), (3, .istore_n 2, 1, (2, 0, 0, 0, 0, 0), 0)]
theorem obX9_forfeitOverdue_0 : dcd RX9 cX9_forfeitOverdue 0 bX9_forfeitOverdue_0 = true := by decide +kernel
def bX9_forfeitOverdue_4 : List Op3 := [(4, .iload_n 2, 1, (2, 0, 0, 0, 0, 0), 0), (5, .aload_n 0, 1, (0, 0, 0, 0, 0, 0), 0), (6, .getfield 38, 3, (2, 5, 0, 0, 0, 0), 0), (9, .if_icmp .ge 87, 3, (96, 0, 0, 0, 0, 0), 0), (12, .aload_n 0, 1, (0, 0, 0, 0, 0, 0), 0), (13, .getfield 34, 3, (2, 4, 2, 10, 0, 0), 0), (16, .iload_n 2, 1, (2, 0, 0, 0, 0, 0), 0), (17, .aaload, 1, (0, 0, 0, 0, 0, 0), 0), (18, .getfield 66, 3, (5, 6, 0, 0, 0, 0), 0), (21, .ifCond .ne 69, 3, (90, 0, 0, 0, 0, 0), 0), (24, .aload_n 0, 1, (0, 0, 0, 0, 0, 0), 0), (25, .getfield 34, 3, (2, 4, 2, 10, 0, 0), 0), (28, .iload_n 2, 1, (2, 0, 0, 0, 0, 0), 0), (29, .aaload, 1, (0, 0, 0, 0, 0, 0), 0), (30, .getfield 77, 3, (5, 5, 0, 0, 0, 0), 0), (33, .aload_n 0, 1, (0, 0, 0, 0, 0, 0), 0), (34, .getfield 12, 3, (2, 0, 2, 3, 0, 0), 0), (37, .getfield 107, 3, (3, 0, 0, 0, 0, 0), 0), (40, .if_icmp .ge 50, 3, (90, 0, 0, 0, 0, 0), 0), (43, .aload_n 0, 1, (0, 0, 0, 0, 0, 0), 0), (44, .getfield 34, 3, (2, 4, 2, 10, 0, 0), 0), (47, .iload_n 2, 1, (2, 0, 0, 0, 0, 0), 0), (48, .aaload, 1, (0, 0, 0, 0, 0, 0), 0), (49, .iconst 1, 1, (0, 0, 0, 0, 0, 0), nI 1), (50, .putfield 66, 3, (5, 6, 3, 0, 0, 0), 0), (53, .aload_n 0, 1, (0, 0, 0, 0, 0, 0), 0), (54, .getfield 34, 3, (2, 4, 2, 10, 0, 0), 0), (57, .iload_n 2, 1, (2, 0, 0, 0, 0, 0), 0), (58, .aaload, 1, (0, 0, 0, 0, 0, 0), 0), (59, .getfield 141, 3, (5, 7, 2, 12, 0, 0), 0), (62, .iconst 0, 1, (0, 0, 0, 0, 0, 0), nI 0)]
theorem obX9_forfeitOverdue_4 : dcd RX9 cX9_forfeitOverdue 4 bX9_forfeitOverdue_4 = true := by decide +kernel
def bX9_forfeitOverdue_66 : List Op3 := [(66, .aload_n 0, 1, (0, 0, 0, 0, 0, 0), 0), (67, .getfield 21, 3, (2, 1, 2, 4, 0, 0), 0), (70, .dup, 1, (0, 0, 0, 0, 0, 0), 0), (71, .getfield 151, 3, (4, 7, 0, 0, 0, 0), 0), (74, .aload_n 0, 1, (0, 0, 0, 0, 0, 0), 0), (75, .getfield 34, 3, (2, 4, 2, 10, 0, 0), 0), (78, .iload_n 2, 1, (2, 0, 0, 0, 0, 0), 0), (79, .aaload, 1, (0, 0, 0, 0, 0, 0), 0), (80, .getfield 101, 3, (5, 2, 0, 0, 0, 0), 0), (83, .iadd, 1, (0, 0, 0, 0, 0, 0), 0), (84, .putfield 151, 3, (4, 7, 0, 0, 0, 0), 0), (87, .iinc 1 1, 3, (1, 0, 0, 0, 0, 0), nI 1), (90, .iinc 2 1, 3, (2, 0, 0, 0, 0, 0), nI 1), (93, .goto (-89), 3, (4, 0, 0, 0, 0, 0), 0)]
theorem obX9_forfeitOverdue_66 : dcd RX9 cX9_forfeitOverdue 66 bX9_forfeitOverdue_66 = true := by decide +kernel
def bX9_forfeitOverdue_90 : List Op3 := [(90, .iinc 2 1, 3, (2, 0, 0, 0, 0, 0), nI 1), (93, .goto (-89), 3, (4, 0, 0, 0, 0, 0), 0)]
theorem obX9_forfeitOverdue_90 : dcd RX9 cX9_forfeitOverdue 90 bX9_forfeitOverdue_90 = true := by decide +kernel
def bX9_forfeitOverdue_96 : List Op3 := [(96, .iload_n 1, 1, (1, 0, 0, 0, 0, 0), 0), (97, .ireturn, 1, (0, 0, 0, 0, 0, 0), 0)]
theorem obX9_forfeitOverdue_96 : dcd RX9 cX9_forfeitOverdue 96 bX9_forfeitOverdue_96 = true := by decide +kernel
def bX9_changePrice_0 : List Op3 := [(0, .iload_n 1, 1, (1, 0, 0, 0, 0, 0), 0), (1, .iconst 1, 1, (0, 0, 0, 0, 0, 0), nI 1), (2, .if_icmp .lt 9, 3, (11, 0, 0, 0, 0, 0), 0), (5, .iload_n 1, 1, (1, 0, 0, 0, 0, 0), 0), (6, .bipush 9, 2, (0, 0, 0, 0, 0, 0), nI 9), (8, .if_icmp .le 13, 3, (21, 0, 0, 0, 0, 0), 0)]
theorem obX9_changePrice_0 : dcd RX9 cX9_changePrice 0 bX9_changePrice_0 = true := by decide +kernel
def bX9_changePrice_14 : List Op3 := [(14, .dup, 1, (0, 0, 0, 0, 0, 0), 0)]
theorem obX9_changePrice_14 : dcd RX9 cX9_changePrice 14 bX9_changePrice_14 = true := by decide +kernel
def bX9_changePrice_21 : List Op3 := [(21, .aload_n 0, 1, (0, 0, 0, 0, 0, 0), 0), (22, .getfield 25, 3, (2, 2, 0, 0, 0, 0), 0), (25, .istore_n 2, 1, (2, 0, 0, 0, 0, 0), 0), (26, .aload_n 0, 1, (0, 0, 0, 0, 0, 0), 0), (27, .iload_n 1, 1, (1, 0, 0, 0, 0, 0), 0), (28, .putfield 25, 3, (2, 2, 0, 0, 0, 0), 0), (31, .iload_n 2, 1, (2, 0, 0, 0, 0, 0), 0), (32, .ireturn, 1, (0, 0, 0, 0, 0, 0), 0)]
theorem obX9_changePrice_21 : dcd RX9 cX9_changePrice 21 bX9_changePrice_21 = true := by decide +kernel
def bX9_interestByDays_0 : List Op3 := [(0, .aload_n 1, 1, (1, 0, 0, 0, 0, 0), 0), (1, .getfield 104, 3, (5, 3, 0, 0, 0, 0), 0), (4, .aload_n 0, 1, (0, 0, 0, 0, 0, 0), 0), (5, .getfield 12, 3, (2, 0, 2, 3, 0, 0), 0), (8, .aload_n 1, 1, (1, 0, 0, 0, 0, 0), 0), (9, .getfield 110, 3, (5, 4, 0, 0, 0, 0), 0), (12, .aload_n 0, 1, (0, 0, 0, 0, 0, 0), 0), (13, .getfield 12, 3, (2, 0, 2, 3, 0, 0), 0), (16, .getfield 107, 3, (3, 0, 0, 0, 0, 0), 0), (19, .iload_n 2, 1, (2, 0, 0, 0, 0, 0), 0), (20, .iadd, 1, (0, 0, 0, 0, 0, 0), 0)]
theorem obX9_interestByDays_0 : dcd RX9 cX9_interestByDays 0 bX9_interestByDays_0 = true := by decide +kernel
def bX9_interestByDays_24 : List Op3 := [(24, .imul, 1, (0, 0, 0, 0, 0, 0), 0), (25, .bipush 100, 2, (0, 0, 0, 0, 0, 0), nI 100), (27, .idiv, 1, (0, 0, 0, 0, 0, 0), 0), (28, .ireturn, 1, (0, 0, 0, 0, 0, 0), 0)]
theorem obX9_interestByDays_24 : dcd RX9 cX9_interestByDays 24 bX9_interestByDays_24 = true := by decide +kernel
def bX9_interestFromWeeks_0 : List Op3 := [(0, .aload_n 1, 1, (1, 0, 0, 0, 0, 0), 0), (1, .getfield 104, 3, (5, 3, 0, 0, 0, 0), 0), (4, .aload_n 0, 1, (0, 0, 0, 0, 0, 0), 0), (5, .getfield 12, 3, (2, 0, 2, 3, 0, 0), 0), (8, .aload_n 1, 1, (1, 0, 0, 0, 0, 0), 0), (9, .getfield 110, 3, (5, 4, 0, 0, 0, 0), 0), (12, .aload_n 0, 1, (0, 0, 0, 0, 0, 0), 0), (13, .getfield 12, 3, (2, 0, 2, 3, 0, 0), 0), (16, .getfield 107, 3, (3, 0, 0, 0, 0, 0), 0)]
theorem obX9_interestFromWeeks_0 : dcd RX9 cX9_interestFromWeeks 0 bX9_interestFromWeeks_0 = true := by decide +kernel
def bX9_interestFromWeeks_22 : List Op3 := [(22, .imul, 1, (0, 0, 0, 0, 0, 0), 0), (23, .bipush 100, 2, (0, 0, 0, 0, 0, 0), nI 100), (25, .idiv, 1, (0, 0, 0, 0, 0, 0), 0), (26, .ireturn, 1, (0, 0, 0, 0, 0, 0), 0)]
theorem obX9_interestFromWeeks_22 : dcd RX9 cX9_interestFromWeeks 22 bX9_interestFromWeeks_22 = true := by decide +kernel
def bX9_placeBid_0 : List Op3 := [(0, .aload_n 0, 1, (0, 0, 0, 0, 0, 0), 0), (1, .iload_n 1, 1, (1, 0, 0, 0, 0, 0), 0)]
theorem obX9_placeBid_0 : dcd RX9 cX9_placeBid 0 bX9_placeBid_0 = true := by decide +kernel
def bX9_placeBid_5 : List Op3 := [(5, .astore 4, 2, (4, 0, 0, 0, 0, 0), 0), (7, .iload_n 2, 1, (2, 0, 0, 0, 0, 0), 0), (8, .ifCond .lt 20, 3, (28, 0, 0, 0, 0, 0), 0), (11, .iload_n 2, 1, (2, 0, 0, 0, 0, 0), 0), (12, .iconst 5, 1, (0, 0, 0, 0, 0, 0), nI 5), (13, .if_icmp .ge 15, 3, (28, 0, 0, 0, 0, 0), 0), (16, .iload_n 3, 1, (3, 0, 0, 0, 0, 0), 0), (17, .iconst 1, 1, (0, 0, 0, 0, 0, 0), nI 1), (18, .if_icmp .lt 10, 3, (28, 0, 0, 0, 0, 0), 0), (21, .iload_n 3, 1, (3, 0, 0, 0, 0, 0), 0), (22, .sipush 999, 3, (0, 0, 0, 0, 0, 0), nI 999), (25, .if_icmp .le 13, 3, (38, 0, 0, 0, 0, 0), 0)]
theorem obX9_placeBid_5 : dcd RX9 cX9_placeBid 5 bX9_placeBid_5 = true := by decide +kernel
def bX9_placeBid_31 : List Op3 := [(31, .dup, 1, (0, 0, 0, 0, 0, 0), 0)]
theorem obX9_placeBid_31 : dcd RX9 cX9_placeBid 31 bX9_placeBid_31 = true := by decide +kernel
def bX9_placeBid_38 : List Op3 := [(38, .aload 4, 2, (4, 0, 0, 0, 0, 0), 0), (40, .getfield 141, 3, (5, 7, 2, 12, 0, 0), 0), (43, .iload_n 2, 1, (2, 0, 0, 0, 0, 0), 0), (44, .iaload, 1, (0, 0, 0, 0, 0, 0), 0), (45, .istore 5, 2, (5, 0, 0, 0, 0, 0), 0), (47, .aload 4, 2, (4, 0, 0, 0, 0, 0), 0), (49, .getfield 141, 3, (5, 7, 2, 12, 0, 0), 0), (52, .iload_n 2, 1, (2, 0, 0, 0, 0, 0), 0), (53, .iload_n 3, 1, (3, 0, 0, 0, 0, 0), 0), (54, .iastore, 1, (0, 0, 0, 0, 0, 0), 0), (55, .iload 5, 2, (5, 0, 0, 0, 0, 0), 0), (57, .ireturn, 1, (0, 0, 0, 0, 0, 0), 0)]
theorem obX9_placeBid_38 : dcd RX9 cX9_placeBid 38 bX9_placeBid_38 = true := by decide +kernel
def bX9_sellLot_0 : List Op3 := [(0, .aload_n 0, 1, (0, 0, 0, 0, 0, 0), 0), (1, .iload_n 1, 1, (1, 0, 0, 0, 0, 0), 0)]
theorem obX9_sellLot_0 : dcd RX9 cX9_sellLot 0 bX9_sellLot_0 = true := by decide +kernel
def bX9_sellLot_5 : List Op3 := [(5, .astore_n 2, 1, (2, 0, 0, 0, 0, 0), 0), (6, .aload_n 2, 1, (2, 0, 0, 0, 0, 0), 0)]
theorem obX9_sellLot_5 : dcd RX9 cX9_sellLot 5 bX9_sellLot_5 = true := by decide +kernel
def bX9_sellLot_10 : List Op3 := [(10, .istore_n 3, 1, (3, 0, 0, 0, 0, 0), 0), (11, .iload_n 3, 1, (3, 0, 0, 0, 0, 0), 0), (12, .iconst (-1), 1, (0, 0, 0, 0, 0, 0), -1), (13, .if_icmp .ne 13, 3, (26, 0, 0, 0, 0, 0), 0)]
theorem obX9_sellLot_10 : dcd RX9 cX9_sellLot 10 bX9_sellLot_10 = true := by decide +kernel
def bX9_sellLot_19 : List Op3 := [(19, .dup, 1, (0, 0, 0, 0, 0, 0), 0)]
theorem obX9_sellLot_19 : dcd RX9 cX9_sellLot 19 bX9_sellLot_19 = true := by decide +kernel
def bX9_sellLot_26 : List Op3 := [(26, .aload_n 2, 1, (2, 0, 0, 0, 0, 0), 0), (27, .iload_n 3, 1, (3, 0, 0, 0, 0, 0), 0)]
theorem obX9_sellLot_26 : dcd RX9 cX9_sellLot 26 bX9_sellLot_26 = true := by decide +kernel
def bX9_sellLot_31 : List Op3 := [(31, .istore 4, 2, (4, 0, 0, 0, 0, 0), 0), (33, .aload_n 0, 1, (0, 0, 0, 0, 0, 0), 0), (34, .getfield 21, 3, (2, 1, 2, 4, 0, 0), 0), (37, .iload 4, 2, (4, 0, 0, 0, 0, 0), 0), (39, .aload_n 2, 1, (2, 0, 0, 0, 0, 0), 0), (40, .getfield 101, 3, (5, 2, 0, 0, 0, 0), 0)]
theorem obX9_sellLot_31 : dcd RX9 cX9_sellLot 31 bX9_sellLot_31 = true := by decide +kernel
def bX9_sellLot_46 : List Op3 := [(46, .aload_n 0, 1, (0, 0, 0, 0, 0, 0), 0), (47, .aload_n 0, 1, (0, 0, 0, 0, 0, 0), 0), (48, .iload_n 1, 1, (1, 0, 0, 0, 0, 0), 0)]
theorem obX9_sellLot_46 : dcd RX9 cX9_sellLot 46 bX9_sellLot_46 = true := by decide +kernel
def bX9_sellLot_55 : List Op3 := [(55, .iload 4, 2, (4, 0, 0, 0, 0, 0), 0), (57, .ireturn, 1, (0, 0, 0, 0, 0, 0), 0)]
theorem obX9_sellLot_55 : dcd RX9 cX9_sellLot 55 bX9_sellLot_55 = true := by decide +kernel
def bX9_sellLotsOf_0 : List Op3 := [(0, .aload_n 1, 1, (1, 0, 0, 0, 0, 0), 0), (1, .aload_n 0, 1, (0, 0, 0, 0, 0, 0), 0)]
theorem obX9_sellLotsOf_0 : dcd RX9 cX9_sellLotsOf 0 bX9_sellLotsOf_0 = true := by decide +kernel
def bX9_sellLotsOf_5 : List Op3 := [(5, .istore_n 2, 1, (2, 0, 0, 0, 0, 0), 0), (6, .iload_n 2, 1, (2, 0, 0, 0, 0, 0), 0), (7, .ifCond .ne 13, 3, (20, 0, 0, 0, 0, 0), 0)]
theorem obX9_sellLotsOf_5 : dcd RX9 cX9_sellLotsOf 5 bX9_sellLotsOf_5 = true := by decide +kernel
def bX9_sellLotsOf_13 : List Op3 := [(13, .dup, 1, (0, 0, 0, 0, 0, 0), 0)]
theorem obX9_sellLotsOf_13 : dcd RX9 cX9_sellLotsOf 13 bX9_sellLotsOf_13 = true := by decide +kernel
def bX9_sellLotsOf_20 : List Op3 := [(20, .aload_n 0, 1, (0, 0, 0, 0, 0, 0), 0), (21, .getfield 38, 3, (2, 5, 0, 0, 0, 0), 0), (24, .iconst 1, 1, (0, 0, 0, 0, 0, 0), nI 1), (25, .isub, 1, (0, 0, 0, 0, 0, 0), 0), (26, .istore_n 3, 1, (3, 0, 0, 0, 0, 0), 0)]
theorem obX9_sellLotsOf_20 : dcd RX9 cX9_sellLotsOf 20 bX9_sellLotsOf_20 = true := by decide +kernel
def bX9_sellLotsOf_27 : List Op3 := [(27, .iload_n 3, 1, (3, 0, 0, 0, 0, 0), 0), (28, .ifCond .lt 55, 3, (83, 0, 0, 0, 0, 0), 0), (31, .aload_n 1, 1, (1, 0, 0, 0, 0, 0), 0), (32, .iload_n 3, 1, (3, 0, 0, 0, 0, 0), 0)]
theorem obX9_sellLotsOf_27 : dcd RX9 cX9_sellLotsOf 27 bX9_sellLotsOf_27 = true := by decide +kernel
def bX9_sellLotsOf_36 : List Op3 := [(36, .istore 4, 2, (4, 0, 0, 0, 0, 0), 0), (38, .iload 4, 2, (4, 0, 0, 0, 0, 0), 0), (40, .iconst (-1), 1, (0, 0, 0, 0, 0, 0), -1), (41, .if_icmp .eq 36, 3, (77, 0, 0, 0, 0, 0), 0), (44, .aload_n 0, 1, (0, 0, 0, 0, 0, 0), 0), (45, .getfield 21, 3, (2, 1, 2, 4, 0, 0), 0), (48, .aload_n 0, 1, (0, 0, 0, 0, 0, 0), 0), (49, .getfield 34, 3, (2, 4, 2, 10, 0, 0), 0), (52, .iload_n 3, 1, (3, 0, 0, 0, 0, 0), 0), (53, .aaload, 1, (0, 0, 0, 0, 0, 0), 0), (54, .getfield 141, 3, (5, 7, 2, 12, 0, 0), 0), (57, .iload 4, 2, (4, 0, 0, 0, 0, 0), 0), (59, .iaload, 1, (0, 0, 0, 0, 0, 0), 0), (60, .aload_n 0, 1, (0, 0, 0, 0, 0, 0), 0), (61, .getfield 34, 3, (2, 4, 2, 10, 0, 0), 0), (64, .iload_n 3, 1, (3, 0, 0, 0, 0, 0), 0), (65, .aaload, 1, (0, 0, 0, 0, 0, 0), 0), (66, .getfield 101, 3, (5, 2, 0, 0, 0, 0), 0)]
theorem obX9_sellLotsOf_36 : dcd RX9 cX9_sellLotsOf 36 bX9_sellLotsOf_36 = true := by decide +kernel
def bX9_sellLotsOf_72 : List Op3 := [(72, .aload_n 0, 1, (0, 0, 0, 0, 0, 0), 0), (73, .iload_n 3, 1, (3, 0, 0, 0, 0, 0), 0)]
theorem obX9_sellLotsOf_72 : dcd RX9 cX9_sellLotsOf 72 bX9_sellLotsOf_72 = true := by decide +kernel
def bX9_sellLotsOf_77 : List Op3 := [(77, .iinc 3 (-1), 3, (3, 0, 0, 0, 0, 0), -1), (80, .goto (-53), 3, (27, 0, 0, 0, 0, 0), 0)]
theorem obX9_sellLotsOf_77 : dcd RX9 cX9_sellLotsOf 77 bX9_sellLotsOf_77 = true := by decide +kernel
def bX9_sellLotsOf_83 : List Op3 := [(83, .iload_n 2, 1, (2, 0, 0, 0, 0, 0), 0), (84, .ireturn, 1, (0, 0, 0, 0, 0, 0), 0)]
theorem obX9_sellLotsOf_83 : dcd RX9 cX9_sellLotsOf 83 bX9_sellLotsOf_83 = true := by decide +kernel
def bX9_removeAt_0 : List Op3 := [(0, .iload_n 1, 1, (1, 0, 0, 0, 0, 0), 0), (1, .ifCond .lt 11, 3, (12, 0, 0, 0, 0, 0), 0), (4, .iload_n 1, 1, (1, 0, 0, 0, 0, 0), 0), (5, .aload_n 0, 1, (0, 0, 0, 0, 0, 0), 0), (6, .getfield 38, 3, (2, 5, 0, 0, 0, 0), 0), (9, .if_icmp .lt 4, 3, (13, 0, 0, 0, 0, 0), 0), (12, .return_, 1, (0, 0, 0, 0, 0, 0), 0)]
theorem obX9_removeAt_0 : dcd RX9 cX9_removeAt 0 bX9_removeAt_0 = true := by decide +kernel
def bX9_removeAt_12 : List Op3 := [(12, .return_, 1, (0, 0, 0, 0, 0, 0), 0)]
theorem obX9_removeAt_12 : dcd RX9 cX9_removeAt 12 bX9_removeAt_12 = true := by decide +kernel
def bX9_removeAt_13 : List Op3 := [(13, .aload_n 0, 1, (0, 0, 0, 0, 0, 0), 0), (14, .getfield 34, 3, (2, 4, 2, 10, 0, 0), 0), (17, .iload_n 1, 1, (1, 0, 0, 0, 0, 0), 0), (18, .aaload, 1, (0, 0, 0, 0, 0, 0), 0), (19, .astore_n 2, 1, (2, 0, 0, 0, 0, 0), 0), (20, .aload_n 0, 1, (0, 0, 0, 0, 0, 0), 0), (21, .dup, 1, (0, 0, 0, 0, 0, 0), 0), (22, .getfield 38, 3, (2, 5, 0, 0, 0, 0), 0), (25, .iconst 1, 1, (0, 0, 0, 0, 0, 0), nI 1), (26, .isub, 1, (0, 0, 0, 0, 0, 0), 0), (27, .putfield 38, 3, (2, 5, 0, 0, 0, 0), 0), (30, .iload_n 1, 1, (1, 0, 0, 0, 0, 0), 0), (31, .istore_n 3, 1, (3, 0, 0, 0, 0, 0), 0)]
theorem obX9_removeAt_13 : dcd RX9 cX9_removeAt 13 bX9_removeAt_13 = true := by decide +kernel
def bX9_removeAt_32 : List Op3 := [(32, .iload_n 3, 1, (3, 0, 0, 0, 0, 0), 0), (33, .aload_n 0, 1, (0, 0, 0, 0, 0, 0), 0), (34, .getfield 38, 3, (2, 5, 0, 0, 0, 0), 0), (37, .if_icmp .ge 23, 3, (60, 0, 0, 0, 0, 0), 0), (40, .aload_n 0, 1, (0, 0, 0, 0, 0, 0), 0), (41, .getfield 34, 3, (2, 4, 2, 10, 0, 0), 0), (44, .iload_n 3, 1, (3, 0, 0, 0, 0, 0), 0), (45, .aload_n 0, 1, (0, 0, 0, 0, 0, 0), 0), (46, .getfield 34, 3, (2, 4, 2, 10, 0, 0), 0), (49, .iload_n 3, 1, (3, 0, 0, 0, 0, 0), 0), (50, .iconst 1, 1, (0, 0, 0, 0, 0, 0), nI 1), (51, .iadd, 1, (0, 0, 0, 0, 0, 0), 0), (52, .aaload, 1, (0, 0, 0, 0, 0, 0), 0), (53, .aastore, 1, (0, 0, 0, 0, 0, 0), 0), (54, .iinc 3 1, 3, (3, 0, 0, 0, 0, 0), nI 1), (57, .goto (-25), 3, (32, 0, 0, 0, 0, 0), 0)]
theorem obX9_removeAt_32 : dcd RX9 cX9_removeAt 32 bX9_removeAt_32 = true := by decide +kernel
def bX9_removeAt_60 : List Op3 := [(60, .aload_n 0, 1, (0, 0, 0, 0, 0, 0), 0), (61, .getfield 34, 3, (2, 4, 2, 10, 0, 0), 0), (64, .aload_n 0, 1, (0, 0, 0, 0, 0, 0), 0), (65, .getfield 38, 3, (2, 5, 0, 0, 0, 0), 0), (68, .aload_n 2, 1, (2, 0, 0, 0, 0, 0), 0), (69, .aastore, 1, (0, 0, 0, 0, 0, 0), 0), (70, .return_, 1, (0, 0, 0, 0, 0, 0), 0)]
theorem obX9_removeAt_60 : dcd RX9 cX9_removeAt 60 bX9_removeAt_60 = true := by decide +kernel
def bX9_minutesInStock_0 : List Op3 := [(0, .iconst 0, 1, (0, 0, 0, 0, 0, 0), nI 0), (1, .istore_n 1, 1, (1, 0, 0, 0, 0, 0), 0), (2, .iconst 0, 1, (0, 0, 0, 0, 0, 0), nI 0), (3, .istore_n 2, 1, (2, 0, 0, 0, 0, 0), 0)]
theorem obX9_minutesInStock_0 : dcd RX9 cX9_minutesInStock 0 bX9_minutesInStock_0 = true := by decide +kernel
def bX9_minutesInStock_4 : List Op3 := [(4, .iload_n 2, 1, (2, 0, 0, 0, 0, 0), 0), (5, .aload_n 0, 1, (0, 0, 0, 0, 0, 0), 0), (6, .getfield 38, 3, (2, 5, 0, 0, 0, 0), 0), (9, .if_icmp .ge 21, 3, (30, 0, 0, 0, 0, 0), 0), (12, .iload_n 1, 1, (1, 0, 0, 0, 0, 0), 0), (13, .aload_n 0, 1, (0, 0, 0, 0, 0, 0), 0), (14, .getfield 34, 3, (2, 4, 2, 10, 0, 0), 0), (17, .iload_n 2, 1, (2, 0, 0, 0, 0, 0), 0), (18, .aaload, 1, (0, 0, 0, 0, 0, 0), 0), (19, .getfield 101, 3, (5, 2, 0, 0, 0, 0), 0), (22, .iadd, 1, (0, 0, 0, 0, 0, 0), 0), (23, .istore_n 1, 1, (1, 0, 0, 0, 0, 0), 0), (24, .iinc 2 1, 3, (2, 0, 0, 0, 0, 0), nI 1), (27, .goto (-23), 3, (4, 0, 0, 0, 0, 0), 0)]
theorem obX9_minutesInStock_4 : dcd RX9 cX9_minutesInStock 4 bX9_minutesInStock_4 = true := by decide +kernel
def bX9_minutesInStock_30 : List Op3 := [(30, .iload_n 1, 1, (1, 0, 0, 0, 0, 0), 0), (31, .ireturn, 1, (0, 0, 0, 0, 0, 0), 0)]
theorem obX9_minutesInStock_30 : dcd RX9 cX9_minutesInStock 30 bX9_minutesInStock_30 = true := by decide +kernel
def bX9_sumOfPledgedLoans_0 : List Op3 := [(0, .iconst 0, 1, (0, 0, 0, 0, 0, 0), nI 0), (1, .istore_n 1, 1, (1, 0, 0, 0, 0, 0), 0), (2, .iconst 0, 1, (0, 0, 0, 0, 0, 0), nI 0), (3, .istore_n 2, 1, (2, 0, 0, 0, 0, 0), 0)]
theorem obX9_sumOfPledgedLoans_0 : dcd RX9 cX9_sumOfPledgedLoans 0 bX9_sumOfPledgedLoans_0 = true := by decide +kernel
def bX9_sumOfPledgedLoans_4 : List Op3 := [(4, .iload_n 2, 1, (2, 0, 0, 0, 0, 0), 0), (5, .aload_n 0, 1, (0, 0, 0, 0, 0, 0), 0), (6, .getfield 38, 3, (2, 5, 0, 0, 0, 0), 0), (9, .if_icmp .ge 33, 3, (42, 0, 0, 0, 0, 0), 0), (12, .aload_n 0, 1, (0, 0, 0, 0, 0, 0), 0), (13, .getfield 34, 3, (2, 4, 2, 10, 0, 0), 0), (16, .iload_n 2, 1, (2, 0, 0, 0, 0, 0), 0), (17, .aaload, 1, (0, 0, 0, 0, 0, 0), 0), (18, .getfield 66, 3, (5, 6, 0, 0, 0, 0), 0), (21, .ifCond .ne 15, 3, (36, 0, 0, 0, 0, 0), 0), (24, .iload_n 1, 1, (1, 0, 0, 0, 0, 0), 0), (25, .aload_n 0, 1, (0, 0, 0, 0, 0, 0), 0), (26, .getfield 34, 3, (2, 4, 2, 10, 0, 0), 0), (29, .iload_n 2, 1, (2, 0, 0, 0, 0, 0), 0), (30, .aaload, 1, (0, 0, 0, 0, 0, 0), 0), (31, .getfield 104, 3, (5, 3, 0, 0, 0, 0), 0), (34, .iadd, 1, (0, 0, 0, 0, 0, 0), 0), (35, .istore_n 1, 1, (1, 0, 0, 0, 0, 0), 0), (36, .iinc 2 1, 3, (2, 0, 0, 0, 0, 0), nI 1), (39, .goto (-35), 3, (4, 0, 0, 0, 0, 0), 0)]
theorem obX9_sumOfPledgedLoans_4 : dcd RX9 cX9_sumOfPledgedLoans 4 bX9_sumOfPledgedLoans_4 = true := by decide +kernel
def bX9_sumOfPledgedLoans_36 : List Op3 := [(36, .iinc 2 1, 3, (2, 0, 0, 0, 0, 0), nI 1), (39, .goto (-35), 3, (4, 0, 0, 0, 0, 0), 0)]
theorem obX9_sumOfPledgedLoans_36 : dcd RX9 cX9_sumOfPledgedLoans 36 bX9_sumOfPledgedLoans_36 = true := by decide +kernel
def bX9_sumOfPledgedLoans_42 : List Op3 := [(42, .iload_n 1, 1, (1, 0, 0, 0, 0, 0), 0), (43, .ireturn, 1, (0, 0, 0, 0, 0, 0), 0)]
theorem obX9_sumOfPledgedLoans_42 : dcd RX9 cX9_sumOfPledgedLoans 42 bX9_sumOfPledgedLoans_42 = true := by decide +kernel
def bX9_interestsAgree_0 : List Op3 := [(0, .iconst 0, 1, (0, 0, 0, 0, 0, 0), nI 0), (1, .istore_n 1, 1, (1, 0, 0, 0, 0, 0), 0)]
theorem obX9_interestsAgree_0 : dcd RX9 cX9_interestsAgree 0 bX9_interestsAgree_0 = true := by decide +kernel
def bX9_interestsAgree_2 : List Op3 := [(2, .iload_n 1, 1, (1, 0, 0, 0, 0, 0), 0), (3, .aload_n 0, 1, (0, 0, 0, 0, 0, 0), 0), (4, .getfield 38, 3, (2, 5, 0, 0, 0, 0), 0), (7, .if_icmp .ge 47, 3, (54, 0, 0, 0, 0, 0), 0), (10, .aload_n 0, 1, (0, 0, 0, 0, 0, 0), 0), (11, .getfield 34, 3, (2, 4, 2, 10, 0, 0), 0), (14, .iload_n 1, 1, (1, 0, 0, 0, 0, 0), 0), (15, .aaload, 1, (0, 0, 0, 0, 0, 0), 0), (16, .getfield 66, 3, (5, 6, 0, 0, 0, 0), 0), (19, .ifCond .ne 29, 3, (48, 0, 0, 0, 0, 0), 0), (22, .aload_n 0, 1, (0, 0, 0, 0, 0, 0), 0), (23, .aload_n 0, 1, (0, 0, 0, 0, 0, 0), 0), (24, .getfield 34, 3, (2, 4, 2, 10, 0, 0), 0), (27, .iload_n 1, 1, (1, 0, 0, 0, 0, 0), 0), (28, .aaload, 1, (0, 0, 0, 0, 0, 0), 0), (29, .iconst 0, 1, (0, 0, 0, 0, 0, 0), nI 0)]
theorem obX9_interestsAgree_2 : dcd RX9 cX9_interestsAgree 2 bX9_interestsAgree_2 = true := by decide +kernel
def bX9_interestsAgree_33 : List Op3 := [(33, .aload_n 0, 1, (0, 0, 0, 0, 0, 0), 0), (34, .aload_n 0, 1, (0, 0, 0, 0, 0, 0), 0), (35, .getfield 34, 3, (2, 4, 2, 10, 0, 0), 0), (38, .iload_n 1, 1, (1, 0, 0, 0, 0, 0), 0), (39, .aaload, 1, (0, 0, 0, 0, 0, 0), 0)]
theorem obX9_interestsAgree_33 : dcd RX9 cX9_interestsAgree 33 bX9_interestsAgree_33 = true := by decide +kernel
def bX9_interestsAgree_43 : List Op3 := [(43, .if_icmp .eq 5, 3, (48, 0, 0, 0, 0, 0), 0), (46, .iconst 0, 1, (0, 0, 0, 0, 0, 0), nI 0), (47, .ireturn, 1, (0, 0, 0, 0, 0, 0), 0)]
theorem obX9_interestsAgree_43 : dcd RX9 cX9_interestsAgree 43 bX9_interestsAgree_43 = true := by decide +kernel
def bX9_interestsAgree_48 : List Op3 := [(48, .iinc 1 1, 3, (1, 0, 0, 0, 0, 0), nI 1), (51, .goto (-49), 3, (2, 0, 0, 0, 0, 0), 0)]
theorem obX9_interestsAgree_48 : dcd RX9 cX9_interestsAgree 48 bX9_interestsAgree_48 = true := by decide +kernel
def bX9_interestsAgree_54 : List Op3 := [(54, .iconst 1, 1, (0, 0, 0, 0, 0, 0), nI 1), (55, .ireturn, 1, (0, 0, 0, 0, 0, 0), 0)]
theorem obX9_interestsAgree_54 : dcd RX9 cX9_interestsAgree 54 bX9_interestsAgree_54 = true := by decide +kernel
/-! ===== stretches of instructions ===== -/
def bX10_pledge_0 : List Op3 := [(0, .aload_n 0, 1, (0, 0, 0, 0, 0, 0), 0), (1, .getfield 26, 3, (1, 3, 2, 8, 0, 0), 0), (4, .aload_n 0, 1, (0, 0, 0, 0, 0, 0), 0), (5, .getfield 12, 3, (1, 0, 2, 2, 0, 0), 0)]
theorem obX10_pledge_0 : dcd RX10 cX10_pledge 0 bX10_pledge_0 = true := by decide +kernel
def bX10_pledge_11 : List Op3 := [(11, .aload_n 0, 1, (0, 0, 0, 0, 0, 0), 0), (12, .getfield 12, 3, (1, 0, 2, 2, 0, 0), 0), (15, .iload_n 1, 1, (1, 0, 0, 0, 0, 0), 0), (16, .iload_n 2, 1, (2, 0, 0, 0, 0, 0), 0), (17, .iload_n 3, 1, (3, 0, 0, 0, 0, 0), 0)]
theorem obX10_pledge_11 : dcd RX10 cX10_pledge 11 bX10_pledge_11 = true := by decide +kernel
def bX10_pledge_21 : List Op3 := [(21, .istore 4, 2, (4, 0, 0, 0, 0, 0), 0), (23, .aload_n 0, 1, (0, 0, 0, 0, 0, 0), 0), (24, .getfield 26, 3, (1, 3, 2, 8, 0, 0), 0)]
theorem obX10_pledge_21 : dcd RX10 cX10_pledge 21 bX10_pledge_21 = true := by decide +kernel
def bX10_pledge_30 : List Op3 := [(30, .iload 4, 2, (4, 0, 0, 0, 0, 0), 0), (32, .ireturn, 1, (0, 0, 0, 0, 0, 0), 0)]
theorem obX10_pledge_30 : dcd RX10 cX10_pledge 30 bX10_pledge_30 = true := by decide +kernel
def bX10_redeem_0 : List Op3 := [(0, .aload_n 0, 1, (0, 0, 0, 0, 0, 0), 0), (1, .getfield 26, 3, (1, 3, 2, 8, 0, 0), 0), (4, .aload_n 0, 1, (0, 0, 0, 0, 0, 0), 0), (5, .getfield 12, 3, (1, 0, 2, 2, 0, 0), 0)]
theorem obX10_redeem_0 : dcd RX10 cX10_redeem 0 bX10_redeem_0 = true := by decide +kernel
def bX10_redeem_11 : List Op3 := [(11, .aload_n 0, 1, (0, 0, 0, 0, 0, 0), 0), (12, .getfield 12, 3, (1, 0, 2, 2, 0, 0), 0), (15, .iload_n 1, 1, (1, 0, 0, 0, 0, 0), 0)]
theorem obX10_redeem_11 : dcd RX10 cX10_redeem 11 bX10_redeem_11 = true := by decide +kernel
def bX10_redeem_19 : List Op3 := [(19, .istore_n 2, 1, (2, 0, 0, 0, 0, 0), 0), (20, .aload_n 0, 1, (0, 0, 0, 0, 0, 0), 0), (21, .getfield 26, 3, (1, 3, 2, 8, 0, 0), 0)]
theorem obX10_redeem_19 : dcd RX10 cX10_redeem 19 bX10_redeem_19 = true := by decide +kernel
def bX10_redeem_27 : List Op3 := [(27, .iload_n 2, 1, (2, 0, 0, 0, 0, 0), 0), (28, .ireturn, 1, (0, 0, 0, 0, 0, 0), 0)]
theorem obX10_redeem_27 : dcd RX10 cX10_redeem 27 bX10_redeem_27 = true := by decide +kernel
def bX10_extend_0 : List Op3 := [(0, .aload_n 0, 1, (0, 0, 0, 0, 0, 0), 0), (1, .getfield 26, 3, (1, 3, 2, 8, 0, 0), 0), (4, .aload_n 0, 1, (0, 0, 0, 0, 0, 0), 0), (5, .getfield 12, 3, (1, 0, 2, 2, 0, 0), 0)]
theorem obX10_extend_0 : dcd RX10 cX10_extend 0 bX10_extend_0 = true := by decide +kernel
def bX10_extend_11 : List Op3 := [(11, .aload_n 0, 1, (0, 0, 0, 0, 0, 0), 0), (12, .getfield 12, 3, (1, 0, 2, 2, 0, 0), 0), (15, .iload_n 1, 1, (1, 0, 0, 0, 0, 0), 0), (16, .iload_n 2, 1, (2, 0, 0, 0, 0, 0), 0)]
theorem obX10_extend_11 : dcd RX10 cX10_extend 11 bX10_extend_11 = true := by decide +kernel
def bX10_extend_20 : List Op3 := [(20, .istore_n 3, 1, (3, 0, 0, 0, 0, 0), 0), (21, .aload_n 0, 1, (0, 0, 0, 0, 0, 0), 0), (22, .getfield 26, 3, (1, 3, 2, 8, 0, 0), 0)]
theorem obX10_extend_20 : dcd RX10 cX10_extend 20 bX10_extend_20 = true := by decide +kernel
def bX10_extend_28 : List Op3 := [(28, .iload_n 3, 1, (3, 0, 0, 0, 0, 0), 0), (29, .ireturn, 1, (0, 0, 0, 0, 0, 0), 0)]
theorem obX10_extend_28 : dcd RX10 cX10_extend 28 bX10_extend_28 = true := by decide +kernel
def bX10_passDays_0 : List Op3 := [(0, .aload_n 0, 1, (0, 0, 0, 0, 0, 0), 0), (1, .getfield 26, 3, (1, 3, 2, 8, 0, 0), 0), (4, .aload_n 0, 1, (0, 0, 0, 0, 0, 0), 0), (5, .getfield 12, 3, (1, 0, 2, 2, 0, 0), 0)]
theorem obX10_passDays_0 : dcd RX10 cX10_passDays 0 bX10_passDays_0 = true := by decide +kernel
def bX10_passDays_11 : List Op3 := [(11, .aload_n 0, 1, (0, 0, 0, 0, 0, 0), 0), (12, .getfield 12, 3, (1, 0, 2, 2, 0, 0), 0), (15, .iload_n 1, 1, (1, 0, 0, 0, 0, 0), 0)]
theorem obX10_passDays_11 : dcd RX10 cX10_passDays 11 bX10_passDays_11 = true := by decide +kernel
def bX10_passDays_19 : List Op3 := [(19, .istore_n 2, 1, (2, 0, 0, 0, 0, 0), 0), (20, .aload_n 0, 1, (0, 0, 0, 0, 0, 0), 0), (21, .getfield 26, 3, (1, 3, 2, 8, 0, 0), 0)]
theorem obX10_passDays_19 : dcd RX10 cX10_passDays 19 bX10_passDays_19 = true := by decide +kernel
def bX10_passDays_27 : List Op3 := [(27, .iload_n 2, 1, (2, 0, 0, 0, 0, 0), 0), (28, .ireturn, 1, (0, 0, 0, 0, 0, 0), 0)]
theorem obX10_passDays_27 : dcd RX10 cX10_passDays 27 bX10_passDays_27 = true := by decide +kernel
def bX10_setPrice_0 : List Op3 := [(0, .aload_n 0, 1, (0, 0, 0, 0, 0, 0), 0), (1, .getfield 26, 3, (1, 3, 2, 8, 0, 0), 0), (4, .aload_n 0, 1, (0, 0, 0, 0, 0, 0), 0), (5, .getfield 12, 3, (1, 0, 2, 2, 0, 0), 0)]
theorem obX10_setPrice_0 : dcd RX10 cX10_setPrice 0 bX10_setPrice_0 = true := by decide +kernel
def bX10_setPrice_11 : List Op3 := [(11, .aload_n 0, 1, (0, 0, 0, 0, 0, 0), 0), (12, .getfield 12, 3, (1, 0, 2, 2, 0, 0), 0), (15, .iload_n 1, 1, (1, 0, 0, 0, 0, 0), 0)]
theorem obX10_setPrice_11 : dcd RX10 cX10_setPrice 11 bX10_setPrice_11 = true := by decide +kernel
def bX10_setPrice_19 : List Op3 := [(19, .istore_n 2, 1, (2, 0, 0, 0, 0, 0), 0), (20, .aload_n 0, 1, (0, 0, 0, 0, 0, 0), 0), (21, .getfield 26, 3, (1, 3, 2, 8, 0, 0), 0)]
theorem obX10_setPrice_19 : dcd RX10 cX10_setPrice 19 bX10_setPrice_19 = true := by decide +kernel
def bX10_setPrice_27 : List Op3 := [(27, .iload_n 2, 1, (2, 0, 0, 0, 0, 0), 0), (28, .ireturn, 1, (0, 0, 0, 0, 0, 0), 0)]
theorem obX10_setPrice_27 : dcd RX10 cX10_setPrice 27 bX10_setPrice_27 = true := by decide +kernel
def bX10_setRate_0 : List Op3 := [(0, .aload_n 0, 1, (0, 0, 0, 0, 0, 0), 0), (1, .getfield 26, 3, (1, 3, 2, 8, 0, 0), 0), (4, .aload_n 0, 1, (0, 0, 0, 0, 0, 0), 0), (5, .getfield 12, 3, (1, 0, 2, 2, 0, 0), 0)]
theorem obX10_setRate_0 : dcd RX10 cX10_setRate 0 bX10_setRate_0 = true := by decide +kernel
def bX10_setRate_11 : List Op3 := [(11, .aload_n 0, 1, (0, 0, 0, 0, 0, 0), 0), (12, .getfield 12, 3, (1, 0, 2, 2, 0, 0), 0), (15, .getfield 90, 3, (2, 0, 2, 3, 0, 0), 0), (18, .iload_n 1, 1, (1, 0, 0, 0, 0, 0), 0), (19, .iload_n 2, 1, (2, 0, 0, 0, 0, 0), 0)]
theorem obX10_setRate_11 : dcd RX10 cX10_setRate 11 bX10_setRate_11 = true := by decide +kernel
def bX10_setRate_23 : List Op3 := [(23, .istore_n 3, 1, (3, 0, 0, 0, 0, 0), 0), (24, .aload_n 0, 1, (0, 0, 0, 0, 0, 0), 0), (25, .getfield 26, 3, (1, 3, 2, 8, 0, 0), 0)]
theorem obX10_setRate_23 : dcd RX10 cX10_setRate 23 bX10_setRate_23 = true := by decide +kernel
def bX10_setRate_31 : List Op3 := [(31, .iload_n 3, 1, (3, 0, 0, 0, 0, 0), 0), (32, .ireturn, 1, (0, 0, 0, 0, 0, 0), 0)]
theorem obX10_setRate_31 : dcd RX10 cX10_setRate 31 bX10_setRate_31 = true := by decide +kernel
def bX10_day_0 : List Op3 := [(0, .aload_n 0, 1, (0, 0, 0, 0, 0, 0), 0), (1, .getfield 12, 3, (1, 0, 2, 2, 0, 0), 0), (4, .getfield 90, 3, (2, 0, 2, 3, 0, 0), 0), (7, .getfield 99, 3, (3, 0, 0, 0, 0, 0), 0), (10, .ireturn, 1, (0, 0, 0, 0, 0, 0), 0)]
theorem obX10_day_0 : dcd RX10 cX10_day 0 bX10_day_0 = true := by decide +kernel
def bX10_price_0 : List Op3 := [(0, .aload_n 0, 1, (0, 0, 0, 0, 0, 0), 0), (1, .getfield 12, 3, (1, 0, 2, 2, 0, 0), 0), (4, .getfield 102, 3, (2, 2, 0, 0, 0, 0), 0), (7, .ireturn, 1, (0, 0, 0, 0, 0, 0), 0)]
theorem obX10_price_0 : dcd RX10 cX10_price 0 bX10_price_0 = true := by decide +kernel
def bX10_rateOf_0 : List Op3 := [(0, .iload_n 1, 1, (1, 0, 0, 0, 0, 0), 0), (1, .ifCond .lt 9, 3, (10, 0, 0, 0, 0, 0), 0), (4, .iload_n 1, 1, (1, 0, 0, 0, 0, 0), 0), (5, .bipush 7, 2, (0, 0, 0, 0, 0, 0), nI 7), (7, .if_icmp .lt 13, 3, (20, 0, 0, 0, 0, 0), 0)]
theorem obX10_rateOf_0 : dcd RX10 cX10_rateOf 0 bX10_rateOf_0 = true := by decide +kernel
def bX10_rateOf_13 : List Op3 := [(13, .dup, 1, (0, 0, 0, 0, 0, 0), 0)]
theorem obX10_rateOf_13 : dcd RX10 cX10_rateOf 13 bX10_rateOf_13 = true := by decide +kernel
def bX10_rateOf_20 : List Op3 := [(20, .aload_n 0, 1, (0, 0, 0, 0, 0, 0), 0), (21, .getfield 12, 3, (1, 0, 2, 2, 0, 0), 0), (24, .getfield 90, 3, (2, 0, 2, 3, 0, 0), 0), (27, .getfield 112, 3, (3, 1, 2, 11, 0, 0), 0), (30, .iload_n 1, 1, (1, 0, 0, 0, 0, 0), 0), (31, .iaload, 1, (0, 0, 0, 0, 0, 0), 0), (32, .ireturn, 1, (0, 0, 0, 0, 0, 0), 0)]
theorem obX10_rateOf_20 : dcd RX10 cX10_rateOf 20 bX10_rateOf_20 = true := by decide +kernel
def bX10_coins_0 : List Op3 := [(0, .aload_n 0, 1, (0, 0, 0, 0, 0, 0), 0), (1, .getfield 12, 3, (1, 0, 2, 2, 0, 0), 0), (4, .getfield 116, 3, (2, 1, 2, 4, 0, 0), 0), (7, .getfield 120, 3, (4, 0, 0, 0, 0, 0), 0), (10, .ireturn, 1, (0, 0, 0, 0, 0, 0), 0)]
theorem obX10_coins_0 : dcd RX10 cX10_coins 0 bX10_coins_0 = true := by decide +kernel
def bX10_coinsByAccounts_0 : List Op3 := [(0, .aload_n 0, 1, (0, 0, 0, 0, 0, 0), 0), (1, .getfield 12, 3, (1, 0, 2, 2, 0, 0), 0), (4, .getfield 116, 3, (2, 1, 2, 4, 0, 0), 0)]
theorem obX10_coinsByAccounts_0 : dcd RX10 cX10_coinsByAccounts 0 bX10_coinsByAccounts_0 = true := by decide +kernel
def bX10_coinsByAccounts_10 : List Op3 := [(10, .ireturn, 1, (0, 0, 0, 0, 0, 0), 0)]
theorem obX10_coinsByAccounts_10 : dcd RX10 cX10_coinsByAccounts 10 bX10_coinsByAccounts_10 = true := by decide +kernel
def bX10_pledgeCount_0 : List Op3 := [(0, .aload_n 0, 1, (0, 0, 0, 0, 0, 0), 0), (1, .getfield 12, 3, (1, 0, 2, 2, 0, 0), 0), (4, .iconst 0, 1, (0, 0, 0, 0, 0, 0), nI 0)]
theorem obX10_pledgeCount_0 : dcd RX10 cX10_pledgeCount 0 bX10_pledgeCount_0 = true := by decide +kernel
def bX10_pledgeCount_8 : List Op3 := [(8, .ireturn, 1, (0, 0, 0, 0, 0, 0), 0)]
theorem obX10_pledgeCount_8 : dcd RX10 cX10_pledgeCount 8 bX10_pledgeCount_8 = true := by decide +kernel
def bX10_pledgeAt_0 : List Op3 := [(0, .aload_n 0, 1, (0, 0, 0, 0, 0, 0), 0), (1, .getfield 12, 3, (1, 0, 2, 2, 0, 0), 0), (4, .iconst 0, 1, (0, 0, 0, 0, 0, 0), nI 0), (5, .iload_n 1, 1, (1, 0, 0, 0, 0, 0), 0)]
theorem obX10_pledgeAt_0 : dcd RX10 cX10_pledgeAt 0 bX10_pledgeAt_0 = true := by decide +kernel
def bX10_pledgeAt_9 : List Op3 := [(9, .astore_n 2, 1, (2, 0, 0, 0, 0, 0), 0), (10, .aload_n 2, 1, (2, 0, 0, 0, 0, 0), 0), (11, .ifnonnull 13, 3, (24, 0, 0, 0, 0, 0), 0)]
theorem obX10_pledgeAt_9 : dcd RX10 cX10_pledgeAt 9 bX10_pledgeAt_9 = true := by decide +kernel
def bX10_pledgeAt_17 : List Op3 := [(17, .dup, 1, (0, 0, 0, 0, 0, 0), 0)]
theorem obX10_pledgeAt_17 : dcd RX10 cX10_pledgeAt 17 bX10_pledgeAt_17 = true := by decide +kernel
def bX10_pledgeAt_24 : List Op3 := [(24, .aload_n 2, 1, (2, 0, 0, 0, 0, 0), 0), (25, .getfield 142, 3, (5, 0, 0, 0, 0, 0), 0), (28, .ireturn, 1, (0, 0, 0, 0, 0, 0), 0)]
theorem obX10_pledgeAt_24 : dcd RX10 cX10_pledgeAt 24 bX10_pledgeAt_24 = true := by decide +kernel
def bX10_customerOf_0 : List Op3 := [(0, .aload_n 0, 1, (0, 0, 0, 0, 0, 0), 0), (1, .getfield 12, 3, (1, 0, 2, 2, 0, 0), 0), (4, .iload_n 1, 1, (1, 0, 0, 0, 0, 0), 0)]
theorem obX10_customerOf_0 : dcd RX10 cX10_customerOf 0 bX10_customerOf_0 = true := by decide +kernel
def bX10_customerOf_8 : List Op3 := [(8, .getfield 151, 3, (5, 1, 0, 0, 0, 0), 0), (11, .ireturn, 1, (0, 0, 0, 0, 0, 0), 0)]
theorem obX10_customerOf_8 : dcd RX10 cX10_customerOf 8 bX10_customerOf_8 = true := by decide +kernel
def bX10_minutesOf_0 : List Op3 := [(0, .aload_n 0, 1, (0, 0, 0, 0, 0, 0), 0), (1, .getfield 12, 3, (1, 0, 2, 2, 0, 0), 0), (4, .iload_n 1, 1, (1, 0, 0, 0, 0, 0), 0)]
theorem obX10_minutesOf_0 : dcd RX10 cX10_minutesOf 0 bX10_minutesOf_0 = true := by decide +kernel
def bX10_minutesOf_8 : List Op3 := [(8, .getfield 157, 3, (5, 2, 0, 0, 0, 0), 0), (11, .ireturn, 1, (0, 0, 0, 0, 0, 0), 0)]
theorem obX10_minutesOf_8 : dcd RX10 cX10_minutesOf 8 bX10_minutesOf_8 = true := by decide +kernel
def bX10_loanOf_0 : List Op3 := [(0, .aload_n 0, 1, (0, 0, 0, 0, 0, 0), 0), (1, .getfield 12, 3, (1, 0, 2, 2, 0, 0), 0), (4, .iload_n 1, 1, (1, 0, 0, 0, 0, 0), 0)]
theorem obX10_loanOf_0 : dcd RX10 cX10_loanOf 0 bX10_loanOf_0 = true := by decide +kernel
def bX10_loanOf_8 : List Op3 := [(8, .getfield 160, 3, (5, 3, 0, 0, 0, 0), 0), (11, .ireturn, 1, (0, 0, 0, 0, 0, 0), 0)]
theorem obX10_loanOf_8 : dcd RX10 cX10_loanOf 8 bX10_loanOf_8 = true := by decide +kernel
def bX10_dueDayOf_0 : List Op3 := [(0, .aload_n 0, 1, (0, 0, 0, 0, 0, 0), 0), (1, .getfield 12, 3, (1, 0, 2, 2, 0, 0), 0), (4, .iload_n 1, 1, (1, 0, 0, 0, 0, 0), 0)]
theorem obX10_dueDayOf_0 : dcd RX10 cX10_dueDayOf 0 bX10_dueDayOf_0 = true := by decide +kernel
def bX10_dueDayOf_8 : List Op3 := [(8, .getfield 163, 3, (5, 5, 0, 0, 0, 0), 0), (11, .ireturn, 1, (0, 0, 0, 0, 0, 0), 0)]
theorem obX10_dueDayOf_8 : dcd RX10 cX10_dueDayOf 8 bX10_dueDayOf_8 = true := by decide +kernel
def bX10_pledgeByDueDay_0 : List Op3 := [(0, .aload_n 0, 1, (0, 0, 0, 0, 0, 0), 0), (1, .getfield 12, 3, (1, 0, 2, 2, 0, 0), 0), (4, .iload_n 1, 1, (1, 0, 0, 0, 0, 0), 0)]
theorem obX10_pledgeByDueDay_0 : dcd RX10 cX10_pledgeByDueDay 0 bX10_pledgeByDueDay_0 = true := by decide +kernel
def bX10_pledgeByDueDay_8 : List Op3 := [(8, .astore_n 2, 1, (2, 0, 0, 0, 0, 0), 0), (9, .aload_n 2, 1, (2, 0, 0, 0, 0, 0), 0), (10, .ifnonnull 13, 3, (23, 0, 0, 0, 0, 0), 0)]
theorem obX10_pledgeByDueDay_8 : dcd RX10 cX10_pledgeByDueDay 8 bX10_pledgeByDueDay_8 = true := by decide +kernel
def bX10_pledgeByDueDay_16 : List Op3 := [(16, .dup, 1, (0, 0, 0, 0, 0, 0), 0)]
theorem obX10_pledgeByDueDay_16 : dcd RX10 cX10_pledgeByDueDay 16 bX10_pledgeByDueDay_16 = true := by decide +kernel
def bX10_pledgeByDueDay_23 : List Op3 := [(23, .aload_n 2, 1, (2, 0, 0, 0, 0, 0), 0), (24, .getfield 142, 3, (5, 0, 0, 0, 0, 0), 0), (27, .ireturn, 1, (0, 0, 0, 0, 0, 0), 0)]
theorem obX10_pledgeByDueDay_23 : dcd RX10 cX10_pledgeByDueDay 23 bX10_pledgeByDueDay_23 = true := by decide +kernel
def bX10_interestOf_0 : List Op3 := [(0, .aload_n 0, 1, (0, 0, 0, 0, 0, 0), 0), (1, .getfield 12, 3, (1, 0, 2, 2, 0, 0), 0), (4, .aload_n 0, 1, (0, 0, 0, 0, 0, 0), 0), (5, .getfield 12, 3, (1, 0, 2, 2, 0, 0), 0), (8, .iload_n 1, 1, (1, 0, 0, 0, 0, 0), 0)]
theorem obX10_interestOf_0 : dcd RX10 cX10_interestOf 0 bX10_interestOf_0 = true := by decide +kernel
def bX10_interestOf_12 : List Op3 := [(12, .iconst 0, 1, (0, 0, 0, 0, 0, 0), nI 0)]
theorem obX10_interestOf_12 : dcd RX10 cX10_interestOf 12 bX10_interestOf_12 = true := by decide +kernel
def bX10_interestOf_16 : List Op3 := [(16, .ireturn, 1, (0, 0, 0, 0, 0, 0), 0)]
theorem obX10_interestOf_16 : dcd RX10 cX10_interestOf 16 bX10_interestOf_16 = true := by decide +kernel
def bX10_interestByWeeks_0 : List Op3 := [(0, .aload_n 0, 1, (0, 0, 0, 0, 0, 0), 0), (1, .getfield 12, 3, (1, 0, 2, 2, 0, 0), 0), (4, .aload_n 0, 1, (0, 0, 0, 0, 0, 0), 0), (5, .getfield 12, 3, (1, 0, 2, 2, 0, 0), 0), (8, .iload_n 1, 1, (1, 0, 0, 0, 0, 0), 0)]
theorem obX10_interestByWeeks_0 : dcd RX10 cX10_interestByWeeks 0 bX10_interestByWeeks_0 = true := by decide +kernel
def bX10_interestByWeeks_15 : List Op3 := [(15, .ireturn, 1, (0, 0, 0, 0, 0, 0), 0)]
theorem obX10_interestByWeeks_15 : dcd RX10 cX10_interestByWeeks 15 bX10_interestByWeeks_15 = true := by decide +kernel
def bX10_debtAfter_0 : List Op3 := [(0, .aload_n 0, 1, (0, 0, 0, 0, 0, 0), 0), (1, .getfield 12, 3, (1, 0, 2, 2, 0, 0), 0), (4, .iload_n 1, 1, (1, 0, 0, 0, 0, 0), 0)]
theorem obX10_debtAfter_0 : dcd RX10 cX10_debtAfter 0 bX10_debtAfter_0 = true := by decide +kernel
def bX10_debtAfter_8 : List Op3 := [(8, .astore_n 3, 1, (3, 0, 0, 0, 0, 0), 0), (9, .iload_n 2, 1, (2, 0, 0, 0, 0, 0), 0), (10, .ifCond .lt 9, 3, (19, 0, 0, 0, 0, 0), 0), (13, .iload_n 2, 1, (2, 0, 0, 0, 0, 0), 0), (14, .bipush 90, 2, (0, 0, 0, 0, 0, 0), nI 90), (16, .if_icmp .le 13, 3, (29, 0, 0, 0, 0, 0), 0)]
theorem obX10_debtAfter_8 : dcd RX10 cX10_debtAfter 8 bX10_debtAfter_8 = true := by decide +kernel
def bX10_debtAfter_22 : List Op3 := [(22, .dup, 1, (0, 0, 0, 0, 0, 0), 0)]
theorem obX10_debtAfter_22 : dcd RX10 cX10_debtAfter 22 bX10_debtAfter_22 = true := by decide +kernel
def bX10_debtAfter_29 : List Op3 := [(29, .aload_n 3, 1, (3, 0, 0, 0, 0, 0), 0), (30, .getfield 160, 3, (5, 3, 0, 0, 0, 0), 0), (33, .aload_n 0, 1, (0, 0, 0, 0, 0, 0), 0), (34, .getfield 12, 3, (1, 0, 2, 2, 0, 0), 0), (37, .aload_n 3, 1, (3, 0, 0, 0, 0, 0), 0), (38, .iload_n 2, 1, (2, 0, 0, 0, 0, 0), 0)]
theorem obX10_debtAfter_29 : dcd RX10 cX10_debtAfter 29 bX10_debtAfter_29 = true := by decide +kernel
def bX10_debtAfter_42 : List Op3 := [(42, .iadd, 1, (0, 0, 0, 0, 0, 0), 0), (43, .ireturn, 1, (0, 0, 0, 0, 0, 0), 0)]
theorem obX10_debtAfter_42 : dcd RX10 cX10_debtAfter 42 bX10_debtAfter_42 = true := by decide +kernel
def bX10_cheapestWeekday_0 : List Op3 := [(0, .aload_n 0, 1, (0, 0, 0, 0, 0, 0), 0), (1, .getfield 12, 3, (1, 0, 2, 2, 0, 0), 0), (4, .getfield 90, 3, (2, 0, 2, 3, 0, 0), 0)]
theorem obX10_cheapestWeekday_0 : dcd RX10 cX10_cheapestWeekday 0 bX10_cheapestWeekday_0 = true := by decide +kernel
def bX10_cheapestWeekday_10 : List Op3 := [(10, .ireturn, 1, (0, 0, 0, 0, 0, 0), 0)]
theorem obX10_cheapestWeekday_10 : dcd RX10 cX10_cheapestWeekday 10 bX10_cheapestWeekday_10 = true := by decide +kernel
def bX10_mostMinutes_0 : List Op3 := [(0, .iload_n 1, 1, (1, 0, 0, 0, 0, 0), 0), (1, .iload_n 2, 1, (2, 0, 0, 0, 0, 0), 0)]
theorem obX10_mostMinutes_0 : dcd RX10 cX10_mostMinutes 0 bX10_mostMinutes_0 = true := by decide +kernel
def bX10_mostMinutes_5 : List Op3 := [(5, .aload_n 0, 1, (0, 0, 0, 0, 0, 0), 0), (6, .getfield 33, 3, (1, 4, 2, 6, 0, 0), 0), (9, .aload_n 0, 1, (0, 0, 0, 0, 0, 0), 0), (10, .getfield 12, 3, (1, 0, 2, 2, 0, 0), 0), (13, .iload_n 1, 1, (1, 0, 0, 0, 0, 0), 0)]
theorem obX10_mostMinutes_5 : dcd RX10 cX10_mostMinutes 5 bX10_mostMinutes_5 = true := by decide +kernel
def bX10_mostMinutes_17 : List Op3 := [(17, .aload_n 0, 1, (0, 0, 0, 0, 0, 0), 0), (18, .getfield 33, 3, (1, 4, 2, 6, 0, 0), 0), (21, .iload_n 2, 1, (2, 0, 0, 0, 0, 0), 0)]
theorem obX10_mostMinutes_17 : dcd RX10 cX10_mostMinutes 17 bX10_mostMinutes_17 = true := by decide +kernel
def bX10_mostMinutes_25 : List Op3 := [(25, .ireturn, 1, (0, 0, 0, 0, 0, 0), 0)]
theorem obX10_mostMinutes_25 : dcd RX10 cX10_mostMinutes 25 bX10_mostMinutes_25 = true := by decide +kernel
def bX10_mostMinutesByTable_0 : List Op3 := [(0, .iload_n 1, 1, (1, 0, 0, 0, 0, 0), 0), (1, .iload_n 2, 1, (2, 0, 0, 0, 0, 0), 0)]
theorem obX10_mostMinutesByTable_0 : dcd RX10 cX10_mostMinutesByTable 0 bX10_mostMinutesByTable_0 = true := by decide +kernel
def bX10_mostMinutesByTable_5 : List Op3 := [(5, .aload_n 0, 1, (0, 0, 0, 0, 0, 0), 0), (6, .getfield 33, 3, (1, 4, 2, 6, 0, 0), 0), (9, .aload_n 0, 1, (0, 0, 0, 0, 0, 0), 0), (10, .getfield 12, 3, (1, 0, 2, 2, 0, 0), 0), (13, .iload_n 1, 1, (1, 0, 0, 0, 0, 0), 0)]
theorem obX10_mostMinutesByTable_5 : dcd RX10 cX10_mostMinutesByTable 5 bX10_mostMinutesByTable_5 = true := by decide +kernel
def bX10_mostMinutesByTable_17 : List Op3 := [(17, .aload_n 0, 1, (0, 0, 0, 0, 0, 0), 0), (18, .getfield 33, 3, (1, 4, 2, 6, 0, 0), 0), (21, .iload_n 2, 1, (2, 0, 0, 0, 0, 0), 0)]
theorem obX10_mostMinutesByTable_17 : dcd RX10 cX10_mostMinutesByTable 17 bX10_mostMinutesByTable_17 = true := by decide +kernel
def bX10_mostMinutesByTable_25 : List Op3 := [(25, .ireturn, 1, (0, 0, 0, 0, 0, 0), 0)]
theorem obX10_mostMinutesByTable_25 : dcd RX10 cX10_mostMinutesByTable 25 bX10_mostMinutesByTable_25 = true := by decide +kernel
def bX10_checkPurse_0 : List Op3 := [(0, .iload_n 0, 1, (0, 0, 0, 0, 0, 0), 0), (1, .ifCond .lt 20, 3, (21, 0, 0, 0, 0, 0), 0), (4, .iload_n 0, 1, (0, 0, 0, 0, 0, 0), 0), (5, .bipush 6, 2, (0, 0, 0, 0, 0, 0), nI 6), (7, .if_icmp .ge 14, 3, (21, 0, 0, 0, 0, 0), 0), (10, .iload_n 1, 1, (1, 0, 0, 0, 0, 0), 0), (11, .ifCond .lt 10, 3, (21, 0, 0, 0, 0, 0), 0), (14, .iload_n 1, 1, (1, 0, 0, 0, 0, 0), 0), (15, .sipush 9999, 3, (0, 0, 0, 0, 0, 0), nI 9999), (18, .if_icmp .le 13, 3, (31, 0, 0, 0, 0, 0), 0)]
theorem obX10_checkPurse_0 : dcd RX10 cX10_checkPurse 0 bX10_checkPurse_0 = true := by decide +kernel
def bX10_checkPurse_24 : List Op3 := [(24, .dup, 1, (0, 0, 0, 0, 0, 0), 0)]
theorem obX10_checkPurse_24 : dcd RX10 cX10_checkPurse 24 bX10_checkPurse_24 = true := by decide +kernel
def bX10_checkPurse_31 : List Op3 := [(31, .return_, 1, (0, 0, 0, 0, 0, 0), 0)]
theorem obX10_checkPurse_31 : dcd RX10 cX10_checkPurse 31 bX10_checkPurse_31 = true := by decide +kernel
def bX10_debtOf_0 : List Op3 := [(0, .iload_n 1, 1, (1, 0, 0, 0, 0, 0), 0), (1, .ifCond .lt 9, 3, (10, 0, 0, 0, 0, 0), 0), (4, .iload_n 1, 1, (1, 0, 0, 0, 0, 0), 0), (5, .bipush 6, 2, (0, 0, 0, 0, 0, 0), nI 6), (7, .if_icmp .lt 13, 3, (20, 0, 0, 0, 0, 0), 0)]
theorem obX10_debtOf_0 : dcd RX10 cX10_debtOf 0 bX10_debtOf_0 = true := by decide +kernel
def bX10_debtOf_13 : List Op3 := [(13, .dup, 1, (0, 0, 0, 0, 0, 0), 0)]
theorem obX10_debtOf_13 : dcd RX10 cX10_debtOf 13 bX10_debtOf_13 = true := by decide +kernel
def bX10_debtOf_20 : List Op3 := [(20, .aload_n 0, 1, (0, 0, 0, 0, 0, 0), 0), (21, .getfield 33, 3, (1, 4, 2, 6, 0, 0), 0), (24, .aload_n 0, 1, (0, 0, 0, 0, 0, 0), 0), (25, .getfield 12, 3, (1, 0, 2, 2, 0, 0), 0), (28, .iload_n 1, 1, (1, 0, 0, 0, 0, 0), 0)]
theorem obX10_debtOf_20 : dcd RX10 cX10_debtOf 20 bX10_debtOf_20 = true := by decide +kernel
def bX10_debtOf_32 : List Op3 := [(32, .aload_n 0, 1, (0, 0, 0, 0, 0, 0), 0), (33, .getfield 33, 3, (1, 4, 2, 6, 0, 0), 0)]
theorem obX10_debtOf_32 : dcd RX10 cX10_debtOf 32 bX10_debtOf_32 = true := by decide +kernel
def bX10_debtOf_39 : List Op3 := [(39, .ireturn, 1, (0, 0, 0, 0, 0, 0), 0)]
theorem obX10_debtOf_39 : dcd RX10 cX10_debtOf 39 bX10_debtOf_39 = true := by decide +kernel
def bX10_daysToForfeit_0 : List Op3 := [(0, .aload_n 0, 1, (0, 0, 0, 0, 0, 0), 0), (1, .getfield 12, 3, (1, 0, 2, 2, 0, 0), 0), (4, .iconst 0, 1, (0, 0, 0, 0, 0, 0), nI 0)]
theorem obX10_daysToForfeit_0 : dcd RX10 cX10_daysToForfeit 0 bX10_daysToForfeit_0 = true := by decide +kernel
def bX10_daysToForfeit_8 : List Op3 := [(8, .astore_n 1, 1, (1, 0, 0, 0, 0, 0), 0), (9, .aload_n 1, 1, (1, 0, 0, 0, 0, 0), 0), (10, .ifnonnull 13, 3, (23, 0, 0, 0, 0, 0), 0)]
theorem obX10_daysToForfeit_8 : dcd RX10 cX10_daysToForfeit 8 bX10_daysToForfeit_8 = true := by decide +kernel
def bX10_daysToForfeit_16 : List Op3 := [(16, .dup, 1, (0, 0, 0, 0, 0, 0), 0)]
theorem obX10_daysToForfeit_16 : dcd RX10 cX10_daysToForfeit 16 bX10_daysToForfeit_16 = true := by decide +kernel
def bX10_daysToForfeit_23 : List Op3 := [(23, .aload_n 1, 1, (1, 0, 0, 0, 0, 0), 0), (24, .getfield 163, 3, (5, 5, 0, 0, 0, 0), 0), (27, .iconst 1, 1, (0, 0, 0, 0, 0, 0), nI 1), (28, .iadd, 1, (0, 0, 0, 0, 0, 0), 0), (29, .aload_n 0, 1, (0, 0, 0, 0, 0, 0), 0), (30, .getfield 12, 3, (1, 0, 2, 2, 0, 0), 0), (33, .getfield 90, 3, (2, 0, 2, 3, 0, 0), 0), (36, .getfield 99, 3, (3, 0, 0, 0, 0, 0), 0), (39, .isub, 1, (0, 0, 0, 0, 0, 0), 0), (40, .ireturn, 1, (0, 0, 0, 0, 0, 0), 0)]
theorem obX10_daysToForfeit_23 : dcd RX10 cX10_daysToForfeit 23 bX10_daysToForfeit_23 = true := by decide +kernel
def bX10_bid_0 : List Op3 := [(0, .aload_n 0, 1, (0, 0, 0, 0, 0, 0), 0), (1, .getfield 26, 3, (1, 3, 2, 8, 0, 0), 0), (4, .aload_n 0, 1, (0, 0, 0, 0, 0, 0), 0), (5, .getfield 12, 3, (1, 0, 2, 2, 0, 0), 0)]
theorem obX10_bid_0 : dcd RX10 cX10_bid 0 bX10_bid_0 = true := by decide +kernel
def bX10_bid_11 : List Op3 := [(11, .aload_n 0, 1, (0, 0, 0, 0, 0, 0), 0), (12, .getfield 12, 3, (1, 0, 2, 2, 0, 0), 0), (15, .iload_n 1, 1, (1, 0, 0, 0, 0, 0), 0), (16, .iload_n 2, 1, (2, 0, 0, 0, 0, 0), 0), (17, .iload_n 3, 1, (3, 0, 0, 0, 0, 0), 0)]
theorem obX10_bid_11 : dcd RX10 cX10_bid 11 bX10_bid_11 = true := by decide +kernel
def bX10_bid_21 : List Op3 := [(21, .istore 4, 2, (4, 0, 0, 0, 0, 0), 0), (23, .aload_n 0, 1, (0, 0, 0, 0, 0, 0), 0), (24, .getfield 26, 3, (1, 3, 2, 8, 0, 0), 0)]
theorem obX10_bid_21 : dcd RX10 cX10_bid 21 bX10_bid_21 = true := by decide +kernel
def bX10_bid_30 : List Op3 := [(30, .iload 4, 2, (4, 0, 0, 0, 0, 0), 0), (32, .ireturn, 1, (0, 0, 0, 0, 0, 0), 0)]
theorem obX10_bid_30 : dcd RX10 cX10_bid 30 bX10_bid_30 = true := by decide +kernel
def bX10_sell_0 : List Op3 := [(0, .aload_n 0, 1, (0, 0, 0, 0, 0, 0), 0), (1, .getfield 26, 3, (1, 3, 2, 8, 0, 0), 0), (4, .aload_n 0, 1, (0, 0, 0, 0, 0, 0), 0), (5, .getfield 12, 3, (1, 0, 2, 2, 0, 0), 0)]
theorem obX10_sell_0 : dcd RX10 cX10_sell 0 bX10_sell_0 = true := by decide +kernel
def bX10_sell_11 : List Op3 := [(11, .aload_n 0, 1, (0, 0, 0, 0, 0, 0), 0), (12, .getfield 12, 3, (1, 0, 2, 2, 0, 0), 0), (15, .iload_n 1, 1, (1, 0, 0, 0, 0, 0), 0)]
theorem obX10_sell_11 : dcd RX10 cX10_sell 11 bX10_sell_11 = true := by decide +kernel
def bX10_sell_19 : List Op3 := [(19, .istore_n 2, 1, (2, 0, 0, 0, 0, 0), 0), (20, .aload_n 0, 1, (0, 0, 0, 0, 0, 0), 0), (21, .getfield 26, 3, (1, 3, 2, 8, 0, 0), 0)]
theorem obX10_sell_19 : dcd RX10 cX10_sell 19 bX10_sell_19 = true := by decide +kernel
def bX10_sell_27 : List Op3 := [(27, .iload_n 2, 1, (2, 0, 0, 0, 0, 0), 0), (28, .ireturn, 1, (0, 0, 0, 0, 0, 0), 0)]
theorem obX10_sell_27 : dcd RX10 cX10_sell 27 bX10_sell_27 = true := by decide +kernel
def bX10_sellEvening_0 : List Op3 := [(0, .aload_n 0, 1, (0, 0, 0, 0, 0, 0), 0), (1, .getfield 26, 3, (1, 3, 2, 8, 0, 0), 0), (4, .aload_n 0, 1, (0, 0, 0, 0, 0, 0), 0), (5, .getfield 12, 3, (1, 0, 2, 2, 0, 0), 0)]
theorem obX10_sellEvening_0 : dcd RX10 cX10_sellEvening 0 bX10_sellEvening_0 = true := by decide +kernel
def bX10_sellEvening_11 : List Op3 := [(11, .aload_n 0, 1, (0, 0, 0, 0, 0, 0), 0), (12, .getfield 12, 3, (1, 0, 2, 2, 0, 0), 0), (15, .aload_n 0, 1, (0, 0, 0, 0, 0, 0), 0), (16, .getfield 40, 3, (1, 5, 2, 7, 0, 0), 0)]
theorem obX10_sellEvening_11 : dcd RX10 cX10_sellEvening 11 bX10_sellEvening_11 = true := by decide +kernel
def bX10_sellEvening_22 : List Op3 := [(22, .istore_n 1, 1, (1, 0, 0, 0, 0, 0), 0), (23, .aload_n 0, 1, (0, 0, 0, 0, 0, 0), 0), (24, .getfield 26, 3, (1, 3, 2, 8, 0, 0), 0)]
theorem obX10_sellEvening_22 : dcd RX10 cX10_sellEvening 22 bX10_sellEvening_22 = true := by decide +kernel
def bX10_sellEvening_30 : List Op3 := [(30, .iload_n 1, 1, (1, 0, 0, 0, 0, 0), 0), (31, .ireturn, 1, (0, 0, 0, 0, 0, 0), 0)]
theorem obX10_sellEvening_30 : dcd RX10 cX10_sellEvening 30 bX10_sellEvening_30 = true := by decide +kernel
def bX10_lotCount_0 : List Op3 := [(0, .aload_n 0, 1, (0, 0, 0, 0, 0, 0), 0), (1, .getfield 12, 3, (1, 0, 2, 2, 0, 0), 0), (4, .iconst 1, 1, (0, 0, 0, 0, 0, 0), nI 1)]
theorem obX10_lotCount_0 : dcd RX10 cX10_lotCount 0 bX10_lotCount_0 = true := by decide +kernel
def bX10_lotCount_8 : List Op3 := [(8, .ireturn, 1, (0, 0, 0, 0, 0, 0), 0)]
theorem obX10_lotCount_8 : dcd RX10 cX10_lotCount 8 bX10_lotCount_8 = true := by decide +kernel
def bX10_lotAt_0 : List Op3 := [(0, .aload_n 0, 1, (0, 0, 0, 0, 0, 0), 0), (1, .getfield 12, 3, (1, 0, 2, 2, 0, 0), 0), (4, .iconst 1, 1, (0, 0, 0, 0, 0, 0), nI 1), (5, .iload_n 1, 1, (1, 0, 0, 0, 0, 0), 0)]
theorem obX10_lotAt_0 : dcd RX10 cX10_lotAt 0 bX10_lotAt_0 = true := by decide +kernel
def bX10_lotAt_9 : List Op3 := [(9, .astore_n 2, 1, (2, 0, 0, 0, 0, 0), 0), (10, .aload_n 2, 1, (2, 0, 0, 0, 0, 0), 0), (11, .ifnonnull 13, 3, (24, 0, 0, 0, 0, 0), 0)]
theorem obX10_lotAt_9 : dcd RX10 cX10_lotAt 9 bX10_lotAt_9 = true := by decide +kernel
def bX10_lotAt_17 : List Op3 := [(17, .dup, 1, (0, 0, 0, 0, 0, 0), 0)]
theorem obX10_lotAt_17 : dcd RX10 cX10_lotAt 17 bX10_lotAt_17 = true := by decide +kernel
def bX10_lotAt_24 : List Op3 := [(24, .aload_n 2, 1, (2, 0, 0, 0, 0, 0), 0), (25, .getfield 142, 3, (5, 0, 0, 0, 0, 0), 0), (28, .ireturn, 1, (0, 0, 0, 0, 0, 0), 0)]
theorem obX10_lotAt_24 : dcd RX10 cX10_lotAt 24 bX10_lotAt_24 = true := by decide +kernel
def bX10_bidOf_0 : List Op3 := [(0, .aload_n 0, 1, (0, 0, 0, 0, 0, 0), 0), (1, .getfield 12, 3, (1, 0, 2, 2, 0, 0), 0), (4, .iload_n 1, 1, (1, 0, 0, 0, 0, 0), 0)]
theorem obX10_bidOf_0 : dcd RX10 cX10_bidOf 0 bX10_bidOf_0 = true := by decide +kernel
def bX10_bidOf_8 : List Op3 := [(8, .astore_n 3, 1, (3, 0, 0, 0, 0, 0), 0), (9, .iload_n 2, 1, (2, 0, 0, 0, 0, 0), 0), (10, .ifCond .lt 8, 3, (18, 0, 0, 0, 0, 0), 0), (13, .iload_n 2, 1, (2, 0, 0, 0, 0, 0), 0), (14, .iconst 5, 1, (0, 0, 0, 0, 0, 0), nI 5), (15, .if_icmp .lt 13, 3, (28, 0, 0, 0, 0, 0), 0)]
theorem obX10_bidOf_8 : dcd RX10 cX10_bidOf 8 bX10_bidOf_8 = true := by decide +kernel
def bX10_bidOf_21 : List Op3 := [(21, .dup, 1, (0, 0, 0, 0, 0, 0), 0)]
theorem obX10_bidOf_21 : dcd RX10 cX10_bidOf 21 bX10_bidOf_21 = true := by decide +kernel
def bX10_bidOf_28 : List Op3 := [(28, .aload_n 3, 1, (3, 0, 0, 0, 0, 0), 0), (29, .getfield 227, 3, (5, 7, 2, 12, 0, 0), 0), (32, .iload_n 2, 1, (2, 0, 0, 0, 0, 0), 0), (33, .iaload, 1, (0, 0, 0, 0, 0, 0), 0), (34, .ireturn, 1, (0, 0, 0, 0, 0, 0), 0)]
theorem obX10_bidOf_28 : dcd RX10 cX10_bidOf 28 bX10_bidOf_28 = true := by decide +kernel
def bX10_buyerOf_0 : List Op3 := [(0, .aload_n 0, 1, (0, 0, 0, 0, 0, 0), 0), (1, .getfield 12, 3, (1, 0, 2, 2, 0, 0), 0), (4, .iload_n 1, 1, (1, 0, 0, 0, 0, 0), 0)]
theorem obX10_buyerOf_0 : dcd RX10 cX10_buyerOf 0 bX10_buyerOf_0 = true := by decide +kernel
def bX10_buyerOf_8 : List Op3 := [(8, .astore_n 2, 1, (2, 0, 0, 0, 0, 0), 0), (9, .aload_n 2, 1, (2, 0, 0, 0, 0, 0), 0)]
theorem obX10_buyerOf_8 : dcd RX10 cX10_buyerOf 8 bX10_buyerOf_8 = true := by decide +kernel
def bX10_buyerOf_13 : List Op3 := [(13, .istore_n 3, 1, (3, 0, 0, 0, 0, 0), 0), (14, .iload_n 3, 1, (3, 0, 0, 0, 0, 0), 0), (15, .iconst (-1), 1, (0, 0, 0, 0, 0, 0), -1), (16, .if_icmp .ne 13, 3, (29, 0, 0, 0, 0, 0), 0)]
theorem obX10_buyerOf_13 : dcd RX10 cX10_buyerOf 13 bX10_buyerOf_13 = true := by decide +kernel
def bX10_buyerOf_22 : List Op3 := [(22, .dup, 1, (0, 0, 0, 0, 0, 0), 0)]
theorem obX10_buyerOf_22 : dcd RX10 cX10_buyerOf 22 bX10_buyerOf_22 = true := by decide +kernel
def bX10_buyerOf_29 : List Op3 := [(29, .iload_n 3, 1, (3, 0, 0, 0, 0, 0), 0), (30, .ireturn, 1, (0, 0, 0, 0, 0, 0), 0)]
theorem obX10_buyerOf_29 : dcd RX10 cX10_buyerOf 29 bX10_buyerOf_29 = true := by decide +kernel
def bX10_priceOf_0 : List Op3 := [(0, .aload_n 0, 1, (0, 0, 0, 0, 0, 0), 0), (1, .getfield 12, 3, (1, 0, 2, 2, 0, 0), 0), (4, .iload_n 1, 1, (1, 0, 0, 0, 0, 0), 0)]
theorem obX10_priceOf_0 : dcd RX10 cX10_priceOf 0 bX10_priceOf_0 = true := by decide +kernel
def bX10_priceOf_8 : List Op3 := [(8, .astore_n 2, 1, (2, 0, 0, 0, 0, 0), 0), (9, .aload_n 2, 1, (2, 0, 0, 0, 0, 0), 0)]
theorem obX10_priceOf_8 : dcd RX10 cX10_priceOf 8 bX10_priceOf_8 = true := by decide +kernel
def bX10_priceOf_13 : List Op3 := [(13, .istore_n 3, 1, (3, 0, 0, 0, 0, 0), 0), (14, .iload_n 3, 1, (3, 0, 0, 0, 0, 0), 0), (15, .iconst (-1), 1, (0, 0, 0, 0, 0, 0), -1), (16, .if_icmp .ne 13, 3, (29, 0, 0, 0, 0, 0), 0)]
theorem obX10_priceOf_13 : dcd RX10 cX10_priceOf 13 bX10_priceOf_13 = true := by decide +kernel
def bX10_priceOf_22 : List Op3 := [(22, .dup, 1, (0, 0, 0, 0, 0, 0), 0)]
theorem obX10_priceOf_22 : dcd RX10 cX10_priceOf 22 bX10_priceOf_22 = true := by decide +kernel
def bX10_priceOf_29 : List Op3 := [(29, .aload_n 2, 1, (2, 0, 0, 0, 0, 0), 0), (30, .iload_n 3, 1, (3, 0, 0, 0, 0, 0), 0)]
theorem obX10_priceOf_29 : dcd RX10 cX10_priceOf 29 bX10_priceOf_29 = true := by decide +kernel
def bX10_priceOf_34 : List Op3 := [(34, .ireturn, 1, (0, 0, 0, 0, 0, 0), 0)]
theorem obX10_priceOf_34 : dcd RX10 cX10_priceOf 34 bX10_priceOf_34 = true := by decide +kernel
def bX10_bestEvening_0 : List Op3 := [(0, .aload_n 0, 1, (0, 0, 0, 0, 0, 0), 0), (1, .getfield 40, 3, (1, 5, 2, 7, 0, 0), 0), (4, .aload_n 0, 1, (0, 0, 0, 0, 0, 0), 0), (5, .getfield 12, 3, (1, 0, 2, 2, 0, 0), 0)]
theorem obX10_bestEvening_0 : dcd RX10 cX10_bestEvening 0 bX10_bestEvening_0 = true := by decide +kernel
def bX10_bestEvening_11 : List Op3 := [(11, .ireturn, 1, (0, 0, 0, 0, 0, 0), 0)]
theorem obX10_bestEvening_11 : dcd RX10 cX10_bestEvening 11 bX10_bestEvening_11 = true := by decide +kernel
def bX10_bestEveningByTrying_0 : List Op3 := [(0, .aload_n 0, 1, (0, 0, 0, 0, 0, 0), 0), (1, .getfield 40, 3, (1, 5, 2, 7, 0, 0), 0), (4, .aload_n 0, 1, (0, 0, 0, 0, 0, 0), 0), (5, .getfield 12, 3, (1, 0, 2, 2, 0, 0), 0)]
theorem obX10_bestEveningByTrying_0 : dcd RX10 cX10_bestEveningByTrying 0 bX10_bestEveningByTrying_0 = true := by decide +kernel
def bX10_bestEveningByTrying_11 : List Op3 := [(11, .ireturn, 1, (0, 0, 0, 0, 0, 0), 0)]
theorem obX10_bestEveningByTrying_11 : dcd RX10 cX10_bestEveningByTrying 11 bX10_bestEveningByTrying_11 = true := by decide +kernel
def bX10_eveningBuyerOf_0 : List Op3 := [(0, .aload_n 0, 1, (0, 0, 0, 0, 0, 0), 0), (1, .getfield 12, 3, (1, 0, 2, 2, 0, 0), 0), (4, .iload_n 1, 1, (1, 0, 0, 0, 0, 0), 0)]
theorem obX10_eveningBuyerOf_0 : dcd RX10 cX10_eveningBuyerOf 0 bX10_eveningBuyerOf_0 = true := by decide +kernel
def bX10_eveningBuyerOf_8 : List Op3 := [(8, .astore_n 2, 1, (2, 0, 0, 0, 0, 0), 0), (9, .aload_n 0, 1, (0, 0, 0, 0, 0, 0), 0), (10, .getfield 40, 3, (1, 5, 2, 7, 0, 0), 0), (13, .aload_n 0, 1, (0, 0, 0, 0, 0, 0), 0), (14, .getfield 12, 3, (1, 0, 2, 2, 0, 0), 0)]
theorem obX10_eveningBuyerOf_8 : dcd RX10 cX10_eveningBuyerOf 8 bX10_eveningBuyerOf_8 = true := by decide +kernel
def bX10_eveningBuyerOf_20 : List Op3 := [(20, .pop, 1, (0, 0, 0, 0, 0, 0), 0), (21, .aload_n 0, 1, (0, 0, 0, 0, 0, 0), 0), (22, .getfield 40, 3, (1, 5, 2, 7, 0, 0), 0), (25, .aload_n 0, 1, (0, 0, 0, 0, 0, 0), 0), (26, .getfield 12, 3, (1, 0, 2, 2, 0, 0), 0), (29, .aload_n 2, 1, (2, 0, 0, 0, 0, 0), 0), (30, .getfield 142, 3, (5, 0, 0, 0, 0, 0), 0)]
theorem obX10_eveningBuyerOf_20 : dcd RX10 cX10_eveningBuyerOf 20 bX10_eveningBuyerOf_20 = true := by decide +kernel
def bX10_eveningBuyerOf_39 : List Op3 := [(39, .istore_n 3, 1, (3, 0, 0, 0, 0, 0), 0), (40, .iload_n 3, 1, (3, 0, 0, 0, 0, 0), 0), (41, .iconst (-1), 1, (0, 0, 0, 0, 0, 0), -1), (42, .if_icmp .ne 13, 3, (55, 0, 0, 0, 0, 0), 0)]
theorem obX10_eveningBuyerOf_39 : dcd RX10 cX10_eveningBuyerOf 39 bX10_eveningBuyerOf_39 = true := by decide +kernel
def bX10_eveningBuyerOf_48 : List Op3 := [(48, .dup, 1, (0, 0, 0, 0, 0, 0), 0)]
theorem obX10_eveningBuyerOf_48 : dcd RX10 cX10_eveningBuyerOf 48 bX10_eveningBuyerOf_48 = true := by decide +kernel
def bX10_eveningBuyerOf_55 : List Op3 := [(55, .iload_n 3, 1, (3, 0, 0, 0, 0, 0), 0), (56, .ireturn, 1, (0, 0, 0, 0, 0, 0), 0)]
theorem obX10_eveningBuyerOf_55 : dcd RX10 cX10_eveningBuyerOf 55 bX10_eveningBuyerOf_55 = true := by decide +kernel
def bX10_redeemedMinutes_0 : List Op3 := [(0, .aload_n 0, 1, (0, 0, 0, 0, 0, 0), 0), (1, .getfield 12, 3, (1, 0, 2, 2, 0, 0), 0), (4, .getfield 116, 3, (2, 1, 2, 4, 0, 0), 0), (7, .getfield 256, 3, (4, 6, 0, 0, 0, 0), 0), (10, .ireturn, 1, (0, 0, 0, 0, 0, 0), 0)]
theorem obX10_redeemedMinutes_0 : dcd RX10 cX10_redeemedMinutes 0 bX10_redeemedMinutes_0 = true := by decide +kernel
def bX10_forfeitedMinutes_0 : List Op3 := [(0, .aload_n 0, 1, (0, 0, 0, 0, 0, 0), 0), (1, .getfield 12, 3, (1, 0, 2, 2, 0, 0), 0), (4, .getfield 116, 3, (2, 1, 2, 4, 0, 0), 0), (7, .getfield 259, 3, (4, 7, 0, 0, 0, 0), 0), (10, .ireturn, 1, (0, 0, 0, 0, 0, 0), 0)]
theorem obX10_forfeitedMinutes_0 : dcd RX10 cX10_forfeitedMinutes 0 bX10_forfeitedMinutes_0 = true := by decide +kernel
def bX10_soldMinutes_0 : List Op3 := [(0, .aload_n 0, 1, (0, 0, 0, 0, 0, 0), 0), (1, .getfield 12, 3, (1, 0, 2, 2, 0, 0), 0), (4, .getfield 116, 3, (2, 1, 2, 4, 0, 0), 0), (7, .getfield 262, 3, (4, 8, 0, 0, 0, 0), 0), (10, .ireturn, 1, (0, 0, 0, 0, 0, 0), 0)]
theorem obX10_soldMinutes_0 : dcd RX10 cX10_soldMinutes 0 bX10_soldMinutes_0 = true := by decide +kernel
def bX10_pledgedMinutes_0 : List Op3 := [(0, .aload_n 0, 1, (0, 0, 0, 0, 0, 0), 0), (1, .getfield 12, 3, (1, 0, 2, 2, 0, 0), 0), (4, .getfield 116, 3, (2, 1, 2, 4, 0, 0), 0), (7, .getfield 265, 3, (4, 5, 1, 0, 0, 0), 0), (10, .lreturn, 1, (0, 0, 0, 0, 0, 0), 0)]
theorem obX10_pledgedMinutes_0 : dcd RX10 cX10_pledgedMinutes 0 bX10_pledgedMinutes_0 = true := by decide +kernel
def bX10_meanLoan_0 : List Op3 := [(0, .aload_n 0, 1, (0, 0, 0, 0, 0, 0), 0), (1, .getfield 12, 3, (1, 0, 2, 2, 0, 0), 0), (4, .iconst 0, 1, (0, 0, 0, 0, 0, 0), nI 0)]
theorem obX10_meanLoan_0 : dcd RX10 cX10_meanLoan 0 bX10_meanLoan_0 = true := by decide +kernel
def bX10_meanLoan_8 : List Op3 := [(8, .istore_n 1, 1, (1, 0, 0, 0, 0, 0), 0), (9, .iload_n 1, 1, (1, 0, 0, 0, 0, 0), 0), (10, .ifCond .ne 13, 3, (23, 0, 0, 0, 0, 0), 0)]
theorem obX10_meanLoan_8 : dcd RX10 cX10_meanLoan 8 bX10_meanLoan_8 = true := by decide +kernel
def bX10_meanLoan_16 : List Op3 := [(16, .dup, 1, (0, 0, 0, 0, 0, 0), 0)]
theorem obX10_meanLoan_16 : dcd RX10 cX10_meanLoan 16 bX10_meanLoan_16 = true := by decide +kernel
def bX10_meanLoan_23 : List Op3 := [(23, .aload_n 0, 1, (0, 0, 0, 0, 0, 0), 0), (24, .getfield 12, 3, (1, 0, 2, 2, 0, 0), 0)]
theorem obX10_meanLoan_23 : dcd RX10 cX10_meanLoan 23 bX10_meanLoan_23 = true := by decide +kernel
def bX10_meanLoan_30 : List Op3 := [(30, .i2d, 1, (0, 0, 0, 0, 0, 0), 0), (31, .iload_n 1, 1, (1, 0, 0, 0, 0, 0), 0), (32, .i2d, 1, (0, 0, 0, 0, 0, 0), 0), (33, .ddiv, 1, (0, 0, 0, 0, 0, 0), 0), (34, .dreturn, 1, (0, 0, 0, 0, 0, 0), 0)]
theorem obX10_meanLoan_30 : dcd RX10 cX10_meanLoan 30 bX10_meanLoan_30 = true := by decide +kernel
def bX10_isConsistent_0 : List Op3 := [(0, .aload_n 0, 1, (0, 0, 0, 0, 0, 0), 0), (1, .getfield 12, 3, (1, 0, 2, 2, 0, 0), 0), (4, .getfield 116, 3, (2, 1, 2, 4, 0, 0), 0), (7, .astore_n 1, 1, (1, 0, 0, 0, 0, 0), 0), (8, .aload_n 0, 1, (0, 0, 0, 0, 0, 0), 0), (9, .getfield 12, 3, (1, 0, 2, 2, 0, 0), 0)]
theorem obX10_isConsistent_0 : dcd RX10 cX10_isConsistent 0 bX10_isConsistent_0 = true := by decide +kernel
def bX10_isConsistent_15 : List Op3 := [(15, .i2l, 1, (0, 0, 0, 0, 0, 0), 0), (16, .aload_n 1, 1, (1, 0, 0, 0, 0, 0), 0), (17, .getfield 256, 3, (4, 6, 0, 0, 0, 0), 0), (20, .i2l, 1, (0, 0, 0, 0, 0, 0), 0), (21, .ladd, 1, (0, 0, 0, 0, 0, 0), 0), (22, .aload_n 1, 1, (1, 0, 0, 0, 0, 0), 0), (23, .getfield 262, 3, (4, 8, 0, 0, 0, 0), 0), (26, .i2l, 1, (0, 0, 0, 0, 0, 0), 0), (27, .ladd, 1, (0, 0, 0, 0, 0, 0), 0), (28, .lstore_n 2, 1, (2, 0, 0, 0, 0, 0), 0), (29, .aload_n 1, 1, (1, 0, 0, 0, 0, 0), 0), (30, .getfield 265, 3, (4, 5, 1, 0, 0, 0), 0), (33, .lload_n 2, 1, (2, 0, 0, 0, 0, 0), 0), (34, .lcmp, 1, (0, 0, 0, 0, 0, 0), 0), (35, .ifCond .ne 28, 3, (63, 0, 0, 0, 0, 0), 0), (38, .aload_n 1, 1, (1, 0, 0, 0, 0, 0), 0), (39, .getfield 120, 3, (4, 0, 0, 0, 0, 0), 0), (42, .aload_n 1, 1, (1, 0, 0, 0, 0, 0), 0)]
theorem obX10_isConsistent_15 : dcd RX10 cX10_isConsistent 15 bX10_isConsistent_15 = true := by decide +kernel
def bX10_isConsistent_46 : List Op3 := [(46, .if_icmp .ne 17, 3, (63, 0, 0, 0, 0, 0), 0), (49, .aload_n 0, 1, (0, 0, 0, 0, 0, 0), 0), (50, .getfield 12, 3, (1, 0, 2, 2, 0, 0), 0)]
theorem obX10_isConsistent_46 : dcd RX10 cX10_isConsistent 46 bX10_isConsistent_46 = true := by decide +kernel
def bX10_isConsistent_56 : List Op3 := [(56, .ifCond .eq 7, 3, (63, 0, 0, 0, 0, 0), 0), (59, .iconst 1, 1, (0, 0, 0, 0, 0, 0), nI 1), (60, .goto 4, 3, (64, 0, 0, 0, 0, 0), 0)]
theorem obX10_isConsistent_56 : dcd RX10 cX10_isConsistent 56 bX10_isConsistent_56 = true := by decide +kernel
def bX10_isConsistent_63 : List Op3 := [(63, .iconst 0, 1, (0, 0, 0, 0, 0, 0), nI 0), (64, .ireturn, 1, (0, 0, 0, 0, 0, 0), 0)]
theorem obX10_isConsistent_63 : dcd RX10 cX10_isConsistent 63 bX10_isConsistent_63 = true := by decide +kernel
def bX10_isConsistent_64 : List Op3 := [(64, .ireturn, 1, (0, 0, 0, 0, 0, 0), 0)]
theorem obX10_isConsistent_64 : dcd RX10 cX10_isConsistent 64 bX10_isConsistent_64 = true := by decide +kernel
def bX10_writeSlip_0 : List Op3 := [(0, .aload_n 0, 1, (0, 0, 0, 0, 0, 0), 0), (1, .getfield 12, 3, (1, 0, 2, 2, 0, 0), 0), (4, .iload_n 1, 1, (1, 0, 0, 0, 0, 0), 0)]
theorem obX10_writeSlip_0 : dcd RX10 cX10_writeSlip 0 bX10_writeSlip_0 = true := by decide +kernel
def bX10_writeSlip_8 : List Op3 := [(8, .astore_n 2, 1, (2, 0, 0, 0, 0, 0), 0), (9, .aload_n 0, 1, (0, 0, 0, 0, 0, 0), 0), (10, .getfield 54, 3, (1, 7, 2, 50, 0, 0), 0), (13, .iconst 0, 1, (0, 0, 0, 0, 0, 0), nI 0)]
theorem obX10_writeSlip_8 : dcd RX10 cX10_writeSlip 8 bX10_writeSlip_8 = true := by decide +kernel
def bX10_writeSlip_17 : List Op3 := [(17, .aload_n 0, 1, (0, 0, 0, 0, 0, 0), 0), (18, .getfield 54, 3, (1, 7, 2, 50, 0, 0), 0), (21, .bipush 35, 2, (0, 0, 0, 0, 0, 0), nI 35)]
theorem obX10_writeSlip_17 : dcd RX10 cX10_writeSlip 17 bX10_writeSlip_17 = true := by decide +kernel
def bX10_writeSlip_26 : List Op3 := [(26, .aload_n 2, 1, (2, 0, 0, 0, 0, 0), 0), (27, .getfield 142, 3, (5, 0, 0, 0, 0, 0), 0)]
theorem obX10_writeSlip_26 : dcd RX10 cX10_writeSlip 26 bX10_writeSlip_26 = true := by decide +kernel
def bX10_writeSlip_33 : List Op3 := [(33, .pop, 1, (0, 0, 0, 0, 0, 0), 0), (34, .aload_n 0, 1, (0, 0, 0, 0, 0, 0), 0), (35, .getfield 54, 3, (1, 7, 2, 50, 0, 0), 0), (38, .bipush 32, 2, (0, 0, 0, 0, 0, 0), nI 32)]
theorem obX10_writeSlip_33 : dcd RX10 cX10_writeSlip 33 bX10_writeSlip_33 = true := by decide +kernel
def bX10_writeSlip_43 : List Op3 := [(43, .aload_n 2, 1, (2, 0, 0, 0, 0, 0), 0), (44, .getfield 157, 3, (5, 2, 0, 0, 0, 0), 0)]
theorem obX10_writeSlip_43 : dcd RX10 cX10_writeSlip 43 bX10_writeSlip_43 = true := by decide +kernel
def bX10_writeSlip_56 : List Op3 := [(56, .pop, 1, (0, 0, 0, 0, 0, 0), 0), (57, .aload_n 0, 1, (0, 0, 0, 0, 0, 0), 0), (58, .getfield 54, 3, (1, 7, 2, 50, 0, 0), 0), (61, .bipush 32, 2, (0, 0, 0, 0, 0, 0), nI 32)]
theorem obX10_writeSlip_56 : dcd RX10 cX10_writeSlip 56 bX10_writeSlip_56 = true := by decide +kernel
def bX10_writeSlip_66 : List Op3 := [(66, .aload_n 2, 1, (2, 0, 0, 0, 0, 0), 0), (67, .getfield 160, 3, (5, 3, 0, 0, 0, 0), 0)]
theorem obX10_writeSlip_66 : dcd RX10 cX10_writeSlip 66 bX10_writeSlip_66 = true := by decide +kernel
def bX10_writeSlip_73 : List Op3 := [(73, .bipush 99, 2, (0, 0, 0, 0, 0, 0), nI 99)]
theorem obX10_writeSlip_73 : dcd RX10 cX10_writeSlip 73 bX10_writeSlip_73 = true := by decide +kernel
def bX10_writeSlip_78 : List Op3 := [(78, .pop, 1, (0, 0, 0, 0, 0, 0), 0), (79, .aload_n 2, 1, (2, 0, 0, 0, 0, 0), 0), (80, .getfield 298, 3, (5, 6, 0, 0, 0, 0), 0), (83, .ifCond .eq 11, 3, (94, 0, 0, 0, 0, 0), 0), (86, .aload_n 0, 1, (0, 0, 0, 0, 0, 0), 0), (87, .aload_n 2, 1, (2, 0, 0, 0, 0, 0), 0)]
theorem obX10_writeSlip_78 : dcd RX10 cX10_writeSlip 78 bX10_writeSlip_78 = true := by decide +kernel
def bX10_writeSlip_91 : List Op3 := [(91, .goto 8, 3, (99, 0, 0, 0, 0, 0), 0)]
theorem obX10_writeSlip_91 : dcd RX10 cX10_writeSlip 91 bX10_writeSlip_91 = true := by decide +kernel
def bX10_writeSlip_94 : List Op3 := [(94, .aload_n 0, 1, (0, 0, 0, 0, 0, 0), 0), (95, .aload_n 2, 1, (2, 0, 0, 0, 0, 0), 0)]
theorem obX10_writeSlip_94 : dcd RX10 cX10_writeSlip 94 bX10_writeSlip_94 = true := by decide +kernel
def bX10_writeSlip_99 : List Op3 := [(99, .aload_n 0, 1, (0, 0, 0, 0, 0, 0), 0), (100, .getfield 54, 3, (1, 7, 2, 50, 0, 0), 0)]
theorem obX10_writeSlip_99 : dcd RX10 cX10_writeSlip 99 bX10_writeSlip_99 = true := by decide +kernel
def bX10_writeSlip_106 : List Op3 := [(106, .ireturn, 1, (0, 0, 0, 0, 0, 0), 0)]
theorem obX10_writeSlip_106 : dcd RX10 cX10_writeSlip 106 bX10_writeSlip_106 = true := by decide +kernel
def bX10_appendDueDay_0 : List Op3 := [(0, .aload_n 0, 1, (0, 0, 0, 0, 0, 0), 0), (1, .getfield 54, 3, (1, 7, 2, 50, 0, 0), 0)]
theorem obX10_appendDueDay_0 : dcd RX10 cX10_appendDueDay 0 bX10_appendDueDay_0 = true := by decide +kernel
def bX10_appendDueDay_10 : List Op3 := [(10, .aload_n 1, 1, (1, 0, 0, 0, 0, 0), 0), (11, .getfield 163, 3, (5, 5, 0, 0, 0, 0), 0)]
theorem obX10_appendDueDay_10 : dcd RX10 cX10_appendDueDay 10 bX10_appendDueDay_10 = true := by decide +kernel
def bX10_appendDueDay_17 : List Op3 := [(17, .pop, 1, (0, 0, 0, 0, 0, 0), 0), (18, .aload_n 1, 1, (1, 0, 0, 0, 0, 0), 0), (19, .getfield 163, 3, (5, 5, 0, 0, 0, 0), 0), (22, .aload_n 0, 1, (0, 0, 0, 0, 0, 0), 0), (23, .getfield 12, 3, (1, 0, 2, 2, 0, 0), 0), (26, .getfield 90, 3, (2, 0, 2, 3, 0, 0), 0), (29, .getfield 99, 3, (3, 0, 0, 0, 0, 0), 0), (32, .if_icmp .ne 13, 3, (45, 0, 0, 0, 0, 0), 0), (35, .aload_n 0, 1, (0, 0, 0, 0, 0, 0), 0), (36, .getfield 54, 3, (1, 7, 2, 50, 0, 0), 0), (39, .bipush 63, 2, (0, 0, 0, 0, 0, 0), nI 63)]
theorem obX10_appendDueDay_17 : dcd RX10 cX10_appendDueDay 17 bX10_appendDueDay_17 = true := by decide +kernel
def bX10_appendDueDay_44 : List Op3 := [(44, .pop, 1, (0, 0, 0, 0, 0, 0), 0), (45, .return_, 1, (0, 0, 0, 0, 0, 0), 0)]
theorem obX10_appendDueDay_44 : dcd RX10 cX10_appendDueDay 44 bX10_appendDueDay_44 = true := by decide +kernel
def bX10_appendDueDay_45 : List Op3 := [(45, .return_, 1, (0, 0, 0, 0, 0, 0), 0)]
theorem obX10_appendDueDay_45 : dcd RX10 cX10_appendDueDay 45 bX10_appendDueDay_45 = true := by decide +kernel
def bX10_appendBids_0 : List Op3 := [(0, .aload_n 0, 1, (0, 0, 0, 0, 0, 0), 0), (1, .getfield 54, 3, (1, 7, 2, 50, 0, 0), 0)]
theorem obX10_appendBids_0 : dcd RX10 cX10_appendBids 0 bX10_appendBids_0 = true := by decide +kernel
def bX10_appendBids_10 : List Op3 := [(10, .pop, 1, (0, 0, 0, 0, 0, 0), 0), (11, .iconst 0, 1, (0, 0, 0, 0, 0, 0), nI 0), (12, .istore_n 2, 1, (2, 0, 0, 0, 0, 0), 0)]
theorem obX10_appendBids_10 : dcd RX10 cX10_appendBids 10 bX10_appendBids_10 = true := by decide +kernel
def bX10_appendBids_13 : List Op3 := [(13, .iload_n 2, 1, (2, 0, 0, 0, 0, 0), 0), (14, .iconst 5, 1, (0, 0, 0, 0, 0, 0), nI 5), (15, .if_icmp .ge 46, 3, (61, 0, 0, 0, 0, 0), 0), (18, .aload_n 1, 1, (1, 0, 0, 0, 0, 0), 0), (19, .getfield 227, 3, (5, 7, 2, 12, 0, 0), 0), (22, .iload_n 2, 1, (2, 0, 0, 0, 0, 0), 0), (23, .iaload, 1, (0, 0, 0, 0, 0, 0), 0), (24, .ifCond .le 31, 3, (55, 0, 0, 0, 0, 0), 0), (27, .aload_n 0, 1, (0, 0, 0, 0, 0, 0), 0), (28, .getfield 54, 3, (1, 7, 2, 50, 0, 0), 0), (31, .bipush 32, 2, (0, 0, 0, 0, 0, 0), nI 32)]
theorem obX10_appendBids_13 : dcd RX10 cX10_appendBids 13 bX10_appendBids_13 = true := by decide +kernel
def bX10_appendBids_36 : List Op3 := [(36, .iload_n 2, 1, (2, 0, 0, 0, 0, 0), 0)]
theorem obX10_appendBids_36 : dcd RX10 cX10_appendBids 36 bX10_appendBids_36 = true := by decide +kernel
def bX10_appendBids_40 : List Op3 := [(40, .bipush 58, 2, (0, 0, 0, 0, 0, 0), nI 58)]
theorem obX10_appendBids_40 : dcd RX10 cX10_appendBids 40 bX10_appendBids_40 = true := by decide +kernel
def bX10_appendBids_45 : List Op3 := [(45, .aload_n 1, 1, (1, 0, 0, 0, 0, 0), 0), (46, .getfield 227, 3, (5, 7, 2, 12, 0, 0), 0), (49, .iload_n 2, 1, (2, 0, 0, 0, 0, 0), 0), (50, .iaload, 1, (0, 0, 0, 0, 0, 0), 0)]
theorem obX10_appendBids_45 : dcd RX10 cX10_appendBids 45 bX10_appendBids_45 = true := by decide +kernel
def bX10_appendBids_54 : List Op3 := [(54, .pop, 1, (0, 0, 0, 0, 0, 0), 0), (55, .iinc 2 1, 3, (2, 0, 0, 0, 0, 0), nI 1), (58, .goto (-45), 3, (13, 0, 0, 0, 0, 0), 0)]
theorem obX10_appendBids_54 : dcd RX10 cX10_appendBids 54 bX10_appendBids_54 = true := by decide +kernel
def bX10_appendBids_55 : List Op3 := [(55, .iinc 2 1, 3, (2, 0, 0, 0, 0, 0), nI 1), (58, .goto (-45), 3, (13, 0, 0, 0, 0, 0), 0)]
theorem obX10_appendBids_55 : dcd RX10 cX10_appendBids 55 bX10_appendBids_55 = true := by decide +kernel
def bX10_appendBids_61 : List Op3 := [(61, .return_, 1, (0, 0, 0, 0, 0, 0), 0)]
theorem obX10_appendBids_61 : dcd RX10 cX10_appendBids 61 bX10_appendBids_61 = true := by decide +kernel
def bX10_slipAt_0 : List Op3 := [(0, .iload_n 1, 1, (1, 0, 0, 0, 0, 0), 0), (1, .ifCond .lt 14, 3, (15, 0, 0, 0, 0, 0), 0), (4, .iload_n 1, 1, (1, 0, 0, 0, 0, 0), 0), (5, .aload_n 0, 1, (0, 0, 0, 0, 0, 0), 0), (6, .getfield 54, 3, (1, 7, 2, 50, 0, 0), 0)]
theorem obX10_slipAt_0 : dcd RX10 cX10_slipAt 0 bX10_slipAt_0 = true := by decide +kernel
def bX10_slipAt_12 : List Op3 := [(12, .if_icmp .lt 14, 3, (26, 0, 0, 0, 0, 0), 0)]
theorem obX10_slipAt_12 : dcd RX10 cX10_slipAt 12 bX10_slipAt_12 = true := by decide +kernel
def bX10_slipAt_18 : List Op3 := [(18, .dup, 1, (0, 0, 0, 0, 0, 0), 0)]
theorem obX10_slipAt_18 : dcd RX10 cX10_slipAt 18 bX10_slipAt_18 = true := by decide +kernel
def bX10_slipAt_26 : List Op3 := [(26, .aload_n 0, 1, (0, 0, 0, 0, 0, 0), 0), (27, .getfield 54, 3, (1, 7, 2, 50, 0, 0), 0), (30, .iload_n 1, 1, (1, 0, 0, 0, 0, 0), 0)]
theorem obX10_slipAt_26 : dcd RX10 cX10_slipAt 26 bX10_slipAt_26 = true := by decide +kernel
def bX10_slipAt_34 : List Op3 := [(34, .ireturn, 1, (0, 0, 0, 0, 0, 0), 0)]
theorem obX10_slipAt_34 : dcd RX10 cX10_slipAt 34 bX10_slipAt_34 = true := by decide +kernel
def bX10_type_0 : List Op3 := [(0, .iload_n 1, 1, (1, 0, 0, 0, 0, 0), 0), (1, .bipush 32, 2, (0, 0, 0, 0, 0, 0), nI 32), (3, .if_icmp .lt 9, 3, (12, 0, 0, 0, 0, 0), 0), (6, .iload_n 1, 1, (1, 0, 0, 0, 0, 0), 0), (7, .bipush 126, 2, (0, 0, 0, 0, 0, 0), nI 126), (9, .if_icmp .le 14, 3, (23, 0, 0, 0, 0, 0), 0)]
theorem obX10_type_0 : dcd RX10 cX10_type 0 bX10_type_0 = true := by decide +kernel
def bX10_type_15 : List Op3 := [(15, .dup, 1, (0, 0, 0, 0, 0, 0), 0)]
theorem obX10_type_15 : dcd RX10 cX10_type 15 bX10_type_15 = true := by decide +kernel
def bX10_type_23 : List Op3 := [(23, .aload_n 0, 1, (0, 0, 0, 0, 0, 0), 0), (24, .getfield 47, 3, (1, 6, 2, 9, 0, 0), 0), (27, .getfield 323, 3, (9, 1, 0, 0, 0, 0), 0), (30, .bipush 60, 2, (0, 0, 0, 0, 0, 0), nI 60), (32, .if_icmp .lt 14, 3, (46, 0, 0, 0, 0, 0), 0)]
theorem obX10_type_23 : dcd RX10 cX10_type 23 bX10_type_23 = true := by decide +kernel
def bX10_type_38 : List Op3 := [(38, .dup, 1, (0, 0, 0, 0, 0, 0), 0)]
theorem obX10_type_38 : dcd RX10 cX10_type 38 bX10_type_38 = true := by decide +kernel
def bX10_type_46 : List Op3 := [(46, .aload_n 0, 1, (0, 0, 0, 0, 0, 0), 0), (47, .getfield 47, 3, (1, 6, 2, 9, 0, 0), 0), (50, .iload_n 1, 1, (1, 0, 0, 0, 0, 0), 0)]
theorem obX10_type_46 : dcd RX10 cX10_type 46 bX10_type_46 = true := by decide +kernel
def bX10_type_54 : List Op3 := [(54, .ireturn, 1, (0, 0, 0, 0, 0, 0), 0)]
theorem obX10_type_54 : dcd RX10 cX10_type 54 bX10_type_54 = true := by decide +kernel
def bX10_execute_0 : List Op3 := [(0, .aload_n 0, 1, (0, 0, 0, 0, 0, 0), 0), (1, .getfield 47, 3, (1, 6, 2, 9, 0, 0), 0)]
theorem obX10_execute_0 : dcd RX10 cX10_execute 0 bX10_execute_0 = true := by decide +kernel
def bX10_execute_7 : List Op3 := [(7, .istore_n 1, 1, (1, 0, 0, 0, 0, 0), 0), (8, .aload_n 0, 1, (0, 0, 0, 0, 0, 0), 0), (9, .getfield 47, 3, (1, 6, 2, 9, 0, 0), 0)]
theorem obX10_execute_7 : dcd RX10 cX10_execute 7 bX10_execute_7 = true := by decide +kernel
def bX10_execute_15 : List Op3 := [(15, .iload_n 1, 1, (1, 0, 0, 0, 0, 0), 0), (16, .ifCond .ne 25, 3, (41, 0, 0, 0, 0, 0), 0), (19, .aload_n 0, 1, (0, 0, 0, 0, 0, 0), 0), (20, .aload_n 0, 1, (0, 0, 0, 0, 0, 0), 0), (21, .getfield 47, 3, (1, 6, 2, 9, 0, 0), 0), (24, .getfield 340, 3, (9, 5, 0, 0, 0, 0), 0), (27, .putfield 58, 3, (1, 8, 0, 0, 0, 0), 0)]
theorem obX10_execute_15 : dcd RX10 cX10_execute 15 bX10_execute_15 = true := by decide +kernel
def bX10_execute_33 : List Op3 := [(33, .dup, 1, (0, 0, 0, 0, 0, 0), 0)]
theorem obX10_execute_33 : dcd RX10 cX10_execute 33 bX10_execute_33 = true := by decide +kernel
def bX10_execute_41 : List Op3 := [(41, .aload_n 0, 1, (0, 0, 0, 0, 0, 0), 0), (42, .getfield 26, 3, (1, 3, 2, 8, 0, 0), 0), (45, .aload_n 0, 1, (0, 0, 0, 0, 0, 0), 0), (46, .getfield 12, 3, (1, 0, 2, 2, 0, 0), 0)]
theorem obX10_execute_41 : dcd RX10 cX10_execute 41 bX10_execute_41 = true := by decide +kernel
def bX10_execute_52 : List Op3 := [(52, .iconst 0, 1, (0, 0, 0, 0, 0, 0), nI 0), (53, .istore_n 2, 1, (2, 0, 0, 0, 0, 0), 0)]
theorem obX10_execute_52 : dcd RX10 cX10_execute 52 bX10_execute_52 = true := by decide +kernel
def bX10_execute_54 : List Op3 := [(54, .iload_n 2, 1, (2, 0, 0, 0, 0, 0), 0), (55, .aload_n 0, 1, (0, 0, 0, 0, 0, 0), 0), (56, .getfield 47, 3, (1, 6, 2, 9, 0, 0), 0), (59, .getfield 345, 3, (9, 4, 0, 0, 0, 0), 0), (62, .if_icmp .ge 34, 3, (96, 0, 0, 0, 0, 0), 0), (65, .aload_n 0, 1, (0, 0, 0, 0, 0, 0), 0), (66, .aload_n 0, 1, (0, 0, 0, 0, 0, 0), 0), (67, .getfield 47, 3, (1, 6, 2, 9, 0, 0), 0), (70, .getfield 348, 3, (9, 2, 2, 27, 0, 0), 0), (73, .iload_n 2, 1, (2, 0, 0, 0, 0, 0), 0), (74, .aaload, 1, (0, 0, 0, 0, 0, 0), 0), (75, .aload_n 0, 1, (0, 0, 0, 0, 0, 0), 0), (76, .getfield 47, 3, (1, 6, 2, 9, 0, 0), 0), (79, .getfield 352, 3, (9, 3, 2, 28, 0, 0), 0), (82, .iload_n 2, 1, (2, 0, 0, 0, 0, 0), 0), (83, .aaload, 1, (0, 0, 0, 0, 0, 0), 0)]
theorem obX10_execute_54 : dcd RX10 cX10_execute 54 bX10_execute_54 = true := by decide +kernel
def bX10_execute_87 : List Op3 := [(87, .ifCond .eq 9, 3, (96, 0, 0, 0, 0, 0), 0), (90, .iinc 2 1, 3, (2, 0, 0, 0, 0, 0), nI 1), (93, .goto (-39), 3, (54, 0, 0, 0, 0, 0), 0)]
theorem obX10_execute_87 : dcd RX10 cX10_execute 87 bX10_execute_87 = true := by decide +kernel
def bX10_execute_96 : List Op3 := [(96, .iload_n 2, 1, (2, 0, 0, 0, 0, 0), 0), (97, .aload_n 0, 1, (0, 0, 0, 0, 0, 0), 0), (98, .getfield 47, 3, (1, 6, 2, 9, 0, 0), 0), (101, .getfield 345, 3, (9, 4, 0, 0, 0, 0), 0), (104, .if_icmp .ge 30, 3, (134, 0, 0, 0, 0, 0), 0), (107, .aload_n 0, 1, (0, 0, 0, 0, 0, 0), 0), (108, .getfield 26, 3, (1, 3, 2, 8, 0, 0), 0), (111, .aload_n 0, 1, (0, 0, 0, 0, 0, 0), 0), (112, .getfield 12, 3, (1, 0, 2, 2, 0, 0), 0)]
theorem obX10_execute_96 : dcd RX10 cX10_execute 96 bX10_execute_96 = true := by decide +kernel
def bX10_execute_118 : List Op3 := [(118, .aload_n 0, 1, (0, 0, 0, 0, 0, 0), 0), (119, .iload_n 2, 1, (2, 0, 0, 0, 0, 0), 0), (120, .putfield 62, 3, (1, 9, 0, 0, 0, 0), 0)]
theorem obX10_execute_118 : dcd RX10 cX10_execute 118 bX10_execute_118 = true := by decide +kernel
def bX10_execute_126 : List Op3 := [(126, .dup, 1, (0, 0, 0, 0, 0, 0), 0)]
theorem obX10_execute_126 : dcd RX10 cX10_execute 126 bX10_execute_126 = true := by decide +kernel
def bX10_execute_134 : List Op3 := [(134, .aload_n 0, 1, (0, 0, 0, 0, 0, 0), 0), (135, .getfield 26, 3, (1, 3, 2, 8, 0, 0), 0)]
theorem obX10_execute_134 : dcd RX10 cX10_execute 134 bX10_execute_134 = true := by decide +kernel
def bX10_execute_141 : List Op3 := [(141, .aload_n 0, 1, (0, 0, 0, 0, 0, 0), 0), (142, .getfield 47, 3, (1, 6, 2, 9, 0, 0), 0), (145, .getfield 345, 3, (9, 4, 0, 0, 0, 0), 0), (148, .ireturn, 1, (0, 0, 0, 0, 0, 0), 0)]
theorem obX10_execute_141 : dcd RX10 cX10_execute 141 bX10_execute_141 = true := by decide +kernel
def bX10_succeeds_0 : List Op3 := [(0, .aload_n 0, 1, (0, 0, 0, 0, 0, 0), 0), (1, .aload_n 1, 1, (1, 0, 0, 0, 0, 0), 0), (2, .aload_n 2, 1, (2, 0, 0, 0, 0, 0), 0), (3, .iconst 0, 1, (0, 0, 0, 0, 0, 0), nI 0), (4, .iaload, 1, (0, 0, 0, 0, 0, 0), 0), (5, .aload_n 2, 1, (2, 0, 0, 0, 0, 0), 0), (6, .iconst 1, 1, (0, 0, 0, 0, 0, 0), nI 1), (7, .iaload, 1, (0, 0, 0, 0, 0, 0), 0), (8, .aload_n 2, 1, (2, 0, 0, 0, 0, 0), 0), (9, .iconst 2, 1, (0, 0, 0, 0, 0, 0), nI 2), (10, .iaload, 1, (0, 0, 0, 0, 0, 0), 0)]
theorem obX10_succeeds_0 : dcd RX10 cX10_succeeds 0 bX10_succeeds_0 = true := by decide +kernel
def bX10_succeeds_14 : List Op3 := [(14, .iconst 1, 1, (0, 0, 0, 0, 0, 0), nI 1), (15, .ireturn, 1, (0, 0, 0, 0, 0, 0), 0)]
theorem obX10_succeeds_14 : dcd RX10 cX10_succeeds 14 bX10_succeeds_14 = true := by decide +kernel
def bX10_run_3 : List Op3 := [(3, .aload_n 1, 1, (1, 0, 0, 0, 0, 0), 0)]
theorem obX10_run_3 : dcd RX10 cX10_run 3 bX10_run_3 = true := by decide +kernel
def bX10_run_7 : List Op3 := [(7, .iaload, 1, (0, 0, 0, 0, 0, 0), 0)]
theorem obX10_run_7 : dcd RX10 cX10_run 7 bX10_run_7 = true := by decide +kernel
def bX10_run_60 : List Op3 := [(60, .aload_n 0, 1, (0, 0, 0, 0, 0, 0), 0), (61, .getfield 12, 3, (1, 0, 2, 2, 0, 0), 0), (64, .iload_n 2, 1, (2, 0, 0, 0, 0, 0), 0), (65, .iload_n 3, 1, (3, 0, 0, 0, 0, 0), 0), (66, .iload 4, 2, (4, 0, 0, 0, 0, 0), 0)]
theorem obX10_run_60 : dcd RX10 cX10_run 60 bX10_run_60 = true := by decide +kernel
def bX10_run_71 : List Op3 := [(71, .pop, 1, (0, 0, 0, 0, 0, 0), 0), (72, .goto 110, 3, (182, 0, 0, 0, 0, 0), 0)]
theorem obX10_run_71 : dcd RX10 cX10_run 71 bX10_run_71 = true := by decide +kernel
def bX10_run_75 : List Op3 := [(75, .aload_n 0, 1, (0, 0, 0, 0, 0, 0), 0), (76, .getfield 12, 3, (1, 0, 2, 2, 0, 0), 0), (79, .iload_n 2, 1, (2, 0, 0, 0, 0, 0), 0)]
theorem obX10_run_75 : dcd RX10 cX10_run 75 bX10_run_75 = true := by decide +kernel
def bX10_run_83 : List Op3 := [(83, .pop, 1, (0, 0, 0, 0, 0, 0), 0), (84, .goto 98, 3, (182, 0, 0, 0, 0, 0), 0)]
theorem obX10_run_83 : dcd RX10 cX10_run 83 bX10_run_83 = true := by decide +kernel
def bX10_run_87 : List Op3 := [(87, .aload_n 0, 1, (0, 0, 0, 0, 0, 0), 0), (88, .getfield 12, 3, (1, 0, 2, 2, 0, 0), 0), (91, .iload_n 2, 1, (2, 0, 0, 0, 0, 0), 0), (92, .iload_n 3, 1, (3, 0, 0, 0, 0, 0), 0)]
theorem obX10_run_87 : dcd RX10 cX10_run 87 bX10_run_87 = true := by decide +kernel
def bX10_run_96 : List Op3 := [(96, .pop, 1, (0, 0, 0, 0, 0, 0), 0), (97, .goto 85, 3, (182, 0, 0, 0, 0, 0), 0)]
theorem obX10_run_96 : dcd RX10 cX10_run 96 bX10_run_96 = true := by decide +kernel
def bX10_run_100 : List Op3 := [(100, .aload_n 0, 1, (0, 0, 0, 0, 0, 0), 0), (101, .getfield 12, 3, (1, 0, 2, 2, 0, 0), 0), (104, .iload_n 2, 1, (2, 0, 0, 0, 0, 0), 0)]
theorem obX10_run_100 : dcd RX10 cX10_run 100 bX10_run_100 = true := by decide +kernel
def bX10_run_108 : List Op3 := [(108, .pop, 1, (0, 0, 0, 0, 0, 0), 0), (109, .goto 73, 3, (182, 0, 0, 0, 0, 0), 0)]
theorem obX10_run_108 : dcd RX10 cX10_run 108 bX10_run_108 = true := by decide +kernel
def bX10_run_112 : List Op3 := [(112, .aload_n 0, 1, (0, 0, 0, 0, 0, 0), 0), (113, .getfield 12, 3, (1, 0, 2, 2, 0, 0), 0), (116, .iload_n 2, 1, (2, 0, 0, 0, 0, 0), 0)]
theorem obX10_run_112 : dcd RX10 cX10_run 112 bX10_run_112 = true := by decide +kernel
def bX10_run_120 : List Op3 := [(120, .pop, 1, (0, 0, 0, 0, 0, 0), 0), (121, .goto 61, 3, (182, 0, 0, 0, 0, 0), 0)]
theorem obX10_run_120 : dcd RX10 cX10_run 120 bX10_run_120 = true := by decide +kernel
def bX10_run_124 : List Op3 := [(124, .aload_n 0, 1, (0, 0, 0, 0, 0, 0), 0), (125, .getfield 12, 3, (1, 0, 2, 2, 0, 0), 0), (128, .getfield 90, 3, (2, 0, 2, 3, 0, 0), 0), (131, .iload_n 2, 1, (2, 0, 0, 0, 0, 0), 0), (132, .iload_n 3, 1, (3, 0, 0, 0, 0, 0), 0)]
theorem obX10_run_124 : dcd RX10 cX10_run 124 bX10_run_124 = true := by decide +kernel
def bX10_run_136 : List Op3 := [(136, .pop, 1, (0, 0, 0, 0, 0, 0), 0), (137, .goto 45, 3, (182, 0, 0, 0, 0, 0), 0)]
theorem obX10_run_136 : dcd RX10 cX10_run 136 bX10_run_136 = true := by decide +kernel
def bX10_run_140 : List Op3 := [(140, .aload_n 0, 1, (0, 0, 0, 0, 0, 0), 0), (141, .getfield 12, 3, (1, 0, 2, 2, 0, 0), 0), (144, .iload_n 2, 1, (2, 0, 0, 0, 0, 0), 0), (145, .iload_n 3, 1, (3, 0, 0, 0, 0, 0), 0), (146, .iload 4, 2, (4, 0, 0, 0, 0, 0), 0)]
theorem obX10_run_140 : dcd RX10 cX10_run 140 bX10_run_140 = true := by decide +kernel
def bX10_run_151 : List Op3 := [(151, .pop, 1, (0, 0, 0, 0, 0, 0), 0), (152, .goto 30, 3, (182, 0, 0, 0, 0, 0), 0)]
theorem obX10_run_151 : dcd RX10 cX10_run 151 bX10_run_151 = true := by decide +kernel
def bX10_run_155 : List Op3 := [(155, .aload_n 0, 1, (0, 0, 0, 0, 0, 0), 0), (156, .getfield 12, 3, (1, 0, 2, 2, 0, 0), 0), (159, .iload_n 2, 1, (2, 0, 0, 0, 0, 0), 0)]
theorem obX10_run_155 : dcd RX10 cX10_run 155 bX10_run_155 = true := by decide +kernel
def bX10_run_163 : List Op3 := [(163, .pop, 1, (0, 0, 0, 0, 0, 0), 0), (164, .goto 18, 3, (182, 0, 0, 0, 0, 0), 0)]
theorem obX10_run_163 : dcd RX10 cX10_run 163 bX10_run_163 = true := by decide +kernel
def bX10_run_167 : List Op3 := [(167, .aload_n 0, 1, (0, 0, 0, 0, 0, 0), 0), (168, .getfield 12, 3, (1, 0, 2, 2, 0, 0), 0), (171, .aload_n 0, 1, (0, 0, 0, 0, 0, 0), 0), (172, .getfield 40, 3, (1, 5, 2, 7, 0, 0), 0)]
theorem obX10_run_167 : dcd RX10 cX10_run 167 bX10_run_167 = true := by decide +kernel
def bX10_run_178 : List Op3 := [(178, .pop, 1, (0, 0, 0, 0, 0, 0), 0), (179, .goto 3, 3, (182, 0, 0, 0, 0, 0), 0)]
theorem obX10_run_178 : dcd RX10 cX10_run 178 bX10_run_178 = true := by decide +kernel
def bX10_run_182 : List Op3 := [(182, .return_, 1, (0, 0, 0, 0, 0, 0), 0)]
theorem obX10_run_182 : dcd RX10 cX10_run 182 bX10_run_182 = true := by decide +kernel
def bX10_errorPosition_0 : List Op3 := [(0, .aload_n 0, 1, (0, 0, 0, 0, 0, 0), 0), (1, .getfield 58, 3, (1, 8, 0, 0, 0, 0), 0), (4, .iconst (-1), 1, (0, 0, 0, 0, 0, 0), -1), (5, .if_icmp .ne 14, 3, (19, 0, 0, 0, 0, 0), 0)]
theorem obX10_errorPosition_0 : dcd RX10 cX10_errorPosition 0 bX10_errorPosition_0 = true := by decide +kernel
def bX10_errorPosition_11 : List Op3 := [(11, .dup, 1, (0, 0, 0, 0, 0, 0), 0)]
theorem obX10_errorPosition_11 : dcd RX10 cX10_errorPosition 11 bX10_errorPosition_11 = true := by decide +kernel
def bX10_errorPosition_19 : List Op3 := [(19, .aload_n 0, 1, (0, 0, 0, 0, 0, 0), 0), (20, .getfield 58, 3, (1, 8, 0, 0, 0, 0), 0), (23, .ireturn, 1, (0, 0, 0, 0, 0, 0), 0)]
theorem obX10_errorPosition_19 : dcd RX10 cX10_errorPosition 19 bX10_errorPosition_19 = true := by decide +kernel
def bX10_failedCommand_0 : List Op3 := [(0, .aload_n 0, 1, (0, 0, 0, 0, 0, 0), 0), (1, .getfield 62, 3, (1, 9, 0, 0, 0, 0), 0), (4, .iconst (-1), 1, (0, 0, 0, 0, 0, 0), -1), (5, .if_icmp .ne 14, 3, (19, 0, 0, 0, 0, 0), 0)]
theorem obX10_failedCommand_0 : dcd RX10 cX10_failedCommand 0 bX10_failedCommand_0 = true := by decide +kernel
def bX10_failedCommand_11 : List Op3 := [(11, .dup, 1, (0, 0, 0, 0, 0, 0), 0)]
theorem obX10_failedCommand_11 : dcd RX10 cX10_failedCommand 11 bX10_failedCommand_11 = true := by decide +kernel
def bX10_failedCommand_19 : List Op3 := [(19, .aload_n 0, 1, (0, 0, 0, 0, 0, 0), 0), (20, .getfield 62, 3, (1, 9, 0, 0, 0, 0), 0), (23, .ireturn, 1, (0, 0, 0, 0, 0, 0), 0)]
theorem obX10_failedCommand_19 : dcd RX10 cX10_failedCommand 19 bX10_failedCommand_19 = true := by decide +kernel
def bX10_undo_0 : List Op3 := [(0, .aload_n 0, 1, (0, 0, 0, 0, 0, 0), 0), (1, .getfield 26, 3, (1, 3, 2, 8, 0, 0), 0), (4, .getfield 385, 3, (8, 2, 0, 0, 0, 0), 0), (7, .ifCond .ne 14, 3, (21, 0, 0, 0, 0, 0), 0)]
theorem obX10_undo_0 : dcd RX10 cX10_undo 0 bX10_undo_0 = true := by decide +kernel
def bX10_undo_13 : List Op3 := [(13, .dup, 1, (0, 0, 0, 0, 0, 0), 0)]
theorem obX10_undo_13 : dcd RX10 cX10_undo 13 bX10_undo_13 = true := by decide +kernel
def bX10_undo_21 : List Op3 := [(21, .aload_n 0, 1, (0, 0, 0, 0, 0, 0), 0), (22, .getfield 26, 3, (1, 3, 2, 8, 0, 0), 0), (25, .aload_n 0, 1, (0, 0, 0, 0, 0, 0), 0), (26, .getfield 12, 3, (1, 0, 2, 2, 0, 0), 0)]
theorem obX10_undo_21 : dcd RX10 cX10_undo 21 bX10_undo_21 = true := by decide +kernel
def bX10_undo_32 : List Op3 := [(32, .aload_n 0, 1, (0, 0, 0, 0, 0, 0), 0), (33, .getfield 26, 3, (1, 3, 2, 8, 0, 0), 0), (36, .getfield 385, 3, (8, 2, 0, 0, 0, 0), 0), (39, .ireturn, 1, (0, 0, 0, 0, 0, 0), 0)]
theorem obX10_undo_32 : dcd RX10 cX10_undo 32 bX10_undo_32 = true := by decide +kernel
def bX10_save_0 : List Op3 := [(0, .aload_n 0, 1, (0, 0, 0, 0, 0, 0), 0), (1, .getfield 16, 3, (1, 1, 2, 2, 1, 0), 0), (4, .aload_n 0, 1, (0, 0, 0, 0, 0, 0), 0), (5, .getfield 12, 3, (1, 0, 2, 2, 0, 0), 0)]
theorem obX10_save_0 : dcd RX10 cX10_save 0 bX10_save_0 = true := by decide +kernel
def bX10_save_11 : List Op3 := [(11, .aload_n 0, 1, (0, 0, 0, 0, 0, 0), 0), (12, .iconst 1, 1, (0, 0, 0, 0, 0, 0), nI 1), (13, .putfield 19, 3, (1, 2, 3, 0, 0, 0), 0), (16, .aload_n 0, 1, (0, 0, 0, 0, 0, 0), 0), (17, .getfield 12, 3, (1, 0, 2, 2, 0, 0), 0), (20, .getfield 90, 3, (2, 0, 2, 3, 0, 0), 0), (23, .getfield 99, 3, (3, 0, 0, 0, 0, 0), 0), (26, .ireturn, 1, (0, 0, 0, 0, 0, 0), 0)]
theorem obX10_save_11 : dcd RX10 cX10_save 11 bX10_save_11 = true := by decide +kernel
def bX10_restore_0 : List Op3 := [(0, .aload_n 0, 1, (0, 0, 0, 0, 0, 0), 0), (1, .getfield 19, 3, (1, 2, 0, 0, 0, 0), 0), (4, .ifCond .ne 14, 3, (18, 0, 0, 0, 0, 0), 0)]
theorem obX10_restore_0 : dcd RX10 cX10_restore 0 bX10_restore_0 = true := by decide +kernel
def bX10_restore_10 : List Op3 := [(10, .dup, 1, (0, 0, 0, 0, 0, 0), 0)]
theorem obX10_restore_10 : dcd RX10 cX10_restore 10 bX10_restore_10 = true := by decide +kernel
def bX10_restore_18 : List Op3 := [(18, .aload_n 0, 1, (0, 0, 0, 0, 0, 0), 0), (19, .getfield 12, 3, (1, 0, 2, 2, 0, 0), 0), (22, .aload_n 0, 1, (0, 0, 0, 0, 0, 0), 0), (23, .getfield 16, 3, (1, 1, 2, 2, 1, 0), 0)]
theorem obX10_restore_18 : dcd RX10 cX10_restore 18 bX10_restore_18 = true := by decide +kernel
def bX10_restore_29 : List Op3 := [(29, .aload_n 0, 1, (0, 0, 0, 0, 0, 0), 0), (30, .getfield 26, 3, (1, 3, 2, 8, 0, 0), 0)]
theorem obX10_restore_29 : dcd RX10 cX10_restore 29 bX10_restore_29 = true := by decide +kernel
def bX10_restore_36 : List Op3 := [(36, .aload_n 0, 1, (0, 0, 0, 0, 0, 0), 0), (37, .getfield 12, 3, (1, 0, 2, 2, 0, 0), 0), (40, .getfield 90, 3, (2, 0, 2, 3, 0, 0), 0), (43, .getfield 99, 3, (3, 0, 0, 0, 0, 0), 0), (46, .ireturn, 1, (0, 0, 0, 0, 0, 0), 0)]
theorem obX10_restore_36 : dcd RX10 cX10_restore 36 bX10_restore_36 = true := by decide +kernel
