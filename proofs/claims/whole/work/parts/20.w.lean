/-! ===== the law: its wrappers ===== -/
section LW
variable {l : Launch} {G : GG} {τ : Mem} {r : Nat × Nat × Sg}
theorem w_pledge (hc : CtxE l G) (hN : NcF G) (p0 : Int32) (p1 : Int32) (p2 : Int32) (hs : Sat l G iX10_pledge [moM, aI p0, aI p1, aI p2] τ (XOp [IAE, ISE, UOE] τ r)) (hr : r.1 ≤ 3) : SatH l G iL_pledge hL_pledge [moM, aI p0, aI p1, aI p2, ouM] τ (LwP τ r) := by
  refine SatH_of hc.1.1 hc.1.2 (by decide +kernel) (Nat.le_of_ble_eq_true rfl) (fun x hB hT => ?_)
  refine V_run hB (rt := some .int) (nL := 6) (mc := 1) rfl rfl rfl (ops := [(0, .aload 4, 2, (4, 0, 0, 0, 0, 0), 0), (2, .iconst 0, 1, (0, 0, 0, 0, 0, 0), nI 0), (3, .aload_n 0, 1, (0, 0, 0, 0, 0, 0), 0), (4, .iload_n 1, 1, (1, 0, 0, 0, 0, 0), 0), (5, .iload_n 2, 1, (2, 0, 0, 0, 0, 0), 0), (6, .iload_n 3, 1, (3, 0, 0, 0, 0, 0), 0)]) (by decide +kernel) ?_
  dsimp only [↓wpb, ↓wp1, ↓vI, ↓vL, ↓vD, ↓ldI, ↓ldL, ↓ldD, ↓ldR, ↓k1, ↓k2, ↓kI, ↓kL, ↓kD, ↓kII, ↓kLL, ↓kDD, ↓kR, ↓kIR, ↓kLR, ↓kIIR, ↓kLIR, ↓kDIR, ↓kRIR, ↓kNN, ↓kE, ↓br, ↓bn, ↓rtI, ↓gfv, ↓zchk, lput, ldel, lbad, alA, acat, isRf, dom, dS, dJ, isO, aTy, aLen, elAV, elR, Nat.reduceBEq, Nat.reduceAdd, Bool.or, Bool.and, Nat.add_zero, Nat.zero_add]
  try simp only [Nat.reduceLT, Nat.reduceLeDiff, Nat.reduceEqDiff, true_and, and_true, and_self, Nat.zero_le, Nat.le_refl, true_or, or_true, Bool.false_eq_true, not_false_eq_true, Nat.reduceAdd, Nat.lt_add_one, Nat.zero_lt_one, nI_add, pk_mul, ixL, vpL, ne_eq, reduceIte, wI_sN, wL_sM, sN_same, sN_K, sN_2, sM_1, sM_same, sM_K, sM_s, uI_at, uN_at, enc_at, uI_enc, uI_uI, upM_s, upM_n]
  refine V_callVH hB hT hkL_pledge hN hs rfl (by decide +kernel) cvL_7 (dom1 rfl) npX10_pledge ⟨by decide, by decide⟩ (Nat.le_of_ble_eq_true rfl) (by decide) ?_ ?_
  · intro v t1 hq
    obtain ⟨e, h1, h2⟩ := hq
    by_cases hz : r.1 = 0
    rotate_left
    · rw [if_neg hz] at e; cases e
    rw [if_pos hz] at e
    cases e
    show V x t1 1 10 _ [aI (nI r.2.1), aI (nI 0), ouM]
    refine V_run hB (rt := some .int) (nL := 6) (mc := 1) rfl rfl rfl (ops := [(10, .i2l, 1, (0, 0, 0, 0, 0, 0), 0), (11, .lastore, 1, (0, 0, 0, 0, 0, 0), 0), (12, .goto 15, 3, (27, 0, 0, 0, 0, 0), 0)]) (by decide +kernel) ?_
    dsimp only [↓wpb, ↓wp1, ↓vI, ↓vL, ↓vD, ↓ldI, ↓ldL, ↓ldD, ↓ldR, ↓k1, ↓k2, ↓kI, ↓kL, ↓kD, ↓kII, ↓kLL, ↓kDD, ↓kR, ↓kIR, ↓kLR, ↓kIIR, ↓kLIR, ↓kDIR, ↓kRIR, ↓kNN, ↓kE, ↓br, ↓bn, ↓rtI, ↓gfv, ↓zchk, lput, ldel, lbad, alA, acat, isRf, dom, dS, dJ, isO, aTy, aLen, elAV, elR, Nat.reduceBEq, Nat.reduceAdd, Bool.or, Bool.and, Nat.add_zero, Nat.zero_add]
    try simp only [Nat.reduceLT, Nat.reduceLeDiff, Nat.reduceEqDiff, true_and, and_true, and_self, Nat.zero_le, Nat.le_refl, true_or, or_true, Bool.false_eq_true, not_false_eq_true, Nat.reduceAdd, Nat.lt_add_one, Nat.zero_lt_one, nI_add, pk_mul, ixL, vpL, ne_eq, reduceIte, wI_sN, wL_sM, sN_same, sN_K, sN_2, sM_1, sM_same, sM_K, sM_s, uI_at, uN_at, enc_at, uI_enc, uI_uI, upM_s, upM_n]
    refine V_run hB (rt := some .int) (nL := 6) (mc := 1) rfl rfl rfl (ops := [(27, .iconst 0, 1, (0, 0, 0, 0, 0, 0), nI 0), (28, .ireturn, 1, (0, 0, 0, 0, 0, 0), 0)]) (by decide +kernel) ?_
    dsimp only [↓wpb, ↓wp1, ↓vI, ↓vL, ↓vD, ↓ldI, ↓ldL, ↓ldD, ↓ldR, ↓k1, ↓k2, ↓kI, ↓kL, ↓kD, ↓kII, ↓kLL, ↓kDD, ↓kR, ↓kIR, ↓kLR, ↓kIIR, ↓kLIR, ↓kDIR, ↓kRIR, ↓kNN, ↓kE, ↓br, ↓bn, ↓rtI, ↓gfv, ↓zchk, lput, ldel, lbad, alA, acat, isRf, dom, dS, dJ, isO, aTy, aLen, elAV, elR, Nat.reduceBEq, Nat.reduceAdd, Bool.or, Bool.and, Nat.add_zero, Nat.zero_add]
    try simp only [Nat.reduceLT, Nat.reduceLeDiff, Nat.reduceEqDiff, true_and, and_true, and_self, Nat.zero_le, Nat.le_refl, true_or, or_true, Bool.false_eq_true, not_false_eq_true, Nat.reduceAdd, Nat.lt_add_one, Nat.zero_lt_one, nI_add, pk_mul, ixL, vpL, ne_eq, reduceIte, wI_sN, wL_sM, sN_same, sN_K, sN_2, sM_1, sM_same, sM_K, sM_s, uI_at, uN_at, enc_at, uI_enc, uI_uI, upM_s, upM_n]
    exact Lw_ok h1 h2 hz
  · intro E t1 hq
    obtain ⟨e, h1, h2⟩ := hq
    by_cases hz : r.1 = 0
    · rw [if_pos hz] at e; cases e
    rw [if_neg hz] at e
    cases e
    rcases (by omega : r.1 = 1 ∨ r.1 = 2 ∨ r.1 = 3) with hk | hk | hk
    · refine ⟨by rw [hk]; decide +kernel, 15, by rw [hk]; decide +kernel, fun q => ?_⟩
      show V x t1 1 15 _ _
      refine V_run hB (rt := some .int) (nL := 6) (mc := 1) rfl rfl rfl (ops := [(15, .astore 5, 2, (5, 0, 0, 0, 0, 0), 0), (17, .iconst 1, 1, (0, 0, 0, 0, 0, 0), nI 1), (18, .ireturn, 1, (0, 0, 0, 0, 0, 0), 0)]) (by decide +kernel) ?_
      dsimp only [↓wpb, ↓wp1, ↓vI, ↓vL, ↓vD, ↓ldI, ↓ldL, ↓ldD, ↓ldR, ↓k1, ↓k2, ↓kI, ↓kL, ↓kD, ↓kII, ↓kLL, ↓kDD, ↓kR, ↓kIR, ↓kLR, ↓kIIR, ↓kLIR, ↓kDIR, ↓kRIR, ↓kNN, ↓kE, ↓br, ↓bn, ↓rtI, ↓gfv, ↓zchk, lput, ldel, lbad, alA, acat, isRf, dom, dS, dJ, isO, aTy, aLen, elAV, elR, Nat.reduceBEq, Nat.reduceAdd, Bool.or, Bool.and, Nat.add_zero, Nat.zero_add]
      try simp only [Nat.reduceLT, Nat.reduceLeDiff, Nat.reduceEqDiff, true_and, and_true, and_self, Nat.zero_le, Nat.le_refl, true_or, or_true, Bool.false_eq_true, not_false_eq_true, Nat.reduceAdd, Nat.lt_add_one, Nat.zero_lt_one, nI_add, pk_mul, ixL, vpL, ne_eq, reduceIte, wI_sN, wL_sM, sN_same, sN_K, sN_2, sM_1, sM_same, sM_K, sM_s, uI_at, uN_at, enc_at, uI_enc, uI_uI, upM_s, upM_n]
      exact Lw_no h1 h2 hz hk
    · refine ⟨by rw [hk]; decide +kernel, 19, by rw [hk]; decide +kernel, fun q => ?_⟩
      show V x t1 1 19 _ _
      refine V_run hB (rt := some .int) (nL := 6) (mc := 1) rfl rfl rfl (ops := [(19, .astore 5, 2, (5, 0, 0, 0, 0, 0), 0), (21, .iconst 2, 1, (0, 0, 0, 0, 0, 0), nI 2), (22, .ireturn, 1, (0, 0, 0, 0, 0, 0), 0)]) (by decide +kernel) ?_
      dsimp only [↓wpb, ↓wp1, ↓vI, ↓vL, ↓vD, ↓ldI, ↓ldL, ↓ldD, ↓ldR, ↓k1, ↓k2, ↓kI, ↓kL, ↓kD, ↓kII, ↓kLL, ↓kDD, ↓kR, ↓kIR, ↓kLR, ↓kIIR, ↓kLIR, ↓kDIR, ↓kRIR, ↓kNN, ↓kE, ↓br, ↓bn, ↓rtI, ↓gfv, ↓zchk, lput, ldel, lbad, alA, acat, isRf, dom, dS, dJ, isO, aTy, aLen, elAV, elR, Nat.reduceBEq, Nat.reduceAdd, Bool.or, Bool.and, Nat.add_zero, Nat.zero_add]
      try simp only [Nat.reduceLT, Nat.reduceLeDiff, Nat.reduceEqDiff, true_and, and_true, and_self, Nat.zero_le, Nat.le_refl, true_or, or_true, Bool.false_eq_true, not_false_eq_true, Nat.reduceAdd, Nat.lt_add_one, Nat.zero_lt_one, nI_add, pk_mul, ixL, vpL, ne_eq, reduceIte, wI_sN, wL_sM, sN_same, sN_K, sN_2, sM_1, sM_same, sM_K, sM_s, uI_at, uN_at, enc_at, uI_enc, uI_uI, upM_s, upM_n]
      exact Lw_no h1 h2 hz hk
    · refine ⟨by rw [hk]; decide +kernel, 23, by rw [hk]; decide +kernel, fun q => ?_⟩
      show V x t1 1 23 _ _
      refine V_run hB (rt := some .int) (nL := 6) (mc := 1) rfl rfl rfl (ops := [(23, .astore 5, 2, (5, 0, 0, 0, 0, 0), 0), (25, .iconst 3, 1, (0, 0, 0, 0, 0, 0), nI 3), (26, .ireturn, 1, (0, 0, 0, 0, 0, 0), 0)]) (by decide +kernel) ?_
      dsimp only [↓wpb, ↓wp1, ↓vI, ↓vL, ↓vD, ↓ldI, ↓ldL, ↓ldD, ↓ldR, ↓k1, ↓k2, ↓kI, ↓kL, ↓kD, ↓kII, ↓kLL, ↓kDD, ↓kR, ↓kIR, ↓kLR, ↓kIIR, ↓kLIR, ↓kDIR, ↓kRIR, ↓kNN, ↓kE, ↓br, ↓bn, ↓rtI, ↓gfv, ↓zchk, lput, ldel, lbad, alA, acat, isRf, dom, dS, dJ, isO, aTy, aLen, elAV, elR, Nat.reduceBEq, Nat.reduceAdd, Bool.or, Bool.and, Nat.add_zero, Nat.zero_add]
      try simp only [Nat.reduceLT, Nat.reduceLeDiff, Nat.reduceEqDiff, true_and, and_true, and_self, Nat.zero_le, Nat.le_refl, true_or, or_true, Bool.false_eq_true, not_false_eq_true, Nat.reduceAdd, Nat.lt_add_one, Nat.zero_lt_one, nI_add, pk_mul, ixL, vpL, ne_eq, reduceIte, wI_sN, wL_sM, sN_same, sN_K, sN_2, sM_1, sM_same, sM_K, sM_s, uI_at, uN_at, enc_at, uI_enc, uI_uI, upM_s, upM_n]
      exact Lw_no h1 h2 hz hk
theorem w_redeem (hc : CtxE l G) (hN : NcF G) (p0 : Int32) (hs : Sat l G iX10_redeem [moM, aI p0] τ (XOp [NSE] τ r)) (hr : r.1 ≤ 1) : SatH l G iL_redeem hL_redeem [moM, aI p0, ouM] τ (LwP τ r) := by
  refine SatH_of hc.1.1 hc.1.2 (by decide +kernel) (Nat.le_of_ble_eq_true rfl) (fun x hB hT => ?_)
  refine V_run hB (rt := some .int) (nL := 4) (mc := 1) rfl rfl rfl (ops := [(0, .aload_n 2, 1, (2, 0, 0, 0, 0, 0), 0), (1, .iconst 0, 1, (0, 0, 0, 0, 0, 0), nI 0), (2, .aload_n 0, 1, (0, 0, 0, 0, 0, 0), 0), (3, .iload_n 1, 1, (1, 0, 0, 0, 0, 0), 0)]) (by decide +kernel) ?_
  dsimp only [↓wpb, ↓wp1, ↓vI, ↓vL, ↓vD, ↓ldI, ↓ldL, ↓ldD, ↓ldR, ↓k1, ↓k2, ↓kI, ↓kL, ↓kD, ↓kII, ↓kLL, ↓kDD, ↓kR, ↓kIR, ↓kLR, ↓kIIR, ↓kLIR, ↓kDIR, ↓kRIR, ↓kNN, ↓kE, ↓br, ↓bn, ↓rtI, ↓gfv, ↓zchk, lput, ldel, lbad, alA, acat, isRf, dom, dS, dJ, isO, aTy, aLen, elAV, elR, Nat.reduceBEq, Nat.reduceAdd, Bool.or, Bool.and, Nat.add_zero, Nat.zero_add]
  try simp only [Nat.reduceLT, Nat.reduceLeDiff, Nat.reduceEqDiff, true_and, and_true, and_self, Nat.zero_le, Nat.le_refl, true_or, or_true, Bool.false_eq_true, not_false_eq_true, Nat.reduceAdd, Nat.lt_add_one, Nat.zero_lt_one, nI_add, pk_mul, ixL, vpL, ne_eq, reduceIte, wI_sN, wL_sM, sN_same, sN_K, sN_2, sM_1, sM_same, sM_K, sM_s, uI_at, uN_at, enc_at, uI_enc, uI_uI, upM_s, upM_n]
  refine V_callVH hB hT hkL_redeem hN hs rfl (by decide +kernel) cvL_19 (dom1 rfl) npX10_redeem ⟨by decide, by decide⟩ (Nat.le_of_ble_eq_true rfl) (by decide) ?_ ?_
  · intro v t1 hq
    obtain ⟨e, h1, h2⟩ := hq
    by_cases hz : r.1 = 0
    rotate_left
    · rw [if_neg hz] at e; cases e
    rw [if_pos hz] at e
    cases e
    show V x t1 1 7 _ [aI (nI r.2.1), aI (nI 0), ouM]
    refine V_run hB (rt := some .int) (nL := 4) (mc := 1) rfl rfl rfl (ops := [(7, .i2l, 1, (0, 0, 0, 0, 0, 0), 0), (8, .lastore, 1, (0, 0, 0, 0, 0, 0), 0), (9, .goto 6, 3, (15, 0, 0, 0, 0, 0), 0)]) (by decide +kernel) ?_
    dsimp only [↓wpb, ↓wp1, ↓vI, ↓vL, ↓vD, ↓ldI, ↓ldL, ↓ldD, ↓ldR, ↓k1, ↓k2, ↓kI, ↓kL, ↓kD, ↓kII, ↓kLL, ↓kDD, ↓kR, ↓kIR, ↓kLR, ↓kIIR, ↓kLIR, ↓kDIR, ↓kRIR, ↓kNN, ↓kE, ↓br, ↓bn, ↓rtI, ↓gfv, ↓zchk, lput, ldel, lbad, alA, acat, isRf, dom, dS, dJ, isO, aTy, aLen, elAV, elR, Nat.reduceBEq, Nat.reduceAdd, Bool.or, Bool.and, Nat.add_zero, Nat.zero_add]
    try simp only [Nat.reduceLT, Nat.reduceLeDiff, Nat.reduceEqDiff, true_and, and_true, and_self, Nat.zero_le, Nat.le_refl, true_or, or_true, Bool.false_eq_true, not_false_eq_true, Nat.reduceAdd, Nat.lt_add_one, Nat.zero_lt_one, nI_add, pk_mul, ixL, vpL, ne_eq, reduceIte, wI_sN, wL_sM, sN_same, sN_K, sN_2, sM_1, sM_same, sM_K, sM_s, uI_at, uN_at, enc_at, uI_enc, uI_uI, upM_s, upM_n]
    refine V_run hB (rt := some .int) (nL := 4) (mc := 1) rfl rfl rfl (ops := [(15, .iconst 0, 1, (0, 0, 0, 0, 0, 0), nI 0), (16, .ireturn, 1, (0, 0, 0, 0, 0, 0), 0)]) (by decide +kernel) ?_
    dsimp only [↓wpb, ↓wp1, ↓vI, ↓vL, ↓vD, ↓ldI, ↓ldL, ↓ldD, ↓ldR, ↓k1, ↓k2, ↓kI, ↓kL, ↓kD, ↓kII, ↓kLL, ↓kDD, ↓kR, ↓kIR, ↓kLR, ↓kIIR, ↓kLIR, ↓kDIR, ↓kRIR, ↓kNN, ↓kE, ↓br, ↓bn, ↓rtI, ↓gfv, ↓zchk, lput, ldel, lbad, alA, acat, isRf, dom, dS, dJ, isO, aTy, aLen, elAV, elR, Nat.reduceBEq, Nat.reduceAdd, Bool.or, Bool.and, Nat.add_zero, Nat.zero_add]
    try simp only [Nat.reduceLT, Nat.reduceLeDiff, Nat.reduceEqDiff, true_and, and_true, and_self, Nat.zero_le, Nat.le_refl, true_or, or_true, Bool.false_eq_true, not_false_eq_true, Nat.reduceAdd, Nat.lt_add_one, Nat.zero_lt_one, nI_add, pk_mul, ixL, vpL, ne_eq, reduceIte, wI_sN, wL_sM, sN_same, sN_K, sN_2, sM_1, sM_same, sM_K, sM_s, uI_at, uN_at, enc_at, uI_enc, uI_uI, upM_s, upM_n]
    exact Lw_ok h1 h2 hz
  · intro E t1 hq
    obtain ⟨e, h1, h2⟩ := hq
    by_cases hz : r.1 = 0
    · rw [if_pos hz] at e; cases e
    rw [if_neg hz] at e
    cases e
    have hk : r.1 = 1 := by omega
    · refine ⟨by rw [hk]; decide +kernel, 12, by rw [hk]; decide +kernel, fun q => ?_⟩
      show V x t1 1 12 _ _
      refine V_run hB (rt := some .int) (nL := 4) (mc := 1) rfl rfl rfl (ops := [(12, .astore_n 3, 1, (3, 0, 0, 0, 0, 0), 0), (13, .iconst 1, 1, (0, 0, 0, 0, 0, 0), nI 1), (14, .ireturn, 1, (0, 0, 0, 0, 0, 0), 0)]) (by decide +kernel) ?_
      dsimp only [↓wpb, ↓wp1, ↓vI, ↓vL, ↓vD, ↓ldI, ↓ldL, ↓ldD, ↓ldR, ↓k1, ↓k2, ↓kI, ↓kL, ↓kD, ↓kII, ↓kLL, ↓kDD, ↓kR, ↓kIR, ↓kLR, ↓kIIR, ↓kLIR, ↓kDIR, ↓kRIR, ↓kNN, ↓kE, ↓br, ↓bn, ↓rtI, ↓gfv, ↓zchk, lput, ldel, lbad, alA, acat, isRf, dom, dS, dJ, isO, aTy, aLen, elAV, elR, Nat.reduceBEq, Nat.reduceAdd, Bool.or, Bool.and, Nat.add_zero, Nat.zero_add]
      try simp only [Nat.reduceLT, Nat.reduceLeDiff, Nat.reduceEqDiff, true_and, and_true, and_self, Nat.zero_le, Nat.le_refl, true_or, or_true, Bool.false_eq_true, not_false_eq_true, Nat.reduceAdd, Nat.lt_add_one, Nat.zero_lt_one, nI_add, pk_mul, ixL, vpL, ne_eq, reduceIte, wI_sN, wL_sM, sN_same, sN_K, sN_2, sM_1, sM_same, sM_K, sM_s, uI_at, uN_at, enc_at, uI_enc, uI_uI, upM_s, upM_n]
      exact Lw_no h1 h2 hz hk
theorem w_extend (hc : CtxE l G) (hN : NcF G) (p0 : Int32) (p1 : Int32) (hs : Sat l G iX10_extend [moM, aI p0, aI p1] τ (XOp [NSE, IAE] τ r)) (hr : r.1 ≤ 2) : SatH l G iL_extend hL_extend [moM, aI p0, aI p1, ouM] τ (LwP τ r) := by
  refine SatH_of hc.1.1 hc.1.2 (by decide +kernel) (Nat.le_of_ble_eq_true rfl) (fun x hB hT => ?_)
  refine V_run hB (rt := some .int) (nL := 5) (mc := 2) rfl rfl rfl (ops := [(0, .aload_n 3, 1, (3, 0, 0, 0, 0, 0), 0), (1, .iconst 0, 1, (0, 0, 0, 0, 0, 0), nI 0), (2, .aload_n 0, 1, (0, 0, 0, 0, 0, 0), 0), (3, .iload_n 1, 1, (1, 0, 0, 0, 0, 0), 0), (4, .iload_n 2, 1, (2, 0, 0, 0, 0, 0), 0)]) (by decide +kernel) ?_
  dsimp only [↓wpb, ↓wp1, ↓vI, ↓vL, ↓vD, ↓ldI, ↓ldL, ↓ldD, ↓ldR, ↓k1, ↓k2, ↓kI, ↓kL, ↓kD, ↓kII, ↓kLL, ↓kDD, ↓kR, ↓kIR, ↓kLR, ↓kIIR, ↓kLIR, ↓kDIR, ↓kRIR, ↓kNN, ↓kE, ↓br, ↓bn, ↓rtI, ↓gfv, ↓zchk, lput, ldel, lbad, alA, acat, isRf, dom, dS, dJ, isO, aTy, aLen, elAV, elR, Nat.reduceBEq, Nat.reduceAdd, Bool.or, Bool.and, Nat.add_zero, Nat.zero_add]
  try simp only [Nat.reduceLT, Nat.reduceLeDiff, Nat.reduceEqDiff, true_and, and_true, and_self, Nat.zero_le, Nat.le_refl, true_or, or_true, Bool.false_eq_true, not_false_eq_true, Nat.reduceAdd, Nat.lt_add_one, Nat.zero_lt_one, nI_add, pk_mul, ixL, vpL, ne_eq, reduceIte, wI_sN, wL_sM, sN_same, sN_K, sN_2, sM_1, sM_same, sM_K, sM_s, uI_at, uN_at, enc_at, uI_enc, uI_uI, upM_s, upM_n]
  refine V_callVH hB hT hkL_extend hN hs rfl (by decide +kernel) cvL_25 (dom1 rfl) npX10_extend ⟨by decide, by decide⟩ (Nat.le_of_ble_eq_true rfl) (by decide) ?_ ?_
  · intro v t1 hq
    obtain ⟨e, h1, h2⟩ := hq
    by_cases hz : r.1 = 0
    rotate_left
    · rw [if_neg hz] at e; cases e
    rw [if_pos hz] at e
    cases e
    show V x t1 2 8 _ [aI (nI r.2.1), aI (nI 0), ouM]
    refine V_run hB (rt := some .int) (nL := 5) (mc := 2) rfl rfl rfl (ops := [(8, .i2l, 1, (0, 0, 0, 0, 0, 0), 0), (9, .lastore, 1, (0, 0, 0, 0, 0, 0), 0), (10, .goto 11, 3, (21, 0, 0, 0, 0, 0), 0)]) (by decide +kernel) ?_
    dsimp only [↓wpb, ↓wp1, ↓vI, ↓vL, ↓vD, ↓ldI, ↓ldL, ↓ldD, ↓ldR, ↓k1, ↓k2, ↓kI, ↓kL, ↓kD, ↓kII, ↓kLL, ↓kDD, ↓kR, ↓kIR, ↓kLR, ↓kIIR, ↓kLIR, ↓kDIR, ↓kRIR, ↓kNN, ↓kE, ↓br, ↓bn, ↓rtI, ↓gfv, ↓zchk, lput, ldel, lbad, alA, acat, isRf, dom, dS, dJ, isO, aTy, aLen, elAV, elR, Nat.reduceBEq, Nat.reduceAdd, Bool.or, Bool.and, Nat.add_zero, Nat.zero_add]
    try simp only [Nat.reduceLT, Nat.reduceLeDiff, Nat.reduceEqDiff, true_and, and_true, and_self, Nat.zero_le, Nat.le_refl, true_or, or_true, Bool.false_eq_true, not_false_eq_true, Nat.reduceAdd, Nat.lt_add_one, Nat.zero_lt_one, nI_add, pk_mul, ixL, vpL, ne_eq, reduceIte, wI_sN, wL_sM, sN_same, sN_K, sN_2, sM_1, sM_same, sM_K, sM_s, uI_at, uN_at, enc_at, uI_enc, uI_uI, upM_s, upM_n]
    refine V_run hB (rt := some .int) (nL := 5) (mc := 2) rfl rfl rfl (ops := [(21, .iconst 0, 1, (0, 0, 0, 0, 0, 0), nI 0), (22, .ireturn, 1, (0, 0, 0, 0, 0, 0), 0)]) (by decide +kernel) ?_
    dsimp only [↓wpb, ↓wp1, ↓vI, ↓vL, ↓vD, ↓ldI, ↓ldL, ↓ldD, ↓ldR, ↓k1, ↓k2, ↓kI, ↓kL, ↓kD, ↓kII, ↓kLL, ↓kDD, ↓kR, ↓kIR, ↓kLR, ↓kIIR, ↓kLIR, ↓kDIR, ↓kRIR, ↓kNN, ↓kE, ↓br, ↓bn, ↓rtI, ↓gfv, ↓zchk, lput, ldel, lbad, alA, acat, isRf, dom, dS, dJ, isO, aTy, aLen, elAV, elR, Nat.reduceBEq, Nat.reduceAdd, Bool.or, Bool.and, Nat.add_zero, Nat.zero_add]
    try simp only [Nat.reduceLT, Nat.reduceLeDiff, Nat.reduceEqDiff, true_and, and_true, and_self, Nat.zero_le, Nat.le_refl, true_or, or_true, Bool.false_eq_true, not_false_eq_true, Nat.reduceAdd, Nat.lt_add_one, Nat.zero_lt_one, nI_add, pk_mul, ixL, vpL, ne_eq, reduceIte, wI_sN, wL_sM, sN_same, sN_K, sN_2, sM_1, sM_same, sM_K, sM_s, uI_at, uN_at, enc_at, uI_enc, uI_uI, upM_s, upM_n]
    exact Lw_ok h1 h2 hz
  · intro E t1 hq
    obtain ⟨e, h1, h2⟩ := hq
    by_cases hz : r.1 = 0
    · rw [if_pos hz] at e; cases e
    rw [if_neg hz] at e
    cases e
    rcases (by omega : r.1 = 1 ∨ r.1 = 2) with hk | hk
    · refine ⟨by rw [hk]; decide +kernel, 13, by rw [hk]; decide +kernel, fun q => ?_⟩
      show V x t1 2 13 _ _
      refine V_run hB (rt := some .int) (nL := 5) (mc := 2) rfl rfl rfl (ops := [(13, .astore 4, 2, (4, 0, 0, 0, 0, 0), 0), (15, .iconst 1, 1, (0, 0, 0, 0, 0, 0), nI 1), (16, .ireturn, 1, (0, 0, 0, 0, 0, 0), 0)]) (by decide +kernel) ?_
      dsimp only [↓wpb, ↓wp1, ↓vI, ↓vL, ↓vD, ↓ldI, ↓ldL, ↓ldD, ↓ldR, ↓k1, ↓k2, ↓kI, ↓kL, ↓kD, ↓kII, ↓kLL, ↓kDD, ↓kR, ↓kIR, ↓kLR, ↓kIIR, ↓kLIR, ↓kDIR, ↓kRIR, ↓kNN, ↓kE, ↓br, ↓bn, ↓rtI, ↓gfv, ↓zchk, lput, ldel, lbad, alA, acat, isRf, dom, dS, dJ, isO, aTy, aLen, elAV, elR, Nat.reduceBEq, Nat.reduceAdd, Bool.or, Bool.and, Nat.add_zero, Nat.zero_add]
      try simp only [Nat.reduceLT, Nat.reduceLeDiff, Nat.reduceEqDiff, true_and, and_true, and_self, Nat.zero_le, Nat.le_refl, true_or, or_true, Bool.false_eq_true, not_false_eq_true, Nat.reduceAdd, Nat.lt_add_one, Nat.zero_lt_one, nI_add, pk_mul, ixL, vpL, ne_eq, reduceIte, wI_sN, wL_sM, sN_same, sN_K, sN_2, sM_1, sM_same, sM_K, sM_s, uI_at, uN_at, enc_at, uI_enc, uI_uI, upM_s, upM_n]
      exact Lw_no h1 h2 hz hk
    · refine ⟨by rw [hk]; decide +kernel, 17, by rw [hk]; decide +kernel, fun q => ?_⟩
      show V x t1 2 17 _ _
      refine V_run hB (rt := some .int) (nL := 5) (mc := 2) rfl rfl rfl (ops := [(17, .astore 4, 2, (4, 0, 0, 0, 0, 0), 0), (19, .iconst 2, 1, (0, 0, 0, 0, 0, 0), nI 2), (20, .ireturn, 1, (0, 0, 0, 0, 0, 0), 0)]) (by decide +kernel) ?_
      dsimp only [↓wpb, ↓wp1, ↓vI, ↓vL, ↓vD, ↓ldI, ↓ldL, ↓ldD, ↓ldR, ↓k1, ↓k2, ↓kI, ↓kL, ↓kD, ↓kII, ↓kLL, ↓kDD, ↓kR, ↓kIR, ↓kLR, ↓kIIR, ↓kLIR, ↓kDIR, ↓kRIR, ↓kNN, ↓kE, ↓br, ↓bn, ↓rtI, ↓gfv, ↓zchk, lput, ldel, lbad, alA, acat, isRf, dom, dS, dJ, isO, aTy, aLen, elAV, elR, Nat.reduceBEq, Nat.reduceAdd, Bool.or, Bool.and, Nat.add_zero, Nat.zero_add]
      try simp only [Nat.reduceLT, Nat.reduceLeDiff, Nat.reduceEqDiff, true_and, and_true, and_self, Nat.zero_le, Nat.le_refl, true_or, or_true, Bool.false_eq_true, not_false_eq_true, Nat.reduceAdd, Nat.lt_add_one, Nat.zero_lt_one, nI_add, pk_mul, ixL, vpL, ne_eq, reduceIte, wI_sN, wL_sM, sN_same, sN_K, sN_2, sM_1, sM_same, sM_K, sM_s, uI_at, uN_at, enc_at, uI_enc, uI_uI, upM_s, upM_n]
      exact Lw_no h1 h2 hz hk
theorem w_passDays (hc : CtxE l G) (hN : NcF G) (p0 : Int32) (hs : Sat l G iX10_passDays [moM, aI p0] τ (XOp [IAE] τ r)) (hr : r.1 ≤ 1) : SatH l G iL_passDays hL_passDays [moM, aI p0, ouM] τ (LwP τ r) := by
  refine SatH_of hc.1.1 hc.1.2 (by decide +kernel) (Nat.le_of_ble_eq_true rfl) (fun x hB hT => ?_)
  refine V_run hB (rt := some .int) (nL := 4) (mc := 1) rfl rfl rfl (ops := [(0, .aload_n 2, 1, (2, 0, 0, 0, 0, 0), 0), (1, .iconst 0, 1, (0, 0, 0, 0, 0, 0), nI 0), (2, .aload_n 0, 1, (0, 0, 0, 0, 0, 0), 0), (3, .iload_n 1, 1, (1, 0, 0, 0, 0, 0), 0)]) (by decide +kernel) ?_
  dsimp only [↓wpb, ↓wp1, ↓vI, ↓vL, ↓vD, ↓ldI, ↓ldL, ↓ldD, ↓ldR, ↓k1, ↓k2, ↓kI, ↓kL, ↓kD, ↓kII, ↓kLL, ↓kDD, ↓kR, ↓kIR, ↓kLR, ↓kIIR, ↓kLIR, ↓kDIR, ↓kRIR, ↓kNN, ↓kE, ↓br, ↓bn, ↓rtI, ↓gfv, ↓zchk, lput, ldel, lbad, alA, acat, isRf, dom, dS, dJ, isO, aTy, aLen, elAV, elR, Nat.reduceBEq, Nat.reduceAdd, Bool.or, Bool.and, Nat.add_zero, Nat.zero_add]
  try simp only [Nat.reduceLT, Nat.reduceLeDiff, Nat.reduceEqDiff, true_and, and_true, and_self, Nat.zero_le, Nat.le_refl, true_or, or_true, Bool.false_eq_true, not_false_eq_true, Nat.reduceAdd, Nat.lt_add_one, Nat.zero_lt_one, nI_add, pk_mul, ixL, vpL, ne_eq, reduceIte, wI_sN, wL_sM, sN_same, sN_K, sN_2, sM_1, sM_same, sM_K, sM_s, uI_at, uN_at, enc_at, uI_enc, uI_uI, upM_s, upM_n]
  refine V_callVH hB hT hkL_passDays hN hs rfl (by decide +kernel) cvL_29 (dom1 rfl) npX10_passDays ⟨by decide, by decide⟩ (Nat.le_of_ble_eq_true rfl) (by decide) ?_ ?_
  · intro v t1 hq
    obtain ⟨e, h1, h2⟩ := hq
    by_cases hz : r.1 = 0
    rotate_left
    · rw [if_neg hz] at e; cases e
    rw [if_pos hz] at e
    cases e
    show V x t1 1 7 _ [aI (nI r.2.1), aI (nI 0), ouM]
    refine V_run hB (rt := some .int) (nL := 4) (mc := 1) rfl rfl rfl (ops := [(7, .i2l, 1, (0, 0, 0, 0, 0, 0), 0), (8, .lastore, 1, (0, 0, 0, 0, 0, 0), 0), (9, .goto 6, 3, (15, 0, 0, 0, 0, 0), 0)]) (by decide +kernel) ?_
    dsimp only [↓wpb, ↓wp1, ↓vI, ↓vL, ↓vD, ↓ldI, ↓ldL, ↓ldD, ↓ldR, ↓k1, ↓k2, ↓kI, ↓kL, ↓kD, ↓kII, ↓kLL, ↓kDD, ↓kR, ↓kIR, ↓kLR, ↓kIIR, ↓kLIR, ↓kDIR, ↓kRIR, ↓kNN, ↓kE, ↓br, ↓bn, ↓rtI, ↓gfv, ↓zchk, lput, ldel, lbad, alA, acat, isRf, dom, dS, dJ, isO, aTy, aLen, elAV, elR, Nat.reduceBEq, Nat.reduceAdd, Bool.or, Bool.and, Nat.add_zero, Nat.zero_add]
    try simp only [Nat.reduceLT, Nat.reduceLeDiff, Nat.reduceEqDiff, true_and, and_true, and_self, Nat.zero_le, Nat.le_refl, true_or, or_true, Bool.false_eq_true, not_false_eq_true, Nat.reduceAdd, Nat.lt_add_one, Nat.zero_lt_one, nI_add, pk_mul, ixL, vpL, ne_eq, reduceIte, wI_sN, wL_sM, sN_same, sN_K, sN_2, sM_1, sM_same, sM_K, sM_s, uI_at, uN_at, enc_at, uI_enc, uI_uI, upM_s, upM_n]
    refine V_run hB (rt := some .int) (nL := 4) (mc := 1) rfl rfl rfl (ops := [(15, .iconst 0, 1, (0, 0, 0, 0, 0, 0), nI 0), (16, .ireturn, 1, (0, 0, 0, 0, 0, 0), 0)]) (by decide +kernel) ?_
    dsimp only [↓wpb, ↓wp1, ↓vI, ↓vL, ↓vD, ↓ldI, ↓ldL, ↓ldD, ↓ldR, ↓k1, ↓k2, ↓kI, ↓kL, ↓kD, ↓kII, ↓kLL, ↓kDD, ↓kR, ↓kIR, ↓kLR, ↓kIIR, ↓kLIR, ↓kDIR, ↓kRIR, ↓kNN, ↓kE, ↓br, ↓bn, ↓rtI, ↓gfv, ↓zchk, lput, ldel, lbad, alA, acat, isRf, dom, dS, dJ, isO, aTy, aLen, elAV, elR, Nat.reduceBEq, Nat.reduceAdd, Bool.or, Bool.and, Nat.add_zero, Nat.zero_add]
    try simp only [Nat.reduceLT, Nat.reduceLeDiff, Nat.reduceEqDiff, true_and, and_true, and_self, Nat.zero_le, Nat.le_refl, true_or, or_true, Bool.false_eq_true, not_false_eq_true, Nat.reduceAdd, Nat.lt_add_one, Nat.zero_lt_one, nI_add, pk_mul, ixL, vpL, ne_eq, reduceIte, wI_sN, wL_sM, sN_same, sN_K, sN_2, sM_1, sM_same, sM_K, sM_s, uI_at, uN_at, enc_at, uI_enc, uI_uI, upM_s, upM_n]
    exact Lw_ok h1 h2 hz
  · intro E t1 hq
    obtain ⟨e, h1, h2⟩ := hq
    by_cases hz : r.1 = 0
    · rw [if_pos hz] at e; cases e
    rw [if_neg hz] at e
    cases e
    have hk : r.1 = 1 := by omega
    · refine ⟨by rw [hk]; decide +kernel, 12, by rw [hk]; decide +kernel, fun q => ?_⟩
      show V x t1 1 12 _ _
      refine V_run hB (rt := some .int) (nL := 4) (mc := 1) rfl rfl rfl (ops := [(12, .astore_n 3, 1, (3, 0, 0, 0, 0, 0), 0), (13, .iconst 1, 1, (0, 0, 0, 0, 0, 0), nI 1), (14, .ireturn, 1, (0, 0, 0, 0, 0, 0), 0)]) (by decide +kernel) ?_
      dsimp only [↓wpb, ↓wp1, ↓vI, ↓vL, ↓vD, ↓ldI, ↓ldL, ↓ldD, ↓ldR, ↓k1, ↓k2, ↓kI, ↓kL, ↓kD, ↓kII, ↓kLL, ↓kDD, ↓kR, ↓kIR, ↓kLR, ↓kIIR, ↓kLIR, ↓kDIR, ↓kRIR, ↓kNN, ↓kE, ↓br, ↓bn, ↓rtI, ↓gfv, ↓zchk, lput, ldel, lbad, alA, acat, isRf, dom, dS, dJ, isO, aTy, aLen, elAV, elR, Nat.reduceBEq, Nat.reduceAdd, Bool.or, Bool.and, Nat.add_zero, Nat.zero_add]
      try simp only [Nat.reduceLT, Nat.reduceLeDiff, Nat.reduceEqDiff, true_and, and_true, and_self, Nat.zero_le, Nat.le_refl, true_or, or_true, Bool.false_eq_true, not_false_eq_true, Nat.reduceAdd, Nat.lt_add_one, Nat.zero_lt_one, nI_add, pk_mul, ixL, vpL, ne_eq, reduceIte, wI_sN, wL_sM, sN_same, sN_K, sN_2, sM_1, sM_same, sM_K, sM_s, uI_at, uN_at, enc_at, uI_enc, uI_uI, upM_s, upM_n]
      exact Lw_no h1 h2 hz hk
theorem w_setPrice (hc : CtxE l G) (hN : NcF G) (p0 : Int32) (hs : Sat l G iX10_setPrice [moM, aI p0] τ (XOp [IAE] τ r)) (hr : r.1 ≤ 1) : SatH l G iL_setPrice hL_setPrice [moM, aI p0, ouM] τ (LwP τ r) := by
  refine SatH_of hc.1.1 hc.1.2 (by decide +kernel) (Nat.le_of_ble_eq_true rfl) (fun x hB hT => ?_)
  refine V_run hB (rt := some .int) (nL := 4) (mc := 1) rfl rfl rfl (ops := [(0, .aload_n 2, 1, (2, 0, 0, 0, 0, 0), 0), (1, .iconst 0, 1, (0, 0, 0, 0, 0, 0), nI 0), (2, .aload_n 0, 1, (0, 0, 0, 0, 0, 0), 0), (3, .iload_n 1, 1, (1, 0, 0, 0, 0, 0), 0)]) (by decide +kernel) ?_
  dsimp only [↓wpb, ↓wp1, ↓vI, ↓vL, ↓vD, ↓ldI, ↓ldL, ↓ldD, ↓ldR, ↓k1, ↓k2, ↓kI, ↓kL, ↓kD, ↓kII, ↓kLL, ↓kDD, ↓kR, ↓kIR, ↓kLR, ↓kIIR, ↓kLIR, ↓kDIR, ↓kRIR, ↓kNN, ↓kE, ↓br, ↓bn, ↓rtI, ↓gfv, ↓zchk, lput, ldel, lbad, alA, acat, isRf, dom, dS, dJ, isO, aTy, aLen, elAV, elR, Nat.reduceBEq, Nat.reduceAdd, Bool.or, Bool.and, Nat.add_zero, Nat.zero_add]
  try simp only [Nat.reduceLT, Nat.reduceLeDiff, Nat.reduceEqDiff, true_and, and_true, and_self, Nat.zero_le, Nat.le_refl, true_or, or_true, Bool.false_eq_true, not_false_eq_true, Nat.reduceAdd, Nat.lt_add_one, Nat.zero_lt_one, nI_add, pk_mul, ixL, vpL, ne_eq, reduceIte, wI_sN, wL_sM, sN_same, sN_K, sN_2, sM_1, sM_same, sM_K, sM_s, uI_at, uN_at, enc_at, uI_enc, uI_uI, upM_s, upM_n]
  refine V_callVH hB hT hkL_setPrice hN hs rfl (by decide +kernel) cvL_32 (dom1 rfl) npX10_setPrice ⟨by decide, by decide⟩ (Nat.le_of_ble_eq_true rfl) (by decide) ?_ ?_
  · intro v t1 hq
    obtain ⟨e, h1, h2⟩ := hq
    by_cases hz : r.1 = 0
    rotate_left
    · rw [if_neg hz] at e; cases e
    rw [if_pos hz] at e
    cases e
    show V x t1 1 7 _ [aI (nI r.2.1), aI (nI 0), ouM]
    refine V_run hB (rt := some .int) (nL := 4) (mc := 1) rfl rfl rfl (ops := [(7, .i2l, 1, (0, 0, 0, 0, 0, 0), 0), (8, .lastore, 1, (0, 0, 0, 0, 0, 0), 0), (9, .goto 6, 3, (15, 0, 0, 0, 0, 0), 0)]) (by decide +kernel) ?_
    dsimp only [↓wpb, ↓wp1, ↓vI, ↓vL, ↓vD, ↓ldI, ↓ldL, ↓ldD, ↓ldR, ↓k1, ↓k2, ↓kI, ↓kL, ↓kD, ↓kII, ↓kLL, ↓kDD, ↓kR, ↓kIR, ↓kLR, ↓kIIR, ↓kLIR, ↓kDIR, ↓kRIR, ↓kNN, ↓kE, ↓br, ↓bn, ↓rtI, ↓gfv, ↓zchk, lput, ldel, lbad, alA, acat, isRf, dom, dS, dJ, isO, aTy, aLen, elAV, elR, Nat.reduceBEq, Nat.reduceAdd, Bool.or, Bool.and, Nat.add_zero, Nat.zero_add]
    try simp only [Nat.reduceLT, Nat.reduceLeDiff, Nat.reduceEqDiff, true_and, and_true, and_self, Nat.zero_le, Nat.le_refl, true_or, or_true, Bool.false_eq_true, not_false_eq_true, Nat.reduceAdd, Nat.lt_add_one, Nat.zero_lt_one, nI_add, pk_mul, ixL, vpL, ne_eq, reduceIte, wI_sN, wL_sM, sN_same, sN_K, sN_2, sM_1, sM_same, sM_K, sM_s, uI_at, uN_at, enc_at, uI_enc, uI_uI, upM_s, upM_n]
    refine V_run hB (rt := some .int) (nL := 4) (mc := 1) rfl rfl rfl (ops := [(15, .iconst 0, 1, (0, 0, 0, 0, 0, 0), nI 0), (16, .ireturn, 1, (0, 0, 0, 0, 0, 0), 0)]) (by decide +kernel) ?_
    dsimp only [↓wpb, ↓wp1, ↓vI, ↓vL, ↓vD, ↓ldI, ↓ldL, ↓ldD, ↓ldR, ↓k1, ↓k2, ↓kI, ↓kL, ↓kD, ↓kII, ↓kLL, ↓kDD, ↓kR, ↓kIR, ↓kLR, ↓kIIR, ↓kLIR, ↓kDIR, ↓kRIR, ↓kNN, ↓kE, ↓br, ↓bn, ↓rtI, ↓gfv, ↓zchk, lput, ldel, lbad, alA, acat, isRf, dom, dS, dJ, isO, aTy, aLen, elAV, elR, Nat.reduceBEq, Nat.reduceAdd, Bool.or, Bool.and, Nat.add_zero, Nat.zero_add]
    try simp only [Nat.reduceLT, Nat.reduceLeDiff, Nat.reduceEqDiff, true_and, and_true, and_self, Nat.zero_le, Nat.le_refl, true_or, or_true, Bool.false_eq_true, not_false_eq_true, Nat.reduceAdd, Nat.lt_add_one, Nat.zero_lt_one, nI_add, pk_mul, ixL, vpL, ne_eq, reduceIte, wI_sN, wL_sM, sN_same, sN_K, sN_2, sM_1, sM_same, sM_K, sM_s, uI_at, uN_at, enc_at, uI_enc, uI_uI, upM_s, upM_n]
    exact Lw_ok h1 h2 hz
  · intro E t1 hq
    obtain ⟨e, h1, h2⟩ := hq
    by_cases hz : r.1 = 0
    · rw [if_pos hz] at e; cases e
    rw [if_neg hz] at e
    cases e
    have hk : r.1 = 1 := by omega
    · refine ⟨by rw [hk]; decide +kernel, 12, by rw [hk]; decide +kernel, fun q => ?_⟩
      show V x t1 1 12 _ _
      refine V_run hB (rt := some .int) (nL := 4) (mc := 1) rfl rfl rfl (ops := [(12, .astore_n 3, 1, (3, 0, 0, 0, 0, 0), 0), (13, .iconst 1, 1, (0, 0, 0, 0, 0, 0), nI 1), (14, .ireturn, 1, (0, 0, 0, 0, 0, 0), 0)]) (by decide +kernel) ?_
      dsimp only [↓wpb, ↓wp1, ↓vI, ↓vL, ↓vD, ↓ldI, ↓ldL, ↓ldD, ↓ldR, ↓k1, ↓k2, ↓kI, ↓kL, ↓kD, ↓kII, ↓kLL, ↓kDD, ↓kR, ↓kIR, ↓kLR, ↓kIIR, ↓kLIR, ↓kDIR, ↓kRIR, ↓kNN, ↓kE, ↓br, ↓bn, ↓rtI, ↓gfv, ↓zchk, lput, ldel, lbad, alA, acat, isRf, dom, dS, dJ, isO, aTy, aLen, elAV, elR, Nat.reduceBEq, Nat.reduceAdd, Bool.or, Bool.and, Nat.add_zero, Nat.zero_add]
      try simp only [Nat.reduceLT, Nat.reduceLeDiff, Nat.reduceEqDiff, true_and, and_true, and_self, Nat.zero_le, Nat.le_refl, true_or, or_true, Bool.false_eq_true, not_false_eq_true, Nat.reduceAdd, Nat.lt_add_one, Nat.zero_lt_one, nI_add, pk_mul, ixL, vpL, ne_eq, reduceIte, wI_sN, wL_sM, sN_same, sN_K, sN_2, sM_1, sM_same, sM_K, sM_s, uI_at, uN_at, enc_at, uI_enc, uI_uI, upM_s, upM_n]
      exact Lw_no h1 h2 hz hk
theorem w_setRate (hc : CtxE l G) (hN : NcF G) (p0 : Int32) (p1 : Int32) (hs : Sat l G iX10_setRate [moM, aI p0, aI p1] τ (XOp [IAE] τ r)) (hr : r.1 ≤ 1) : SatH l G iL_setRate hL_setRate [moM, aI p0, aI p1, ouM] τ (LwP τ r) := by
  refine SatH_of hc.1.1 hc.1.2 (by decide +kernel) (Nat.le_of_ble_eq_true rfl) (fun x hB hT => ?_)
  refine V_run hB (rt := some .int) (nL := 5) (mc := 1) rfl rfl rfl (ops := [(0, .aload_n 3, 1, (3, 0, 0, 0, 0, 0), 0), (1, .iconst 0, 1, (0, 0, 0, 0, 0, 0), nI 0), (2, .aload_n 0, 1, (0, 0, 0, 0, 0, 0), 0), (3, .iload_n 1, 1, (1, 0, 0, 0, 0, 0), 0), (4, .iload_n 2, 1, (2, 0, 0, 0, 0, 0), 0)]) (by decide +kernel) ?_
  dsimp only [↓wpb, ↓wp1, ↓vI, ↓vL, ↓vD, ↓ldI, ↓ldL, ↓ldD, ↓ldR, ↓k1, ↓k2, ↓kI, ↓kL, ↓kD, ↓kII, ↓kLL, ↓kDD, ↓kR, ↓kIR, ↓kLR, ↓kIIR, ↓kLIR, ↓kDIR, ↓kRIR, ↓kNN, ↓kE, ↓br, ↓bn, ↓rtI, ↓gfv, ↓zchk, lput, ldel, lbad, alA, acat, isRf, dom, dS, dJ, isO, aTy, aLen, elAV, elR, Nat.reduceBEq, Nat.reduceAdd, Bool.or, Bool.and, Nat.add_zero, Nat.zero_add]
  try simp only [Nat.reduceLT, Nat.reduceLeDiff, Nat.reduceEqDiff, true_and, and_true, and_self, Nat.zero_le, Nat.le_refl, true_or, or_true, Bool.false_eq_true, not_false_eq_true, Nat.reduceAdd, Nat.lt_add_one, Nat.zero_lt_one, nI_add, pk_mul, ixL, vpL, ne_eq, reduceIte, wI_sN, wL_sM, sN_same, sN_K, sN_2, sM_1, sM_same, sM_K, sM_s, uI_at, uN_at, enc_at, uI_enc, uI_uI, upM_s, upM_n]
  refine V_callVH hB hT hkL_setRate hN hs rfl (by decide +kernel) cvL_35 (dom1 rfl) npX10_setRate ⟨by decide, by decide⟩ (Nat.le_of_ble_eq_true rfl) (by decide) ?_ ?_
  · intro v t1 hq
    obtain ⟨e, h1, h2⟩ := hq
    by_cases hz : r.1 = 0
    rotate_left
    · rw [if_neg hz] at e; cases e
    rw [if_pos hz] at e
    cases e
    show V x t1 1 8 _ [aI (nI r.2.1), aI (nI 0), ouM]
    refine V_run hB (rt := some .int) (nL := 5) (mc := 1) rfl rfl rfl (ops := [(8, .i2l, 1, (0, 0, 0, 0, 0, 0), 0), (9, .lastore, 1, (0, 0, 0, 0, 0, 0), 0), (10, .goto 7, 3, (17, 0, 0, 0, 0, 0), 0)]) (by decide +kernel) ?_
    dsimp only [↓wpb, ↓wp1, ↓vI, ↓vL, ↓vD, ↓ldI, ↓ldL, ↓ldD, ↓ldR, ↓k1, ↓k2, ↓kI, ↓kL, ↓kD, ↓kII, ↓kLL, ↓kDD, ↓kR, ↓kIR, ↓kLR, ↓kIIR, ↓kLIR, ↓kDIR, ↓kRIR, ↓kNN, ↓kE, ↓br, ↓bn, ↓rtI, ↓gfv, ↓zchk, lput, ldel, lbad, alA, acat, isRf, dom, dS, dJ, isO, aTy, aLen, elAV, elR, Nat.reduceBEq, Nat.reduceAdd, Bool.or, Bool.and, Nat.add_zero, Nat.zero_add]
    try simp only [Nat.reduceLT, Nat.reduceLeDiff, Nat.reduceEqDiff, true_and, and_true, and_self, Nat.zero_le, Nat.le_refl, true_or, or_true, Bool.false_eq_true, not_false_eq_true, Nat.reduceAdd, Nat.lt_add_one, Nat.zero_lt_one, nI_add, pk_mul, ixL, vpL, ne_eq, reduceIte, wI_sN, wL_sM, sN_same, sN_K, sN_2, sM_1, sM_same, sM_K, sM_s, uI_at, uN_at, enc_at, uI_enc, uI_uI, upM_s, upM_n]
    refine V_run hB (rt := some .int) (nL := 5) (mc := 1) rfl rfl rfl (ops := [(17, .iconst 0, 1, (0, 0, 0, 0, 0, 0), nI 0), (18, .ireturn, 1, (0, 0, 0, 0, 0, 0), 0)]) (by decide +kernel) ?_
    dsimp only [↓wpb, ↓wp1, ↓vI, ↓vL, ↓vD, ↓ldI, ↓ldL, ↓ldD, ↓ldR, ↓k1, ↓k2, ↓kI, ↓kL, ↓kD, ↓kII, ↓kLL, ↓kDD, ↓kR, ↓kIR, ↓kLR, ↓kIIR, ↓kLIR, ↓kDIR, ↓kRIR, ↓kNN, ↓kE, ↓br, ↓bn, ↓rtI, ↓gfv, ↓zchk, lput, ldel, lbad, alA, acat, isRf, dom, dS, dJ, isO, aTy, aLen, elAV, elR, Nat.reduceBEq, Nat.reduceAdd, Bool.or, Bool.and, Nat.add_zero, Nat.zero_add]
    try simp only [Nat.reduceLT, Nat.reduceLeDiff, Nat.reduceEqDiff, true_and, and_true, and_self, Nat.zero_le, Nat.le_refl, true_or, or_true, Bool.false_eq_true, not_false_eq_true, Nat.reduceAdd, Nat.lt_add_one, Nat.zero_lt_one, nI_add, pk_mul, ixL, vpL, ne_eq, reduceIte, wI_sN, wL_sM, sN_same, sN_K, sN_2, sM_1, sM_same, sM_K, sM_s, uI_at, uN_at, enc_at, uI_enc, uI_uI, upM_s, upM_n]
    exact Lw_ok h1 h2 hz
  · intro E t1 hq
    obtain ⟨e, h1, h2⟩ := hq
    by_cases hz : r.1 = 0
    · rw [if_pos hz] at e; cases e
    rw [if_neg hz] at e
    cases e
    have hk : r.1 = 1 := by omega
    · refine ⟨by rw [hk]; decide +kernel, 13, by rw [hk]; decide +kernel, fun q => ?_⟩
      show V x t1 1 13 _ _
      refine V_run hB (rt := some .int) (nL := 5) (mc := 1) rfl rfl rfl (ops := [(13, .astore 4, 2, (4, 0, 0, 0, 0, 0), 0), (15, .iconst 1, 1, (0, 0, 0, 0, 0, 0), nI 1), (16, .ireturn, 1, (0, 0, 0, 0, 0, 0), 0)]) (by decide +kernel) ?_
      dsimp only [↓wpb, ↓wp1, ↓vI, ↓vL, ↓vD, ↓ldI, ↓ldL, ↓ldD, ↓ldR, ↓k1, ↓k2, ↓kI, ↓kL, ↓kD, ↓kII, ↓kLL, ↓kDD, ↓kR, ↓kIR, ↓kLR, ↓kIIR, ↓kLIR, ↓kDIR, ↓kRIR, ↓kNN, ↓kE, ↓br, ↓bn, ↓rtI, ↓gfv, ↓zchk, lput, ldel, lbad, alA, acat, isRf, dom, dS, dJ, isO, aTy, aLen, elAV, elR, Nat.reduceBEq, Nat.reduceAdd, Bool.or, Bool.and, Nat.add_zero, Nat.zero_add]
      try simp only [Nat.reduceLT, Nat.reduceLeDiff, Nat.reduceEqDiff, true_and, and_true, and_self, Nat.zero_le, Nat.le_refl, true_or, or_true, Bool.false_eq_true, not_false_eq_true, Nat.reduceAdd, Nat.lt_add_one, Nat.zero_lt_one, nI_add, pk_mul, ixL, vpL, ne_eq, reduceIte, wI_sN, wL_sM, sN_same, sN_K, sN_2, sM_1, sM_same, sM_K, sM_s, uI_at, uN_at, enc_at, uI_enc, uI_uI, upM_s, upM_n]
      exact Lw_no h1 h2 hz hk
theorem w_rateOf (hc : CtxE l G) (hN : NcF G) (p0 : Int32) (hs : Sat l G iX10_rateOf [moM, aI p0] τ (XOp [IAE] τ r)) (hr : r.1 ≤ 1) : SatH l G iL_rateOf hL_rateOf [moM, aI p0, ouM] τ (LwP τ r) := by
  refine SatH_of hc.1.1 hc.1.2 (by decide +kernel) (Nat.le_of_ble_eq_true rfl) (fun x hB hT => ?_)
  refine V_run hB (rt := some .int) (nL := 4) (mc := 1) rfl rfl rfl (ops := [(0, .aload_n 2, 1, (2, 0, 0, 0, 0, 0), 0), (1, .iconst 0, 1, (0, 0, 0, 0, 0, 0), nI 0), (2, .aload_n 0, 1, (0, 0, 0, 0, 0, 0), 0), (3, .iload_n 1, 1, (1, 0, 0, 0, 0, 0), 0)]) (by decide +kernel) ?_
  dsimp only [↓wpb, ↓wp1, ↓vI, ↓vL, ↓vD, ↓ldI, ↓ldL, ↓ldD, ↓ldR, ↓k1, ↓k2, ↓kI, ↓kL, ↓kD, ↓kII, ↓kLL, ↓kDD, ↓kR, ↓kIR, ↓kLR, ↓kIIR, ↓kLIR, ↓kDIR, ↓kRIR, ↓kNN, ↓kE, ↓br, ↓bn, ↓rtI, ↓gfv, ↓zchk, lput, ldel, lbad, alA, acat, isRf, dom, dS, dJ, isO, aTy, aLen, elAV, elR, Nat.reduceBEq, Nat.reduceAdd, Bool.or, Bool.and, Nat.add_zero, Nat.zero_add]
  try simp only [Nat.reduceLT, Nat.reduceLeDiff, Nat.reduceEqDiff, true_and, and_true, and_self, Nat.zero_le, Nat.le_refl, true_or, or_true, Bool.false_eq_true, not_false_eq_true, Nat.reduceAdd, Nat.lt_add_one, Nat.zero_lt_one, nI_add, pk_mul, ixL, vpL, ne_eq, reduceIte, wI_sN, wL_sM, sN_same, sN_K, sN_2, sM_1, sM_same, sM_K, sM_s, uI_at, uN_at, enc_at, uI_enc, uI_uI, upM_s, upM_n]
  refine V_callVH hB hT hkL_rateOf hN hs rfl (by decide +kernel) cvL_38 (dom1 rfl) npX10_rateOf ⟨by decide, by decide⟩ (Nat.le_of_ble_eq_true rfl) (by decide) ?_ ?_
  · intro v t1 hq
    obtain ⟨e, h1, h2⟩ := hq
    by_cases hz : r.1 = 0
    rotate_left
    · rw [if_neg hz] at e; cases e
    rw [if_pos hz] at e
    cases e
    show V x t1 1 7 _ [aI (nI r.2.1), aI (nI 0), ouM]
    refine V_run hB (rt := some .int) (nL := 4) (mc := 1) rfl rfl rfl (ops := [(7, .i2l, 1, (0, 0, 0, 0, 0, 0), 0), (8, .lastore, 1, (0, 0, 0, 0, 0, 0), 0), (9, .goto 6, 3, (15, 0, 0, 0, 0, 0), 0)]) (by decide +kernel) ?_
    dsimp only [↓wpb, ↓wp1, ↓vI, ↓vL, ↓vD, ↓ldI, ↓ldL, ↓ldD, ↓ldR, ↓k1, ↓k2, ↓kI, ↓kL, ↓kD, ↓kII, ↓kLL, ↓kDD, ↓kR, ↓kIR, ↓kLR, ↓kIIR, ↓kLIR, ↓kDIR, ↓kRIR, ↓kNN, ↓kE, ↓br, ↓bn, ↓rtI, ↓gfv, ↓zchk, lput, ldel, lbad, alA, acat, isRf, dom, dS, dJ, isO, aTy, aLen, elAV, elR, Nat.reduceBEq, Nat.reduceAdd, Bool.or, Bool.and, Nat.add_zero, Nat.zero_add]
    try simp only [Nat.reduceLT, Nat.reduceLeDiff, Nat.reduceEqDiff, true_and, and_true, and_self, Nat.zero_le, Nat.le_refl, true_or, or_true, Bool.false_eq_true, not_false_eq_true, Nat.reduceAdd, Nat.lt_add_one, Nat.zero_lt_one, nI_add, pk_mul, ixL, vpL, ne_eq, reduceIte, wI_sN, wL_sM, sN_same, sN_K, sN_2, sM_1, sM_same, sM_K, sM_s, uI_at, uN_at, enc_at, uI_enc, uI_uI, upM_s, upM_n]
    refine V_run hB (rt := some .int) (nL := 4) (mc := 1) rfl rfl rfl (ops := [(15, .iconst 0, 1, (0, 0, 0, 0, 0, 0), nI 0), (16, .ireturn, 1, (0, 0, 0, 0, 0, 0), 0)]) (by decide +kernel) ?_
    dsimp only [↓wpb, ↓wp1, ↓vI, ↓vL, ↓vD, ↓ldI, ↓ldL, ↓ldD, ↓ldR, ↓k1, ↓k2, ↓kI, ↓kL, ↓kD, ↓kII, ↓kLL, ↓kDD, ↓kR, ↓kIR, ↓kLR, ↓kIIR, ↓kLIR, ↓kDIR, ↓kRIR, ↓kNN, ↓kE, ↓br, ↓bn, ↓rtI, ↓gfv, ↓zchk, lput, ldel, lbad, alA, acat, isRf, dom, dS, dJ, isO, aTy, aLen, elAV, elR, Nat.reduceBEq, Nat.reduceAdd, Bool.or, Bool.and, Nat.add_zero, Nat.zero_add]
    try simp only [Nat.reduceLT, Nat.reduceLeDiff, Nat.reduceEqDiff, true_and, and_true, and_self, Nat.zero_le, Nat.le_refl, true_or, or_true, Bool.false_eq_true, not_false_eq_true, Nat.reduceAdd, Nat.lt_add_one, Nat.zero_lt_one, nI_add, pk_mul, ixL, vpL, ne_eq, reduceIte, wI_sN, wL_sM, sN_same, sN_K, sN_2, sM_1, sM_same, sM_K, sM_s, uI_at, uN_at, enc_at, uI_enc, uI_uI, upM_s, upM_n]
    exact Lw_ok h1 h2 hz
  · intro E t1 hq
    obtain ⟨e, h1, h2⟩ := hq
    by_cases hz : r.1 = 0
    · rw [if_pos hz] at e; cases e
    rw [if_neg hz] at e
    cases e
    have hk : r.1 = 1 := by omega
    · refine ⟨by rw [hk]; decide +kernel, 12, by rw [hk]; decide +kernel, fun q => ?_⟩
      show V x t1 1 12 _ _
      refine V_run hB (rt := some .int) (nL := 4) (mc := 1) rfl rfl rfl (ops := [(12, .astore_n 3, 1, (3, 0, 0, 0, 0, 0), 0), (13, .iconst 1, 1, (0, 0, 0, 0, 0, 0), nI 1), (14, .ireturn, 1, (0, 0, 0, 0, 0, 0), 0)]) (by decide +kernel) ?_
      dsimp only [↓wpb, ↓wp1, ↓vI, ↓vL, ↓vD, ↓ldI, ↓ldL, ↓ldD, ↓ldR, ↓k1, ↓k2, ↓kI, ↓kL, ↓kD, ↓kII, ↓kLL, ↓kDD, ↓kR, ↓kIR, ↓kLR, ↓kIIR, ↓kLIR, ↓kDIR, ↓kRIR, ↓kNN, ↓kE, ↓br, ↓bn, ↓rtI, ↓gfv, ↓zchk, lput, ldel, lbad, alA, acat, isRf, dom, dS, dJ, isO, aTy, aLen, elAV, elR, Nat.reduceBEq, Nat.reduceAdd, Bool.or, Bool.and, Nat.add_zero, Nat.zero_add]
      try simp only [Nat.reduceLT, Nat.reduceLeDiff, Nat.reduceEqDiff, true_and, and_true, and_self, Nat.zero_le, Nat.le_refl, true_or, or_true, Bool.false_eq_true, not_false_eq_true, Nat.reduceAdd, Nat.lt_add_one, Nat.zero_lt_one, nI_add, pk_mul, ixL, vpL, ne_eq, reduceIte, wI_sN, wL_sM, sN_same, sN_K, sN_2, sM_1, sM_same, sM_K, sM_s, uI_at, uN_at, enc_at, uI_enc, uI_uI, upM_s, upM_n]
      exact Lw_no h1 h2 hz hk
theorem w_pledgeAt (hc : CtxE l G) (hN : NcF G) (p0 : Int32) (hs : Sat l G iX10_pledgeAt [moM, aI p0] τ (XOp [IOE] τ r)) (hr : r.1 ≤ 1) : SatH l G iL_pledgeAt hL_pledgeAt [moM, aI p0, ouM] τ (LwP τ r) := by
  refine SatH_of hc.1.1 hc.1.2 (by decide +kernel) (Nat.le_of_ble_eq_true rfl) (fun x hB hT => ?_)
  refine V_run hB (rt := some .int) (nL := 4) (mc := 1) rfl rfl rfl (ops := [(0, .aload_n 2, 1, (2, 0, 0, 0, 0, 0), 0), (1, .iconst 0, 1, (0, 0, 0, 0, 0, 0), nI 0), (2, .aload_n 0, 1, (0, 0, 0, 0, 0, 0), 0), (3, .iload_n 1, 1, (1, 0, 0, 0, 0, 0), 0)]) (by decide +kernel) ?_
  dsimp only [↓wpb, ↓wp1, ↓vI, ↓vL, ↓vD, ↓ldI, ↓ldL, ↓ldD, ↓ldR, ↓k1, ↓k2, ↓kI, ↓kL, ↓kD, ↓kII, ↓kLL, ↓kDD, ↓kR, ↓kIR, ↓kLR, ↓kIIR, ↓kLIR, ↓kDIR, ↓kRIR, ↓kNN, ↓kE, ↓br, ↓bn, ↓rtI, ↓gfv, ↓zchk, lput, ldel, lbad, alA, acat, isRf, dom, dS, dJ, isO, aTy, aLen, elAV, elR, Nat.reduceBEq, Nat.reduceAdd, Bool.or, Bool.and, Nat.add_zero, Nat.zero_add]
  try simp only [Nat.reduceLT, Nat.reduceLeDiff, Nat.reduceEqDiff, true_and, and_true, and_self, Nat.zero_le, Nat.le_refl, true_or, or_true, Bool.false_eq_true, not_false_eq_true, Nat.reduceAdd, Nat.lt_add_one, Nat.zero_lt_one, nI_add, pk_mul, ixL, vpL, ne_eq, reduceIte, wI_sN, wL_sM, sN_same, sN_K, sN_2, sM_1, sM_same, sM_K, sM_s, uI_at, uN_at, enc_at, uI_enc, uI_uI, upM_s, upM_n]
  refine V_callVH hB hT hkL_pledgeAt hN hs rfl (by decide +kernel) cvL_41 (dom1 rfl) npX10_pledgeAt ⟨by decide, by decide⟩ (Nat.le_of_ble_eq_true rfl) (by decide) ?_ ?_
  · intro v t1 hq
    obtain ⟨e, h1, h2⟩ := hq
    by_cases hz : r.1 = 0
    rotate_left
    · rw [if_neg hz] at e; cases e
    rw [if_pos hz] at e
    cases e
    show V x t1 1 7 _ [aI (nI r.2.1), aI (nI 0), ouM]
    refine V_run hB (rt := some .int) (nL := 4) (mc := 1) rfl rfl rfl (ops := [(7, .i2l, 1, (0, 0, 0, 0, 0, 0), 0), (8, .lastore, 1, (0, 0, 0, 0, 0, 0), 0), (9, .goto 6, 3, (15, 0, 0, 0, 0, 0), 0)]) (by decide +kernel) ?_
    dsimp only [↓wpb, ↓wp1, ↓vI, ↓vL, ↓vD, ↓ldI, ↓ldL, ↓ldD, ↓ldR, ↓k1, ↓k2, ↓kI, ↓kL, ↓kD, ↓kII, ↓kLL, ↓kDD, ↓kR, ↓kIR, ↓kLR, ↓kIIR, ↓kLIR, ↓kDIR, ↓kRIR, ↓kNN, ↓kE, ↓br, ↓bn, ↓rtI, ↓gfv, ↓zchk, lput, ldel, lbad, alA, acat, isRf, dom, dS, dJ, isO, aTy, aLen, elAV, elR, Nat.reduceBEq, Nat.reduceAdd, Bool.or, Bool.and, Nat.add_zero, Nat.zero_add]
    try simp only [Nat.reduceLT, Nat.reduceLeDiff, Nat.reduceEqDiff, true_and, and_true, and_self, Nat.zero_le, Nat.le_refl, true_or, or_true, Bool.false_eq_true, not_false_eq_true, Nat.reduceAdd, Nat.lt_add_one, Nat.zero_lt_one, nI_add, pk_mul, ixL, vpL, ne_eq, reduceIte, wI_sN, wL_sM, sN_same, sN_K, sN_2, sM_1, sM_same, sM_K, sM_s, uI_at, uN_at, enc_at, uI_enc, uI_uI, upM_s, upM_n]
    refine V_run hB (rt := some .int) (nL := 4) (mc := 1) rfl rfl rfl (ops := [(15, .iconst 0, 1, (0, 0, 0, 0, 0, 0), nI 0), (16, .ireturn, 1, (0, 0, 0, 0, 0, 0), 0)]) (by decide +kernel) ?_
    dsimp only [↓wpb, ↓wp1, ↓vI, ↓vL, ↓vD, ↓ldI, ↓ldL, ↓ldD, ↓ldR, ↓k1, ↓k2, ↓kI, ↓kL, ↓kD, ↓kII, ↓kLL, ↓kDD, ↓kR, ↓kIR, ↓kLR, ↓kIIR, ↓kLIR, ↓kDIR, ↓kRIR, ↓kNN, ↓kE, ↓br, ↓bn, ↓rtI, ↓gfv, ↓zchk, lput, ldel, lbad, alA, acat, isRf, dom, dS, dJ, isO, aTy, aLen, elAV, elR, Nat.reduceBEq, Nat.reduceAdd, Bool.or, Bool.and, Nat.add_zero, Nat.zero_add]
    try simp only [Nat.reduceLT, Nat.reduceLeDiff, Nat.reduceEqDiff, true_and, and_true, and_self, Nat.zero_le, Nat.le_refl, true_or, or_true, Bool.false_eq_true, not_false_eq_true, Nat.reduceAdd, Nat.lt_add_one, Nat.zero_lt_one, nI_add, pk_mul, ixL, vpL, ne_eq, reduceIte, wI_sN, wL_sM, sN_same, sN_K, sN_2, sM_1, sM_same, sM_K, sM_s, uI_at, uN_at, enc_at, uI_enc, uI_uI, upM_s, upM_n]
    exact Lw_ok h1 h2 hz
  · intro E t1 hq
    obtain ⟨e, h1, h2⟩ := hq
    by_cases hz : r.1 = 0
    · rw [if_pos hz] at e; cases e
    rw [if_neg hz] at e
    cases e
    have hk : r.1 = 1 := by omega
    · refine ⟨by rw [hk]; decide +kernel, 12, by rw [hk]; decide +kernel, fun q => ?_⟩
      show V x t1 1 12 _ _
      refine V_run hB (rt := some .int) (nL := 4) (mc := 1) rfl rfl rfl (ops := [(12, .astore_n 3, 1, (3, 0, 0, 0, 0, 0), 0), (13, .iconst 1, 1, (0, 0, 0, 0, 0, 0), nI 1), (14, .ireturn, 1, (0, 0, 0, 0, 0, 0), 0)]) (by decide +kernel) ?_
      dsimp only [↓wpb, ↓wp1, ↓vI, ↓vL, ↓vD, ↓ldI, ↓ldL, ↓ldD, ↓ldR, ↓k1, ↓k2, ↓kI, ↓kL, ↓kD, ↓kII, ↓kLL, ↓kDD, ↓kR, ↓kIR, ↓kLR, ↓kIIR, ↓kLIR, ↓kDIR, ↓kRIR, ↓kNN, ↓kE, ↓br, ↓bn, ↓rtI, ↓gfv, ↓zchk, lput, ldel, lbad, alA, acat, isRf, dom, dS, dJ, isO, aTy, aLen, elAV, elR, Nat.reduceBEq, Nat.reduceAdd, Bool.or, Bool.and, Nat.add_zero, Nat.zero_add]
      try simp only [Nat.reduceLT, Nat.reduceLeDiff, Nat.reduceEqDiff, true_and, and_true, and_self, Nat.zero_le, Nat.le_refl, true_or, or_true, Bool.false_eq_true, not_false_eq_true, Nat.reduceAdd, Nat.lt_add_one, Nat.zero_lt_one, nI_add, pk_mul, ixL, vpL, ne_eq, reduceIte, wI_sN, wL_sM, sN_same, sN_K, sN_2, sM_1, sM_same, sM_K, sM_s, uI_at, uN_at, enc_at, uI_enc, uI_uI, upM_s, upM_n]
      exact Lw_no h1 h2 hz hk
theorem w_customerOf (hc : CtxE l G) (hN : NcF G) (p0 : Int32) (hs : Sat l G iX10_customerOf [moM, aI p0] τ (XOp [NSE] τ r)) (hr : r.1 ≤ 1) : SatH l G iL_customerOf hL_customerOf [moM, aI p0, ouM] τ (LwP τ r) := by
  refine SatH_of hc.1.1 hc.1.2 (by decide +kernel) (Nat.le_of_ble_eq_true rfl) (fun x hB hT => ?_)
  refine V_run hB (rt := some .int) (nL := 4) (mc := 1) rfl rfl rfl (ops := [(0, .aload_n 2, 1, (2, 0, 0, 0, 0, 0), 0), (1, .iconst 0, 1, (0, 0, 0, 0, 0, 0), nI 0), (2, .aload_n 0, 1, (0, 0, 0, 0, 0, 0), 0), (3, .iload_n 1, 1, (1, 0, 0, 0, 0, 0), 0)]) (by decide +kernel) ?_
  dsimp only [↓wpb, ↓wp1, ↓vI, ↓vL, ↓vD, ↓ldI, ↓ldL, ↓ldD, ↓ldR, ↓k1, ↓k2, ↓kI, ↓kL, ↓kD, ↓kII, ↓kLL, ↓kDD, ↓kR, ↓kIR, ↓kLR, ↓kIIR, ↓kLIR, ↓kDIR, ↓kRIR, ↓kNN, ↓kE, ↓br, ↓bn, ↓rtI, ↓gfv, ↓zchk, lput, ldel, lbad, alA, acat, isRf, dom, dS, dJ, isO, aTy, aLen, elAV, elR, Nat.reduceBEq, Nat.reduceAdd, Bool.or, Bool.and, Nat.add_zero, Nat.zero_add]
  try simp only [Nat.reduceLT, Nat.reduceLeDiff, Nat.reduceEqDiff, true_and, and_true, and_self, Nat.zero_le, Nat.le_refl, true_or, or_true, Bool.false_eq_true, not_false_eq_true, Nat.reduceAdd, Nat.lt_add_one, Nat.zero_lt_one, nI_add, pk_mul, ixL, vpL, ne_eq, reduceIte, wI_sN, wL_sM, sN_same, sN_K, sN_2, sM_1, sM_same, sM_K, sM_s, uI_at, uN_at, enc_at, uI_enc, uI_uI, upM_s, upM_n]
  refine V_callVH hB hT hkL_customerOf hN hs rfl (by decide +kernel) cvL_46 (dom1 rfl) npX10_customerOf ⟨by decide, by decide⟩ (Nat.le_of_ble_eq_true rfl) (by decide) ?_ ?_
  · intro v t1 hq
    obtain ⟨e, h1, h2⟩ := hq
    by_cases hz : r.1 = 0
    rotate_left
    · rw [if_neg hz] at e; cases e
    rw [if_pos hz] at e
    cases e
    show V x t1 1 7 _ [aI (nI r.2.1), aI (nI 0), ouM]
    refine V_run hB (rt := some .int) (nL := 4) (mc := 1) rfl rfl rfl (ops := [(7, .i2l, 1, (0, 0, 0, 0, 0, 0), 0), (8, .lastore, 1, (0, 0, 0, 0, 0, 0), 0), (9, .goto 6, 3, (15, 0, 0, 0, 0, 0), 0)]) (by decide +kernel) ?_
    dsimp only [↓wpb, ↓wp1, ↓vI, ↓vL, ↓vD, ↓ldI, ↓ldL, ↓ldD, ↓ldR, ↓k1, ↓k2, ↓kI, ↓kL, ↓kD, ↓kII, ↓kLL, ↓kDD, ↓kR, ↓kIR, ↓kLR, ↓kIIR, ↓kLIR, ↓kDIR, ↓kRIR, ↓kNN, ↓kE, ↓br, ↓bn, ↓rtI, ↓gfv, ↓zchk, lput, ldel, lbad, alA, acat, isRf, dom, dS, dJ, isO, aTy, aLen, elAV, elR, Nat.reduceBEq, Nat.reduceAdd, Bool.or, Bool.and, Nat.add_zero, Nat.zero_add]
    try simp only [Nat.reduceLT, Nat.reduceLeDiff, Nat.reduceEqDiff, true_and, and_true, and_self, Nat.zero_le, Nat.le_refl, true_or, or_true, Bool.false_eq_true, not_false_eq_true, Nat.reduceAdd, Nat.lt_add_one, Nat.zero_lt_one, nI_add, pk_mul, ixL, vpL, ne_eq, reduceIte, wI_sN, wL_sM, sN_same, sN_K, sN_2, sM_1, sM_same, sM_K, sM_s, uI_at, uN_at, enc_at, uI_enc, uI_uI, upM_s, upM_n]
    refine V_run hB (rt := some .int) (nL := 4) (mc := 1) rfl rfl rfl (ops := [(15, .iconst 0, 1, (0, 0, 0, 0, 0, 0), nI 0), (16, .ireturn, 1, (0, 0, 0, 0, 0, 0), 0)]) (by decide +kernel) ?_
    dsimp only [↓wpb, ↓wp1, ↓vI, ↓vL, ↓vD, ↓ldI, ↓ldL, ↓ldD, ↓ldR, ↓k1, ↓k2, ↓kI, ↓kL, ↓kD, ↓kII, ↓kLL, ↓kDD, ↓kR, ↓kIR, ↓kLR, ↓kIIR, ↓kLIR, ↓kDIR, ↓kRIR, ↓kNN, ↓kE, ↓br, ↓bn, ↓rtI, ↓gfv, ↓zchk, lput, ldel, lbad, alA, acat, isRf, dom, dS, dJ, isO, aTy, aLen, elAV, elR, Nat.reduceBEq, Nat.reduceAdd, Bool.or, Bool.and, Nat.add_zero, Nat.zero_add]
    try simp only [Nat.reduceLT, Nat.reduceLeDiff, Nat.reduceEqDiff, true_and, and_true, and_self, Nat.zero_le, Nat.le_refl, true_or, or_true, Bool.false_eq_true, not_false_eq_true, Nat.reduceAdd, Nat.lt_add_one, Nat.zero_lt_one, nI_add, pk_mul, ixL, vpL, ne_eq, reduceIte, wI_sN, wL_sM, sN_same, sN_K, sN_2, sM_1, sM_same, sM_K, sM_s, uI_at, uN_at, enc_at, uI_enc, uI_uI, upM_s, upM_n]
    exact Lw_ok h1 h2 hz
  · intro E t1 hq
    obtain ⟨e, h1, h2⟩ := hq
    by_cases hz : r.1 = 0
    · rw [if_pos hz] at e; cases e
    rw [if_neg hz] at e
    cases e
    have hk : r.1 = 1 := by omega
    · refine ⟨by rw [hk]; decide +kernel, 12, by rw [hk]; decide +kernel, fun q => ?_⟩
      show V x t1 1 12 _ _
      refine V_run hB (rt := some .int) (nL := 4) (mc := 1) rfl rfl rfl (ops := [(12, .astore_n 3, 1, (3, 0, 0, 0, 0, 0), 0), (13, .iconst 1, 1, (0, 0, 0, 0, 0, 0), nI 1), (14, .ireturn, 1, (0, 0, 0, 0, 0, 0), 0)]) (by decide +kernel) ?_
      dsimp only [↓wpb, ↓wp1, ↓vI, ↓vL, ↓vD, ↓ldI, ↓ldL, ↓ldD, ↓ldR, ↓k1, ↓k2, ↓kI, ↓kL, ↓kD, ↓kII, ↓kLL, ↓kDD, ↓kR, ↓kIR, ↓kLR, ↓kIIR, ↓kLIR, ↓kDIR, ↓kRIR, ↓kNN, ↓kE, ↓br, ↓bn, ↓rtI, ↓gfv, ↓zchk, lput, ldel, lbad, alA, acat, isRf, dom, dS, dJ, isO, aTy, aLen, elAV, elR, Nat.reduceBEq, Nat.reduceAdd, Bool.or, Bool.and, Nat.add_zero, Nat.zero_add]
      try simp only [Nat.reduceLT, Nat.reduceLeDiff, Nat.reduceEqDiff, true_and, and_true, and_self, Nat.zero_le, Nat.le_refl, true_or, or_true, Bool.false_eq_true, not_false_eq_true, Nat.reduceAdd, Nat.lt_add_one, Nat.zero_lt_one, nI_add, pk_mul, ixL, vpL, ne_eq, reduceIte, wI_sN, wL_sM, sN_same, sN_K, sN_2, sM_1, sM_same, sM_K, sM_s, uI_at, uN_at, enc_at, uI_enc, uI_uI, upM_s, upM_n]
      exact Lw_no h1 h2 hz hk
theorem w_minutesOf (hc : CtxE l G) (hN : NcF G) (p0 : Int32) (hs : Sat l G iX10_minutesOf [moM, aI p0] τ (XOp [NSE] τ r)) (hr : r.1 ≤ 1) : SatH l G iL_minutesOf hL_minutesOf [moM, aI p0, ouM] τ (LwP τ r) := by
  refine SatH_of hc.1.1 hc.1.2 (by decide +kernel) (Nat.le_of_ble_eq_true rfl) (fun x hB hT => ?_)
  refine V_run hB (rt := some .int) (nL := 4) (mc := 1) rfl rfl rfl (ops := [(0, .aload_n 2, 1, (2, 0, 0, 0, 0, 0), 0), (1, .iconst 0, 1, (0, 0, 0, 0, 0, 0), nI 0), (2, .aload_n 0, 1, (0, 0, 0, 0, 0, 0), 0), (3, .iload_n 1, 1, (1, 0, 0, 0, 0, 0), 0)]) (by decide +kernel) ?_
  dsimp only [↓wpb, ↓wp1, ↓vI, ↓vL, ↓vD, ↓ldI, ↓ldL, ↓ldD, ↓ldR, ↓k1, ↓k2, ↓kI, ↓kL, ↓kD, ↓kII, ↓kLL, ↓kDD, ↓kR, ↓kIR, ↓kLR, ↓kIIR, ↓kLIR, ↓kDIR, ↓kRIR, ↓kNN, ↓kE, ↓br, ↓bn, ↓rtI, ↓gfv, ↓zchk, lput, ldel, lbad, alA, acat, isRf, dom, dS, dJ, isO, aTy, aLen, elAV, elR, Nat.reduceBEq, Nat.reduceAdd, Bool.or, Bool.and, Nat.add_zero, Nat.zero_add]
  try simp only [Nat.reduceLT, Nat.reduceLeDiff, Nat.reduceEqDiff, true_and, and_true, and_self, Nat.zero_le, Nat.le_refl, true_or, or_true, Bool.false_eq_true, not_false_eq_true, Nat.reduceAdd, Nat.lt_add_one, Nat.zero_lt_one, nI_add, pk_mul, ixL, vpL, ne_eq, reduceIte, wI_sN, wL_sM, sN_same, sN_K, sN_2, sM_1, sM_same, sM_K, sM_s, uI_at, uN_at, enc_at, uI_enc, uI_uI, upM_s, upM_n]
  refine V_callVH hB hT hkL_minutesOf hN hs rfl (by decide +kernel) cvL_49 (dom1 rfl) npX10_minutesOf ⟨by decide, by decide⟩ (Nat.le_of_ble_eq_true rfl) (by decide) ?_ ?_
  · intro v t1 hq
    obtain ⟨e, h1, h2⟩ := hq
    by_cases hz : r.1 = 0
    rotate_left
    · rw [if_neg hz] at e; cases e
    rw [if_pos hz] at e
    cases e
    show V x t1 1 7 _ [aI (nI r.2.1), aI (nI 0), ouM]
    refine V_run hB (rt := some .int) (nL := 4) (mc := 1) rfl rfl rfl (ops := [(7, .i2l, 1, (0, 0, 0, 0, 0, 0), 0), (8, .lastore, 1, (0, 0, 0, 0, 0, 0), 0), (9, .goto 6, 3, (15, 0, 0, 0, 0, 0), 0)]) (by decide +kernel) ?_
    dsimp only [↓wpb, ↓wp1, ↓vI, ↓vL, ↓vD, ↓ldI, ↓ldL, ↓ldD, ↓ldR, ↓k1, ↓k2, ↓kI, ↓kL, ↓kD, ↓kII, ↓kLL, ↓kDD, ↓kR, ↓kIR, ↓kLR, ↓kIIR, ↓kLIR, ↓kDIR, ↓kRIR, ↓kNN, ↓kE, ↓br, ↓bn, ↓rtI, ↓gfv, ↓zchk, lput, ldel, lbad, alA, acat, isRf, dom, dS, dJ, isO, aTy, aLen, elAV, elR, Nat.reduceBEq, Nat.reduceAdd, Bool.or, Bool.and, Nat.add_zero, Nat.zero_add]
    try simp only [Nat.reduceLT, Nat.reduceLeDiff, Nat.reduceEqDiff, true_and, and_true, and_self, Nat.zero_le, Nat.le_refl, true_or, or_true, Bool.false_eq_true, not_false_eq_true, Nat.reduceAdd, Nat.lt_add_one, Nat.zero_lt_one, nI_add, pk_mul, ixL, vpL, ne_eq, reduceIte, wI_sN, wL_sM, sN_same, sN_K, sN_2, sM_1, sM_same, sM_K, sM_s, uI_at, uN_at, enc_at, uI_enc, uI_uI, upM_s, upM_n]
    refine V_run hB (rt := some .int) (nL := 4) (mc := 1) rfl rfl rfl (ops := [(15, .iconst 0, 1, (0, 0, 0, 0, 0, 0), nI 0), (16, .ireturn, 1, (0, 0, 0, 0, 0, 0), 0)]) (by decide +kernel) ?_
    dsimp only [↓wpb, ↓wp1, ↓vI, ↓vL, ↓vD, ↓ldI, ↓ldL, ↓ldD, ↓ldR, ↓k1, ↓k2, ↓kI, ↓kL, ↓kD, ↓kII, ↓kLL, ↓kDD, ↓kR, ↓kIR, ↓kLR, ↓kIIR, ↓kLIR, ↓kDIR, ↓kRIR, ↓kNN, ↓kE, ↓br, ↓bn, ↓rtI, ↓gfv, ↓zchk, lput, ldel, lbad, alA, acat, isRf, dom, dS, dJ, isO, aTy, aLen, elAV, elR, Nat.reduceBEq, Nat.reduceAdd, Bool.or, Bool.and, Nat.add_zero, Nat.zero_add]
    try simp only [Nat.reduceLT, Nat.reduceLeDiff, Nat.reduceEqDiff, true_and, and_true, and_self, Nat.zero_le, Nat.le_refl, true_or, or_true, Bool.false_eq_true, not_false_eq_true, Nat.reduceAdd, Nat.lt_add_one, Nat.zero_lt_one, nI_add, pk_mul, ixL, vpL, ne_eq, reduceIte, wI_sN, wL_sM, sN_same, sN_K, sN_2, sM_1, sM_same, sM_K, sM_s, uI_at, uN_at, enc_at, uI_enc, uI_uI, upM_s, upM_n]
    exact Lw_ok h1 h2 hz
  · intro E t1 hq
    obtain ⟨e, h1, h2⟩ := hq
    by_cases hz : r.1 = 0
    · rw [if_pos hz] at e; cases e
    rw [if_neg hz] at e
    cases e
    have hk : r.1 = 1 := by omega
    · refine ⟨by rw [hk]; decide +kernel, 12, by rw [hk]; decide +kernel, fun q => ?_⟩
      show V x t1 1 12 _ _
      refine V_run hB (rt := some .int) (nL := 4) (mc := 1) rfl rfl rfl (ops := [(12, .astore_n 3, 1, (3, 0, 0, 0, 0, 0), 0), (13, .iconst 1, 1, (0, 0, 0, 0, 0, 0), nI 1), (14, .ireturn, 1, (0, 0, 0, 0, 0, 0), 0)]) (by decide +kernel) ?_
      dsimp only [↓wpb, ↓wp1, ↓vI, ↓vL, ↓vD, ↓ldI, ↓ldL, ↓ldD, ↓ldR, ↓k1, ↓k2, ↓kI, ↓kL, ↓kD, ↓kII, ↓kLL, ↓kDD, ↓kR, ↓kIR, ↓kLR, ↓kIIR, ↓kLIR, ↓kDIR, ↓kRIR, ↓kNN, ↓kE, ↓br, ↓bn, ↓rtI, ↓gfv, ↓zchk, lput, ldel, lbad, alA, acat, isRf, dom, dS, dJ, isO, aTy, aLen, elAV, elR, Nat.reduceBEq, Nat.reduceAdd, Bool.or, Bool.and, Nat.add_zero, Nat.zero_add]
      try simp only [Nat.reduceLT, Nat.reduceLeDiff, Nat.reduceEqDiff, true_and, and_true, and_self, Nat.zero_le, Nat.le_refl, true_or, or_true, Bool.false_eq_true, not_false_eq_true, Nat.reduceAdd, Nat.lt_add_one, Nat.zero_lt_one, nI_add, pk_mul, ixL, vpL, ne_eq, reduceIte, wI_sN, wL_sM, sN_same, sN_K, sN_2, sM_1, sM_same, sM_K, sM_s, uI_at, uN_at, enc_at, uI_enc, uI_uI, upM_s, upM_n]
      exact Lw_no h1 h2 hz hk
theorem w_loanOf (hc : CtxE l G) (hN : NcF G) (p0 : Int32) (hs : Sat l G iX10_loanOf [moM, aI p0] τ (XOp [NSE] τ r)) (hr : r.1 ≤ 1) : SatH l G iL_loanOf hL_loanOf [moM, aI p0, ouM] τ (LwP τ r) := by
  refine SatH_of hc.1.1 hc.1.2 (by decide +kernel) (Nat.le_of_ble_eq_true rfl) (fun x hB hT => ?_)
  refine V_run hB (rt := some .int) (nL := 4) (mc := 1) rfl rfl rfl (ops := [(0, .aload_n 2, 1, (2, 0, 0, 0, 0, 0), 0), (1, .iconst 0, 1, (0, 0, 0, 0, 0, 0), nI 0), (2, .aload_n 0, 1, (0, 0, 0, 0, 0, 0), 0), (3, .iload_n 1, 1, (1, 0, 0, 0, 0, 0), 0)]) (by decide +kernel) ?_
  dsimp only [↓wpb, ↓wp1, ↓vI, ↓vL, ↓vD, ↓ldI, ↓ldL, ↓ldD, ↓ldR, ↓k1, ↓k2, ↓kI, ↓kL, ↓kD, ↓kII, ↓kLL, ↓kDD, ↓kR, ↓kIR, ↓kLR, ↓kIIR, ↓kLIR, ↓kDIR, ↓kRIR, ↓kNN, ↓kE, ↓br, ↓bn, ↓rtI, ↓gfv, ↓zchk, lput, ldel, lbad, alA, acat, isRf, dom, dS, dJ, isO, aTy, aLen, elAV, elR, Nat.reduceBEq, Nat.reduceAdd, Bool.or, Bool.and, Nat.add_zero, Nat.zero_add]
  try simp only [Nat.reduceLT, Nat.reduceLeDiff, Nat.reduceEqDiff, true_and, and_true, and_self, Nat.zero_le, Nat.le_refl, true_or, or_true, Bool.false_eq_true, not_false_eq_true, Nat.reduceAdd, Nat.lt_add_one, Nat.zero_lt_one, nI_add, pk_mul, ixL, vpL, ne_eq, reduceIte, wI_sN, wL_sM, sN_same, sN_K, sN_2, sM_1, sM_same, sM_K, sM_s, uI_at, uN_at, enc_at, uI_enc, uI_uI, upM_s, upM_n]
  refine V_callVH hB hT hkL_loanOf hN hs rfl (by decide +kernel) cvL_52 (dom1 rfl) npX10_loanOf ⟨by decide, by decide⟩ (Nat.le_of_ble_eq_true rfl) (by decide) ?_ ?_
  · intro v t1 hq
    obtain ⟨e, h1, h2⟩ := hq
    by_cases hz : r.1 = 0
    rotate_left
    · rw [if_neg hz] at e; cases e
    rw [if_pos hz] at e
    cases e
    show V x t1 1 7 _ [aI (nI r.2.1), aI (nI 0), ouM]
    refine V_run hB (rt := some .int) (nL := 4) (mc := 1) rfl rfl rfl (ops := [(7, .i2l, 1, (0, 0, 0, 0, 0, 0), 0), (8, .lastore, 1, (0, 0, 0, 0, 0, 0), 0), (9, .goto 6, 3, (15, 0, 0, 0, 0, 0), 0)]) (by decide +kernel) ?_
    dsimp only [↓wpb, ↓wp1, ↓vI, ↓vL, ↓vD, ↓ldI, ↓ldL, ↓ldD, ↓ldR, ↓k1, ↓k2, ↓kI, ↓kL, ↓kD, ↓kII, ↓kLL, ↓kDD, ↓kR, ↓kIR, ↓kLR, ↓kIIR, ↓kLIR, ↓kDIR, ↓kRIR, ↓kNN, ↓kE, ↓br, ↓bn, ↓rtI, ↓gfv, ↓zchk, lput, ldel, lbad, alA, acat, isRf, dom, dS, dJ, isO, aTy, aLen, elAV, elR, Nat.reduceBEq, Nat.reduceAdd, Bool.or, Bool.and, Nat.add_zero, Nat.zero_add]
    try simp only [Nat.reduceLT, Nat.reduceLeDiff, Nat.reduceEqDiff, true_and, and_true, and_self, Nat.zero_le, Nat.le_refl, true_or, or_true, Bool.false_eq_true, not_false_eq_true, Nat.reduceAdd, Nat.lt_add_one, Nat.zero_lt_one, nI_add, pk_mul, ixL, vpL, ne_eq, reduceIte, wI_sN, wL_sM, sN_same, sN_K, sN_2, sM_1, sM_same, sM_K, sM_s, uI_at, uN_at, enc_at, uI_enc, uI_uI, upM_s, upM_n]
    refine V_run hB (rt := some .int) (nL := 4) (mc := 1) rfl rfl rfl (ops := [(15, .iconst 0, 1, (0, 0, 0, 0, 0, 0), nI 0), (16, .ireturn, 1, (0, 0, 0, 0, 0, 0), 0)]) (by decide +kernel) ?_
    dsimp only [↓wpb, ↓wp1, ↓vI, ↓vL, ↓vD, ↓ldI, ↓ldL, ↓ldD, ↓ldR, ↓k1, ↓k2, ↓kI, ↓kL, ↓kD, ↓kII, ↓kLL, ↓kDD, ↓kR, ↓kIR, ↓kLR, ↓kIIR, ↓kLIR, ↓kDIR, ↓kRIR, ↓kNN, ↓kE, ↓br, ↓bn, ↓rtI, ↓gfv, ↓zchk, lput, ldel, lbad, alA, acat, isRf, dom, dS, dJ, isO, aTy, aLen, elAV, elR, Nat.reduceBEq, Nat.reduceAdd, Bool.or, Bool.and, Nat.add_zero, Nat.zero_add]
    try simp only [Nat.reduceLT, Nat.reduceLeDiff, Nat.reduceEqDiff, true_and, and_true, and_self, Nat.zero_le, Nat.le_refl, true_or, or_true, Bool.false_eq_true, not_false_eq_true, Nat.reduceAdd, Nat.lt_add_one, Nat.zero_lt_one, nI_add, pk_mul, ixL, vpL, ne_eq, reduceIte, wI_sN, wL_sM, sN_same, sN_K, sN_2, sM_1, sM_same, sM_K, sM_s, uI_at, uN_at, enc_at, uI_enc, uI_uI, upM_s, upM_n]
    exact Lw_ok h1 h2 hz
  · intro E t1 hq
    obtain ⟨e, h1, h2⟩ := hq
    by_cases hz : r.1 = 0
    · rw [if_pos hz] at e; cases e
    rw [if_neg hz] at e
    cases e
    have hk : r.1 = 1 := by omega
    · refine ⟨by rw [hk]; decide +kernel, 12, by rw [hk]; decide +kernel, fun q => ?_⟩
      show V x t1 1 12 _ _
      refine V_run hB (rt := some .int) (nL := 4) (mc := 1) rfl rfl rfl (ops := [(12, .astore_n 3, 1, (3, 0, 0, 0, 0, 0), 0), (13, .iconst 1, 1, (0, 0, 0, 0, 0, 0), nI 1), (14, .ireturn, 1, (0, 0, 0, 0, 0, 0), 0)]) (by decide +kernel) ?_
      dsimp only [↓wpb, ↓wp1, ↓vI, ↓vL, ↓vD, ↓ldI, ↓ldL, ↓ldD, ↓ldR, ↓k1, ↓k2, ↓kI, ↓kL, ↓kD, ↓kII, ↓kLL, ↓kDD, ↓kR, ↓kIR, ↓kLR, ↓kIIR, ↓kLIR, ↓kDIR, ↓kRIR, ↓kNN, ↓kE, ↓br, ↓bn, ↓rtI, ↓gfv, ↓zchk, lput, ldel, lbad, alA, acat, isRf, dom, dS, dJ, isO, aTy, aLen, elAV, elR, Nat.reduceBEq, Nat.reduceAdd, Bool.or, Bool.and, Nat.add_zero, Nat.zero_add]
      try simp only [Nat.reduceLT, Nat.reduceLeDiff, Nat.reduceEqDiff, true_and, and_true, and_self, Nat.zero_le, Nat.le_refl, true_or, or_true, Bool.false_eq_true, not_false_eq_true, Nat.reduceAdd, Nat.lt_add_one, Nat.zero_lt_one, nI_add, pk_mul, ixL, vpL, ne_eq, reduceIte, wI_sN, wL_sM, sN_same, sN_K, sN_2, sM_1, sM_same, sM_K, sM_s, uI_at, uN_at, enc_at, uI_enc, uI_uI, upM_s, upM_n]
      exact Lw_no h1 h2 hz hk
theorem w_dueDayOf (hc : CtxE l G) (hN : NcF G) (p0 : Int32) (hs : Sat l G iX10_dueDayOf [moM, aI p0] τ (XOp [NSE] τ r)) (hr : r.1 ≤ 1) : SatH l G iL_dueDayOf hL_dueDayOf [moM, aI p0, ouM] τ (LwP τ r) := by
  refine SatH_of hc.1.1 hc.1.2 (by decide +kernel) (Nat.le_of_ble_eq_true rfl) (fun x hB hT => ?_)
  refine V_run hB (rt := some .int) (nL := 4) (mc := 1) rfl rfl rfl (ops := [(0, .aload_n 2, 1, (2, 0, 0, 0, 0, 0), 0), (1, .iconst 0, 1, (0, 0, 0, 0, 0, 0), nI 0), (2, .aload_n 0, 1, (0, 0, 0, 0, 0, 0), 0), (3, .iload_n 1, 1, (1, 0, 0, 0, 0, 0), 0)]) (by decide +kernel) ?_
  dsimp only [↓wpb, ↓wp1, ↓vI, ↓vL, ↓vD, ↓ldI, ↓ldL, ↓ldD, ↓ldR, ↓k1, ↓k2, ↓kI, ↓kL, ↓kD, ↓kII, ↓kLL, ↓kDD, ↓kR, ↓kIR, ↓kLR, ↓kIIR, ↓kLIR, ↓kDIR, ↓kRIR, ↓kNN, ↓kE, ↓br, ↓bn, ↓rtI, ↓gfv, ↓zchk, lput, ldel, lbad, alA, acat, isRf, dom, dS, dJ, isO, aTy, aLen, elAV, elR, Nat.reduceBEq, Nat.reduceAdd, Bool.or, Bool.and, Nat.add_zero, Nat.zero_add]
  try simp only [Nat.reduceLT, Nat.reduceLeDiff, Nat.reduceEqDiff, true_and, and_true, and_self, Nat.zero_le, Nat.le_refl, true_or, or_true, Bool.false_eq_true, not_false_eq_true, Nat.reduceAdd, Nat.lt_add_one, Nat.zero_lt_one, nI_add, pk_mul, ixL, vpL, ne_eq, reduceIte, wI_sN, wL_sM, sN_same, sN_K, sN_2, sM_1, sM_same, sM_K, sM_s, uI_at, uN_at, enc_at, uI_enc, uI_uI, upM_s, upM_n]
  refine V_callVH hB hT hkL_dueDayOf hN hs rfl (by decide +kernel) cvL_55 (dom1 rfl) npX10_dueDayOf ⟨by decide, by decide⟩ (Nat.le_of_ble_eq_true rfl) (by decide) ?_ ?_
  · intro v t1 hq
    obtain ⟨e, h1, h2⟩ := hq
    by_cases hz : r.1 = 0
    rotate_left
    · rw [if_neg hz] at e; cases e
    rw [if_pos hz] at e
    cases e
    show V x t1 1 7 _ [aI (nI r.2.1), aI (nI 0), ouM]
    refine V_run hB (rt := some .int) (nL := 4) (mc := 1) rfl rfl rfl (ops := [(7, .i2l, 1, (0, 0, 0, 0, 0, 0), 0), (8, .lastore, 1, (0, 0, 0, 0, 0, 0), 0), (9, .goto 6, 3, (15, 0, 0, 0, 0, 0), 0)]) (by decide +kernel) ?_
    dsimp only [↓wpb, ↓wp1, ↓vI, ↓vL, ↓vD, ↓ldI, ↓ldL, ↓ldD, ↓ldR, ↓k1, ↓k2, ↓kI, ↓kL, ↓kD, ↓kII, ↓kLL, ↓kDD, ↓kR, ↓kIR, ↓kLR, ↓kIIR, ↓kLIR, ↓kDIR, ↓kRIR, ↓kNN, ↓kE, ↓br, ↓bn, ↓rtI, ↓gfv, ↓zchk, lput, ldel, lbad, alA, acat, isRf, dom, dS, dJ, isO, aTy, aLen, elAV, elR, Nat.reduceBEq, Nat.reduceAdd, Bool.or, Bool.and, Nat.add_zero, Nat.zero_add]
    try simp only [Nat.reduceLT, Nat.reduceLeDiff, Nat.reduceEqDiff, true_and, and_true, and_self, Nat.zero_le, Nat.le_refl, true_or, or_true, Bool.false_eq_true, not_false_eq_true, Nat.reduceAdd, Nat.lt_add_one, Nat.zero_lt_one, nI_add, pk_mul, ixL, vpL, ne_eq, reduceIte, wI_sN, wL_sM, sN_same, sN_K, sN_2, sM_1, sM_same, sM_K, sM_s, uI_at, uN_at, enc_at, uI_enc, uI_uI, upM_s, upM_n]
    refine V_run hB (rt := some .int) (nL := 4) (mc := 1) rfl rfl rfl (ops := [(15, .iconst 0, 1, (0, 0, 0, 0, 0, 0), nI 0), (16, .ireturn, 1, (0, 0, 0, 0, 0, 0), 0)]) (by decide +kernel) ?_
    dsimp only [↓wpb, ↓wp1, ↓vI, ↓vL, ↓vD, ↓ldI, ↓ldL, ↓ldD, ↓ldR, ↓k1, ↓k2, ↓kI, ↓kL, ↓kD, ↓kII, ↓kLL, ↓kDD, ↓kR, ↓kIR, ↓kLR, ↓kIIR, ↓kLIR, ↓kDIR, ↓kRIR, ↓kNN, ↓kE, ↓br, ↓bn, ↓rtI, ↓gfv, ↓zchk, lput, ldel, lbad, alA, acat, isRf, dom, dS, dJ, isO, aTy, aLen, elAV, elR, Nat.reduceBEq, Nat.reduceAdd, Bool.or, Bool.and, Nat.add_zero, Nat.zero_add]
    try simp only [Nat.reduceLT, Nat.reduceLeDiff, Nat.reduceEqDiff, true_and, and_true, and_self, Nat.zero_le, Nat.le_refl, true_or, or_true, Bool.false_eq_true, not_false_eq_true, Nat.reduceAdd, Nat.lt_add_one, Nat.zero_lt_one, nI_add, pk_mul, ixL, vpL, ne_eq, reduceIte, wI_sN, wL_sM, sN_same, sN_K, sN_2, sM_1, sM_same, sM_K, sM_s, uI_at, uN_at, enc_at, uI_enc, uI_uI, upM_s, upM_n]
    exact Lw_ok h1 h2 hz
  · intro E t1 hq
    obtain ⟨e, h1, h2⟩ := hq
    by_cases hz : r.1 = 0
    · rw [if_pos hz] at e; cases e
    rw [if_neg hz] at e
    cases e
    have hk : r.1 = 1 := by omega
    · refine ⟨by rw [hk]; decide +kernel, 12, by rw [hk]; decide +kernel, fun q => ?_⟩
      show V x t1 1 12 _ _
      refine V_run hB (rt := some .int) (nL := 4) (mc := 1) rfl rfl rfl (ops := [(12, .astore_n 3, 1, (3, 0, 0, 0, 0, 0), 0), (13, .iconst 1, 1, (0, 0, 0, 0, 0, 0), nI 1), (14, .ireturn, 1, (0, 0, 0, 0, 0, 0), 0)]) (by decide +kernel) ?_
      dsimp only [↓wpb, ↓wp1, ↓vI, ↓vL, ↓vD, ↓ldI, ↓ldL, ↓ldD, ↓ldR, ↓k1, ↓k2, ↓kI, ↓kL, ↓kD, ↓kII, ↓kLL, ↓kDD, ↓kR, ↓kIR, ↓kLR, ↓kIIR, ↓kLIR, ↓kDIR, ↓kRIR, ↓kNN, ↓kE, ↓br, ↓bn, ↓rtI, ↓gfv, ↓zchk, lput, ldel, lbad, alA, acat, isRf, dom, dS, dJ, isO, aTy, aLen, elAV, elR, Nat.reduceBEq, Nat.reduceAdd, Bool.or, Bool.and, Nat.add_zero, Nat.zero_add]
      try simp only [Nat.reduceLT, Nat.reduceLeDiff, Nat.reduceEqDiff, true_and, and_true, and_self, Nat.zero_le, Nat.le_refl, true_or, or_true, Bool.false_eq_true, not_false_eq_true, Nat.reduceAdd, Nat.lt_add_one, Nat.zero_lt_one, nI_add, pk_mul, ixL, vpL, ne_eq, reduceIte, wI_sN, wL_sM, sN_same, sN_K, sN_2, sM_1, sM_same, sM_K, sM_s, uI_at, uN_at, enc_at, uI_enc, uI_uI, upM_s, upM_n]
      exact Lw_no h1 h2 hz hk
theorem w_pledgeByDueDay (hc : CtxE l G) (hN : NcF G) (p0 : Int32) (hs : Sat l G iX10_pledgeByDueDay [moM, aI p0] τ (XOp [NSE] τ r)) (hr : r.1 ≤ 1) : SatH l G iL_pledgeByDueDay hL_pledgeByDueDay [moM, aI p0, ouM] τ (LwP τ r) := by
  refine SatH_of hc.1.1 hc.1.2 (by decide +kernel) (Nat.le_of_ble_eq_true rfl) (fun x hB hT => ?_)
  refine V_run hB (rt := some .int) (nL := 4) (mc := 1) rfl rfl rfl (ops := [(0, .aload_n 2, 1, (2, 0, 0, 0, 0, 0), 0), (1, .iconst 0, 1, (0, 0, 0, 0, 0, 0), nI 0), (2, .aload_n 0, 1, (0, 0, 0, 0, 0, 0), 0), (3, .iload_n 1, 1, (1, 0, 0, 0, 0, 0), 0)]) (by decide +kernel) ?_
  dsimp only [↓wpb, ↓wp1, ↓vI, ↓vL, ↓vD, ↓ldI, ↓ldL, ↓ldD, ↓ldR, ↓k1, ↓k2, ↓kI, ↓kL, ↓kD, ↓kII, ↓kLL, ↓kDD, ↓kR, ↓kIR, ↓kLR, ↓kIIR, ↓kLIR, ↓kDIR, ↓kRIR, ↓kNN, ↓kE, ↓br, ↓bn, ↓rtI, ↓gfv, ↓zchk, lput, ldel, lbad, alA, acat, isRf, dom, dS, dJ, isO, aTy, aLen, elAV, elR, Nat.reduceBEq, Nat.reduceAdd, Bool.or, Bool.and, Nat.add_zero, Nat.zero_add]
  try simp only [Nat.reduceLT, Nat.reduceLeDiff, Nat.reduceEqDiff, true_and, and_true, and_self, Nat.zero_le, Nat.le_refl, true_or, or_true, Bool.false_eq_true, not_false_eq_true, Nat.reduceAdd, Nat.lt_add_one, Nat.zero_lt_one, nI_add, pk_mul, ixL, vpL, ne_eq, reduceIte, wI_sN, wL_sM, sN_same, sN_K, sN_2, sM_1, sM_same, sM_K, sM_s, uI_at, uN_at, enc_at, uI_enc, uI_uI, upM_s, upM_n]
  refine V_callVH hB hT hkL_pledgeByDueDay hN hs rfl (by decide +kernel) cvL_58 (dom1 rfl) npX10_pledgeByDueDay ⟨by decide, by decide⟩ (Nat.le_of_ble_eq_true rfl) (by decide) ?_ ?_
  · intro v t1 hq
    obtain ⟨e, h1, h2⟩ := hq
    by_cases hz : r.1 = 0
    rotate_left
    · rw [if_neg hz] at e; cases e
    rw [if_pos hz] at e
    cases e
    show V x t1 1 7 _ [aI (nI r.2.1), aI (nI 0), ouM]
    refine V_run hB (rt := some .int) (nL := 4) (mc := 1) rfl rfl rfl (ops := [(7, .i2l, 1, (0, 0, 0, 0, 0, 0), 0), (8, .lastore, 1, (0, 0, 0, 0, 0, 0), 0), (9, .goto 6, 3, (15, 0, 0, 0, 0, 0), 0)]) (by decide +kernel) ?_
    dsimp only [↓wpb, ↓wp1, ↓vI, ↓vL, ↓vD, ↓ldI, ↓ldL, ↓ldD, ↓ldR, ↓k1, ↓k2, ↓kI, ↓kL, ↓kD, ↓kII, ↓kLL, ↓kDD, ↓kR, ↓kIR, ↓kLR, ↓kIIR, ↓kLIR, ↓kDIR, ↓kRIR, ↓kNN, ↓kE, ↓br, ↓bn, ↓rtI, ↓gfv, ↓zchk, lput, ldel, lbad, alA, acat, isRf, dom, dS, dJ, isO, aTy, aLen, elAV, elR, Nat.reduceBEq, Nat.reduceAdd, Bool.or, Bool.and, Nat.add_zero, Nat.zero_add]
    try simp only [Nat.reduceLT, Nat.reduceLeDiff, Nat.reduceEqDiff, true_and, and_true, and_self, Nat.zero_le, Nat.le_refl, true_or, or_true, Bool.false_eq_true, not_false_eq_true, Nat.reduceAdd, Nat.lt_add_one, Nat.zero_lt_one, nI_add, pk_mul, ixL, vpL, ne_eq, reduceIte, wI_sN, wL_sM, sN_same, sN_K, sN_2, sM_1, sM_same, sM_K, sM_s, uI_at, uN_at, enc_at, uI_enc, uI_uI, upM_s, upM_n]
    refine V_run hB (rt := some .int) (nL := 4) (mc := 1) rfl rfl rfl (ops := [(15, .iconst 0, 1, (0, 0, 0, 0, 0, 0), nI 0), (16, .ireturn, 1, (0, 0, 0, 0, 0, 0), 0)]) (by decide +kernel) ?_
    dsimp only [↓wpb, ↓wp1, ↓vI, ↓vL, ↓vD, ↓ldI, ↓ldL, ↓ldD, ↓ldR, ↓k1, ↓k2, ↓kI, ↓kL, ↓kD, ↓kII, ↓kLL, ↓kDD, ↓kR, ↓kIR, ↓kLR, ↓kIIR, ↓kLIR, ↓kDIR, ↓kRIR, ↓kNN, ↓kE, ↓br, ↓bn, ↓rtI, ↓gfv, ↓zchk, lput, ldel, lbad, alA, acat, isRf, dom, dS, dJ, isO, aTy, aLen, elAV, elR, Nat.reduceBEq, Nat.reduceAdd, Bool.or, Bool.and, Nat.add_zero, Nat.zero_add]
    try simp only [Nat.reduceLT, Nat.reduceLeDiff, Nat.reduceEqDiff, true_and, and_true, and_self, Nat.zero_le, Nat.le_refl, true_or, or_true, Bool.false_eq_true, not_false_eq_true, Nat.reduceAdd, Nat.lt_add_one, Nat.zero_lt_one, nI_add, pk_mul, ixL, vpL, ne_eq, reduceIte, wI_sN, wL_sM, sN_same, sN_K, sN_2, sM_1, sM_same, sM_K, sM_s, uI_at, uN_at, enc_at, uI_enc, uI_uI, upM_s, upM_n]
    exact Lw_ok h1 h2 hz
  · intro E t1 hq
    obtain ⟨e, h1, h2⟩ := hq
    by_cases hz : r.1 = 0
    · rw [if_pos hz] at e; cases e
    rw [if_neg hz] at e
    cases e
    have hk : r.1 = 1 := by omega
    · refine ⟨by rw [hk]; decide +kernel, 12, by rw [hk]; decide +kernel, fun q => ?_⟩
      show V x t1 1 12 _ _
      refine V_run hB (rt := some .int) (nL := 4) (mc := 1) rfl rfl rfl (ops := [(12, .astore_n 3, 1, (3, 0, 0, 0, 0, 0), 0), (13, .iconst 1, 1, (0, 0, 0, 0, 0, 0), nI 1), (14, .ireturn, 1, (0, 0, 0, 0, 0, 0), 0)]) (by decide +kernel) ?_
      dsimp only [↓wpb, ↓wp1, ↓vI, ↓vL, ↓vD, ↓ldI, ↓ldL, ↓ldD, ↓ldR, ↓k1, ↓k2, ↓kI, ↓kL, ↓kD, ↓kII, ↓kLL, ↓kDD, ↓kR, ↓kIR, ↓kLR, ↓kIIR, ↓kLIR, ↓kDIR, ↓kRIR, ↓kNN, ↓kE, ↓br, ↓bn, ↓rtI, ↓gfv, ↓zchk, lput, ldel, lbad, alA, acat, isRf, dom, dS, dJ, isO, aTy, aLen, elAV, elR, Nat.reduceBEq, Nat.reduceAdd, Bool.or, Bool.and, Nat.add_zero, Nat.zero_add]
      try simp only [Nat.reduceLT, Nat.reduceLeDiff, Nat.reduceEqDiff, true_and, and_true, and_self, Nat.zero_le, Nat.le_refl, true_or, or_true, Bool.false_eq_true, not_false_eq_true, Nat.reduceAdd, Nat.lt_add_one, Nat.zero_lt_one, nI_add, pk_mul, ixL, vpL, ne_eq, reduceIte, wI_sN, wL_sM, sN_same, sN_K, sN_2, sM_1, sM_same, sM_K, sM_s, uI_at, uN_at, enc_at, uI_enc, uI_uI, upM_s, upM_n]
      exact Lw_no h1 h2 hz hk
theorem w_interestOf (hc : CtxE l G) (hN : NcF G) (p0 : Int32) (hs : Sat l G iX10_interestOf [moM, aI p0] τ (XOp [NSE] τ r)) (hr : r.1 ≤ 1) : SatH l G iL_interestOf hL_interestOf [moM, aI p0, ouM] τ (LwP τ r) := by
  refine SatH_of hc.1.1 hc.1.2 (by decide +kernel) (Nat.le_of_ble_eq_true rfl) (fun x hB hT => ?_)
  refine V_run hB (rt := some .int) (nL := 4) (mc := 1) rfl rfl rfl (ops := [(0, .aload_n 2, 1, (2, 0, 0, 0, 0, 0), 0), (1, .iconst 0, 1, (0, 0, 0, 0, 0, 0), nI 0), (2, .aload_n 0, 1, (0, 0, 0, 0, 0, 0), 0), (3, .iload_n 1, 1, (1, 0, 0, 0, 0, 0), 0)]) (by decide +kernel) ?_
  dsimp only [↓wpb, ↓wp1, ↓vI, ↓vL, ↓vD, ↓ldI, ↓ldL, ↓ldD, ↓ldR, ↓k1, ↓k2, ↓kI, ↓kL, ↓kD, ↓kII, ↓kLL, ↓kDD, ↓kR, ↓kIR, ↓kLR, ↓kIIR, ↓kLIR, ↓kDIR, ↓kRIR, ↓kNN, ↓kE, ↓br, ↓bn, ↓rtI, ↓gfv, ↓zchk, lput, ldel, lbad, alA, acat, isRf, dom, dS, dJ, isO, aTy, aLen, elAV, elR, Nat.reduceBEq, Nat.reduceAdd, Bool.or, Bool.and, Nat.add_zero, Nat.zero_add]
  try simp only [Nat.reduceLT, Nat.reduceLeDiff, Nat.reduceEqDiff, true_and, and_true, and_self, Nat.zero_le, Nat.le_refl, true_or, or_true, Bool.false_eq_true, not_false_eq_true, Nat.reduceAdd, Nat.lt_add_one, Nat.zero_lt_one, nI_add, pk_mul, ixL, vpL, ne_eq, reduceIte, wI_sN, wL_sM, sN_same, sN_K, sN_2, sM_1, sM_same, sM_K, sM_s, uI_at, uN_at, enc_at, uI_enc, uI_uI, upM_s, upM_n]
  refine V_callVH hB hT hkL_interestOf hN hs rfl (by decide +kernel) cvL_61 (dom1 rfl) npX10_interestOf ⟨by decide, by decide⟩ (Nat.le_of_ble_eq_true rfl) (by decide) ?_ ?_
  · intro v t1 hq
    obtain ⟨e, h1, h2⟩ := hq
    by_cases hz : r.1 = 0
    rotate_left
    · rw [if_neg hz] at e; cases e
    rw [if_pos hz] at e
    cases e
    show V x t1 1 7 _ [aI (nI r.2.1), aI (nI 0), ouM]
    refine V_run hB (rt := some .int) (nL := 4) (mc := 1) rfl rfl rfl (ops := [(7, .i2l, 1, (0, 0, 0, 0, 0, 0), 0), (8, .lastore, 1, (0, 0, 0, 0, 0, 0), 0), (9, .goto 6, 3, (15, 0, 0, 0, 0, 0), 0)]) (by decide +kernel) ?_
    dsimp only [↓wpb, ↓wp1, ↓vI, ↓vL, ↓vD, ↓ldI, ↓ldL, ↓ldD, ↓ldR, ↓k1, ↓k2, ↓kI, ↓kL, ↓kD, ↓kII, ↓kLL, ↓kDD, ↓kR, ↓kIR, ↓kLR, ↓kIIR, ↓kLIR, ↓kDIR, ↓kRIR, ↓kNN, ↓kE, ↓br, ↓bn, ↓rtI, ↓gfv, ↓zchk, lput, ldel, lbad, alA, acat, isRf, dom, dS, dJ, isO, aTy, aLen, elAV, elR, Nat.reduceBEq, Nat.reduceAdd, Bool.or, Bool.and, Nat.add_zero, Nat.zero_add]
    try simp only [Nat.reduceLT, Nat.reduceLeDiff, Nat.reduceEqDiff, true_and, and_true, and_self, Nat.zero_le, Nat.le_refl, true_or, or_true, Bool.false_eq_true, not_false_eq_true, Nat.reduceAdd, Nat.lt_add_one, Nat.zero_lt_one, nI_add, pk_mul, ixL, vpL, ne_eq, reduceIte, wI_sN, wL_sM, sN_same, sN_K, sN_2, sM_1, sM_same, sM_K, sM_s, uI_at, uN_at, enc_at, uI_enc, uI_uI, upM_s, upM_n]
    refine V_run hB (rt := some .int) (nL := 4) (mc := 1) rfl rfl rfl (ops := [(15, .iconst 0, 1, (0, 0, 0, 0, 0, 0), nI 0), (16, .ireturn, 1, (0, 0, 0, 0, 0, 0), 0)]) (by decide +kernel) ?_
    dsimp only [↓wpb, ↓wp1, ↓vI, ↓vL, ↓vD, ↓ldI, ↓ldL, ↓ldD, ↓ldR, ↓k1, ↓k2, ↓kI, ↓kL, ↓kD, ↓kII, ↓kLL, ↓kDD, ↓kR, ↓kIR, ↓kLR, ↓kIIR, ↓kLIR, ↓kDIR, ↓kRIR, ↓kNN, ↓kE, ↓br, ↓bn, ↓rtI, ↓gfv, ↓zchk, lput, ldel, lbad, alA, acat, isRf, dom, dS, dJ, isO, aTy, aLen, elAV, elR, Nat.reduceBEq, Nat.reduceAdd, Bool.or, Bool.and, Nat.add_zero, Nat.zero_add]
    try simp only [Nat.reduceLT, Nat.reduceLeDiff, Nat.reduceEqDiff, true_and, and_true, and_self, Nat.zero_le, Nat.le_refl, true_or, or_true, Bool.false_eq_true, not_false_eq_true, Nat.reduceAdd, Nat.lt_add_one, Nat.zero_lt_one, nI_add, pk_mul, ixL, vpL, ne_eq, reduceIte, wI_sN, wL_sM, sN_same, sN_K, sN_2, sM_1, sM_same, sM_K, sM_s, uI_at, uN_at, enc_at, uI_enc, uI_uI, upM_s, upM_n]
    exact Lw_ok h1 h2 hz
  · intro E t1 hq
    obtain ⟨e, h1, h2⟩ := hq
    by_cases hz : r.1 = 0
    · rw [if_pos hz] at e; cases e
    rw [if_neg hz] at e
    cases e
    have hk : r.1 = 1 := by omega
    · refine ⟨by rw [hk]; decide +kernel, 12, by rw [hk]; decide +kernel, fun q => ?_⟩
      show V x t1 1 12 _ _
      refine V_run hB (rt := some .int) (nL := 4) (mc := 1) rfl rfl rfl (ops := [(12, .astore_n 3, 1, (3, 0, 0, 0, 0, 0), 0), (13, .iconst 1, 1, (0, 0, 0, 0, 0, 0), nI 1), (14, .ireturn, 1, (0, 0, 0, 0, 0, 0), 0)]) (by decide +kernel) ?_
      dsimp only [↓wpb, ↓wp1, ↓vI, ↓vL, ↓vD, ↓ldI, ↓ldL, ↓ldD, ↓ldR, ↓k1, ↓k2, ↓kI, ↓kL, ↓kD, ↓kII, ↓kLL, ↓kDD, ↓kR, ↓kIR, ↓kLR, ↓kIIR, ↓kLIR, ↓kDIR, ↓kRIR, ↓kNN, ↓kE, ↓br, ↓bn, ↓rtI, ↓gfv, ↓zchk, lput, ldel, lbad, alA, acat, isRf, dom, dS, dJ, isO, aTy, aLen, elAV, elR, Nat.reduceBEq, Nat.reduceAdd, Bool.or, Bool.and, Nat.add_zero, Nat.zero_add]
      try simp only [Nat.reduceLT, Nat.reduceLeDiff, Nat.reduceEqDiff, true_and, and_true, and_self, Nat.zero_le, Nat.le_refl, true_or, or_true, Bool.false_eq_true, not_false_eq_true, Nat.reduceAdd, Nat.lt_add_one, Nat.zero_lt_one, nI_add, pk_mul, ixL, vpL, ne_eq, reduceIte, wI_sN, wL_sM, sN_same, sN_K, sN_2, sM_1, sM_same, sM_K, sM_s, uI_at, uN_at, enc_at, uI_enc, uI_uI, upM_s, upM_n]
      exact Lw_no h1 h2 hz hk
theorem w_interestByWeeks (hc : CtxE l G) (hN : NcF G) (p0 : Int32) (hs : Sat l G iX10_interestByWeeks [moM, aI p0] τ (XOp [NSE] τ r)) (hr : r.1 ≤ 1) : SatH l G iL_interestByWeeks hL_interestByWeeks [moM, aI p0, ouM] τ (LwP τ r) := by
  refine SatH_of hc.1.1 hc.1.2 (by decide +kernel) (Nat.le_of_ble_eq_true rfl) (fun x hB hT => ?_)
  refine V_run hB (rt := some .int) (nL := 4) (mc := 1) rfl rfl rfl (ops := [(0, .aload_n 2, 1, (2, 0, 0, 0, 0, 0), 0), (1, .iconst 0, 1, (0, 0, 0, 0, 0, 0), nI 0), (2, .aload_n 0, 1, (0, 0, 0, 0, 0, 0), 0), (3, .iload_n 1, 1, (1, 0, 0, 0, 0, 0), 0)]) (by decide +kernel) ?_
  dsimp only [↓wpb, ↓wp1, ↓vI, ↓vL, ↓vD, ↓ldI, ↓ldL, ↓ldD, ↓ldR, ↓k1, ↓k2, ↓kI, ↓kL, ↓kD, ↓kII, ↓kLL, ↓kDD, ↓kR, ↓kIR, ↓kLR, ↓kIIR, ↓kLIR, ↓kDIR, ↓kRIR, ↓kNN, ↓kE, ↓br, ↓bn, ↓rtI, ↓gfv, ↓zchk, lput, ldel, lbad, alA, acat, isRf, dom, dS, dJ, isO, aTy, aLen, elAV, elR, Nat.reduceBEq, Nat.reduceAdd, Bool.or, Bool.and, Nat.add_zero, Nat.zero_add]
  try simp only [Nat.reduceLT, Nat.reduceLeDiff, Nat.reduceEqDiff, true_and, and_true, and_self, Nat.zero_le, Nat.le_refl, true_or, or_true, Bool.false_eq_true, not_false_eq_true, Nat.reduceAdd, Nat.lt_add_one, Nat.zero_lt_one, nI_add, pk_mul, ixL, vpL, ne_eq, reduceIte, wI_sN, wL_sM, sN_same, sN_K, sN_2, sM_1, sM_same, sM_K, sM_s, uI_at, uN_at, enc_at, uI_enc, uI_uI, upM_s, upM_n]
  refine V_callVH hB hT hkL_interestByWeeks hN hs rfl (by decide +kernel) cvL_64 (dom1 rfl) npX10_interestByWeeks ⟨by decide, by decide⟩ (Nat.le_of_ble_eq_true rfl) (by decide) ?_ ?_
  · intro v t1 hq
    obtain ⟨e, h1, h2⟩ := hq
    by_cases hz : r.1 = 0
    rotate_left
    · rw [if_neg hz] at e; cases e
    rw [if_pos hz] at e
    cases e
    show V x t1 1 7 _ [aI (nI r.2.1), aI (nI 0), ouM]
    refine V_run hB (rt := some .int) (nL := 4) (mc := 1) rfl rfl rfl (ops := [(7, .i2l, 1, (0, 0, 0, 0, 0, 0), 0), (8, .lastore, 1, (0, 0, 0, 0, 0, 0), 0), (9, .goto 6, 3, (15, 0, 0, 0, 0, 0), 0)]) (by decide +kernel) ?_
    dsimp only [↓wpb, ↓wp1, ↓vI, ↓vL, ↓vD, ↓ldI, ↓ldL, ↓ldD, ↓ldR, ↓k1, ↓k2, ↓kI, ↓kL, ↓kD, ↓kII, ↓kLL, ↓kDD, ↓kR, ↓kIR, ↓kLR, ↓kIIR, ↓kLIR, ↓kDIR, ↓kRIR, ↓kNN, ↓kE, ↓br, ↓bn, ↓rtI, ↓gfv, ↓zchk, lput, ldel, lbad, alA, acat, isRf, dom, dS, dJ, isO, aTy, aLen, elAV, elR, Nat.reduceBEq, Nat.reduceAdd, Bool.or, Bool.and, Nat.add_zero, Nat.zero_add]
    try simp only [Nat.reduceLT, Nat.reduceLeDiff, Nat.reduceEqDiff, true_and, and_true, and_self, Nat.zero_le, Nat.le_refl, true_or, or_true, Bool.false_eq_true, not_false_eq_true, Nat.reduceAdd, Nat.lt_add_one, Nat.zero_lt_one, nI_add, pk_mul, ixL, vpL, ne_eq, reduceIte, wI_sN, wL_sM, sN_same, sN_K, sN_2, sM_1, sM_same, sM_K, sM_s, uI_at, uN_at, enc_at, uI_enc, uI_uI, upM_s, upM_n]
    refine V_run hB (rt := some .int) (nL := 4) (mc := 1) rfl rfl rfl (ops := [(15, .iconst 0, 1, (0, 0, 0, 0, 0, 0), nI 0), (16, .ireturn, 1, (0, 0, 0, 0, 0, 0), 0)]) (by decide +kernel) ?_
    dsimp only [↓wpb, ↓wp1, ↓vI, ↓vL, ↓vD, ↓ldI, ↓ldL, ↓ldD, ↓ldR, ↓k1, ↓k2, ↓kI, ↓kL, ↓kD, ↓kII, ↓kLL, ↓kDD, ↓kR, ↓kIR, ↓kLR, ↓kIIR, ↓kLIR, ↓kDIR, ↓kRIR, ↓kNN, ↓kE, ↓br, ↓bn, ↓rtI, ↓gfv, ↓zchk, lput, ldel, lbad, alA, acat, isRf, dom, dS, dJ, isO, aTy, aLen, elAV, elR, Nat.reduceBEq, Nat.reduceAdd, Bool.or, Bool.and, Nat.add_zero, Nat.zero_add]
    try simp only [Nat.reduceLT, Nat.reduceLeDiff, Nat.reduceEqDiff, true_and, and_true, and_self, Nat.zero_le, Nat.le_refl, true_or, or_true, Bool.false_eq_true, not_false_eq_true, Nat.reduceAdd, Nat.lt_add_one, Nat.zero_lt_one, nI_add, pk_mul, ixL, vpL, ne_eq, reduceIte, wI_sN, wL_sM, sN_same, sN_K, sN_2, sM_1, sM_same, sM_K, sM_s, uI_at, uN_at, enc_at, uI_enc, uI_uI, upM_s, upM_n]
    exact Lw_ok h1 h2 hz
  · intro E t1 hq
    obtain ⟨e, h1, h2⟩ := hq
    by_cases hz : r.1 = 0
    · rw [if_pos hz] at e; cases e
    rw [if_neg hz] at e
    cases e
    have hk : r.1 = 1 := by omega
    · refine ⟨by rw [hk]; decide +kernel, 12, by rw [hk]; decide +kernel, fun q => ?_⟩
      show V x t1 1 12 _ _
      refine V_run hB (rt := some .int) (nL := 4) (mc := 1) rfl rfl rfl (ops := [(12, .astore_n 3, 1, (3, 0, 0, 0, 0, 0), 0), (13, .iconst 1, 1, (0, 0, 0, 0, 0, 0), nI 1), (14, .ireturn, 1, (0, 0, 0, 0, 0, 0), 0)]) (by decide +kernel) ?_
      dsimp only [↓wpb, ↓wp1, ↓vI, ↓vL, ↓vD, ↓ldI, ↓ldL, ↓ldD, ↓ldR, ↓k1, ↓k2, ↓kI, ↓kL, ↓kD, ↓kII, ↓kLL, ↓kDD, ↓kR, ↓kIR, ↓kLR, ↓kIIR, ↓kLIR, ↓kDIR, ↓kRIR, ↓kNN, ↓kE, ↓br, ↓bn, ↓rtI, ↓gfv, ↓zchk, lput, ldel, lbad, alA, acat, isRf, dom, dS, dJ, isO, aTy, aLen, elAV, elR, Nat.reduceBEq, Nat.reduceAdd, Bool.or, Bool.and, Nat.add_zero, Nat.zero_add]
      try simp only [Nat.reduceLT, Nat.reduceLeDiff, Nat.reduceEqDiff, true_and, and_true, and_self, Nat.zero_le, Nat.le_refl, true_or, or_true, Bool.false_eq_true, not_false_eq_true, Nat.reduceAdd, Nat.lt_add_one, Nat.zero_lt_one, nI_add, pk_mul, ixL, vpL, ne_eq, reduceIte, wI_sN, wL_sM, sN_same, sN_K, sN_2, sM_1, sM_same, sM_K, sM_s, uI_at, uN_at, enc_at, uI_enc, uI_uI, upM_s, upM_n]
      exact Lw_no h1 h2 hz hk
theorem w_debtAfter (hc : CtxE l G) (hN : NcF G) (p0 : Int32) (p1 : Int32) (hs : Sat l G iX10_debtAfter [moM, aI p0, aI p1] τ (XOp [NSE, IAE] τ r)) (hr : r.1 ≤ 2) : SatH l G iL_debtAfter hL_debtAfter [moM, aI p0, aI p1, ouM] τ (LwP τ r) := by
  refine SatH_of hc.1.1 hc.1.2 (by decide +kernel) (Nat.le_of_ble_eq_true rfl) (fun x hB hT => ?_)
  refine V_run hB (rt := some .int) (nL := 5) (mc := 2) rfl rfl rfl (ops := [(0, .aload_n 3, 1, (3, 0, 0, 0, 0, 0), 0), (1, .iconst 0, 1, (0, 0, 0, 0, 0, 0), nI 0), (2, .aload_n 0, 1, (0, 0, 0, 0, 0, 0), 0), (3, .iload_n 1, 1, (1, 0, 0, 0, 0, 0), 0), (4, .iload_n 2, 1, (2, 0, 0, 0, 0, 0), 0)]) (by decide +kernel) ?_
  dsimp only [↓wpb, ↓wp1, ↓vI, ↓vL, ↓vD, ↓ldI, ↓ldL, ↓ldD, ↓ldR, ↓k1, ↓k2, ↓kI, ↓kL, ↓kD, ↓kII, ↓kLL, ↓kDD, ↓kR, ↓kIR, ↓kLR, ↓kIIR, ↓kLIR, ↓kDIR, ↓kRIR, ↓kNN, ↓kE, ↓br, ↓bn, ↓rtI, ↓gfv, ↓zchk, lput, ldel, lbad, alA, acat, isRf, dom, dS, dJ, isO, aTy, aLen, elAV, elR, Nat.reduceBEq, Nat.reduceAdd, Bool.or, Bool.and, Nat.add_zero, Nat.zero_add]
  try simp only [Nat.reduceLT, Nat.reduceLeDiff, Nat.reduceEqDiff, true_and, and_true, and_self, Nat.zero_le, Nat.le_refl, true_or, or_true, Bool.false_eq_true, not_false_eq_true, Nat.reduceAdd, Nat.lt_add_one, Nat.zero_lt_one, nI_add, pk_mul, ixL, vpL, ne_eq, reduceIte, wI_sN, wL_sM, sN_same, sN_K, sN_2, sM_1, sM_same, sM_K, sM_s, uI_at, uN_at, enc_at, uI_enc, uI_uI, upM_s, upM_n]
  refine V_callVH hB hT hkL_debtAfter hN hs rfl (by decide +kernel) cvL_67 (dom1 rfl) npX10_debtAfter ⟨by decide, by decide⟩ (Nat.le_of_ble_eq_true rfl) (by decide) ?_ ?_
  · intro v t1 hq
    obtain ⟨e, h1, h2⟩ := hq
    by_cases hz : r.1 = 0
    rotate_left
    · rw [if_neg hz] at e; cases e
    rw [if_pos hz] at e
    cases e
    show V x t1 2 8 _ [aI (nI r.2.1), aI (nI 0), ouM]
    refine V_run hB (rt := some .int) (nL := 5) (mc := 2) rfl rfl rfl (ops := [(8, .i2l, 1, (0, 0, 0, 0, 0, 0), 0), (9, .lastore, 1, (0, 0, 0, 0, 0, 0), 0), (10, .goto 11, 3, (21, 0, 0, 0, 0, 0), 0)]) (by decide +kernel) ?_
    dsimp only [↓wpb, ↓wp1, ↓vI, ↓vL, ↓vD, ↓ldI, ↓ldL, ↓ldD, ↓ldR, ↓k1, ↓k2, ↓kI, ↓kL, ↓kD, ↓kII, ↓kLL, ↓kDD, ↓kR, ↓kIR, ↓kLR, ↓kIIR, ↓kLIR, ↓kDIR, ↓kRIR, ↓kNN, ↓kE, ↓br, ↓bn, ↓rtI, ↓gfv, ↓zchk, lput, ldel, lbad, alA, acat, isRf, dom, dS, dJ, isO, aTy, aLen, elAV, elR, Nat.reduceBEq, Nat.reduceAdd, Bool.or, Bool.and, Nat.add_zero, Nat.zero_add]
    try simp only [Nat.reduceLT, Nat.reduceLeDiff, Nat.reduceEqDiff, true_and, and_true, and_self, Nat.zero_le, Nat.le_refl, true_or, or_true, Bool.false_eq_true, not_false_eq_true, Nat.reduceAdd, Nat.lt_add_one, Nat.zero_lt_one, nI_add, pk_mul, ixL, vpL, ne_eq, reduceIte, wI_sN, wL_sM, sN_same, sN_K, sN_2, sM_1, sM_same, sM_K, sM_s, uI_at, uN_at, enc_at, uI_enc, uI_uI, upM_s, upM_n]
    refine V_run hB (rt := some .int) (nL := 5) (mc := 2) rfl rfl rfl (ops := [(21, .iconst 0, 1, (0, 0, 0, 0, 0, 0), nI 0), (22, .ireturn, 1, (0, 0, 0, 0, 0, 0), 0)]) (by decide +kernel) ?_
    dsimp only [↓wpb, ↓wp1, ↓vI, ↓vL, ↓vD, ↓ldI, ↓ldL, ↓ldD, ↓ldR, ↓k1, ↓k2, ↓kI, ↓kL, ↓kD, ↓kII, ↓kLL, ↓kDD, ↓kR, ↓kIR, ↓kLR, ↓kIIR, ↓kLIR, ↓kDIR, ↓kRIR, ↓kNN, ↓kE, ↓br, ↓bn, ↓rtI, ↓gfv, ↓zchk, lput, ldel, lbad, alA, acat, isRf, dom, dS, dJ, isO, aTy, aLen, elAV, elR, Nat.reduceBEq, Nat.reduceAdd, Bool.or, Bool.and, Nat.add_zero, Nat.zero_add]
    try simp only [Nat.reduceLT, Nat.reduceLeDiff, Nat.reduceEqDiff, true_and, and_true, and_self, Nat.zero_le, Nat.le_refl, true_or, or_true, Bool.false_eq_true, not_false_eq_true, Nat.reduceAdd, Nat.lt_add_one, Nat.zero_lt_one, nI_add, pk_mul, ixL, vpL, ne_eq, reduceIte, wI_sN, wL_sM, sN_same, sN_K, sN_2, sM_1, sM_same, sM_K, sM_s, uI_at, uN_at, enc_at, uI_enc, uI_uI, upM_s, upM_n]
    exact Lw_ok h1 h2 hz
  · intro E t1 hq
    obtain ⟨e, h1, h2⟩ := hq
    by_cases hz : r.1 = 0
    · rw [if_pos hz] at e; cases e
    rw [if_neg hz] at e
    cases e
    rcases (by omega : r.1 = 1 ∨ r.1 = 2) with hk | hk
    · refine ⟨by rw [hk]; decide +kernel, 13, by rw [hk]; decide +kernel, fun q => ?_⟩
      show V x t1 2 13 _ _
      refine V_run hB (rt := some .int) (nL := 5) (mc := 2) rfl rfl rfl (ops := [(13, .astore 4, 2, (4, 0, 0, 0, 0, 0), 0), (15, .iconst 1, 1, (0, 0, 0, 0, 0, 0), nI 1), (16, .ireturn, 1, (0, 0, 0, 0, 0, 0), 0)]) (by decide +kernel) ?_
      dsimp only [↓wpb, ↓wp1, ↓vI, ↓vL, ↓vD, ↓ldI, ↓ldL, ↓ldD, ↓ldR, ↓k1, ↓k2, ↓kI, ↓kL, ↓kD, ↓kII, ↓kLL, ↓kDD, ↓kR, ↓kIR, ↓kLR, ↓kIIR, ↓kLIR, ↓kDIR, ↓kRIR, ↓kNN, ↓kE, ↓br, ↓bn, ↓rtI, ↓gfv, ↓zchk, lput, ldel, lbad, alA, acat, isRf, dom, dS, dJ, isO, aTy, aLen, elAV, elR, Nat.reduceBEq, Nat.reduceAdd, Bool.or, Bool.and, Nat.add_zero, Nat.zero_add]
      try simp only [Nat.reduceLT, Nat.reduceLeDiff, Nat.reduceEqDiff, true_and, and_true, and_self, Nat.zero_le, Nat.le_refl, true_or, or_true, Bool.false_eq_true, not_false_eq_true, Nat.reduceAdd, Nat.lt_add_one, Nat.zero_lt_one, nI_add, pk_mul, ixL, vpL, ne_eq, reduceIte, wI_sN, wL_sM, sN_same, sN_K, sN_2, sM_1, sM_same, sM_K, sM_s, uI_at, uN_at, enc_at, uI_enc, uI_uI, upM_s, upM_n]
      exact Lw_no h1 h2 hz hk
    · refine ⟨by rw [hk]; decide +kernel, 17, by rw [hk]; decide +kernel, fun q => ?_⟩
      show V x t1 2 17 _ _
      refine V_run hB (rt := some .int) (nL := 5) (mc := 2) rfl rfl rfl (ops := [(17, .astore 4, 2, (4, 0, 0, 0, 0, 0), 0), (19, .iconst 2, 1, (0, 0, 0, 0, 0, 0), nI 2), (20, .ireturn, 1, (0, 0, 0, 0, 0, 0), 0)]) (by decide +kernel) ?_
      dsimp only [↓wpb, ↓wp1, ↓vI, ↓vL, ↓vD, ↓ldI, ↓ldL, ↓ldD, ↓ldR, ↓k1, ↓k2, ↓kI, ↓kL, ↓kD, ↓kII, ↓kLL, ↓kDD, ↓kR, ↓kIR, ↓kLR, ↓kIIR, ↓kLIR, ↓kDIR, ↓kRIR, ↓kNN, ↓kE, ↓br, ↓bn, ↓rtI, ↓gfv, ↓zchk, lput, ldel, lbad, alA, acat, isRf, dom, dS, dJ, isO, aTy, aLen, elAV, elR, Nat.reduceBEq, Nat.reduceAdd, Bool.or, Bool.and, Nat.add_zero, Nat.zero_add]
      try simp only [Nat.reduceLT, Nat.reduceLeDiff, Nat.reduceEqDiff, true_and, and_true, and_self, Nat.zero_le, Nat.le_refl, true_or, or_true, Bool.false_eq_true, not_false_eq_true, Nat.reduceAdd, Nat.lt_add_one, Nat.zero_lt_one, nI_add, pk_mul, ixL, vpL, ne_eq, reduceIte, wI_sN, wL_sM, sN_same, sN_K, sN_2, sM_1, sM_same, sM_K, sM_s, uI_at, uN_at, enc_at, uI_enc, uI_uI, upM_s, upM_n]
      exact Lw_no h1 h2 hz hk
theorem w_mostMinutes (hc : CtxE l G) (hN : NcF G) (p0 : Int32) (p1 : Int32) (hs : Sat l G iX10_mostMinutes [moM, aI p0, aI p1] τ (XOp [IAE] τ r)) (hr : r.1 ≤ 1) : SatH l G iL_mostMinutes hL_mostMinutes [moM, aI p0, aI p1, ouM] τ (LwP τ r) := by
  refine SatH_of hc.1.1 hc.1.2 (by decide +kernel) (Nat.le_of_ble_eq_true rfl) (fun x hB hT => ?_)
  refine V_run hB (rt := some .int) (nL := 5) (mc := 1) rfl rfl rfl (ops := [(0, .aload_n 3, 1, (3, 0, 0, 0, 0, 0), 0), (1, .iconst 0, 1, (0, 0, 0, 0, 0, 0), nI 0), (2, .aload_n 0, 1, (0, 0, 0, 0, 0, 0), 0), (3, .iload_n 1, 1, (1, 0, 0, 0, 0, 0), 0), (4, .iload_n 2, 1, (2, 0, 0, 0, 0, 0), 0)]) (by decide +kernel) ?_
  dsimp only [↓wpb, ↓wp1, ↓vI, ↓vL, ↓vD, ↓ldI, ↓ldL, ↓ldD, ↓ldR, ↓k1, ↓k2, ↓kI, ↓kL, ↓kD, ↓kII, ↓kLL, ↓kDD, ↓kR, ↓kIR, ↓kLR, ↓kIIR, ↓kLIR, ↓kDIR, ↓kRIR, ↓kNN, ↓kE, ↓br, ↓bn, ↓rtI, ↓gfv, ↓zchk, lput, ldel, lbad, alA, acat, isRf, dom, dS, dJ, isO, aTy, aLen, elAV, elR, Nat.reduceBEq, Nat.reduceAdd, Bool.or, Bool.and, Nat.add_zero, Nat.zero_add]
  try simp only [Nat.reduceLT, Nat.reduceLeDiff, Nat.reduceEqDiff, true_and, and_true, and_self, Nat.zero_le, Nat.le_refl, true_or, or_true, Bool.false_eq_true, not_false_eq_true, Nat.reduceAdd, Nat.lt_add_one, Nat.zero_lt_one, nI_add, pk_mul, ixL, vpL, ne_eq, reduceIte, wI_sN, wL_sM, sN_same, sN_K, sN_2, sM_1, sM_same, sM_K, sM_s, uI_at, uN_at, enc_at, uI_enc, uI_uI, upM_s, upM_n]
  refine V_callVH hB hT hkL_mostMinutes hN hs rfl (by decide +kernel) cvL_70 (dom1 rfl) npX10_mostMinutes ⟨by decide, by decide⟩ (Nat.le_of_ble_eq_true rfl) (by decide) ?_ ?_
  · intro v t1 hq
    obtain ⟨e, h1, h2⟩ := hq
    by_cases hz : r.1 = 0
    rotate_left
    · rw [if_neg hz] at e; cases e
    rw [if_pos hz] at e
    cases e
    show V x t1 1 8 _ [aI (nI r.2.1), aI (nI 0), ouM]
    refine V_run hB (rt := some .int) (nL := 5) (mc := 1) rfl rfl rfl (ops := [(8, .i2l, 1, (0, 0, 0, 0, 0, 0), 0), (9, .lastore, 1, (0, 0, 0, 0, 0, 0), 0), (10, .goto 7, 3, (17, 0, 0, 0, 0, 0), 0)]) (by decide +kernel) ?_
    dsimp only [↓wpb, ↓wp1, ↓vI, ↓vL, ↓vD, ↓ldI, ↓ldL, ↓ldD, ↓ldR, ↓k1, ↓k2, ↓kI, ↓kL, ↓kD, ↓kII, ↓kLL, ↓kDD, ↓kR, ↓kIR, ↓kLR, ↓kIIR, ↓kLIR, ↓kDIR, ↓kRIR, ↓kNN, ↓kE, ↓br, ↓bn, ↓rtI, ↓gfv, ↓zchk, lput, ldel, lbad, alA, acat, isRf, dom, dS, dJ, isO, aTy, aLen, elAV, elR, Nat.reduceBEq, Nat.reduceAdd, Bool.or, Bool.and, Nat.add_zero, Nat.zero_add]
    try simp only [Nat.reduceLT, Nat.reduceLeDiff, Nat.reduceEqDiff, true_and, and_true, and_self, Nat.zero_le, Nat.le_refl, true_or, or_true, Bool.false_eq_true, not_false_eq_true, Nat.reduceAdd, Nat.lt_add_one, Nat.zero_lt_one, nI_add, pk_mul, ixL, vpL, ne_eq, reduceIte, wI_sN, wL_sM, sN_same, sN_K, sN_2, sM_1, sM_same, sM_K, sM_s, uI_at, uN_at, enc_at, uI_enc, uI_uI, upM_s, upM_n]
    refine V_run hB (rt := some .int) (nL := 5) (mc := 1) rfl rfl rfl (ops := [(17, .iconst 0, 1, (0, 0, 0, 0, 0, 0), nI 0), (18, .ireturn, 1, (0, 0, 0, 0, 0, 0), 0)]) (by decide +kernel) ?_
    dsimp only [↓wpb, ↓wp1, ↓vI, ↓vL, ↓vD, ↓ldI, ↓ldL, ↓ldD, ↓ldR, ↓k1, ↓k2, ↓kI, ↓kL, ↓kD, ↓kII, ↓kLL, ↓kDD, ↓kR, ↓kIR, ↓kLR, ↓kIIR, ↓kLIR, ↓kDIR, ↓kRIR, ↓kNN, ↓kE, ↓br, ↓bn, ↓rtI, ↓gfv, ↓zchk, lput, ldel, lbad, alA, acat, isRf, dom, dS, dJ, isO, aTy, aLen, elAV, elR, Nat.reduceBEq, Nat.reduceAdd, Bool.or, Bool.and, Nat.add_zero, Nat.zero_add]
    try simp only [Nat.reduceLT, Nat.reduceLeDiff, Nat.reduceEqDiff, true_and, and_true, and_self, Nat.zero_le, Nat.le_refl, true_or, or_true, Bool.false_eq_true, not_false_eq_true, Nat.reduceAdd, Nat.lt_add_one, Nat.zero_lt_one, nI_add, pk_mul, ixL, vpL, ne_eq, reduceIte, wI_sN, wL_sM, sN_same, sN_K, sN_2, sM_1, sM_same, sM_K, sM_s, uI_at, uN_at, enc_at, uI_enc, uI_uI, upM_s, upM_n]
    exact Lw_ok h1 h2 hz
  · intro E t1 hq
    obtain ⟨e, h1, h2⟩ := hq
    by_cases hz : r.1 = 0
    · rw [if_pos hz] at e; cases e
    rw [if_neg hz] at e
    cases e
    have hk : r.1 = 1 := by omega
    · refine ⟨by rw [hk]; decide +kernel, 13, by rw [hk]; decide +kernel, fun q => ?_⟩
      show V x t1 1 13 _ _
      refine V_run hB (rt := some .int) (nL := 5) (mc := 1) rfl rfl rfl (ops := [(13, .astore 4, 2, (4, 0, 0, 0, 0, 0), 0), (15, .iconst 1, 1, (0, 0, 0, 0, 0, 0), nI 1), (16, .ireturn, 1, (0, 0, 0, 0, 0, 0), 0)]) (by decide +kernel) ?_
      dsimp only [↓wpb, ↓wp1, ↓vI, ↓vL, ↓vD, ↓ldI, ↓ldL, ↓ldD, ↓ldR, ↓k1, ↓k2, ↓kI, ↓kL, ↓kD, ↓kII, ↓kLL, ↓kDD, ↓kR, ↓kIR, ↓kLR, ↓kIIR, ↓kLIR, ↓kDIR, ↓kRIR, ↓kNN, ↓kE, ↓br, ↓bn, ↓rtI, ↓gfv, ↓zchk, lput, ldel, lbad, alA, acat, isRf, dom, dS, dJ, isO, aTy, aLen, elAV, elR, Nat.reduceBEq, Nat.reduceAdd, Bool.or, Bool.and, Nat.add_zero, Nat.zero_add]
      try simp only [Nat.reduceLT, Nat.reduceLeDiff, Nat.reduceEqDiff, true_and, and_true, and_self, Nat.zero_le, Nat.le_refl, true_or, or_true, Bool.false_eq_true, not_false_eq_true, Nat.reduceAdd, Nat.lt_add_one, Nat.zero_lt_one, nI_add, pk_mul, ixL, vpL, ne_eq, reduceIte, wI_sN, wL_sM, sN_same, sN_K, sN_2, sM_1, sM_same, sM_K, sM_s, uI_at, uN_at, enc_at, uI_enc, uI_uI, upM_s, upM_n]
      exact Lw_no h1 h2 hz hk
theorem w_mostMinutesByTable (hc : CtxE l G) (hN : NcF G) (p0 : Int32) (p1 : Int32) (hs : Sat l G iX10_mostMinutesByTable [moM, aI p0, aI p1] τ (XOp [IAE] τ r)) (hr : r.1 ≤ 1) : SatH l G iL_mostMinutesByTable hL_mostMinutesByTable [moM, aI p0, aI p1, ouM] τ (LwP τ r) := by
  refine SatH_of hc.1.1 hc.1.2 (by decide +kernel) (Nat.le_of_ble_eq_true rfl) (fun x hB hT => ?_)
  refine V_run hB (rt := some .int) (nL := 5) (mc := 1) rfl rfl rfl (ops := [(0, .aload_n 3, 1, (3, 0, 0, 0, 0, 0), 0), (1, .iconst 0, 1, (0, 0, 0, 0, 0, 0), nI 0), (2, .aload_n 0, 1, (0, 0, 0, 0, 0, 0), 0), (3, .iload_n 1, 1, (1, 0, 0, 0, 0, 0), 0), (4, .iload_n 2, 1, (2, 0, 0, 0, 0, 0), 0)]) (by decide +kernel) ?_
  dsimp only [↓wpb, ↓wp1, ↓vI, ↓vL, ↓vD, ↓ldI, ↓ldL, ↓ldD, ↓ldR, ↓k1, ↓k2, ↓kI, ↓kL, ↓kD, ↓kII, ↓kLL, ↓kDD, ↓kR, ↓kIR, ↓kLR, ↓kIIR, ↓kLIR, ↓kDIR, ↓kRIR, ↓kNN, ↓kE, ↓br, ↓bn, ↓rtI, ↓gfv, ↓zchk, lput, ldel, lbad, alA, acat, isRf, dom, dS, dJ, isO, aTy, aLen, elAV, elR, Nat.reduceBEq, Nat.reduceAdd, Bool.or, Bool.and, Nat.add_zero, Nat.zero_add]
  try simp only [Nat.reduceLT, Nat.reduceLeDiff, Nat.reduceEqDiff, true_and, and_true, and_self, Nat.zero_le, Nat.le_refl, true_or, or_true, Bool.false_eq_true, not_false_eq_true, Nat.reduceAdd, Nat.lt_add_one, Nat.zero_lt_one, nI_add, pk_mul, ixL, vpL, ne_eq, reduceIte, wI_sN, wL_sM, sN_same, sN_K, sN_2, sM_1, sM_same, sM_K, sM_s, uI_at, uN_at, enc_at, uI_enc, uI_uI, upM_s, upM_n]
  refine V_callVH hB hT hkL_mostMinutesByTable hN hs rfl (by decide +kernel) cvL_73 (dom1 rfl) npX10_mostMinutesByTable ⟨by decide, by decide⟩ (Nat.le_of_ble_eq_true rfl) (by decide) ?_ ?_
  · intro v t1 hq
    obtain ⟨e, h1, h2⟩ := hq
    by_cases hz : r.1 = 0
    rotate_left
    · rw [if_neg hz] at e; cases e
    rw [if_pos hz] at e
    cases e
    show V x t1 1 8 _ [aI (nI r.2.1), aI (nI 0), ouM]
    refine V_run hB (rt := some .int) (nL := 5) (mc := 1) rfl rfl rfl (ops := [(8, .i2l, 1, (0, 0, 0, 0, 0, 0), 0), (9, .lastore, 1, (0, 0, 0, 0, 0, 0), 0), (10, .goto 7, 3, (17, 0, 0, 0, 0, 0), 0)]) (by decide +kernel) ?_
    dsimp only [↓wpb, ↓wp1, ↓vI, ↓vL, ↓vD, ↓ldI, ↓ldL, ↓ldD, ↓ldR, ↓k1, ↓k2, ↓kI, ↓kL, ↓kD, ↓kII, ↓kLL, ↓kDD, ↓kR, ↓kIR, ↓kLR, ↓kIIR, ↓kLIR, ↓kDIR, ↓kRIR, ↓kNN, ↓kE, ↓br, ↓bn, ↓rtI, ↓gfv, ↓zchk, lput, ldel, lbad, alA, acat, isRf, dom, dS, dJ, isO, aTy, aLen, elAV, elR, Nat.reduceBEq, Nat.reduceAdd, Bool.or, Bool.and, Nat.add_zero, Nat.zero_add]
    try simp only [Nat.reduceLT, Nat.reduceLeDiff, Nat.reduceEqDiff, true_and, and_true, and_self, Nat.zero_le, Nat.le_refl, true_or, or_true, Bool.false_eq_true, not_false_eq_true, Nat.reduceAdd, Nat.lt_add_one, Nat.zero_lt_one, nI_add, pk_mul, ixL, vpL, ne_eq, reduceIte, wI_sN, wL_sM, sN_same, sN_K, sN_2, sM_1, sM_same, sM_K, sM_s, uI_at, uN_at, enc_at, uI_enc, uI_uI, upM_s, upM_n]
    refine V_run hB (rt := some .int) (nL := 5) (mc := 1) rfl rfl rfl (ops := [(17, .iconst 0, 1, (0, 0, 0, 0, 0, 0), nI 0), (18, .ireturn, 1, (0, 0, 0, 0, 0, 0), 0)]) (by decide +kernel) ?_
    dsimp only [↓wpb, ↓wp1, ↓vI, ↓vL, ↓vD, ↓ldI, ↓ldL, ↓ldD, ↓ldR, ↓k1, ↓k2, ↓kI, ↓kL, ↓kD, ↓kII, ↓kLL, ↓kDD, ↓kR, ↓kIR, ↓kLR, ↓kIIR, ↓kLIR, ↓kDIR, ↓kRIR, ↓kNN, ↓kE, ↓br, ↓bn, ↓rtI, ↓gfv, ↓zchk, lput, ldel, lbad, alA, acat, isRf, dom, dS, dJ, isO, aTy, aLen, elAV, elR, Nat.reduceBEq, Nat.reduceAdd, Bool.or, Bool.and, Nat.add_zero, Nat.zero_add]
    try simp only [Nat.reduceLT, Nat.reduceLeDiff, Nat.reduceEqDiff, true_and, and_true, and_self, Nat.zero_le, Nat.le_refl, true_or, or_true, Bool.false_eq_true, not_false_eq_true, Nat.reduceAdd, Nat.lt_add_one, Nat.zero_lt_one, nI_add, pk_mul, ixL, vpL, ne_eq, reduceIte, wI_sN, wL_sM, sN_same, sN_K, sN_2, sM_1, sM_same, sM_K, sM_s, uI_at, uN_at, enc_at, uI_enc, uI_uI, upM_s, upM_n]
    exact Lw_ok h1 h2 hz
  · intro E t1 hq
    obtain ⟨e, h1, h2⟩ := hq
    by_cases hz : r.1 = 0
    · rw [if_pos hz] at e; cases e
    rw [if_neg hz] at e
    cases e
    have hk : r.1 = 1 := by omega
    · refine ⟨by rw [hk]; decide +kernel, 13, by rw [hk]; decide +kernel, fun q => ?_⟩
      show V x t1 1 13 _ _
      refine V_run hB (rt := some .int) (nL := 5) (mc := 1) rfl rfl rfl (ops := [(13, .astore 4, 2, (4, 0, 0, 0, 0, 0), 0), (15, .iconst 1, 1, (0, 0, 0, 0, 0, 0), nI 1), (16, .ireturn, 1, (0, 0, 0, 0, 0, 0), 0)]) (by decide +kernel) ?_
      dsimp only [↓wpb, ↓wp1, ↓vI, ↓vL, ↓vD, ↓ldI, ↓ldL, ↓ldD, ↓ldR, ↓k1, ↓k2, ↓kI, ↓kL, ↓kD, ↓kII, ↓kLL, ↓kDD, ↓kR, ↓kIR, ↓kLR, ↓kIIR, ↓kLIR, ↓kDIR, ↓kRIR, ↓kNN, ↓kE, ↓br, ↓bn, ↓rtI, ↓gfv, ↓zchk, lput, ldel, lbad, alA, acat, isRf, dom, dS, dJ, isO, aTy, aLen, elAV, elR, Nat.reduceBEq, Nat.reduceAdd, Bool.or, Bool.and, Nat.add_zero, Nat.zero_add]
      try simp only [Nat.reduceLT, Nat.reduceLeDiff, Nat.reduceEqDiff, true_and, and_true, and_self, Nat.zero_le, Nat.le_refl, true_or, or_true, Bool.false_eq_true, not_false_eq_true, Nat.reduceAdd, Nat.lt_add_one, Nat.zero_lt_one, nI_add, pk_mul, ixL, vpL, ne_eq, reduceIte, wI_sN, wL_sM, sN_same, sN_K, sN_2, sM_1, sM_same, sM_K, sM_s, uI_at, uN_at, enc_at, uI_enc, uI_uI, upM_s, upM_n]
      exact Lw_no h1 h2 hz hk
theorem w_debtOf (hc : CtxE l G) (hN : NcF G) (p0 : Int32) (hs : Sat l G iX10_debtOf [moM, aI p0] τ (XOp [IAE] τ r)) (hr : r.1 ≤ 1) : SatH l G iL_debtOf hL_debtOf [moM, aI p0, ouM] τ (LwP τ r) := by
  refine SatH_of hc.1.1 hc.1.2 (by decide +kernel) (Nat.le_of_ble_eq_true rfl) (fun x hB hT => ?_)
  refine V_run hB (rt := some .int) (nL := 4) (mc := 1) rfl rfl rfl (ops := [(0, .aload_n 2, 1, (2, 0, 0, 0, 0, 0), 0), (1, .iconst 0, 1, (0, 0, 0, 0, 0, 0), nI 0), (2, .aload_n 0, 1, (0, 0, 0, 0, 0, 0), 0), (3, .iload_n 1, 1, (1, 0, 0, 0, 0, 0), 0)]) (by decide +kernel) ?_
  dsimp only [↓wpb, ↓wp1, ↓vI, ↓vL, ↓vD, ↓ldI, ↓ldL, ↓ldD, ↓ldR, ↓k1, ↓k2, ↓kI, ↓kL, ↓kD, ↓kII, ↓kLL, ↓kDD, ↓kR, ↓kIR, ↓kLR, ↓kIIR, ↓kLIR, ↓kDIR, ↓kRIR, ↓kNN, ↓kE, ↓br, ↓bn, ↓rtI, ↓gfv, ↓zchk, lput, ldel, lbad, alA, acat, isRf, dom, dS, dJ, isO, aTy, aLen, elAV, elR, Nat.reduceBEq, Nat.reduceAdd, Bool.or, Bool.and, Nat.add_zero, Nat.zero_add]
  try simp only [Nat.reduceLT, Nat.reduceLeDiff, Nat.reduceEqDiff, true_and, and_true, and_self, Nat.zero_le, Nat.le_refl, true_or, or_true, Bool.false_eq_true, not_false_eq_true, Nat.reduceAdd, Nat.lt_add_one, Nat.zero_lt_one, nI_add, pk_mul, ixL, vpL, ne_eq, reduceIte, wI_sN, wL_sM, sN_same, sN_K, sN_2, sM_1, sM_same, sM_K, sM_s, uI_at, uN_at, enc_at, uI_enc, uI_uI, upM_s, upM_n]
  refine V_callVH hB hT hkL_debtOf hN hs rfl (by decide +kernel) cvL_76 (dom1 rfl) npX10_debtOf ⟨by decide, by decide⟩ (Nat.le_of_ble_eq_true rfl) (by decide) ?_ ?_
  · intro v t1 hq
    obtain ⟨e, h1, h2⟩ := hq
    by_cases hz : r.1 = 0
    rotate_left
    · rw [if_neg hz] at e; cases e
    rw [if_pos hz] at e
    cases e
    show V x t1 1 7 _ [aI (nI r.2.1), aI (nI 0), ouM]
    refine V_run hB (rt := some .int) (nL := 4) (mc := 1) rfl rfl rfl (ops := [(7, .i2l, 1, (0, 0, 0, 0, 0, 0), 0), (8, .lastore, 1, (0, 0, 0, 0, 0, 0), 0), (9, .goto 6, 3, (15, 0, 0, 0, 0, 0), 0)]) (by decide +kernel) ?_
    dsimp only [↓wpb, ↓wp1, ↓vI, ↓vL, ↓vD, ↓ldI, ↓ldL, ↓ldD, ↓ldR, ↓k1, ↓k2, ↓kI, ↓kL, ↓kD, ↓kII, ↓kLL, ↓kDD, ↓kR, ↓kIR, ↓kLR, ↓kIIR, ↓kLIR, ↓kDIR, ↓kRIR, ↓kNN, ↓kE, ↓br, ↓bn, ↓rtI, ↓gfv, ↓zchk, lput, ldel, lbad, alA, acat, isRf, dom, dS, dJ, isO, aTy, aLen, elAV, elR, Nat.reduceBEq, Nat.reduceAdd, Bool.or, Bool.and, Nat.add_zero, Nat.zero_add]
    try simp only [Nat.reduceLT, Nat.reduceLeDiff, Nat.reduceEqDiff, true_and, and_true, and_self, Nat.zero_le, Nat.le_refl, true_or, or_true, Bool.false_eq_true, not_false_eq_true, Nat.reduceAdd, Nat.lt_add_one, Nat.zero_lt_one, nI_add, pk_mul, ixL, vpL, ne_eq, reduceIte, wI_sN, wL_sM, sN_same, sN_K, sN_2, sM_1, sM_same, sM_K, sM_s, uI_at, uN_at, enc_at, uI_enc, uI_uI, upM_s, upM_n]
    refine V_run hB (rt := some .int) (nL := 4) (mc := 1) rfl rfl rfl (ops := [(15, .iconst 0, 1, (0, 0, 0, 0, 0, 0), nI 0), (16, .ireturn, 1, (0, 0, 0, 0, 0, 0), 0)]) (by decide +kernel) ?_
    dsimp only [↓wpb, ↓wp1, ↓vI, ↓vL, ↓vD, ↓ldI, ↓ldL, ↓ldD, ↓ldR, ↓k1, ↓k2, ↓kI, ↓kL, ↓kD, ↓kII, ↓kLL, ↓kDD, ↓kR, ↓kIR, ↓kLR, ↓kIIR, ↓kLIR, ↓kDIR, ↓kRIR, ↓kNN, ↓kE, ↓br, ↓bn, ↓rtI, ↓gfv, ↓zchk, lput, ldel, lbad, alA, acat, isRf, dom, dS, dJ, isO, aTy, aLen, elAV, elR, Nat.reduceBEq, Nat.reduceAdd, Bool.or, Bool.and, Nat.add_zero, Nat.zero_add]
    try simp only [Nat.reduceLT, Nat.reduceLeDiff, Nat.reduceEqDiff, true_and, and_true, and_self, Nat.zero_le, Nat.le_refl, true_or, or_true, Bool.false_eq_true, not_false_eq_true, Nat.reduceAdd, Nat.lt_add_one, Nat.zero_lt_one, nI_add, pk_mul, ixL, vpL, ne_eq, reduceIte, wI_sN, wL_sM, sN_same, sN_K, sN_2, sM_1, sM_same, sM_K, sM_s, uI_at, uN_at, enc_at, uI_enc, uI_uI, upM_s, upM_n]
    exact Lw_ok h1 h2 hz
  · intro E t1 hq
    obtain ⟨e, h1, h2⟩ := hq
    by_cases hz : r.1 = 0
    · rw [if_pos hz] at e; cases e
    rw [if_neg hz] at e
    cases e
    have hk : r.1 = 1 := by omega
    · refine ⟨by rw [hk]; decide +kernel, 12, by rw [hk]; decide +kernel, fun q => ?_⟩
      show V x t1 1 12 _ _
      refine V_run hB (rt := some .int) (nL := 4) (mc := 1) rfl rfl rfl (ops := [(12, .astore_n 3, 1, (3, 0, 0, 0, 0, 0), 0), (13, .iconst 1, 1, (0, 0, 0, 0, 0, 0), nI 1), (14, .ireturn, 1, (0, 0, 0, 0, 0, 0), 0)]) (by decide +kernel) ?_
      dsimp only [↓wpb, ↓wp1, ↓vI, ↓vL, ↓vD, ↓ldI, ↓ldL, ↓ldD, ↓ldR, ↓k1, ↓k2, ↓kI, ↓kL, ↓kD, ↓kII, ↓kLL, ↓kDD, ↓kR, ↓kIR, ↓kLR, ↓kIIR, ↓kLIR, ↓kDIR, ↓kRIR, ↓kNN, ↓kE, ↓br, ↓bn, ↓rtI, ↓gfv, ↓zchk, lput, ldel, lbad, alA, acat, isRf, dom, dS, dJ, isO, aTy, aLen, elAV, elR, Nat.reduceBEq, Nat.reduceAdd, Bool.or, Bool.and, Nat.add_zero, Nat.zero_add]
      try simp only [Nat.reduceLT, Nat.reduceLeDiff, Nat.reduceEqDiff, true_and, and_true, and_self, Nat.zero_le, Nat.le_refl, true_or, or_true, Bool.false_eq_true, not_false_eq_true, Nat.reduceAdd, Nat.lt_add_one, Nat.zero_lt_one, nI_add, pk_mul, ixL, vpL, ne_eq, reduceIte, wI_sN, wL_sM, sN_same, sN_K, sN_2, sM_1, sM_same, sM_K, sM_s, uI_at, uN_at, enc_at, uI_enc, uI_uI, upM_s, upM_n]
      exact Lw_no h1 h2 hz hk
theorem w_daysToForfeit (hc : CtxE l G) (hN : NcF G) (hs : Sat l G iX10_daysToForfeit [moM] τ (XOp [NSE] τ r)) (hr : r.1 ≤ 1) : SatH l G iL_daysToForfeit hL_daysToForfeit [moM, ouM] τ (LwP τ r) := by
  refine SatH_of hc.1.1 hc.1.2 (by decide +kernel) (Nat.le_of_ble_eq_true rfl) (fun x hB hT => ?_)
  refine V_run hB (rt := some .int) (nL := 3) (mc := 1) rfl rfl rfl (ops := [(0, .aload_n 1, 1, (1, 0, 0, 0, 0, 0), 0), (1, .iconst 0, 1, (0, 0, 0, 0, 0, 0), nI 0), (2, .aload_n 0, 1, (0, 0, 0, 0, 0, 0), 0)]) (by decide +kernel) ?_
  dsimp only [↓wpb, ↓wp1, ↓vI, ↓vL, ↓vD, ↓ldI, ↓ldL, ↓ldD, ↓ldR, ↓k1, ↓k2, ↓kI, ↓kL, ↓kD, ↓kII, ↓kLL, ↓kDD, ↓kR, ↓kIR, ↓kLR, ↓kIIR, ↓kLIR, ↓kDIR, ↓kRIR, ↓kNN, ↓kE, ↓br, ↓bn, ↓rtI, ↓gfv, ↓zchk, lput, ldel, lbad, alA, acat, isRf, dom, dS, dJ, isO, aTy, aLen, elAV, elR, Nat.reduceBEq, Nat.reduceAdd, Bool.or, Bool.and, Nat.add_zero, Nat.zero_add]
  try simp only [Nat.reduceLT, Nat.reduceLeDiff, Nat.reduceEqDiff, true_and, and_true, and_self, Nat.zero_le, Nat.le_refl, true_or, or_true, Bool.false_eq_true, not_false_eq_true, Nat.reduceAdd, Nat.lt_add_one, Nat.zero_lt_one, nI_add, pk_mul, ixL, vpL, ne_eq, reduceIte, wI_sN, wL_sM, sN_same, sN_K, sN_2, sM_1, sM_same, sM_K, sM_s, uI_at, uN_at, enc_at, uI_enc, uI_uI, upM_s, upM_n]
  refine V_callVH hB hT hkL_daysToForfeit hN hs rfl (by decide +kernel) cvL_79 (dom1 rfl) npX10_daysToForfeit ⟨by decide, by decide⟩ (Nat.le_of_ble_eq_true rfl) (by decide) ?_ ?_
  · intro v t1 hq
    obtain ⟨e, h1, h2⟩ := hq
    by_cases hz : r.1 = 0
    rotate_left
    · rw [if_neg hz] at e; cases e
    rw [if_pos hz] at e
    cases e
    show V x t1 1 6 _ [aI (nI r.2.1), aI (nI 0), ouM]
    refine V_run hB (rt := some .int) (nL := 3) (mc := 1) rfl rfl rfl (ops := [(6, .i2l, 1, (0, 0, 0, 0, 0, 0), 0), (7, .lastore, 1, (0, 0, 0, 0, 0, 0), 0), (8, .goto 6, 3, (14, 0, 0, 0, 0, 0), 0)]) (by decide +kernel) ?_
    dsimp only [↓wpb, ↓wp1, ↓vI, ↓vL, ↓vD, ↓ldI, ↓ldL, ↓ldD, ↓ldR, ↓k1, ↓k2, ↓kI, ↓kL, ↓kD, ↓kII, ↓kLL, ↓kDD, ↓kR, ↓kIR, ↓kLR, ↓kIIR, ↓kLIR, ↓kDIR, ↓kRIR, ↓kNN, ↓kE, ↓br, ↓bn, ↓rtI, ↓gfv, ↓zchk, lput, ldel, lbad, alA, acat, isRf, dom, dS, dJ, isO, aTy, aLen, elAV, elR, Nat.reduceBEq, Nat.reduceAdd, Bool.or, Bool.and, Nat.add_zero, Nat.zero_add]
    try simp only [Nat.reduceLT, Nat.reduceLeDiff, Nat.reduceEqDiff, true_and, and_true, and_self, Nat.zero_le, Nat.le_refl, true_or, or_true, Bool.false_eq_true, not_false_eq_true, Nat.reduceAdd, Nat.lt_add_one, Nat.zero_lt_one, nI_add, pk_mul, ixL, vpL, ne_eq, reduceIte, wI_sN, wL_sM, sN_same, sN_K, sN_2, sM_1, sM_same, sM_K, sM_s, uI_at, uN_at, enc_at, uI_enc, uI_uI, upM_s, upM_n]
    refine V_run hB (rt := some .int) (nL := 3) (mc := 1) rfl rfl rfl (ops := [(14, .iconst 0, 1, (0, 0, 0, 0, 0, 0), nI 0), (15, .ireturn, 1, (0, 0, 0, 0, 0, 0), 0)]) (by decide +kernel) ?_
    dsimp only [↓wpb, ↓wp1, ↓vI, ↓vL, ↓vD, ↓ldI, ↓ldL, ↓ldD, ↓ldR, ↓k1, ↓k2, ↓kI, ↓kL, ↓kD, ↓kII, ↓kLL, ↓kDD, ↓kR, ↓kIR, ↓kLR, ↓kIIR, ↓kLIR, ↓kDIR, ↓kRIR, ↓kNN, ↓kE, ↓br, ↓bn, ↓rtI, ↓gfv, ↓zchk, lput, ldel, lbad, alA, acat, isRf, dom, dS, dJ, isO, aTy, aLen, elAV, elR, Nat.reduceBEq, Nat.reduceAdd, Bool.or, Bool.and, Nat.add_zero, Nat.zero_add]
    try simp only [Nat.reduceLT, Nat.reduceLeDiff, Nat.reduceEqDiff, true_and, and_true, and_self, Nat.zero_le, Nat.le_refl, true_or, or_true, Bool.false_eq_true, not_false_eq_true, Nat.reduceAdd, Nat.lt_add_one, Nat.zero_lt_one, nI_add, pk_mul, ixL, vpL, ne_eq, reduceIte, wI_sN, wL_sM, sN_same, sN_K, sN_2, sM_1, sM_same, sM_K, sM_s, uI_at, uN_at, enc_at, uI_enc, uI_uI, upM_s, upM_n]
    exact Lw_ok h1 h2 hz
  · intro E t1 hq
    obtain ⟨e, h1, h2⟩ := hq
    by_cases hz : r.1 = 0
    · rw [if_pos hz] at e; cases e
    rw [if_neg hz] at e
    cases e
    have hk : r.1 = 1 := by omega
    · refine ⟨by rw [hk]; decide +kernel, 11, by rw [hk]; decide +kernel, fun q => ?_⟩
      show V x t1 1 11 _ _
      refine V_run hB (rt := some .int) (nL := 3) (mc := 1) rfl rfl rfl (ops := [(11, .astore_n 2, 1, (2, 0, 0, 0, 0, 0), 0), (12, .iconst 1, 1, (0, 0, 0, 0, 0, 0), nI 1), (13, .ireturn, 1, (0, 0, 0, 0, 0, 0), 0)]) (by decide +kernel) ?_
      dsimp only [↓wpb, ↓wp1, ↓vI, ↓vL, ↓vD, ↓ldI, ↓ldL, ↓ldD, ↓ldR, ↓k1, ↓k2, ↓kI, ↓kL, ↓kD, ↓kII, ↓kLL, ↓kDD, ↓kR, ↓kIR, ↓kLR, ↓kIIR, ↓kLIR, ↓kDIR, ↓kRIR, ↓kNN, ↓kE, ↓br, ↓bn, ↓rtI, ↓gfv, ↓zchk, lput, ldel, lbad, alA, acat, isRf, dom, dS, dJ, isO, aTy, aLen, elAV, elR, Nat.reduceBEq, Nat.reduceAdd, Bool.or, Bool.and, Nat.add_zero, Nat.zero_add]
      try simp only [Nat.reduceLT, Nat.reduceLeDiff, Nat.reduceEqDiff, true_and, and_true, and_self, Nat.zero_le, Nat.le_refl, true_or, or_true, Bool.false_eq_true, not_false_eq_true, Nat.reduceAdd, Nat.lt_add_one, Nat.zero_lt_one, nI_add, pk_mul, ixL, vpL, ne_eq, reduceIte, wI_sN, wL_sM, sN_same, sN_K, sN_2, sM_1, sM_same, sM_K, sM_s, uI_at, uN_at, enc_at, uI_enc, uI_uI, upM_s, upM_n]
      exact Lw_no h1 h2 hz hk
theorem w_bid (hc : CtxE l G) (hN : NcF G) (p0 : Int32) (p1 : Int32) (p2 : Int32) (hs : Sat l G iX10_bid [moM, aI p0, aI p1, aI p2] τ (XOp [NSE, IAE] τ r)) (hr : r.1 ≤ 2) : SatH l G iL_bid hL_bid [moM, aI p0, aI p1, aI p2, ouM] τ (LwP τ r) := by
  refine SatH_of hc.1.1 hc.1.2 (by decide +kernel) (Nat.le_of_ble_eq_true rfl) (fun x hB hT => ?_)
  refine V_run hB (rt := some .int) (nL := 6) (mc := 2) rfl rfl rfl (ops := [(0, .aload 4, 2, (4, 0, 0, 0, 0, 0), 0), (2, .iconst 0, 1, (0, 0, 0, 0, 0, 0), nI 0), (3, .aload_n 0, 1, (0, 0, 0, 0, 0, 0), 0), (4, .iload_n 1, 1, (1, 0, 0, 0, 0, 0), 0), (5, .iload_n 2, 1, (2, 0, 0, 0, 0, 0), 0), (6, .iload_n 3, 1, (3, 0, 0, 0, 0, 0), 0)]) (by decide +kernel) ?_
  dsimp only [↓wpb, ↓wp1, ↓vI, ↓vL, ↓vD, ↓ldI, ↓ldL, ↓ldD, ↓ldR, ↓k1, ↓k2, ↓kI, ↓kL, ↓kD, ↓kII, ↓kLL, ↓kDD, ↓kR, ↓kIR, ↓kLR, ↓kIIR, ↓kLIR, ↓kDIR, ↓kRIR, ↓kNN, ↓kE, ↓br, ↓bn, ↓rtI, ↓gfv, ↓zchk, lput, ldel, lbad, alA, acat, isRf, dom, dS, dJ, isO, aTy, aLen, elAV, elR, Nat.reduceBEq, Nat.reduceAdd, Bool.or, Bool.and, Nat.add_zero, Nat.zero_add]
  try simp only [Nat.reduceLT, Nat.reduceLeDiff, Nat.reduceEqDiff, true_and, and_true, and_self, Nat.zero_le, Nat.le_refl, true_or, or_true, Bool.false_eq_true, not_false_eq_true, Nat.reduceAdd, Nat.lt_add_one, Nat.zero_lt_one, nI_add, pk_mul, ixL, vpL, ne_eq, reduceIte, wI_sN, wL_sM, sN_same, sN_K, sN_2, sM_1, sM_same, sM_K, sM_s, uI_at, uN_at, enc_at, uI_enc, uI_uI, upM_s, upM_n]
  refine V_callVH hB hT hkL_bid hN hs rfl (by decide +kernel) cvL_83 (dom1 rfl) npX10_bid ⟨by decide, by decide⟩ (Nat.le_of_ble_eq_true rfl) (by decide) ?_ ?_
  · intro v t1 hq
    obtain ⟨e, h1, h2⟩ := hq
    by_cases hz : r.1 = 0
    rotate_left
    · rw [if_neg hz] at e; cases e
    rw [if_pos hz] at e
    cases e
    show V x t1 2 10 _ [aI (nI r.2.1), aI (nI 0), ouM]
    refine V_run hB (rt := some .int) (nL := 6) (mc := 2) rfl rfl rfl (ops := [(10, .i2l, 1, (0, 0, 0, 0, 0, 0), 0), (11, .lastore, 1, (0, 0, 0, 0, 0, 0), 0), (12, .goto 11, 3, (23, 0, 0, 0, 0, 0), 0)]) (by decide +kernel) ?_
    dsimp only [↓wpb, ↓wp1, ↓vI, ↓vL, ↓vD, ↓ldI, ↓ldL, ↓ldD, ↓ldR, ↓k1, ↓k2, ↓kI, ↓kL, ↓kD, ↓kII, ↓kLL, ↓kDD, ↓kR, ↓kIR, ↓kLR, ↓kIIR, ↓kLIR, ↓kDIR, ↓kRIR, ↓kNN, ↓kE, ↓br, ↓bn, ↓rtI, ↓gfv, ↓zchk, lput, ldel, lbad, alA, acat, isRf, dom, dS, dJ, isO, aTy, aLen, elAV, elR, Nat.reduceBEq, Nat.reduceAdd, Bool.or, Bool.and, Nat.add_zero, Nat.zero_add]
    try simp only [Nat.reduceLT, Nat.reduceLeDiff, Nat.reduceEqDiff, true_and, and_true, and_self, Nat.zero_le, Nat.le_refl, true_or, or_true, Bool.false_eq_true, not_false_eq_true, Nat.reduceAdd, Nat.lt_add_one, Nat.zero_lt_one, nI_add, pk_mul, ixL, vpL, ne_eq, reduceIte, wI_sN, wL_sM, sN_same, sN_K, sN_2, sM_1, sM_same, sM_K, sM_s, uI_at, uN_at, enc_at, uI_enc, uI_uI, upM_s, upM_n]
    refine V_run hB (rt := some .int) (nL := 6) (mc := 2) rfl rfl rfl (ops := [(23, .iconst 0, 1, (0, 0, 0, 0, 0, 0), nI 0), (24, .ireturn, 1, (0, 0, 0, 0, 0, 0), 0)]) (by decide +kernel) ?_
    dsimp only [↓wpb, ↓wp1, ↓vI, ↓vL, ↓vD, ↓ldI, ↓ldL, ↓ldD, ↓ldR, ↓k1, ↓k2, ↓kI, ↓kL, ↓kD, ↓kII, ↓kLL, ↓kDD, ↓kR, ↓kIR, ↓kLR, ↓kIIR, ↓kLIR, ↓kDIR, ↓kRIR, ↓kNN, ↓kE, ↓br, ↓bn, ↓rtI, ↓gfv, ↓zchk, lput, ldel, lbad, alA, acat, isRf, dom, dS, dJ, isO, aTy, aLen, elAV, elR, Nat.reduceBEq, Nat.reduceAdd, Bool.or, Bool.and, Nat.add_zero, Nat.zero_add]
    try simp only [Nat.reduceLT, Nat.reduceLeDiff, Nat.reduceEqDiff, true_and, and_true, and_self, Nat.zero_le, Nat.le_refl, true_or, or_true, Bool.false_eq_true, not_false_eq_true, Nat.reduceAdd, Nat.lt_add_one, Nat.zero_lt_one, nI_add, pk_mul, ixL, vpL, ne_eq, reduceIte, wI_sN, wL_sM, sN_same, sN_K, sN_2, sM_1, sM_same, sM_K, sM_s, uI_at, uN_at, enc_at, uI_enc, uI_uI, upM_s, upM_n]
    exact Lw_ok h1 h2 hz
  · intro E t1 hq
    obtain ⟨e, h1, h2⟩ := hq
    by_cases hz : r.1 = 0
    · rw [if_pos hz] at e; cases e
    rw [if_neg hz] at e
    cases e
    rcases (by omega : r.1 = 1 ∨ r.1 = 2) with hk | hk
    · refine ⟨by rw [hk]; decide +kernel, 15, by rw [hk]; decide +kernel, fun q => ?_⟩
      show V x t1 2 15 _ _
      refine V_run hB (rt := some .int) (nL := 6) (mc := 2) rfl rfl rfl (ops := [(15, .astore 5, 2, (5, 0, 0, 0, 0, 0), 0), (17, .iconst 1, 1, (0, 0, 0, 0, 0, 0), nI 1), (18, .ireturn, 1, (0, 0, 0, 0, 0, 0), 0)]) (by decide +kernel) ?_
      dsimp only [↓wpb, ↓wp1, ↓vI, ↓vL, ↓vD, ↓ldI, ↓ldL, ↓ldD, ↓ldR, ↓k1, ↓k2, ↓kI, ↓kL, ↓kD, ↓kII, ↓kLL, ↓kDD, ↓kR, ↓kIR, ↓kLR, ↓kIIR, ↓kLIR, ↓kDIR, ↓kRIR, ↓kNN, ↓kE, ↓br, ↓bn, ↓rtI, ↓gfv, ↓zchk, lput, ldel, lbad, alA, acat, isRf, dom, dS, dJ, isO, aTy, aLen, elAV, elR, Nat.reduceBEq, Nat.reduceAdd, Bool.or, Bool.and, Nat.add_zero, Nat.zero_add]
      try simp only [Nat.reduceLT, Nat.reduceLeDiff, Nat.reduceEqDiff, true_and, and_true, and_self, Nat.zero_le, Nat.le_refl, true_or, or_true, Bool.false_eq_true, not_false_eq_true, Nat.reduceAdd, Nat.lt_add_one, Nat.zero_lt_one, nI_add, pk_mul, ixL, vpL, ne_eq, reduceIte, wI_sN, wL_sM, sN_same, sN_K, sN_2, sM_1, sM_same, sM_K, sM_s, uI_at, uN_at, enc_at, uI_enc, uI_uI, upM_s, upM_n]
      exact Lw_no h1 h2 hz hk
    · refine ⟨by rw [hk]; decide +kernel, 19, by rw [hk]; decide +kernel, fun q => ?_⟩
      show V x t1 2 19 _ _
      refine V_run hB (rt := some .int) (nL := 6) (mc := 2) rfl rfl rfl (ops := [(19, .astore 5, 2, (5, 0, 0, 0, 0, 0), 0), (21, .iconst 2, 1, (0, 0, 0, 0, 0, 0), nI 2), (22, .ireturn, 1, (0, 0, 0, 0, 0, 0), 0)]) (by decide +kernel) ?_
      dsimp only [↓wpb, ↓wp1, ↓vI, ↓vL, ↓vD, ↓ldI, ↓ldL, ↓ldD, ↓ldR, ↓k1, ↓k2, ↓kI, ↓kL, ↓kD, ↓kII, ↓kLL, ↓kDD, ↓kR, ↓kIR, ↓kLR, ↓kIIR, ↓kLIR, ↓kDIR, ↓kRIR, ↓kNN, ↓kE, ↓br, ↓bn, ↓rtI, ↓gfv, ↓zchk, lput, ldel, lbad, alA, acat, isRf, dom, dS, dJ, isO, aTy, aLen, elAV, elR, Nat.reduceBEq, Nat.reduceAdd, Bool.or, Bool.and, Nat.add_zero, Nat.zero_add]
      try simp only [Nat.reduceLT, Nat.reduceLeDiff, Nat.reduceEqDiff, true_and, and_true, and_self, Nat.zero_le, Nat.le_refl, true_or, or_true, Bool.false_eq_true, not_false_eq_true, Nat.reduceAdd, Nat.lt_add_one, Nat.zero_lt_one, nI_add, pk_mul, ixL, vpL, ne_eq, reduceIte, wI_sN, wL_sM, sN_same, sN_K, sN_2, sM_1, sM_same, sM_K, sM_s, uI_at, uN_at, enc_at, uI_enc, uI_uI, upM_s, upM_n]
      exact Lw_no h1 h2 hz hk
theorem w_sell (hc : CtxE l G) (hN : NcF G) (p0 : Int32) (hs : Sat l G iX10_sell [moM, aI p0] τ (XOp [NSE, ISE] τ r)) (hr : r.1 ≤ 2) : SatH l G iL_sell hL_sell [moM, aI p0, ouM] τ (LwP τ r) := by
  refine SatH_of hc.1.1 hc.1.2 (by decide +kernel) (Nat.le_of_ble_eq_true rfl) (fun x hB hT => ?_)
  refine V_run hB (rt := some .int) (nL := 4) (mc := 2) rfl rfl rfl (ops := [(0, .aload_n 2, 1, (2, 0, 0, 0, 0, 0), 0), (1, .iconst 0, 1, (0, 0, 0, 0, 0, 0), nI 0), (2, .aload_n 0, 1, (0, 0, 0, 0, 0, 0), 0), (3, .iload_n 1, 1, (1, 0, 0, 0, 0, 0), 0)]) (by decide +kernel) ?_
  dsimp only [↓wpb, ↓wp1, ↓vI, ↓vL, ↓vD, ↓ldI, ↓ldL, ↓ldD, ↓ldR, ↓k1, ↓k2, ↓kI, ↓kL, ↓kD, ↓kII, ↓kLL, ↓kDD, ↓kR, ↓kIR, ↓kLR, ↓kIIR, ↓kLIR, ↓kDIR, ↓kRIR, ↓kNN, ↓kE, ↓br, ↓bn, ↓rtI, ↓gfv, ↓zchk, lput, ldel, lbad, alA, acat, isRf, dom, dS, dJ, isO, aTy, aLen, elAV, elR, Nat.reduceBEq, Nat.reduceAdd, Bool.or, Bool.and, Nat.add_zero, Nat.zero_add]
  try simp only [Nat.reduceLT, Nat.reduceLeDiff, Nat.reduceEqDiff, true_and, and_true, and_self, Nat.zero_le, Nat.le_refl, true_or, or_true, Bool.false_eq_true, not_false_eq_true, Nat.reduceAdd, Nat.lt_add_one, Nat.zero_lt_one, nI_add, pk_mul, ixL, vpL, ne_eq, reduceIte, wI_sN, wL_sM, sN_same, sN_K, sN_2, sM_1, sM_same, sM_K, sM_s, uI_at, uN_at, enc_at, uI_enc, uI_uI, upM_s, upM_n]
  refine V_callVH hB hT hkL_sell hN hs rfl (by decide +kernel) cvL_86 (dom1 rfl) npX10_sell ⟨by decide, by decide⟩ (Nat.le_of_ble_eq_true rfl) (by decide) ?_ ?_
  · intro v t1 hq
    obtain ⟨e, h1, h2⟩ := hq
    by_cases hz : r.1 = 0
    rotate_left
    · rw [if_neg hz] at e; cases e
    rw [if_pos hz] at e
    cases e
    show V x t1 2 7 _ [aI (nI r.2.1), aI (nI 0), ouM]
    refine V_run hB (rt := some .int) (nL := 4) (mc := 2) rfl rfl rfl (ops := [(7, .i2l, 1, (0, 0, 0, 0, 0, 0), 0), (8, .lastore, 1, (0, 0, 0, 0, 0, 0), 0), (9, .goto 9, 3, (18, 0, 0, 0, 0, 0), 0)]) (by decide +kernel) ?_
    dsimp only [↓wpb, ↓wp1, ↓vI, ↓vL, ↓vD, ↓ldI, ↓ldL, ↓ldD, ↓ldR, ↓k1, ↓k2, ↓kI, ↓kL, ↓kD, ↓kII, ↓kLL, ↓kDD, ↓kR, ↓kIR, ↓kLR, ↓kIIR, ↓kLIR, ↓kDIR, ↓kRIR, ↓kNN, ↓kE, ↓br, ↓bn, ↓rtI, ↓gfv, ↓zchk, lput, ldel, lbad, alA, acat, isRf, dom, dS, dJ, isO, aTy, aLen, elAV, elR, Nat.reduceBEq, Nat.reduceAdd, Bool.or, Bool.and, Nat.add_zero, Nat.zero_add]
    try simp only [Nat.reduceLT, Nat.reduceLeDiff, Nat.reduceEqDiff, true_and, and_true, and_self, Nat.zero_le, Nat.le_refl, true_or, or_true, Bool.false_eq_true, not_false_eq_true, Nat.reduceAdd, Nat.lt_add_one, Nat.zero_lt_one, nI_add, pk_mul, ixL, vpL, ne_eq, reduceIte, wI_sN, wL_sM, sN_same, sN_K, sN_2, sM_1, sM_same, sM_K, sM_s, uI_at, uN_at, enc_at, uI_enc, uI_uI, upM_s, upM_n]
    refine V_run hB (rt := some .int) (nL := 4) (mc := 2) rfl rfl rfl (ops := [(18, .iconst 0, 1, (0, 0, 0, 0, 0, 0), nI 0), (19, .ireturn, 1, (0, 0, 0, 0, 0, 0), 0)]) (by decide +kernel) ?_
    dsimp only [↓wpb, ↓wp1, ↓vI, ↓vL, ↓vD, ↓ldI, ↓ldL, ↓ldD, ↓ldR, ↓k1, ↓k2, ↓kI, ↓kL, ↓kD, ↓kII, ↓kLL, ↓kDD, ↓kR, ↓kIR, ↓kLR, ↓kIIR, ↓kLIR, ↓kDIR, ↓kRIR, ↓kNN, ↓kE, ↓br, ↓bn, ↓rtI, ↓gfv, ↓zchk, lput, ldel, lbad, alA, acat, isRf, dom, dS, dJ, isO, aTy, aLen, elAV, elR, Nat.reduceBEq, Nat.reduceAdd, Bool.or, Bool.and, Nat.add_zero, Nat.zero_add]
    try simp only [Nat.reduceLT, Nat.reduceLeDiff, Nat.reduceEqDiff, true_and, and_true, and_self, Nat.zero_le, Nat.le_refl, true_or, or_true, Bool.false_eq_true, not_false_eq_true, Nat.reduceAdd, Nat.lt_add_one, Nat.zero_lt_one, nI_add, pk_mul, ixL, vpL, ne_eq, reduceIte, wI_sN, wL_sM, sN_same, sN_K, sN_2, sM_1, sM_same, sM_K, sM_s, uI_at, uN_at, enc_at, uI_enc, uI_uI, upM_s, upM_n]
    exact Lw_ok h1 h2 hz
  · intro E t1 hq
    obtain ⟨e, h1, h2⟩ := hq
    by_cases hz : r.1 = 0
    · rw [if_pos hz] at e; cases e
    rw [if_neg hz] at e
    cases e
    rcases (by omega : r.1 = 1 ∨ r.1 = 2) with hk | hk
    · refine ⟨by rw [hk]; decide +kernel, 12, by rw [hk]; decide +kernel, fun q => ?_⟩
      show V x t1 2 12 _ _
      refine V_run hB (rt := some .int) (nL := 4) (mc := 2) rfl rfl rfl (ops := [(12, .astore_n 3, 1, (3, 0, 0, 0, 0, 0), 0), (13, .iconst 1, 1, (0, 0, 0, 0, 0, 0), nI 1), (14, .ireturn, 1, (0, 0, 0, 0, 0, 0), 0)]) (by decide +kernel) ?_
      dsimp only [↓wpb, ↓wp1, ↓vI, ↓vL, ↓vD, ↓ldI, ↓ldL, ↓ldD, ↓ldR, ↓k1, ↓k2, ↓kI, ↓kL, ↓kD, ↓kII, ↓kLL, ↓kDD, ↓kR, ↓kIR, ↓kLR, ↓kIIR, ↓kLIR, ↓kDIR, ↓kRIR, ↓kNN, ↓kE, ↓br, ↓bn, ↓rtI, ↓gfv, ↓zchk, lput, ldel, lbad, alA, acat, isRf, dom, dS, dJ, isO, aTy, aLen, elAV, elR, Nat.reduceBEq, Nat.reduceAdd, Bool.or, Bool.and, Nat.add_zero, Nat.zero_add]
      try simp only [Nat.reduceLT, Nat.reduceLeDiff, Nat.reduceEqDiff, true_and, and_true, and_self, Nat.zero_le, Nat.le_refl, true_or, or_true, Bool.false_eq_true, not_false_eq_true, Nat.reduceAdd, Nat.lt_add_one, Nat.zero_lt_one, nI_add, pk_mul, ixL, vpL, ne_eq, reduceIte, wI_sN, wL_sM, sN_same, sN_K, sN_2, sM_1, sM_same, sM_K, sM_s, uI_at, uN_at, enc_at, uI_enc, uI_uI, upM_s, upM_n]
      exact Lw_no h1 h2 hz hk
    · refine ⟨by rw [hk]; decide +kernel, 15, by rw [hk]; decide +kernel, fun q => ?_⟩
      show V x t1 2 15 _ _
      refine V_run hB (rt := some .int) (nL := 4) (mc := 2) rfl rfl rfl (ops := [(15, .astore_n 3, 1, (3, 0, 0, 0, 0, 0), 0), (16, .iconst 2, 1, (0, 0, 0, 0, 0, 0), nI 2), (17, .ireturn, 1, (0, 0, 0, 0, 0, 0), 0)]) (by decide +kernel) ?_
      dsimp only [↓wpb, ↓wp1, ↓vI, ↓vL, ↓vD, ↓ldI, ↓ldL, ↓ldD, ↓ldR, ↓k1, ↓k2, ↓kI, ↓kL, ↓kD, ↓kII, ↓kLL, ↓kDD, ↓kR, ↓kIR, ↓kLR, ↓kIIR, ↓kLIR, ↓kDIR, ↓kRIR, ↓kNN, ↓kE, ↓br, ↓bn, ↓rtI, ↓gfv, ↓zchk, lput, ldel, lbad, alA, acat, isRf, dom, dS, dJ, isO, aTy, aLen, elAV, elR, Nat.reduceBEq, Nat.reduceAdd, Bool.or, Bool.and, Nat.add_zero, Nat.zero_add]
      try simp only [Nat.reduceLT, Nat.reduceLeDiff, Nat.reduceEqDiff, true_and, and_true, and_self, Nat.zero_le, Nat.le_refl, true_or, or_true, Bool.false_eq_true, not_false_eq_true, Nat.reduceAdd, Nat.lt_add_one, Nat.zero_lt_one, nI_add, pk_mul, ixL, vpL, ne_eq, reduceIte, wI_sN, wL_sM, sN_same, sN_K, sN_2, sM_1, sM_same, sM_K, sM_s, uI_at, uN_at, enc_at, uI_enc, uI_uI, upM_s, upM_n]
      exact Lw_no h1 h2 hz hk
theorem w_sellEvening (hc : CtxE l G) (hN : NcF G) (hs : Sat l G iX10_sellEvening [moM] τ (XOp [ISE] τ r)) (hr : r.1 ≤ 1) : SatH l G iL_sellEvening hL_sellEvening [moM, ouM] τ (LwP τ r) := by
  refine SatH_of hc.1.1 hc.1.2 (by decide +kernel) (Nat.le_of_ble_eq_true rfl) (fun x hB hT => ?_)
  refine V_run hB (rt := some .int) (nL := 3) (mc := 1) rfl rfl rfl (ops := [(0, .aload_n 1, 1, (1, 0, 0, 0, 0, 0), 0), (1, .iconst 0, 1, (0, 0, 0, 0, 0, 0), nI 0), (2, .aload_n 0, 1, (0, 0, 0, 0, 0, 0), 0)]) (by decide +kernel) ?_
  dsimp only [↓wpb, ↓wp1, ↓vI, ↓vL, ↓vD, ↓ldI, ↓ldL, ↓ldD, ↓ldR, ↓k1, ↓k2, ↓kI, ↓kL, ↓kD, ↓kII, ↓kLL, ↓kDD, ↓kR, ↓kIR, ↓kLR, ↓kIIR, ↓kLIR, ↓kDIR, ↓kRIR, ↓kNN, ↓kE, ↓br, ↓bn, ↓rtI, ↓gfv, ↓zchk, lput, ldel, lbad, alA, acat, isRf, dom, dS, dJ, isO, aTy, aLen, elAV, elR, Nat.reduceBEq, Nat.reduceAdd, Bool.or, Bool.and, Nat.add_zero, Nat.zero_add]
  try simp only [Nat.reduceLT, Nat.reduceLeDiff, Nat.reduceEqDiff, true_and, and_true, and_self, Nat.zero_le, Nat.le_refl, true_or, or_true, Bool.false_eq_true, not_false_eq_true, Nat.reduceAdd, Nat.lt_add_one, Nat.zero_lt_one, nI_add, pk_mul, ixL, vpL, ne_eq, reduceIte, wI_sN, wL_sM, sN_same, sN_K, sN_2, sM_1, sM_same, sM_K, sM_s, uI_at, uN_at, enc_at, uI_enc, uI_uI, upM_s, upM_n]
  refine V_callVH hB hT hkL_sellEvening hN hs rfl (by decide +kernel) cvL_89 (dom1 rfl) npX10_sellEvening ⟨by decide, by decide⟩ (Nat.le_of_ble_eq_true rfl) (by decide) ?_ ?_
  · intro v t1 hq
    obtain ⟨e, h1, h2⟩ := hq
    by_cases hz : r.1 = 0
    rotate_left
    · rw [if_neg hz] at e; cases e
    rw [if_pos hz] at e
    cases e
    show V x t1 1 6 _ [aI (nI r.2.1), aI (nI 0), ouM]
    refine V_run hB (rt := some .int) (nL := 3) (mc := 1) rfl rfl rfl (ops := [(6, .i2l, 1, (0, 0, 0, 0, 0, 0), 0), (7, .lastore, 1, (0, 0, 0, 0, 0, 0), 0), (8, .goto 6, 3, (14, 0, 0, 0, 0, 0), 0)]) (by decide +kernel) ?_
    dsimp only [↓wpb, ↓wp1, ↓vI, ↓vL, ↓vD, ↓ldI, ↓ldL, ↓ldD, ↓ldR, ↓k1, ↓k2, ↓kI, ↓kL, ↓kD, ↓kII, ↓kLL, ↓kDD, ↓kR, ↓kIR, ↓kLR, ↓kIIR, ↓kLIR, ↓kDIR, ↓kRIR, ↓kNN, ↓kE, ↓br, ↓bn, ↓rtI, ↓gfv, ↓zchk, lput, ldel, lbad, alA, acat, isRf, dom, dS, dJ, isO, aTy, aLen, elAV, elR, Nat.reduceBEq, Nat.reduceAdd, Bool.or, Bool.and, Nat.add_zero, Nat.zero_add]
    try simp only [Nat.reduceLT, Nat.reduceLeDiff, Nat.reduceEqDiff, true_and, and_true, and_self, Nat.zero_le, Nat.le_refl, true_or, or_true, Bool.false_eq_true, not_false_eq_true, Nat.reduceAdd, Nat.lt_add_one, Nat.zero_lt_one, nI_add, pk_mul, ixL, vpL, ne_eq, reduceIte, wI_sN, wL_sM, sN_same, sN_K, sN_2, sM_1, sM_same, sM_K, sM_s, uI_at, uN_at, enc_at, uI_enc, uI_uI, upM_s, upM_n]
    refine V_run hB (rt := some .int) (nL := 3) (mc := 1) rfl rfl rfl (ops := [(14, .iconst 0, 1, (0, 0, 0, 0, 0, 0), nI 0), (15, .ireturn, 1, (0, 0, 0, 0, 0, 0), 0)]) (by decide +kernel) ?_
    dsimp only [↓wpb, ↓wp1, ↓vI, ↓vL, ↓vD, ↓ldI, ↓ldL, ↓ldD, ↓ldR, ↓k1, ↓k2, ↓kI, ↓kL, ↓kD, ↓kII, ↓kLL, ↓kDD, ↓kR, ↓kIR, ↓kLR, ↓kIIR, ↓kLIR, ↓kDIR, ↓kRIR, ↓kNN, ↓kE, ↓br, ↓bn, ↓rtI, ↓gfv, ↓zchk, lput, ldel, lbad, alA, acat, isRf, dom, dS, dJ, isO, aTy, aLen, elAV, elR, Nat.reduceBEq, Nat.reduceAdd, Bool.or, Bool.and, Nat.add_zero, Nat.zero_add]
    try simp only [Nat.reduceLT, Nat.reduceLeDiff, Nat.reduceEqDiff, true_and, and_true, and_self, Nat.zero_le, Nat.le_refl, true_or, or_true, Bool.false_eq_true, not_false_eq_true, Nat.reduceAdd, Nat.lt_add_one, Nat.zero_lt_one, nI_add, pk_mul, ixL, vpL, ne_eq, reduceIte, wI_sN, wL_sM, sN_same, sN_K, sN_2, sM_1, sM_same, sM_K, sM_s, uI_at, uN_at, enc_at, uI_enc, uI_uI, upM_s, upM_n]
    exact Lw_ok h1 h2 hz
  · intro E t1 hq
    obtain ⟨e, h1, h2⟩ := hq
    by_cases hz : r.1 = 0
    · rw [if_pos hz] at e; cases e
    rw [if_neg hz] at e
    cases e
    have hk : r.1 = 1 := by omega
    · refine ⟨by rw [hk]; decide +kernel, 11, by rw [hk]; decide +kernel, fun q => ?_⟩
      show V x t1 1 11 _ _
      refine V_run hB (rt := some .int) (nL := 3) (mc := 1) rfl rfl rfl (ops := [(11, .astore_n 2, 1, (2, 0, 0, 0, 0, 0), 0), (12, .iconst 1, 1, (0, 0, 0, 0, 0, 0), nI 1), (13, .ireturn, 1, (0, 0, 0, 0, 0, 0), 0)]) (by decide +kernel) ?_
      dsimp only [↓wpb, ↓wp1, ↓vI, ↓vL, ↓vD, ↓ldI, ↓ldL, ↓ldD, ↓ldR, ↓k1, ↓k2, ↓kI, ↓kL, ↓kD, ↓kII, ↓kLL, ↓kDD, ↓kR, ↓kIR, ↓kLR, ↓kIIR, ↓kLIR, ↓kDIR, ↓kRIR, ↓kNN, ↓kE, ↓br, ↓bn, ↓rtI, ↓gfv, ↓zchk, lput, ldel, lbad, alA, acat, isRf, dom, dS, dJ, isO, aTy, aLen, elAV, elR, Nat.reduceBEq, Nat.reduceAdd, Bool.or, Bool.and, Nat.add_zero, Nat.zero_add]
      try simp only [Nat.reduceLT, Nat.reduceLeDiff, Nat.reduceEqDiff, true_and, and_true, and_self, Nat.zero_le, Nat.le_refl, true_or, or_true, Bool.false_eq_true, not_false_eq_true, Nat.reduceAdd, Nat.lt_add_one, Nat.zero_lt_one, nI_add, pk_mul, ixL, vpL, ne_eq, reduceIte, wI_sN, wL_sM, sN_same, sN_K, sN_2, sM_1, sM_same, sM_K, sM_s, uI_at, uN_at, enc_at, uI_enc, uI_uI, upM_s, upM_n]
      exact Lw_no h1 h2 hz hk
theorem w_lotAt (hc : CtxE l G) (hN : NcF G) (p0 : Int32) (hs : Sat l G iX10_lotAt [moM, aI p0] τ (XOp [IOE] τ r)) (hr : r.1 ≤ 1) : SatH l G iL_lotAt hL_lotAt [moM, aI p0, ouM] τ (LwP τ r) := by
  refine SatH_of hc.1.1 hc.1.2 (by decide +kernel) (Nat.le_of_ble_eq_true rfl) (fun x hB hT => ?_)
  refine V_run hB (rt := some .int) (nL := 4) (mc := 1) rfl rfl rfl (ops := [(0, .aload_n 2, 1, (2, 0, 0, 0, 0, 0), 0), (1, .iconst 0, 1, (0, 0, 0, 0, 0, 0), nI 0), (2, .aload_n 0, 1, (0, 0, 0, 0, 0, 0), 0), (3, .iload_n 1, 1, (1, 0, 0, 0, 0, 0), 0)]) (by decide +kernel) ?_
  dsimp only [↓wpb, ↓wp1, ↓vI, ↓vL, ↓vD, ↓ldI, ↓ldL, ↓ldD, ↓ldR, ↓k1, ↓k2, ↓kI, ↓kL, ↓kD, ↓kII, ↓kLL, ↓kDD, ↓kR, ↓kIR, ↓kLR, ↓kIIR, ↓kLIR, ↓kDIR, ↓kRIR, ↓kNN, ↓kE, ↓br, ↓bn, ↓rtI, ↓gfv, ↓zchk, lput, ldel, lbad, alA, acat, isRf, dom, dS, dJ, isO, aTy, aLen, elAV, elR, Nat.reduceBEq, Nat.reduceAdd, Bool.or, Bool.and, Nat.add_zero, Nat.zero_add]
  try simp only [Nat.reduceLT, Nat.reduceLeDiff, Nat.reduceEqDiff, true_and, and_true, and_self, Nat.zero_le, Nat.le_refl, true_or, or_true, Bool.false_eq_true, not_false_eq_true, Nat.reduceAdd, Nat.lt_add_one, Nat.zero_lt_one, nI_add, pk_mul, ixL, vpL, ne_eq, reduceIte, wI_sN, wL_sM, sN_same, sN_K, sN_2, sM_1, sM_same, sM_K, sM_s, uI_at, uN_at, enc_at, uI_enc, uI_uI, upM_s, upM_n]
  refine V_callVH hB hT hkL_lotAt hN hs rfl (by decide +kernel) cvL_92 (dom1 rfl) npX10_lotAt ⟨by decide, by decide⟩ (Nat.le_of_ble_eq_true rfl) (by decide) ?_ ?_
  · intro v t1 hq
    obtain ⟨e, h1, h2⟩ := hq
    by_cases hz : r.1 = 0
    rotate_left
    · rw [if_neg hz] at e; cases e
    rw [if_pos hz] at e
    cases e
    show V x t1 1 7 _ [aI (nI r.2.1), aI (nI 0), ouM]
    refine V_run hB (rt := some .int) (nL := 4) (mc := 1) rfl rfl rfl (ops := [(7, .i2l, 1, (0, 0, 0, 0, 0, 0), 0), (8, .lastore, 1, (0, 0, 0, 0, 0, 0), 0), (9, .goto 6, 3, (15, 0, 0, 0, 0, 0), 0)]) (by decide +kernel) ?_
    dsimp only [↓wpb, ↓wp1, ↓vI, ↓vL, ↓vD, ↓ldI, ↓ldL, ↓ldD, ↓ldR, ↓k1, ↓k2, ↓kI, ↓kL, ↓kD, ↓kII, ↓kLL, ↓kDD, ↓kR, ↓kIR, ↓kLR, ↓kIIR, ↓kLIR, ↓kDIR, ↓kRIR, ↓kNN, ↓kE, ↓br, ↓bn, ↓rtI, ↓gfv, ↓zchk, lput, ldel, lbad, alA, acat, isRf, dom, dS, dJ, isO, aTy, aLen, elAV, elR, Nat.reduceBEq, Nat.reduceAdd, Bool.or, Bool.and, Nat.add_zero, Nat.zero_add]
    try simp only [Nat.reduceLT, Nat.reduceLeDiff, Nat.reduceEqDiff, true_and, and_true, and_self, Nat.zero_le, Nat.le_refl, true_or, or_true, Bool.false_eq_true, not_false_eq_true, Nat.reduceAdd, Nat.lt_add_one, Nat.zero_lt_one, nI_add, pk_mul, ixL, vpL, ne_eq, reduceIte, wI_sN, wL_sM, sN_same, sN_K, sN_2, sM_1, sM_same, sM_K, sM_s, uI_at, uN_at, enc_at, uI_enc, uI_uI, upM_s, upM_n]
    refine V_run hB (rt := some .int) (nL := 4) (mc := 1) rfl rfl rfl (ops := [(15, .iconst 0, 1, (0, 0, 0, 0, 0, 0), nI 0), (16, .ireturn, 1, (0, 0, 0, 0, 0, 0), 0)]) (by decide +kernel) ?_
    dsimp only [↓wpb, ↓wp1, ↓vI, ↓vL, ↓vD, ↓ldI, ↓ldL, ↓ldD, ↓ldR, ↓k1, ↓k2, ↓kI, ↓kL, ↓kD, ↓kII, ↓kLL, ↓kDD, ↓kR, ↓kIR, ↓kLR, ↓kIIR, ↓kLIR, ↓kDIR, ↓kRIR, ↓kNN, ↓kE, ↓br, ↓bn, ↓rtI, ↓gfv, ↓zchk, lput, ldel, lbad, alA, acat, isRf, dom, dS, dJ, isO, aTy, aLen, elAV, elR, Nat.reduceBEq, Nat.reduceAdd, Bool.or, Bool.and, Nat.add_zero, Nat.zero_add]
    try simp only [Nat.reduceLT, Nat.reduceLeDiff, Nat.reduceEqDiff, true_and, and_true, and_self, Nat.zero_le, Nat.le_refl, true_or, or_true, Bool.false_eq_true, not_false_eq_true, Nat.reduceAdd, Nat.lt_add_one, Nat.zero_lt_one, nI_add, pk_mul, ixL, vpL, ne_eq, reduceIte, wI_sN, wL_sM, sN_same, sN_K, sN_2, sM_1, sM_same, sM_K, sM_s, uI_at, uN_at, enc_at, uI_enc, uI_uI, upM_s, upM_n]
    exact Lw_ok h1 h2 hz
  · intro E t1 hq
    obtain ⟨e, h1, h2⟩ := hq
    by_cases hz : r.1 = 0
    · rw [if_pos hz] at e; cases e
    rw [if_neg hz] at e
    cases e
    have hk : r.1 = 1 := by omega
    · refine ⟨by rw [hk]; decide +kernel, 12, by rw [hk]; decide +kernel, fun q => ?_⟩
      show V x t1 1 12 _ _
      refine V_run hB (rt := some .int) (nL := 4) (mc := 1) rfl rfl rfl (ops := [(12, .astore_n 3, 1, (3, 0, 0, 0, 0, 0), 0), (13, .iconst 1, 1, (0, 0, 0, 0, 0, 0), nI 1), (14, .ireturn, 1, (0, 0, 0, 0, 0, 0), 0)]) (by decide +kernel) ?_
      dsimp only [↓wpb, ↓wp1, ↓vI, ↓vL, ↓vD, ↓ldI, ↓ldL, ↓ldD, ↓ldR, ↓k1, ↓k2, ↓kI, ↓kL, ↓kD, ↓kII, ↓kLL, ↓kDD, ↓kR, ↓kIR, ↓kLR, ↓kIIR, ↓kLIR, ↓kDIR, ↓kRIR, ↓kNN, ↓kE, ↓br, ↓bn, ↓rtI, ↓gfv, ↓zchk, lput, ldel, lbad, alA, acat, isRf, dom, dS, dJ, isO, aTy, aLen, elAV, elR, Nat.reduceBEq, Nat.reduceAdd, Bool.or, Bool.and, Nat.add_zero, Nat.zero_add]
      try simp only [Nat.reduceLT, Nat.reduceLeDiff, Nat.reduceEqDiff, true_and, and_true, and_self, Nat.zero_le, Nat.le_refl, true_or, or_true, Bool.false_eq_true, not_false_eq_true, Nat.reduceAdd, Nat.lt_add_one, Nat.zero_lt_one, nI_add, pk_mul, ixL, vpL, ne_eq, reduceIte, wI_sN, wL_sM, sN_same, sN_K, sN_2, sM_1, sM_same, sM_K, sM_s, uI_at, uN_at, enc_at, uI_enc, uI_uI, upM_s, upM_n]
      exact Lw_no h1 h2 hz hk
theorem w_bidOf (hc : CtxE l G) (hN : NcF G) (p0 : Int32) (p1 : Int32) (hs : Sat l G iX10_bidOf [moM, aI p0, aI p1] τ (XOp [NSE, IAE] τ r)) (hr : r.1 ≤ 2) : SatH l G iL_bidOf hL_bidOf [moM, aI p0, aI p1, ouM] τ (LwP τ r) := by
  refine SatH_of hc.1.1 hc.1.2 (by decide +kernel) (Nat.le_of_ble_eq_true rfl) (fun x hB hT => ?_)
  refine V_run hB (rt := some .int) (nL := 5) (mc := 2) rfl rfl rfl (ops := [(0, .aload_n 3, 1, (3, 0, 0, 0, 0, 0), 0), (1, .iconst 0, 1, (0, 0, 0, 0, 0, 0), nI 0), (2, .aload_n 0, 1, (0, 0, 0, 0, 0, 0), 0), (3, .iload_n 1, 1, (1, 0, 0, 0, 0, 0), 0), (4, .iload_n 2, 1, (2, 0, 0, 0, 0, 0), 0)]) (by decide +kernel) ?_
  dsimp only [↓wpb, ↓wp1, ↓vI, ↓vL, ↓vD, ↓ldI, ↓ldL, ↓ldD, ↓ldR, ↓k1, ↓k2, ↓kI, ↓kL, ↓kD, ↓kII, ↓kLL, ↓kDD, ↓kR, ↓kIR, ↓kLR, ↓kIIR, ↓kLIR, ↓kDIR, ↓kRIR, ↓kNN, ↓kE, ↓br, ↓bn, ↓rtI, ↓gfv, ↓zchk, lput, ldel, lbad, alA, acat, isRf, dom, dS, dJ, isO, aTy, aLen, elAV, elR, Nat.reduceBEq, Nat.reduceAdd, Bool.or, Bool.and, Nat.add_zero, Nat.zero_add]
  try simp only [Nat.reduceLT, Nat.reduceLeDiff, Nat.reduceEqDiff, true_and, and_true, and_self, Nat.zero_le, Nat.le_refl, true_or, or_true, Bool.false_eq_true, not_false_eq_true, Nat.reduceAdd, Nat.lt_add_one, Nat.zero_lt_one, nI_add, pk_mul, ixL, vpL, ne_eq, reduceIte, wI_sN, wL_sM, sN_same, sN_K, sN_2, sM_1, sM_same, sM_K, sM_s, uI_at, uN_at, enc_at, uI_enc, uI_uI, upM_s, upM_n]
  refine V_callVH hB hT hkL_bidOf hN hs rfl (by decide +kernel) cvL_95 (dom1 rfl) npX10_bidOf ⟨by decide, by decide⟩ (Nat.le_of_ble_eq_true rfl) (by decide) ?_ ?_
  · intro v t1 hq
    obtain ⟨e, h1, h2⟩ := hq
    by_cases hz : r.1 = 0
    rotate_left
    · rw [if_neg hz] at e; cases e
    rw [if_pos hz] at e
    cases e
    show V x t1 2 8 _ [aI (nI r.2.1), aI (nI 0), ouM]
    refine V_run hB (rt := some .int) (nL := 5) (mc := 2) rfl rfl rfl (ops := [(8, .i2l, 1, (0, 0, 0, 0, 0, 0), 0), (9, .lastore, 1, (0, 0, 0, 0, 0, 0), 0), (10, .goto 11, 3, (21, 0, 0, 0, 0, 0), 0)]) (by decide +kernel) ?_
    dsimp only [↓wpb, ↓wp1, ↓vI, ↓vL, ↓vD, ↓ldI, ↓ldL, ↓ldD, ↓ldR, ↓k1, ↓k2, ↓kI, ↓kL, ↓kD, ↓kII, ↓kLL, ↓kDD, ↓kR, ↓kIR, ↓kLR, ↓kIIR, ↓kLIR, ↓kDIR, ↓kRIR, ↓kNN, ↓kE, ↓br, ↓bn, ↓rtI, ↓gfv, ↓zchk, lput, ldel, lbad, alA, acat, isRf, dom, dS, dJ, isO, aTy, aLen, elAV, elR, Nat.reduceBEq, Nat.reduceAdd, Bool.or, Bool.and, Nat.add_zero, Nat.zero_add]
    try simp only [Nat.reduceLT, Nat.reduceLeDiff, Nat.reduceEqDiff, true_and, and_true, and_self, Nat.zero_le, Nat.le_refl, true_or, or_true, Bool.false_eq_true, not_false_eq_true, Nat.reduceAdd, Nat.lt_add_one, Nat.zero_lt_one, nI_add, pk_mul, ixL, vpL, ne_eq, reduceIte, wI_sN, wL_sM, sN_same, sN_K, sN_2, sM_1, sM_same, sM_K, sM_s, uI_at, uN_at, enc_at, uI_enc, uI_uI, upM_s, upM_n]
    refine V_run hB (rt := some .int) (nL := 5) (mc := 2) rfl rfl rfl (ops := [(21, .iconst 0, 1, (0, 0, 0, 0, 0, 0), nI 0), (22, .ireturn, 1, (0, 0, 0, 0, 0, 0), 0)]) (by decide +kernel) ?_
    dsimp only [↓wpb, ↓wp1, ↓vI, ↓vL, ↓vD, ↓ldI, ↓ldL, ↓ldD, ↓ldR, ↓k1, ↓k2, ↓kI, ↓kL, ↓kD, ↓kII, ↓kLL, ↓kDD, ↓kR, ↓kIR, ↓kLR, ↓kIIR, ↓kLIR, ↓kDIR, ↓kRIR, ↓kNN, ↓kE, ↓br, ↓bn, ↓rtI, ↓gfv, ↓zchk, lput, ldel, lbad, alA, acat, isRf, dom, dS, dJ, isO, aTy, aLen, elAV, elR, Nat.reduceBEq, Nat.reduceAdd, Bool.or, Bool.and, Nat.add_zero, Nat.zero_add]
    try simp only [Nat.reduceLT, Nat.reduceLeDiff, Nat.reduceEqDiff, true_and, and_true, and_self, Nat.zero_le, Nat.le_refl, true_or, or_true, Bool.false_eq_true, not_false_eq_true, Nat.reduceAdd, Nat.lt_add_one, Nat.zero_lt_one, nI_add, pk_mul, ixL, vpL, ne_eq, reduceIte, wI_sN, wL_sM, sN_same, sN_K, sN_2, sM_1, sM_same, sM_K, sM_s, uI_at, uN_at, enc_at, uI_enc, uI_uI, upM_s, upM_n]
    exact Lw_ok h1 h2 hz
  · intro E t1 hq
    obtain ⟨e, h1, h2⟩ := hq
    by_cases hz : r.1 = 0
    · rw [if_pos hz] at e; cases e
    rw [if_neg hz] at e
    cases e
    rcases (by omega : r.1 = 1 ∨ r.1 = 2) with hk | hk
    · refine ⟨by rw [hk]; decide +kernel, 13, by rw [hk]; decide +kernel, fun q => ?_⟩
      show V x t1 2 13 _ _
      refine V_run hB (rt := some .int) (nL := 5) (mc := 2) rfl rfl rfl (ops := [(13, .astore 4, 2, (4, 0, 0, 0, 0, 0), 0), (15, .iconst 1, 1, (0, 0, 0, 0, 0, 0), nI 1), (16, .ireturn, 1, (0, 0, 0, 0, 0, 0), 0)]) (by decide +kernel) ?_
      dsimp only [↓wpb, ↓wp1, ↓vI, ↓vL, ↓vD, ↓ldI, ↓ldL, ↓ldD, ↓ldR, ↓k1, ↓k2, ↓kI, ↓kL, ↓kD, ↓kII, ↓kLL, ↓kDD, ↓kR, ↓kIR, ↓kLR, ↓kIIR, ↓kLIR, ↓kDIR, ↓kRIR, ↓kNN, ↓kE, ↓br, ↓bn, ↓rtI, ↓gfv, ↓zchk, lput, ldel, lbad, alA, acat, isRf, dom, dS, dJ, isO, aTy, aLen, elAV, elR, Nat.reduceBEq, Nat.reduceAdd, Bool.or, Bool.and, Nat.add_zero, Nat.zero_add]
      try simp only [Nat.reduceLT, Nat.reduceLeDiff, Nat.reduceEqDiff, true_and, and_true, and_self, Nat.zero_le, Nat.le_refl, true_or, or_true, Bool.false_eq_true, not_false_eq_true, Nat.reduceAdd, Nat.lt_add_one, Nat.zero_lt_one, nI_add, pk_mul, ixL, vpL, ne_eq, reduceIte, wI_sN, wL_sM, sN_same, sN_K, sN_2, sM_1, sM_same, sM_K, sM_s, uI_at, uN_at, enc_at, uI_enc, uI_uI, upM_s, upM_n]
      exact Lw_no h1 h2 hz hk
    · refine ⟨by rw [hk]; decide +kernel, 17, by rw [hk]; decide +kernel, fun q => ?_⟩
      show V x t1 2 17 _ _
      refine V_run hB (rt := some .int) (nL := 5) (mc := 2) rfl rfl rfl (ops := [(17, .astore 4, 2, (4, 0, 0, 0, 0, 0), 0), (19, .iconst 2, 1, (0, 0, 0, 0, 0, 0), nI 2), (20, .ireturn, 1, (0, 0, 0, 0, 0, 0), 0)]) (by decide +kernel) ?_
      dsimp only [↓wpb, ↓wp1, ↓vI, ↓vL, ↓vD, ↓ldI, ↓ldL, ↓ldD, ↓ldR, ↓k1, ↓k2, ↓kI, ↓kL, ↓kD, ↓kII, ↓kLL, ↓kDD, ↓kR, ↓kIR, ↓kLR, ↓kIIR, ↓kLIR, ↓kDIR, ↓kRIR, ↓kNN, ↓kE, ↓br, ↓bn, ↓rtI, ↓gfv, ↓zchk, lput, ldel, lbad, alA, acat, isRf, dom, dS, dJ, isO, aTy, aLen, elAV, elR, Nat.reduceBEq, Nat.reduceAdd, Bool.or, Bool.and, Nat.add_zero, Nat.zero_add]
      try simp only [Nat.reduceLT, Nat.reduceLeDiff, Nat.reduceEqDiff, true_and, and_true, and_self, Nat.zero_le, Nat.le_refl, true_or, or_true, Bool.false_eq_true, not_false_eq_true, Nat.reduceAdd, Nat.lt_add_one, Nat.zero_lt_one, nI_add, pk_mul, ixL, vpL, ne_eq, reduceIte, wI_sN, wL_sM, sN_same, sN_K, sN_2, sM_1, sM_same, sM_K, sM_s, uI_at, uN_at, enc_at, uI_enc, uI_uI, upM_s, upM_n]
      exact Lw_no h1 h2 hz hk
theorem w_buyerOf (hc : CtxE l G) (hN : NcF G) (p0 : Int32) (hs : Sat l G iX10_buyerOf [moM, aI p0] τ (XOp [NSE] τ r)) (hr : r.1 ≤ 1) : SatH l G iL_buyerOf hL_buyerOf [moM, aI p0, ouM] τ (LwP τ r) := by
  refine SatH_of hc.1.1 hc.1.2 (by decide +kernel) (Nat.le_of_ble_eq_true rfl) (fun x hB hT => ?_)
  refine V_run hB (rt := some .int) (nL := 4) (mc := 2) rfl rfl rfl (ops := [(0, .aload_n 2, 1, (2, 0, 0, 0, 0, 0), 0), (1, .iconst 0, 1, (0, 0, 0, 0, 0, 0), nI 0), (2, .aload_n 0, 1, (0, 0, 0, 0, 0, 0), 0), (3, .iload_n 1, 1, (1, 0, 0, 0, 0, 0), 0)]) (by decide +kernel) ?_
  dsimp only [↓wpb, ↓wp1, ↓vI, ↓vL, ↓vD, ↓ldI, ↓ldL, ↓ldD, ↓ldR, ↓k1, ↓k2, ↓kI, ↓kL, ↓kD, ↓kII, ↓kLL, ↓kDD, ↓kR, ↓kIR, ↓kLR, ↓kIIR, ↓kLIR, ↓kDIR, ↓kRIR, ↓kNN, ↓kE, ↓br, ↓bn, ↓rtI, ↓gfv, ↓zchk, lput, ldel, lbad, alA, acat, isRf, dom, dS, dJ, isO, aTy, aLen, elAV, elR, Nat.reduceBEq, Nat.reduceAdd, Bool.or, Bool.and, Nat.add_zero, Nat.zero_add]
  try simp only [Nat.reduceLT, Nat.reduceLeDiff, Nat.reduceEqDiff, true_and, and_true, and_self, Nat.zero_le, Nat.le_refl, true_or, or_true, Bool.false_eq_true, not_false_eq_true, Nat.reduceAdd, Nat.lt_add_one, Nat.zero_lt_one, nI_add, pk_mul, ixL, vpL, ne_eq, reduceIte, wI_sN, wL_sM, sN_same, sN_K, sN_2, sM_1, sM_same, sM_K, sM_s, uI_at, uN_at, enc_at, uI_enc, uI_uI, upM_s, upM_n]
  refine V_callVH hB hT hkL_buyerOf hN hs rfl (by decide +kernel) cvL_98 (dom1 rfl) npX10_buyerOf ⟨by decide, by decide⟩ (Nat.le_of_ble_eq_true rfl) (by decide) ?_ ?_
  · intro v t1 hq
    obtain ⟨e, h1, h2⟩ := hq
    by_cases hz : r.1 = 0
    rotate_left
    · rw [if_neg hz] at e; cases e
    rw [if_pos hz] at e
    cases e
    show V x t1 2 7 _ [aI (nI r.2.1), aI (nI 0), ouM]
    refine V_run hB (rt := some .int) (nL := 4) (mc := 2) rfl rfl rfl (ops := [(7, .i2l, 1, (0, 0, 0, 0, 0, 0), 0), (8, .lastore, 1, (0, 0, 0, 0, 0, 0), 0), (9, .goto 6, 3, (15, 0, 0, 0, 0, 0), 0)]) (by decide +kernel) ?_
    dsimp only [↓wpb, ↓wp1, ↓vI, ↓vL, ↓vD, ↓ldI, ↓ldL, ↓ldD, ↓ldR, ↓k1, ↓k2, ↓kI, ↓kL, ↓kD, ↓kII, ↓kLL, ↓kDD, ↓kR, ↓kIR, ↓kLR, ↓kIIR, ↓kLIR, ↓kDIR, ↓kRIR, ↓kNN, ↓kE, ↓br, ↓bn, ↓rtI, ↓gfv, ↓zchk, lput, ldel, lbad, alA, acat, isRf, dom, dS, dJ, isO, aTy, aLen, elAV, elR, Nat.reduceBEq, Nat.reduceAdd, Bool.or, Bool.and, Nat.add_zero, Nat.zero_add]
    try simp only [Nat.reduceLT, Nat.reduceLeDiff, Nat.reduceEqDiff, true_and, and_true, and_self, Nat.zero_le, Nat.le_refl, true_or, or_true, Bool.false_eq_true, not_false_eq_true, Nat.reduceAdd, Nat.lt_add_one, Nat.zero_lt_one, nI_add, pk_mul, ixL, vpL, ne_eq, reduceIte, wI_sN, wL_sM, sN_same, sN_K, sN_2, sM_1, sM_same, sM_K, sM_s, uI_at, uN_at, enc_at, uI_enc, uI_uI, upM_s, upM_n]
    refine V_run hB (rt := some .int) (nL := 4) (mc := 2) rfl rfl rfl (ops := [(15, .iconst 0, 1, (0, 0, 0, 0, 0, 0), nI 0), (16, .ireturn, 1, (0, 0, 0, 0, 0, 0), 0)]) (by decide +kernel) ?_
    dsimp only [↓wpb, ↓wp1, ↓vI, ↓vL, ↓vD, ↓ldI, ↓ldL, ↓ldD, ↓ldR, ↓k1, ↓k2, ↓kI, ↓kL, ↓kD, ↓kII, ↓kLL, ↓kDD, ↓kR, ↓kIR, ↓kLR, ↓kIIR, ↓kLIR, ↓kDIR, ↓kRIR, ↓kNN, ↓kE, ↓br, ↓bn, ↓rtI, ↓gfv, ↓zchk, lput, ldel, lbad, alA, acat, isRf, dom, dS, dJ, isO, aTy, aLen, elAV, elR, Nat.reduceBEq, Nat.reduceAdd, Bool.or, Bool.and, Nat.add_zero, Nat.zero_add]
    try simp only [Nat.reduceLT, Nat.reduceLeDiff, Nat.reduceEqDiff, true_and, and_true, and_self, Nat.zero_le, Nat.le_refl, true_or, or_true, Bool.false_eq_true, not_false_eq_true, Nat.reduceAdd, Nat.lt_add_one, Nat.zero_lt_one, nI_add, pk_mul, ixL, vpL, ne_eq, reduceIte, wI_sN, wL_sM, sN_same, sN_K, sN_2, sM_1, sM_same, sM_K, sM_s, uI_at, uN_at, enc_at, uI_enc, uI_uI, upM_s, upM_n]
    exact Lw_ok h1 h2 hz
  · intro E t1 hq
    obtain ⟨e, h1, h2⟩ := hq
    by_cases hz : r.1 = 0
    · rw [if_pos hz] at e; cases e
    rw [if_neg hz] at e
    cases e
    have hk : r.1 = 1 := by omega
    · refine ⟨by rw [hk]; decide +kernel, 12, by rw [hk]; decide +kernel, fun q => ?_⟩
      show V x t1 2 12 _ _
      refine V_run hB (rt := some .int) (nL := 4) (mc := 2) rfl rfl rfl (ops := [(12, .astore_n 3, 1, (3, 0, 0, 0, 0, 0), 0), (13, .iconst 1, 1, (0, 0, 0, 0, 0, 0), nI 1), (14, .ireturn, 1, (0, 0, 0, 0, 0, 0), 0)]) (by decide +kernel) ?_
      dsimp only [↓wpb, ↓wp1, ↓vI, ↓vL, ↓vD, ↓ldI, ↓ldL, ↓ldD, ↓ldR, ↓k1, ↓k2, ↓kI, ↓kL, ↓kD, ↓kII, ↓kLL, ↓kDD, ↓kR, ↓kIR, ↓kLR, ↓kIIR, ↓kLIR, ↓kDIR, ↓kRIR, ↓kNN, ↓kE, ↓br, ↓bn, ↓rtI, ↓gfv, ↓zchk, lput, ldel, lbad, alA, acat, isRf, dom, dS, dJ, isO, aTy, aLen, elAV, elR, Nat.reduceBEq, Nat.reduceAdd, Bool.or, Bool.and, Nat.add_zero, Nat.zero_add]
      try simp only [Nat.reduceLT, Nat.reduceLeDiff, Nat.reduceEqDiff, true_and, and_true, and_self, Nat.zero_le, Nat.le_refl, true_or, or_true, Bool.false_eq_true, not_false_eq_true, Nat.reduceAdd, Nat.lt_add_one, Nat.zero_lt_one, nI_add, pk_mul, ixL, vpL, ne_eq, reduceIte, wI_sN, wL_sM, sN_same, sN_K, sN_2, sM_1, sM_same, sM_K, sM_s, uI_at, uN_at, enc_at, uI_enc, uI_uI, upM_s, upM_n]
      exact Lw_no h1 h2 hz hk
theorem w_priceOf (hc : CtxE l G) (hN : NcF G) (p0 : Int32) (hs : Sat l G iX10_priceOf [moM, aI p0] τ (XOp [NSE] τ r)) (hr : r.1 ≤ 1) : SatH l G iL_priceOf hL_priceOf [moM, aI p0, ouM] τ (LwP τ r) := by
  refine SatH_of hc.1.1 hc.1.2 (by decide +kernel) (Nat.le_of_ble_eq_true rfl) (fun x hB hT => ?_)
  refine V_run hB (rt := some .int) (nL := 4) (mc := 2) rfl rfl rfl (ops := [(0, .aload_n 2, 1, (2, 0, 0, 0, 0, 0), 0), (1, .iconst 0, 1, (0, 0, 0, 0, 0, 0), nI 0), (2, .aload_n 0, 1, (0, 0, 0, 0, 0, 0), 0), (3, .iload_n 1, 1, (1, 0, 0, 0, 0, 0), 0)]) (by decide +kernel) ?_
  dsimp only [↓wpb, ↓wp1, ↓vI, ↓vL, ↓vD, ↓ldI, ↓ldL, ↓ldD, ↓ldR, ↓k1, ↓k2, ↓kI, ↓kL, ↓kD, ↓kII, ↓kLL, ↓kDD, ↓kR, ↓kIR, ↓kLR, ↓kIIR, ↓kLIR, ↓kDIR, ↓kRIR, ↓kNN, ↓kE, ↓br, ↓bn, ↓rtI, ↓gfv, ↓zchk, lput, ldel, lbad, alA, acat, isRf, dom, dS, dJ, isO, aTy, aLen, elAV, elR, Nat.reduceBEq, Nat.reduceAdd, Bool.or, Bool.and, Nat.add_zero, Nat.zero_add]
  try simp only [Nat.reduceLT, Nat.reduceLeDiff, Nat.reduceEqDiff, true_and, and_true, and_self, Nat.zero_le, Nat.le_refl, true_or, or_true, Bool.false_eq_true, not_false_eq_true, Nat.reduceAdd, Nat.lt_add_one, Nat.zero_lt_one, nI_add, pk_mul, ixL, vpL, ne_eq, reduceIte, wI_sN, wL_sM, sN_same, sN_K, sN_2, sM_1, sM_same, sM_K, sM_s, uI_at, uN_at, enc_at, uI_enc, uI_uI, upM_s, upM_n]
  refine V_callVH hB hT hkL_priceOf hN hs rfl (by decide +kernel) cvL_101 (dom1 rfl) npX10_priceOf ⟨by decide, by decide⟩ (Nat.le_of_ble_eq_true rfl) (by decide) ?_ ?_
  · intro v t1 hq
    obtain ⟨e, h1, h2⟩ := hq
    by_cases hz : r.1 = 0
    rotate_left
    · rw [if_neg hz] at e; cases e
    rw [if_pos hz] at e
    cases e
    show V x t1 2 7 _ [aI (nI r.2.1), aI (nI 0), ouM]
    refine V_run hB (rt := some .int) (nL := 4) (mc := 2) rfl rfl rfl (ops := [(7, .i2l, 1, (0, 0, 0, 0, 0, 0), 0), (8, .lastore, 1, (0, 0, 0, 0, 0, 0), 0), (9, .goto 6, 3, (15, 0, 0, 0, 0, 0), 0)]) (by decide +kernel) ?_
    dsimp only [↓wpb, ↓wp1, ↓vI, ↓vL, ↓vD, ↓ldI, ↓ldL, ↓ldD, ↓ldR, ↓k1, ↓k2, ↓kI, ↓kL, ↓kD, ↓kII, ↓kLL, ↓kDD, ↓kR, ↓kIR, ↓kLR, ↓kIIR, ↓kLIR, ↓kDIR, ↓kRIR, ↓kNN, ↓kE, ↓br, ↓bn, ↓rtI, ↓gfv, ↓zchk, lput, ldel, lbad, alA, acat, isRf, dom, dS, dJ, isO, aTy, aLen, elAV, elR, Nat.reduceBEq, Nat.reduceAdd, Bool.or, Bool.and, Nat.add_zero, Nat.zero_add]
    try simp only [Nat.reduceLT, Nat.reduceLeDiff, Nat.reduceEqDiff, true_and, and_true, and_self, Nat.zero_le, Nat.le_refl, true_or, or_true, Bool.false_eq_true, not_false_eq_true, Nat.reduceAdd, Nat.lt_add_one, Nat.zero_lt_one, nI_add, pk_mul, ixL, vpL, ne_eq, reduceIte, wI_sN, wL_sM, sN_same, sN_K, sN_2, sM_1, sM_same, sM_K, sM_s, uI_at, uN_at, enc_at, uI_enc, uI_uI, upM_s, upM_n]
    refine V_run hB (rt := some .int) (nL := 4) (mc := 2) rfl rfl rfl (ops := [(15, .iconst 0, 1, (0, 0, 0, 0, 0, 0), nI 0), (16, .ireturn, 1, (0, 0, 0, 0, 0, 0), 0)]) (by decide +kernel) ?_
    dsimp only [↓wpb, ↓wp1, ↓vI, ↓vL, ↓vD, ↓ldI, ↓ldL, ↓ldD, ↓ldR, ↓k1, ↓k2, ↓kI, ↓kL, ↓kD, ↓kII, ↓kLL, ↓kDD, ↓kR, ↓kIR, ↓kLR, ↓kIIR, ↓kLIR, ↓kDIR, ↓kRIR, ↓kNN, ↓kE, ↓br, ↓bn, ↓rtI, ↓gfv, ↓zchk, lput, ldel, lbad, alA, acat, isRf, dom, dS, dJ, isO, aTy, aLen, elAV, elR, Nat.reduceBEq, Nat.reduceAdd, Bool.or, Bool.and, Nat.add_zero, Nat.zero_add]
    try simp only [Nat.reduceLT, Nat.reduceLeDiff, Nat.reduceEqDiff, true_and, and_true, and_self, Nat.zero_le, Nat.le_refl, true_or, or_true, Bool.false_eq_true, not_false_eq_true, Nat.reduceAdd, Nat.lt_add_one, Nat.zero_lt_one, nI_add, pk_mul, ixL, vpL, ne_eq, reduceIte, wI_sN, wL_sM, sN_same, sN_K, sN_2, sM_1, sM_same, sM_K, sM_s, uI_at, uN_at, enc_at, uI_enc, uI_uI, upM_s, upM_n]
    exact Lw_ok h1 h2 hz
  · intro E t1 hq
    obtain ⟨e, h1, h2⟩ := hq
    by_cases hz : r.1 = 0
    · rw [if_pos hz] at e; cases e
    rw [if_neg hz] at e
    cases e
    have hk : r.1 = 1 := by omega
    · refine ⟨by rw [hk]; decide +kernel, 12, by rw [hk]; decide +kernel, fun q => ?_⟩
      show V x t1 2 12 _ _
      refine V_run hB (rt := some .int) (nL := 4) (mc := 2) rfl rfl rfl (ops := [(12, .astore_n 3, 1, (3, 0, 0, 0, 0, 0), 0), (13, .iconst 1, 1, (0, 0, 0, 0, 0, 0), nI 1), (14, .ireturn, 1, (0, 0, 0, 0, 0, 0), 0)]) (by decide +kernel) ?_
      dsimp only [↓wpb, ↓wp1, ↓vI, ↓vL, ↓vD, ↓ldI, ↓ldL, ↓ldD, ↓ldR, ↓k1, ↓k2, ↓kI, ↓kL, ↓kD, ↓kII, ↓kLL, ↓kDD, ↓kR, ↓kIR, ↓kLR, ↓kIIR, ↓kLIR, ↓kDIR, ↓kRIR, ↓kNN, ↓kE, ↓br, ↓bn, ↓rtI, ↓gfv, ↓zchk, lput, ldel, lbad, alA, acat, isRf, dom, dS, dJ, isO, aTy, aLen, elAV, elR, Nat.reduceBEq, Nat.reduceAdd, Bool.or, Bool.and, Nat.add_zero, Nat.zero_add]
      try simp only [Nat.reduceLT, Nat.reduceLeDiff, Nat.reduceEqDiff, true_and, and_true, and_self, Nat.zero_le, Nat.le_refl, true_or, or_true, Bool.false_eq_true, not_false_eq_true, Nat.reduceAdd, Nat.lt_add_one, Nat.zero_lt_one, nI_add, pk_mul, ixL, vpL, ne_eq, reduceIte, wI_sN, wL_sM, sN_same, sN_K, sN_2, sM_1, sM_same, sM_K, sM_s, uI_at, uN_at, enc_at, uI_enc, uI_uI, upM_s, upM_n]
      exact Lw_no h1 h2 hz hk
theorem w_eveningBuyerOf (hc : CtxE l G) (hN : NcF G) (p0 : Int32) (hs : Sat l G iX10_eveningBuyerOf [moM, aI p0] τ (XOp [NSE] τ r)) (hr : r.1 ≤ 1) : SatH l G iL_eveningBuyerOf hL_eveningBuyerOf [moM, aI p0, ouM] τ (LwP τ r) := by
  refine SatH_of hc.1.1 hc.1.2 (by decide +kernel) (Nat.le_of_ble_eq_true rfl) (fun x hB hT => ?_)
  refine V_run hB (rt := some .int) (nL := 4) (mc := 2) rfl rfl rfl (ops := [(0, .aload_n 2, 1, (2, 0, 0, 0, 0, 0), 0), (1, .iconst 0, 1, (0, 0, 0, 0, 0, 0), nI 0), (2, .aload_n 0, 1, (0, 0, 0, 0, 0, 0), 0), (3, .iload_n 1, 1, (1, 0, 0, 0, 0, 0), 0)]) (by decide +kernel) ?_
  dsimp only [↓wpb, ↓wp1, ↓vI, ↓vL, ↓vD, ↓ldI, ↓ldL, ↓ldD, ↓ldR, ↓k1, ↓k2, ↓kI, ↓kL, ↓kD, ↓kII, ↓kLL, ↓kDD, ↓kR, ↓kIR, ↓kLR, ↓kIIR, ↓kLIR, ↓kDIR, ↓kRIR, ↓kNN, ↓kE, ↓br, ↓bn, ↓rtI, ↓gfv, ↓zchk, lput, ldel, lbad, alA, acat, isRf, dom, dS, dJ, isO, aTy, aLen, elAV, elR, Nat.reduceBEq, Nat.reduceAdd, Bool.or, Bool.and, Nat.add_zero, Nat.zero_add]
  try simp only [Nat.reduceLT, Nat.reduceLeDiff, Nat.reduceEqDiff, true_and, and_true, and_self, Nat.zero_le, Nat.le_refl, true_or, or_true, Bool.false_eq_true, not_false_eq_true, Nat.reduceAdd, Nat.lt_add_one, Nat.zero_lt_one, nI_add, pk_mul, ixL, vpL, ne_eq, reduceIte, wI_sN, wL_sM, sN_same, sN_K, sN_2, sM_1, sM_same, sM_K, sM_s, uI_at, uN_at, enc_at, uI_enc, uI_uI, upM_s, upM_n]
  refine V_callVH hB hT hkL_eveningBuyerOf hN hs rfl (by decide +kernel) cvL_104 (dom1 rfl) npX10_eveningBuyerOf ⟨by decide, by decide⟩ (Nat.le_of_ble_eq_true rfl) (by decide) ?_ ?_
  · intro v t1 hq
    obtain ⟨e, h1, h2⟩ := hq
    by_cases hz : r.1 = 0
    rotate_left
    · rw [if_neg hz] at e; cases e
    rw [if_pos hz] at e
    cases e
    show V x t1 2 7 _ [aI (nI r.2.1), aI (nI 0), ouM]
    refine V_run hB (rt := some .int) (nL := 4) (mc := 2) rfl rfl rfl (ops := [(7, .i2l, 1, (0, 0, 0, 0, 0, 0), 0), (8, .lastore, 1, (0, 0, 0, 0, 0, 0), 0), (9, .goto 6, 3, (15, 0, 0, 0, 0, 0), 0)]) (by decide +kernel) ?_
    dsimp only [↓wpb, ↓wp1, ↓vI, ↓vL, ↓vD, ↓ldI, ↓ldL, ↓ldD, ↓ldR, ↓k1, ↓k2, ↓kI, ↓kL, ↓kD, ↓kII, ↓kLL, ↓kDD, ↓kR, ↓kIR, ↓kLR, ↓kIIR, ↓kLIR, ↓kDIR, ↓kRIR, ↓kNN, ↓kE, ↓br, ↓bn, ↓rtI, ↓gfv, ↓zchk, lput, ldel, lbad, alA, acat, isRf, dom, dS, dJ, isO, aTy, aLen, elAV, elR, Nat.reduceBEq, Nat.reduceAdd, Bool.or, Bool.and, Nat.add_zero, Nat.zero_add]
    try simp only [Nat.reduceLT, Nat.reduceLeDiff, Nat.reduceEqDiff, true_and, and_true, and_self, Nat.zero_le, Nat.le_refl, true_or, or_true, Bool.false_eq_true, not_false_eq_true, Nat.reduceAdd, Nat.lt_add_one, Nat.zero_lt_one, nI_add, pk_mul, ixL, vpL, ne_eq, reduceIte, wI_sN, wL_sM, sN_same, sN_K, sN_2, sM_1, sM_same, sM_K, sM_s, uI_at, uN_at, enc_at, uI_enc, uI_uI, upM_s, upM_n]
    refine V_run hB (rt := some .int) (nL := 4) (mc := 2) rfl rfl rfl (ops := [(15, .iconst 0, 1, (0, 0, 0, 0, 0, 0), nI 0), (16, .ireturn, 1, (0, 0, 0, 0, 0, 0), 0)]) (by decide +kernel) ?_
    dsimp only [↓wpb, ↓wp1, ↓vI, ↓vL, ↓vD, ↓ldI, ↓ldL, ↓ldD, ↓ldR, ↓k1, ↓k2, ↓kI, ↓kL, ↓kD, ↓kII, ↓kLL, ↓kDD, ↓kR, ↓kIR, ↓kLR, ↓kIIR, ↓kLIR, ↓kDIR, ↓kRIR, ↓kNN, ↓kE, ↓br, ↓bn, ↓rtI, ↓gfv, ↓zchk, lput, ldel, lbad, alA, acat, isRf, dom, dS, dJ, isO, aTy, aLen, elAV, elR, Nat.reduceBEq, Nat.reduceAdd, Bool.or, Bool.and, Nat.add_zero, Nat.zero_add]
    try simp only [Nat.reduceLT, Nat.reduceLeDiff, Nat.reduceEqDiff, true_and, and_true, and_self, Nat.zero_le, Nat.le_refl, true_or, or_true, Bool.false_eq_true, not_false_eq_true, Nat.reduceAdd, Nat.lt_add_one, Nat.zero_lt_one, nI_add, pk_mul, ixL, vpL, ne_eq, reduceIte, wI_sN, wL_sM, sN_same, sN_K, sN_2, sM_1, sM_same, sM_K, sM_s, uI_at, uN_at, enc_at, uI_enc, uI_uI, upM_s, upM_n]
    exact Lw_ok h1 h2 hz
  · intro E t1 hq
    obtain ⟨e, h1, h2⟩ := hq
    by_cases hz : r.1 = 0
    · rw [if_pos hz] at e; cases e
    rw [if_neg hz] at e
    cases e
    have hk : r.1 = 1 := by omega
    · refine ⟨by rw [hk]; decide +kernel, 12, by rw [hk]; decide +kernel, fun q => ?_⟩
      show V x t1 2 12 _ _
      refine V_run hB (rt := some .int) (nL := 4) (mc := 2) rfl rfl rfl (ops := [(12, .astore_n 3, 1, (3, 0, 0, 0, 0, 0), 0), (13, .iconst 1, 1, (0, 0, 0, 0, 0, 0), nI 1), (14, .ireturn, 1, (0, 0, 0, 0, 0, 0), 0)]) (by decide +kernel) ?_
      dsimp only [↓wpb, ↓wp1, ↓vI, ↓vL, ↓vD, ↓ldI, ↓ldL, ↓ldD, ↓ldR, ↓k1, ↓k2, ↓kI, ↓kL, ↓kD, ↓kII, ↓kLL, ↓kDD, ↓kR, ↓kIR, ↓kLR, ↓kIIR, ↓kLIR, ↓kDIR, ↓kRIR, ↓kNN, ↓kE, ↓br, ↓bn, ↓rtI, ↓gfv, ↓zchk, lput, ldel, lbad, alA, acat, isRf, dom, dS, dJ, isO, aTy, aLen, elAV, elR, Nat.reduceBEq, Nat.reduceAdd, Bool.or, Bool.and, Nat.add_zero, Nat.zero_add]
      try simp only [Nat.reduceLT, Nat.reduceLeDiff, Nat.reduceEqDiff, true_and, and_true, and_self, Nat.zero_le, Nat.le_refl, true_or, or_true, Bool.false_eq_true, not_false_eq_true, Nat.reduceAdd, Nat.lt_add_one, Nat.zero_lt_one, nI_add, pk_mul, ixL, vpL, ne_eq, reduceIte, wI_sN, wL_sM, sN_same, sN_K, sN_2, sM_1, sM_same, sM_K, sM_s, uI_at, uN_at, enc_at, uI_enc, uI_uI, upM_s, upM_n]
      exact Lw_no h1 h2 hz hk
theorem w_meanLoan (hc : CtxE l G) (hN : NcF G) {σ : Sg} {d : Nat × UInt64} (hs : Sat l G iX10_meanLoan [moM] τ (fun o τ' => o = (if d.1 = 0 then .inl (some (.inl (.double d.2))) else .inr ARE) ∧ CW τ' σ ∧ OthC τ τ')) (hr : d.1 ≤ 1) : SatH l G iL_meanLoan hL_meanLoan [moM, odM] τ (LdP τ σ d) := by
  refine SatH_of hc.1.1 hc.1.2 (by decide +kernel) (Nat.le_of_ble_eq_true rfl) (fun x hB hT => ?_)
  refine V_run hB (rt := some .int) (nL := 3) (mc := 1) rfl rfl rfl (ops := [(0, .aload_n 1, 1, (1, 0, 0, 0, 0, 0), 0), (1, .iconst 0, 1, (0, 0, 0, 0, 0, 0), nI 0), (2, .aload_n 0, 1, (0, 0, 0, 0, 0, 0), 0)]) (by decide +kernel) ?_
  dsimp only [↓wpb, ↓wp1, ↓vI, ↓vL, ↓vD, ↓ldI, ↓ldL, ↓ldD, ↓ldR, ↓k1, ↓k2, ↓kI, ↓kL, ↓kD, ↓kII, ↓kLL, ↓kDD, ↓kR, ↓kIR, ↓kLR, ↓kIIR, ↓kLIR, ↓kDIR, ↓kRIR, ↓kNN, ↓kE, ↓br, ↓bn, ↓rtI, ↓gfv, ↓zchk, lput, ldel, lbad, alA, acat, isRf, dom, dS, dJ, isO, aTy, aLen, elAV, elR, Nat.reduceBEq, Nat.reduceAdd, Bool.or, Bool.and, Nat.add_zero, Nat.zero_add]
  try simp only [Nat.reduceLT, Nat.reduceLeDiff, Nat.reduceEqDiff, true_and, and_true, and_self, Nat.zero_le, Nat.le_refl, true_or, or_true, Bool.false_eq_true, not_false_eq_true, Nat.reduceAdd, Nat.lt_add_one, Nat.zero_lt_one, nI_add, pk_mul, ixL, vpL, ne_eq, reduceIte, wI_sN, wL_sM, sN_same, sN_K, sN_2, sM_1, sM_same, sM_K, sM_s, uI_at, uN_at, enc_at, uI_enc, uI_uI, upM_s, upM_n]
  refine V_callVH hB hT hkL_meanLoan hN hs rfl (by decide +kernel) cvL_107 (dom1 rfl) npX10_meanLoan ⟨by decide, by decide⟩ (Nat.le_of_ble_eq_true rfl) (by decide) ?_ ?_
  · intro v t1 hq
    obtain ⟨e, h1, h2⟩ := hq
    by_cases hz : d.1 = 0
    rotate_left
    · rw [if_neg hz] at e; cases e
    rw [if_pos hz] at e
    cases e
    show V x t1 1 6 _ [.inl (.double d.2), aI (nI 0), odM]
    refine V_run hB (rt := some .int) (nL := 3) (mc := 1) rfl rfl rfl (ops := [(6, .dastore, 1, (0, 0, 0, 0, 0, 0), 0), (7, .goto 6, 3, (13, 0, 0, 0, 0, 0), 0)]) (by decide +kernel) ?_
    dsimp only [↓wpb, ↓wp1, ↓vI, ↓vL, ↓vD, ↓ldI, ↓ldL, ↓ldD, ↓ldR, ↓k1, ↓k2, ↓kI, ↓kL, ↓kD, ↓kII, ↓kLL, ↓kDD, ↓kR, ↓kIR, ↓kLR, ↓kIIR, ↓kLIR, ↓kDIR, ↓kRIR, ↓kNN, ↓kE, ↓br, ↓bn, ↓rtI, ↓gfv, ↓zchk, lput, ldel, lbad, alA, acat, isRf, dom, dS, dJ, isO, aTy, aLen, elAV, elR, Nat.reduceBEq, Nat.reduceAdd, Bool.or, Bool.and, Nat.add_zero, Nat.zero_add]
    try simp only [Nat.reduceLT, Nat.reduceLeDiff, Nat.reduceEqDiff, true_and, and_true, and_self, Nat.zero_le, Nat.le_refl, true_or, or_true, Bool.false_eq_true, not_false_eq_true, Nat.reduceAdd, Nat.lt_add_one, Nat.zero_lt_one, nI_add, pk_mul, ixL, vpL, ne_eq, reduceIte, wI_sN, wL_sM, sN_same, sN_K, sN_2, sM_1, sM_same, sM_K, sM_s, uI_at, uN_at, enc_at, uI_enc, uI_uI, upM_s, upM_n]
    refine V_run hB (rt := some .int) (nL := 3) (mc := 1) rfl rfl rfl (ops := [(13, .iconst 0, 1, (0, 0, 0, 0, 0, 0), nI 0), (14, .ireturn, 1, (0, 0, 0, 0, 0, 0), 0)]) (by decide +kernel) ?_
    dsimp only [↓wpb, ↓wp1, ↓vI, ↓vL, ↓vD, ↓ldI, ↓ldL, ↓ldD, ↓ldR, ↓k1, ↓k2, ↓kI, ↓kL, ↓kD, ↓kII, ↓kLL, ↓kDD, ↓kR, ↓kIR, ↓kLR, ↓kIIR, ↓kLIR, ↓kDIR, ↓kRIR, ↓kNN, ↓kE, ↓br, ↓bn, ↓rtI, ↓gfv, ↓zchk, lput, ldel, lbad, alA, acat, isRf, dom, dS, dJ, isO, aTy, aLen, elAV, elR, Nat.reduceBEq, Nat.reduceAdd, Bool.or, Bool.and, Nat.add_zero, Nat.zero_add]
    try simp only [Nat.reduceLT, Nat.reduceLeDiff, Nat.reduceEqDiff, true_and, and_true, and_self, Nat.zero_le, Nat.le_refl, true_or, or_true, Bool.false_eq_true, not_false_eq_true, Nat.reduceAdd, Nat.lt_add_one, Nat.zero_lt_one, nI_add, pk_mul, ixL, vpL, ne_eq, reduceIte, wI_sN, wL_sM, sN_same, sN_K, sN_2, sM_1, sM_same, sM_K, sM_s, uI_at, uN_at, enc_at, uI_enc, uI_uI, upM_s, upM_n]
    exact Ld_ok h1 h2 hz
  · intro E t1 hq
    obtain ⟨e, h1, h2⟩ := hq
    by_cases hz : d.1 = 0
    · rw [if_pos hz] at e; cases e
    rw [if_neg hz] at e
    cases e
    have hk : d.1 = 1 := by omega
    · refine ⟨by decide +kernel, 10, by decide +kernel, fun q => ?_⟩
      show V x t1 1 10 _ _
      refine V_run hB (rt := some .int) (nL := 3) (mc := 1) rfl rfl rfl (ops := [(10, .astore_n 2, 1, (2, 0, 0, 0, 0, 0), 0), (11, .iconst 1, 1, (0, 0, 0, 0, 0, 0), nI 1), (12, .ireturn, 1, (0, 0, 0, 0, 0, 0), 0)]) (by decide +kernel) ?_
      dsimp only [↓wpb, ↓wp1, ↓vI, ↓vL, ↓vD, ↓ldI, ↓ldL, ↓ldD, ↓ldR, ↓k1, ↓k2, ↓kI, ↓kL, ↓kD, ↓kII, ↓kLL, ↓kDD, ↓kR, ↓kIR, ↓kLR, ↓kIIR, ↓kLIR, ↓kDIR, ↓kRIR, ↓kNN, ↓kE, ↓br, ↓bn, ↓rtI, ↓gfv, ↓zchk, lput, ldel, lbad, alA, acat, isRf, dom, dS, dJ, isO, aTy, aLen, elAV, elR, Nat.reduceBEq, Nat.reduceAdd, Bool.or, Bool.and, Nat.add_zero, Nat.zero_add]
      try simp only [Nat.reduceLT, Nat.reduceLeDiff, Nat.reduceEqDiff, true_and, and_true, and_self, Nat.zero_le, Nat.le_refl, true_or, or_true, Bool.false_eq_true, not_false_eq_true, Nat.reduceAdd, Nat.lt_add_one, Nat.zero_lt_one, nI_add, pk_mul, ixL, vpL, ne_eq, reduceIte, wI_sN, wL_sM, sN_same, sN_K, sN_2, sM_1, sM_same, sM_K, sM_s, uI_at, uN_at, enc_at, uI_enc, uI_uI, upM_s, upM_n]
      exact Ld_no h1 h2 hz hk
theorem w_writeSlip (hc : CtxE l G) (hN : NcF G) (p0 : Int32) (hs : Sat l G iX10_writeSlip [moM, aI p0] τ (XOp [NSE] τ r)) (hr : r.1 ≤ 1) : SatH l G iL_writeSlip hL_writeSlip [moM, aI p0, ouM] τ (LwP τ r) := by
  refine SatH_of hc.1.1 hc.1.2 (by decide +kernel) (Nat.le_of_ble_eq_true rfl) (fun x hB hT => ?_)
  refine V_run hB (rt := some .int) (nL := 4) (mc := 700) rfl rfl rfl (ops := [(0, .aload_n 2, 1, (2, 0, 0, 0, 0, 0), 0), (1, .iconst 0, 1, (0, 0, 0, 0, 0, 0), nI 0), (2, .aload_n 0, 1, (0, 0, 0, 0, 0, 0), 0), (3, .iload_n 1, 1, (1, 0, 0, 0, 0, 0), 0)]) (by decide +kernel) ?_
  dsimp only [↓wpb, ↓wp1, ↓vI, ↓vL, ↓vD, ↓ldI, ↓ldL, ↓ldD, ↓ldR, ↓k1, ↓k2, ↓kI, ↓kL, ↓kD, ↓kII, ↓kLL, ↓kDD, ↓kR, ↓kIR, ↓kLR, ↓kIIR, ↓kLIR, ↓kDIR, ↓kRIR, ↓kNN, ↓kE, ↓br, ↓bn, ↓rtI, ↓gfv, ↓zchk, lput, ldel, lbad, alA, acat, isRf, dom, dS, dJ, isO, aTy, aLen, elAV, elR, Nat.reduceBEq, Nat.reduceAdd, Bool.or, Bool.and, Nat.add_zero, Nat.zero_add]
  try simp only [Nat.reduceLT, Nat.reduceLeDiff, Nat.reduceEqDiff, true_and, and_true, and_self, Nat.zero_le, Nat.le_refl, true_or, or_true, Bool.false_eq_true, not_false_eq_true, Nat.reduceAdd, Nat.lt_add_one, Nat.zero_lt_one, nI_add, pk_mul, ixL, vpL, ne_eq, reduceIte, wI_sN, wL_sM, sN_same, sN_K, sN_2, sM_1, sM_same, sM_K, sM_s, uI_at, uN_at, enc_at, uI_enc, uI_uI, upM_s, upM_n]
  refine V_callVH hB hT hkL_writeSlip hN hs rfl (by decide +kernel) cvL_113 (dom1 rfl) npX10_writeSlip ⟨by decide, by decide⟩ (Nat.le_of_ble_eq_true rfl) (by decide) ?_ ?_
  · intro v t1 hq
    obtain ⟨e, h1, h2⟩ := hq
    by_cases hz : r.1 = 0
    rotate_left
    · rw [if_neg hz] at e; cases e
    rw [if_pos hz] at e
    cases e
    show V x t1 700 7 _ [aI (nI r.2.1), aI (nI 0), ouM]
    refine V_run hB (rt := some .int) (nL := 4) (mc := 700) rfl rfl rfl (ops := [(7, .i2l, 1, (0, 0, 0, 0, 0, 0), 0), (8, .lastore, 1, (0, 0, 0, 0, 0, 0), 0), (9, .goto 6, 3, (15, 0, 0, 0, 0, 0), 0)]) (by decide +kernel) ?_
    dsimp only [↓wpb, ↓wp1, ↓vI, ↓vL, ↓vD, ↓ldI, ↓ldL, ↓ldD, ↓ldR, ↓k1, ↓k2, ↓kI, ↓kL, ↓kD, ↓kII, ↓kLL, ↓kDD, ↓kR, ↓kIR, ↓kLR, ↓kIIR, ↓kLIR, ↓kDIR, ↓kRIR, ↓kNN, ↓kE, ↓br, ↓bn, ↓rtI, ↓gfv, ↓zchk, lput, ldel, lbad, alA, acat, isRf, dom, dS, dJ, isO, aTy, aLen, elAV, elR, Nat.reduceBEq, Nat.reduceAdd, Bool.or, Bool.and, Nat.add_zero, Nat.zero_add]
    try simp only [Nat.reduceLT, Nat.reduceLeDiff, Nat.reduceEqDiff, true_and, and_true, and_self, Nat.zero_le, Nat.le_refl, true_or, or_true, Bool.false_eq_true, not_false_eq_true, Nat.reduceAdd, Nat.lt_add_one, Nat.zero_lt_one, nI_add, pk_mul, ixL, vpL, ne_eq, reduceIte, wI_sN, wL_sM, sN_same, sN_K, sN_2, sM_1, sM_same, sM_K, sM_s, uI_at, uN_at, enc_at, uI_enc, uI_uI, upM_s, upM_n]
    refine V_run hB (rt := some .int) (nL := 4) (mc := 700) rfl rfl rfl (ops := [(15, .iconst 0, 1, (0, 0, 0, 0, 0, 0), nI 0), (16, .ireturn, 1, (0, 0, 0, 0, 0, 0), 0)]) (by decide +kernel) ?_
    dsimp only [↓wpb, ↓wp1, ↓vI, ↓vL, ↓vD, ↓ldI, ↓ldL, ↓ldD, ↓ldR, ↓k1, ↓k2, ↓kI, ↓kL, ↓kD, ↓kII, ↓kLL, ↓kDD, ↓kR, ↓kIR, ↓kLR, ↓kIIR, ↓kLIR, ↓kDIR, ↓kRIR, ↓kNN, ↓kE, ↓br, ↓bn, ↓rtI, ↓gfv, ↓zchk, lput, ldel, lbad, alA, acat, isRf, dom, dS, dJ, isO, aTy, aLen, elAV, elR, Nat.reduceBEq, Nat.reduceAdd, Bool.or, Bool.and, Nat.add_zero, Nat.zero_add]
    try simp only [Nat.reduceLT, Nat.reduceLeDiff, Nat.reduceEqDiff, true_and, and_true, and_self, Nat.zero_le, Nat.le_refl, true_or, or_true, Bool.false_eq_true, not_false_eq_true, Nat.reduceAdd, Nat.lt_add_one, Nat.zero_lt_one, nI_add, pk_mul, ixL, vpL, ne_eq, reduceIte, wI_sN, wL_sM, sN_same, sN_K, sN_2, sM_1, sM_same, sM_K, sM_s, uI_at, uN_at, enc_at, uI_enc, uI_uI, upM_s, upM_n]
    exact Lw_ok h1 h2 hz
  · intro E t1 hq
    obtain ⟨e, h1, h2⟩ := hq
    by_cases hz : r.1 = 0
    · rw [if_pos hz] at e; cases e
    rw [if_neg hz] at e
    cases e
    have hk : r.1 = 1 := by omega
    · refine ⟨by rw [hk]; decide +kernel, 12, by rw [hk]; decide +kernel, fun q => ?_⟩
      show V x t1 700 12 _ _
      refine V_run hB (rt := some .int) (nL := 4) (mc := 700) rfl rfl rfl (ops := [(12, .astore_n 3, 1, (3, 0, 0, 0, 0, 0), 0), (13, .iconst 1, 1, (0, 0, 0, 0, 0, 0), nI 1), (14, .ireturn, 1, (0, 0, 0, 0, 0, 0), 0)]) (by decide +kernel) ?_
      dsimp only [↓wpb, ↓wp1, ↓vI, ↓vL, ↓vD, ↓ldI, ↓ldL, ↓ldD, ↓ldR, ↓k1, ↓k2, ↓kI, ↓kL, ↓kD, ↓kII, ↓kLL, ↓kDD, ↓kR, ↓kIR, ↓kLR, ↓kIIR, ↓kLIR, ↓kDIR, ↓kRIR, ↓kNN, ↓kE, ↓br, ↓bn, ↓rtI, ↓gfv, ↓zchk, lput, ldel, lbad, alA, acat, isRf, dom, dS, dJ, isO, aTy, aLen, elAV, elR, Nat.reduceBEq, Nat.reduceAdd, Bool.or, Bool.and, Nat.add_zero, Nat.zero_add]
      try simp only [Nat.reduceLT, Nat.reduceLeDiff, Nat.reduceEqDiff, true_and, and_true, and_self, Nat.zero_le, Nat.le_refl, true_or, or_true, Bool.false_eq_true, not_false_eq_true, Nat.reduceAdd, Nat.lt_add_one, Nat.zero_lt_one, nI_add, pk_mul, ixL, vpL, ne_eq, reduceIte, wI_sN, wL_sM, sN_same, sN_K, sN_2, sM_1, sM_same, sM_K, sM_s, uI_at, uN_at, enc_at, uI_enc, uI_uI, upM_s, upM_n]
      exact Lw_no h1 h2 hz hk
theorem w_slipAt (hc : CtxE l G) (hN : NcF G) (p0 : Int32) (hs : Sat l G iX10_slipAt [moM, aI p0] τ (XOp [IOE] τ r)) (hr : r.1 ≤ 1) : SatH l G iL_slipAt hL_slipAt [moM, aI p0, ouM] τ (LwP τ r) := by
  refine SatH_of hc.1.1 hc.1.2 (by decide +kernel) (Nat.le_of_ble_eq_true rfl) (fun x hB hT => ?_)
  refine V_run hB (rt := some .int) (nL := 4) (mc := 1) rfl rfl rfl (ops := [(0, .aload_n 2, 1, (2, 0, 0, 0, 0, 0), 0), (1, .iconst 0, 1, (0, 0, 0, 0, 0, 0), nI 0), (2, .aload_n 0, 1, (0, 0, 0, 0, 0, 0), 0), (3, .iload_n 1, 1, (1, 0, 0, 0, 0, 0), 0)]) (by decide +kernel) ?_
  dsimp only [↓wpb, ↓wp1, ↓vI, ↓vL, ↓vD, ↓ldI, ↓ldL, ↓ldD, ↓ldR, ↓k1, ↓k2, ↓kI, ↓kL, ↓kD, ↓kII, ↓kLL, ↓kDD, ↓kR, ↓kIR, ↓kLR, ↓kIIR, ↓kLIR, ↓kDIR, ↓kRIR, ↓kNN, ↓kE, ↓br, ↓bn, ↓rtI, ↓gfv, ↓zchk, lput, ldel, lbad, alA, acat, isRf, dom, dS, dJ, isO, aTy, aLen, elAV, elR, Nat.reduceBEq, Nat.reduceAdd, Bool.or, Bool.and, Nat.add_zero, Nat.zero_add]
  try simp only [Nat.reduceLT, Nat.reduceLeDiff, Nat.reduceEqDiff, true_and, and_true, and_self, Nat.zero_le, Nat.le_refl, true_or, or_true, Bool.false_eq_true, not_false_eq_true, Nat.reduceAdd, Nat.lt_add_one, Nat.zero_lt_one, nI_add, pk_mul, ixL, vpL, ne_eq, reduceIte, wI_sN, wL_sM, sN_same, sN_K, sN_2, sM_1, sM_same, sM_K, sM_s, uI_at, uN_at, enc_at, uI_enc, uI_uI, upM_s, upM_n]
  refine V_callVH hB hT hkL_slipAt hN hs rfl (by decide +kernel) cvL_116 (dom1 rfl) npX10_slipAt ⟨by decide, by decide⟩ (Nat.le_of_ble_eq_true rfl) (by decide) ?_ ?_
  · intro v t1 hq
    obtain ⟨e, h1, h2⟩ := hq
    by_cases hz : r.1 = 0
    rotate_left
    · rw [if_neg hz] at e; cases e
    rw [if_pos hz] at e
    cases e
    show V x t1 1 7 _ [aI (nI r.2.1), aI (nI 0), ouM]
    refine V_run hB (rt := some .int) (nL := 4) (mc := 1) rfl rfl rfl (ops := [(7, .i2l, 1, (0, 0, 0, 0, 0, 0), 0), (8, .lastore, 1, (0, 0, 0, 0, 0, 0), 0), (9, .goto 6, 3, (15, 0, 0, 0, 0, 0), 0)]) (by decide +kernel) ?_
    dsimp only [↓wpb, ↓wp1, ↓vI, ↓vL, ↓vD, ↓ldI, ↓ldL, ↓ldD, ↓ldR, ↓k1, ↓k2, ↓kI, ↓kL, ↓kD, ↓kII, ↓kLL, ↓kDD, ↓kR, ↓kIR, ↓kLR, ↓kIIR, ↓kLIR, ↓kDIR, ↓kRIR, ↓kNN, ↓kE, ↓br, ↓bn, ↓rtI, ↓gfv, ↓zchk, lput, ldel, lbad, alA, acat, isRf, dom, dS, dJ, isO, aTy, aLen, elAV, elR, Nat.reduceBEq, Nat.reduceAdd, Bool.or, Bool.and, Nat.add_zero, Nat.zero_add]
    try simp only [Nat.reduceLT, Nat.reduceLeDiff, Nat.reduceEqDiff, true_and, and_true, and_self, Nat.zero_le, Nat.le_refl, true_or, or_true, Bool.false_eq_true, not_false_eq_true, Nat.reduceAdd, Nat.lt_add_one, Nat.zero_lt_one, nI_add, pk_mul, ixL, vpL, ne_eq, reduceIte, wI_sN, wL_sM, sN_same, sN_K, sN_2, sM_1, sM_same, sM_K, sM_s, uI_at, uN_at, enc_at, uI_enc, uI_uI, upM_s, upM_n]
    refine V_run hB (rt := some .int) (nL := 4) (mc := 1) rfl rfl rfl (ops := [(15, .iconst 0, 1, (0, 0, 0, 0, 0, 0), nI 0), (16, .ireturn, 1, (0, 0, 0, 0, 0, 0), 0)]) (by decide +kernel) ?_
    dsimp only [↓wpb, ↓wp1, ↓vI, ↓vL, ↓vD, ↓ldI, ↓ldL, ↓ldD, ↓ldR, ↓k1, ↓k2, ↓kI, ↓kL, ↓kD, ↓kII, ↓kLL, ↓kDD, ↓kR, ↓kIR, ↓kLR, ↓kIIR, ↓kLIR, ↓kDIR, ↓kRIR, ↓kNN, ↓kE, ↓br, ↓bn, ↓rtI, ↓gfv, ↓zchk, lput, ldel, lbad, alA, acat, isRf, dom, dS, dJ, isO, aTy, aLen, elAV, elR, Nat.reduceBEq, Nat.reduceAdd, Bool.or, Bool.and, Nat.add_zero, Nat.zero_add]
    try simp only [Nat.reduceLT, Nat.reduceLeDiff, Nat.reduceEqDiff, true_and, and_true, and_self, Nat.zero_le, Nat.le_refl, true_or, or_true, Bool.false_eq_true, not_false_eq_true, Nat.reduceAdd, Nat.lt_add_one, Nat.zero_lt_one, nI_add, pk_mul, ixL, vpL, ne_eq, reduceIte, wI_sN, wL_sM, sN_same, sN_K, sN_2, sM_1, sM_same, sM_K, sM_s, uI_at, uN_at, enc_at, uI_enc, uI_uI, upM_s, upM_n]
    exact Lw_ok h1 h2 hz
  · intro E t1 hq
    obtain ⟨e, h1, h2⟩ := hq
    by_cases hz : r.1 = 0
    · rw [if_pos hz] at e; cases e
    rw [if_neg hz] at e
    cases e
    have hk : r.1 = 1 := by omega
    · refine ⟨by rw [hk]; decide +kernel, 12, by rw [hk]; decide +kernel, fun q => ?_⟩
      show V x t1 1 12 _ _
      refine V_run hB (rt := some .int) (nL := 4) (mc := 1) rfl rfl rfl (ops := [(12, .astore_n 3, 1, (3, 0, 0, 0, 0, 0), 0), (13, .iconst 1, 1, (0, 0, 0, 0, 0, 0), nI 1), (14, .ireturn, 1, (0, 0, 0, 0, 0, 0), 0)]) (by decide +kernel) ?_
      dsimp only [↓wpb, ↓wp1, ↓vI, ↓vL, ↓vD, ↓ldI, ↓ldL, ↓ldD, ↓ldR, ↓k1, ↓k2, ↓kI, ↓kL, ↓kD, ↓kII, ↓kLL, ↓kDD, ↓kR, ↓kIR, ↓kLR, ↓kIIR, ↓kLIR, ↓kDIR, ↓kRIR, ↓kNN, ↓kE, ↓br, ↓bn, ↓rtI, ↓gfv, ↓zchk, lput, ldel, lbad, alA, acat, isRf, dom, dS, dJ, isO, aTy, aLen, elAV, elR, Nat.reduceBEq, Nat.reduceAdd, Bool.or, Bool.and, Nat.add_zero, Nat.zero_add]
      try simp only [Nat.reduceLT, Nat.reduceLeDiff, Nat.reduceEqDiff, true_and, and_true, and_self, Nat.zero_le, Nat.le_refl, true_or, or_true, Bool.false_eq_true, not_false_eq_true, Nat.reduceAdd, Nat.lt_add_one, Nat.zero_lt_one, nI_add, pk_mul, ixL, vpL, ne_eq, reduceIte, wI_sN, wL_sM, sN_same, sN_K, sN_2, sM_1, sM_same, sM_K, sM_s, uI_at, uN_at, enc_at, uI_enc, uI_uI, upM_s, upM_n]
      exact Lw_no h1 h2 hz hk
theorem w_type (hc : CtxE l G) (hN : NcF G) (p0 : Nat) (hs : Sat l G iX10_type [moM, aI (nI p0)] τ (XOp [IAE, ISE] τ r)) (hr : r.1 ≤ 2) : SatH l G iL_type hL_type [moM, aI (nI p0), ouM] τ (LwP τ r) := by
  refine SatH_of hc.1.1 hc.1.2 (by decide +kernel) (Nat.le_of_ble_eq_true rfl) (fun x hB hT => ?_)
  refine V_run hB (rt := some .int) (nL := 4) (mc := 1) rfl rfl rfl (ops := [(0, .aload_n 2, 1, (2, 0, 0, 0, 0, 0), 0), (1, .iconst 0, 1, (0, 0, 0, 0, 0, 0), nI 0), (2, .aload_n 0, 1, (0, 0, 0, 0, 0, 0), 0), (3, .iload_n 1, 1, (1, 0, 0, 0, 0, 0), 0)]) (by decide +kernel) ?_
  dsimp only [↓wpb, ↓wp1, ↓vI, ↓vL, ↓vD, ↓ldI, ↓ldL, ↓ldD, ↓ldR, ↓k1, ↓k2, ↓kI, ↓kL, ↓kD, ↓kII, ↓kLL, ↓kDD, ↓kR, ↓kIR, ↓kLR, ↓kIIR, ↓kLIR, ↓kDIR, ↓kRIR, ↓kNN, ↓kE, ↓br, ↓bn, ↓rtI, ↓gfv, ↓zchk, lput, ldel, lbad, alA, acat, isRf, dom, dS, dJ, isO, aTy, aLen, elAV, elR, Nat.reduceBEq, Nat.reduceAdd, Bool.or, Bool.and, Nat.add_zero, Nat.zero_add]
  try simp only [Nat.reduceLT, Nat.reduceLeDiff, Nat.reduceEqDiff, true_and, and_true, and_self, Nat.zero_le, Nat.le_refl, true_or, or_true, Bool.false_eq_true, not_false_eq_true, Nat.reduceAdd, Nat.lt_add_one, Nat.zero_lt_one, nI_add, pk_mul, ixL, vpL, ne_eq, reduceIte, wI_sN, wL_sM, sN_same, sN_K, sN_2, sM_1, sM_same, sM_K, sM_s, uI_at, uN_at, enc_at, uI_enc, uI_uI, upM_s, upM_n]
  refine V_callVH hB hT hkL_type hN hs rfl (by decide +kernel) cvL_120 (dom1 rfl) npX10_type ⟨by decide, by decide⟩ (Nat.le_of_ble_eq_true rfl) (by decide) ?_ ?_
  · intro v t1 hq
    obtain ⟨e, h1, h2⟩ := hq
    by_cases hz : r.1 = 0
    rotate_left
    · rw [if_neg hz] at e; cases e
    rw [if_pos hz] at e
    cases e
    show V x t1 1 7 _ [aI (nI r.2.1), aI (nI 0), ouM]
    refine V_run hB (rt := some .int) (nL := 4) (mc := 1) rfl rfl rfl (ops := [(7, .i2l, 1, (0, 0, 0, 0, 0, 0), 0), (8, .lastore, 1, (0, 0, 0, 0, 0, 0), 0), (9, .goto 9, 3, (18, 0, 0, 0, 0, 0), 0)]) (by decide +kernel) ?_
    dsimp only [↓wpb, ↓wp1, ↓vI, ↓vL, ↓vD, ↓ldI, ↓ldL, ↓ldD, ↓ldR, ↓k1, ↓k2, ↓kI, ↓kL, ↓kD, ↓kII, ↓kLL, ↓kDD, ↓kR, ↓kIR, ↓kLR, ↓kIIR, ↓kLIR, ↓kDIR, ↓kRIR, ↓kNN, ↓kE, ↓br, ↓bn, ↓rtI, ↓gfv, ↓zchk, lput, ldel, lbad, alA, acat, isRf, dom, dS, dJ, isO, aTy, aLen, elAV, elR, Nat.reduceBEq, Nat.reduceAdd, Bool.or, Bool.and, Nat.add_zero, Nat.zero_add]
    try simp only [Nat.reduceLT, Nat.reduceLeDiff, Nat.reduceEqDiff, true_and, and_true, and_self, Nat.zero_le, Nat.le_refl, true_or, or_true, Bool.false_eq_true, not_false_eq_true, Nat.reduceAdd, Nat.lt_add_one, Nat.zero_lt_one, nI_add, pk_mul, ixL, vpL, ne_eq, reduceIte, wI_sN, wL_sM, sN_same, sN_K, sN_2, sM_1, sM_same, sM_K, sM_s, uI_at, uN_at, enc_at, uI_enc, uI_uI, upM_s, upM_n]
    refine V_run hB (rt := some .int) (nL := 4) (mc := 1) rfl rfl rfl (ops := [(18, .iconst 0, 1, (0, 0, 0, 0, 0, 0), nI 0), (19, .ireturn, 1, (0, 0, 0, 0, 0, 0), 0)]) (by decide +kernel) ?_
    dsimp only [↓wpb, ↓wp1, ↓vI, ↓vL, ↓vD, ↓ldI, ↓ldL, ↓ldD, ↓ldR, ↓k1, ↓k2, ↓kI, ↓kL, ↓kD, ↓kII, ↓kLL, ↓kDD, ↓kR, ↓kIR, ↓kLR, ↓kIIR, ↓kLIR, ↓kDIR, ↓kRIR, ↓kNN, ↓kE, ↓br, ↓bn, ↓rtI, ↓gfv, ↓zchk, lput, ldel, lbad, alA, acat, isRf, dom, dS, dJ, isO, aTy, aLen, elAV, elR, Nat.reduceBEq, Nat.reduceAdd, Bool.or, Bool.and, Nat.add_zero, Nat.zero_add]
    try simp only [Nat.reduceLT, Nat.reduceLeDiff, Nat.reduceEqDiff, true_and, and_true, and_self, Nat.zero_le, Nat.le_refl, true_or, or_true, Bool.false_eq_true, not_false_eq_true, Nat.reduceAdd, Nat.lt_add_one, Nat.zero_lt_one, nI_add, pk_mul, ixL, vpL, ne_eq, reduceIte, wI_sN, wL_sM, sN_same, sN_K, sN_2, sM_1, sM_same, sM_K, sM_s, uI_at, uN_at, enc_at, uI_enc, uI_uI, upM_s, upM_n]
    exact Lw_ok h1 h2 hz
  · intro E t1 hq
    obtain ⟨e, h1, h2⟩ := hq
    by_cases hz : r.1 = 0
    · rw [if_pos hz] at e; cases e
    rw [if_neg hz] at e
    cases e
    rcases (by omega : r.1 = 1 ∨ r.1 = 2) with hk | hk
    · refine ⟨by rw [hk]; decide +kernel, 12, by rw [hk]; decide +kernel, fun q => ?_⟩
      show V x t1 1 12 _ _
      refine V_run hB (rt := some .int) (nL := 4) (mc := 1) rfl rfl rfl (ops := [(12, .astore_n 3, 1, (3, 0, 0, 0, 0, 0), 0), (13, .iconst 1, 1, (0, 0, 0, 0, 0, 0), nI 1), (14, .ireturn, 1, (0, 0, 0, 0, 0, 0), 0)]) (by decide +kernel) ?_
      dsimp only [↓wpb, ↓wp1, ↓vI, ↓vL, ↓vD, ↓ldI, ↓ldL, ↓ldD, ↓ldR, ↓k1, ↓k2, ↓kI, ↓kL, ↓kD, ↓kII, ↓kLL, ↓kDD, ↓kR, ↓kIR, ↓kLR, ↓kIIR, ↓kLIR, ↓kDIR, ↓kRIR, ↓kNN, ↓kE, ↓br, ↓bn, ↓rtI, ↓gfv, ↓zchk, lput, ldel, lbad, alA, acat, isRf, dom, dS, dJ, isO, aTy, aLen, elAV, elR, Nat.reduceBEq, Nat.reduceAdd, Bool.or, Bool.and, Nat.add_zero, Nat.zero_add]
      try simp only [Nat.reduceLT, Nat.reduceLeDiff, Nat.reduceEqDiff, true_and, and_true, and_self, Nat.zero_le, Nat.le_refl, true_or, or_true, Bool.false_eq_true, not_false_eq_true, Nat.reduceAdd, Nat.lt_add_one, Nat.zero_lt_one, nI_add, pk_mul, ixL, vpL, ne_eq, reduceIte, wI_sN, wL_sM, sN_same, sN_K, sN_2, sM_1, sM_same, sM_K, sM_s, uI_at, uN_at, enc_at, uI_enc, uI_uI, upM_s, upM_n]
      exact Lw_no h1 h2 hz hk
    · refine ⟨by rw [hk]; decide +kernel, 15, by rw [hk]; decide +kernel, fun q => ?_⟩
      show V x t1 1 15 _ _
      refine V_run hB (rt := some .int) (nL := 4) (mc := 1) rfl rfl rfl (ops := [(15, .astore_n 3, 1, (3, 0, 0, 0, 0, 0), 0), (16, .iconst 2, 1, (0, 0, 0, 0, 0, 0), nI 2), (17, .ireturn, 1, (0, 0, 0, 0, 0, 0), 0)]) (by decide +kernel) ?_
      dsimp only [↓wpb, ↓wp1, ↓vI, ↓vL, ↓vD, ↓ldI, ↓ldL, ↓ldD, ↓ldR, ↓k1, ↓k2, ↓kI, ↓kL, ↓kD, ↓kII, ↓kLL, ↓kDD, ↓kR, ↓kIR, ↓kLR, ↓kIIR, ↓kLIR, ↓kDIR, ↓kRIR, ↓kNN, ↓kE, ↓br, ↓bn, ↓rtI, ↓gfv, ↓zchk, lput, ldel, lbad, alA, acat, isRf, dom, dS, dJ, isO, aTy, aLen, elAV, elR, Nat.reduceBEq, Nat.reduceAdd, Bool.or, Bool.and, Nat.add_zero, Nat.zero_add]
      try simp only [Nat.reduceLT, Nat.reduceLeDiff, Nat.reduceEqDiff, true_and, and_true, and_self, Nat.zero_le, Nat.le_refl, true_or, or_true, Bool.false_eq_true, not_false_eq_true, Nat.reduceAdd, Nat.lt_add_one, Nat.zero_lt_one, nI_add, pk_mul, ixL, vpL, ne_eq, reduceIte, wI_sN, wL_sM, sN_same, sN_K, sN_2, sM_1, sM_same, sM_K, sM_s, uI_at, uN_at, enc_at, uI_enc, uI_uI, upM_s, upM_n]
      exact Lw_no h1 h2 hz hk
theorem w_execute (hc : CtxE l G) (hN : NcF G) (hs : Sat l G iX10_execute [moM] τ (XOp [IAE, ISE] τ r)) (hr : r.1 ≤ 2) : SatH l G iL_execute hL_execute [moM, ouM] τ (LwP τ r) := by
  refine SatH_of hc.1.1 hc.1.2 (by decide +kernel) (Nat.le_of_ble_eq_true rfl) (fun x hB hT => ?_)
  refine V_run hB (rt := some .int) (nL := 3) (mc := 300) rfl rfl rfl (ops := [(0, .aload_n 1, 1, (1, 0, 0, 0, 0, 0), 0), (1, .iconst 0, 1, (0, 0, 0, 0, 0, 0), nI 0), (2, .aload_n 0, 1, (0, 0, 0, 0, 0, 0), 0)]) (by decide +kernel) ?_
  dsimp only [↓wpb, ↓wp1, ↓vI, ↓vL, ↓vD, ↓ldI, ↓ldL, ↓ldD, ↓ldR, ↓k1, ↓k2, ↓kI, ↓kL, ↓kD, ↓kII, ↓kLL, ↓kDD, ↓kR, ↓kIR, ↓kLR, ↓kIIR, ↓kLIR, ↓kDIR, ↓kRIR, ↓kNN, ↓kE, ↓br, ↓bn, ↓rtI, ↓gfv, ↓zchk, lput, ldel, lbad, alA, acat, isRf, dom, dS, dJ, isO, aTy, aLen, elAV, elR, Nat.reduceBEq, Nat.reduceAdd, Bool.or, Bool.and, Nat.add_zero, Nat.zero_add]
  try simp only [Nat.reduceLT, Nat.reduceLeDiff, Nat.reduceEqDiff, true_and, and_true, and_self, Nat.zero_le, Nat.le_refl, true_or, or_true, Bool.false_eq_true, not_false_eq_true, Nat.reduceAdd, Nat.lt_add_one, Nat.zero_lt_one, nI_add, pk_mul, ixL, vpL, ne_eq, reduceIte, wI_sN, wL_sM, sN_same, sN_K, sN_2, sM_1, sM_same, sM_K, sM_s, uI_at, uN_at, enc_at, uI_enc, uI_uI, upM_s, upM_n]
  refine V_callVH hB hT hkL_execute hN hs rfl (by decide +kernel) cvL_124 (dom1 rfl) npX10_execute ⟨by decide, by decide⟩ (Nat.le_of_ble_eq_true rfl) (by decide) ?_ ?_
  · intro v t1 hq
    obtain ⟨e, h1, h2⟩ := hq
    by_cases hz : r.1 = 0
    rotate_left
    · rw [if_neg hz] at e; cases e
    rw [if_pos hz] at e
    cases e
    show V x t1 300 6 _ [aI (nI r.2.1), aI (nI 0), ouM]
    refine V_run hB (rt := some .int) (nL := 3) (mc := 300) rfl rfl rfl (ops := [(6, .i2l, 1, (0, 0, 0, 0, 0, 0), 0), (7, .lastore, 1, (0, 0, 0, 0, 0, 0), 0), (8, .goto 9, 3, (17, 0, 0, 0, 0, 0), 0)]) (by decide +kernel) ?_
    dsimp only [↓wpb, ↓wp1, ↓vI, ↓vL, ↓vD, ↓ldI, ↓ldL, ↓ldD, ↓ldR, ↓k1, ↓k2, ↓kI, ↓kL, ↓kD, ↓kII, ↓kLL, ↓kDD, ↓kR, ↓kIR, ↓kLR, ↓kIIR, ↓kLIR, ↓kDIR, ↓kRIR, ↓kNN, ↓kE, ↓br, ↓bn, ↓rtI, ↓gfv, ↓zchk, lput, ldel, lbad, alA, acat, isRf, dom, dS, dJ, isO, aTy, aLen, elAV, elR, Nat.reduceBEq, Nat.reduceAdd, Bool.or, Bool.and, Nat.add_zero, Nat.zero_add]
    try simp only [Nat.reduceLT, Nat.reduceLeDiff, Nat.reduceEqDiff, true_and, and_true, and_self, Nat.zero_le, Nat.le_refl, true_or, or_true, Bool.false_eq_true, not_false_eq_true, Nat.reduceAdd, Nat.lt_add_one, Nat.zero_lt_one, nI_add, pk_mul, ixL, vpL, ne_eq, reduceIte, wI_sN, wL_sM, sN_same, sN_K, sN_2, sM_1, sM_same, sM_K, sM_s, uI_at, uN_at, enc_at, uI_enc, uI_uI, upM_s, upM_n]
    refine V_run hB (rt := some .int) (nL := 3) (mc := 300) rfl rfl rfl (ops := [(17, .iconst 0, 1, (0, 0, 0, 0, 0, 0), nI 0), (18, .ireturn, 1, (0, 0, 0, 0, 0, 0), 0)]) (by decide +kernel) ?_
    dsimp only [↓wpb, ↓wp1, ↓vI, ↓vL, ↓vD, ↓ldI, ↓ldL, ↓ldD, ↓ldR, ↓k1, ↓k2, ↓kI, ↓kL, ↓kD, ↓kII, ↓kLL, ↓kDD, ↓kR, ↓kIR, ↓kLR, ↓kIIR, ↓kLIR, ↓kDIR, ↓kRIR, ↓kNN, ↓kE, ↓br, ↓bn, ↓rtI, ↓gfv, ↓zchk, lput, ldel, lbad, alA, acat, isRf, dom, dS, dJ, isO, aTy, aLen, elAV, elR, Nat.reduceBEq, Nat.reduceAdd, Bool.or, Bool.and, Nat.add_zero, Nat.zero_add]
    try simp only [Nat.reduceLT, Nat.reduceLeDiff, Nat.reduceEqDiff, true_and, and_true, and_self, Nat.zero_le, Nat.le_refl, true_or, or_true, Bool.false_eq_true, not_false_eq_true, Nat.reduceAdd, Nat.lt_add_one, Nat.zero_lt_one, nI_add, pk_mul, ixL, vpL, ne_eq, reduceIte, wI_sN, wL_sM, sN_same, sN_K, sN_2, sM_1, sM_same, sM_K, sM_s, uI_at, uN_at, enc_at, uI_enc, uI_uI, upM_s, upM_n]
    exact Lw_ok h1 h2 hz
  · intro E t1 hq
    obtain ⟨e, h1, h2⟩ := hq
    by_cases hz : r.1 = 0
    · rw [if_pos hz] at e; cases e
    rw [if_neg hz] at e
    cases e
    rcases (by omega : r.1 = 1 ∨ r.1 = 2) with hk | hk
    · refine ⟨by rw [hk]; decide +kernel, 11, by rw [hk]; decide +kernel, fun q => ?_⟩
      show V x t1 300 11 _ _
      refine V_run hB (rt := some .int) (nL := 3) (mc := 300) rfl rfl rfl (ops := [(11, .astore_n 2, 1, (2, 0, 0, 0, 0, 0), 0), (12, .iconst 1, 1, (0, 0, 0, 0, 0, 0), nI 1), (13, .ireturn, 1, (0, 0, 0, 0, 0, 0), 0)]) (by decide +kernel) ?_
      dsimp only [↓wpb, ↓wp1, ↓vI, ↓vL, ↓vD, ↓ldI, ↓ldL, ↓ldD, ↓ldR, ↓k1, ↓k2, ↓kI, ↓kL, ↓kD, ↓kII, ↓kLL, ↓kDD, ↓kR, ↓kIR, ↓kLR, ↓kIIR, ↓kLIR, ↓kDIR, ↓kRIR, ↓kNN, ↓kE, ↓br, ↓bn, ↓rtI, ↓gfv, ↓zchk, lput, ldel, lbad, alA, acat, isRf, dom, dS, dJ, isO, aTy, aLen, elAV, elR, Nat.reduceBEq, Nat.reduceAdd, Bool.or, Bool.and, Nat.add_zero, Nat.zero_add]
      try simp only [Nat.reduceLT, Nat.reduceLeDiff, Nat.reduceEqDiff, true_and, and_true, and_self, Nat.zero_le, Nat.le_refl, true_or, or_true, Bool.false_eq_true, not_false_eq_true, Nat.reduceAdd, Nat.lt_add_one, Nat.zero_lt_one, nI_add, pk_mul, ixL, vpL, ne_eq, reduceIte, wI_sN, wL_sM, sN_same, sN_K, sN_2, sM_1, sM_same, sM_K, sM_s, uI_at, uN_at, enc_at, uI_enc, uI_uI, upM_s, upM_n]
      exact Lw_no h1 h2 hz hk
    · refine ⟨by rw [hk]; decide +kernel, 14, by rw [hk]; decide +kernel, fun q => ?_⟩
      show V x t1 300 14 _ _
      refine V_run hB (rt := some .int) (nL := 3) (mc := 300) rfl rfl rfl (ops := [(14, .astore_n 2, 1, (2, 0, 0, 0, 0, 0), 0), (15, .iconst 2, 1, (0, 0, 0, 0, 0, 0), nI 2), (16, .ireturn, 1, (0, 0, 0, 0, 0, 0), 0)]) (by decide +kernel) ?_
      dsimp only [↓wpb, ↓wp1, ↓vI, ↓vL, ↓vD, ↓ldI, ↓ldL, ↓ldD, ↓ldR, ↓k1, ↓k2, ↓kI, ↓kL, ↓kD, ↓kII, ↓kLL, ↓kDD, ↓kR, ↓kIR, ↓kLR, ↓kIIR, ↓kLIR, ↓kDIR, ↓kRIR, ↓kNN, ↓kE, ↓br, ↓bn, ↓rtI, ↓gfv, ↓zchk, lput, ldel, lbad, alA, acat, isRf, dom, dS, dJ, isO, aTy, aLen, elAV, elR, Nat.reduceBEq, Nat.reduceAdd, Bool.or, Bool.and, Nat.add_zero, Nat.zero_add]
      try simp only [Nat.reduceLT, Nat.reduceLeDiff, Nat.reduceEqDiff, true_and, and_true, and_self, Nat.zero_le, Nat.le_refl, true_or, or_true, Bool.false_eq_true, not_false_eq_true, Nat.reduceAdd, Nat.lt_add_one, Nat.zero_lt_one, nI_add, pk_mul, ixL, vpL, ne_eq, reduceIte, wI_sN, wL_sM, sN_same, sN_K, sN_2, sM_1, sM_same, sM_K, sM_s, uI_at, uN_at, enc_at, uI_enc, uI_uI, upM_s, upM_n]
      exact Lw_no h1 h2 hz hk
theorem w_errorPosition (hc : CtxE l G) (hN : NcF G) (hs : Sat l G iX10_errorPosition [moM] τ (XOp [NSE] τ r)) (hr : r.1 ≤ 1) : SatH l G iL_errorPosition hL_errorPosition [moM, ouM] τ (LwP τ r) := by
  refine SatH_of hc.1.1 hc.1.2 (by decide +kernel) (Nat.le_of_ble_eq_true rfl) (fun x hB hT => ?_)
  refine V_run hB (rt := some .int) (nL := 3) (mc := 1) rfl rfl rfl (ops := [(0, .aload_n 1, 1, (1, 0, 0, 0, 0, 0), 0), (1, .iconst 0, 1, (0, 0, 0, 0, 0, 0), nI 0), (2, .aload_n 0, 1, (0, 0, 0, 0, 0, 0), 0)]) (by decide +kernel) ?_
  dsimp only [↓wpb, ↓wp1, ↓vI, ↓vL, ↓vD, ↓ldI, ↓ldL, ↓ldD, ↓ldR, ↓k1, ↓k2, ↓kI, ↓kL, ↓kD, ↓kII, ↓kLL, ↓kDD, ↓kR, ↓kIR, ↓kLR, ↓kIIR, ↓kLIR, ↓kDIR, ↓kRIR, ↓kNN, ↓kE, ↓br, ↓bn, ↓rtI, ↓gfv, ↓zchk, lput, ldel, lbad, alA, acat, isRf, dom, dS, dJ, isO, aTy, aLen, elAV, elR, Nat.reduceBEq, Nat.reduceAdd, Bool.or, Bool.and, Nat.add_zero, Nat.zero_add]
  try simp only [Nat.reduceLT, Nat.reduceLeDiff, Nat.reduceEqDiff, true_and, and_true, and_self, Nat.zero_le, Nat.le_refl, true_or, or_true, Bool.false_eq_true, not_false_eq_true, Nat.reduceAdd, Nat.lt_add_one, Nat.zero_lt_one, nI_add, pk_mul, ixL, vpL, ne_eq, reduceIte, wI_sN, wL_sM, sN_same, sN_K, sN_2, sM_1, sM_same, sM_K, sM_s, uI_at, uN_at, enc_at, uI_enc, uI_uI, upM_s, upM_n]
  refine V_callVH hB hT hkL_errorPosition hN hs rfl (by decide +kernel) cvL_127 (dom1 rfl) npX10_errorPosition ⟨by decide, by decide⟩ (Nat.le_of_ble_eq_true rfl) (by decide) ?_ ?_
  · intro v t1 hq
    obtain ⟨e, h1, h2⟩ := hq
    by_cases hz : r.1 = 0
    rotate_left
    · rw [if_neg hz] at e; cases e
    rw [if_pos hz] at e
    cases e
    show V x t1 1 6 _ [aI (nI r.2.1), aI (nI 0), ouM]
    refine V_run hB (rt := some .int) (nL := 3) (mc := 1) rfl rfl rfl (ops := [(6, .i2l, 1, (0, 0, 0, 0, 0, 0), 0), (7, .lastore, 1, (0, 0, 0, 0, 0, 0), 0), (8, .goto 6, 3, (14, 0, 0, 0, 0, 0), 0)]) (by decide +kernel) ?_
    dsimp only [↓wpb, ↓wp1, ↓vI, ↓vL, ↓vD, ↓ldI, ↓ldL, ↓ldD, ↓ldR, ↓k1, ↓k2, ↓kI, ↓kL, ↓kD, ↓kII, ↓kLL, ↓kDD, ↓kR, ↓kIR, ↓kLR, ↓kIIR, ↓kLIR, ↓kDIR, ↓kRIR, ↓kNN, ↓kE, ↓br, ↓bn, ↓rtI, ↓gfv, ↓zchk, lput, ldel, lbad, alA, acat, isRf, dom, dS, dJ, isO, aTy, aLen, elAV, elR, Nat.reduceBEq, Nat.reduceAdd, Bool.or, Bool.and, Nat.add_zero, Nat.zero_add]
    try simp only [Nat.reduceLT, Nat.reduceLeDiff, Nat.reduceEqDiff, true_and, and_true, and_self, Nat.zero_le, Nat.le_refl, true_or, or_true, Bool.false_eq_true, not_false_eq_true, Nat.reduceAdd, Nat.lt_add_one, Nat.zero_lt_one, nI_add, pk_mul, ixL, vpL, ne_eq, reduceIte, wI_sN, wL_sM, sN_same, sN_K, sN_2, sM_1, sM_same, sM_K, sM_s, uI_at, uN_at, enc_at, uI_enc, uI_uI, upM_s, upM_n]
    refine V_run hB (rt := some .int) (nL := 3) (mc := 1) rfl rfl rfl (ops := [(14, .iconst 0, 1, (0, 0, 0, 0, 0, 0), nI 0), (15, .ireturn, 1, (0, 0, 0, 0, 0, 0), 0)]) (by decide +kernel) ?_
    dsimp only [↓wpb, ↓wp1, ↓vI, ↓vL, ↓vD, ↓ldI, ↓ldL, ↓ldD, ↓ldR, ↓k1, ↓k2, ↓kI, ↓kL, ↓kD, ↓kII, ↓kLL, ↓kDD, ↓kR, ↓kIR, ↓kLR, ↓kIIR, ↓kLIR, ↓kDIR, ↓kRIR, ↓kNN, ↓kE, ↓br, ↓bn, ↓rtI, ↓gfv, ↓zchk, lput, ldel, lbad, alA, acat, isRf, dom, dS, dJ, isO, aTy, aLen, elAV, elR, Nat.reduceBEq, Nat.reduceAdd, Bool.or, Bool.and, Nat.add_zero, Nat.zero_add]
    try simp only [Nat.reduceLT, Nat.reduceLeDiff, Nat.reduceEqDiff, true_and, and_true, and_self, Nat.zero_le, Nat.le_refl, true_or, or_true, Bool.false_eq_true, not_false_eq_true, Nat.reduceAdd, Nat.lt_add_one, Nat.zero_lt_one, nI_add, pk_mul, ixL, vpL, ne_eq, reduceIte, wI_sN, wL_sM, sN_same, sN_K, sN_2, sM_1, sM_same, sM_K, sM_s, uI_at, uN_at, enc_at, uI_enc, uI_uI, upM_s, upM_n]
    exact Lw_ok h1 h2 hz
  · intro E t1 hq
    obtain ⟨e, h1, h2⟩ := hq
    by_cases hz : r.1 = 0
    · rw [if_pos hz] at e; cases e
    rw [if_neg hz] at e
    cases e
    have hk : r.1 = 1 := by omega
    · refine ⟨by rw [hk]; decide +kernel, 11, by rw [hk]; decide +kernel, fun q => ?_⟩
      show V x t1 1 11 _ _
      refine V_run hB (rt := some .int) (nL := 3) (mc := 1) rfl rfl rfl (ops := [(11, .astore_n 2, 1, (2, 0, 0, 0, 0, 0), 0), (12, .iconst 1, 1, (0, 0, 0, 0, 0, 0), nI 1), (13, .ireturn, 1, (0, 0, 0, 0, 0, 0), 0)]) (by decide +kernel) ?_
      dsimp only [↓wpb, ↓wp1, ↓vI, ↓vL, ↓vD, ↓ldI, ↓ldL, ↓ldD, ↓ldR, ↓k1, ↓k2, ↓kI, ↓kL, ↓kD, ↓kII, ↓kLL, ↓kDD, ↓kR, ↓kIR, ↓kLR, ↓kIIR, ↓kLIR, ↓kDIR, ↓kRIR, ↓kNN, ↓kE, ↓br, ↓bn, ↓rtI, ↓gfv, ↓zchk, lput, ldel, lbad, alA, acat, isRf, dom, dS, dJ, isO, aTy, aLen, elAV, elR, Nat.reduceBEq, Nat.reduceAdd, Bool.or, Bool.and, Nat.add_zero, Nat.zero_add]
      try simp only [Nat.reduceLT, Nat.reduceLeDiff, Nat.reduceEqDiff, true_and, and_true, and_self, Nat.zero_le, Nat.le_refl, true_or, or_true, Bool.false_eq_true, not_false_eq_true, Nat.reduceAdd, Nat.lt_add_one, Nat.zero_lt_one, nI_add, pk_mul, ixL, vpL, ne_eq, reduceIte, wI_sN, wL_sM, sN_same, sN_K, sN_2, sM_1, sM_same, sM_K, sM_s, uI_at, uN_at, enc_at, uI_enc, uI_uI, upM_s, upM_n]
      exact Lw_no h1 h2 hz hk
theorem w_failedCommand (hc : CtxE l G) (hN : NcF G) (hs : Sat l G iX10_failedCommand [moM] τ (XOp [NSE] τ r)) (hr : r.1 ≤ 1) : SatH l G iL_failedCommand hL_failedCommand [moM, ouM] τ (LwP τ r) := by
  refine SatH_of hc.1.1 hc.1.2 (by decide +kernel) (Nat.le_of_ble_eq_true rfl) (fun x hB hT => ?_)
  refine V_run hB (rt := some .int) (nL := 3) (mc := 1) rfl rfl rfl (ops := [(0, .aload_n 1, 1, (1, 0, 0, 0, 0, 0), 0), (1, .iconst 0, 1, (0, 0, 0, 0, 0, 0), nI 0), (2, .aload_n 0, 1, (0, 0, 0, 0, 0, 0), 0)]) (by decide +kernel) ?_
  dsimp only [↓wpb, ↓wp1, ↓vI, ↓vL, ↓vD, ↓ldI, ↓ldL, ↓ldD, ↓ldR, ↓k1, ↓k2, ↓kI, ↓kL, ↓kD, ↓kII, ↓kLL, ↓kDD, ↓kR, ↓kIR, ↓kLR, ↓kIIR, ↓kLIR, ↓kDIR, ↓kRIR, ↓kNN, ↓kE, ↓br, ↓bn, ↓rtI, ↓gfv, ↓zchk, lput, ldel, lbad, alA, acat, isRf, dom, dS, dJ, isO, aTy, aLen, elAV, elR, Nat.reduceBEq, Nat.reduceAdd, Bool.or, Bool.and, Nat.add_zero, Nat.zero_add]
  try simp only [Nat.reduceLT, Nat.reduceLeDiff, Nat.reduceEqDiff, true_and, and_true, and_self, Nat.zero_le, Nat.le_refl, true_or, or_true, Bool.false_eq_true, not_false_eq_true, Nat.reduceAdd, Nat.lt_add_one, Nat.zero_lt_one, nI_add, pk_mul, ixL, vpL, ne_eq, reduceIte, wI_sN, wL_sM, sN_same, sN_K, sN_2, sM_1, sM_same, sM_K, sM_s, uI_at, uN_at, enc_at, uI_enc, uI_uI, upM_s, upM_n]
  refine V_callVH hB hT hkL_failedCommand hN hs rfl (by decide +kernel) cvL_130 (dom1 rfl) npX10_failedCommand ⟨by decide, by decide⟩ (Nat.le_of_ble_eq_true rfl) (by decide) ?_ ?_
  · intro v t1 hq
    obtain ⟨e, h1, h2⟩ := hq
    by_cases hz : r.1 = 0
    rotate_left
    · rw [if_neg hz] at e; cases e
    rw [if_pos hz] at e
    cases e
    show V x t1 1 6 _ [aI (nI r.2.1), aI (nI 0), ouM]
    refine V_run hB (rt := some .int) (nL := 3) (mc := 1) rfl rfl rfl (ops := [(6, .i2l, 1, (0, 0, 0, 0, 0, 0), 0), (7, .lastore, 1, (0, 0, 0, 0, 0, 0), 0), (8, .goto 6, 3, (14, 0, 0, 0, 0, 0), 0)]) (by decide +kernel) ?_
    dsimp only [↓wpb, ↓wp1, ↓vI, ↓vL, ↓vD, ↓ldI, ↓ldL, ↓ldD, ↓ldR, ↓k1, ↓k2, ↓kI, ↓kL, ↓kD, ↓kII, ↓kLL, ↓kDD, ↓kR, ↓kIR, ↓kLR, ↓kIIR, ↓kLIR, ↓kDIR, ↓kRIR, ↓kNN, ↓kE, ↓br, ↓bn, ↓rtI, ↓gfv, ↓zchk, lput, ldel, lbad, alA, acat, isRf, dom, dS, dJ, isO, aTy, aLen, elAV, elR, Nat.reduceBEq, Nat.reduceAdd, Bool.or, Bool.and, Nat.add_zero, Nat.zero_add]
    try simp only [Nat.reduceLT, Nat.reduceLeDiff, Nat.reduceEqDiff, true_and, and_true, and_self, Nat.zero_le, Nat.le_refl, true_or, or_true, Bool.false_eq_true, not_false_eq_true, Nat.reduceAdd, Nat.lt_add_one, Nat.zero_lt_one, nI_add, pk_mul, ixL, vpL, ne_eq, reduceIte, wI_sN, wL_sM, sN_same, sN_K, sN_2, sM_1, sM_same, sM_K, sM_s, uI_at, uN_at, enc_at, uI_enc, uI_uI, upM_s, upM_n]
    refine V_run hB (rt := some .int) (nL := 3) (mc := 1) rfl rfl rfl (ops := [(14, .iconst 0, 1, (0, 0, 0, 0, 0, 0), nI 0), (15, .ireturn, 1, (0, 0, 0, 0, 0, 0), 0)]) (by decide +kernel) ?_
    dsimp only [↓wpb, ↓wp1, ↓vI, ↓vL, ↓vD, ↓ldI, ↓ldL, ↓ldD, ↓ldR, ↓k1, ↓k2, ↓kI, ↓kL, ↓kD, ↓kII, ↓kLL, ↓kDD, ↓kR, ↓kIR, ↓kLR, ↓kIIR, ↓kLIR, ↓kDIR, ↓kRIR, ↓kNN, ↓kE, ↓br, ↓bn, ↓rtI, ↓gfv, ↓zchk, lput, ldel, lbad, alA, acat, isRf, dom, dS, dJ, isO, aTy, aLen, elAV, elR, Nat.reduceBEq, Nat.reduceAdd, Bool.or, Bool.and, Nat.add_zero, Nat.zero_add]
    try simp only [Nat.reduceLT, Nat.reduceLeDiff, Nat.reduceEqDiff, true_and, and_true, and_self, Nat.zero_le, Nat.le_refl, true_or, or_true, Bool.false_eq_true, not_false_eq_true, Nat.reduceAdd, Nat.lt_add_one, Nat.zero_lt_one, nI_add, pk_mul, ixL, vpL, ne_eq, reduceIte, wI_sN, wL_sM, sN_same, sN_K, sN_2, sM_1, sM_same, sM_K, sM_s, uI_at, uN_at, enc_at, uI_enc, uI_uI, upM_s, upM_n]
    exact Lw_ok h1 h2 hz
  · intro E t1 hq
    obtain ⟨e, h1, h2⟩ := hq
    by_cases hz : r.1 = 0
    · rw [if_pos hz] at e; cases e
    rw [if_neg hz] at e
    cases e
    have hk : r.1 = 1 := by omega
    · refine ⟨by rw [hk]; decide +kernel, 11, by rw [hk]; decide +kernel, fun q => ?_⟩
      show V x t1 1 11 _ _
      refine V_run hB (rt := some .int) (nL := 3) (mc := 1) rfl rfl rfl (ops := [(11, .astore_n 2, 1, (2, 0, 0, 0, 0, 0), 0), (12, .iconst 1, 1, (0, 0, 0, 0, 0, 0), nI 1), (13, .ireturn, 1, (0, 0, 0, 0, 0, 0), 0)]) (by decide +kernel) ?_
      dsimp only [↓wpb, ↓wp1, ↓vI, ↓vL, ↓vD, ↓ldI, ↓ldL, ↓ldD, ↓ldR, ↓k1, ↓k2, ↓kI, ↓kL, ↓kD, ↓kII, ↓kLL, ↓kDD, ↓kR, ↓kIR, ↓kLR, ↓kIIR, ↓kLIR, ↓kDIR, ↓kRIR, ↓kNN, ↓kE, ↓br, ↓bn, ↓rtI, ↓gfv, ↓zchk, lput, ldel, lbad, alA, acat, isRf, dom, dS, dJ, isO, aTy, aLen, elAV, elR, Nat.reduceBEq, Nat.reduceAdd, Bool.or, Bool.and, Nat.add_zero, Nat.zero_add]
      try simp only [Nat.reduceLT, Nat.reduceLeDiff, Nat.reduceEqDiff, true_and, and_true, and_self, Nat.zero_le, Nat.le_refl, true_or, or_true, Bool.false_eq_true, not_false_eq_true, Nat.reduceAdd, Nat.lt_add_one, Nat.zero_lt_one, nI_add, pk_mul, ixL, vpL, ne_eq, reduceIte, wI_sN, wL_sM, sN_same, sN_K, sN_2, sM_1, sM_same, sM_K, sM_s, uI_at, uN_at, enc_at, uI_enc, uI_uI, upM_s, upM_n]
      exact Lw_no h1 h2 hz hk
theorem w_undo (hc : CtxE l G) (hN : NcF G) (hs : Sat l G iX10_undo [moM] τ (XOp [ISE] τ r)) (hr : r.1 ≤ 1) : SatH l G iL_undo hL_undo [moM, ouM] τ (LwP τ r) := by
  refine SatH_of hc.1.1 hc.1.2 (by decide +kernel) (Nat.le_of_ble_eq_true rfl) (fun x hB hT => ?_)
  refine V_run hB (rt := some .int) (nL := 3) (mc := 1) rfl rfl rfl (ops := [(0, .aload_n 1, 1, (1, 0, 0, 0, 0, 0), 0), (1, .iconst 0, 1, (0, 0, 0, 0, 0, 0), nI 0), (2, .aload_n 0, 1, (0, 0, 0, 0, 0, 0), 0)]) (by decide +kernel) ?_
  dsimp only [↓wpb, ↓wp1, ↓vI, ↓vL, ↓vD, ↓ldI, ↓ldL, ↓ldD, ↓ldR, ↓k1, ↓k2, ↓kI, ↓kL, ↓kD, ↓kII, ↓kLL, ↓kDD, ↓kR, ↓kIR, ↓kLR, ↓kIIR, ↓kLIR, ↓kDIR, ↓kRIR, ↓kNN, ↓kE, ↓br, ↓bn, ↓rtI, ↓gfv, ↓zchk, lput, ldel, lbad, alA, acat, isRf, dom, dS, dJ, isO, aTy, aLen, elAV, elR, Nat.reduceBEq, Nat.reduceAdd, Bool.or, Bool.and, Nat.add_zero, Nat.zero_add]
  try simp only [Nat.reduceLT, Nat.reduceLeDiff, Nat.reduceEqDiff, true_and, and_true, and_self, Nat.zero_le, Nat.le_refl, true_or, or_true, Bool.false_eq_true, not_false_eq_true, Nat.reduceAdd, Nat.lt_add_one, Nat.zero_lt_one, nI_add, pk_mul, ixL, vpL, ne_eq, reduceIte, wI_sN, wL_sM, sN_same, sN_K, sN_2, sM_1, sM_same, sM_K, sM_s, uI_at, uN_at, enc_at, uI_enc, uI_uI, upM_s, upM_n]
  refine V_callVH hB hT hkL_undo hN hs rfl (by decide +kernel) cvL_133 (dom1 rfl) npX10_undo ⟨by decide, by decide⟩ (Nat.le_of_ble_eq_true rfl) (by decide) ?_ ?_
  · intro v t1 hq
    obtain ⟨e, h1, h2⟩ := hq
    by_cases hz : r.1 = 0
    rotate_left
    · rw [if_neg hz] at e; cases e
    rw [if_pos hz] at e
    cases e
    show V x t1 1 6 _ [aI (nI r.2.1), aI (nI 0), ouM]
    refine V_run hB (rt := some .int) (nL := 3) (mc := 1) rfl rfl rfl (ops := [(6, .i2l, 1, (0, 0, 0, 0, 0, 0), 0), (7, .lastore, 1, (0, 0, 0, 0, 0, 0), 0), (8, .goto 6, 3, (14, 0, 0, 0, 0, 0), 0)]) (by decide +kernel) ?_
    dsimp only [↓wpb, ↓wp1, ↓vI, ↓vL, ↓vD, ↓ldI, ↓ldL, ↓ldD, ↓ldR, ↓k1, ↓k2, ↓kI, ↓kL, ↓kD, ↓kII, ↓kLL, ↓kDD, ↓kR, ↓kIR, ↓kLR, ↓kIIR, ↓kLIR, ↓kDIR, ↓kRIR, ↓kNN, ↓kE, ↓br, ↓bn, ↓rtI, ↓gfv, ↓zchk, lput, ldel, lbad, alA, acat, isRf, dom, dS, dJ, isO, aTy, aLen, elAV, elR, Nat.reduceBEq, Nat.reduceAdd, Bool.or, Bool.and, Nat.add_zero, Nat.zero_add]
    try simp only [Nat.reduceLT, Nat.reduceLeDiff, Nat.reduceEqDiff, true_and, and_true, and_self, Nat.zero_le, Nat.le_refl, true_or, or_true, Bool.false_eq_true, not_false_eq_true, Nat.reduceAdd, Nat.lt_add_one, Nat.zero_lt_one, nI_add, pk_mul, ixL, vpL, ne_eq, reduceIte, wI_sN, wL_sM, sN_same, sN_K, sN_2, sM_1, sM_same, sM_K, sM_s, uI_at, uN_at, enc_at, uI_enc, uI_uI, upM_s, upM_n]
    refine V_run hB (rt := some .int) (nL := 3) (mc := 1) rfl rfl rfl (ops := [(14, .iconst 0, 1, (0, 0, 0, 0, 0, 0), nI 0), (15, .ireturn, 1, (0, 0, 0, 0, 0, 0), 0)]) (by decide +kernel) ?_
    dsimp only [↓wpb, ↓wp1, ↓vI, ↓vL, ↓vD, ↓ldI, ↓ldL, ↓ldD, ↓ldR, ↓k1, ↓k2, ↓kI, ↓kL, ↓kD, ↓kII, ↓kLL, ↓kDD, ↓kR, ↓kIR, ↓kLR, ↓kIIR, ↓kLIR, ↓kDIR, ↓kRIR, ↓kNN, ↓kE, ↓br, ↓bn, ↓rtI, ↓gfv, ↓zchk, lput, ldel, lbad, alA, acat, isRf, dom, dS, dJ, isO, aTy, aLen, elAV, elR, Nat.reduceBEq, Nat.reduceAdd, Bool.or, Bool.and, Nat.add_zero, Nat.zero_add]
    try simp only [Nat.reduceLT, Nat.reduceLeDiff, Nat.reduceEqDiff, true_and, and_true, and_self, Nat.zero_le, Nat.le_refl, true_or, or_true, Bool.false_eq_true, not_false_eq_true, Nat.reduceAdd, Nat.lt_add_one, Nat.zero_lt_one, nI_add, pk_mul, ixL, vpL, ne_eq, reduceIte, wI_sN, wL_sM, sN_same, sN_K, sN_2, sM_1, sM_same, sM_K, sM_s, uI_at, uN_at, enc_at, uI_enc, uI_uI, upM_s, upM_n]
    exact Lw_ok h1 h2 hz
  · intro E t1 hq
    obtain ⟨e, h1, h2⟩ := hq
    by_cases hz : r.1 = 0
    · rw [if_pos hz] at e; cases e
    rw [if_neg hz] at e
    cases e
    have hk : r.1 = 1 := by omega
    · refine ⟨by rw [hk]; decide +kernel, 11, by rw [hk]; decide +kernel, fun q => ?_⟩
      show V x t1 1 11 _ _
      refine V_run hB (rt := some .int) (nL := 3) (mc := 1) rfl rfl rfl (ops := [(11, .astore_n 2, 1, (2, 0, 0, 0, 0, 0), 0), (12, .iconst 1, 1, (0, 0, 0, 0, 0, 0), nI 1), (13, .ireturn, 1, (0, 0, 0, 0, 0, 0), 0)]) (by decide +kernel) ?_
      dsimp only [↓wpb, ↓wp1, ↓vI, ↓vL, ↓vD, ↓ldI, ↓ldL, ↓ldD, ↓ldR, ↓k1, ↓k2, ↓kI, ↓kL, ↓kD, ↓kII, ↓kLL, ↓kDD, ↓kR, ↓kIR, ↓kLR, ↓kIIR, ↓kLIR, ↓kDIR, ↓kRIR, ↓kNN, ↓kE, ↓br, ↓bn, ↓rtI, ↓gfv, ↓zchk, lput, ldel, lbad, alA, acat, isRf, dom, dS, dJ, isO, aTy, aLen, elAV, elR, Nat.reduceBEq, Nat.reduceAdd, Bool.or, Bool.and, Nat.add_zero, Nat.zero_add]
      try simp only [Nat.reduceLT, Nat.reduceLeDiff, Nat.reduceEqDiff, true_and, and_true, and_self, Nat.zero_le, Nat.le_refl, true_or, or_true, Bool.false_eq_true, not_false_eq_true, Nat.reduceAdd, Nat.lt_add_one, Nat.zero_lt_one, nI_add, pk_mul, ixL, vpL, ne_eq, reduceIte, wI_sN, wL_sM, sN_same, sN_K, sN_2, sM_1, sM_same, sM_K, sM_s, uI_at, uN_at, enc_at, uI_enc, uI_uI, upM_s, upM_n]
      exact Lw_no h1 h2 hz hk
theorem w_restore (hc : CtxE l G) (hN : NcF G) (hs : Sat l G iX10_restore [moM] τ (XOp [ISE] τ r)) (hr : r.1 ≤ 1) : SatH l G iL_restore hL_restore [moM, ouM] τ (LwP τ r) := by
  refine SatH_of hc.1.1 hc.1.2 (by decide +kernel) (Nat.le_of_ble_eq_true rfl) (fun x hB hT => ?_)
  refine V_run hB (rt := some .int) (nL := 3) (mc := 1) rfl rfl rfl (ops := [(0, .aload_n 1, 1, (1, 0, 0, 0, 0, 0), 0), (1, .iconst 0, 1, (0, 0, 0, 0, 0, 0), nI 0), (2, .aload_n 0, 1, (0, 0, 0, 0, 0, 0), 0)]) (by decide +kernel) ?_
  dsimp only [↓wpb, ↓wp1, ↓vI, ↓vL, ↓vD, ↓ldI, ↓ldL, ↓ldD, ↓ldR, ↓k1, ↓k2, ↓kI, ↓kL, ↓kD, ↓kII, ↓kLL, ↓kDD, ↓kR, ↓kIR, ↓kLR, ↓kIIR, ↓kLIR, ↓kDIR, ↓kRIR, ↓kNN, ↓kE, ↓br, ↓bn, ↓rtI, ↓gfv, ↓zchk, lput, ldel, lbad, alA, acat, isRf, dom, dS, dJ, isO, aTy, aLen, elAV, elR, Nat.reduceBEq, Nat.reduceAdd, Bool.or, Bool.and, Nat.add_zero, Nat.zero_add]
  try simp only [Nat.reduceLT, Nat.reduceLeDiff, Nat.reduceEqDiff, true_and, and_true, and_self, Nat.zero_le, Nat.le_refl, true_or, or_true, Bool.false_eq_true, not_false_eq_true, Nat.reduceAdd, Nat.lt_add_one, Nat.zero_lt_one, nI_add, pk_mul, ixL, vpL, ne_eq, reduceIte, wI_sN, wL_sM, sN_same, sN_K, sN_2, sM_1, sM_same, sM_K, sM_s, uI_at, uN_at, enc_at, uI_enc, uI_uI, upM_s, upM_n]
  refine V_callVH hB hT hkL_restore hN hs rfl (by decide +kernel) cvL_136 (dom1 rfl) npX10_restore ⟨by decide, by decide⟩ (Nat.le_of_ble_eq_true rfl) (by decide) ?_ ?_
  · intro v t1 hq
    obtain ⟨e, h1, h2⟩ := hq
    by_cases hz : r.1 = 0
    rotate_left
    · rw [if_neg hz] at e; cases e
    rw [if_pos hz] at e
    cases e
    show V x t1 1 6 _ [aI (nI r.2.1), aI (nI 0), ouM]
    refine V_run hB (rt := some .int) (nL := 3) (mc := 1) rfl rfl rfl (ops := [(6, .i2l, 1, (0, 0, 0, 0, 0, 0), 0), (7, .lastore, 1, (0, 0, 0, 0, 0, 0), 0), (8, .goto 6, 3, (14, 0, 0, 0, 0, 0), 0)]) (by decide +kernel) ?_
    dsimp only [↓wpb, ↓wp1, ↓vI, ↓vL, ↓vD, ↓ldI, ↓ldL, ↓ldD, ↓ldR, ↓k1, ↓k2, ↓kI, ↓kL, ↓kD, ↓kII, ↓kLL, ↓kDD, ↓kR, ↓kIR, ↓kLR, ↓kIIR, ↓kLIR, ↓kDIR, ↓kRIR, ↓kNN, ↓kE, ↓br, ↓bn, ↓rtI, ↓gfv, ↓zchk, lput, ldel, lbad, alA, acat, isRf, dom, dS, dJ, isO, aTy, aLen, elAV, elR, Nat.reduceBEq, Nat.reduceAdd, Bool.or, Bool.and, Nat.add_zero, Nat.zero_add]
    try simp only [Nat.reduceLT, Nat.reduceLeDiff, Nat.reduceEqDiff, true_and, and_true, and_self, Nat.zero_le, Nat.le_refl, true_or, or_true, Bool.false_eq_true, not_false_eq_true, Nat.reduceAdd, Nat.lt_add_one, Nat.zero_lt_one, nI_add, pk_mul, ixL, vpL, ne_eq, reduceIte, wI_sN, wL_sM, sN_same, sN_K, sN_2, sM_1, sM_same, sM_K, sM_s, uI_at, uN_at, enc_at, uI_enc, uI_uI, upM_s, upM_n]
    refine V_run hB (rt := some .int) (nL := 3) (mc := 1) rfl rfl rfl (ops := [(14, .iconst 0, 1, (0, 0, 0, 0, 0, 0), nI 0), (15, .ireturn, 1, (0, 0, 0, 0, 0, 0), 0)]) (by decide +kernel) ?_
    dsimp only [↓wpb, ↓wp1, ↓vI, ↓vL, ↓vD, ↓ldI, ↓ldL, ↓ldD, ↓ldR, ↓k1, ↓k2, ↓kI, ↓kL, ↓kD, ↓kII, ↓kLL, ↓kDD, ↓kR, ↓kIR, ↓kLR, ↓kIIR, ↓kLIR, ↓kDIR, ↓kRIR, ↓kNN, ↓kE, ↓br, ↓bn, ↓rtI, ↓gfv, ↓zchk, lput, ldel, lbad, alA, acat, isRf, dom, dS, dJ, isO, aTy, aLen, elAV, elR, Nat.reduceBEq, Nat.reduceAdd, Bool.or, Bool.and, Nat.add_zero, Nat.zero_add]
    try simp only [Nat.reduceLT, Nat.reduceLeDiff, Nat.reduceEqDiff, true_and, and_true, and_self, Nat.zero_le, Nat.le_refl, true_or, or_true, Bool.false_eq_true, not_false_eq_true, Nat.reduceAdd, Nat.lt_add_one, Nat.zero_lt_one, nI_add, pk_mul, ixL, vpL, ne_eq, reduceIte, wI_sN, wL_sM, sN_same, sN_K, sN_2, sM_1, sM_same, sM_K, sM_s, uI_at, uN_at, enc_at, uI_enc, uI_uI, upM_s, upM_n]
    exact Lw_ok h1 h2 hz
  · intro E t1 hq
    obtain ⟨e, h1, h2⟩ := hq
    by_cases hz : r.1 = 0
    · rw [if_pos hz] at e; cases e
    rw [if_neg hz] at e
    cases e
    have hk : r.1 = 1 := by omega
    · refine ⟨by rw [hk]; decide +kernel, 11, by rw [hk]; decide +kernel, fun q => ?_⟩
      show V x t1 1 11 _ _
      refine V_run hB (rt := some .int) (nL := 3) (mc := 1) rfl rfl rfl (ops := [(11, .astore_n 2, 1, (2, 0, 0, 0, 0, 0), 0), (12, .iconst 1, 1, (0, 0, 0, 0, 0, 0), nI 1), (13, .ireturn, 1, (0, 0, 0, 0, 0, 0), 0)]) (by decide +kernel) ?_
      dsimp only [↓wpb, ↓wp1, ↓vI, ↓vL, ↓vD, ↓ldI, ↓ldL, ↓ldD, ↓ldR, ↓k1, ↓k2, ↓kI, ↓kL, ↓kD, ↓kII, ↓kLL, ↓kDD, ↓kR, ↓kIR, ↓kLR, ↓kIIR, ↓kLIR, ↓kDIR, ↓kRIR, ↓kNN, ↓kE, ↓br, ↓bn, ↓rtI, ↓gfv, ↓zchk, lput, ldel, lbad, alA, acat, isRf, dom, dS, dJ, isO, aTy, aLen, elAV, elR, Nat.reduceBEq, Nat.reduceAdd, Bool.or, Bool.and, Nat.add_zero, Nat.zero_add]
      try simp only [Nat.reduceLT, Nat.reduceLeDiff, Nat.reduceEqDiff, true_and, and_true, and_self, Nat.zero_le, Nat.le_refl, true_or, or_true, Bool.false_eq_true, not_false_eq_true, Nat.reduceAdd, Nat.lt_add_one, Nat.zero_lt_one, nI_add, pk_mul, ixL, vpL, ne_eq, reduceIte, wI_sN, wL_sM, sN_same, sN_K, sN_2, sM_1, sM_same, sM_K, sM_s, uI_at, uN_at, enc_at, uI_enc, uI_uI, upM_s, upM_n]
      exact Lw_no h1 h2 hz hk
end LW
