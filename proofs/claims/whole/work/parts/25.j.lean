/-! ===== the slip: written, read ===== -/
section WS
variable {l : Launch} {G : GG} {τ : Mem} {σ : Sg} {n : Nat}
theorem p_charAt5 (hc : CtxE l G) {j : Nat} (hj : j < τ.2.2.2.2.1) (h : τ.2.2.2.2.2 j < 128) : Sat l G iJ5_charAt_5068e [sbM, aI (nI j)] τ (retI (nI (τ.2.2.2.2.2 j)) τ) := by
  obtain ⟨e1, e2, e3⟩ := ch128 _ h
  have eb := (sb_byte _ (show τ.2.2.2.2.2 j < 256 by omega)).1
  have eb : sb_b (τ.2.2.2.2.2 j) &&& nI 255 = nI (τ.2.2.2.2.2 j) := eb
  refine Sat_ofF hc.1.1 hc.1.2 (by decide +kernel) (Nat.le_of_ble_eq_true rfl) (fun x hB hno => ?_)
  refine V_sbi (fun hn hcap ht => ?_)
  refine V_run hB (rt := some .char) (nL := 5) (mc := 0) rfl rfl rfl (ops := [(0, .aload_n 0, 1, (0, 0, 0, 0, 0, 0), 0)]) (by decide +kernel) ?_
  dsimp only [↓wpb, ↓wp1, ↓vI, ↓vL, ↓vD, ↓ldI, ↓ldL, ↓ldD, ↓ldR, ↓k1, ↓k2, ↓kI, ↓kL, ↓kD, ↓kII, ↓kLL, ↓kDD, ↓kR, ↓kIR, ↓kLR, ↓kIIR, ↓kLIR, ↓kDIR, ↓kRIR, ↓kNN, ↓kE, ↓br, ↓bn, ↓rtI, ↓gfv, ↓zchk, lput, ldel, lbad, alA, acat, isRf, dom, dS, dJ, isO, aTy, aLen, elAV, elR, Nat.reduceBEq, Nat.reduceAdd, Bool.or, Bool.and, Nat.add_zero, Nat.zero_add]
  try simp only [Nat.reduceLT, Nat.reduceLeDiff, Nat.reduceEqDiff, true_and, and_true, and_self, Nat.zero_le, Nat.le_refl, true_or, or_true, Bool.false_eq_true, not_false_eq_true, Nat.reduceAdd, Nat.lt_add_one, Nat.zero_lt_one, nI_add, pk_mul, ixL, vpL, ne_eq, reduceIte, wI_sN, wL_sM, sN_same, sN_K, sN_2, sM_1, sM_same, sM_K, sM_s, uI_at, uN_at, enc_at, uI_enc, uI_uI, upM_s, upM_n]
  refine V_sbg hB (k := 1) (v := aI 0) (Or.inr (Or.inl ⟨rfl, rfl⟩)) (idx := 22) (TBg_at 373 (by decide +kernel)) (by decide +kernel) ?_
  refine V_run hB (rt := some .char) (nL := 5) (mc := 0) rfl rfl rfl (ops := [(4, .istore_n 2, 1, (2, 0, 0, 0, 0, 0), 0), (5, .aload_n 0, 1, (0, 0, 0, 0, 0, 0), 0)]) (by decide +kernel) ?_
  dsimp only [↓wpb, ↓wp1, ↓vI, ↓vL, ↓vD, ↓ldI, ↓ldL, ↓ldD, ↓ldR, ↓k1, ↓k2, ↓kI, ↓kL, ↓kD, ↓kII, ↓kLL, ↓kDD, ↓kR, ↓kIR, ↓kLR, ↓kIIR, ↓kLIR, ↓kDIR, ↓kRIR, ↓kNN, ↓kE, ↓br, ↓bn, ↓rtI, ↓gfv, ↓zchk, lput, ldel, lbad, alA, acat, isRf, dom, dS, dJ, isO, aTy, aLen, elAV, elR, Nat.reduceBEq, Nat.reduceAdd, Bool.or, Bool.and, Nat.add_zero, Nat.zero_add]
  try simp only [Nat.reduceLT, Nat.reduceLeDiff, Nat.reduceEqDiff, true_and, and_true, and_self, Nat.zero_le, Nat.le_refl, true_or, or_true, Bool.false_eq_true, not_false_eq_true, Nat.reduceAdd, Nat.lt_add_one, Nat.zero_lt_one, nI_add, pk_mul, ixL, vpL, ne_eq, reduceIte, wI_sN, wL_sM, sN_same, sN_K, sN_2, sM_1, sM_same, sM_K, sM_s, uI_at, uN_at, enc_at, uI_enc, uI_uI, upM_s, upM_n]
  refine V_sbg hB (k := 0) (v := .inl (.ref τ.2.2.1)) (Or.inl ⟨rfl, rfl⟩) (idx := 15) (TBg_at 372 (by decide +kernel)) (by decide +kernel) ?_
  refine V_run hB (rt := some .char) (nL := 5) (mc := 0) rfl rfl rfl (ops := [(9, .astore_n 3, 1, (3, 0, 0, 0, 0, 0), 0), (10, .aload_n 0, 1, (0, 0, 0, 0, 0, 0), 0)]) (by decide +kernel) ?_
  dsimp only [↓wpb, ↓wp1, ↓vI, ↓vL, ↓vD, ↓ldI, ↓ldL, ↓ldD, ↓ldR, ↓k1, ↓k2, ↓kI, ↓kL, ↓kD, ↓kII, ↓kLL, ↓kDD, ↓kR, ↓kIR, ↓kLR, ↓kIIR, ↓kLIR, ↓kDIR, ↓kRIR, ↓kNN, ↓kE, ↓br, ↓bn, ↓rtI, ↓gfv, ↓zchk, lput, ldel, lbad, alA, acat, isRf, dom, dS, dJ, isO, aTy, aLen, elAV, elR, Nat.reduceBEq, Nat.reduceAdd, Bool.or, Bool.and, Nat.add_zero, Nat.zero_add]
  try simp only [Nat.reduceLT, Nat.reduceLeDiff, Nat.reduceEqDiff, true_and, and_true, and_self, Nat.zero_le, Nat.le_refl, true_or, or_true, Bool.false_eq_true, not_false_eq_true, Nat.reduceAdd, Nat.lt_add_one, Nat.zero_lt_one, nI_add, pk_mul, ixL, vpL, ne_eq, reduceIte, wI_sN, wL_sM, sN_same, sN_K, sN_2, sM_1, sM_same, sM_K, sM_s, uI_at, uN_at, enc_at, uI_enc, uI_uI, upM_s, upM_n]
  refine V_sbg hB (k := 3) (v := aI (nI τ.2.2.2.2.1)) (Or.inr (Or.inr ⟨rfl, rfl⟩)) (idx := 79) (TBg_at 376 (by decide +kernel)) (by decide +kernel) ?_
  refine V_run hB (rt := some .char) (nL := 5) (mc := 0) rfl rfl rfl (ops := [(14, .aload_n 3, 1, (3, 0, 0, 0, 0, 0), 0)]) (by decide +kernel) ?_
  dsimp only [↓wpb, ↓wp1, ↓vI, ↓vL, ↓vD, ↓ldI, ↓ldL, ↓ldD, ↓ldR, ↓k1, ↓k2, ↓kI, ↓kL, ↓kD, ↓kII, ↓kLL, ↓kDD, ↓kR, ↓kIR, ↓kLR, ↓kIIR, ↓kLIR, ↓kDIR, ↓kRIR, ↓kNN, ↓kE, ↓br, ↓bn, ↓rtI, ↓gfv, ↓zchk, lput, ldel, lbad, alA, acat, isRf, dom, dS, dJ, isO, aTy, aLen, elAV, elR, Nat.reduceBEq, Nat.reduceAdd, Bool.or, Bool.and, Nat.add_zero, Nat.zero_add]
  try simp only [Nat.reduceLT, Nat.reduceLeDiff, Nat.reduceEqDiff, true_and, and_true, and_self, Nat.zero_le, Nat.le_refl, true_or, or_true, Bool.false_eq_true, not_false_eq_true, Nat.reduceAdd, Nat.lt_add_one, Nat.zero_lt_one, nI_add, pk_mul, ixL, vpL, ne_eq, reduceIte, wI_sN, wL_sM, sN_same, sN_K, sN_2, sM_1, sM_same, sM_K, sM_s, uI_at, uN_at, enc_at, uI_enc, uI_uI, upM_s, upM_n]
  refine V_sblen hB (by decide +kernel) ?_
  refine V_run hB (rt := some .char) (nL := 5) (mc := 0) rfl rfl rfl (ops := [(16, .iload_n 2, 1, (2, 0, 0, 0, 0, 0), 0), (17, .ishr, 1, (0, 0, 0, 0, 0, 0), 0)]) (by decide +kernel) ?_
  dsimp only [↓wpb, ↓wp1, ↓vI, ↓vL, ↓vD, ↓ldI, ↓ldL, ↓ldD, ↓ldR, ↓k1, ↓k2, ↓kI, ↓kL, ↓kD, ↓kII, ↓kLL, ↓kDD, ↓kR, ↓kIR, ↓kLR, ↓kIIR, ↓kLIR, ↓kDIR, ↓kRIR, ↓kNN, ↓kE, ↓br, ↓bn, ↓rtI, ↓gfv, ↓zchk, lput, ldel, lbad, alA, acat, isRf, dom, dS, dJ, isO, aTy, aLen, elAV, elR, Nat.reduceBEq, Nat.reduceAdd, Bool.or, Bool.and, Nat.add_zero, Nat.zero_add]
  try simp only [Nat.reduceLT, Nat.reduceLeDiff, Nat.reduceEqDiff, true_and, and_true, and_self, Nat.zero_le, Nat.le_refl, true_or, or_true, Bool.false_eq_true, not_false_eq_true, Nat.reduceAdd, Nat.lt_add_one, Nat.zero_lt_one, nI_add, pk_mul, ixL, vpL, ne_eq, reduceIte, wI_sN, wL_sM, sN_same, sN_K, sN_2, sM_1, sM_same, sM_K, sM_s, uI_at, uN_at, enc_at, uI_enc, uI_uI, upM_s, upM_n, sb_shr0]
  refine V_cS hB hno (p_min hc.1 _ (by omega) (by omega)) rfl (by decide +kernel) cs5J5_138 npJ9_min1 ⟨by decide, by decide⟩ (Nat.le_of_ble_eq_true rfl) (n' := 0) (by decide) rfl ?_
  rw [Nat.min_eq_left hn]
  refine V_run hB (rt := some .char) (nL := 5) (mc := 0) rfl rfl rfl (ops := [(21, .istore 4, 2, (4, 0, 0, 0, 0, 0), 0), (23, .iload_n 1, 1, (1, 0, 0, 0, 0, 0), 0), (24, .iload 4, 2, (4, 0, 0, 0, 0, 0), 0)]) (by decide +kernel) ?_
  dsimp only [↓wpb, ↓wp1, ↓vI, ↓vL, ↓vD, ↓ldI, ↓ldL, ↓ldD, ↓ldR, ↓k1, ↓k2, ↓kI, ↓kL, ↓kD, ↓kII, ↓kLL, ↓kDD, ↓kR, ↓kIR, ↓kLR, ↓kIIR, ↓kLIR, ↓kDIR, ↓kRIR, ↓kNN, ↓kE, ↓br, ↓bn, ↓rtI, ↓gfv, ↓zchk, lput, ldel, lbad, alA, acat, isRf, dom, dS, dJ, isO, aTy, aLen, elAV, elR, Nat.reduceBEq, Nat.reduceAdd, Bool.or, Bool.and, Nat.add_zero, Nat.zero_add]
  try simp only [Nat.reduceLT, Nat.reduceLeDiff, Nat.reduceEqDiff, true_and, and_true, and_self, Nat.zero_le, Nat.le_refl, true_or, or_true, Bool.false_eq_true, not_false_eq_true, Nat.reduceAdd, Nat.lt_add_one, Nat.zero_lt_one, nI_add, pk_mul, ixL, vpL, ne_eq, reduceIte, wI_sN, wL_sM, sN_same, sN_K, sN_2, sM_1, sM_same, sM_K, sM_s, uI_at, uN_at, enc_at, uI_enc, uI_uI, upM_s, upM_n]
  refine V_cSv hB hno (k_checkIndex0 hc hj (by omega)) rfl (by decide +kernel) cs5J5_144 npJ0_checkIndex_df160 ⟨by decide, by decide⟩ (Nat.le_of_ble_eq_true rfl) (n' := 0) (by decide) rfl ?_
  refine V_run hB (rt := some .char) (nL := 5) (mc := 0) rfl rfl rfl (ops := [(29, .iload_n 2, 1, (2, 0, 0, 0, 0, 0), 0), (30, .ifCond .ne 12, 3, (42, 0, 0, 0, 0, 0), 0), (33, .aload_n 3, 1, (3, 0, 0, 0, 0, 0), 0), (34, .iload_n 1, 1, (1, 0, 0, 0, 0, 0), 0)]) (by decide +kernel) ?_
  dsimp only [↓wpb, ↓wp1, ↓vI, ↓vL, ↓vD, ↓ldI, ↓ldL, ↓ldD, ↓ldR, ↓k1, ↓k2, ↓kI, ↓kL, ↓kD, ↓kII, ↓kLL, ↓kDD, ↓kR, ↓kIR, ↓kLR, ↓kIIR, ↓kLIR, ↓kDIR, ↓kRIR, ↓kNN, ↓kE, ↓br, ↓bn, ↓rtI, ↓gfv, ↓zchk, lput, ldel, lbad, alA, acat, isRf, dom, dS, dJ, isO, aTy, aLen, elAV, elR, Nat.reduceBEq, Nat.reduceAdd, Bool.or, Bool.and, Nat.add_zero, Nat.zero_add]
  try simp only [Nat.reduceLT, Nat.reduceLeDiff, Nat.reduceEqDiff, true_and, and_true, and_self, Nat.zero_le, Nat.le_refl, true_or, or_true, Bool.false_eq_true, not_false_eq_true, Nat.reduceAdd, Nat.lt_add_one, Nat.zero_lt_one, nI_add, pk_mul, ixL, vpL, ne_eq, reduceIte, wI_sN, wL_sM, sN_same, sN_K, sN_2, sM_1, sM_same, sM_K, sM_s, uI_at, uN_at, enc_at, uI_enc, uI_uI, upM_s, upM_n]
  refine ⟨fun q => absurd trivial q, fun _ => ?_⟩
  refine V_sbld hB (j := j) (by omega) (by omega) (by decide +kernel) ?_
  refine V_run hB (rt := some .char) (nL := 5) (mc := 0) rfl rfl rfl (ops := [(36, .sipush 255, 3, (0, 0, 0, 0, 0, 0), nI 255), (39, .iand, 1, (0, 0, 0, 0, 0, 0), 0), (40, .i2c, 1, (0, 0, 0, 0, 0, 0), 0), (41, .ireturn, 1, (0, 0, 0, 0, 0, 0), 0)]) (by decide +kernel) ?_
  dsimp only [↓wpb, ↓wp1, ↓vI, ↓vL, ↓vD, ↓ldI, ↓ldL, ↓ldD, ↓ldR, ↓k1, ↓k2, ↓kI, ↓kL, ↓kD, ↓kII, ↓kLL, ↓kDD, ↓kR, ↓kIR, ↓kLR, ↓kIIR, ↓kLIR, ↓kDIR, ↓kRIR, ↓kNN, ↓kE, ↓br, ↓bn, ↓rtI, ↓gfv, ↓zchk, lput, ldel, lbad, alA, acat, isRf, dom, dS, dJ, isO, aTy, aLen, elAV, elR, Nat.reduceBEq, Nat.reduceAdd, Bool.or, Bool.and, Nat.add_zero, Nat.zero_add]
  try simp only [Nat.reduceLT, Nat.reduceLeDiff, Nat.reduceEqDiff, true_and, and_true, and_self, Nat.zero_le, Nat.le_refl, true_or, or_true, Bool.false_eq_true, not_false_eq_true, Nat.reduceAdd, Nat.lt_add_one, Nat.zero_lt_one, nI_add, pk_mul, ixL, vpL, ne_eq, reduceIte, wI_sN, wL_sM, sN_same, sN_K, sN_2, sM_1, sM_same, sM_K, sM_s, uI_at, uN_at, enc_at, uI_enc, uI_uI, upM_s, upM_n, eb, e3]
  exact ⟨e2, rfl, rfl⟩
theorem p_charAt (hc : CtxE l G) {j : Nat} (hj : j < τ.2.2.2.2.1) (h : τ.2.2.2.2.2 j < 128) : Sat l G iJ4_charAt_5068e [sbM, aI (nI j)] τ (retI (nI (τ.2.2.2.2.2 j)) τ) := by
  obtain ⟨e1, e2, e3⟩ := ch128 _ h
  refine Sat_ofF hc.1.1 hc.1.2 (by decide +kernel) (Nat.le_of_ble_eq_true rfl) (fun x hB hno => ?_)
  refine V_run hB (rt := some .char) (nL := 2) (mc := 0) rfl rfl rfl (ops := [(0, .aload_n 0, 1, (0, 0, 0, 0, 0, 0), 0), (1, .iload_n 1, 1, (1, 0, 0, 0, 0, 0), 0)]) (by decide +kernel) ?_
  dsimp only [↓wpb, ↓wp1, ↓vI, ↓vL, ↓vD, ↓ldI, ↓ldL, ↓ldD, ↓ldR, ↓k1, ↓k2, ↓kI, ↓kL, ↓kD, ↓kII, ↓kLL, ↓kDD, ↓kR, ↓kIR, ↓kLR, ↓kIIR, ↓kLIR, ↓kDIR, ↓kRIR, ↓kNN, ↓kE, ↓br, ↓bn, ↓rtI, ↓gfv, ↓zchk, lput, ldel, lbad, alA, acat, isRf, dom, dS, dJ, isO, aTy, aLen, elAV, elR, Nat.reduceBEq, Nat.reduceAdd, Bool.or, Bool.and, Nat.add_zero, Nat.zero_add]
  try simp only [Nat.reduceLT, Nat.reduceLeDiff, Nat.reduceEqDiff, true_and, and_true, and_self, Nat.zero_le, Nat.le_refl, true_or, or_true, Bool.false_eq_true, not_false_eq_true, Nat.reduceAdd, Nat.lt_add_one, Nat.zero_lt_one, nI_add, pk_mul, ixL, vpL, ne_eq, reduceIte, wI_sN, wL_sM, sN_same, sN_K, sN_2, sM_1, sM_same, sM_K, sM_s, uI_at, uN_at, enc_at, uI_enc, uI_uI, upM_s, upM_n]
  refine V_callSU hB hno (p_charAt5 hc hj h) rfl (by decide +kernel) su5J4_329 npJ5_charAt_5068e ⟨by decide, by decide⟩ (Nat.le_of_ble_eq_true rfl) (by decide) (fun w τ' hh => ?_) (fun E τ' hh => by cases hh.1)
  obtain ⟨e, rfl⟩ := hh
  cases e
  show V x τ' 0 5 _ [aI (nI (τ'.2.2.2.2.2 j))]
  refine V_run hB (rt := some .char) (nL := 2) (mc := 0) rfl rfl rfl (ops := [(5, .ireturn, 1, (0, 0, 0, 0, 0, 0), 0)]) (by decide +kernel) ?_
  dsimp only [↓wpb, ↓wp1, ↓vI, ↓vL, ↓vD, ↓ldI, ↓ldL, ↓ldD, ↓ldR, ↓k1, ↓k2, ↓kI, ↓kL, ↓kD, ↓kII, ↓kLL, ↓kDD, ↓kR, ↓kIR, ↓kLR, ↓kIIR, ↓kLIR, ↓kDIR, ↓kRIR, ↓kNN, ↓kE, ↓br, ↓bn, ↓rtI, ↓gfv, ↓zchk, lput, ldel, lbad, alA, acat, isRf, dom, dS, dJ, isO, aTy, aLen, elAV, elR, Nat.reduceBEq, Nat.reduceAdd, Bool.or, Bool.and, Nat.add_zero, Nat.zero_add]
  try simp only [Nat.reduceLT, Nat.reduceLeDiff, Nat.reduceEqDiff, true_and, and_true, and_self, Nat.zero_le, Nat.le_refl, true_or, or_true, Bool.false_eq_true, not_false_eq_true, Nat.reduceAdd, Nat.lt_add_one, Nat.zero_lt_one, nI_add, pk_mul, ixL, vpL, ne_eq, reduceIte, wI_sN, wL_sM, sN_same, sN_K, sN_2, sM_1, sM_same, sM_K, sM_s, uI_at, uN_at, enc_at, uI_enc, uI_uI, upM_s, upM_n]
  exact ⟨e2, rfl, rfl⟩
theorem x_slipAt (hc : CtxE l G) (h : CW τ σ) (hb : ∀ c ∈ σ.2.2.2.2.2, c < 128) (p : Int32) : Sat l G iX10_slipAt [moM, aI p] τ (XOp [IOE] τ ((sSl σ.2.2.2.2.2 p).1, (sSl σ.2.2.2.2.2 p).2, σ)) := by
  have hc0 := hc.1
  obtain ⟨hn, hq⟩ := id h.2.2.2.2.2
  refine Sat_of hc0.1 hc0.2 (by decide +kernel) (Nat.le_of_ble_eq_true rfl) (fun x hB hno => ?_)
  refine V_sbi (fun hn2 hcap2 ht2 => ?_)
  have hL : σ.2.2.2.2.2.length ≤ 200 := by omega
  have e15 : (sSl σ.2.2.2.2.2 p) = (1, 97) → V x τ 0 15 [(0, moM), (1, aI p)] [] := by
    intro e
    rw [e] at hB
    refine V_throwW hB hno thX10_315_141 ⟨by decide +kernel, by decide +kernel, by decide +kernel, by decide +kernel, by decide +kernel⟩ (by decide) (Nat.le_of_ble_eq_true rfl) ?_
    exact ⟨rfl, h, fun _ _ => rfl⟩
  refine V_run hB (rt := some .char) (nL := 2) (mc := 1) rfl rfl rfl (ops := [(0, .iload_n 1, 1, (1, 0, 0, 0, 0, 0), 0), (1, .ifCond .lt 14, 3, (15, 0, 0, 0, 0, 0), 0), (4, .iload_n 1, 1, (1, 0, 0, 0, 0, 0), 0), (5, .aload_n 0, 1, (0, 0, 0, 0, 0, 0), 0), (6, .getfield 54, 3, (1, 7, 2, 50, 0, 0), 0)]) (by decide +kernel) ?_
  dsimp only [↓wpb, ↓wp1, ↓vI, ↓vL, ↓vD, ↓ldI, ↓ldL, ↓ldD, ↓ldR, ↓k1, ↓k2, ↓kI, ↓kL, ↓kD, ↓kII, ↓kLL, ↓kDD, ↓kR, ↓kIR, ↓kLR, ↓kIIR, ↓kLIR, ↓kDIR, ↓kRIR, ↓kNN, ↓kE, ↓br, ↓bn, ↓rtI, ↓gfv, ↓zchk, lput, ldel, lbad, alA, acat, isRf, dom, dS, dJ, isO, aTy, aLen, elAV, elR, Nat.reduceBEq, Nat.reduceAdd, Bool.or, Bool.and, Nat.add_zero, Nat.zero_add]
  try simp only [Nat.reduceLT, Nat.reduceLeDiff, Nat.reduceEqDiff, true_and, and_true, and_self, Nat.zero_le, Nat.le_refl, true_or, or_true, Bool.false_eq_true, not_false_eq_true, Nat.reduceAdd, Nat.lt_add_one, Nat.zero_lt_one, nI_add, pk_mul, ixL, vpL, ne_eq, reduceIte, wI_sN, wL_sM, sN_same, sN_K, sN_2, sM_1, sM_same, sM_K, sM_s, uI_at, uN_at, enc_at, uI_enc, uI_uI, upM_s, upM_n]
  refine ⟨fun hp => e15 (if_pos hp), fun hp => ?_⟩
  refine V_callSB hB hno (p_len hc) rfl rfl (by decide +kernel) ck5X10_308 npJ4_length_8abf5 ⟨by decide, by decide⟩ (Nat.le_of_ble_eq_true rfl) (by decide) (fun w τ' hh => ?_) (fun E τ' hh => by cases hh.1)
  obtain ⟨e, rfl⟩ := hh
  cases e
  obtain ⟨k, hk, rfl⟩ := nI_of hp
  have e : sSl σ.2.2.2.2.2 (nI k) = match σ.2.2.2.2.2[k]? with | none => (1, 97) | some c => (0, c) := by unfold sSl; rw [if_neg hp, ixL hk]; cases σ.2.2.2.2.2[k]? <;> rfl
  rw [hn]
  show V x τ' 0 12 _ [aI (nI σ.2.2.2.2.2.length), aI (nI k)]
  refine V_run hB (rt := some .char) (nL := 2) (mc := 1) rfl rfl rfl (ops := [(12, .if_icmp .lt 14, 3, (26, 0, 0, 0, 0, 0), 0)]) (by decide +kernel) ?_
  dsimp only [↓wpb, ↓wp1, ↓vI, ↓vL, ↓vD, ↓ldI, ↓ldL, ↓ldD, ↓ldR, ↓k1, ↓k2, ↓kI, ↓kL, ↓kD, ↓kII, ↓kLL, ↓kDD, ↓kR, ↓kIR, ↓kLR, ↓kIIR, ↓kLIR, ↓kDIR, ↓kRIR, ↓kNN, ↓kE, ↓br, ↓bn, ↓rtI, ↓gfv, ↓zchk, lput, ldel, lbad, alA, acat, isRf, dom, dS, dJ, isO, aTy, aLen, elAV, elR, Nat.reduceBEq, Nat.reduceAdd, Bool.or, Bool.and, Nat.add_zero, Nat.zero_add]
  try simp only [Nat.reduceLT, Nat.reduceLeDiff, Nat.reduceEqDiff, true_and, and_true, and_self, Nat.zero_le, Nat.le_refl, true_or, or_true, Bool.false_eq_true, not_false_eq_true, Nat.reduceAdd, Nat.lt_add_one, Nat.zero_lt_one, nI_add, pk_mul, ixL, vpL, ne_eq, reduceIte, wI_sN, wL_sM, sN_same, sN_K, sN_2, sM_1, sM_same, sM_K, sM_s, uI_at, uN_at, enc_at, uI_enc, uI_uI, upM_s, upM_n]
  cases hg : σ.2.2.2.2.2[k]? with
  | none =>
    rw [hg] at e
    have h2 := List.getElem?_eq_none_iff.mp hg
    exact ⟨fun q => absurd q (nI_nlt h2 hk), fun _ => e15 e⟩
  | some c =>
    rw [hg] at e
    have h2 := (List.getElem?_eq_some_iff.mp hg).1
    have hcc := hq k c hg
    have hc8 : c < 128 := hb c (List.mem_of_getElem? hg)
    obtain ⟨e1, e2, e3⟩ := ch128 _ hc8
    rw [e] at hB
    refine ⟨fun _ => ?_, fun q => absurd (nI_lt h2 (by omega)) q⟩
    refine V_run hB (rt := some .char) (nL := 2) (mc := 1) rfl rfl rfl (ops := [(26, .aload_n 0, 1, (0, 0, 0, 0, 0, 0), 0), (27, .getfield 54, 3, (1, 7, 2, 50, 0, 0), 0), (30, .iload_n 1, 1, (1, 0, 0, 0, 0, 0), 0)]) (by decide +kernel) ?_
    dsimp only [↓wpb, ↓wp1, ↓vI, ↓vL, ↓vD, ↓ldI, ↓ldL, ↓ldD, ↓ldR, ↓k1, ↓k2, ↓kI, ↓kL, ↓kD, ↓kII, ↓kLL, ↓kDD, ↓kR, ↓kIR, ↓kLR, ↓kIIR, ↓kLIR, ↓kDIR, ↓kRIR, ↓kNN, ↓kE, ↓br, ↓bn, ↓rtI, ↓gfv, ↓zchk, lput, ldel, lbad, alA, acat, isRf, dom, dS, dJ, isO, aTy, aLen, elAV, elR, Nat.reduceBEq, Nat.reduceAdd, Bool.or, Bool.and, Nat.add_zero, Nat.zero_add]
    try simp only [Nat.reduceLT, Nat.reduceLeDiff, Nat.reduceEqDiff, true_and, and_true, and_self, Nat.zero_le, Nat.le_refl, true_or, or_true, Bool.false_eq_true, not_false_eq_true, Nat.reduceAdd, Nat.lt_add_one, Nat.zero_lt_one, nI_add, pk_mul, ixL, vpL, ne_eq, reduceIte, wI_sN, wL_sM, sN_same, sN_K, sN_2, sM_1, sM_same, sM_K, sM_s, uI_at, uN_at, enc_at, uI_enc, uI_uI, upM_s, upM_n]
    refine V_callSB hB hno (p_charAt hc (j := k) (by rw [hn]; exact h2) (by rw [hcc]; exact hc8)) rfl rfl (by decide +kernel) ck5X10_317 npJ4_charAt_5068e ⟨by decide, by decide⟩ (Nat.le_of_ble_eq_true rfl) (by decide) (fun w τ2 hh => ?_) (fun E τ2 hh => by cases hh.1)
    obtain ⟨e, rfl⟩ := hh
    cases e
    rw [hcc]
    show V x τ2 0 34 _ [aI (nI c)]
    refine V_run hB (rt := some .char) (nL := 2) (mc := 1) rfl rfl rfl (ops := [(34, .ireturn, 1, (0, 0, 0, 0, 0, 0), 0)]) (by decide +kernel) ?_
    dsimp only [↓wpb, ↓wp1, ↓vI, ↓vL, ↓vD, ↓ldI, ↓ldL, ↓ldD, ↓ldR, ↓k1, ↓k2, ↓kI, ↓kL, ↓kD, ↓kII, ↓kLL, ↓kDD, ↓kR, ↓kIR, ↓kLR, ↓kIIR, ↓kLIR, ↓kDIR, ↓kRIR, ↓kNN, ↓kE, ↓br, ↓bn, ↓rtI, ↓gfv, ↓zchk, lput, ldel, lbad, alA, acat, isRf, dom, dS, dJ, isO, aTy, aLen, elAV, elR, Nat.reduceBEq, Nat.reduceAdd, Bool.or, Bool.and, Nat.add_zero, Nat.zero_add]
    try simp only [Nat.reduceLT, Nat.reduceLeDiff, Nat.reduceEqDiff, true_and, and_true, and_self, Nat.zero_le, Nat.le_refl, true_or, or_true, Bool.false_eq_true, not_false_eq_true, Nat.reduceAdd, Nat.lt_add_one, Nat.zero_lt_one, nI_add, pk_mul, ixL, vpL, ne_eq, reduceIte, wI_sN, wL_sM, sN_same, sN_K, sN_2, sM_1, sM_same, sM_K, sM_s, uI_at, uN_at, enc_at, uI_enc, uI_uI, upM_s, upM_n]
    exact ⟨e2, rfl, h, fun _ _ => rfl⟩
theorem SlS.sh {τ' : Mem} {L : List Nat} {a π : Nat → Nat} (h : SlS τ τ' L) (hS : ShP τ 0 a π) : ShP τ' 0 a π := by obtain ⟨v, c, tt, rfl, -⟩ := h; exact hS
theorem x_writeSlip (hc : CtxE l G) (hSf : SlF G) (hC : CW τ σ) (hI : IV n σ.1) (hn : n ≤ 1000) (t : Int32) : Sat l G iX10_writeSlip [moM, aI t] τ (XOp [NSE] τ (sSlp σ t)) := by
  have hc0 := hc.1
  obtain ⟨π, hS⟩ := id hC.1
  have h10 := hI.1.1
  refine Sat_of hc0.1 hc0.2 (by decide +kernel) (Nat.le_of_ble_eq_true rfl) (fun x hB hno => ?_)
  refine V_run hB (rt := some .int) (nL := 3) (mc := 700) rfl rfl rfl (ops := [(0, .aload_n 0, 1, (0, 0, 0, 0, 0, 0), 0), (1, .getfield 12, 3, (1, 0, 2, 2, 0, 0), 0), (4, .iload_n 1, 1, (1, 0, 0, 0, 0, 0), 0)]) (by decide +kernel) ?_
  dsimp only [↓wpb, ↓wp1, ↓vI, ↓vL, ↓vD, ↓ldI, ↓ldL, ↓ldD, ↓ldR, ↓k1, ↓k2, ↓kI, ↓kL, ↓kD, ↓kII, ↓kLL, ↓kDD, ↓kR, ↓kIR, ↓kLR, ↓kIIR, ↓kLIR, ↓kDIR, ↓kRIR, ↓kNN, ↓kE, ↓br, ↓bn, ↓rtI, ↓gfv, ↓zchk, lput, ldel, lbad, alA, acat, isRf, dom, dS, dJ, isO, aTy, aLen, elAV, elR, Nat.reduceBEq, Nat.reduceAdd, Bool.or, Bool.and, Nat.add_zero, Nat.zero_add]
  try simp only [Nat.reduceLT, Nat.reduceLeDiff, Nat.reduceEqDiff, true_and, and_true, and_self, Nat.zero_le, Nat.le_refl, true_or, or_true, Bool.false_eq_true, not_false_eq_true, Nat.reduceAdd, Nat.lt_add_one, Nat.zero_lt_one, nI_add, pk_mul, ixL, vpL, ne_eq, reduceIte, wI_sN, wL_sM, sN_same, sN_K, sN_2, sM_1, sM_same, sM_K, sM_s, uI_at, uN_at, enc_at, uI_enc, uI_uI, upM_s, upM_n]
  refine V_req hB hno (c_requireItem hc0 hS h10 t) rfl (by decide +kernel) cvX10_154 (dom1 rfl) npX9_requireItem ⟨by decide, by decide⟩ (Nat.le_of_ble_eq_true rfl) (by decide) ?_ ?_
  rotate_left
  · intro ho
    have e : sSlp σ t = (1, 0, σ) := by unfold sSlp; rw [ho]
    rw [e]
    exact ⟨rfl, hC, fun _ _ => rfl⟩
  intro i ho
  have hi := find_lt ho
  have hi10 : i < 10 := by omega
  have e : sSlp σ t = (0, (slipL σ.1 i).length, (σ.1, σ.2.1, σ.2.2.1, σ.2.2.2.1, σ.2.2.2.2.1, slipL σ.1 i)) := by unfold sSlp; rw [ho]
  rw [e] at hB
  have b0 := (hI.1.2.2.1 i hi).1
  have b00 := hI.2.2.2.2.2.2.1
  have b00' := hI.2.2.2.2.1
  have b1 := (hI.1.2.1 i hi10).1
  have b3 := hI.min i hi10
  have b4 := (hI.1.2.1 i hi10).2.2.2.1
  have b5 := (hI.1.2.1 i hi10).2.2.2.2.1
  have b6 := (hI.1.2.1 i hi10).2.2.2.2.2.1
  have b7 := (hI.1.2.1 i hi10).2.2.2.2.2.2.1
  have d0 := dg5 (show it σ.1 i 0 < 100000 by omega)
  have d3 := dg5 (show it σ.1 i 3 < 100000 by omega)
  have d4 := dg5 (show it σ.1 i 4 < 100000 by omega)
  show V x τ 1 8 _ [.inr (5, 0, π i)]
  have ix : (nI i).toNatClampNeg = i := ixL (by omega)
  have vx : vp_in (nI i) 10 = True := vpL (by omega) (by omega)
  obtain ⟨hp, rp⟩ := hS.2.2.2.1 i (by omega)
  have ip : (nI (π i)).toNatClampNeg = π i := ixL (by omega)
  obtain ⟨⟨f0, f1, f2, f3, f4, f5, f6⟩, fb⟩ := hS.2.2.2.2.2 i (by omega)
  refine V_run hB (rt := some .int) (nL := 3) (mc := 700) rfl rfl rfl (ops := [(8, .astore_n 2, 1, (2, 0, 0, 0, 0, 0), 0), (9, .aload_n 0, 1, (0, 0, 0, 0, 0, 0), 0), (10, .getfield 54, 3, (1, 7, 2, 50, 0, 0), 0), (13, .iconst 0, 1, (0, 0, 0, 0, 0, 0), nI 0)]) (by decide +kernel) ?_
  dsimp only [↓wpb, ↓wp1, ↓vI, ↓vL, ↓vD, ↓ldI, ↓ldL, ↓ldD, ↓ldR, ↓k1, ↓k2, ↓kI, ↓kL, ↓kD, ↓kII, ↓kLL, ↓kDD, ↓kR, ↓kIR, ↓kLR, ↓kIIR, ↓kLIR, ↓kDIR, ↓kRIR, ↓kNN, ↓kE, ↓br, ↓bn, ↓rtI, ↓gfv, ↓zchk, lput, ldel, lbad, alA, acat, isRf, dom, dS, dJ, isO, aTy, aLen, elAV, elR, Nat.reduceBEq, Nat.reduceAdd, Bool.or, Bool.and, Nat.add_zero, Nat.zero_add]
  try simp only [Nat.reduceLT, Nat.reduceLeDiff, Nat.reduceEqDiff, true_and, and_true, and_self, Nat.zero_le, Nat.le_refl, true_or, or_true, Bool.false_eq_true, not_false_eq_true, Nat.reduceAdd, Nat.lt_add_one, Nat.zero_lt_one, nI_add, pk_mul, ixL, vpL, ne_eq, reduceIte, wI_sN, wL_sM, sN_same, sN_K, sN_2, sM_1, sM_same, sM_K, sM_s, uI_at, uN_at, enc_at, uI_enc, uI_uI, upM_s, upM_n, ix, vx, hp, rp, ip, f0, f1, f2, f3, f4, f5, f6]
  refine V_callSB hB hno (p_set0 hc hSf) rfl rfl (by decide +kernel) ck5X10_282 npJ4_setLength_d00df ⟨by decide, by decide⟩ (Nat.le_of_ble_eq_true rfl) (by decide) (fun w t0 hh => ?_) (fun E τ' hh => by cases hh.1)
  obtain ⟨e, v0, c0, tt0, e0⟩ := hh
  cases e
  have h0 : SlS τ t0 [] := ⟨v0, c0, tt0, e0, fun j c hj => by simp at hj⟩
  show V x t0 21 17 _ []
  refine V_run hB (rt := some .int) (nL := 3) (mc := 700) rfl rfl rfl (ops := [(17, .aload_n 0, 1, (0, 0, 0, 0, 0, 0), 0), (18, .getfield 54, 3, (1, 7, 2, 50, 0, 0), 0), (21, .bipush 35, 2, (0, 0, 0, 0, 0, 0), nI 35)]) (by decide +kernel) ?_
  dsimp only [↓wpb, ↓wp1, ↓vI, ↓vL, ↓vD, ↓ldI, ↓ldL, ↓ldD, ↓ldR, ↓k1, ↓k2, ↓kI, ↓kL, ↓kD, ↓kII, ↓kLL, ↓kDD, ↓kR, ↓kIR, ↓kLR, ↓kIIR, ↓kLIR, ↓kDIR, ↓kRIR, ↓kNN, ↓kE, ↓br, ↓bn, ↓rtI, ↓gfv, ↓zchk, lput, ldel, lbad, alA, acat, isRf, dom, dS, dJ, isO, aTy, aLen, elAV, elR, Nat.reduceBEq, Nat.reduceAdd, Bool.or, Bool.and, Nat.add_zero, Nat.zero_add]
  try simp only [Nat.reduceLT, Nat.reduceLeDiff, Nat.reduceEqDiff, true_and, and_true, and_self, Nat.zero_le, Nat.le_refl, true_or, or_true, Bool.false_eq_true, not_false_eq_true, Nat.reduceAdd, Nat.lt_add_one, Nat.zero_lt_one, nI_add, pk_mul, ixL, vpL, ne_eq, reduceIte, wI_sN, wL_sM, sN_same, sN_K, sN_2, sM_1, sM_same, sM_K, sM_s, uI_at, uN_at, enc_at, uI_enc, uI_uI, upM_s, upM_n]
  refine V_callSB hB hno (p_appC hc hSf (c := 35) (by decide) (by rw [h0.n]; decide)) rfl rfl (by decide +kernel) ck5X10_286 npJ4_append_cf468 ⟨by decide, by decide⟩ (Nat.le_of_ble_eq_true rfl) (by decide) (fun w t1 hh => ?_) (fun E τ' hh => by cases hh.1)
  obtain ⟨e, hh⟩ := hh
  cases e
  have h1 := h0.app hh
  have e1 := h1.e
  show V x t1 41 26 _ [sbM]
  refine V_run hB (rt := some .int) (nL := 3) (mc := 700) rfl rfl rfl (ops := [(26, .aload_n 2, 1, (2, 0, 0, 0, 0, 0), 0), (27, .getfield 142, 3, (5, 0, 0, 0, 0, 0), 0)]) (by decide +kernel) ?_
  dsimp only [↓wpb, ↓wp1, ↓vI, ↓vL, ↓vD, ↓ldI, ↓ldL, ↓ldD, ↓ldR, ↓k1, ↓k2, ↓kI, ↓kL, ↓kD, ↓kII, ↓kLL, ↓kDD, ↓kR, ↓kIR, ↓kLR, ↓kIIR, ↓kLIR, ↓kDIR, ↓kRIR, ↓kNN, ↓kE, ↓br, ↓bn, ↓rtI, ↓gfv, ↓zchk, lput, ldel, lbad, alA, acat, isRf, dom, dS, dJ, isO, aTy, aLen, elAV, elR, Nat.reduceBEq, Nat.reduceAdd, Bool.or, Bool.and, Nat.add_zero, Nat.zero_add]
  try simp only [Nat.reduceLT, Nat.reduceLeDiff, Nat.reduceEqDiff, true_and, and_true, and_self, Nat.zero_le, Nat.le_refl, true_or, or_true, Bool.false_eq_true, not_false_eq_true, Nat.reduceAdd, Nat.lt_add_one, Nat.zero_lt_one, nI_add, pk_mul, ixL, vpL, ne_eq, reduceIte, wI_sN, wL_sM, sN_same, sN_K, sN_2, sM_1, sM_same, sM_K, sM_s, uI_at, uN_at, enc_at, uI_enc, uI_uI, upM_s, upM_n, e1, ix, vx, hp, rp, ip, f0, f1, f2, f3, f4, f5, f6]
  refine V_callSB hB hno (p_appI hc hSf (w := it σ.1 i 0) (by omega) (by rw [h1.n]; show 1 + _ ≤ 99; omega)) rfl rfl (by decide +kernel) ck5X10_290 npJ4_append_bf812 ⟨by decide, by decide⟩ (Nat.le_of_ble_eq_true rfl) (by decide) (fun w t2 hh => ?_) (fun E τ' hh => by cases hh.1)
  obtain ⟨e, hh⟩ := hh
  cases e
  have h2 := h1.app hh
  have n2 : t2.2.2.2.2.1 = 1 + sb_dg (it σ.1 i 0) := by rw [h2.n, List.length_append, dgL_len5]; rfl
  show V x t2 61 33 _ [sbM]
  refine V_run hB (rt := some .int) (nL := 3) (mc := 700) rfl rfl rfl (ops := [(33, .pop, 1, (0, 0, 0, 0, 0, 0), 0), (34, .aload_n 0, 1, (0, 0, 0, 0, 0, 0), 0), (35, .getfield 54, 3, (1, 7, 2, 50, 0, 0), 0), (38, .bipush 32, 2, (0, 0, 0, 0, 0, 0), nI 32)]) (by decide +kernel) ?_
  dsimp only [↓wpb, ↓wp1, ↓vI, ↓vL, ↓vD, ↓ldI, ↓ldL, ↓ldD, ↓ldR, ↓k1, ↓k2, ↓kI, ↓kL, ↓kD, ↓kII, ↓kLL, ↓kDD, ↓kR, ↓kIR, ↓kLR, ↓kIIR, ↓kLIR, ↓kDIR, ↓kRIR, ↓kNN, ↓kE, ↓br, ↓bn, ↓rtI, ↓gfv, ↓zchk, lput, ldel, lbad, alA, acat, isRf, dom, dS, dJ, isO, aTy, aLen, elAV, elR, Nat.reduceBEq, Nat.reduceAdd, Bool.or, Bool.and, Nat.add_zero, Nat.zero_add]
  try simp only [Nat.reduceLT, Nat.reduceLeDiff, Nat.reduceEqDiff, true_and, and_true, and_self, Nat.zero_le, Nat.le_refl, true_or, or_true, Bool.false_eq_true, not_false_eq_true, Nat.reduceAdd, Nat.lt_add_one, Nat.zero_lt_one, nI_add, pk_mul, ixL, vpL, ne_eq, reduceIte, wI_sN, wL_sM, sN_same, sN_K, sN_2, sM_1, sM_same, sM_K, sM_s, uI_at, uN_at, enc_at, uI_enc, uI_uI, upM_s, upM_n]
  refine V_callSB hB hno (p_appC hc hSf (c := 32) (by decide) (by rw [n2]; omega)) rfl rfl (by decide +kernel) ck5X10_286 npJ4_append_cf468 ⟨by decide, by decide⟩ (Nat.le_of_ble_eq_true rfl) (by decide) (fun w t3 hh => ?_) (fun E τ' hh => by cases hh.1)
  obtain ⟨e, hh⟩ := hh
  cases e
  have h3 := h2.app hh
  have e3 := h3.e
  have n3 : t3.2.2.2.2.1 = 1 + sb_dg (it σ.1 i 0) + 1 := by rw [h3.n, List.length_append, ← h2.n, n2]; rfl
  show V x t3 81 43 _ [sbM]
  refine V_run hB (rt := some .int) (nL := 3) (mc := 700) rfl rfl rfl (ops := [(43, .aload_n 2, 1, (2, 0, 0, 0, 0, 0), 0), (44, .getfield 157, 3, (5, 2, 0, 0, 0, 0), 0)]) (by decide +kernel) ?_
  dsimp only [↓wpb, ↓wp1, ↓vI, ↓vL, ↓vD, ↓ldI, ↓ldL, ↓ldD, ↓ldR, ↓k1, ↓k2, ↓kI, ↓kL, ↓kD, ↓kII, ↓kLL, ↓kDD, ↓kR, ↓kIR, ↓kLR, ↓kIIR, ↓kLIR, ↓kDIR, ↓kRIR, ↓kNN, ↓kE, ↓br, ↓bn, ↓rtI, ↓gfv, ↓zchk, lput, ldel, lbad, alA, acat, isRf, dom, dS, dJ, isO, aTy, aLen, elAV, elR, Nat.reduceBEq, Nat.reduceAdd, Bool.or, Bool.and, Nat.add_zero, Nat.zero_add]
  try simp only [Nat.reduceLT, Nat.reduceLeDiff, Nat.reduceEqDiff, true_and, and_true, and_self, Nat.zero_le, Nat.le_refl, true_or, or_true, Bool.false_eq_true, not_false_eq_true, Nat.reduceAdd, Nat.lt_add_one, Nat.zero_lt_one, nI_add, pk_mul, ixL, vpL, ne_eq, reduceIte, wI_sN, wL_sM, sN_same, sN_K, sN_2, sM_1, sM_same, sM_K, sM_s, uI_at, uN_at, enc_at, uI_enc, uI_uI, upM_s, upM_n, e3, ix, vx, hp, rp, ip, f0, f1, f2, f3, f4, f5, f6]
  refine V_callSB hB hno (p_appI hc hSf (w := it σ.1 i 3) (by omega) (by rw [n3]; omega)) rfl rfl (by decide +kernel) ck5X10_290 npJ4_append_bf812 ⟨by decide, by decide⟩ (Nat.le_of_ble_eq_true rfl) (by decide) (fun w t4 hh => ?_) (fun E τ' hh => by cases hh.1)
  obtain ⟨e, hh⟩ := hh
  cases e
  have h4 := h3.app hh
  have n4 : t4.2.2.2.2.1 = 1 + sb_dg (it σ.1 i 0) + 1 + sb_dg (it σ.1 i 3) := by rw [h4.n, List.length_append, ← h3.n, n3, dgL_len5]
  show V x t4 101 50 _ [sbM]
  refine V_ldcw hB hSf (k := 0) (by decide) rfl (by decide +kernel) ?_
  refine V_callSB hB hno (p_appS hc hSf (k := 0) (by decide) (by rw [n4]; show _ + 3 ≤ 99; omega)) rfl rfl (by decide +kernel) ck5X10_295 npJ4_append_15ec4 ⟨by decide, by decide⟩ (Nat.le_of_ble_eq_true rfl) (by decide) (fun w t5 hh => ?_) (fun E τ' hh => by cases hh.1)
  obtain ⟨e, hh⟩ := hh
  cases e
  have h5 := h4.app hh
  have n5 : t5.2.2.2.2.1 = 1 + sb_dg (it σ.1 i 0) + 1 + sb_dg (it σ.1 i 3) + 3 := by rw [h5.n, List.length_append, ← h4.n, n4]; rfl
  show V x t5 121 56 _ [sbM]
  refine V_run hB (rt := some .int) (nL := 3) (mc := 700) rfl rfl rfl (ops := [(56, .pop, 1, (0, 0, 0, 0, 0, 0), 0), (57, .aload_n 0, 1, (0, 0, 0, 0, 0, 0), 0), (58, .getfield 54, 3, (1, 7, 2, 50, 0, 0), 0), (61, .bipush 32, 2, (0, 0, 0, 0, 0, 0), nI 32)]) (by decide +kernel) ?_
  dsimp only [↓wpb, ↓wp1, ↓vI, ↓vL, ↓vD, ↓ldI, ↓ldL, ↓ldD, ↓ldR, ↓k1, ↓k2, ↓kI, ↓kL, ↓kD, ↓kII, ↓kLL, ↓kDD, ↓kR, ↓kIR, ↓kLR, ↓kIIR, ↓kLIR, ↓kDIR, ↓kRIR, ↓kNN, ↓kE, ↓br, ↓bn, ↓rtI, ↓gfv, ↓zchk, lput, ldel, lbad, alA, acat, isRf, dom, dS, dJ, isO, aTy, aLen, elAV, elR, Nat.reduceBEq, Nat.reduceAdd, Bool.or, Bool.and, Nat.add_zero, Nat.zero_add]
  try simp only [Nat.reduceLT, Nat.reduceLeDiff, Nat.reduceEqDiff, true_and, and_true, and_self, Nat.zero_le, Nat.le_refl, true_or, or_true, Bool.false_eq_true, not_false_eq_true, Nat.reduceAdd, Nat.lt_add_one, Nat.zero_lt_one, nI_add, pk_mul, ixL, vpL, ne_eq, reduceIte, wI_sN, wL_sM, sN_same, sN_K, sN_2, sM_1, sM_same, sM_K, sM_s, uI_at, uN_at, enc_at, uI_enc, uI_uI, upM_s, upM_n]
  refine V_callSB hB hno (p_appC hc hSf (c := 32) (by decide) (by rw [n5]; omega)) rfl rfl (by decide +kernel) ck5X10_286 npJ4_append_cf468 ⟨by decide, by decide⟩ (Nat.le_of_ble_eq_true rfl) (by decide) (fun w t6 hh => ?_) (fun E τ' hh => by cases hh.1)
  obtain ⟨e, hh⟩ := hh
  cases e
  have h6 := h5.app hh
  have e6 := h6.e
  have n6 : t6.2.2.2.2.1 = 1 + sb_dg (it σ.1 i 0) + 1 + sb_dg (it σ.1 i 3) + 3 + 1 := by rw [h6.n, List.length_append, ← h5.n, n5]; rfl
  show V x t6 141 66 _ [sbM]
  refine V_run hB (rt := some .int) (nL := 3) (mc := 700) rfl rfl rfl (ops := [(66, .aload_n 2, 1, (2, 0, 0, 0, 0, 0), 0), (67, .getfield 160, 3, (5, 3, 0, 0, 0, 0), 0)]) (by decide +kernel) ?_
  dsimp only [↓wpb, ↓wp1, ↓vI, ↓vL, ↓vD, ↓ldI, ↓ldL, ↓ldD, ↓ldR, ↓k1, ↓k2, ↓kI, ↓kL, ↓kD, ↓kII, ↓kLL, ↓kDD, ↓kR, ↓kIR, ↓kLR, ↓kIIR, ↓kLIR, ↓kDIR, ↓kRIR, ↓kNN, ↓kE, ↓br, ↓bn, ↓rtI, ↓gfv, ↓zchk, lput, ldel, lbad, alA, acat, isRf, dom, dS, dJ, isO, aTy, aLen, elAV, elR, Nat.reduceBEq, Nat.reduceAdd, Bool.or, Bool.and, Nat.add_zero, Nat.zero_add]
  try simp only [Nat.reduceLT, Nat.reduceLeDiff, Nat.reduceEqDiff, true_and, and_true, and_self, Nat.zero_le, Nat.le_refl, true_or, or_true, Bool.false_eq_true, not_false_eq_true, Nat.reduceAdd, Nat.lt_add_one, Nat.zero_lt_one, nI_add, pk_mul, ixL, vpL, ne_eq, reduceIte, wI_sN, wL_sM, sN_same, sN_K, sN_2, sM_1, sM_same, sM_K, sM_s, uI_at, uN_at, enc_at, uI_enc, uI_uI, upM_s, upM_n, e6, ix, vx, hp, rp, ip, f0, f1, f2, f3, f4, f5, f6]
  refine V_callSB hB hno (p_appI hc hSf (w := it σ.1 i 4) (by omega) (by rw [n6]; omega)) rfl rfl (by decide +kernel) ck5X10_290 npJ4_append_bf812 ⟨by decide, by decide⟩ (Nat.le_of_ble_eq_true rfl) (by decide) (fun w t7 hh => ?_) (fun E τ' hh => by cases hh.1)
  obtain ⟨e, hh⟩ := hh
  cases e
  have h7 := h6.app hh
  have n7 : t7.2.2.2.2.1 = 1 + sb_dg (it σ.1 i 0) + 1 + sb_dg (it σ.1 i 3) + 3 + 1 + sb_dg (it σ.1 i 4) := by rw [h7.n, List.length_append, ← h6.n, n6, dgL_len5]
  show V x t7 161 73 _ [sbM]
  refine V_run hB (rt := some .int) (nL := 3) (mc := 700) rfl rfl rfl (ops := [(73, .bipush 99, 2, (0, 0, 0, 0, 0, 0), nI 99)]) (by decide +kernel) ?_
  dsimp only [↓wpb, ↓wp1, ↓vI, ↓vL, ↓vD, ↓ldI, ↓ldL, ↓ldD, ↓ldR, ↓k1, ↓k2, ↓kI, ↓kL, ↓kD, ↓kII, ↓kLL, ↓kDD, ↓kR, ↓kIR, ↓kLR, ↓kIIR, ↓kLIR, ↓kDIR, ↓kRIR, ↓kNN, ↓kE, ↓br, ↓bn, ↓rtI, ↓gfv, ↓zchk, lput, ldel, lbad, alA, acat, isRf, dom, dS, dJ, isO, aTy, aLen, elAV, elR, Nat.reduceBEq, Nat.reduceAdd, Bool.or, Bool.and, Nat.add_zero, Nat.zero_add]
  try simp only [Nat.reduceLT, Nat.reduceLeDiff, Nat.reduceEqDiff, true_and, and_true, and_self, Nat.zero_le, Nat.le_refl, true_or, or_true, Bool.false_eq_true, not_false_eq_true, Nat.reduceAdd, Nat.lt_add_one, Nat.zero_lt_one, nI_add, pk_mul, ixL, vpL, ne_eq, reduceIte, wI_sN, wL_sM, sN_same, sN_K, sN_2, sM_1, sM_same, sM_K, sM_s, uI_at, uN_at, enc_at, uI_enc, uI_uI, upM_s, upM_n]
  refine V_callSB hB hno (p_appC hc hSf (c := 99) (by decide) (by rw [n7]; omega)) rfl rfl (by decide +kernel) ck5X10_286 npJ4_append_cf468 ⟨by decide, by decide⟩ (Nat.le_of_ble_eq_true rfl) (by decide) (fun w t8 hh => ?_) (fun E τ' hh => by cases hh.1)
  obtain ⟨e, hh⟩ := hh
  cases e
  have h8 := h7.app hh
  have e8 := h8.e
  have n8 : t8.2.2.2.2.1 = 1 + sb_dg (it σ.1 i 0) + 1 + sb_dg (it σ.1 i 3) + 3 + 1 + sb_dg (it σ.1 i 4) + 1 := by rw [h8.n, List.length_append, ← h7.n, n7]; rfl
  obtain ⟨L8, eL⟩ : ∃ L8, L8 = [] ++ [35] ++ dgL (it σ.1 i 0) ++ [32] ++ dgL (it σ.1 i 3) ++ slT 0 ++ [32] ++ dgL (it σ.1 i 4) ++ [99] := ⟨_, rfl⟩
  rw [← eL] at h8
  have l8 : L8.length ≤ 22 := by
    rw [← h8.n, n8]
    omega
  have fin : ∀ t9 nn, nn ≤ 700 → SlS τ t9 (slipL σ.1 i) → V x t9 nn 99 [(0, moM), (1, aI t), (2, .inr (5, 0, π i))] [] := by
    intro t9 nn hnn h9
    refine V_run hB (rt := some .int) (nL := 3) (mc := 700) rfl rfl rfl (ops := [(99, .aload_n 0, 1, (0, 0, 0, 0, 0, 0), 0), (100, .getfield 54, 3, (1, 7, 2, 50, 0, 0), 0)]) (by decide +kernel) ?_
    dsimp only [↓wpb, ↓wp1, ↓vI, ↓vL, ↓vD, ↓ldI, ↓ldL, ↓ldD, ↓ldR, ↓k1, ↓k2, ↓kI, ↓kL, ↓kD, ↓kII, ↓kLL, ↓kDD, ↓kR, ↓kIR, ↓kLR, ↓kIIR, ↓kLIR, ↓kDIR, ↓kRIR, ↓kNN, ↓kE, ↓br, ↓bn, ↓rtI, ↓gfv, ↓zchk, lput, ldel, lbad, alA, acat, isRf, dom, dS, dJ, isO, aTy, aLen, elAV, elR, Nat.reduceBEq, Nat.reduceAdd, Bool.or, Bool.and, Nat.add_zero, Nat.zero_add]
    try simp only [Nat.reduceLT, Nat.reduceLeDiff, Nat.reduceEqDiff, true_and, and_true, and_self, Nat.zero_le, Nat.le_refl, true_or, or_true, Bool.false_eq_true, not_false_eq_true, Nat.reduceAdd, Nat.lt_add_one, Nat.zero_lt_one, nI_add, pk_mul, ixL, vpL, ne_eq, reduceIte, wI_sN, wL_sM, sN_same, sN_K, sN_2, sM_1, sM_same, sM_K, sM_s, uI_at, uN_at, enc_at, uI_enc, uI_uI, upM_s, upM_n]
    refine V_callSB hB hno (p_len hc) rfl rfl (by decide +kernel) ck5X10_308 npJ4_length_8abf5 ⟨by decide, by decide⟩ (Nat.le_of_ble_eq_true rfl) hnn (fun w t10 hh => ?_) (fun E τ' hh => by cases hh.1)
    obtain ⟨e, rfl⟩ := hh
    cases e
    rw [h9.n]
    show V x t10 nn 106 _ [aI (nI (slipL σ.1 i).length)]
    refine V_run hB (rt := some .int) (nL := 3) (mc := 700) rfl rfl rfl (ops := [(106, .ireturn, 1, (0, 0, 0, 0, 0, 0), 0)]) (by decide +kernel) ?_
    dsimp only [↓wpb, ↓wp1, ↓vI, ↓vL, ↓vD, ↓ldI, ↓ldL, ↓ldD, ↓ldR, ↓k1, ↓k2, ↓kI, ↓kL, ↓kD, ↓kII, ↓kLL, ↓kDD, ↓kR, ↓kIR, ↓kLR, ↓kIIR, ↓kLIR, ↓kDIR, ↓kRIR, ↓kNN, ↓kE, ↓br, ↓bn, ↓rtI, ↓gfv, ↓zchk, lput, ldel, lbad, alA, acat, isRf, dom, dS, dJ, isO, aTy, aLen, elAV, elR, Nat.reduceBEq, Nat.reduceAdd, Bool.or, Bool.and, Nat.add_zero, Nat.zero_add]
    try simp only [Nat.reduceLT, Nat.reduceLeDiff, Nat.reduceEqDiff, true_and, and_true, and_self, Nat.zero_le, Nat.le_refl, true_or, or_true, Bool.false_eq_true, not_false_eq_true, Nat.reduceAdd, Nat.lt_add_one, Nat.zero_lt_one, nI_add, pk_mul, ixL, vpL, ne_eq, reduceIte, wI_sN, wL_sM, sN_same, sN_K, sN_2, sM_1, sM_same, sM_K, sM_s, uI_at, uN_at, enc_at, uI_enc, uI_uI, upM_s, upM_n]
    obtain ⟨v, c, tt, rfl, hq⟩ := h9
    exact ⟨hnn, rfl, ⟨hC.1, hC.2.1, hC.2.2.1, hC.2.2.2.1, hC.2.2.2.2.1, rfl, hq⟩, fun _ _ => rfl⟩
  show V x t8 181 78 _ [sbM]
  refine V_run hB (rt := some .int) (nL := 3) (mc := 700) rfl rfl rfl (ops := [(78, .pop, 1, (0, 0, 0, 0, 0, 0), 0), (79, .aload_n 2, 1, (2, 0, 0, 0, 0, 0), 0), (80, .getfield 298, 3, (5, 6, 0, 0, 0, 0), 0), (83, .ifCond .eq 11, 3, (94, 0, 0, 0, 0, 0), 0)]) (by decide +kernel) ?_
  dsimp only [↓wpb, ↓wp1, ↓vI, ↓vL, ↓vD, ↓ldI, ↓ldL, ↓ldD, ↓ldR, ↓k1, ↓k2, ↓kI, ↓kL, ↓kD, ↓kII, ↓kLL, ↓kDD, ↓kR, ↓kIR, ↓kLR, ↓kIIR, ↓kLIR, ↓kDIR, ↓kRIR, ↓kNN, ↓kE, ↓br, ↓bn, ↓rtI, ↓gfv, ↓zchk, lput, ldel, lbad, alA, acat, isRf, dom, dS, dJ, isO, aTy, aLen, elAV, elR, Nat.reduceBEq, Nat.reduceAdd, Bool.or, Bool.and, Nat.add_zero, Nat.zero_add]
  try simp only [Nat.reduceLT, Nat.reduceLeDiff, Nat.reduceEqDiff, true_and, and_true, and_self, Nat.zero_le, Nat.le_refl, true_or, or_true, Bool.false_eq_true, not_false_eq_true, Nat.reduceAdd, Nat.lt_add_one, Nat.zero_lt_one, nI_add, pk_mul, ixL, vpL, ne_eq, reduceIte, wI_sN, wL_sM, sN_same, sN_K, sN_2, sM_1, sM_same, sM_K, sM_s, uI_at, uN_at, enc_at, uI_enc, uI_uI, upM_s, upM_n, e8, ix, vx, hp, rp, ip, f0, f1, f2, f3, f4, f5, f6]
  have hlt := lot_0 b1
  refine ⟨fun q => ?_, fun q => ?_⟩
  · have hf := hlt.mp q
    refine V_run hB (rt := some .int) (nL := 3) (mc := 700) rfl rfl rfl (ops := [(94, .aload_n 0, 1, (0, 0, 0, 0, 0, 0), 0), (95, .aload_n 2, 1, (2, 0, 0, 0, 0, 0), 0)]) (by decide +kernel) ?_
    dsimp only [↓wpb, ↓wp1, ↓vI, ↓vL, ↓vD, ↓ldI, ↓ldL, ↓ldD, ↓ldR, ↓k1, ↓k2, ↓kI, ↓kL, ↓kD, ↓kII, ↓kLL, ↓kDD, ↓kR, ↓kIR, ↓kLR, ↓kIIR, ↓kLIR, ↓kDIR, ↓kRIR, ↓kNN, ↓kE, ↓br, ↓bn, ↓rtI, ↓gfv, ↓zchk, lput, ldel, lbad, alA, acat, isRf, dom, dS, dJ, isO, aTy, aLen, elAV, elR, Nat.reduceBEq, Nat.reduceAdd, Bool.or, Bool.and, Nat.add_zero, Nat.zero_add]
    try simp only [Nat.reduceLT, Nat.reduceLeDiff, Nat.reduceEqDiff, true_and, and_true, and_self, Nat.zero_le, Nat.le_refl, true_or, or_true, Bool.false_eq_true, not_false_eq_true, Nat.reduceAdd, Nat.lt_add_one, Nat.zero_lt_one, nI_add, pk_mul, ixL, vpL, ne_eq, reduceIte, wI_sN, wL_sM, sN_same, sN_K, sN_2, sM_1, sM_same, sM_K, sM_s, uI_at, uN_at, enc_at, uI_enc, uI_uI, upM_s, upM_n]
    refine V_callV hB hno (x_dueDay hc hSf (h8.sh hS) h10 hi h8.rf (by omega) (by omega) (by omega)) rfl (by decide +kernel) cvX10_305 (dom1 rfl) npX10_appendDueDay ⟨by decide, by decide⟩ (Nat.le_of_ble_eq_true rfl) (by decide) (fun w t9 hh => ?_) (fun E τ' hh => by cases hh.1)
    obtain ⟨e, hh⟩ := hh
    cases e
    refine fin t9 (181 + 60) (by decide) ?_
    have h9 := h8.tr hh
    have es : slipL σ.1 i = L8 ++ ([32, 98, 121, 32] ++ dgL (it σ.1 i 6) ++ (if it σ.1 i 6 = σ.1 0 then [63] else [])) := by
      unfold slipL
      rw [hf, if_neg (by decide), eL]
      simp only [slT, List.append_assoc, List.cons_append, List.nil_append]
    rw [es]
    exact h9
  · have hf : isLot σ.1 i = true := by
      cases hb : isLot σ.1 i with
      | true => rfl
      | false => exact absurd (hlt.mpr hb) q
    have h1l : it σ.1 i 1 = 1 := by
      unfold isLot at hf
      exact eq_of_beq hf
    refine V_run hB (rt := some .int) (nL := 3) (mc := 700) rfl rfl rfl (ops := [(86, .aload_n 0, 1, (0, 0, 0, 0, 0, 0), 0), (87, .aload_n 2, 1, (2, 0, 0, 0, 0, 0), 0)]) (by decide +kernel) ?_
    dsimp only [↓wpb, ↓wp1, ↓vI, ↓vL, ↓vD, ↓ldI, ↓ldL, ↓ldD, ↓ldR, ↓k1, ↓k2, ↓kI, ↓kL, ↓kD, ↓kII, ↓kLL, ↓kDD, ↓kR, ↓kIR, ↓kLR, ↓kIIR, ↓kLIR, ↓kDIR, ↓kRIR, ↓kNN, ↓kE, ↓br, ↓bn, ↓rtI, ↓gfv, ↓zchk, lput, ldel, lbad, alA, acat, isRf, dom, dS, dJ, isO, aTy, aLen, elAV, elR, Nat.reduceBEq, Nat.reduceAdd, Bool.or, Bool.and, Nat.add_zero, Nat.zero_add]
    try simp only [Nat.reduceLT, Nat.reduceLeDiff, Nat.reduceEqDiff, true_and, and_true, and_self, Nat.zero_le, Nat.le_refl, true_or, or_true, Bool.false_eq_true, not_false_eq_true, Nat.reduceAdd, Nat.lt_add_one, Nat.zero_lt_one, nI_add, pk_mul, ixL, vpL, ne_eq, reduceIte, wI_sN, wL_sM, sN_same, sN_K, sN_2, sM_1, sM_same, sM_K, sM_s, uI_at, uN_at, enc_at, uI_enc, uI_uI, upM_s, upM_n]
    refine V_callV hB hno (x_bids hc hSf (h8.sh hS) h10 hi h1l b7 h8.rf (by omega)) rfl (by decide +kernel) cvX10_301 (dom1 rfl) npX10_appendBids ⟨by decide, by decide⟩ (Nat.le_of_ble_eq_true rfl) (by decide) (fun w t9 hh => ?_) (fun E τ' hh => by cases hh.1)
    obtain ⟨e, hh⟩ := hh
    cases e
    show V x t9 (181 + 450) 91 _ []
    refine V_run hB (rt := some .int) (nL := 3) (mc := 700) rfl rfl rfl (ops := [(91, .goto 8, 3, (99, 0, 0, 0, 0, 0), 0)]) (by decide +kernel) ?_
    dsimp only [↓wpb, ↓wp1, ↓vI, ↓vL, ↓vD, ↓ldI, ↓ldL, ↓ldD, ↓ldR, ↓k1, ↓k2, ↓kI, ↓kL, ↓kD, ↓kII, ↓kLL, ↓kDD, ↓kR, ↓kIR, ↓kLR, ↓kIIR, ↓kLIR, ↓kDIR, ↓kRIR, ↓kNN, ↓kE, ↓br, ↓bn, ↓rtI, ↓gfv, ↓zchk, lput, ldel, lbad, alA, acat, isRf, dom, dS, dJ, isO, aTy, aLen, elAV, elR, Nat.reduceBEq, Nat.reduceAdd, Bool.or, Bool.and, Nat.add_zero, Nat.zero_add]
    try simp only [Nat.reduceLT, Nat.reduceLeDiff, Nat.reduceEqDiff, true_and, and_true, and_self, Nat.zero_le, Nat.le_refl, true_or, or_true, Bool.false_eq_true, not_false_eq_true, Nat.reduceAdd, Nat.lt_add_one, Nat.zero_lt_one, nI_add, pk_mul, ixL, vpL, ne_eq, reduceIte, wI_sN, wL_sM, sN_same, sN_K, sN_2, sM_1, sM_same, sM_K, sM_s, uI_at, uN_at, enc_at, uI_enc, uI_uI, upM_s, upM_n]
    refine fin t9 (181 + 450) (by decide) ?_
    have h9 := h8.tr hh
    have es : slipL σ.1 i = L8 ++ ([32, 108, 111, 116] ++ bidsL σ.1 i 5) := by
      unfold slipL
      rw [hf, if_pos rfl, eL]
      simp only [slT, List.append_assoc, List.cons_append, List.nil_append]
    rw [es]
    exact h9
end WS
