/-! ===== the class: accounts and items ===== -/
theorem ring1 (x1 x2 x3 x4 y z : Int32) (h : nI 2000 - x1 + x2 + x3 + x4 = y) : nI 2000 - (x1 + z) + x2 + x3 + x4 = y - z := by rw [← h]; grind
theorem ring2 (x1 x2 x3 x4 y z : Int32) (h : nI 2000 - x1 + x2 + x3 + x4 = y) : nI 2000 - x1 + (x2 + z) + x3 + x4 = y + z := by rw [← h]; grind
theorem ring3 (x1 x2 x3 x4 y z : Int32) (h : nI 2000 - x1 + x2 + x3 + x4 = y) : nI 2000 - x1 + x2 + (x3 + z) + x4 = y + z := by rw [← h]; grind
theorem ring4 (x1 x2 x3 x4 y z : Int32) (h : nI 2000 - x1 + x2 + x3 + x4 = y) : nI 2000 - x1 + x2 + x3 + (x4 + z) = y + z := by rw [← h]; grind
section C2
variable {l : Launch} {G : GG}
theorem c_acCopy (hc : Ctx l G) (τ : Mem) {s s' : Nat} (hs : s < 11) (hs' : s' < 11) (hne : s' ≠ s) : Sat l G iX1_copyFrom [.inr (4, s, 0), .inr (4, s', 0)] τ (voidP (fun τ' => Same (fun nm => nm = (4, s, 0)) τ τ' ∧ (∀ k, k < 9 → k ≠ 5 → τ'.1 (4, s, 0) k = τ.1 (4, s', 0) k) ∧ τ'.2.1 (4, s, 0) 5 = τ.2.1 (4, s', 0) 5)) := by
  have n1 : ∀ (t : Mem) f, (sN t (4, s, 0) f).1 (4, s', 0) = t.1 (4, s', 0) := fun t f => sN_ne (fun e => hne (by injection e with e1 e2; injection e2 with e3 e4))
  have n2 : ∀ (t : Mem) g, (sM t (4, s, 0) g).2.1 (4, s', 0) = t.2.1 (4, s', 0) := fun t g => by
    show (if (4, s', 0) = (4, s, 0) then g else t.2.1 (4, s', 0)) = _
    rw [if_neg (fun e => hne (by injection e with e1 e2; injection e2 with e3 e4))]
  refine Sat_of hc.1 hc.2 (by decide +kernel) (Nat.le_of_ble_eq_true rfl) (fun x hB hno => ?_)
  refine V_run hB (rt := none) (nL := 2) (mc := 0) rfl rfl rfl (ops := [(0, .aload_n 0, 1, (0, 0, 0, 0, 0, 0), 0), (1, .aload_n 1, 1, (1, 0, 0, 0, 0, 0), 0), (2, .getfield 9, 3, (4, 0, 0, 0, 0, 0), 0), (5, .putfield 9, 3, (4, 0, 0, 0, 0, 0), 0)]) (by decide +kernel) ?_
  dsimp only [↓wpb, ↓wp1, ↓vI, ↓vL, ↓vD, ↓ldI, ↓ldL, ↓ldD, ↓ldR, ↓k1, ↓k2, ↓kI, ↓kL, ↓kD, ↓kII, ↓kLL, ↓kDD, ↓kR, ↓kIR, ↓kLR, ↓kIIR, ↓kLIR, ↓kDIR, ↓kRIR, ↓kNN, ↓kE, ↓br, ↓bn, ↓rtI, ↓gfv, ↓zchk, lput, ldel, lbad, alA, acat, isRf, dom, dS, dJ, isO, aTy, aLen, elAV, elR, Nat.reduceBEq, Nat.reduceAdd, Bool.or, Bool.and, Nat.add_zero, Nat.zero_add]
  try simp only [Nat.reduceLT, Nat.reduceLeDiff, Nat.reduceEqDiff, true_and, and_true, and_self, Nat.zero_le, Nat.le_refl, true_or, or_true, Bool.false_eq_true, not_false_eq_true, Nat.reduceAdd, Nat.lt_add_one, Nat.zero_lt_one, nI_add, pk_mul, ixL, vpL, ne_eq, reduceIte, wI_sN, wL_sM, sN_same, sN_K, sN_2, sM_1, sM_same, sM_K, sM_s, uI_at, uN_at, enc_at, uI_enc, uI_uI, upM_s, upM_n, hs, hs', n1, n2, sN_sN]
  refine V_run hB (rt := none) (nL := 2) (mc := 0) rfl rfl rfl (ops := [(8, .aload_n 0, 1, (0, 0, 0, 0, 0, 0), 0), (9, .aload_n 1, 1, (1, 0, 0, 0, 0, 0), 0), (10, .getfield 15, 3, (4, 1, 0, 0, 0, 0), 0), (13, .putfield 15, 3, (4, 1, 0, 0, 0, 0), 0)]) (by decide +kernel) ?_
  dsimp only [↓wpb, ↓wp1, ↓vI, ↓vL, ↓vD, ↓ldI, ↓ldL, ↓ldD, ↓ldR, ↓k1, ↓k2, ↓kI, ↓kL, ↓kD, ↓kII, ↓kLL, ↓kDD, ↓kR, ↓kIR, ↓kLR, ↓kIIR, ↓kLIR, ↓kDIR, ↓kRIR, ↓kNN, ↓kE, ↓br, ↓bn, ↓rtI, ↓gfv, ↓zchk, lput, ldel, lbad, alA, acat, isRf, dom, dS, dJ, isO, aTy, aLen, elAV, elR, Nat.reduceBEq, Nat.reduceAdd, Bool.or, Bool.and, Nat.add_zero, Nat.zero_add]
  try simp only [Nat.reduceLT, Nat.reduceLeDiff, Nat.reduceEqDiff, true_and, and_true, and_self, Nat.zero_le, Nat.le_refl, true_or, or_true, Bool.false_eq_true, not_false_eq_true, Nat.reduceAdd, Nat.lt_add_one, Nat.zero_lt_one, nI_add, pk_mul, ixL, vpL, ne_eq, reduceIte, wI_sN, wL_sM, sN_same, sN_K, sN_2, sM_1, sM_same, sM_K, sM_s, uI_at, uN_at, enc_at, uI_enc, uI_uI, upM_s, upM_n, hs, hs', n1, n2, sN_sN]
  refine V_run hB (rt := none) (nL := 2) (mc := 0) rfl rfl rfl (ops := [(16, .aload_n 0, 1, (0, 0, 0, 0, 0, 0), 0), (17, .aload_n 1, 1, (1, 0, 0, 0, 0, 0), 0), (18, .getfield 18, 3, (4, 2, 0, 0, 0, 0), 0), (21, .putfield 18, 3, (4, 2, 0, 0, 0, 0), 0)]) (by decide +kernel) ?_
  dsimp only [↓wpb, ↓wp1, ↓vI, ↓vL, ↓vD, ↓ldI, ↓ldL, ↓ldD, ↓ldR, ↓k1, ↓k2, ↓kI, ↓kL, ↓kD, ↓kII, ↓kLL, ↓kDD, ↓kR, ↓kIR, ↓kLR, ↓kIIR, ↓kLIR, ↓kDIR, ↓kRIR, ↓kNN, ↓kE, ↓br, ↓bn, ↓rtI, ↓gfv, ↓zchk, lput, ldel, lbad, alA, acat, isRf, dom, dS, dJ, isO, aTy, aLen, elAV, elR, Nat.reduceBEq, Nat.reduceAdd, Bool.or, Bool.and, Nat.add_zero, Nat.zero_add]
  try simp only [Nat.reduceLT, Nat.reduceLeDiff, Nat.reduceEqDiff, true_and, and_true, and_self, Nat.zero_le, Nat.le_refl, true_or, or_true, Bool.false_eq_true, not_false_eq_true, Nat.reduceAdd, Nat.lt_add_one, Nat.zero_lt_one, nI_add, pk_mul, ixL, vpL, ne_eq, reduceIte, wI_sN, wL_sM, sN_same, sN_K, sN_2, sM_1, sM_same, sM_K, sM_s, uI_at, uN_at, enc_at, uI_enc, uI_uI, upM_s, upM_n, hs, hs', n1, n2, sN_sN]
  refine V_run hB (rt := none) (nL := 2) (mc := 0) rfl rfl rfl (ops := [(24, .aload_n 0, 1, (0, 0, 0, 0, 0, 0), 0), (25, .aload_n 1, 1, (1, 0, 0, 0, 0, 0), 0), (26, .getfield 21, 3, (4, 3, 0, 0, 0, 0), 0), (29, .putfield 21, 3, (4, 3, 0, 0, 0, 0), 0)]) (by decide +kernel) ?_
  dsimp only [↓wpb, ↓wp1, ↓vI, ↓vL, ↓vD, ↓ldI, ↓ldL, ↓ldD, ↓ldR, ↓k1, ↓k2, ↓kI, ↓kL, ↓kD, ↓kII, ↓kLL, ↓kDD, ↓kR, ↓kIR, ↓kLR, ↓kIIR, ↓kLIR, ↓kDIR, ↓kRIR, ↓kNN, ↓kE, ↓br, ↓bn, ↓rtI, ↓gfv, ↓zchk, lput, ldel, lbad, alA, acat, isRf, dom, dS, dJ, isO, aTy, aLen, elAV, elR, Nat.reduceBEq, Nat.reduceAdd, Bool.or, Bool.and, Nat.add_zero, Nat.zero_add]
  try simp only [Nat.reduceLT, Nat.reduceLeDiff, Nat.reduceEqDiff, true_and, and_true, and_self, Nat.zero_le, Nat.le_refl, true_or, or_true, Bool.false_eq_true, not_false_eq_true, Nat.reduceAdd, Nat.lt_add_one, Nat.zero_lt_one, nI_add, pk_mul, ixL, vpL, ne_eq, reduceIte, wI_sN, wL_sM, sN_same, sN_K, sN_2, sM_1, sM_same, sM_K, sM_s, uI_at, uN_at, enc_at, uI_enc, uI_uI, upM_s, upM_n, hs, hs', n1, n2, sN_sN]
  refine V_run hB (rt := none) (nL := 2) (mc := 0) rfl rfl rfl (ops := [(32, .aload_n 0, 1, (0, 0, 0, 0, 0, 0), 0), (33, .aload_n 1, 1, (1, 0, 0, 0, 0, 0), 0), (34, .getfield 24, 3, (4, 4, 0, 0, 0, 0), 0), (37, .putfield 24, 3, (4, 4, 0, 0, 0, 0), 0)]) (by decide +kernel) ?_
  dsimp only [↓wpb, ↓wp1, ↓vI, ↓vL, ↓vD, ↓ldI, ↓ldL, ↓ldD, ↓ldR, ↓k1, ↓k2, ↓kI, ↓kL, ↓kD, ↓kII, ↓kLL, ↓kDD, ↓kR, ↓kIR, ↓kLR, ↓kIIR, ↓kLIR, ↓kDIR, ↓kRIR, ↓kNN, ↓kE, ↓br, ↓bn, ↓rtI, ↓gfv, ↓zchk, lput, ldel, lbad, alA, acat, isRf, dom, dS, dJ, isO, aTy, aLen, elAV, elR, Nat.reduceBEq, Nat.reduceAdd, Bool.or, Bool.and, Nat.add_zero, Nat.zero_add]
  try simp only [Nat.reduceLT, Nat.reduceLeDiff, Nat.reduceEqDiff, true_and, and_true, and_self, Nat.zero_le, Nat.le_refl, true_or, or_true, Bool.false_eq_true, not_false_eq_true, Nat.reduceAdd, Nat.lt_add_one, Nat.zero_lt_one, nI_add, pk_mul, ixL, vpL, ne_eq, reduceIte, wI_sN, wL_sM, sN_same, sN_K, sN_2, sM_1, sM_same, sM_K, sM_s, uI_at, uN_at, enc_at, uI_enc, uI_uI, upM_s, upM_n, hs, hs', n1, n2, sN_sN]
  refine V_run hB (rt := none) (nL := 2) (mc := 0) rfl rfl rfl (ops := [(40, .aload_n 0, 1, (0, 0, 0, 0, 0, 0), 0), (41, .aload_n 1, 1, (1, 0, 0, 0, 0, 0), 0), (42, .getfield 27, 3, (4, 5, 1, 0, 0, 0), 0), (45, .putfield 27, 3, (4, 5, 1, 0, 0, 0), 0)]) (by decide +kernel) ?_
  dsimp only [↓wpb, ↓wp1, ↓vI, ↓vL, ↓vD, ↓ldI, ↓ldL, ↓ldD, ↓ldR, ↓k1, ↓k2, ↓kI, ↓kL, ↓kD, ↓kII, ↓kLL, ↓kDD, ↓kR, ↓kIR, ↓kLR, ↓kIIR, ↓kLIR, ↓kDIR, ↓kRIR, ↓kNN, ↓kE, ↓br, ↓bn, ↓rtI, ↓gfv, ↓zchk, lput, ldel, lbad, alA, acat, isRf, dom, dS, dJ, isO, aTy, aLen, elAV, elR, Nat.reduceBEq, Nat.reduceAdd, Bool.or, Bool.and, Nat.add_zero, Nat.zero_add]
  try simp only [Nat.reduceLT, Nat.reduceLeDiff, Nat.reduceEqDiff, true_and, and_true, and_self, Nat.zero_le, Nat.le_refl, true_or, or_true, Bool.false_eq_true, not_false_eq_true, Nat.reduceAdd, Nat.lt_add_one, Nat.zero_lt_one, nI_add, pk_mul, ixL, vpL, ne_eq, reduceIte, wI_sN, wL_sM, sN_same, sN_K, sN_2, sM_1, sM_same, sM_K, sM_s, uI_at, uN_at, enc_at, uI_enc, uI_uI, upM_s, upM_n, hs, hs', n1, n2, sN_sN]
  refine V_run hB (rt := none) (nL := 2) (mc := 0) rfl rfl rfl (ops := [(48, .aload_n 0, 1, (0, 0, 0, 0, 0, 0), 0), (49, .aload_n 1, 1, (1, 0, 0, 0, 0, 0), 0), (50, .getfield 31, 3, (4, 6, 0, 0, 0, 0), 0), (53, .putfield 31, 3, (4, 6, 0, 0, 0, 0), 0)]) (by decide +kernel) ?_
  dsimp only [↓wpb, ↓wp1, ↓vI, ↓vL, ↓vD, ↓ldI, ↓ldL, ↓ldD, ↓ldR, ↓k1, ↓k2, ↓kI, ↓kL, ↓kD, ↓kII, ↓kLL, ↓kDD, ↓kR, ↓kIR, ↓kLR, ↓kIIR, ↓kLIR, ↓kDIR, ↓kRIR, ↓kNN, ↓kE, ↓br, ↓bn, ↓rtI, ↓gfv, ↓zchk, lput, ldel, lbad, alA, acat, isRf, dom, dS, dJ, isO, aTy, aLen, elAV, elR, Nat.reduceBEq, Nat.reduceAdd, Bool.or, Bool.and, Nat.add_zero, Nat.zero_add]
  try simp only [Nat.reduceLT, Nat.reduceLeDiff, Nat.reduceEqDiff, true_and, and_true, and_self, Nat.zero_le, Nat.le_refl, true_or, or_true, Bool.false_eq_true, not_false_eq_true, Nat.reduceAdd, Nat.lt_add_one, Nat.zero_lt_one, nI_add, pk_mul, ixL, vpL, ne_eq, reduceIte, wI_sN, wL_sM, sN_same, sN_K, sN_2, sM_1, sM_same, sM_K, sM_s, uI_at, uN_at, enc_at, uI_enc, uI_uI, upM_s, upM_n, hs, hs', n1, n2, sN_sN]
  refine V_run hB (rt := none) (nL := 2) (mc := 0) rfl rfl rfl (ops := [(56, .aload_n 0, 1, (0, 0, 0, 0, 0, 0), 0), (57, .aload_n 1, 1, (1, 0, 0, 0, 0, 0), 0), (58, .getfield 34, 3, (4, 7, 0, 0, 0, 0), 0), (61, .putfield 34, 3, (4, 7, 0, 0, 0, 0), 0)]) (by decide +kernel) ?_
  dsimp only [↓wpb, ↓wp1, ↓vI, ↓vL, ↓vD, ↓ldI, ↓ldL, ↓ldD, ↓ldR, ↓k1, ↓k2, ↓kI, ↓kL, ↓kD, ↓kII, ↓kLL, ↓kDD, ↓kR, ↓kIR, ↓kLR, ↓kIIR, ↓kLIR, ↓kDIR, ↓kRIR, ↓kNN, ↓kE, ↓br, ↓bn, ↓rtI, ↓gfv, ↓zchk, lput, ldel, lbad, alA, acat, isRf, dom, dS, dJ, isO, aTy, aLen, elAV, elR, Nat.reduceBEq, Nat.reduceAdd, Bool.or, Bool.and, Nat.add_zero, Nat.zero_add]
  try simp only [Nat.reduceLT, Nat.reduceLeDiff, Nat.reduceEqDiff, true_and, and_true, and_self, Nat.zero_le, Nat.le_refl, true_or, or_true, Bool.false_eq_true, not_false_eq_true, Nat.reduceAdd, Nat.lt_add_one, Nat.zero_lt_one, nI_add, pk_mul, ixL, vpL, ne_eq, reduceIte, wI_sN, wL_sM, sN_same, sN_K, sN_2, sM_1, sM_same, sM_K, sM_s, uI_at, uN_at, enc_at, uI_enc, uI_uI, upM_s, upM_n, hs, hs', n1, n2, sN_sN]
  refine V_run hB (rt := none) (nL := 2) (mc := 0) rfl rfl rfl (ops := [(64, .aload_n 0, 1, (0, 0, 0, 0, 0, 0), 0), (65, .aload_n 1, 1, (1, 0, 0, 0, 0, 0), 0), (66, .getfield 37, 3, (4, 8, 0, 0, 0, 0), 0), (69, .putfield 37, 3, (4, 8, 0, 0, 0, 0), 0), (72, .return_, 1, (0, 0, 0, 0, 0, 0), 0)]) (by decide +kernel) ?_
  dsimp only [↓wpb, ↓wp1, ↓vI, ↓vL, ↓vD, ↓ldI, ↓ldL, ↓ldD, ↓ldR, ↓k1, ↓k2, ↓kI, ↓kL, ↓kD, ↓kII, ↓kLL, ↓kDD, ↓kR, ↓kIR, ↓kLR, ↓kIIR, ↓kLIR, ↓kDIR, ↓kRIR, ↓kNN, ↓kE, ↓br, ↓bn, ↓rtI, ↓gfv, ↓zchk, lput, ldel, lbad, alA, acat, isRf, dom, dS, dJ, isO, aTy, aLen, elAV, elR, Nat.reduceBEq, Nat.reduceAdd, Bool.or, Bool.and, Nat.add_zero, Nat.zero_add]
  try simp only [Nat.reduceLT, Nat.reduceLeDiff, Nat.reduceEqDiff, true_and, and_true, and_self, Nat.zero_le, Nat.le_refl, true_or, or_true, Bool.false_eq_true, not_false_eq_true, Nat.reduceAdd, Nat.lt_add_one, Nat.zero_lt_one, nI_add, pk_mul, ixL, vpL, ne_eq, reduceIte, wI_sN, wL_sM, sN_same, sN_K, sN_2, sM_1, sM_same, sM_K, sM_s, uI_at, uN_at, enc_at, uI_enc, uI_uI, upM_s, upM_n, hs, hs', n1, n2, sN_sN]
  refine ⟨rfl, (((Same.refl (fun nm : Nm => nm = (4, s, 0)) τ).sN _ rfl).sM _ rfl).sN _ rfl, ?_, ?_⟩
  · intro k hk hk5
    rw [sN_same]
    rcases (by omega : k = 0 ∨ k = 1 ∨ k = 2 ∨ k = 3 ∨ k = 4 ∨ k = 6 ∨ k = 7 ∨ k = 8) with rfl | rfl | rfl | rfl | rfl | rfl | rfl | rfl <;> rfl
  · rw [sN_2, sM_same]
    rfl
theorem c_sums (hc : Ctx l G) {τ : Mem} {a : Nat → Nat} (hA : AcR τ 0 a) : Sat l G iX1_coinsFromSums [.inr (4, 0, 0)] τ (retI (nI (a 2)) τ) := by
  refine Sat_of hc.1 hc.2 (by decide +kernel) (Nat.le_of_ble_eq_true rfl) (fun x hB hno => ?_)
  refine V_run hB (rt := some .int) (nL := 1) (mc := 0) rfl rfl rfl obX1_coinsFromSums_0 ?_
  dsimp only [bX1_coinsFromSums_0, ↓wpb, ↓wp1, ↓vI, ↓vL, ↓vD, ↓ldI, ↓ldL, ↓ldD, ↓ldR, ↓k1, ↓k2, ↓kI, ↓kL, ↓kD, ↓kII, ↓kLL, ↓kDD, ↓kR, ↓kIR, ↓kLR, ↓kIIR, ↓kLIR, ↓kDIR, ↓kRIR, ↓kNN, ↓kE, ↓br, ↓bn, ↓rtI, ↓gfv, ↓zchk, lput, ldel, lbad, alA, acat, isRf, dom, dS, dJ, isO, aTy, aLen, elAV, elR, Nat.reduceBEq, Nat.reduceAdd, Bool.or, Bool.and, Nat.add_zero, Nat.zero_add]
  try simp only [Nat.reduceLT, Nat.reduceLeDiff, Nat.reduceEqDiff, true_and, and_true, and_self, Nat.zero_le, Nat.le_refl, true_or, or_true, Bool.false_eq_true, not_false_eq_true, Nat.reduceAdd, Nat.lt_add_one, Nat.zero_lt_one, nI_add, pk_mul, ixL, vpL, ne_eq, reduceIte, wI_sN, wL_sM, sN_same, sN_K, sN_2, sM_1, sM_same, sM_K, sM_s, uI_at, uN_at, enc_at, uI_enc, uI_uI, upM_s, upM_n]
  rw [hA.2.2]
  exact ⟨rfl, rfl⟩
/-- only the accounts change, to those of a' -/
def acP (τ : Mem) (a' : Nat → Nat) : AOut → Mem → Prop := fun o τ' => o = .inl none ∧ Same (fun nm => nm = (4, 0, 0)) τ τ' ∧ AcR τ' 0 a'
theorem c_enterPledge (hc : Ctx l G) {τ : Mem} {a a' : Nat → Nat} (hA : AcR τ 0 a) {L m : Nat} (hm : m < 1000) (h8 : a 8 < 1000000) (hL : L ≤ a 2) (e2 : a' 2 = a 2 - L) (e5 : a' 5 = a 5) (e6 : a' 6 = a 6) (e7 : a' 7 = a 7) (e8 : a' 8 = a 8 + m) : Sat l G iX1_enterPledge [.inr (4, 0, 0), aI (nI L), aI (nI m)] τ (acP τ a') := by
  obtain ⟨⟨h0, h6, h7, h8'⟩, h5, hs⟩ := hA
  refine Sat_of hc.1 hc.2 (by decide +kernel) (Nat.le_of_ble_eq_true rfl) (fun x hB hno => ?_)
  refine V_run hB (rt := none) (nL := 3) (mc := 0) rfl rfl rfl obX1_enterPledge_0 ?_
  dsimp only [bX1_enterPledge_0, ↓wpb, ↓wp1, ↓vI, ↓vL, ↓vD, ↓ldI, ↓ldL, ↓ldD, ↓ldR, ↓k1, ↓k2, ↓kI, ↓kL, ↓kD, ↓kII, ↓kLL, ↓kDD, ↓kR, ↓kIR, ↓kLR, ↓kIIR, ↓kLIR, ↓kDIR, ↓kRIR, ↓kNN, ↓kE, ↓br, ↓bn, ↓rtI, ↓gfv, ↓zchk, lput, ldel, lbad, alA, acat, isRf, dom, dS, dJ, isO, aTy, aLen, elAV, elR, Nat.reduceBEq, Nat.reduceAdd, Bool.or, Bool.and, Nat.add_zero, Nat.zero_add]
  try simp only [Nat.reduceLT, Nat.reduceLeDiff, Nat.reduceEqDiff, true_and, and_true, and_self, Nat.zero_le, Nat.le_refl, true_or, or_true, Bool.false_eq_true, not_false_eq_true, Nat.reduceAdd, Nat.lt_add_one, Nat.zero_lt_one, nI_add, pk_mul, ixL, vpL, ne_eq, reduceIte, wI_sN, wL_sM, sN_same, sN_K, sN_2, sM_1, sM_same, sM_K, sM_s, uI_at, uN_at, enc_at, uI_enc, uI_uI, upM_s, upM_n, sN_sN, h0]
  refine ⟨rfl, ?_, ⟨?_, ?_, ?_, ?_⟩, ?_, ?_⟩
  · repeat' first | exact Same.refl _ _ | refine Same.sN ?_ _ rfl | refine Same.sM ?_ _ rfl
  · simp only [sM_1, sN_same, uI, Nat.reduceEqDiff, if_false, if_true]; rw [e2, pk_sub hL]
  · simp only [sM_1, sN_same, uI, Nat.reduceEqDiff, if_false, if_true]; rw [e5, h6]
  · simp only [sM_1, sN_same, uI, Nat.reduceEqDiff, if_false, if_true]; rw [e6, h7]
  · simp only [sM_1, sN_same, uI, Nat.reduceEqDiff, if_false, if_true]; rw [e7, h8']
  · simp only [sM_same, sN_2, uL, Nat.reduceEqDiff, if_false, if_true]
    rw [h5, e8, nI_l (by omega), nI_l (by omega), nI_l (by omega)]
    show Int64.ofNat _ + Int64.ofNat _ = _
    rw [← Int64.ofNat_add]
    rfl
  · simp only [sM_1, sN_same, uI, Nat.reduceEqDiff, if_false, if_true]
    rw [ring1 _ _ _ _ _ _ hs, e2, pk_sub hL]
theorem c_enterRedemption (hc : Ctx l G) {τ : Mem} {a a' : Nat → Nat} (hA : AcR τ 0 a) {d m : Nat} (e2 : a' 2 = a 2 + d) (e5 : a' 5 = a 5 + m) (e6 : a' 6 = a 6) (e7 : a' 7 = a 7) (e8 : a' 8 = a 8) : Sat l G iX1_enterRedemption [.inr (4, 0, 0), aI (nI d), aI (nI m)] τ (acP τ a') := by
  obtain ⟨⟨h0, h6, h7, h8'⟩, h5, hs⟩ := hA
  refine Sat_of hc.1 hc.2 (by decide +kernel) (Nat.le_of_ble_eq_true rfl) (fun x hB hno => ?_)
  refine V_run hB (rt := none) (nL := 3) (mc := 0) rfl rfl rfl obX1_enterRedemption_0 ?_
  dsimp only [bX1_enterRedemption_0, ↓wpb, ↓wp1, ↓vI, ↓vL, ↓vD, ↓ldI, ↓ldL, ↓ldD, ↓ldR, ↓k1, ↓k2, ↓kI, ↓kL, ↓kD, ↓kII, ↓kLL, ↓kDD, ↓kR, ↓kIR, ↓kLR, ↓kIIR, ↓kLIR, ↓kDIR, ↓kRIR, ↓kNN, ↓kE, ↓br, ↓bn, ↓rtI, ↓gfv, ↓zchk, lput, ldel, lbad, alA, acat, isRf, dom, dS, dJ, isO, aTy, aLen, elAV, elR, Nat.reduceBEq, Nat.reduceAdd, Bool.or, Bool.and, Nat.add_zero, Nat.zero_add]
  try simp only [Nat.reduceLT, Nat.reduceLeDiff, Nat.reduceEqDiff, true_and, and_true, and_self, Nat.zero_le, Nat.le_refl, true_or, or_true, Bool.false_eq_true, not_false_eq_true, Nat.reduceAdd, Nat.lt_add_one, Nat.zero_lt_one, nI_add, pk_mul, ixL, vpL, ne_eq, reduceIte, wI_sN, wL_sM, sN_same, sN_K, sN_2, sM_1, sM_same, sM_K, sM_s, uI_at, uN_at, enc_at, uI_enc, uI_uI, upM_s, upM_n, sN_sN, h0, h6]
  refine ⟨rfl, ?_, ⟨?_, ?_, ?_, ?_⟩, ?_, ?_⟩
  · repeat' first | exact Same.refl _ _ | refine Same.sN ?_ _ rfl | refine Same.sM ?_ _ rfl
  · simp only [sN_same, uI, Nat.reduceEqDiff, if_false, if_true]; rw [e2]
  · simp only [sN_same, uI, Nat.reduceEqDiff, if_false, if_true]; rw [e5]
  · simp only [sN_same, uI, Nat.reduceEqDiff, if_false, if_true]; rw [e6, h7]
  · simp only [sN_same, uI, Nat.reduceEqDiff, if_false, if_true]; rw [e7, h8']
  · simp only [sN_2]; rw [h5, e8]
  · simp only [sN_same, uI, Nat.reduceEqDiff, if_false, if_true]
    rw [ring2 _ _ _ _ _ _ hs, e2, nI_add]
theorem c_enterExtension (hc : Ctx l G) {τ : Mem} {a a' : Nat → Nat} (hA : AcR τ 0 a) {d : Nat} (e2 : a' 2 = a 2 + d) (e5 : a' 5 = a 5) (e6 : a' 6 = a 6) (e7 : a' 7 = a 7) (e8 : a' 8 = a 8) : Sat l G iX1_enterExtension [.inr (4, 0, 0), aI (nI d)] τ (acP τ a') := by
  obtain ⟨⟨h0, h6, h7, h8'⟩, h5, hs⟩ := hA
  refine Sat_of hc.1 hc.2 (by decide +kernel) (Nat.le_of_ble_eq_true rfl) (fun x hB hno => ?_)
  refine V_run hB (rt := none) (nL := 2) (mc := 0) rfl rfl rfl obX1_enterExtension_0 ?_
  dsimp only [bX1_enterExtension_0, ↓wpb, ↓wp1, ↓vI, ↓vL, ↓vD, ↓ldI, ↓ldL, ↓ldD, ↓ldR, ↓k1, ↓k2, ↓kI, ↓kL, ↓kD, ↓kII, ↓kLL, ↓kDD, ↓kR, ↓kIR, ↓kLR, ↓kIIR, ↓kLIR, ↓kDIR, ↓kRIR, ↓kNN, ↓kE, ↓br, ↓bn, ↓rtI, ↓gfv, ↓zchk, lput, ldel, lbad, alA, acat, isRf, dom, dS, dJ, isO, aTy, aLen, elAV, elR, Nat.reduceBEq, Nat.reduceAdd, Bool.or, Bool.and, Nat.add_zero, Nat.zero_add]
  try simp only [Nat.reduceLT, Nat.reduceLeDiff, Nat.reduceEqDiff, true_and, and_true, and_self, Nat.zero_le, Nat.le_refl, true_or, or_true, Bool.false_eq_true, not_false_eq_true, Nat.reduceAdd, Nat.lt_add_one, Nat.zero_lt_one, nI_add, pk_mul, ixL, vpL, ne_eq, reduceIte, wI_sN, wL_sM, sN_same, sN_K, sN_2, sM_1, sM_same, sM_K, sM_s, uI_at, uN_at, enc_at, uI_enc, uI_uI, upM_s, upM_n, sN_sN, h0]
  refine ⟨rfl, ?_, ⟨?_, ?_, ?_, ?_⟩, ?_, ?_⟩
  · repeat' first | exact Same.refl _ _ | refine Same.sN ?_ _ rfl | refine Same.sM ?_ _ rfl
  · simp only [sN_same, uI, Nat.reduceEqDiff, if_false, if_true]; rw [e2]
  · simp only [sN_same, uI, Nat.reduceEqDiff, if_false, if_true]; rw [e5, h6]
  · simp only [sN_same, uI, Nat.reduceEqDiff, if_false, if_true]; rw [e6, h7]
  · simp only [sN_same, uI, Nat.reduceEqDiff, if_false, if_true]; rw [e7, h8']
  · simp only [sN_2]; rw [h5, e8]
  · simp only [sN_same, uI, Nat.reduceEqDiff, if_false, if_true]
    rw [ring3 _ _ _ _ _ _ hs, e2, nI_add]
theorem c_enterSale (hc : Ctx l G) {τ : Mem} {a a' : Nat → Nat} (hA : AcR τ 0 a) {d m : Nat} (e2 : a' 2 = a 2 + d) (e5 : a' 5 = a 5) (e6 : a' 6 = a 6) (e7 : a' 7 = a 7 + m) (e8 : a' 8 = a 8) : Sat l G iX1_enterSale [.inr (4, 0, 0), aI (nI d), aI (nI m)] τ (acP τ a') := by
  obtain ⟨⟨h0, h6, h7, h8'⟩, h5, hs⟩ := hA
  refine Sat_of hc.1 hc.2 (by decide +kernel) (Nat.le_of_ble_eq_true rfl) (fun x hB hno => ?_)
  refine V_run hB (rt := none) (nL := 3) (mc := 0) rfl rfl rfl obX1_enterSale_0 ?_
  dsimp only [bX1_enterSale_0, ↓wpb, ↓wp1, ↓vI, ↓vL, ↓vD, ↓ldI, ↓ldL, ↓ldD, ↓ldR, ↓k1, ↓k2, ↓kI, ↓kL, ↓kD, ↓kII, ↓kLL, ↓kDD, ↓kR, ↓kIR, ↓kLR, ↓kIIR, ↓kLIR, ↓kDIR, ↓kRIR, ↓kNN, ↓kE, ↓br, ↓bn, ↓rtI, ↓gfv, ↓zchk, lput, ldel, lbad, alA, acat, isRf, dom, dS, dJ, isO, aTy, aLen, elAV, elR, Nat.reduceBEq, Nat.reduceAdd, Bool.or, Bool.and, Nat.add_zero, Nat.zero_add]
  try simp only [Nat.reduceLT, Nat.reduceLeDiff, Nat.reduceEqDiff, true_and, and_true, and_self, Nat.zero_le, Nat.le_refl, true_or, or_true, Bool.false_eq_true, not_false_eq_true, Nat.reduceAdd, Nat.lt_add_one, Nat.zero_lt_one, nI_add, pk_mul, ixL, vpL, ne_eq, reduceIte, wI_sN, wL_sM, sN_same, sN_K, sN_2, sM_1, sM_same, sM_K, sM_s, uI_at, uN_at, enc_at, uI_enc, uI_uI, upM_s, upM_n, sN_sN, h0, h8']
  refine ⟨rfl, ?_, ⟨?_, ?_, ?_, ?_⟩, ?_, ?_⟩
  · repeat' first | exact Same.refl _ _ | refine Same.sN ?_ _ rfl | refine Same.sM ?_ _ rfl
  · simp only [sN_same, uI, Nat.reduceEqDiff, if_false, if_true]; rw [e2]
  · simp only [sN_same, uI, Nat.reduceEqDiff, if_false, if_true]; rw [e5, h6]
  · simp only [sN_same, uI, Nat.reduceEqDiff, if_false, if_true]; rw [e6, h7]
  · simp only [sN_same, uI, Nat.reduceEqDiff, if_false, if_true]; rw [e7]
  · simp only [sN_2]; rw [h5, e8]
  · simp only [sN_same, uI, Nat.reduceEqDiff, if_false, if_true]
    rw [ring4 _ _ _ _ _ _ hs, e2, nI_add]
theorem c_itCopy (hc : Ctx l G) (τ : Mem) {s s' p p' : Nat} (hs : s < 11) (hs' : s' < 11) (hp : p < 10) (hp' : p' < 10) (hne : s' ≠ s) (hb : τ.1 (5, s', p') 6 = 0 ∨ τ.1 (5, s', p') 6 = 1) : Sat l G iX6_copyFrom [.inr (5, s, p), .inr (5, s', p')] τ (voidP (fun τ' => Same (fun nm => nm = (5, s, p) ∨ nm = (12, s, p)) τ τ' ∧ (∀ k, k < 7 → τ'.1 (5, s, p) k = τ.1 (5, s', p') k) ∧ ∀ k, k < 5 → τ'.1 (12, s, p) k = τ.1 (12, s', p') k)) := by
  have n1 : ∀ (t : Mem) f, (sN t (5, s, p) f).1 (5, s', p') = t.1 (5, s', p') := fun t f => sN_ne (fun e => hne (by injection e with e1 e2; injection e2 with e3 e4))
  refine Sat_of hc.1 hc.2 (by decide +kernel) (Nat.le_of_ble_eq_true rfl) (fun x hB hno => ?_)
  refine V_run hB (rt := none) (nL := 2) (mc := 0) rfl rfl rfl (ops := [(0, .aload_n 0, 1, (0, 0, 0, 0, 0, 0), 0), (1, .aload_n 1, 1, (1, 0, 0, 0, 0, 0), 0), (2, .getfield 15, 3, (5, 0, 0, 0, 0, 0), 0), (5, .putfield 15, 3, (5, 0, 0, 0, 0, 0), 0)]) (by decide +kernel) ?_
  dsimp only [↓wpb, ↓wp1, ↓vI, ↓vL, ↓vD, ↓ldI, ↓ldL, ↓ldD, ↓ldR, ↓k1, ↓k2, ↓kI, ↓kL, ↓kD, ↓kII, ↓kLL, ↓kDD, ↓kR, ↓kIR, ↓kLR, ↓kIIR, ↓kLIR, ↓kDIR, ↓kRIR, ↓kNN, ↓kE, ↓br, ↓bn, ↓rtI, ↓gfv, ↓zchk, lput, ldel, lbad, alA, acat, isRf, dom, dS, dJ, isO, aTy, aLen, elAV, elR, Nat.reduceBEq, Nat.reduceAdd, Bool.or, Bool.and, Nat.add_zero, Nat.zero_add]
  try simp only [Nat.reduceLT, Nat.reduceLeDiff, Nat.reduceEqDiff, true_and, and_true, and_self, Nat.zero_le, Nat.le_refl, true_or, or_true, Bool.false_eq_true, not_false_eq_true, Nat.reduceAdd, Nat.lt_add_one, Nat.zero_lt_one, nI_add, pk_mul, ixL, vpL, ne_eq, reduceIte, wI_sN, wL_sM, sN_same, sN_K, sN_2, sM_1, sM_same, sM_K, sM_s, uI_at, uN_at, enc_at, uI_enc, uI_uI, upM_s, upM_n, hs, hs', hp, hp', n1, sN_sN]
  refine V_run hB (rt := none) (nL := 2) (mc := 0) rfl rfl rfl (ops := [(8, .aload_n 0, 1, (0, 0, 0, 0, 0, 0), 0), (9, .aload_n 1, 1, (1, 0, 0, 0, 0, 0), 0), (10, .getfield 19, 3, (5, 1, 0, 0, 0, 0), 0), (13, .putfield 19, 3, (5, 1, 0, 0, 0, 0), 0)]) (by decide +kernel) ?_
  dsimp only [↓wpb, ↓wp1, ↓vI, ↓vL, ↓vD, ↓ldI, ↓ldL, ↓ldD, ↓ldR, ↓k1, ↓k2, ↓kI, ↓kL, ↓kD, ↓kII, ↓kLL, ↓kDD, ↓kR, ↓kIR, ↓kLR, ↓kIIR, ↓kLIR, ↓kDIR, ↓kRIR, ↓kNN, ↓kE, ↓br, ↓bn, ↓rtI, ↓gfv, ↓zchk, lput, ldel, lbad, alA, acat, isRf, dom, dS, dJ, isO, aTy, aLen, elAV, elR, Nat.reduceBEq, Nat.reduceAdd, Bool.or, Bool.and, Nat.add_zero, Nat.zero_add]
  try simp only [Nat.reduceLT, Nat.reduceLeDiff, Nat.reduceEqDiff, true_and, and_true, and_self, Nat.zero_le, Nat.le_refl, true_or, or_true, Bool.false_eq_true, not_false_eq_true, Nat.reduceAdd, Nat.lt_add_one, Nat.zero_lt_one, nI_add, pk_mul, ixL, vpL, ne_eq, reduceIte, wI_sN, wL_sM, sN_same, sN_K, sN_2, sM_1, sM_same, sM_K, sM_s, uI_at, uN_at, enc_at, uI_enc, uI_uI, upM_s, upM_n, hs, hs', hp, hp', n1, sN_sN]
  refine V_run hB (rt := none) (nL := 2) (mc := 0) rfl rfl rfl (ops := [(16, .aload_n 0, 1, (0, 0, 0, 0, 0, 0), 0), (17, .aload_n 1, 1, (1, 0, 0, 0, 0, 0), 0), (18, .getfield 22, 3, (5, 2, 0, 0, 0, 0), 0), (21, .putfield 22, 3, (5, 2, 0, 0, 0, 0), 0)]) (by decide +kernel) ?_
  dsimp only [↓wpb, ↓wp1, ↓vI, ↓vL, ↓vD, ↓ldI, ↓ldL, ↓ldD, ↓ldR, ↓k1, ↓k2, ↓kI, ↓kL, ↓kD, ↓kII, ↓kLL, ↓kDD, ↓kR, ↓kIR, ↓kLR, ↓kIIR, ↓kLIR, ↓kDIR, ↓kRIR, ↓kNN, ↓kE, ↓br, ↓bn, ↓rtI, ↓gfv, ↓zchk, lput, ldel, lbad, alA, acat, isRf, dom, dS, dJ, isO, aTy, aLen, elAV, elR, Nat.reduceBEq, Nat.reduceAdd, Bool.or, Bool.and, Nat.add_zero, Nat.zero_add]
  try simp only [Nat.reduceLT, Nat.reduceLeDiff, Nat.reduceEqDiff, true_and, and_true, and_self, Nat.zero_le, Nat.le_refl, true_or, or_true, Bool.false_eq_true, not_false_eq_true, Nat.reduceAdd, Nat.lt_add_one, Nat.zero_lt_one, nI_add, pk_mul, ixL, vpL, ne_eq, reduceIte, wI_sN, wL_sM, sN_same, sN_K, sN_2, sM_1, sM_same, sM_K, sM_s, uI_at, uN_at, enc_at, uI_enc, uI_uI, upM_s, upM_n, hs, hs', hp, hp', n1, sN_sN]
  refine V_run hB (rt := none) (nL := 2) (mc := 0) rfl rfl rfl (ops := [(24, .aload_n 0, 1, (0, 0, 0, 0, 0, 0), 0), (25, .aload_n 1, 1, (1, 0, 0, 0, 0, 0), 0), (26, .getfield 25, 3, (5, 3, 0, 0, 0, 0), 0), (29, .putfield 25, 3, (5, 3, 0, 0, 0, 0), 0)]) (by decide +kernel) ?_
  dsimp only [↓wpb, ↓wp1, ↓vI, ↓vL, ↓vD, ↓ldI, ↓ldL, ↓ldD, ↓ldR, ↓k1, ↓k2, ↓kI, ↓kL, ↓kD, ↓kII, ↓kLL, ↓kDD, ↓kR, ↓kIR, ↓kLR, ↓kIIR, ↓kLIR, ↓kDIR, ↓kRIR, ↓kNN, ↓kE, ↓br, ↓bn, ↓rtI, ↓gfv, ↓zchk, lput, ldel, lbad, alA, acat, isRf, dom, dS, dJ, isO, aTy, aLen, elAV, elR, Nat.reduceBEq, Nat.reduceAdd, Bool.or, Bool.and, Nat.add_zero, Nat.zero_add]
  try simp only [Nat.reduceLT, Nat.reduceLeDiff, Nat.reduceEqDiff, true_and, and_true, and_self, Nat.zero_le, Nat.le_refl, true_or, or_true, Bool.false_eq_true, not_false_eq_true, Nat.reduceAdd, Nat.lt_add_one, Nat.zero_lt_one, nI_add, pk_mul, ixL, vpL, ne_eq, reduceIte, wI_sN, wL_sM, sN_same, sN_K, sN_2, sM_1, sM_same, sM_K, sM_s, uI_at, uN_at, enc_at, uI_enc, uI_uI, upM_s, upM_n, hs, hs', hp, hp', n1, sN_sN]
  refine V_run hB (rt := none) (nL := 2) (mc := 0) rfl rfl rfl (ops := [(32, .aload_n 0, 1, (0, 0, 0, 0, 0, 0), 0), (33, .aload_n 1, 1, (1, 0, 0, 0, 0, 0), 0), (34, .getfield 28, 3, (5, 4, 0, 0, 0, 0), 0), (37, .putfield 28, 3, (5, 4, 0, 0, 0, 0), 0)]) (by decide +kernel) ?_
  dsimp only [↓wpb, ↓wp1, ↓vI, ↓vL, ↓vD, ↓ldI, ↓ldL, ↓ldD, ↓ldR, ↓k1, ↓k2, ↓kI, ↓kL, ↓kD, ↓kII, ↓kLL, ↓kDD, ↓kR, ↓kIR, ↓kLR, ↓kIIR, ↓kLIR, ↓kDIR, ↓kRIR, ↓kNN, ↓kE, ↓br, ↓bn, ↓rtI, ↓gfv, ↓zchk, lput, ldel, lbad, alA, acat, isRf, dom, dS, dJ, isO, aTy, aLen, elAV, elR, Nat.reduceBEq, Nat.reduceAdd, Bool.or, Bool.and, Nat.add_zero, Nat.zero_add]
  try simp only [Nat.reduceLT, Nat.reduceLeDiff, Nat.reduceEqDiff, true_and, and_true, and_self, Nat.zero_le, Nat.le_refl, true_or, or_true, Bool.false_eq_true, not_false_eq_true, Nat.reduceAdd, Nat.lt_add_one, Nat.zero_lt_one, nI_add, pk_mul, ixL, vpL, ne_eq, reduceIte, wI_sN, wL_sM, sN_same, sN_K, sN_2, sM_1, sM_same, sM_K, sM_s, uI_at, uN_at, enc_at, uI_enc, uI_uI, upM_s, upM_n, hs, hs', hp, hp', n1, sN_sN]
  refine V_run hB (rt := none) (nL := 2) (mc := 0) rfl rfl rfl (ops := [(40, .aload_n 0, 1, (0, 0, 0, 0, 0, 0), 0), (41, .aload_n 1, 1, (1, 0, 0, 0, 0, 0), 0), (42, .getfield 31, 3, (5, 5, 0, 0, 0, 0), 0), (45, .putfield 31, 3, (5, 5, 0, 0, 0, 0), 0)]) (by decide +kernel) ?_
  dsimp only [↓wpb, ↓wp1, ↓vI, ↓vL, ↓vD, ↓ldI, ↓ldL, ↓ldD, ↓ldR, ↓k1, ↓k2, ↓kI, ↓kL, ↓kD, ↓kII, ↓kLL, ↓kDD, ↓kR, ↓kIR, ↓kLR, ↓kIIR, ↓kLIR, ↓kDIR, ↓kRIR, ↓kNN, ↓kE, ↓br, ↓bn, ↓rtI, ↓gfv, ↓zchk, lput, ldel, lbad, alA, acat, isRf, dom, dS, dJ, isO, aTy, aLen, elAV, elR, Nat.reduceBEq, Nat.reduceAdd, Bool.or, Bool.and, Nat.add_zero, Nat.zero_add]
  try simp only [Nat.reduceLT, Nat.reduceLeDiff, Nat.reduceEqDiff, true_and, and_true, and_self, Nat.zero_le, Nat.le_refl, true_or, or_true, Bool.false_eq_true, not_false_eq_true, Nat.reduceAdd, Nat.lt_add_one, Nat.zero_lt_one, nI_add, pk_mul, ixL, vpL, ne_eq, reduceIte, wI_sN, wL_sM, sN_same, sN_K, sN_2, sM_1, sM_same, sM_K, sM_s, uI_at, uN_at, enc_at, uI_enc, uI_uI, upM_s, upM_n, hs, hs', hp, hp', n1, sN_sN]
  refine V_run hB (rt := none) (nL := 2) (mc := 0) rfl rfl rfl (ops := [(48, .aload_n 0, 1, (0, 0, 0, 0, 0, 0), 0), (49, .aload_n 1, 1, (1, 0, 0, 0, 0, 0), 0), (50, .getfield 34, 3, (5, 6, 0, 0, 0, 0), 0), (53, .putfield 34, 3, (5, 6, 3, 0, 0, 0), 0)]) (by decide +kernel) ?_
  dsimp only [↓wpb, ↓wp1, ↓vI, ↓vL, ↓vD, ↓ldI, ↓ldL, ↓ldD, ↓ldR, ↓k1, ↓k2, ↓kI, ↓kL, ↓kD, ↓kII, ↓kLL, ↓kDD, ↓kR, ↓kIR, ↓kLR, ↓kIIR, ↓kLIR, ↓kDIR, ↓kRIR, ↓kNN, ↓kE, ↓br, ↓bn, ↓rtI, ↓gfv, ↓zchk, lput, ldel, lbad, alA, acat, isRf, dom, dS, dJ, isO, aTy, aLen, elAV, elR, Nat.reduceBEq, Nat.reduceAdd, Bool.or, Bool.and, Nat.add_zero, Nat.zero_add]
  try simp only [Nat.reduceLT, Nat.reduceLeDiff, Nat.reduceEqDiff, true_and, and_true, and_self, Nat.zero_le, Nat.le_refl, true_or, or_true, Bool.false_eq_true, not_false_eq_true, Nat.reduceAdd, Nat.lt_add_one, Nat.zero_lt_one, nI_add, pk_mul, ixL, vpL, ne_eq, reduceIte, wI_sN, wL_sM, sN_same, sN_K, sN_2, sM_1, sM_same, sM_K, sM_s, uI_at, uN_at, enc_at, uI_enc, uI_uI, upM_s, upM_n, hs, hs', hp, hp', n1, sN_sN]
  refine ⟨hb, ?_⟩
  refine V_run hB (rt := none) (nL := 2) (mc := 0) rfl rfl rfl (ops := [(56, .aload_n 1, 1, (1, 0, 0, 0, 0, 0), 0), (57, .getfield 9, 3, (5, 7, 2, 12, 0, 0), 0), (60, .iconst 0, 1, (0, 0, 0, 0, 0, 0), nI 0), (61, .aload_n 0, 1, (0, 0, 0, 0, 0, 0), 0), (62, .getfield 9, 3, (5, 7, 2, 12, 0, 0), 0), (65, .iconst 0, 1, (0, 0, 0, 0, 0, 0), nI 0), (66, .iconst 5, 1, (0, 0, 0, 0, 0, 0), nI 5)]) (by decide +kernel) ?_
  dsimp only [↓wpb, ↓wp1, ↓vI, ↓vL, ↓vD, ↓ldI, ↓ldL, ↓ldD, ↓ldR, ↓k1, ↓k2, ↓kI, ↓kL, ↓kD, ↓kII, ↓kLL, ↓kDD, ↓kR, ↓kIR, ↓kLR, ↓kIIR, ↓kLIR, ↓kDIR, ↓kRIR, ↓kNN, ↓kE, ↓br, ↓bn, ↓rtI, ↓gfv, ↓zchk, lput, ldel, lbad, alA, acat, isRf, dom, dS, dJ, isO, aTy, aLen, elAV, elR, Nat.reduceBEq, Nat.reduceAdd, Bool.or, Bool.and, Nat.add_zero, Nat.zero_add]
  try simp only [Nat.reduceLT, Nat.reduceLeDiff, Nat.reduceEqDiff, true_and, and_true, and_self, Nat.zero_le, Nat.le_refl, true_or, or_true, Bool.false_eq_true, not_false_eq_true, Nat.reduceAdd, Nat.lt_add_one, Nat.zero_lt_one, nI_add, pk_mul, ixL, vpL, ne_eq, reduceIte, wI_sN, wL_sM, sN_same, sN_K, sN_2, sM_1, sM_same, sM_K, sM_s, uI_at, uN_at, enc_at, uI_enc, uI_uI, upM_s, upM_n, hs, hs', hp, hp', n1, sN_sN]
  refine s_copyI hB (K := 12) (s' := s') (j := p') (s2 := s) (j2 := p) (N := 5) (idx := 38) (TBg_at 567 (by decide +kernel)) (TBg_at 558 (by decide +kernel)) (TBg_at 557 (by decide +kernel)) (TBg_at 77 (by decide +kernel)) (by decide +kernel) ⟨hs', hp'⟩ ⟨hs, hp⟩ rfl rfl rfl (by omega) (by decide) ?_
  refine V_run hB (rt := none) (nL := 2) (mc := 0) rfl rfl rfl obX6_copyFrom_70 ?_
  dsimp only [bX6_copyFrom_70, ↓wpb, ↓wp1, ↓vI, ↓vL, ↓vD, ↓ldI, ↓ldL, ↓ldD, ↓ldR, ↓k1, ↓k2, ↓kI, ↓kL, ↓kD, ↓kII, ↓kLL, ↓kDD, ↓kR, ↓kIR, ↓kLR, ↓kIIR, ↓kLIR, ↓kDIR, ↓kRIR, ↓kNN, ↓kE, ↓br, ↓bn, ↓rtI, ↓gfv, ↓zchk, lput, ldel, lbad, alA, acat, isRf, dom, dS, dJ, isO, aTy, aLen, elAV, elR, Nat.reduceBEq, Nat.reduceAdd, Bool.or, Bool.and, Nat.add_zero, Nat.zero_add]
  try simp only [Nat.reduceLT, Nat.reduceLeDiff, Nat.reduceEqDiff, true_and, and_true, and_self, Nat.zero_le, Nat.le_refl, true_or, or_true, Bool.false_eq_true, not_false_eq_true, Nat.reduceAdd, Nat.lt_add_one, Nat.zero_lt_one, nI_add, pk_mul, ixL, vpL, ne_eq, reduceIte, wI_sN, wL_sM, sN_same, sN_K, sN_2, sM_1, sM_same, sM_K, sM_s, uI_at, uN_at, enc_at, uI_enc, uI_uI, upM_s, upM_n]
  refine ⟨rfl, ?_, ?_, ?_⟩
  · repeat' first | exact Same.refl _ _ | refine Same.sN ?_ _ (Or.inl rfl) | refine Same.sN ?_ _ (Or.inr rfl)
  · intro k hk
    rw [sN_K (by decide), sN_same]
    rcases (by omega : k = 0 ∨ k = 1 ∨ k = 2 ∨ k = 3 ∨ k = 4 ∨ k = 5 ∨ k = 6) with rfl | rfl | rfl | rfl | rfl | rfl | rfl <;> rfl
  · intro k hk
    rw [sN_same, cpy_in hk]
/-- the highest bid's bidder, the lowest of several -/
def bmU (t : Nat → Nat) : Nat → Nat
  | 0 => 0
  | b + 1 => if t (7 + bmU t b) < t (7 + (b + 1)) then b + 1 else bmU t b
theorem bmU_le (t : Nat → Nat) : ∀ b, bmU t b ≤ b
  | 0 => Nat.le_refl _
  | b + 1 => by
    have := bmU_le t b
    unfold bmU
    split <;> omega
theorem bm_buyer (a : Nat → Nat) (i : Nat) : ∀ b, buyU a i (b + 1) = if it a i 4 ≤ it a i (7 + bmU (it a i) b) then some (bmU (it a i) b) else none
  | 0 => by
    unfold buyU
    by_cases h : it a i 4 ≤ it a i (7 + 0)
    · rw [if_pos ⟨h, fun q hq => by cases hq⟩]
      show _ = if it a i 4 ≤ it a i (7 + 0) then some 0 else none
      rw [if_pos h]
    · rw [if_neg (fun z => h z.1)]
      show none = if it a i 4 ≤ it a i (7 + 0) then some 0 else none
      rw [if_neg h]
  | b + 1 => by
    have ih := bm_buyer a i b
    have hu : bmU (it a i) (b + 1) = if it a i (7 + bmU (it a i) b) < it a i (7 + (b + 1)) then b + 1 else bmU (it a i) b := rfl
    have hv : buyU a i (b + 2) = if it a i 4 ≤ it a i (7 + (b + 1)) ∧ (∀ q, buyU a i (b + 1) = some q → it a i (7 + q) < it a i (7 + (b + 1))) then some (b + 1) else buyU a i (b + 1) := rfl
    rw [hv, ih, hu]
    by_cases h1 : it a i 4 ≤ it a i (7 + bmU (it a i) b)
    · simp only [if_pos h1]
      by_cases h2 : it a i (7 + bmU (it a i) b) < it a i (7 + (b + 1))
      · rw [if_pos ⟨by omega, fun q hq => by cases hq; exact h2⟩, if_pos h2, if_pos (by omega)]
      · rw [if_neg (fun z => h2 (z.2 _ rfl)), if_neg h2, if_pos h1]
    · simp only [if_neg h1]
      by_cases h2 : it a i 4 ≤ it a i (7 + (b + 1))
      · rw [if_pos ⟨h2, fun q hq => by cases hq⟩, if_pos (show it a i (7 + bmU (it a i) b) < it a i (7 + (b + 1)) by omega), if_pos h2]
      · rw [if_neg (fun z => h2 z.1)]
        split <;> rfl
theorem c_buyer (hc : Ctx l G) {τ : Mem} {a : Nat → Nat} {i p : Nat} (hp : p < 10) (h3 : τ.1 (5, 0, p) 3 = nI (it a i 4)) (hb : ∀ c, c < 5 → τ.1 (12, 0, p) c = nI (it a i (7 + c))) (hbd : ∀ k, it a i k < 2147483648) : Sat l G iX6_buyerAlone [.inr (5, 0, p)] τ (retI (oI (buyer a i)) τ) := by
  have hle := bmU_le (it a i)
  refine Sat_of hc.1 hc.2 (by decide +kernel) (Nat.le_of_ble_eq_true rfl) (fun x hB hno => ?_)
  have head : ∀ w b, b + w = 4 → V x τ 0 4 [(0, .inr (5, 0, p)), (1, aI (nI (bmU (it a i) b))), (2, aI (nI (b + 1)))] [] := by
    intro w
    induction w with
    | zero =>
      intro b hw
      have hw : b = 4 := by omega
      subst hw
      have hl := hle 4
      have ix : (nI (bmU (it a i) 4)).toNatClampNeg = bmU (it a i) 4 := ixL (by omega)
      have vx : vp_in (nI (bmU (it a i) 4)) 5 = True := vpL (by omega) (by omega)
      have r1 := hb _ (show bmU (it a i) 4 < 5 by omega)
      have e := bm_buyer a i 4
      refine V_run hB (rt := some .int) (nL := 3) (mc := 0) rfl rfl rfl obX6_buyerAlone_4 ?_
      dsimp only [bX6_buyerAlone_4, ↓wpb, ↓wp1, ↓vI, ↓vL, ↓vD, ↓ldI, ↓ldL, ↓ldD, ↓ldR, ↓k1, ↓k2, ↓kI, ↓kL, ↓kD, ↓kII, ↓kLL, ↓kDD, ↓kR, ↓kIR, ↓kLR, ↓kIIR, ↓kLIR, ↓kDIR, ↓kRIR, ↓kNN, ↓kE, ↓br, ↓bn, ↓rtI, ↓gfv, ↓zchk, lput, ldel, lbad, alA, acat, isRf, dom, dS, dJ, isO, aTy, aLen, elAV, elR, Nat.reduceBEq, Nat.reduceAdd, Bool.or, Bool.and, Nat.add_zero, Nat.zero_add]
      try simp only [Nat.reduceLT, Nat.reduceLeDiff, Nat.reduceEqDiff, true_and, and_true, and_self, Nat.zero_le, Nat.le_refl, true_or, or_true, Bool.false_eq_true, not_false_eq_true, Nat.reduceAdd, Nat.lt_add_one, Nat.zero_lt_one, nI_add, pk_mul, ixL, vpL, ne_eq, reduceIte, wI_sN, wL_sM, sN_same, sN_K, sN_2, sM_1, sM_same, sM_K, sM_s, uI_at, uN_at, enc_at, uI_enc, uI_uI, upM_s, upM_n]
      refine ⟨fun _ => ?_, fun q => absurd (nI_le (by omega) (by omega)) q⟩
      refine V_run hB (rt := some .int) (nL := 3) (mc := 0) rfl rfl rfl obX6_buyerAlone_32 ?_
      dsimp only [bX6_buyerAlone_32, ↓wpb, ↓wp1, ↓vI, ↓vL, ↓vD, ↓ldI, ↓ldL, ↓ldD, ↓ldR, ↓k1, ↓k2, ↓kI, ↓kL, ↓kD, ↓kII, ↓kLL, ↓kDD, ↓kR, ↓kIR, ↓kLR, ↓kIIR, ↓kLIR, ↓kDIR, ↓kRIR, ↓kNN, ↓kE, ↓br, ↓bn, ↓rtI, ↓gfv, ↓zchk, lput, ldel, lbad, alA, acat, isRf, dom, dS, dJ, isO, aTy, aLen, elAV, elR, Nat.reduceBEq, Nat.reduceAdd, Bool.or, Bool.and, Nat.add_zero, Nat.zero_add]
      try simp only [Nat.reduceLT, Nat.reduceLeDiff, Nat.reduceEqDiff, true_and, and_true, and_self, Nat.zero_le, Nat.le_refl, true_or, or_true, Bool.false_eq_true, not_false_eq_true, Nat.reduceAdd, Nat.lt_add_one, Nat.zero_lt_one, nI_add, pk_mul, ixL, vpL, ne_eq, reduceIte, wI_sN, wL_sM, sN_same, sN_K, sN_2, sM_1, sM_same, sM_K, sM_s, uI_at, uN_at, enc_at, uI_enc, uI_uI, upM_s, upM_n, hp, ix, vx, r1, h3]
      refine ⟨fun q => ?_, fun q => ?_⟩
      · rw [nI_ltI (hbd _) (hbd _)] at q
        rw [if_neg (by omega)] at e
        have e9 : buyer a i = none := e
        rw [e9] at hB
        refine V_run hB (rt := some .int) (nL := 3) (mc := 0) rfl rfl rfl obX6_buyerAlone_49 ?_
        dsimp only [bX6_buyerAlone_49, ↓wpb, ↓wp1, ↓vI, ↓vL, ↓vD, ↓ldI, ↓ldL, ↓ldD, ↓ldR, ↓k1, ↓k2, ↓kI, ↓kL, ↓kD, ↓kII, ↓kLL, ↓kDD, ↓kR, ↓kIR, ↓kLR, ↓kIIR, ↓kLIR, ↓kDIR, ↓kRIR, ↓kNN, ↓kE, ↓br, ↓bn, ↓rtI, ↓gfv, ↓zchk, lput, ldel, lbad, alA, acat, isRf, dom, dS, dJ, isO, aTy, aLen, elAV, elR, Nat.reduceBEq, Nat.reduceAdd, Bool.or, Bool.and, Nat.add_zero, Nat.zero_add]
        try simp only [Nat.reduceLT, Nat.reduceLeDiff, Nat.reduceEqDiff, true_and, and_true, and_self, Nat.zero_le, Nat.le_refl, true_or, or_true, Bool.false_eq_true, not_false_eq_true, Nat.reduceAdd, Nat.lt_add_one, Nat.zero_lt_one, nI_add, pk_mul, ixL, vpL, ne_eq, reduceIte, wI_sN, wL_sM, sN_same, sN_K, sN_2, sM_1, sM_same, sM_K, sM_s, uI_at, uN_at, enc_at, uI_enc, uI_uI, upM_s, upM_n]
        exact ⟨rfl, rfl⟩
      · rw [nI_ltI (hbd _) (hbd _)] at q
        rw [if_pos (by omega)] at e
        have e9 : buyer a i = some (bmU (it a i) 4) := e
        rw [e9] at hB
        refine V_run hB (rt := some .int) (nL := 3) (mc := 0) rfl rfl rfl obX6_buyerAlone_50 ?_
        dsimp only [bX6_buyerAlone_50, ↓wpb, ↓wp1, ↓vI, ↓vL, ↓vD, ↓ldI, ↓ldL, ↓ldD, ↓ldR, ↓k1, ↓k2, ↓kI, ↓kL, ↓kD, ↓kII, ↓kLL, ↓kDD, ↓kR, ↓kIR, ↓kLR, ↓kIIR, ↓kLIR, ↓kDIR, ↓kRIR, ↓kNN, ↓kE, ↓br, ↓bn, ↓rtI, ↓gfv, ↓zchk, lput, ldel, lbad, alA, acat, isRf, dom, dS, dJ, isO, aTy, aLen, elAV, elR, Nat.reduceBEq, Nat.reduceAdd, Bool.or, Bool.and, Nat.add_zero, Nat.zero_add]
        try simp only [Nat.reduceLT, Nat.reduceLeDiff, Nat.reduceEqDiff, true_and, and_true, and_self, Nat.zero_le, Nat.le_refl, true_or, or_true, Bool.false_eq_true, not_false_eq_true, Nat.reduceAdd, Nat.lt_add_one, Nat.zero_lt_one, nI_add, pk_mul, ixL, vpL, ne_eq, reduceIte, wI_sN, wL_sM, sN_same, sN_K, sN_2, sM_1, sM_same, sM_K, sM_s, uI_at, uN_at, enc_at, uI_enc, uI_uI, upM_s, upM_n]
        exact ⟨rfl, rfl⟩
    | succ w ih =>
      intro b hw
      have hl := hle b
      have ix : (nI (bmU (it a i) b)).toNatClampNeg = bmU (it a i) b := ixL (by omega)
      have vx : vp_in (nI (bmU (it a i) b)) 5 = True := vpL (by omega) (by omega)
      have ix2 : (nI (b + 1)).toNatClampNeg = b + 1 := ixL (by omega)
      have vx2 : vp_in (nI (b + 1)) 5 = True := vpL (by omega) (by omega)
      have r1 := hb _ (show bmU (it a i) b < 5 by omega)
      have r2 := hb _ (show b + 1 < 5 by omega)
      have hu : bmU (it a i) (b + 1) = if it a i (7 + bmU (it a i) b) < it a i (7 + (b + 1)) then b + 1 else bmU (it a i) b := rfl
      have ih' := ih (b + 1) (by omega)
      rw [hu] at ih'
      refine V_run hB (rt := some .int) (nL := 3) (mc := 0) rfl rfl rfl obX6_buyerAlone_4 ?_
      dsimp only [bX6_buyerAlone_4, ↓wpb, ↓wp1, ↓vI, ↓vL, ↓vD, ↓ldI, ↓ldL, ↓ldD, ↓ldR, ↓k1, ↓k2, ↓kI, ↓kL, ↓kD, ↓kII, ↓kLL, ↓kDD, ↓kR, ↓kIR, ↓kLR, ↓kIIR, ↓kLIR, ↓kDIR, ↓kRIR, ↓kNN, ↓kE, ↓br, ↓bn, ↓rtI, ↓gfv, ↓zchk, lput, ldel, lbad, alA, acat, isRf, dom, dS, dJ, isO, aTy, aLen, elAV, elR, Nat.reduceBEq, Nat.reduceAdd, Bool.or, Bool.and, Nat.add_zero, Nat.zero_add]
      try simp only [Nat.reduceLT, Nat.reduceLeDiff, Nat.reduceEqDiff, true_and, and_true, and_self, Nat.zero_le, Nat.le_refl, true_or, or_true, Bool.false_eq_true, not_false_eq_true, Nat.reduceAdd, Nat.lt_add_one, Nat.zero_lt_one, nI_add, pk_mul, ixL, vpL, ne_eq, reduceIte, wI_sN, wL_sM, sN_same, sN_K, sN_2, sM_1, sM_same, sM_K, sM_s, uI_at, uN_at, enc_at, uI_enc, uI_uI, upM_s, upM_n, hp, ix, vx, ix2, vx2, r1, r2]
      refine ⟨fun q => absurd q (nI_ge (by omega) (by omega)), fun _ => ⟨fun q => ?_, fun q => ?_⟩⟩
      · rw [nI_leI (hbd _) (hbd _)] at q
        rw [if_neg (by omega)] at ih'
        refine V_run hB (rt := some .int) (nL := 3) (mc := 0) rfl rfl rfl obX6_buyerAlone_26 ?_
        dsimp only [bX6_buyerAlone_26, ↓wpb, ↓wp1, ↓vI, ↓vL, ↓vD, ↓ldI, ↓ldL, ↓ldD, ↓ldR, ↓k1, ↓k2, ↓kI, ↓kL, ↓kD, ↓kII, ↓kLL, ↓kDD, ↓kR, ↓kIR, ↓kLR, ↓kIIR, ↓kLIR, ↓kDIR, ↓kRIR, ↓kNN, ↓kE, ↓br, ↓bn, ↓rtI, ↓gfv, ↓zchk, lput, ldel, lbad, alA, acat, isRf, dom, dS, dJ, isO, aTy, aLen, elAV, elR, Nat.reduceBEq, Nat.reduceAdd, Bool.or, Bool.and, Nat.add_zero, Nat.zero_add]
        try simp only [Nat.reduceLT, Nat.reduceLeDiff, Nat.reduceEqDiff, true_and, and_true, and_self, Nat.zero_le, Nat.le_refl, true_or, or_true, Bool.false_eq_true, not_false_eq_true, Nat.reduceAdd, Nat.lt_add_one, Nat.zero_lt_one, nI_add, pk_mul, ixL, vpL, ne_eq, reduceIte, wI_sN, wL_sM, sN_same, sN_K, sN_2, sM_1, sM_same, sM_K, sM_s, uI_at, uN_at, enc_at, uI_enc, uI_uI, upM_s, upM_n]
        exact ih'
      · rw [nI_leI (hbd _) (hbd _)] at q
        rw [if_pos (by omega)] at ih'
        exact ih'
  refine V_run hB (rt := some .int) (nL := 3) (mc := 0) rfl rfl rfl obX6_buyerAlone_0 ?_
  dsimp only [bX6_buyerAlone_0, ↓wpb, ↓wp1, ↓vI, ↓vL, ↓vD, ↓ldI, ↓ldL, ↓ldD, ↓ldR, ↓k1, ↓k2, ↓kI, ↓kL, ↓kD, ↓kII, ↓kLL, ↓kDD, ↓kR, ↓kIR, ↓kLR, ↓kIIR, ↓kLIR, ↓kDIR, ↓kRIR, ↓kNN, ↓kE, ↓br, ↓bn, ↓rtI, ↓gfv, ↓zchk, lput, ldel, lbad, alA, acat, isRf, dom, dS, dJ, isO, aTy, aLen, elAV, elR, Nat.reduceBEq, Nat.reduceAdd, Bool.or, Bool.and, Nat.add_zero, Nat.zero_add]
  try simp only [Nat.reduceLT, Nat.reduceLeDiff, Nat.reduceEqDiff, true_and, and_true, and_self, Nat.zero_le, Nat.le_refl, true_or, or_true, Bool.false_eq_true, not_false_eq_true, Nat.reduceAdd, Nat.lt_add_one, Nat.zero_lt_one, nI_add, pk_mul, ixL, vpL, ne_eq, reduceIte, wI_sN, wL_sM, sN_same, sN_K, sN_2, sM_1, sM_same, sM_K, sM_s, uI_at, uN_at, enc_at, uI_enc, uI_uI, upM_s, upM_n]
  exact head 4 0 (by omega)
theorem paid_max (a : Nat → Nat) (i y b : Nat) : paidU a i y (b + 1) = if b ≠ y then max (paidU a i y b) (it a i (7 + b)) else paidU a i y b := by
  have hu : paidU a i y (b + 1) = if b ≠ y ∧ paidU a i y b < it a i (7 + b) then it a i (7 + b) else paidU a i y b := rfl
  rw [hu]
  by_cases h : b ≠ y
  · rw [if_pos h]
    by_cases h2 : paidU a i y b < it a i (7 + b)
    · rw [if_pos ⟨h, h2⟩, Nat.max_eq_right (by omega)]
    · rw [if_neg (fun z => h2 z.2), Nat.max_eq_left (by omega)]
  · rw [if_neg (fun z => h z.1), if_neg h]
theorem c_price (hc : Ctx l G) {τ : Mem} {a : Nat → Nat} {i p y : Nat} (hp : p < 10) (hy : y < 5) (h3 : τ.1 (5, 0, p) 3 = nI (it a i 4)) (hb : ∀ c, c < 5 → τ.1 (12, 0, p) c = nI (it a i (7 + c))) (hbd : ∀ k, a k < 1073741824) : Sat l G iX6_priceAlone [.inr (5, 0, p), aI (nI y)] τ (retI (nI (paid a i y)) τ) := by
  have hpl := fun b => paidU_lt (i := i) (y := y) hbd b
  refine Sat_of hc.1 hc.2 (by decide +kernel) (Nat.le_of_ble_eq_true rfl) (fun x hB hno => ?_)
  have head : ∀ w b, b + w = 5 → V x τ 0 7 [(0, .inr (5, 0, p)), (1, aI (nI y)), (2, aI (nI (paidU a i y b))), (3, aI (nI b))] [] := by
    intro w
    induction w with
    | zero =>
      intro b hw
      have hw : b = 5 := by omega
      subst hw
      refine V_run hB (rt := some .int) (nL := 4) (mc := 0) rfl rfl rfl obX6_priceAlone_7 ?_
      dsimp only [bX6_priceAlone_7, ↓wpb, ↓wp1, ↓vI, ↓vL, ↓vD, ↓ldI, ↓ldL, ↓ldD, ↓ldR, ↓k1, ↓k2, ↓kI, ↓kL, ↓kD, ↓kII, ↓kLL, ↓kDD, ↓kR, ↓kIR, ↓kLR, ↓kIIR, ↓kLIR, ↓kDIR, ↓kRIR, ↓kNN, ↓kE, ↓br, ↓bn, ↓rtI, ↓gfv, ↓zchk, lput, ldel, lbad, alA, acat, isRf, dom, dS, dJ, isO, aTy, aLen, elAV, elR, Nat.reduceBEq, Nat.reduceAdd, Bool.or, Bool.and, Nat.add_zero, Nat.zero_add]
      try simp only [Nat.reduceLT, Nat.reduceLeDiff, Nat.reduceEqDiff, true_and, and_true, and_self, Nat.zero_le, Nat.le_refl, true_or, or_true, Bool.false_eq_true, not_false_eq_true, Nat.reduceAdd, Nat.lt_add_one, Nat.zero_lt_one, nI_add, pk_mul, ixL, vpL, ne_eq, reduceIte, wI_sN, wL_sM, sN_same, sN_K, sN_2, sM_1, sM_same, sM_K, sM_s, uI_at, uN_at, enc_at, uI_enc, uI_uI, upM_s, upM_n]
      refine ⟨fun _ => ?_, fun q => absurd (nI_le (by omega) (by omega)) q⟩
      refine V_run hB (rt := some .int) (nL := 4) (mc := 0) rfl rfl rfl obX6_priceAlone_34 ?_
      dsimp only [bX6_priceAlone_34, ↓wpb, ↓wp1, ↓vI, ↓vL, ↓vD, ↓ldI, ↓ldL, ↓ldD, ↓ldR, ↓k1, ↓k2, ↓kI, ↓kL, ↓kD, ↓kII, ↓kLL, ↓kDD, ↓kR, ↓kIR, ↓kLR, ↓kIIR, ↓kLIR, ↓kDIR, ↓kRIR, ↓kNN, ↓kE, ↓br, ↓bn, ↓rtI, ↓gfv, ↓zchk, lput, ldel, lbad, alA, acat, isRf, dom, dS, dJ, isO, aTy, aLen, elAV, elR, Nat.reduceBEq, Nat.reduceAdd, Bool.or, Bool.and, Nat.add_zero, Nat.zero_add]
      try simp only [Nat.reduceLT, Nat.reduceLeDiff, Nat.reduceEqDiff, true_and, and_true, and_self, Nat.zero_le, Nat.le_refl, true_or, or_true, Bool.false_eq_true, not_false_eq_true, Nat.reduceAdd, Nat.lt_add_one, Nat.zero_lt_one, nI_add, pk_mul, ixL, vpL, ne_eq, reduceIte, wI_sN, wL_sM, sN_same, sN_K, sN_2, sM_1, sM_same, sM_K, sM_s, uI_at, uN_at, enc_at, uI_enc, uI_uI, upM_s, upM_n]
      exact ⟨rfl, rfl⟩
    | succ w ih =>
      intro b hw
      have ix : (nI b).toNatClampNeg = b := ixL (by omega)
      have vx : vp_in (nI b) 5 = True := vpL (by omega) (by omega)
      have r := hb b (by omega)
      have ih' := ih (b + 1) (by omega)
      rw [paid_max] at ih'
      refine V_run hB (rt := some .int) (nL := 4) (mc := 0) rfl rfl rfl obX6_priceAlone_7 ?_
      dsimp only [bX6_priceAlone_7, ↓wpb, ↓wp1, ↓vI, ↓vL, ↓vD, ↓ldI, ↓ldL, ↓ldD, ↓ldR, ↓k1, ↓k2, ↓kI, ↓kL, ↓kD, ↓kII, ↓kLL, ↓kDD, ↓kR, ↓kIR, ↓kLR, ↓kIIR, ↓kLIR, ↓kDIR, ↓kRIR, ↓kNN, ↓kE, ↓br, ↓bn, ↓rtI, ↓gfv, ↓zchk, lput, ldel, lbad, alA, acat, isRf, dom, dS, dJ, isO, aTy, aLen, elAV, elR, Nat.reduceBEq, Nat.reduceAdd, Bool.or, Bool.and, Nat.add_zero, Nat.zero_add]
      try simp only [Nat.reduceLT, Nat.reduceLeDiff, Nat.reduceEqDiff, true_and, and_true, and_self, Nat.zero_le, Nat.le_refl, true_or, or_true, Bool.false_eq_true, not_false_eq_true, Nat.reduceAdd, Nat.lt_add_one, Nat.zero_lt_one, nI_add, pk_mul, ixL, vpL, ne_eq, reduceIte, wI_sN, wL_sM, sN_same, sN_K, sN_2, sM_1, sM_same, sM_K, sM_s, uI_at, uN_at, enc_at, uI_enc, uI_uI, upM_s, upM_n, hp, ix, vx, r]
      refine ⟨fun q => absurd q (nI_ge (by omega) (by omega)), fun _ => ⟨fun q => ?_, fun q => ?_⟩⟩
      · have q := (nI_eq (by omega) (by omega)).mp q
        rw [if_neg (fun z => z q)] at ih'
        refine V_run hB (rt := some .int) (nL := 4) (mc := 0) rfl rfl rfl obX6_priceAlone_28 ?_
        dsimp only [bX6_priceAlone_28, ↓wpb, ↓wp1, ↓vI, ↓vL, ↓vD, ↓ldI, ↓ldL, ↓ldD, ↓ldR, ↓k1, ↓k2, ↓kI, ↓kL, ↓kD, ↓kII, ↓kLL, ↓kDD, ↓kR, ↓kIR, ↓kLR, ↓kIIR, ↓kLIR, ↓kDIR, ↓kRIR, ↓kNN, ↓kE, ↓br, ↓bn, ↓rtI, ↓gfv, ↓zchk, lput, ldel, lbad, alA, acat, isRf, dom, dS, dJ, isO, aTy, aLen, elAV, elR, Nat.reduceBEq, Nat.reduceAdd, Bool.or, Bool.and, Nat.add_zero, Nat.zero_add]
        try simp only [Nat.reduceLT, Nat.reduceLeDiff, Nat.reduceEqDiff, true_and, and_true, and_self, Nat.zero_le, Nat.le_refl, true_or, or_true, Bool.false_eq_true, not_false_eq_true, Nat.reduceAdd, Nat.lt_add_one, Nat.zero_lt_one, nI_add, pk_mul, ixL, vpL, ne_eq, reduceIte, wI_sN, wL_sM, sN_same, sN_K, sN_2, sM_1, sM_same, sM_K, sM_s, uI_at, uN_at, enc_at, uI_enc, uI_uI, upM_s, upM_n]
        exact ih'
      · have q : b ≠ y := fun z => q (by rw [z])
        rw [if_pos q] at ih'
        have h1 := hpl b
        have h2 : it a i (7 + b) < 1073741824 := hbd _
        refine V_cS hB hno (q_max hc τ (a := paidU a i y b) (b := it a i (7 + b)) (by omega) (by omega)) rfl (by decide +kernel) csX6_44 npJ9_max_7cf53 ⟨by decide, by decide⟩ (Nat.le_of_ble_eq_true rfl) (n' := 0) (by decide) rfl ?_
        refine V_run hB (rt := some .int) (nL := 4) (mc := 0) rfl rfl rfl obX6_priceAlone_27 ?_
        dsimp only [bX6_priceAlone_27, ↓wpb, ↓wp1, ↓vI, ↓vL, ↓vD, ↓ldI, ↓ldL, ↓ldD, ↓ldR, ↓k1, ↓k2, ↓kI, ↓kL, ↓kD, ↓kII, ↓kLL, ↓kDD, ↓kR, ↓kIR, ↓kLR, ↓kIIR, ↓kLIR, ↓kDIR, ↓kRIR, ↓kNN, ↓kE, ↓br, ↓bn, ↓rtI, ↓gfv, ↓zchk, lput, ldel, lbad, alA, acat, isRf, dom, dS, dJ, isO, aTy, aLen, elAV, elR, Nat.reduceBEq, Nat.reduceAdd, Bool.or, Bool.and, Nat.add_zero, Nat.zero_add]
        try simp only [Nat.reduceLT, Nat.reduceLeDiff, Nat.reduceEqDiff, true_and, and_true, and_self, Nat.zero_le, Nat.le_refl, true_or, or_true, Bool.false_eq_true, not_false_eq_true, Nat.reduceAdd, Nat.lt_add_one, Nat.zero_lt_one, nI_add, pk_mul, ixL, vpL, ne_eq, reduceIte, wI_sN, wL_sM, sN_same, sN_K, sN_2, sM_1, sM_same, sM_K, sM_s, uI_at, uN_at, enc_at, uI_enc, uI_uI, upM_s, upM_n]
        exact ih'
  refine V_run hB (rt := some .int) (nL := 4) (mc := 0) rfl rfl rfl obX6_priceAlone_0 ?_
  dsimp only [bX6_priceAlone_0, ↓wpb, ↓wp1, ↓vI, ↓vL, ↓vD, ↓ldI, ↓ldL, ↓ldD, ↓ldR, ↓k1, ↓k2, ↓kI, ↓kL, ↓kD, ↓kII, ↓kLL, ↓kDD, ↓kR, ↓kIR, ↓kLR, ↓kIIR, ↓kLIR, ↓kDIR, ↓kRIR, ↓kNN, ↓kE, ↓br, ↓bn, ↓rtI, ↓gfv, ↓zchk, lput, ldel, lbad, alA, acat, isRf, dom, dS, dJ, isO, aTy, aLen, elAV, elR, Nat.reduceBEq, Nat.reduceAdd, Bool.or, Bool.and, Nat.add_zero, Nat.zero_add]
  try simp only [Nat.reduceLT, Nat.reduceLeDiff, Nat.reduceEqDiff, true_and, and_true, and_self, Nat.zero_le, Nat.le_refl, true_or, or_true, Bool.false_eq_true, not_false_eq_true, Nat.reduceAdd, Nat.lt_add_one, Nat.zero_lt_one, nI_add, pk_mul, ixL, vpL, ne_eq, reduceIte, wI_sN, wL_sM, sN_same, sN_K, sN_2, sM_1, sM_same, sM_K, sM_s, uI_at, uN_at, enc_at, uI_enc, uI_uI, upM_s, upM_n, hp, h3]
  exact head 5 0 (by omega)
end C2
