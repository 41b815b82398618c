/-! ===== the slip: a letter, a text appended ===== -/
section AP
variable {l : Launch} {G : GG} {τ : Mem}
/-- what is appended -/
def SbA (τ : Mem) (ts : List Nat) (τ' : Mem) : Prop := ∃ v c tt, τ' = sbU τ v c (τ.2.2.2.2.1 + ts.length) tt ∧ (∀ j, j < τ.2.2.2.2.1 → tt j = τ.2.2.2.2.2 j) ∧ ∀ j c, ts[j]? = some c → tt (τ.2.2.2.2.1 + j) = c
def SbO (τ : Mem) (ts : List Nat) : AOut → Mem → Prop := fun o τ' => o = .inl (some sbM) ∧ SbA τ ts τ'
theorem byte_ok : ∀ c, c < 256 → vp_nar .byte ((nI c).toInt8.toInt32) = sb_b c := by decide +kernel
theorem p_appC5 (hc : CtxE l G) (hS : SlF G) {c : Nat} (hc2 : c < 256) (hN : τ.2.2.2.2.1 + 1 ≤ 99) : Sat l G iJ5_append_3fe6f [sbM, aI (nI c)] τ (SbO τ [c]) := by
  refine Sat_ofF hc.1.1 hc.1.2 (by decide +kernel) (Nat.le_of_ble_eq_true rfl) (fun x hB hno => ?_)
  refine V_sbi (fun hn hcap ht => ?_)
  refine V_run hB (rt := some (.object "java/lang/AbstractStringBuilder")) (nL := 2) (mc := 20) rfl rfl rfl (ops := [(0, .aload_n 0, 1, (0, 0, 0, 0, 0, 0), 0), (1, .aload_n 0, 1, (0, 0, 0, 0, 0, 0), 0)]) (by decide +kernel) ?_
  dsimp only [↓wpb, ↓wp1, ↓vI, ↓vL, ↓vD, ↓ldI, ↓ldL, ↓ldD, ↓ldR, ↓k1, ↓k2, ↓kI, ↓kL, ↓kD, ↓kII, ↓kLL, ↓kDD, ↓kR, ↓kIR, ↓kLR, ↓kIIR, ↓kLIR, ↓kDIR, ↓kRIR, ↓kNN, ↓kE, ↓br, ↓bn, ↓rtI, ↓gfv, ↓zchk, lput, ldel, lbad, alA, acat, isRf, dom, dS, dJ, isO, aTy, aLen, elAV, elR, Nat.reduceBEq, Nat.reduceAdd, Bool.or, Bool.and, Nat.add_zero, Nat.zero_add]
  try simp only [Nat.reduceLT, Nat.reduceLeDiff, Nat.reduceEqDiff, true_and, and_true, and_self, Nat.zero_le, Nat.le_refl, true_or, or_true, Bool.false_eq_true, not_false_eq_true, Nat.reduceAdd, Nat.lt_add_one, Nat.zero_lt_one, nI_add, pk_mul, ixL, vpL, ne_eq, reduceIte, wI_sN, wL_sM, sN_same, sN_K, sN_2, sM_1, sM_same, sM_K, sM_s, uI_at, uN_at, enc_at, uI_enc, uI_uI, upM_s, upM_n]
  refine V_sbg hB (k := 3) (v := aI (nI τ.2.2.2.2.1)) (Or.inr (Or.inr ⟨rfl, rfl⟩)) (idx := 79) (TBg_at 376 (by decide +kernel)) (by decide +kernel) ?_
  refine V_run hB (rt := some (.object "java/lang/AbstractStringBuilder")) (nL := 2) (mc := 20) rfl rfl rfl (ops := [(5, .iconst 1, 1, (0, 0, 0, 0, 0, 0), nI 1), (6, .iadd, 1, (0, 0, 0, 0, 0, 0), 0)]) (by decide +kernel) ?_
  dsimp only [↓wpb, ↓wp1, ↓vI, ↓vL, ↓vD, ↓ldI, ↓ldL, ↓ldD, ↓ldR, ↓k1, ↓k2, ↓kI, ↓kL, ↓kD, ↓kII, ↓kLL, ↓kDD, ↓kR, ↓kIR, ↓kLR, ↓kIIR, ↓kLIR, ↓kDIR, ↓kRIR, ↓kNN, ↓kE, ↓br, ↓bn, ↓rtI, ↓gfv, ↓zchk, lput, ldel, lbad, alA, acat, isRf, dom, dS, dJ, isO, aTy, aLen, elAV, elR, Nat.reduceBEq, Nat.reduceAdd, Bool.or, Bool.and, Nat.add_zero, Nat.zero_add]
  try simp only [Nat.reduceLT, Nat.reduceLeDiff, Nat.reduceEqDiff, true_and, and_true, and_self, Nat.zero_le, Nat.le_refl, true_or, or_true, Bool.false_eq_true, not_false_eq_true, Nat.reduceAdd, Nat.lt_add_one, Nat.zero_lt_one, nI_add, pk_mul, ixL, vpL, ne_eq, reduceIte, wI_sN, wL_sM, sN_same, sN_K, sN_2, sM_1, sM_same, sM_K, sM_s, uI_at, uN_at, enc_at, uI_enc, uI_uI, upM_s, upM_n]
  refine V_callU hB hno hS (p_ensure hc hS (q := τ.2.2.2.2.1 + 1) hN) rfl (by decide +kernel) cu5J5_100 npJ5_ensureCapacityInternal_d00df ⟨by decide, by decide⟩ (Nat.le_of_ble_eq_true rfl) (by decide) (fun w τ' hh => ?_) (fun E τ' hh => by cases hh.1)
  obtain ⟨e, v, c', tt, rfl, hq, hcc, hc200, htt⟩ := hh
  cases e
  show V x (sbU τ v c' τ.2.2.2.2.1 tt) 20 10 _ []
  refine V_run hB (rt := some (.object "java/lang/AbstractStringBuilder")) (nL := 2) (mc := 20) rfl rfl rfl (ops := [(10, .aload_n 0, 1, (0, 0, 0, 0, 0, 0), 0)]) (by decide +kernel) ?_
  dsimp only [↓wpb, ↓wp1, ↓vI, ↓vL, ↓vD, ↓ldI, ↓ldL, ↓ldD, ↓ldR, ↓k1, ↓k2, ↓kI, ↓kL, ↓kD, ↓kII, ↓kLL, ↓kDD, ↓kR, ↓kIR, ↓kLR, ↓kIIR, ↓kLIR, ↓kDIR, ↓kRIR, ↓kNN, ↓kE, ↓br, ↓bn, ↓rtI, ↓gfv, ↓zchk, lput, ldel, lbad, alA, acat, isRf, dom, dS, dJ, isO, aTy, aLen, elAV, elR, Nat.reduceBEq, Nat.reduceAdd, Bool.or, Bool.and, Nat.add_zero, Nat.zero_add]
  try simp only [Nat.reduceLT, Nat.reduceLeDiff, Nat.reduceEqDiff, true_and, and_true, and_self, Nat.zero_le, Nat.le_refl, true_or, or_true, Bool.false_eq_true, not_false_eq_true, Nat.reduceAdd, Nat.lt_add_one, Nat.zero_lt_one, nI_add, pk_mul, ixL, vpL, ne_eq, reduceIte, wI_sN, wL_sM, sN_same, sN_K, sN_2, sM_1, sM_same, sM_K, sM_s, uI_at, uN_at, enc_at, uI_enc, uI_uI, upM_s, upM_n]
  refine V_callU hB hno hS (p_isLatin1 hc) rfl (by decide +kernel) cu5J5_83 npJ5_isLatin1_aae02 ⟨by decide, by decide⟩ (Nat.le_of_ble_eq_true rfl) (by decide) (fun w τ' hh => ?_) (fun E τ' hh => by cases hh.1)
  obtain ⟨e, rfl⟩ := hh
  cases e
  show V x (sbU τ v c' τ.2.2.2.2.1 tt) 20 14 _ [aI (nI 1)]
  refine V_run hB (rt := some (.object "java/lang/AbstractStringBuilder")) (nL := 2) (mc := 20) rfl rfl rfl (ops := [(14, .ifCond .eq 31, 3, (45, 0, 0, 0, 0, 0), 0), (17, .iload_n 1, 1, (1, 0, 0, 0, 0, 0), 0)]) (by decide +kernel) ?_
  dsimp only [↓wpb, ↓wp1, ↓vI, ↓vL, ↓vD, ↓ldI, ↓ldL, ↓ldD, ↓ldR, ↓k1, ↓k2, ↓kI, ↓kL, ↓kD, ↓kII, ↓kLL, ↓kDD, ↓kR, ↓kIR, ↓kLR, ↓kIIR, ↓kLIR, ↓kDIR, ↓kRIR, ↓kNN, ↓kE, ↓br, ↓bn, ↓rtI, ↓gfv, ↓zchk, lput, ldel, lbad, alA, acat, isRf, dom, dS, dJ, isO, aTy, aLen, elAV, elR, Nat.reduceBEq, Nat.reduceAdd, Bool.or, Bool.and, Nat.add_zero, Nat.zero_add]
  try simp only [Nat.reduceLT, Nat.reduceLeDiff, Nat.reduceEqDiff, true_and, and_true, and_self, Nat.zero_le, Nat.le_refl, true_or, or_true, Bool.false_eq_true, not_false_eq_true, Nat.reduceAdd, Nat.lt_add_one, Nat.zero_lt_one, nI_add, pk_mul, ixL, vpL, ne_eq, reduceIte, wI_sN, wL_sM, sN_same, sN_K, sN_2, sM_1, sM_same, sM_K, sM_s, uI_at, uN_at, enc_at, uI_enc, uI_uI, upM_s, upM_n]
  refine ⟨fun q => absurd q (by decide), fun _ => ?_⟩
  refine V_cS hB hno (p_canEncode hc hc2) rfl (by decide +kernel) cs5J5_191 npJ1_canEncode_fc78d ⟨by decide, by decide⟩ (Nat.le_of_ble_eq_true rfl) (n' := 20) (by decide) rfl ?_
  refine V_run hB (rt := some (.object "java/lang/AbstractStringBuilder")) (nL := 2) (mc := 20) rfl rfl rfl (ops := [(21, .ifCond .eq 24, 3, (45, 0, 0, 0, 0, 0), 0), (24, .aload_n 0, 1, (0, 0, 0, 0, 0, 0), 0)]) (by decide +kernel) ?_
  dsimp only [↓wpb, ↓wp1, ↓vI, ↓vL, ↓vD, ↓ldI, ↓ldL, ↓ldD, ↓ldR, ↓k1, ↓k2, ↓kI, ↓kL, ↓kD, ↓kII, ↓kLL, ↓kDD, ↓kR, ↓kIR, ↓kLR, ↓kIIR, ↓kLIR, ↓kDIR, ↓kRIR, ↓kNN, ↓kE, ↓br, ↓bn, ↓rtI, ↓gfv, ↓zchk, lput, ldel, lbad, alA, acat, isRf, dom, dS, dJ, isO, aTy, aLen, elAV, elR, Nat.reduceBEq, Nat.reduceAdd, Bool.or, Bool.and, Nat.add_zero, Nat.zero_add]
  try simp only [Nat.reduceLT, Nat.reduceLeDiff, Nat.reduceEqDiff, true_and, and_true, and_self, Nat.zero_le, Nat.le_refl, true_or, or_true, Bool.false_eq_true, not_false_eq_true, Nat.reduceAdd, Nat.lt_add_one, Nat.zero_lt_one, nI_add, pk_mul, ixL, vpL, ne_eq, reduceIte, wI_sN, wL_sM, sN_same, sN_K, sN_2, sM_1, sM_same, sM_K, sM_s, uI_at, uN_at, enc_at, uI_enc, uI_uI, upM_s, upM_n]
  refine ⟨fun q => absurd q (by decide), fun _ => ?_⟩
  refine V_sbg hB (k := 0) (v := .inl (.ref v)) (Or.inl ⟨rfl, rfl⟩) (idx := 15) (TBg_at 372 (by decide +kernel)) (by decide +kernel) ?_
  refine V_run hB (rt := some (.object "java/lang/AbstractStringBuilder")) (nL := 2) (mc := 20) rfl rfl rfl (ops := [(28, .aload_n 0, 1, (0, 0, 0, 0, 0, 0), 0), (29, .dup, 1, (0, 0, 0, 0, 0, 0), 0)]) (by decide +kernel) ?_
  dsimp only [↓wpb, ↓wp1, ↓vI, ↓vL, ↓vD, ↓ldI, ↓ldL, ↓ldD, ↓ldR, ↓k1, ↓k2, ↓kI, ↓kL, ↓kD, ↓kII, ↓kLL, ↓kDD, ↓kR, ↓kIR, ↓kLR, ↓kIIR, ↓kLIR, ↓kDIR, ↓kRIR, ↓kNN, ↓kE, ↓br, ↓bn, ↓rtI, ↓gfv, ↓zchk, lput, ldel, lbad, alA, acat, isRf, dom, dS, dJ, isO, aTy, aLen, elAV, elR, Nat.reduceBEq, Nat.reduceAdd, Bool.or, Bool.and, Nat.add_zero, Nat.zero_add]
  try simp only [Nat.reduceLT, Nat.reduceLeDiff, Nat.reduceEqDiff, true_and, and_true, and_self, Nat.zero_le, Nat.le_refl, true_or, or_true, Bool.false_eq_true, not_false_eq_true, Nat.reduceAdd, Nat.lt_add_one, Nat.zero_lt_one, nI_add, pk_mul, ixL, vpL, ne_eq, reduceIte, wI_sN, wL_sM, sN_same, sN_K, sN_2, sM_1, sM_same, sM_K, sM_s, uI_at, uN_at, enc_at, uI_enc, uI_uI, upM_s, upM_n]
  refine V_sbg hB (k := 3) (v := aI (nI τ.2.2.2.2.1)) (Or.inr (Or.inr ⟨rfl, rfl⟩)) (idx := 79) (TBg_at 376 (by decide +kernel)) (by decide +kernel) ?_
  refine V_run hB (rt := some (.object "java/lang/AbstractStringBuilder")) (nL := 2) (mc := 20) rfl rfl rfl (ops := [(33, .dup_x1, 1, (0, 0, 0, 0, 0, 0), 0), (34, .iconst 1, 1, (0, 0, 0, 0, 0, 0), nI 1), (35, .iadd, 1, (0, 0, 0, 0, 0, 0), 0)]) (by decide +kernel) ?_
  dsimp only [↓wpb, ↓wp1, ↓vI, ↓vL, ↓vD, ↓ldI, ↓ldL, ↓ldD, ↓ldR, ↓k1, ↓k2, ↓kI, ↓kL, ↓kD, ↓kII, ↓kLL, ↓kDD, ↓kR, ↓kIR, ↓kLR, ↓kIIR, ↓kLIR, ↓kDIR, ↓kRIR, ↓kNN, ↓kE, ↓br, ↓bn, ↓rtI, ↓gfv, ↓zchk, lput, ldel, lbad, alA, acat, isRf, dom, dS, dJ, isO, aTy, aLen, elAV, elR, Nat.reduceBEq, Nat.reduceAdd, Bool.or, Bool.and, Nat.add_zero, Nat.zero_add]
  try simp only [Nat.reduceLT, Nat.reduceLeDiff, Nat.reduceEqDiff, true_and, and_true, and_self, Nat.zero_le, Nat.le_refl, true_or, or_true, Bool.false_eq_true, not_false_eq_true, Nat.reduceAdd, Nat.lt_add_one, Nat.zero_lt_one, nI_add, pk_mul, ixL, vpL, ne_eq, reduceIte, wI_sN, wL_sM, sN_same, sN_K, sN_2, sM_1, sM_same, sM_K, sM_s, uI_at, uN_at, enc_at, uI_enc, uI_uI, upM_s, upM_n]
  refine V_sbp hB (q := τ.2.2.2.2.1 + 1) hq (idx := 79) ⟨RJ4, TJ4, 4, tyJ4, .int, rfl, by decide, (TBg_at 376 (by decide +kernel)), lay_J4, tyJ4_ok, nmJ4, rfl, rfl, rfl, rfl⟩ (by decide +kernel) ?_
  refine V_run hB (rt := some (.object "java/lang/AbstractStringBuilder")) (nL := 2) (mc := 20) rfl rfl rfl (ops := [(39, .iload_n 1, 1, (1, 0, 0, 0, 0, 0), 0)]) (by decide +kernel) ?_
  dsimp only [↓wpb, ↓wp1, ↓vI, ↓vL, ↓vD, ↓ldI, ↓ldL, ↓ldD, ↓ldR, ↓k1, ↓k2, ↓kI, ↓kL, ↓kD, ↓kII, ↓kLL, ↓kDD, ↓kR, ↓kIR, ↓kLR, ↓kIIR, ↓kLIR, ↓kDIR, ↓kRIR, ↓kNN, ↓kE, ↓br, ↓bn, ↓rtI, ↓gfv, ↓zchk, lput, ldel, lbad, alA, acat, isRf, dom, dS, dJ, isO, aTy, aLen, elAV, elR, Nat.reduceBEq, Nat.reduceAdd, Bool.or, Bool.and, Nat.add_zero, Nat.zero_add]
  try simp only [Nat.reduceLT, Nat.reduceLeDiff, Nat.reduceEqDiff, true_and, and_true, and_self, Nat.zero_le, Nat.le_refl, true_or, or_true, Bool.false_eq_true, not_false_eq_true, Nat.reduceAdd, Nat.lt_add_one, Nat.zero_lt_one, nI_add, pk_mul, ixL, vpL, ne_eq, reduceIte, wI_sN, wL_sM, sN_same, sN_K, sN_2, sM_1, sM_same, sM_K, sM_s, uI_at, uN_at, enc_at, uI_enc, uI_uI, upM_s, upM_n]
  refine V_i2b hB (by decide +kernel) ?_
  refine V_sbst hB (j := τ.2.2.2.2.1) (c9 := c) (show τ.2.2.2.2.1 < c' by omega) (by omega) (byte_ok c hc2) hc2 (by decide +kernel) ?_
  refine V_run hB (rt := some (.object "java/lang/AbstractStringBuilder")) (nL := 2) (mc := 20) rfl rfl rfl (ops := [(42, .goto 33, 3, (75, 0, 0, 0, 0, 0), 0)]) (by decide +kernel) ?_
  dsimp only [↓wpb, ↓wp1, ↓vI, ↓vL, ↓vD, ↓ldI, ↓ldL, ↓ldD, ↓ldR, ↓k1, ↓k2, ↓kI, ↓kL, ↓kD, ↓kII, ↓kLL, ↓kDD, ↓kR, ↓kIR, ↓kLR, ↓kIIR, ↓kLIR, ↓kDIR, ↓kRIR, ↓kNN, ↓kE, ↓br, ↓bn, ↓rtI, ↓gfv, ↓zchk, lput, ldel, lbad, alA, acat, isRf, dom, dS, dJ, isO, aTy, aLen, elAV, elR, Nat.reduceBEq, Nat.reduceAdd, Bool.or, Bool.and, Nat.add_zero, Nat.zero_add]
  try simp only [Nat.reduceLT, Nat.reduceLeDiff, Nat.reduceEqDiff, true_and, and_true, and_self, Nat.zero_le, Nat.le_refl, true_or, or_true, Bool.false_eq_true, not_false_eq_true, Nat.reduceAdd, Nat.lt_add_one, Nat.zero_lt_one, nI_add, pk_mul, ixL, vpL, ne_eq, reduceIte, wI_sN, wL_sM, sN_same, sN_K, sN_2, sM_1, sM_same, sM_K, sM_s, uI_at, uN_at, enc_at, uI_enc, uI_uI, upM_s, upM_n]
  refine V_run hB (rt := some (.object "java/lang/AbstractStringBuilder")) (nL := 2) (mc := 20) rfl rfl rfl (ops := [(75, .aload_n 0, 1, (0, 0, 0, 0, 0, 0), 0), (76, .areturn, 1, (0, 0, 0, 0, 0, 0), 0)]) (by decide +kernel) ?_
  dsimp only [↓wpb, ↓wp1, ↓vI, ↓vL, ↓vD, ↓ldI, ↓ldL, ↓ldD, ↓ldR, ↓k1, ↓k2, ↓kI, ↓kL, ↓kD, ↓kII, ↓kLL, ↓kDD, ↓kR, ↓kIR, ↓kLR, ↓kIIR, ↓kLIR, ↓kDIR, ↓kRIR, ↓kNN, ↓kE, ↓br, ↓bn, ↓rtI, ↓gfv, ↓zchk, lput, ldel, lbad, alA, acat, isRf, dom, dS, dJ, isO, aTy, aLen, elAV, elR, Nat.reduceBEq, Nat.reduceAdd, Bool.or, Bool.and, Nat.add_zero, Nat.zero_add]
  try simp only [Nat.reduceLT, Nat.reduceLeDiff, Nat.reduceEqDiff, true_and, and_true, and_self, Nat.zero_le, Nat.le_refl, true_or, or_true, Bool.false_eq_true, not_false_eq_true, Nat.reduceAdd, Nat.lt_add_one, Nat.zero_lt_one, nI_add, pk_mul, ixL, vpL, ne_eq, reduceIte, wI_sN, wL_sM, sN_same, sN_K, sN_2, sM_1, sM_same, sM_K, sM_s, uI_at, uN_at, enc_at, uI_enc, uI_uI, upM_s, upM_n]
  refine ⟨Or.inl ⟨_, rfl⟩, rfl, v, c', fun q => if q = τ.2.2.2.2.1 then c else tt q, rfl, fun j hj => ?_, fun j c0 hj => ?_⟩
  · exact (if_neg (show ¬ j = τ.2.2.2.2.1 by omega)).trans (htt j (by omega))
  · cases j with
    | zero => cases hj; exact if_pos rfl
    | succ j => simp at hj
theorem p_appC (hc : CtxE l G) (hS : SlF G) {c : Nat} (hc2 : c < 256) (hN : τ.2.2.2.2.1 + 1 ≤ 99) : Sat l G iJ4_append_cf468 [sbM, aI (nI c)] τ (SbO τ [c]) := by
  refine Sat_ofF hc.1.1 hc.1.2 (by decide +kernel) (Nat.le_of_ble_eq_true rfl) (fun x hB hno => ?_)
  refine V_run hB (rt := some (.object "java/lang/StringBuilder")) (nL := 2) (mc := 20) rfl rfl rfl (ops := [(0, .aload_n 0, 1, (0, 0, 0, 0, 0, 0), 0), (1, .iload_n 1, 1, (1, 0, 0, 0, 0, 0), 0)]) (by decide +kernel) ?_
  dsimp only [↓wpb, ↓wp1, ↓vI, ↓vL, ↓vD, ↓ldI, ↓ldL, ↓ldD, ↓ldR, ↓k1, ↓k2, ↓kI, ↓kL, ↓kD, ↓kII, ↓kLL, ↓kDD, ↓kR, ↓kIR, ↓kLR, ↓kIIR, ↓kLIR, ↓kDIR, ↓kRIR, ↓kNN, ↓kE, ↓br, ↓bn, ↓rtI, ↓gfv, ↓zchk, lput, ldel, lbad, alA, acat, isRf, dom, dS, dJ, isO, aTy, aLen, elAV, elR, Nat.reduceBEq, Nat.reduceAdd, Bool.or, Bool.and, Nat.add_zero, Nat.zero_add]
  try simp only [Nat.reduceLT, Nat.reduceLeDiff, Nat.reduceEqDiff, true_and, and_true, and_self, Nat.zero_le, Nat.le_refl, true_or, or_true, Bool.false_eq_true, not_false_eq_true, Nat.reduceAdd, Nat.lt_add_one, Nat.zero_lt_one, nI_add, pk_mul, ixL, vpL, ne_eq, reduceIte, wI_sN, wL_sM, sN_same, sN_K, sN_2, sM_1, sM_same, sM_K, sM_s, uI_at, uN_at, enc_at, uI_enc, uI_uI, upM_s, upM_n]
  refine V_callSU hB hno (p_appC5 hc hS hc2 hN) rfl (by decide +kernel) su5J4_50 npJ5_append_3fe6f ⟨by decide, by decide⟩ (Nat.le_of_ble_eq_true rfl) (by decide) (fun w τ' hh => ?_) (fun E τ' hh => by cases hh.1)
  obtain ⟨e, hh⟩ := hh
  cases e
  show V x τ' 20 5 _ [sbM]
  refine V_run hB (rt := some (.object "java/lang/StringBuilder")) (nL := 2) (mc := 20) rfl rfl rfl (ops := [(5, .pop, 1, (0, 0, 0, 0, 0, 0), 0), (6, .aload_n 0, 1, (0, 0, 0, 0, 0, 0), 0), (7, .areturn, 1, (0, 0, 0, 0, 0, 0), 0)]) (by decide +kernel) ?_
  dsimp only [↓wpb, ↓wp1, ↓vI, ↓vL, ↓vD, ↓ldI, ↓ldL, ↓ldD, ↓ldR, ↓k1, ↓k2, ↓kI, ↓kL, ↓kD, ↓kII, ↓kLL, ↓kDD, ↓kR, ↓kIR, ↓kLR, ↓kIIR, ↓kLIR, ↓kDIR, ↓kRIR, ↓kNN, ↓kE, ↓br, ↓bn, ↓rtI, ↓gfv, ↓zchk, lput, ldel, lbad, alA, acat, isRf, dom, dS, dJ, isO, aTy, aLen, elAV, elR, Nat.reduceBEq, Nat.reduceAdd, Bool.or, Bool.and, Nat.add_zero, Nat.zero_add]
  try simp only [Nat.reduceLT, Nat.reduceLeDiff, Nat.reduceEqDiff, true_and, and_true, and_self, Nat.zero_le, Nat.le_refl, true_or, or_true, Bool.false_eq_true, not_false_eq_true, Nat.reduceAdd, Nat.lt_add_one, Nat.zero_lt_one, nI_add, pk_mul, ixL, vpL, ne_eq, reduceIte, wI_sN, wL_sM, sN_same, sN_K, sN_2, sM_1, sM_same, sM_K, sM_s, uI_at, uN_at, enc_at, uI_enc, uI_uI, upM_s, upM_n]
  exact ⟨Or.inl ⟨_, rfl⟩, rfl, hh⟩
end AP
