/-! ===== the slip: numbers, texts; its length, its letters ===== -/
section AP2
variable {l : Launch} {G : GG} {τ : Mem}
theorem dgL_at {v j c : Nat} (h : (dgL v)[j]? = some c) : j < sb_dg v ∧ c = 48 + v / 10 ^ (sb_dg v - 1 - j) % 10 := by
  unfold dgL at h
  rw [List.getElem?_map] at h
  by_cases hj : j < sb_dg v
  · rw [List.getElem?_range hj] at h
    exact ⟨hj, (Option.some.inj h).symm⟩
  · rw [List.getElem?_eq_none (by rw [List.length_range]; omega)] at h
    cases h
theorem dgL_len5 (v : Nat) : (dgL v).length = sb_dg v := by unfold dgL; rw [List.length_map, List.length_range]
theorem p_appI5 (hc : CtxE l G) (hS : SlF G) {w : Nat} (hw : w < 100000) (hN : τ.2.2.2.2.1 + sb_dg w ≤ 99) : Sat l G iJ5_append_c97b9 [sbM, aI (nI w)] τ (SbO τ (dgL w)) := by
  refine Sat_ofF hc.1.1 hc.1.2 (by decide +kernel) (Nat.le_of_ble_eq_true rfl) (fun x hB hno => ?_)
  refine V_sbi (fun hn hcap ht => ?_)
  refine V_run hB (rt := some (.object "java/lang/AbstractStringBuilder")) (nL := 4) (mc := 20) rfl rfl rfl (ops := [(0, .aload_n 0, 1, (0, 0, 0, 0, 0, 0), 0)]) (by decide +kernel) ?_
  dsimp only [↓wpb, ↓wp1, ↓vI, ↓vL, ↓vD, ↓ldI, ↓ldL, ↓ldD, ↓ldR, ↓k1, ↓k2, ↓kI, ↓kL, ↓kD, ↓kII, ↓kLL, ↓kDD, ↓kR, ↓kIR, ↓kLR, ↓kIIR, ↓kLIR, ↓kDIR, ↓kRIR, ↓kNN, ↓kE, ↓br, ↓bn, ↓rtI, ↓gfv, ↓zchk, lput, ldel, lbad, alA, acat, isRf, dom, dS, dJ, isO, aTy, aLen, elAV, elR, Nat.reduceBEq, Nat.reduceAdd, Bool.or, Bool.and, Nat.add_zero, Nat.zero_add]
  try simp only [Nat.reduceLT, Nat.reduceLeDiff, Nat.reduceEqDiff, true_and, and_true, and_self, Nat.zero_le, Nat.le_refl, true_or, or_true, Bool.false_eq_true, not_false_eq_true, Nat.reduceAdd, Nat.lt_add_one, Nat.zero_lt_one, nI_add, pk_mul, ixL, vpL, ne_eq, reduceIte, wI_sN, wL_sM, sN_same, sN_K, sN_2, sM_1, sM_same, sM_K, sM_s, uI_at, uN_at, enc_at, uI_enc, uI_uI, upM_s, upM_n]
  refine V_sbg hB (k := 3) (v := aI (nI τ.2.2.2.2.1)) (Or.inr (Or.inr ⟨rfl, rfl⟩)) (idx := 79) (TBg_at 376 (by decide +kernel)) (by decide +kernel) ?_
  refine V_run hB (rt := some (.object "java/lang/AbstractStringBuilder")) (nL := 4) (mc := 20) rfl rfl rfl (ops := [(4, .istore_n 2, 1, (2, 0, 0, 0, 0, 0), 0), (5, .iload_n 2, 1, (2, 0, 0, 0, 0, 0), 0), (6, .iload_n 1, 1, (1, 0, 0, 0, 0, 0), 0)]) (by decide +kernel) ?_
  dsimp only [↓wpb, ↓wp1, ↓vI, ↓vL, ↓vD, ↓ldI, ↓ldL, ↓ldD, ↓ldR, ↓k1, ↓k2, ↓kI, ↓kL, ↓kD, ↓kII, ↓kLL, ↓kDD, ↓kR, ↓kIR, ↓kLR, ↓kIIR, ↓kLIR, ↓kDIR, ↓kRIR, ↓kNN, ↓kE, ↓br, ↓bn, ↓rtI, ↓gfv, ↓zchk, lput, ldel, lbad, alA, acat, isRf, dom, dS, dJ, isO, aTy, aLen, elAV, elR, Nat.reduceBEq, Nat.reduceAdd, Bool.or, Bool.and, Nat.add_zero, Nat.zero_add]
  try simp only [Nat.reduceLT, Nat.reduceLeDiff, Nat.reduceEqDiff, true_and, and_true, and_self, Nat.zero_le, Nat.le_refl, true_or, or_true, Bool.false_eq_true, not_false_eq_true, Nat.reduceAdd, Nat.lt_add_one, Nat.zero_lt_one, nI_add, pk_mul, ixL, vpL, ne_eq, reduceIte, wI_sN, wL_sM, sN_same, sN_K, sN_2, sM_1, sM_same, sM_K, sM_s, uI_at, uN_at, enc_at, uI_enc, uI_uI, upM_s, upM_n]
  refine V_cS hB hno (p_stringSize hc hw) rfl (by decide +kernel) cs5J5_245 npJ6_stringSize_0f7a4 ⟨by decide, by decide⟩ (Nat.le_of_ble_eq_true rfl) (n' := 0) (by decide) rfl ?_
  refine V_run hB (rt := some (.object "java/lang/AbstractStringBuilder")) (nL := 4) (mc := 20) rfl rfl rfl (ops := [(10, .iadd, 1, (0, 0, 0, 0, 0, 0), 0), (11, .istore_n 3, 1, (3, 0, 0, 0, 0, 0), 0), (12, .aload_n 0, 1, (0, 0, 0, 0, 0, 0), 0), (13, .iload_n 3, 1, (3, 0, 0, 0, 0, 0), 0)]) (by decide +kernel) ?_
  dsimp only [↓wpb, ↓wp1, ↓vI, ↓vL, ↓vD, ↓ldI, ↓ldL, ↓ldD, ↓ldR, ↓k1, ↓k2, ↓kI, ↓kL, ↓kD, ↓kII, ↓kLL, ↓kDD, ↓kR, ↓kIR, ↓kLR, ↓kIIR, ↓kLIR, ↓kDIR, ↓kRIR, ↓kNN, ↓kE, ↓br, ↓bn, ↓rtI, ↓gfv, ↓zchk, lput, ldel, lbad, alA, acat, isRf, dom, dS, dJ, isO, aTy, aLen, elAV, elR, Nat.reduceBEq, Nat.reduceAdd, Bool.or, Bool.and, Nat.add_zero, Nat.zero_add]
  try simp only [Nat.reduceLT, Nat.reduceLeDiff, Nat.reduceEqDiff, true_and, and_true, and_self, Nat.zero_le, Nat.le_refl, true_or, or_true, Bool.false_eq_true, not_false_eq_true, Nat.reduceAdd, Nat.lt_add_one, Nat.zero_lt_one, nI_add, pk_mul, ixL, vpL, ne_eq, reduceIte, wI_sN, wL_sM, sN_same, sN_K, sN_2, sM_1, sM_same, sM_K, sM_s, uI_at, uN_at, enc_at, uI_enc, uI_uI, upM_s, upM_n]
  refine V_callU hB hno hS (p_ensure hc hS (q := τ.2.2.2.2.1 + sb_dg w) hN) rfl (by decide +kernel) cu5J5_100 npJ5_ensureCapacityInternal_d00df ⟨by decide, by decide⟩ (Nat.le_of_ble_eq_true rfl) (by decide) (fun w τ' hh => ?_) (fun E τ' hh => by cases hh.1)
  obtain ⟨e, v, c', tt, rfl, hq, hcc, hc200, htt⟩ := hh
  cases e
  show V x (sbU τ v c' τ.2.2.2.2.1 tt) 20 17 _ []
  refine V_run hB (rt := some (.object "java/lang/AbstractStringBuilder")) (nL := 4) (mc := 20) rfl rfl rfl (ops := [(17, .aload_n 0, 1, (0, 0, 0, 0, 0, 0), 0)]) (by decide +kernel) ?_
  dsimp only [↓wpb, ↓wp1, ↓vI, ↓vL, ↓vD, ↓ldI, ↓ldL, ↓ldD, ↓ldR, ↓k1, ↓k2, ↓kI, ↓kL, ↓kD, ↓kII, ↓kLL, ↓kDD, ↓kR, ↓kIR, ↓kLR, ↓kIIR, ↓kLIR, ↓kDIR, ↓kRIR, ↓kNN, ↓kE, ↓br, ↓bn, ↓rtI, ↓gfv, ↓zchk, lput, ldel, lbad, alA, acat, isRf, dom, dS, dJ, isO, aTy, aLen, elAV, elR, Nat.reduceBEq, Nat.reduceAdd, Bool.or, Bool.and, Nat.add_zero, Nat.zero_add]
  try simp only [Nat.reduceLT, Nat.reduceLeDiff, Nat.reduceEqDiff, true_and, and_true, and_self, Nat.zero_le, Nat.le_refl, true_or, or_true, Bool.false_eq_true, not_false_eq_true, Nat.reduceAdd, Nat.lt_add_one, Nat.zero_lt_one, nI_add, pk_mul, ixL, vpL, ne_eq, reduceIte, wI_sN, wL_sM, sN_same, sN_K, sN_2, sM_1, sM_same, sM_K, sM_s, uI_at, uN_at, enc_at, uI_enc, uI_uI, upM_s, upM_n]
  refine V_callU hB hno hS (p_isLatin1 hc) rfl (by decide +kernel) cu5J5_83 npJ5_isLatin1_aae02 ⟨by decide, by decide⟩ (Nat.le_of_ble_eq_true rfl) (by decide) (fun w τ' hh => ?_) (fun E τ' hh => by cases hh.1)
  obtain ⟨e, rfl⟩ := hh
  cases e
  show V x (sbU τ v c' τ.2.2.2.2.1 tt) 20 21 _ [aI (nI 1)]
  refine V_run hB (rt := some (.object "java/lang/AbstractStringBuilder")) (nL := 4) (mc := 20) rfl rfl rfl (ops := [(21, .ifCond .eq 16, 3, (37, 0, 0, 0, 0, 0), 0), (24, .iload_n 1, 1, (1, 0, 0, 0, 0, 0), 0), (25, .iload_n 3, 1, (3, 0, 0, 0, 0, 0), 0), (26, .aload_n 0, 1, (0, 0, 0, 0, 0, 0), 0)]) (by decide +kernel) ?_
  dsimp only [↓wpb, ↓wp1, ↓vI, ↓vL, ↓vD, ↓ldI, ↓ldL, ↓ldD, ↓ldR, ↓k1, ↓k2, ↓kI, ↓kL, ↓kD, ↓kII, ↓kLL, ↓kDD, ↓kR, ↓kIR, ↓kLR, ↓kIIR, ↓kLIR, ↓kDIR, ↓kRIR, ↓kNN, ↓kE, ↓br, ↓bn, ↓rtI, ↓gfv, ↓zchk, lput, ldel, lbad, alA, acat, isRf, dom, dS, dJ, isO, aTy, aLen, elAV, elR, Nat.reduceBEq, Nat.reduceAdd, Bool.or, Bool.and, Nat.add_zero, Nat.zero_add]
  try simp only [Nat.reduceLT, Nat.reduceLeDiff, Nat.reduceEqDiff, true_and, and_true, and_self, Nat.zero_le, Nat.le_refl, true_or, or_true, Bool.false_eq_true, not_false_eq_true, Nat.reduceAdd, Nat.lt_add_one, Nat.zero_lt_one, nI_add, pk_mul, ixL, vpL, ne_eq, reduceIte, wI_sN, wL_sM, sN_same, sN_K, sN_2, sM_1, sM_same, sM_K, sM_s, uI_at, uN_at, enc_at, uI_enc, uI_uI, upM_s, upM_n]
  refine ⟨fun q => absurd q (by decide), fun _ => ?_⟩
  refine V_sbg hB (k := 0) (v := .inl (.ref v)) (Or.inl ⟨rfl, rfl⟩) (idx := 15) (TBg_at 372 (by decide +kernel)) (by decide +kernel) ?_
  refine V_callS hB hno (p_getChars hc hS (τ := sbU τ v c' τ.2.2.2.2.1 tt) (n0 := τ.2.2.2.2.1) (p := τ.2.2.2.2.1 + sb_dg w) hw rfl hq) rfl (by decide +kernel) cs5J5_248 npJ6_getChars_ba4f3 ⟨by decide, by decide⟩ (Nat.le_of_ble_eq_true rfl) (by decide) (fun w1 τ' hh => ?_) (fun E τ' hh => by cases hh.1)
  obtain ⟨e, t2, rfl, g1, g2⟩ := hh
  cases e
  show V x (sbU τ v c' τ.2.2.2.2.1 t2) 20 33 _ [aI (nI τ.2.2.2.2.1)]
  refine V_run hB (rt := some (.object "java/lang/AbstractStringBuilder")) (nL := 4) (mc := 20) rfl rfl rfl (ops := [(33, .pop, 1, (0, 0, 0, 0, 0, 0), 0), (34, .goto 14, 3, (48, 0, 0, 0, 0, 0), 0)]) (by decide +kernel) ?_
  dsimp only [↓wpb, ↓wp1, ↓vI, ↓vL, ↓vD, ↓ldI, ↓ldL, ↓ldD, ↓ldR, ↓k1, ↓k2, ↓kI, ↓kL, ↓kD, ↓kII, ↓kLL, ↓kDD, ↓kR, ↓kIR, ↓kLR, ↓kIIR, ↓kLIR, ↓kDIR, ↓kRIR, ↓kNN, ↓kE, ↓br, ↓bn, ↓rtI, ↓gfv, ↓zchk, lput, ldel, lbad, alA, acat, isRf, dom, dS, dJ, isO, aTy, aLen, elAV, elR, Nat.reduceBEq, Nat.reduceAdd, Bool.or, Bool.and, Nat.add_zero, Nat.zero_add]
  try simp only [Nat.reduceLT, Nat.reduceLeDiff, Nat.reduceEqDiff, true_and, and_true, and_self, Nat.zero_le, Nat.le_refl, true_or, or_true, Bool.false_eq_true, not_false_eq_true, Nat.reduceAdd, Nat.lt_add_one, Nat.zero_lt_one, nI_add, pk_mul, ixL, vpL, ne_eq, reduceIte, wI_sN, wL_sM, sN_same, sN_K, sN_2, sM_1, sM_same, sM_K, sM_s, uI_at, uN_at, enc_at, uI_enc, uI_uI, upM_s, upM_n]
  refine V_run hB (rt := some (.object "java/lang/AbstractStringBuilder")) (nL := 4) (mc := 20) rfl rfl rfl (ops := [(48, .aload_n 0, 1, (0, 0, 0, 0, 0, 0), 0), (49, .iload_n 3, 1, (3, 0, 0, 0, 0, 0), 0)]) (by decide +kernel) ?_
  dsimp only [↓wpb, ↓wp1, ↓vI, ↓vL, ↓vD, ↓ldI, ↓ldL, ↓ldD, ↓ldR, ↓k1, ↓k2, ↓kI, ↓kL, ↓kD, ↓kII, ↓kLL, ↓kDD, ↓kR, ↓kIR, ↓kLR, ↓kIIR, ↓kLIR, ↓kDIR, ↓kRIR, ↓kNN, ↓kE, ↓br, ↓bn, ↓rtI, ↓gfv, ↓zchk, lput, ldel, lbad, alA, acat, isRf, dom, dS, dJ, isO, aTy, aLen, elAV, elR, Nat.reduceBEq, Nat.reduceAdd, Bool.or, Bool.and, Nat.add_zero, Nat.zero_add]
  try simp only [Nat.reduceLT, Nat.reduceLeDiff, Nat.reduceEqDiff, true_and, and_true, and_self, Nat.zero_le, Nat.le_refl, true_or, or_true, Bool.false_eq_true, not_false_eq_true, Nat.reduceAdd, Nat.lt_add_one, Nat.zero_lt_one, nI_add, pk_mul, ixL, vpL, ne_eq, reduceIte, wI_sN, wL_sM, sN_same, sN_K, sN_2, sM_1, sM_same, sM_K, sM_s, uI_at, uN_at, enc_at, uI_enc, uI_uI, upM_s, upM_n]
  refine V_sbp hB (q := τ.2.2.2.2.1 + sb_dg w) hq (idx := 79) ⟨RJ4, TJ4, 4, tyJ4, .int, rfl, by decide, (TBg_at 376 (by decide +kernel)), lay_J4, tyJ4_ok, nmJ4, rfl, rfl, rfl, rfl⟩ (by decide +kernel) ?_
  refine V_run hB (rt := some (.object "java/lang/AbstractStringBuilder")) (nL := 4) (mc := 20) rfl rfl rfl (ops := [(53, .aload_n 0, 1, (0, 0, 0, 0, 0, 0), 0), (54, .areturn, 1, (0, 0, 0, 0, 0, 0), 0)]) (by decide +kernel) ?_
  dsimp only [↓wpb, ↓wp1, ↓vI, ↓vL, ↓vD, ↓ldI, ↓ldL, ↓ldD, ↓ldR, ↓k1, ↓k2, ↓kI, ↓kL, ↓kD, ↓kII, ↓kLL, ↓kDD, ↓kR, ↓kIR, ↓kLR, ↓kIIR, ↓kLIR, ↓kDIR, ↓kRIR, ↓kNN, ↓kE, ↓br, ↓bn, ↓rtI, ↓gfv, ↓zchk, lput, ldel, lbad, alA, acat, isRf, dom, dS, dJ, isO, aTy, aLen, elAV, elR, Nat.reduceBEq, Nat.reduceAdd, Bool.or, Bool.and, Nat.add_zero, Nat.zero_add]
  try simp only [Nat.reduceLT, Nat.reduceLeDiff, Nat.reduceEqDiff, true_and, and_true, and_self, Nat.zero_le, Nat.le_refl, true_or, or_true, Bool.false_eq_true, not_false_eq_true, Nat.reduceAdd, Nat.lt_add_one, Nat.zero_lt_one, nI_add, pk_mul, ixL, vpL, ne_eq, reduceIte, wI_sN, wL_sM, sN_same, sN_K, sN_2, sM_1, sM_same, sM_K, sM_s, uI_at, uN_at, enc_at, uI_enc, uI_uI, upM_s, upM_n]
  refine ⟨Or.inl ⟨_, rfl⟩, rfl, v, c', t2, by rw [dgL_len5]; rfl, fun j hj => (g1 j (Or.inl hj)).trans (htt j (by omega)), fun j c hj => ?_⟩
  obtain ⟨hj2, rfl⟩ := dgL_at hj
  have h := g2 (sb_dg w - 1 - j) (by omega)
  rw [show τ.2.2.2.2.1 + sb_dg w - 1 - (sb_dg w - 1 - j) = τ.2.2.2.2.1 + j by omega] at h
  exact h
theorem p_appI (hc : CtxE l G) (hS : SlF G) {w : Nat} (hw : w < 100000) (hN : τ.2.2.2.2.1 + sb_dg w ≤ 99) : Sat l G iJ4_append_bf812 [sbM, aI (nI w)] τ (SbO τ (dgL w)) := by
  refine Sat_ofF hc.1.1 hc.1.2 (by decide +kernel) (Nat.le_of_ble_eq_true rfl) (fun x hB hno => ?_)
  refine V_run hB (rt := some (.object "java/lang/StringBuilder")) (nL := 2) (mc := 20) rfl rfl rfl (ops := [(0, .aload_n 0, 1, (0, 0, 0, 0, 0, 0), 0), (1, .iload_n 1, 1, (1, 0, 0, 0, 0, 0), 0)]) (by decide +kernel) ?_
  dsimp only [↓wpb, ↓wp1, ↓vI, ↓vL, ↓vD, ↓ldI, ↓ldL, ↓ldD, ↓ldR, ↓k1, ↓k2, ↓kI, ↓kL, ↓kD, ↓kII, ↓kLL, ↓kDD, ↓kR, ↓kIR, ↓kLR, ↓kIIR, ↓kLIR, ↓kDIR, ↓kRIR, ↓kNN, ↓kE, ↓br, ↓bn, ↓rtI, ↓gfv, ↓zchk, lput, ldel, lbad, alA, acat, isRf, dom, dS, dJ, isO, aTy, aLen, elAV, elR, Nat.reduceBEq, Nat.reduceAdd, Bool.or, Bool.and, Nat.add_zero, Nat.zero_add]
  try simp only [Nat.reduceLT, Nat.reduceLeDiff, Nat.reduceEqDiff, true_and, and_true, and_self, Nat.zero_le, Nat.le_refl, true_or, or_true, Bool.false_eq_true, not_false_eq_true, Nat.reduceAdd, Nat.lt_add_one, Nat.zero_lt_one, nI_add, pk_mul, ixL, vpL, ne_eq, reduceIte, wI_sN, wL_sM, sN_same, sN_K, sN_2, sM_1, sM_same, sM_K, sM_s, uI_at, uN_at, enc_at, uI_enc, uI_uI, upM_s, upM_n]
  refine V_callSU hB hno (p_appI5 hc hS hw hN) rfl (by decide +kernel) su5J4_53 npJ5_append_c97b9 ⟨by decide, by decide⟩ (Nat.le_of_ble_eq_true rfl) (by decide) (fun w τ' hh => ?_) (fun E τ' hh => by cases hh.1)
  obtain ⟨e, hh⟩ := hh
  cases e
  show V x τ' 20 5 _ [sbM]
  refine V_run hB (rt := some (.object "java/lang/StringBuilder")) (nL := 2) (mc := 20) rfl rfl rfl (ops := [(5, .pop, 1, (0, 0, 0, 0, 0, 0), 0), (6, .aload_n 0, 1, (0, 0, 0, 0, 0, 0), 0), (7, .areturn, 1, (0, 0, 0, 0, 0, 0), 0)]) (by decide +kernel) ?_
  dsimp only [↓wpb, ↓wp1, ↓vI, ↓vL, ↓vD, ↓ldI, ↓ldL, ↓ldD, ↓ldR, ↓k1, ↓k2, ↓kI, ↓kL, ↓kD, ↓kII, ↓kLL, ↓kDD, ↓kR, ↓kIR, ↓kLR, ↓kIIR, ↓kLIR, ↓kDIR, ↓kRIR, ↓kNN, ↓kE, ↓br, ↓bn, ↓rtI, ↓gfv, ↓zchk, lput, ldel, lbad, alA, acat, isRf, dom, dS, dJ, isO, aTy, aLen, elAV, elR, Nat.reduceBEq, Nat.reduceAdd, Bool.or, Bool.and, Nat.add_zero, Nat.zero_add]
  try simp only [Nat.reduceLT, Nat.reduceLeDiff, Nat.reduceEqDiff, true_and, and_true, and_self, Nat.zero_le, Nat.le_refl, true_or, or_true, Bool.false_eq_true, not_false_eq_true, Nat.reduceAdd, Nat.lt_add_one, Nat.zero_lt_one, nI_add, pk_mul, ixL, vpL, ne_eq, reduceIte, wI_sN, wL_sM, sN_same, sN_K, sN_2, sM_1, sM_same, sM_K, sM_s, uI_at, uN_at, enc_at, uI_enc, uI_uI, upM_s, upM_n]
  exact ⟨Or.inl ⟨_, rfl⟩, rfl, hh⟩
/-- the texts: their code, their length -/
theorem s_coder (hc : CtxE l G) (hS : SlF G) {k : Nat} (hk : k < 3) : Sat l G iJ0_coder_7d493 [.inr (65, k, 0)] τ (retI (nI 0) τ) := by
  refine Sat_ofF hc.1.1 hc.1.2 (by decide +kernel) (Nat.le_of_ble_eq_true rfl) (fun x hB hno => ?_)
  refine V_gets hB (v := aI (nI 1)) (fun U H h => (hc.2 U H h).2.2.2.2.1) (idx := 38) (TBg_at 1068 (by decide +kernel)) (by decide +kernel) ?_
  refine V_run hB (rt := some .byte) (nL := 1) (mc := 0) rfl rfl rfl obJ0_coder_7d493_3 ?_
  dsimp only [bJ0_coder_7d493_3, ↓wpb, ↓wp1, ↓vI, ↓vL, ↓vD, ↓ldI, ↓ldL, ↓ldD, ↓ldR, ↓k1, ↓k2, ↓kI, ↓kL, ↓kD, ↓kII, ↓kLL, ↓kDD, ↓kR, ↓kIR, ↓kLR, ↓kIIR, ↓kLIR, ↓kDIR, ↓kRIR, ↓kNN, ↓kE, ↓br, ↓bn, ↓rtI, ↓gfv, ↓zchk, lput, ldel, lbad, alA, acat, isRf, dom, dS, dJ, isO, aTy, aLen, elAV, elR, Nat.reduceBEq, Nat.reduceAdd, Bool.or, Bool.and, Nat.add_zero, Nat.zero_add]
  try simp only [Nat.reduceLT, Nat.reduceLeDiff, Nat.reduceEqDiff, true_and, and_true, and_self, Nat.zero_le, Nat.le_refl, true_or, or_true, Bool.false_eq_true, not_false_eq_true, Nat.reduceAdd, Nat.lt_add_one, Nat.zero_lt_one, nI_add, pk_mul, ixL, vpL, ne_eq, reduceIte, wI_sN, wL_sM, sN_same, sN_K, sN_2, sM_1, sM_same, sM_K, sM_s, uI_at, uN_at, enc_at, uI_enc, uI_uI, upM_s, upM_n]
  refine ⟨fun q => absurd q (by decide), fun _ => ?_⟩
  refine V_ogf hB (v := aI (nI 0)) (fun U H h => ((hS U H h).2.2.1 k hk).2.2.1) (idx := 15) (TBg_at 1181 (by decide +kernel)) (by decide +kernel) ?_
  refine V_run hB (rt := some .byte) (nL := 1) (mc := 0) rfl rfl rfl (ops := [(10, .goto 4, 3, (14, 0, 0, 0, 0, 0), 0)]) (by decide +kernel) ?_
  dsimp only [↓wpb, ↓wp1, ↓vI, ↓vL, ↓vD, ↓ldI, ↓ldL, ↓ldD, ↓ldR, ↓k1, ↓k2, ↓kI, ↓kL, ↓kD, ↓kII, ↓kLL, ↓kDD, ↓kR, ↓kIR, ↓kLR, ↓kIIR, ↓kLIR, ↓kDIR, ↓kRIR, ↓kNN, ↓kE, ↓br, ↓bn, ↓rtI, ↓gfv, ↓zchk, lput, ldel, lbad, alA, acat, isRf, dom, dS, dJ, isO, aTy, aLen, elAV, elR, Nat.reduceBEq, Nat.reduceAdd, Bool.or, Bool.and, Nat.add_zero, Nat.zero_add]
  try simp only [Nat.reduceLT, Nat.reduceLeDiff, Nat.reduceEqDiff, true_and, and_true, and_self, Nat.zero_le, Nat.le_refl, true_or, or_true, Bool.false_eq_true, not_false_eq_true, Nat.reduceAdd, Nat.lt_add_one, Nat.zero_lt_one, nI_add, pk_mul, ixL, vpL, ne_eq, reduceIte, wI_sN, wL_sM, sN_same, sN_K, sN_2, sM_1, sM_same, sM_K, sM_s, uI_at, uN_at, enc_at, uI_enc, uI_uI, upM_s, upM_n]
  exact V_bret hB rfl (by decide +kernel) (by decide +kernel) (Nat.zero_le _) ⟨rfl, rfl⟩
theorem slT_ok : ∀ k, k < 3 → (slT k).length ≤ 4 ∧ ∀ j, j < (slT k).length → (slT k).getD j 0 < 128 ∧ fits .byte (.int (nI ((slT k).getD j 0))) = true ∧ nI ((slT k).getD j 0) = sb_b ((slT k).getD j 0) := by decide +kernel
theorem s_length (hc : CtxE l G) (hS : SlF G) {k : Nat} (hk : k < 3) : Sat l G iJ0_length_8abf5 [.inr (65, k, 0)] τ (retI (nI (slT k).length) τ) := by
  have hl := (slT_ok k hk).1
  have es : nI (slT k).length >>> (nI 0 &&& 31) = nI (slT k).length := by rw [show nI 0 &&& 31 = (0 : Int32) from by decide, Int32.shiftRight_zero]
  refine Sat_ofF hc.1.1 hc.1.2 (by decide +kernel) (Nat.le_of_ble_eq_true rfl) (fun x hB hno => ?_)
  refine V_run hB (rt := some .int) (nL := 1) (mc := 0) rfl rfl rfl obJ0_length_8abf5_0 ?_
  dsimp only [bJ0_length_8abf5_0, ↓wpb, ↓wp1, ↓vI, ↓vL, ↓vD, ↓ldI, ↓ldL, ↓ldD, ↓ldR, ↓k1, ↓k2, ↓kI, ↓kL, ↓kD, ↓kII, ↓kLL, ↓kDD, ↓kR, ↓kIR, ↓kLR, ↓kIIR, ↓kLIR, ↓kDIR, ↓kRIR, ↓kNN, ↓kE, ↓br, ↓bn, ↓rtI, ↓gfv, ↓zchk, lput, ldel, lbad, alA, acat, isRf, dom, dS, dJ, isO, aTy, aLen, elAV, elR, Nat.reduceBEq, Nat.reduceAdd, Bool.or, Bool.and, Nat.add_zero, Nat.zero_add]
  try simp only [Nat.reduceLT, Nat.reduceLeDiff, Nat.reduceEqDiff, true_and, and_true, and_self, Nat.zero_le, Nat.le_refl, true_or, or_true, Bool.false_eq_true, not_false_eq_true, Nat.reduceAdd, Nat.lt_add_one, Nat.zero_lt_one, nI_add, pk_mul, ixL, vpL, ne_eq, reduceIte, wI_sN, wL_sM, sN_same, sN_K, sN_2, sM_1, sM_same, sM_K, sM_s, uI_at, uN_at, enc_at, uI_enc, uI_uI, upM_s, upM_n]
  refine V_ogf hB (v := .inr (66, k, 0)) (fun U H h => ((hS U H h).2.2.1 k hk).2.2.2.1) (idx := 9) (TBg_at 1180 (by decide +kernel)) (by decide +kernel) ?_
  refine V_tlen hB (fun U H h => ((hS U H h).2.2.1 k hk).2.2.2.2) (by decide +kernel) ?_
  refine V_run hB (rt := some .int) (nL := 1) (mc := 0) rfl rfl rfl (ops := [(5, .aload_n 0, 1, (0, 0, 0, 0, 0, 0), 0)]) (by decide +kernel) ?_
  dsimp only [↓wpb, ↓wp1, ↓vI, ↓vL, ↓vD, ↓ldI, ↓ldL, ↓ldD, ↓ldR, ↓k1, ↓k2, ↓kI, ↓kL, ↓kD, ↓kII, ↓kLL, ↓kDD, ↓kR, ↓kIR, ↓kLR, ↓kIIR, ↓kLIR, ↓kDIR, ↓kRIR, ↓kNN, ↓kE, ↓br, ↓bn, ↓rtI, ↓gfv, ↓zchk, lput, ldel, lbad, alA, acat, isRf, dom, dS, dJ, isO, aTy, aLen, elAV, elR, Nat.reduceBEq, Nat.reduceAdd, Bool.or, Bool.and, Nat.add_zero, Nat.zero_add]
  try simp only [Nat.reduceLT, Nat.reduceLeDiff, Nat.reduceEqDiff, true_and, and_true, and_self, Nat.zero_le, Nat.le_refl, true_or, or_true, Bool.false_eq_true, not_false_eq_true, Nat.reduceAdd, Nat.lt_add_one, Nat.zero_lt_one, nI_add, pk_mul, ixL, vpL, ne_eq, reduceIte, wI_sN, wL_sM, sN_same, sN_K, sN_2, sM_1, sM_same, sM_K, sM_s, uI_at, uN_at, enc_at, uI_enc, uI_uI, upM_s, upM_n]
  refine V_cK hB hno (s_coder hc hS hk) rfl (fun U H h => ((hS U H h).2.2.1 k hk).2.1) (by decide +kernel) ckJ0_335 npJ0_coder_7d493 ⟨by decide, by decide⟩ (Nat.le_of_ble_eq_true rfl) rfl (Nat.zero_le _) ?_
  refine V_run hB (rt := some .int) (nL := 1) (mc := 0) rfl rfl rfl obJ0_length_8abf5_9 ?_
  dsimp only [bJ0_length_8abf5_9, ↓wpb, ↓wp1, ↓vI, ↓vL, ↓vD, ↓ldI, ↓ldL, ↓ldD, ↓ldR, ↓k1, ↓k2, ↓kI, ↓kL, ↓kD, ↓kII, ↓kLL, ↓kDD, ↓kR, ↓kIR, ↓kLR, ↓kIIR, ↓kLIR, ↓kDIR, ↓kRIR, ↓kNN, ↓kE, ↓br, ↓bn, ↓rtI, ↓gfv, ↓zchk, lput, ldel, lbad, alA, acat, isRf, dom, dS, dJ, isO, aTy, aLen, elAV, elR, Nat.reduceBEq, Nat.reduceAdd, Bool.or, Bool.and, Nat.add_zero, Nat.zero_add]
  try simp only [Nat.reduceLT, Nat.reduceLeDiff, Nat.reduceEqDiff, true_and, and_true, and_self, Nat.zero_le, Nat.le_refl, true_or, or_true, Bool.false_eq_true, not_false_eq_true, Nat.reduceAdd, Nat.lt_add_one, Nat.zero_lt_one, nI_add, pk_mul, ixL, vpL, ne_eq, reduceIte, wI_sN, wL_sM, sN_same, sN_K, sN_2, sM_1, sM_same, sM_K, sM_s, uI_at, uN_at, enc_at, uI_enc, uI_uI, upM_s, upM_n, es]
  exact ⟨rfl, rfl⟩
/-- a text's bytes copied behind the slip's -/
theorem V_cpT {x : Cx} {Φ : AOut → Mem → Prop} {n k dp : Nat} {al : Al} (hB : Bd x l G iJ0_getBytes_840e7 Φ) (hS : SlF G) (hk : k < 3) (hd2 : dp + (slT k).length ≤ τ.2.2.2.1)
    (kk : V x (sbU τ τ.2.2.1 τ.2.2.2.1 τ.2.2.2.2.1 (fun j => if dp ≤ j ∧ j < dp + (slT k).length then (slT k).getD (j - dp) 0 else τ.2.2.2.2.2 j)) n 25 al []) : V x τ n 22 al [aI (nI (slT k).length), aI (nI dp), .inl (.ref τ.2.2.1), aI (nI 0), .inr (66, k, 0)] := by
  obtain ⟨hg, rfl, rfl, ey, rfl⟩ := hB
  obtain ⟨l, G, p, e, s, m, args, below, meth, c, y, Φ⟩ := x
  obtain rfl : y = iJ0_getBytes_840e7 := ey
  obtain ⟨hx, hb, hown, hts, hml, hlk, hret, hstt, hG, hX⟩ := hg
  intro H locs ls hW hS2 hL
  obtain ⟨ml, a, h1, h2, h3, h4, h5, h6, h7, h8, h9⟩ := id hW.2.2.1
  obtain ⟨scr, c1, c2, c3, c4, -, c5, c7⟩ := ((hS _ _ hX).2.2.1 k hk).2.2.2.2
  have hc0 : H[G.2.1 (66, k, 0)]? = some scr := by rw [hS2.2.1 _ (Array.getElem?_eq_some_iff.mp c1).1 c7]; exact c1
  have hsl := (slT_ok k hk)
  refine w_copyB (G := G) (A := AA G) (index := 212) (n0 := (slT k).length) (n1 := τ.2.2.2.1) (dp := dp) (n := (slT k).length) (f := fun j => nI ((slT k).getD j 0)) (g := a) hx hb (hml.trans hL.1.symm) hown (hts _ (TBg_at 1101 (by decide +kernel))) (hts _ (TBg_at 558 (by decide +kernel))) (hts _ (TBg_at 557 (by decide +kernel))) (hts _ (TBg_at 77 (by decide +kernel))) hW.1 hc0 c2 c3 c4 c5 h2 h7 hS2 (Nat.le_refl _) hd2 (by omega) (fun i hi => (hsl.2 i hi).2.1) (by show 1 ≤ 4 + 8; decide) (Nat.le_of_ble_eq_true (by rfl)) (by decide +kernel) (fun H1 locs1 g1 z1 o1 hS3 => ?_)
  refine kk H1 locs1 ls (World.sb hG hW ⟨ml, va_cpy (fun j => nI ((slT k).getD j 0)) a 0 dp (slT k).length, va_at.kept h1 (o1 _ (fun z => h8 z.symm)), g1, fun j hj => ?_, ?_, h5, h6, h7, h8, h9⟩ (Nat.le_of_eq z1.symm) (fun nm hd => o1 _ (h9 nm hd)) (fun q0 hq0 hA => o1 _ (fun z => hA (by rw [z]; exact h7)))) hS3 hL
  · show (if dp ≤ j ∧ j < dp + (slT k).length then (slT k).getD (j - dp) 0 else τ.2.2.2.2.2 j) < 256 ∧ va_cpy (fun j => nI ((slT k).getD j 0)) a 0 dp (slT k).length j = sb_b (if dp ≤ j ∧ j < dp + (slT k).length then (slT k).getD (j - dp) 0 else τ.2.2.2.2.2 j)
    by_cases hj2 : dp ≤ j ∧ j < dp + (slT k).length
    · have h := hsl.2 (j - dp) (by omega)
      rw [if_pos hj2, pk_cpy_in hj2.1 hj2.2, Nat.zero_add]
      exact ⟨by omega, h.2.2⟩
    · rw [if_neg hj2, pk_cpy_out (by omega)]
      exact h3 j hj
  · intro j
    by_cases hj2 : dp ≤ j ∧ j < dp + (slT k).length
    · rw [pk_cpy_in hj2.1 hj2.2, Nat.zero_add]
      exact (hsl.2 (j - dp) (by omega)).2.1
    · rw [pk_cpy_out (by omega)]
      exact h4 j
def CpO (τ : Mem) (k dp : Nat) : AOut → Mem → Prop := fun o τ' => o = .inl none ∧ τ' = sbU τ τ.2.2.1 τ.2.2.2.1 τ.2.2.2.2.1 (fun j => if dp ≤ j ∧ j < dp + (slT k).length then (slT k).getD (j - dp) 0 else τ.2.2.2.2.2 j)
theorem s_getBytes (hc : CtxE l G) (hS : SlF G) {k dp : Nat} (hk : k < 3) (hd2 : dp + (slT k).length ≤ τ.2.2.2.1) : Sat l G iJ0_getBytes_840e7 [.inr (65, k, 0), .inl (.ref τ.2.2.1), aI (nI dp), aI 0] τ (CpO τ k dp) := by
  refine Sat_ofF hc.1.1 hc.1.2 (by decide +kernel) (Nat.le_of_ble_eq_true rfl) (fun x hB hno => ?_)
  refine V_run hB (rt := none) (nL := 4) (mc := 0) rfl rfl rfl (ops := [(0, .aload_n 0, 1, (0, 0, 0, 0, 0, 0), 0)]) (by decide +kernel) ?_
  dsimp only [↓wpb, ↓wp1, ↓vI, ↓vL, ↓vD, ↓ldI, ↓ldL, ↓ldD, ↓ldR, ↓k1, ↓k2, ↓kI, ↓kL, ↓kD, ↓kII, ↓kLL, ↓kDD, ↓kR, ↓kIR, ↓kLR, ↓kIIR, ↓kLIR, ↓kDIR, ↓kRIR, ↓kNN, ↓kE, ↓br, ↓bn, ↓rtI, ↓gfv, ↓zchk, lput, ldel, lbad, alA, acat, isRf, dom, dS, dJ, isO, aTy, aLen, elAV, elR, Nat.reduceBEq, Nat.reduceAdd, Bool.or, Bool.and, Nat.add_zero, Nat.zero_add]
  try simp only [Nat.reduceLT, Nat.reduceLeDiff, Nat.reduceEqDiff, true_and, and_true, and_self, Nat.zero_le, Nat.le_refl, true_or, or_true, Bool.false_eq_true, not_false_eq_true, Nat.reduceAdd, Nat.lt_add_one, Nat.zero_lt_one, nI_add, pk_mul, ixL, vpL, ne_eq, reduceIte, wI_sN, wL_sM, sN_same, sN_K, sN_2, sM_1, sM_same, sM_K, sM_s, uI_at, uN_at, enc_at, uI_enc, uI_uI, upM_s, upM_n]
  refine V_cK hB hno (s_coder hc hS hk) rfl (fun U H h => ((hS U H h).2.2.1 k hk).2.1) (by decide +kernel) ckJ0_335 npJ0_coder_7d493 ⟨by decide, by decide⟩ (Nat.le_of_ble_eq_true rfl) rfl (Nat.zero_le _) ?_
  refine V_run hB (rt := none) (nL := 4) (mc := 0) rfl rfl rfl (ops := [(4, .iload_n 3, 1, (3, 0, 0, 0, 0, 0), 0), (5, .if_icmp .ne 23, 3, (28, 0, 0, 0, 0, 0), 0), (8, .aload_n 0, 1, (0, 0, 0, 0, 0, 0), 0)]) (by decide +kernel) ?_
  dsimp only [↓wpb, ↓wp1, ↓vI, ↓vL, ↓vD, ↓ldI, ↓ldL, ↓ldD, ↓ldR, ↓k1, ↓k2, ↓kI, ↓kL, ↓kD, ↓kII, ↓kLL, ↓kDD, ↓kR, ↓kIR, ↓kLR, ↓kIIR, ↓kLIR, ↓kDIR, ↓kRIR, ↓kNN, ↓kE, ↓br, ↓bn, ↓rtI, ↓gfv, ↓zchk, lput, ldel, lbad, alA, acat, isRf, dom, dS, dJ, isO, aTy, aLen, elAV, elR, Nat.reduceBEq, Nat.reduceAdd, Bool.or, Bool.and, Nat.add_zero, Nat.zero_add]
  try simp only [Nat.reduceLT, Nat.reduceLeDiff, Nat.reduceEqDiff, true_and, and_true, and_self, Nat.zero_le, Nat.le_refl, true_or, or_true, Bool.false_eq_true, not_false_eq_true, Nat.reduceAdd, Nat.lt_add_one, Nat.zero_lt_one, nI_add, pk_mul, ixL, vpL, ne_eq, reduceIte, wI_sN, wL_sM, sN_same, sN_K, sN_2, sM_1, sM_same, sM_K, sM_s, uI_at, uN_at, enc_at, uI_enc, uI_uI, upM_s, upM_n]
  refine ⟨fun q => absurd rfl q, fun _ => ?_⟩
  refine V_ogf hB (v := .inr (66, k, 0)) (fun U H h => ((hS U H h).2.2.1 k hk).2.2.2.1) (idx := 9) (TBg_at 1180 (by decide +kernel)) (by decide +kernel) ?_
  refine V_run hB (rt := none) (nL := 4) (mc := 0) rfl rfl rfl (ops := [(12, .iconst 0, 1, (0, 0, 0, 0, 0, 0), nI 0), (13, .aload_n 1, 1, (1, 0, 0, 0, 0, 0), 0), (14, .iload_n 2, 1, (2, 0, 0, 0, 0, 0), 0), (15, .iload_n 3, 1, (3, 0, 0, 0, 0, 0), 0), (16, .ishl, 1, (0, 0, 0, 0, 0, 0), 0), (17, .aload_n 0, 1, (0, 0, 0, 0, 0, 0), 0)]) (by decide +kernel) ?_
  dsimp only [↓wpb, ↓wp1, ↓vI, ↓vL, ↓vD, ↓ldI, ↓ldL, ↓ldD, ↓ldR, ↓k1, ↓k2, ↓kI, ↓kL, ↓kD, ↓kII, ↓kLL, ↓kDD, ↓kR, ↓kIR, ↓kLR, ↓kIIR, ↓kLIR, ↓kDIR, ↓kRIR, ↓kNN, ↓kE, ↓br, ↓bn, ↓rtI, ↓gfv, ↓zchk, lput, ldel, lbad, alA, acat, isRf, dom, dS, dJ, isO, aTy, aLen, elAV, elR, Nat.reduceBEq, Nat.reduceAdd, Bool.or, Bool.and, Nat.add_zero, Nat.zero_add]
  try simp only [Nat.reduceLT, Nat.reduceLeDiff, Nat.reduceEqDiff, true_and, and_true, and_self, Nat.zero_le, Nat.le_refl, true_or, or_true, Bool.false_eq_true, not_false_eq_true, Nat.reduceAdd, Nat.lt_add_one, Nat.zero_lt_one, nI_add, pk_mul, ixL, vpL, ne_eq, reduceIte, wI_sN, wL_sM, sN_same, sN_K, sN_2, sM_1, sM_same, sM_K, sM_s, uI_at, uN_at, enc_at, uI_enc, uI_uI, upM_s, upM_n, sb_shl0]
  refine V_ogf hB (v := .inr (66, k, 0)) (fun U H h => ((hS U H h).2.2.1 k hk).2.2.2.1) (idx := 9) (TBg_at 1180 (by decide +kernel)) (by decide +kernel) ?_
  refine V_tlen hB (fun U H h => ((hS U H h).2.2.1 k hk).2.2.2.2) (by decide +kernel) ?_
  refine V_cpT hB hS hk hd2 ?_
  refine V_run hB (rt := none) (nL := 4) (mc := 0) rfl rfl rfl (ops := [(25, .goto 18, 3, (43, 0, 0, 0, 0, 0), 0)]) (by decide +kernel) ?_
  dsimp only [↓wpb, ↓wp1, ↓vI, ↓vL, ↓vD, ↓ldI, ↓ldL, ↓ldD, ↓ldR, ↓k1, ↓k2, ↓kI, ↓kL, ↓kD, ↓kII, ↓kLL, ↓kDD, ↓kR, ↓kIR, ↓kLR, ↓kIIR, ↓kLIR, ↓kDIR, ↓kRIR, ↓kNN, ↓kE, ↓br, ↓bn, ↓rtI, ↓gfv, ↓zchk, lput, ldel, lbad, alA, acat, isRf, dom, dS, dJ, isO, aTy, aLen, elAV, elR, Nat.reduceBEq, Nat.reduceAdd, Bool.or, Bool.and, Nat.add_zero, Nat.zero_add]
  try simp only [Nat.reduceLT, Nat.reduceLeDiff, Nat.reduceEqDiff, true_and, and_true, and_self, Nat.zero_le, Nat.le_refl, true_or, or_true, Bool.false_eq_true, not_false_eq_true, Nat.reduceAdd, Nat.lt_add_one, Nat.zero_lt_one, nI_add, pk_mul, ixL, vpL, ne_eq, reduceIte, wI_sN, wL_sM, sN_same, sN_K, sN_2, sM_1, sM_same, sM_K, sM_s, uI_at, uN_at, enc_at, uI_enc, uI_uI, upM_s, upM_n]
  refine V_run hB (rt := none) (nL := 4) (mc := 0) rfl rfl rfl (ops := [(43, .return_, 1, (0, 0, 0, 0, 0, 0), 0)]) (by decide +kernel) ?_
  dsimp only [↓wpb, ↓wp1, ↓vI, ↓vL, ↓vD, ↓ldI, ↓ldL, ↓ldD, ↓ldR, ↓k1, ↓k2, ↓kI, ↓kL, ↓kD, ↓kII, ↓kLL, ↓kDD, ↓kR, ↓kIR, ↓kLR, ↓kIIR, ↓kLIR, ↓kDIR, ↓kRIR, ↓kNN, ↓kE, ↓br, ↓bn, ↓rtI, ↓gfv, ↓zchk, lput, ldel, lbad, alA, acat, isRf, dom, dS, dJ, isO, aTy, aLen, elAV, elR, Nat.reduceBEq, Nat.reduceAdd, Bool.or, Bool.and, Nat.add_zero, Nat.zero_add]
  try simp only [Nat.reduceLT, Nat.reduceLeDiff, Nat.reduceEqDiff, true_and, and_true, and_self, Nat.zero_le, Nat.le_refl, true_or, or_true, Bool.false_eq_true, not_false_eq_true, Nat.reduceAdd, Nat.lt_add_one, Nat.zero_lt_one, nI_add, pk_mul, ixL, vpL, ne_eq, reduceIte, wI_sN, wL_sM, sN_same, sN_K, sN_2, sM_1, sM_same, sM_K, sM_s, uI_at, uN_at, enc_at, uI_enc, uI_uI, upM_s, upM_n]
  exact ⟨rfl, rfl⟩
theorem s_inflate (hc : CtxE l G) (hS : SlF G) {k : Nat} (hk : k < 3) : Sat l G iJ5_inflateIfNeededFor_a7421 [sbM, .inr (65, k, 0)] τ (retV τ) := by
  refine Sat_ofF hc.1.1 hc.1.2 (by decide +kernel) (Nat.le_of_ble_eq_true rfl) (fun x hB hno => ?_)
  refine V_gets hB (v := aI (nI 1)) (fun U H h => (hc.2 U H h).2.2.2.2.1) (idx := 18) (TBg_at 363 (by decide +kernel)) (by decide +kernel) ?_
  refine V_run hB (rt := none) (nL := 2) (mc := 0) rfl rfl rfl (ops := [(3, .ifCond .eq 18, 3, (21, 0, 0, 0, 0, 0), 0), (6, .aload_n 0, 1, (0, 0, 0, 0, 0, 0), 0)]) (by decide +kernel) ?_
  dsimp only [↓wpb, ↓wp1, ↓vI, ↓vL, ↓vD, ↓ldI, ↓ldL, ↓ldD, ↓ldR, ↓k1, ↓k2, ↓kI, ↓kL, ↓kD, ↓kII, ↓kLL, ↓kDD, ↓kR, ↓kIR, ↓kLR, ↓kIIR, ↓kLIR, ↓kDIR, ↓kRIR, ↓kNN, ↓kE, ↓br, ↓bn, ↓rtI, ↓gfv, ↓zchk, lput, ldel, lbad, alA, acat, isRf, dom, dS, dJ, isO, aTy, aLen, elAV, elR, Nat.reduceBEq, Nat.reduceAdd, Bool.or, Bool.and, Nat.add_zero, Nat.zero_add]
  try simp only [Nat.reduceLT, Nat.reduceLeDiff, Nat.reduceEqDiff, true_and, and_true, and_self, Nat.zero_le, Nat.le_refl, true_or, or_true, Bool.false_eq_true, not_false_eq_true, Nat.reduceAdd, Nat.lt_add_one, Nat.zero_lt_one, nI_add, pk_mul, ixL, vpL, ne_eq, reduceIte, wI_sN, wL_sM, sN_same, sN_K, sN_2, sM_1, sM_same, sM_K, sM_s, uI_at, uN_at, enc_at, uI_enc, uI_uI, upM_s, upM_n]
  refine ⟨fun q => absurd q (by decide), fun _ => ?_⟩
  refine V_sbg hB (k := 1) (v := aI 0) (Or.inr (Or.inl ⟨rfl, rfl⟩)) (idx := 22) (TBg_at 373 (by decide +kernel)) (by decide +kernel) ?_
  refine V_run hB (rt := none) (nL := 2) (mc := 0) rfl rfl rfl (ops := [(10, .aload_n 1, 1, (1, 0, 0, 0, 0, 0), 0)]) (by decide +kernel) ?_
  dsimp only [↓wpb, ↓wp1, ↓vI, ↓vL, ↓vD, ↓ldI, ↓ldL, ↓ldD, ↓ldR, ↓k1, ↓k2, ↓kI, ↓kL, ↓kD, ↓kII, ↓kLL, ↓kDD, ↓kR, ↓kIR, ↓kLR, ↓kIIR, ↓kLIR, ↓kDIR, ↓kRIR, ↓kNN, ↓kE, ↓br, ↓bn, ↓rtI, ↓gfv, ↓zchk, lput, ldel, lbad, alA, acat, isRf, dom, dS, dJ, isO, aTy, aLen, elAV, elR, Nat.reduceBEq, Nat.reduceAdd, Bool.or, Bool.and, Nat.add_zero, Nat.zero_add]
  try simp only [Nat.reduceLT, Nat.reduceLeDiff, Nat.reduceEqDiff, true_and, and_true, and_self, Nat.zero_le, Nat.le_refl, true_or, or_true, Bool.false_eq_true, not_false_eq_true, Nat.reduceAdd, Nat.lt_add_one, Nat.zero_lt_one, nI_add, pk_mul, ixL, vpL, ne_eq, reduceIte, wI_sN, wL_sM, sN_same, sN_K, sN_2, sM_1, sM_same, sM_K, sM_s, uI_at, uN_at, enc_at, uI_enc, uI_uI, upM_s, upM_n]
  refine V_cK hB hno (s_coder hc hS hk) rfl (fun U H h => ((hS U H h).2.2.1 k hk).2.1) (by decide +kernel) ck5J5_40 npJ0_coder_7d493 ⟨by decide, by decide⟩ (Nat.le_of_ble_eq_true rfl) rfl (Nat.zero_le _) ?_
  refine V_run hB (rt := none) (nL := 2) (mc := 0) rfl rfl rfl (ops := [(14, .if_icmp .eq 7, 3, (21, 0, 0, 0, 0, 0), 0)]) (by decide +kernel) ?_
  dsimp only [↓wpb, ↓wp1, ↓vI, ↓vL, ↓vD, ↓ldI, ↓ldL, ↓ldD, ↓ldR, ↓k1, ↓k2, ↓kI, ↓kL, ↓kD, ↓kII, ↓kLL, ↓kDD, ↓kR, ↓kIR, ↓kLR, ↓kIIR, ↓kLIR, ↓kDIR, ↓kRIR, ↓kNN, ↓kE, ↓br, ↓bn, ↓rtI, ↓gfv, ↓zchk, lput, ldel, lbad, alA, acat, isRf, dom, dS, dJ, isO, aTy, aLen, elAV, elR, Nat.reduceBEq, Nat.reduceAdd, Bool.or, Bool.and, Nat.add_zero, Nat.zero_add]
  try simp only [Nat.reduceLT, Nat.reduceLeDiff, Nat.reduceEqDiff, true_and, and_true, and_self, Nat.zero_le, Nat.le_refl, true_or, or_true, Bool.false_eq_true, not_false_eq_true, Nat.reduceAdd, Nat.lt_add_one, Nat.zero_lt_one, nI_add, pk_mul, ixL, vpL, ne_eq, reduceIte, wI_sN, wL_sM, sN_same, sN_K, sN_2, sM_1, sM_same, sM_K, sM_s, uI_at, uN_at, enc_at, uI_enc, uI_uI, upM_s, upM_n]
  refine ⟨fun _ => ?_, fun q => absurd rfl q⟩
  refine V_run hB (rt := none) (nL := 2) (mc := 0) rfl rfl rfl (ops := [(21, .return_, 1, (0, 0, 0, 0, 0, 0), 0)]) (by decide +kernel) ?_
  dsimp only [↓wpb, ↓wp1, ↓vI, ↓vL, ↓vD, ↓ldI, ↓ldL, ↓ldD, ↓ldR, ↓k1, ↓k2, ↓kI, ↓kL, ↓kD, ↓kII, ↓kLL, ↓kDD, ↓kR, ↓kIR, ↓kLR, ↓kIIR, ↓kLIR, ↓kDIR, ↓kRIR, ↓kNN, ↓kE, ↓br, ↓bn, ↓rtI, ↓gfv, ↓zchk, lput, ldel, lbad, alA, acat, isRf, dom, dS, dJ, isO, aTy, aLen, elAV, elR, Nat.reduceBEq, Nat.reduceAdd, Bool.or, Bool.and, Nat.add_zero, Nat.zero_add]
  try simp only [Nat.reduceLT, Nat.reduceLeDiff, Nat.reduceEqDiff, true_and, and_true, and_self, Nat.zero_le, Nat.le_refl, true_or, or_true, Bool.false_eq_true, not_false_eq_true, Nat.reduceAdd, Nat.lt_add_one, Nat.zero_lt_one, nI_add, pk_mul, ixL, vpL, ne_eq, reduceIte, wI_sN, wL_sM, sN_same, sN_K, sN_2, sM_1, sM_same, sM_K, sM_s, uI_at, uN_at, enc_at, uI_enc, uI_uI, upM_s, upM_n]
  exact ⟨rfl, rfl⟩
theorem s_putStr (hc : CtxE l G) (hS : SlF G) {k dp : Nat} (hk : k < 3) (hd2 : dp + (slT k).length ≤ τ.2.2.2.1) : Sat l G iJ5_putStringAt_47b60 [sbM, aI (nI dp), .inr (65, k, 0)] τ (CpO τ k dp) := by
  refine Sat_ofF hc.1.1 hc.1.2 (by decide +kernel) (Nat.le_of_ble_eq_true rfl) (fun x hB hno => ?_)
  refine V_run hB (rt := none) (nL := 3) (mc := 0) rfl rfl rfl (ops := [(0, .aload_n 0, 1, (0, 0, 0, 0, 0, 0), 0), (1, .aload_n 2, 1, (2, 0, 0, 0, 0, 0), 0)]) (by decide +kernel) ?_
  dsimp only [↓wpb, ↓wp1, ↓vI, ↓vL, ↓vD, ↓ldI, ↓ldL, ↓ldD, ↓ldR, ↓k1, ↓k2, ↓kI, ↓kL, ↓kD, ↓kII, ↓kLL, ↓kDD, ↓kR, ↓kIR, ↓kLR, ↓kIIR, ↓kLIR, ↓kDIR, ↓kRIR, ↓kNN, ↓kE, ↓br, ↓bn, ↓rtI, ↓gfv, ↓zchk, lput, ldel, lbad, alA, acat, isRf, dom, dS, dJ, isO, aTy, aLen, elAV, elR, Nat.reduceBEq, Nat.reduceAdd, Bool.or, Bool.and, Nat.add_zero, Nat.zero_add]
  try simp only [Nat.reduceLT, Nat.reduceLeDiff, Nat.reduceEqDiff, true_and, and_true, and_self, Nat.zero_le, Nat.le_refl, true_or, or_true, Bool.false_eq_true, not_false_eq_true, Nat.reduceAdd, Nat.lt_add_one, Nat.zero_lt_one, nI_add, pk_mul, ixL, vpL, ne_eq, reduceIte, wI_sN, wL_sM, sN_same, sN_K, sN_2, sM_1, sM_same, sM_K, sM_s, uI_at, uN_at, enc_at, uI_enc, uI_uI, upM_s, upM_n]
  refine V_callU hB hno hS (s_inflate hc hS hk) rfl (by decide +kernel) cu5J5_397 npJ5_inflateIfNeededFor_a7421 ⟨by decide, by decide⟩ (Nat.le_of_ble_eq_true rfl) (by decide) (fun w τ' hh => ?_) (fun E τ' hh => by cases hh.1)
  obtain ⟨e, rfl⟩ := hh
  cases e
  show V x τ' 0 5 _ []
  refine V_run hB (rt := none) (nL := 3) (mc := 0) rfl rfl rfl (ops := [(5, .aload_n 2, 1, (2, 0, 0, 0, 0, 0), 0), (6, .aload_n 0, 1, (0, 0, 0, 0, 0, 0), 0)]) (by decide +kernel) ?_
  dsimp only [↓wpb, ↓wp1, ↓vI, ↓vL, ↓vD, ↓ldI, ↓ldL, ↓ldD, ↓ldR, ↓k1, ↓k2, ↓kI, ↓kL, ↓kD, ↓kII, ↓kLL, ↓kDD, ↓kR, ↓kIR, ↓kLR, ↓kIIR, ↓kLIR, ↓kDIR, ↓kRIR, ↓kNN, ↓kE, ↓br, ↓bn, ↓rtI, ↓gfv, ↓zchk, lput, ldel, lbad, alA, acat, isRf, dom, dS, dJ, isO, aTy, aLen, elAV, elR, Nat.reduceBEq, Nat.reduceAdd, Bool.or, Bool.and, Nat.add_zero, Nat.zero_add]
  try simp only [Nat.reduceLT, Nat.reduceLeDiff, Nat.reduceEqDiff, true_and, and_true, and_self, Nat.zero_le, Nat.le_refl, true_or, or_true, Bool.false_eq_true, not_false_eq_true, Nat.reduceAdd, Nat.lt_add_one, Nat.zero_lt_one, nI_add, pk_mul, ixL, vpL, ne_eq, reduceIte, wI_sN, wL_sM, sN_same, sN_K, sN_2, sM_1, sM_same, sM_K, sM_s, uI_at, uN_at, enc_at, uI_enc, uI_uI, upM_s, upM_n]
  refine V_sbg hB (k := 0) (v := .inl (.ref τ'.2.2.1)) (Or.inl ⟨rfl, rfl⟩) (idx := 15) (TBg_at 372 (by decide +kernel)) (by decide +kernel) ?_
  refine V_run hB (rt := none) (nL := 3) (mc := 0) rfl rfl rfl (ops := [(10, .iload_n 1, 1, (1, 0, 0, 0, 0, 0), 0), (11, .aload_n 0, 1, (0, 0, 0, 0, 0, 0), 0)]) (by decide +kernel) ?_
  dsimp only [↓wpb, ↓wp1, ↓vI, ↓vL, ↓vD, ↓ldI, ↓ldL, ↓ldD, ↓ldR, ↓k1, ↓k2, ↓kI, ↓kL, ↓kD, ↓kII, ↓kLL, ↓kDD, ↓kR, ↓kIR, ↓kLR, ↓kIIR, ↓kLIR, ↓kDIR, ↓kRIR, ↓kNN, ↓kE, ↓br, ↓bn, ↓rtI, ↓gfv, ↓zchk, lput, ldel, lbad, alA, acat, isRf, dom, dS, dJ, isO, aTy, aLen, elAV, elR, Nat.reduceBEq, Nat.reduceAdd, Bool.or, Bool.and, Nat.add_zero, Nat.zero_add]
  try simp only [Nat.reduceLT, Nat.reduceLeDiff, Nat.reduceEqDiff, true_and, and_true, and_self, Nat.zero_le, Nat.le_refl, true_or, or_true, Bool.false_eq_true, not_false_eq_true, Nat.reduceAdd, Nat.lt_add_one, Nat.zero_lt_one, nI_add, pk_mul, ixL, vpL, ne_eq, reduceIte, wI_sN, wL_sM, sN_same, sN_K, sN_2, sM_1, sM_same, sM_K, sM_s, uI_at, uN_at, enc_at, uI_enc, uI_uI, upM_s, upM_n]
  refine V_sbg hB (k := 1) (v := aI 0) (Or.inr (Or.inl ⟨rfl, rfl⟩)) (idx := 22) (TBg_at 373 (by decide +kernel)) (by decide +kernel) ?_
  refine V_callK hB hno (s_getBytes hc hS hk hd2) rfl (fun U H h => ((hS U H h).2.2.1 k hk).2.1) (by decide +kernel) ck5J5_399 npJ0_getBytes_840e7 ⟨by decide, by decide⟩ (Nat.le_of_ble_eq_true rfl) (by decide) (fun w τ2 hh => ?_) (fun E τ2 hh => by cases hh.1)
  obtain ⟨e, rfl⟩ := hh
  cases e
  show V x _ 0 18 _ []
  refine V_run hB (rt := none) (nL := 3) (mc := 0) rfl rfl rfl (ops := [(18, .return_, 1, (0, 0, 0, 0, 0, 0), 0)]) (by decide +kernel) ?_
  dsimp only [↓wpb, ↓wp1, ↓vI, ↓vL, ↓vD, ↓ldI, ↓ldL, ↓ldD, ↓ldR, ↓k1, ↓k2, ↓kI, ↓kL, ↓kD, ↓kII, ↓kLL, ↓kDD, ↓kR, ↓kIR, ↓kLR, ↓kIIR, ↓kLIR, ↓kDIR, ↓kRIR, ↓kNN, ↓kE, ↓br, ↓bn, ↓rtI, ↓gfv, ↓zchk, lput, ldel, lbad, alA, acat, isRf, dom, dS, dJ, isO, aTy, aLen, elAV, elR, Nat.reduceBEq, Nat.reduceAdd, Bool.or, Bool.and, Nat.add_zero, Nat.zero_add]
  try simp only [Nat.reduceLT, Nat.reduceLeDiff, Nat.reduceEqDiff, true_and, and_true, and_self, Nat.zero_le, Nat.le_refl, true_or, or_true, Bool.false_eq_true, not_false_eq_true, Nat.reduceAdd, Nat.lt_add_one, Nat.zero_lt_one, nI_add, pk_mul, ixL, vpL, ne_eq, reduceIte, wI_sN, wL_sM, sN_same, sN_K, sN_2, sM_1, sM_same, sM_K, sM_s, uI_at, uN_at, enc_at, uI_enc, uI_uI, upM_s, upM_n]
  exact ⟨rfl, rfl⟩
theorem p_appS5 (hc : CtxE l G) (hS : SlF G) {k : Nat} (hk : k < 3) (hN : τ.2.2.2.2.1 + (slT k).length ≤ 99) : Sat l G iJ5_append_cf1ce [sbM, .inr (65, k, 0)] τ (SbO τ (slT k)) := by
  refine Sat_ofF hc.1.1 hc.1.2 (by decide +kernel) (Nat.le_of_ble_eq_true rfl) (fun x hB hno => ?_)
  refine V_sbi (fun hn hcap ht => ?_)
  refine V_run hB (rt := some (.object "java/lang/AbstractStringBuilder")) (nL := 3) (mc := 20) rfl rfl rfl (ops := [(0, .aload_n 1, 1, (1, 0, 0, 0, 0, 0), 0)]) (by decide +kernel) ?_
  dsimp only [↓wpb, ↓wp1, ↓vI, ↓vL, ↓vD, ↓ldI, ↓ldL, ↓ldD, ↓ldR, ↓k1, ↓k2, ↓kI, ↓kL, ↓kD, ↓kII, ↓kLL, ↓kDD, ↓kR, ↓kIR, ↓kLR, ↓kIIR, ↓kLIR, ↓kDIR, ↓kRIR, ↓kNN, ↓kE, ↓br, ↓bn, ↓rtI, ↓gfv, ↓zchk, lput, ldel, lbad, alA, acat, isRf, dom, dS, dJ, isO, aTy, aLen, elAV, elR, Nat.reduceBEq, Nat.reduceAdd, Bool.or, Bool.and, Nat.add_zero, Nat.zero_add]
  try simp only [Nat.reduceLT, Nat.reduceLeDiff, Nat.reduceEqDiff, true_and, and_true, and_self, Nat.zero_le, Nat.le_refl, true_or, or_true, Bool.false_eq_true, not_false_eq_true, Nat.reduceAdd, Nat.lt_add_one, Nat.zero_lt_one, nI_add, pk_mul, ixL, vpL, ne_eq, reduceIte, wI_sN, wL_sM, sN_same, sN_K, sN_2, sM_1, sM_same, sM_K, sM_s, uI_at, uN_at, enc_at, uI_enc, uI_uI, upM_s, upM_n]
  refine V_ifnn hB (off := 8) (tgt := 9) (by decide +kernel) (by decide) ?_
  refine V_run hB (rt := some (.object "java/lang/AbstractStringBuilder")) (nL := 3) (mc := 20) rfl rfl rfl (ops := [(9, .aload_n 1, 1, (1, 0, 0, 0, 0, 0), 0)]) (by decide +kernel) ?_
  dsimp only [↓wpb, ↓wp1, ↓vI, ↓vL, ↓vD, ↓ldI, ↓ldL, ↓ldD, ↓ldR, ↓k1, ↓k2, ↓kI, ↓kL, ↓kD, ↓kII, ↓kLL, ↓kDD, ↓kR, ↓kIR, ↓kLR, ↓kIIR, ↓kLIR, ↓kDIR, ↓kRIR, ↓kNN, ↓kE, ↓br, ↓bn, ↓rtI, ↓gfv, ↓zchk, lput, ldel, lbad, alA, acat, isRf, dom, dS, dJ, isO, aTy, aLen, elAV, elR, Nat.reduceBEq, Nat.reduceAdd, Bool.or, Bool.and, Nat.add_zero, Nat.zero_add]
  try simp only [Nat.reduceLT, Nat.reduceLeDiff, Nat.reduceEqDiff, true_and, and_true, and_self, Nat.zero_le, Nat.le_refl, true_or, or_true, Bool.false_eq_true, not_false_eq_true, Nat.reduceAdd, Nat.lt_add_one, Nat.zero_lt_one, nI_add, pk_mul, ixL, vpL, ne_eq, reduceIte, wI_sN, wL_sM, sN_same, sN_K, sN_2, sM_1, sM_same, sM_K, sM_s, uI_at, uN_at, enc_at, uI_enc, uI_uI, upM_s, upM_n]
  refine V_cK hB hno (s_length hc hS hk) rfl (fun U H h => ((hS U H h).2.2.1 k hk).2.1) (by decide +kernel) ck5J5_32 npJ0_length_8abf5 ⟨by decide, by decide⟩ (Nat.le_of_ble_eq_true rfl) rfl (Nat.zero_le _) ?_
  refine V_run hB (rt := some (.object "java/lang/AbstractStringBuilder")) (nL := 3) (mc := 20) rfl rfl rfl (ops := [(13, .istore_n 2, 1, (2, 0, 0, 0, 0, 0), 0), (14, .aload_n 0, 1, (0, 0, 0, 0, 0, 0), 0), (15, .aload_n 0, 1, (0, 0, 0, 0, 0, 0), 0)]) (by decide +kernel) ?_
  dsimp only [↓wpb, ↓wp1, ↓vI, ↓vL, ↓vD, ↓ldI, ↓ldL, ↓ldD, ↓ldR, ↓k1, ↓k2, ↓kI, ↓kL, ↓kD, ↓kII, ↓kLL, ↓kDD, ↓kR, ↓kIR, ↓kLR, ↓kIIR, ↓kLIR, ↓kDIR, ↓kRIR, ↓kNN, ↓kE, ↓br, ↓bn, ↓rtI, ↓gfv, ↓zchk, lput, ldel, lbad, alA, acat, isRf, dom, dS, dJ, isO, aTy, aLen, elAV, elR, Nat.reduceBEq, Nat.reduceAdd, Bool.or, Bool.and, Nat.add_zero, Nat.zero_add]
  try simp only [Nat.reduceLT, Nat.reduceLeDiff, Nat.reduceEqDiff, true_and, and_true, and_self, Nat.zero_le, Nat.le_refl, true_or, or_true, Bool.false_eq_true, not_false_eq_true, Nat.reduceAdd, Nat.lt_add_one, Nat.zero_lt_one, nI_add, pk_mul, ixL, vpL, ne_eq, reduceIte, wI_sN, wL_sM, sN_same, sN_K, sN_2, sM_1, sM_same, sM_K, sM_s, uI_at, uN_at, enc_at, uI_enc, uI_uI, upM_s, upM_n]
  refine V_sbg hB (k := 3) (v := aI (nI τ.2.2.2.2.1)) (Or.inr (Or.inr ⟨rfl, rfl⟩)) (idx := 79) (TBg_at 376 (by decide +kernel)) (by decide +kernel) ?_
  refine V_run hB (rt := some (.object "java/lang/AbstractStringBuilder")) (nL := 3) (mc := 20) rfl rfl rfl (ops := [(19, .iload_n 2, 1, (2, 0, 0, 0, 0, 0), 0), (20, .iadd, 1, (0, 0, 0, 0, 0, 0), 0)]) (by decide +kernel) ?_
  dsimp only [↓wpb, ↓wp1, ↓vI, ↓vL, ↓vD, ↓ldI, ↓ldL, ↓ldD, ↓ldR, ↓k1, ↓k2, ↓kI, ↓kL, ↓kD, ↓kII, ↓kLL, ↓kDD, ↓kR, ↓kIR, ↓kLR, ↓kIIR, ↓kLIR, ↓kDIR, ↓kRIR, ↓kNN, ↓kE, ↓br, ↓bn, ↓rtI, ↓gfv, ↓zchk, lput, ldel, lbad, alA, acat, isRf, dom, dS, dJ, isO, aTy, aLen, elAV, elR, Nat.reduceBEq, Nat.reduceAdd, Bool.or, Bool.and, Nat.add_zero, Nat.zero_add]
  try simp only [Nat.reduceLT, Nat.reduceLeDiff, Nat.reduceEqDiff, true_and, and_true, and_self, Nat.zero_le, Nat.le_refl, true_or, or_true, Bool.false_eq_true, not_false_eq_true, Nat.reduceAdd, Nat.lt_add_one, Nat.zero_lt_one, nI_add, pk_mul, ixL, vpL, ne_eq, reduceIte, wI_sN, wL_sM, sN_same, sN_K, sN_2, sM_1, sM_same, sM_K, sM_s, uI_at, uN_at, enc_at, uI_enc, uI_uI, upM_s, upM_n]
  refine V_callU hB hno hS (p_ensure hc hS (q := τ.2.2.2.2.1 + (slT k).length) hN) rfl (by decide +kernel) cu5J5_100 npJ5_ensureCapacityInternal_d00df ⟨by decide, by decide⟩ (Nat.le_of_ble_eq_true rfl) (by decide) (fun w τ' hh => ?_) (fun E τ' hh => by cases hh.1)
  obtain ⟨e, v, c', tt, rfl, hq, hcc, hc200, htt⟩ := hh
  cases e
  show V x (sbU τ v c' τ.2.2.2.2.1 tt) 20 24 _ []
  refine V_run hB (rt := some (.object "java/lang/AbstractStringBuilder")) (nL := 3) (mc := 20) rfl rfl rfl (ops := [(24, .aload_n 0, 1, (0, 0, 0, 0, 0, 0), 0), (25, .aload_n 0, 1, (0, 0, 0, 0, 0, 0), 0)]) (by decide +kernel) ?_
  dsimp only [↓wpb, ↓wp1, ↓vI, ↓vL, ↓vD, ↓ldI, ↓ldL, ↓ldD, ↓ldR, ↓k1, ↓k2, ↓kI, ↓kL, ↓kD, ↓kII, ↓kLL, ↓kDD, ↓kR, ↓kIR, ↓kLR, ↓kIIR, ↓kLIR, ↓kDIR, ↓kRIR, ↓kNN, ↓kE, ↓br, ↓bn, ↓rtI, ↓gfv, ↓zchk, lput, ldel, lbad, alA, acat, isRf, dom, dS, dJ, isO, aTy, aLen, elAV, elR, Nat.reduceBEq, Nat.reduceAdd, Bool.or, Bool.and, Nat.add_zero, Nat.zero_add]
  try simp only [Nat.reduceLT, Nat.reduceLeDiff, Nat.reduceEqDiff, true_and, and_true, and_self, Nat.zero_le, Nat.le_refl, true_or, or_true, Bool.false_eq_true, not_false_eq_true, Nat.reduceAdd, Nat.lt_add_one, Nat.zero_lt_one, nI_add, pk_mul, ixL, vpL, ne_eq, reduceIte, wI_sN, wL_sM, sN_same, sN_K, sN_2, sM_1, sM_same, sM_K, sM_s, uI_at, uN_at, enc_at, uI_enc, uI_uI, upM_s, upM_n]
  refine V_sbg hB (k := 3) (v := aI (nI τ.2.2.2.2.1)) (Or.inr (Or.inr ⟨rfl, rfl⟩)) (idx := 79) (TBg_at 376 (by decide +kernel)) (by decide +kernel) ?_
  refine V_run hB (rt := some (.object "java/lang/AbstractStringBuilder")) (nL := 3) (mc := 20) rfl rfl rfl (ops := [(29, .aload_n 1, 1, (1, 0, 0, 0, 0, 0), 0)]) (by decide +kernel) ?_
  dsimp only [↓wpb, ↓wp1, ↓vI, ↓vL, ↓vD, ↓ldI, ↓ldL, ↓ldD, ↓ldR, ↓k1, ↓k2, ↓kI, ↓kL, ↓kD, ↓kII, ↓kLL, ↓kDD, ↓kR, ↓kIR, ↓kLR, ↓kIIR, ↓kLIR, ↓kDIR, ↓kRIR, ↓kNN, ↓kE, ↓br, ↓bn, ↓rtI, ↓gfv, ↓zchk, lput, ldel, lbad, alA, acat, isRf, dom, dS, dJ, isO, aTy, aLen, elAV, elR, Nat.reduceBEq, Nat.reduceAdd, Bool.or, Bool.and, Nat.add_zero, Nat.zero_add]
  try simp only [Nat.reduceLT, Nat.reduceLeDiff, Nat.reduceEqDiff, true_and, and_true, and_self, Nat.zero_le, Nat.le_refl, true_or, or_true, Bool.false_eq_true, not_false_eq_true, Nat.reduceAdd, Nat.lt_add_one, Nat.zero_lt_one, nI_add, pk_mul, ixL, vpL, ne_eq, reduceIte, wI_sN, wL_sM, sN_same, sN_K, sN_2, sM_1, sM_same, sM_K, sM_s, uI_at, uN_at, enc_at, uI_enc, uI_uI, upM_s, upM_n]
  refine V_callU hB hno hS (s_putStr hc hS (τ := sbU τ v c' τ.2.2.2.2.1 tt) (dp := τ.2.2.2.2.1) hk hq) rfl (by decide +kernel) cu5J5_208 npJ5_putStringAt_47b60 ⟨by decide, by decide⟩ (Nat.le_of_ble_eq_true rfl) (by decide) (fun w τ' hh => ?_) (fun E τ' hh => by cases hh.1)
  obtain ⟨e, rfl⟩ := hh
  cases e
  show V x _ 20 33 _ []
  refine V_run hB (rt := some (.object "java/lang/AbstractStringBuilder")) (nL := 3) (mc := 20) rfl rfl rfl (ops := [(33, .aload_n 0, 1, (0, 0, 0, 0, 0, 0), 0), (34, .dup, 1, (0, 0, 0, 0, 0, 0), 0)]) (by decide +kernel) ?_
  dsimp only [↓wpb, ↓wp1, ↓vI, ↓vL, ↓vD, ↓ldI, ↓ldL, ↓ldD, ↓ldR, ↓k1, ↓k2, ↓kI, ↓kL, ↓kD, ↓kII, ↓kLL, ↓kDD, ↓kR, ↓kIR, ↓kLR, ↓kIIR, ↓kLIR, ↓kDIR, ↓kRIR, ↓kNN, ↓kE, ↓br, ↓bn, ↓rtI, ↓gfv, ↓zchk, lput, ldel, lbad, alA, acat, isRf, dom, dS, dJ, isO, aTy, aLen, elAV, elR, Nat.reduceBEq, Nat.reduceAdd, Bool.or, Bool.and, Nat.add_zero, Nat.zero_add]
  try simp only [Nat.reduceLT, Nat.reduceLeDiff, Nat.reduceEqDiff, true_and, and_true, and_self, Nat.zero_le, Nat.le_refl, true_or, or_true, Bool.false_eq_true, not_false_eq_true, Nat.reduceAdd, Nat.lt_add_one, Nat.zero_lt_one, nI_add, pk_mul, ixL, vpL, ne_eq, reduceIte, wI_sN, wL_sM, sN_same, sN_K, sN_2, sM_1, sM_same, sM_K, sM_s, uI_at, uN_at, enc_at, uI_enc, uI_uI, upM_s, upM_n]
  refine V_sbg hB (k := 3) (v := aI (nI τ.2.2.2.2.1)) (Or.inr (Or.inr ⟨rfl, rfl⟩)) (idx := 79) (TBg_at 376 (by decide +kernel)) (by decide +kernel) ?_
  refine V_run hB (rt := some (.object "java/lang/AbstractStringBuilder")) (nL := 3) (mc := 20) rfl rfl rfl (ops := [(38, .iload_n 2, 1, (2, 0, 0, 0, 0, 0), 0), (39, .iadd, 1, (0, 0, 0, 0, 0, 0), 0)]) (by decide +kernel) ?_
  dsimp only [↓wpb, ↓wp1, ↓vI, ↓vL, ↓vD, ↓ldI, ↓ldL, ↓ldD, ↓ldR, ↓k1, ↓k2, ↓kI, ↓kL, ↓kD, ↓kII, ↓kLL, ↓kDD, ↓kR, ↓kIR, ↓kLR, ↓kIIR, ↓kLIR, ↓kDIR, ↓kRIR, ↓kNN, ↓kE, ↓br, ↓bn, ↓rtI, ↓gfv, ↓zchk, lput, ldel, lbad, alA, acat, isRf, dom, dS, dJ, isO, aTy, aLen, elAV, elR, Nat.reduceBEq, Nat.reduceAdd, Bool.or, Bool.and, Nat.add_zero, Nat.zero_add]
  try simp only [Nat.reduceLT, Nat.reduceLeDiff, Nat.reduceEqDiff, true_and, and_true, and_self, Nat.zero_le, Nat.le_refl, true_or, or_true, Bool.false_eq_true, not_false_eq_true, Nat.reduceAdd, Nat.lt_add_one, Nat.zero_lt_one, nI_add, pk_mul, ixL, vpL, ne_eq, reduceIte, wI_sN, wL_sM, sN_same, sN_K, sN_2, sM_1, sM_same, sM_K, sM_s, uI_at, uN_at, enc_at, uI_enc, uI_uI, upM_s, upM_n]
  refine V_sbp hB (q := τ.2.2.2.2.1 + (slT k).length) hq (idx := 79) ⟨RJ4, TJ4, 4, tyJ4, .int, rfl, by decide, (TBg_at 376 (by decide +kernel)), lay_J4, tyJ4_ok, nmJ4, rfl, rfl, rfl, rfl⟩ (by decide +kernel) ?_
  refine V_run hB (rt := some (.object "java/lang/AbstractStringBuilder")) (nL := 3) (mc := 20) rfl rfl rfl (ops := [(43, .aload_n 0, 1, (0, 0, 0, 0, 0, 0), 0), (44, .areturn, 1, (0, 0, 0, 0, 0, 0), 0)]) (by decide +kernel) ?_
  dsimp only [↓wpb, ↓wp1, ↓vI, ↓vL, ↓vD, ↓ldI, ↓ldL, ↓ldD, ↓ldR, ↓k1, ↓k2, ↓kI, ↓kL, ↓kD, ↓kII, ↓kLL, ↓kDD, ↓kR, ↓kIR, ↓kLR, ↓kIIR, ↓kLIR, ↓kDIR, ↓kRIR, ↓kNN, ↓kE, ↓br, ↓bn, ↓rtI, ↓gfv, ↓zchk, lput, ldel, lbad, alA, acat, isRf, dom, dS, dJ, isO, aTy, aLen, elAV, elR, Nat.reduceBEq, Nat.reduceAdd, Bool.or, Bool.and, Nat.add_zero, Nat.zero_add]
  try simp only [Nat.reduceLT, Nat.reduceLeDiff, Nat.reduceEqDiff, true_and, and_true, and_self, Nat.zero_le, Nat.le_refl, true_or, or_true, Bool.false_eq_true, not_false_eq_true, Nat.reduceAdd, Nat.lt_add_one, Nat.zero_lt_one, nI_add, pk_mul, ixL, vpL, ne_eq, reduceIte, wI_sN, wL_sM, sN_same, sN_K, sN_2, sM_1, sM_same, sM_K, sM_s, uI_at, uN_at, enc_at, uI_enc, uI_uI, upM_s, upM_n]
  refine ⟨Or.inl ⟨_, rfl⟩, rfl, v, c', _, rfl, fun j hj => ?_, fun j c hj => ?_⟩
  · exact (if_neg (by omega)).trans (htt j (by omega))
  · have hj2 : j < (slT k).length := (List.getElem?_eq_some_iff.mp hj).1
    refine (if_pos (by omega)).trans ?_
    rw [show τ.2.2.2.2.1 + j - τ.2.2.2.2.1 = j by omega, List.getD_eq_getElem?_getD, hj]
    rfl
theorem p_appS (hc : CtxE l G) (hS : SlF G) {k : Nat} (hk : k < 3) (hN : τ.2.2.2.2.1 + (slT k).length ≤ 99) : Sat l G iJ4_append_15ec4 [sbM, .inr (65, k, 0)] τ (SbO τ (slT k)) := by
  refine Sat_ofF hc.1.1 hc.1.2 (by decide +kernel) (Nat.le_of_ble_eq_true rfl) (fun x hB hno => ?_)
  refine V_run hB (rt := some (.object "java/lang/StringBuilder")) (nL := 2) (mc := 20) rfl rfl rfl (ops := [(0, .aload_n 0, 1, (0, 0, 0, 0, 0, 0), 0), (1, .aload_n 1, 1, (1, 0, 0, 0, 0, 0), 0)]) (by decide +kernel) ?_
  dsimp only [↓wpb, ↓wp1, ↓vI, ↓vL, ↓vD, ↓ldI, ↓ldL, ↓ldD, ↓ldR, ↓k1, ↓k2, ↓kI, ↓kL, ↓kD, ↓kII, ↓kLL, ↓kDD, ↓kR, ↓kIR, ↓kLR, ↓kIIR, ↓kLIR, ↓kDIR, ↓kRIR, ↓kNN, ↓kE, ↓br, ↓bn, ↓rtI, ↓gfv, ↓zchk, lput, ldel, lbad, alA, acat, isRf, dom, dS, dJ, isO, aTy, aLen, elAV, elR, Nat.reduceBEq, Nat.reduceAdd, Bool.or, Bool.and, Nat.add_zero, Nat.zero_add]
  try simp only [Nat.reduceLT, Nat.reduceLeDiff, Nat.reduceEqDiff, true_and, and_true, and_self, Nat.zero_le, Nat.le_refl, true_or, or_true, Bool.false_eq_true, not_false_eq_true, Nat.reduceAdd, Nat.lt_add_one, Nat.zero_lt_one, nI_add, pk_mul, ixL, vpL, ne_eq, reduceIte, wI_sN, wL_sM, sN_same, sN_K, sN_2, sM_1, sM_same, sM_K, sM_s, uI_at, uN_at, enc_at, uI_enc, uI_uI, upM_s, upM_n]
  refine V_callSU hB hno (p_appS5 hc hS hk hN) rfl (by decide +kernel) su5J4_29 npJ5_append_cf1ce ⟨by decide, by decide⟩ (Nat.le_of_ble_eq_true rfl) (by decide) (fun w τ' hh => ?_) (fun E τ' hh => by cases hh.1)
  obtain ⟨e, hh⟩ := hh
  cases e
  show V x τ' 20 5 _ [sbM]
  refine V_run hB (rt := some (.object "java/lang/StringBuilder")) (nL := 2) (mc := 20) rfl rfl rfl (ops := [(5, .pop, 1, (0, 0, 0, 0, 0, 0), 0), (6, .aload_n 0, 1, (0, 0, 0, 0, 0, 0), 0), (7, .areturn, 1, (0, 0, 0, 0, 0, 0), 0)]) (by decide +kernel) ?_
  dsimp only [↓wpb, ↓wp1, ↓vI, ↓vL, ↓vD, ↓ldI, ↓ldL, ↓ldD, ↓ldR, ↓k1, ↓k2, ↓kI, ↓kL, ↓kD, ↓kII, ↓kLL, ↓kDD, ↓kR, ↓kIR, ↓kLR, ↓kIIR, ↓kLIR, ↓kDIR, ↓kRIR, ↓kNN, ↓kE, ↓br, ↓bn, ↓rtI, ↓gfv, ↓zchk, lput, ldel, lbad, alA, acat, isRf, dom, dS, dJ, isO, aTy, aLen, elAV, elR, Nat.reduceBEq, Nat.reduceAdd, Bool.or, Bool.and, Nat.add_zero, Nat.zero_add]
  try simp only [Nat.reduceLT, Nat.reduceLeDiff, Nat.reduceEqDiff, true_and, and_true, and_self, Nat.zero_le, Nat.le_refl, true_or, or_true, Bool.false_eq_true, not_false_eq_true, Nat.reduceAdd, Nat.lt_add_one, Nat.zero_lt_one, nI_add, pk_mul, ixL, vpL, ne_eq, reduceIte, wI_sN, wL_sM, sN_same, sN_K, sN_2, sM_1, sM_same, sM_K, sM_s, uI_at, uN_at, enc_at, uI_enc, uI_uI, upM_s, upM_n]
  exact ⟨Or.inl ⟨_, rfl⟩, rfl, hh⟩
theorem p_len (hc : CtxE l G) : Sat l G iJ4_length_8abf5 [sbM] τ (retI (nI τ.2.2.2.2.1) τ) := by
  refine Sat_ofF hc.1.1 hc.1.2 (by decide +kernel) (Nat.le_of_ble_eq_true rfl) (fun x hB hno => ?_)
  refine V_run hB (rt := some .int) (nL := 1) (mc := 0) rfl rfl rfl (ops := [(0, .aload_n 0, 1, (0, 0, 0, 0, 0, 0), 0)]) (by decide +kernel) ?_
  dsimp only [↓wpb, ↓wp1, ↓vI, ↓vL, ↓vD, ↓ldI, ↓ldL, ↓ldD, ↓ldR, ↓k1, ↓k2, ↓kI, ↓kL, ↓kD, ↓kII, ↓kLL, ↓kDD, ↓kR, ↓kIR, ↓kLR, ↓kIIR, ↓kLIR, ↓kDIR, ↓kRIR, ↓kNN, ↓kE, ↓br, ↓bn, ↓rtI, ↓gfv, ↓zchk, lput, ldel, lbad, alA, acat, isRf, dom, dS, dJ, isO, aTy, aLen, elAV, elR, Nat.reduceBEq, Nat.reduceAdd, Bool.or, Bool.and, Nat.add_zero, Nat.zero_add]
  try simp only [Nat.reduceLT, Nat.reduceLeDiff, Nat.reduceEqDiff, true_and, and_true, and_self, Nat.zero_le, Nat.le_refl, true_or, or_true, Bool.false_eq_true, not_false_eq_true, Nat.reduceAdd, Nat.lt_add_one, Nat.zero_lt_one, nI_add, pk_mul, ixL, vpL, ne_eq, reduceIte, wI_sN, wL_sM, sN_same, sN_K, sN_2, sM_1, sM_same, sM_K, sM_s, uI_at, uN_at, enc_at, uI_enc, uI_uI, upM_s, upM_n]
  refine V_callSU hB hno (p_length hc) rfl (by decide +kernel) su5J4_343 npJ5_length_8abf5 ⟨by decide, by decide⟩ (Nat.le_of_ble_eq_true rfl) (by decide) (fun w τ' hh => ?_) (fun E τ' hh => by cases hh.1)
  obtain ⟨e, rfl⟩ := hh
  cases e
  show V x τ' 0 4 _ [aI (nI τ'.2.2.2.2.1)]
  refine V_run hB (rt := some .int) (nL := 1) (mc := 0) rfl rfl rfl (ops := [(4, .ireturn, 1, (0, 0, 0, 0, 0, 0), 0)]) (by decide +kernel) ?_
  dsimp only [↓wpb, ↓wp1, ↓vI, ↓vL, ↓vD, ↓ldI, ↓ldL, ↓ldD, ↓ldR, ↓k1, ↓k2, ↓kI, ↓kL, ↓kD, ↓kII, ↓kLL, ↓kDD, ↓kR, ↓kIR, ↓kLR, ↓kIIR, ↓kLIR, ↓kDIR, ↓kRIR, ↓kNN, ↓kE, ↓br, ↓bn, ↓rtI, ↓gfv, ↓zchk, lput, ldel, lbad, alA, acat, isRf, dom, dS, dJ, isO, aTy, aLen, elAV, elR, Nat.reduceBEq, Nat.reduceAdd, Bool.or, Bool.and, Nat.add_zero, Nat.zero_add]
  try simp only [Nat.reduceLT, Nat.reduceLeDiff, Nat.reduceEqDiff, true_and, and_true, and_self, Nat.zero_le, Nat.le_refl, true_or, or_true, Bool.false_eq_true, not_false_eq_true, Nat.reduceAdd, Nat.lt_add_one, Nat.zero_lt_one, nI_add, pk_mul, ixL, vpL, ne_eq, reduceIte, wI_sN, wL_sM, sN_same, sN_K, sN_2, sM_1, sM_same, sM_K, sM_s, uI_at, uN_at, enc_at, uI_enc, uI_uI, upM_s, upM_n]
  exact ⟨rfl, rfl⟩
/-- emptied -/
def ZeO (τ : Mem) : AOut → Mem → Prop := fun o τ' => o = .inl none ∧ ∃ v c tt, τ' = sbU τ v c 0 tt
theorem p_set05 (hc : CtxE l G) (hS : SlF G) : Sat l G iJ5_setLength_d00df [sbM, aI (nI 0)] τ (ZeO τ) := by
  refine Sat_ofF hc.1.1 hc.1.2 (by decide +kernel) (Nat.le_of_ble_eq_true rfl) (fun x hB hno => ?_)
  refine V_run hB (rt := none) (nL := 2) (mc := 20) rfl rfl rfl (ops := [(0, .iload_n 1, 1, (1, 0, 0, 0, 0, 0), 0), (1, .ifCond .ge 12, 3, (13, 0, 0, 0, 0, 0), 0)]) (by decide +kernel) ?_
  dsimp only [↓wpb, ↓wp1, ↓vI, ↓vL, ↓vD, ↓ldI, ↓ldL, ↓ldD, ↓ldR, ↓k1, ↓k2, ↓kI, ↓kL, ↓kD, ↓kII, ↓kLL, ↓kDD, ↓kR, ↓kIR, ↓kLR, ↓kIIR, ↓kLIR, ↓kDIR, ↓kRIR, ↓kNN, ↓kE, ↓br, ↓bn, ↓rtI, ↓gfv, ↓zchk, lput, ldel, lbad, alA, acat, isRf, dom, dS, dJ, isO, aTy, aLen, elAV, elR, Nat.reduceBEq, Nat.reduceAdd, Bool.or, Bool.and, Nat.add_zero, Nat.zero_add]
  try simp only [Nat.reduceLT, Nat.reduceLeDiff, Nat.reduceEqDiff, true_and, and_true, and_self, Nat.zero_le, Nat.le_refl, true_or, or_true, Bool.false_eq_true, not_false_eq_true, Nat.reduceAdd, Nat.lt_add_one, Nat.zero_lt_one, nI_add, pk_mul, ixL, vpL, ne_eq, reduceIte, wI_sN, wL_sM, sN_same, sN_K, sN_2, sM_1, sM_same, sM_K, sM_s, uI_at, uN_at, enc_at, uI_enc, uI_uI, upM_s, upM_n]
  refine ⟨fun _ => ?_, fun q => absurd (by decide) q⟩
  refine V_run hB (rt := none) (nL := 2) (mc := 20) rfl rfl rfl (ops := [(13, .aload_n 0, 1, (0, 0, 0, 0, 0, 0), 0), (14, .iload_n 1, 1, (1, 0, 0, 0, 0, 0), 0)]) (by decide +kernel) ?_
  dsimp only [↓wpb, ↓wp1, ↓vI, ↓vL, ↓vD, ↓ldI, ↓ldL, ↓ldD, ↓ldR, ↓k1, ↓k2, ↓kI, ↓kL, ↓kD, ↓kII, ↓kLL, ↓kDD, ↓kR, ↓kIR, ↓kLR, ↓kIIR, ↓kLIR, ↓kDIR, ↓kRIR, ↓kNN, ↓kE, ↓br, ↓bn, ↓rtI, ↓gfv, ↓zchk, lput, ldel, lbad, alA, acat, isRf, dom, dS, dJ, isO, aTy, aLen, elAV, elR, Nat.reduceBEq, Nat.reduceAdd, Bool.or, Bool.and, Nat.add_zero, Nat.zero_add]
  try simp only [Nat.reduceLT, Nat.reduceLeDiff, Nat.reduceEqDiff, true_and, and_true, and_self, Nat.zero_le, Nat.le_refl, true_or, or_true, Bool.false_eq_true, not_false_eq_true, Nat.reduceAdd, Nat.lt_add_one, Nat.zero_lt_one, nI_add, pk_mul, ixL, vpL, ne_eq, reduceIte, wI_sN, wL_sM, sN_same, sN_K, sN_2, sM_1, sM_same, sM_K, sM_s, uI_at, uN_at, enc_at, uI_enc, uI_uI, upM_s, upM_n]
  refine V_callU hB hno hS (p_ensure hc hS (q := 0) (by decide)) rfl (by decide +kernel) cu5J5_100 npJ5_ensureCapacityInternal_d00df ⟨by decide, by decide⟩ (Nat.le_of_ble_eq_true rfl) (by decide) (fun w τ' hh => ?_) (fun E τ' hh => by cases hh.1)
  obtain ⟨e, v, c', tt, rfl, hq, hcc, hc200, htt⟩ := hh
  cases e
  show V x (sbU τ v c' τ.2.2.2.2.1 tt) 20 18 _ []
  refine V_sbi (fun hn hcap ht => ?_)
  have hn : τ.2.2.2.2.1 ≤ c' := hn
  refine V_run hB (rt := none) (nL := 2) (mc := 20) rfl rfl rfl (ops := [(18, .aload_n 0, 1, (0, 0, 0, 0, 0, 0), 0)]) (by decide +kernel) ?_
  dsimp only [↓wpb, ↓wp1, ↓vI, ↓vL, ↓vD, ↓ldI, ↓ldL, ↓ldD, ↓ldR, ↓k1, ↓k2, ↓kI, ↓kL, ↓kD, ↓kII, ↓kLL, ↓kDD, ↓kR, ↓kIR, ↓kLR, ↓kIIR, ↓kLIR, ↓kDIR, ↓kRIR, ↓kNN, ↓kE, ↓br, ↓bn, ↓rtI, ↓gfv, ↓zchk, lput, ldel, lbad, alA, acat, isRf, dom, dS, dJ, isO, aTy, aLen, elAV, elR, Nat.reduceBEq, Nat.reduceAdd, Bool.or, Bool.and, Nat.add_zero, Nat.zero_add]
  try simp only [Nat.reduceLT, Nat.reduceLeDiff, Nat.reduceEqDiff, true_and, and_true, and_self, Nat.zero_le, Nat.le_refl, true_or, or_true, Bool.false_eq_true, not_false_eq_true, Nat.reduceAdd, Nat.lt_add_one, Nat.zero_lt_one, nI_add, pk_mul, ixL, vpL, ne_eq, reduceIte, wI_sN, wL_sM, sN_same, sN_K, sN_2, sM_1, sM_same, sM_K, sM_s, uI_at, uN_at, enc_at, uI_enc, uI_uI, upM_s, upM_n]
  refine V_sbg hB (k := 3) (v := aI (nI τ.2.2.2.2.1)) (Or.inr (Or.inr ⟨rfl, rfl⟩)) (idx := 79) (TBg_at 376 (by decide +kernel)) (by decide +kernel) ?_
  refine V_run hB (rt := none) (nL := 2) (mc := 20) rfl rfl rfl (ops := [(22, .iload_n 1, 1, (1, 0, 0, 0, 0, 0), 0), (23, .if_icmp .ge 40, 3, (63, 0, 0, 0, 0, 0), 0)]) (by decide +kernel) ?_
  dsimp only [↓wpb, ↓wp1, ↓vI, ↓vL, ↓vD, ↓ldI, ↓ldL, ↓ldD, ↓ldR, ↓k1, ↓k2, ↓kI, ↓kL, ↓kD, ↓kII, ↓kLL, ↓kDD, ↓kR, ↓kIR, ↓kLR, ↓kIIR, ↓kLIR, ↓kDIR, ↓kRIR, ↓kNN, ↓kE, ↓br, ↓bn, ↓rtI, ↓gfv, ↓zchk, lput, ldel, lbad, alA, acat, isRf, dom, dS, dJ, isO, aTy, aLen, elAV, elR, Nat.reduceBEq, Nat.reduceAdd, Bool.or, Bool.and, Nat.add_zero, Nat.zero_add]
  try simp only [Nat.reduceLT, Nat.reduceLeDiff, Nat.reduceEqDiff, true_and, and_true, and_self, Nat.zero_le, Nat.le_refl, true_or, or_true, Bool.false_eq_true, not_false_eq_true, Nat.reduceAdd, Nat.lt_add_one, Nat.zero_lt_one, nI_add, pk_mul, ixL, vpL, ne_eq, reduceIte, wI_sN, wL_sM, sN_same, sN_K, sN_2, sM_1, sM_same, sM_K, sM_s, uI_at, uN_at, enc_at, uI_enc, uI_uI, upM_s, upM_n]
  refine ⟨fun _ => ?_, fun q => absurd (nI_le (Nat.zero_le _) (by omega)) q⟩
  refine V_run hB (rt := none) (nL := 2) (mc := 20) rfl rfl rfl (ops := [(63, .aload_n 0, 1, (0, 0, 0, 0, 0, 0), 0)]) (by decide +kernel) ?_
  dsimp only [↓wpb, ↓wp1, ↓vI, ↓vL, ↓vD, ↓ldI, ↓ldL, ↓ldD, ↓ldR, ↓k1, ↓k2, ↓kI, ↓kL, ↓kD, ↓kII, ↓kLL, ↓kDD, ↓kR, ↓kIR, ↓kLR, ↓kIIR, ↓kLIR, ↓kDIR, ↓kRIR, ↓kNN, ↓kE, ↓br, ↓bn, ↓rtI, ↓gfv, ↓zchk, lput, ldel, lbad, alA, acat, isRf, dom, dS, dJ, isO, aTy, aLen, elAV, elR, Nat.reduceBEq, Nat.reduceAdd, Bool.or, Bool.and, Nat.add_zero, Nat.zero_add]
  try simp only [Nat.reduceLT, Nat.reduceLeDiff, Nat.reduceEqDiff, true_and, and_true, and_self, Nat.zero_le, Nat.le_refl, true_or, or_true, Bool.false_eq_true, not_false_eq_true, Nat.reduceAdd, Nat.lt_add_one, Nat.zero_lt_one, nI_add, pk_mul, ixL, vpL, ne_eq, reduceIte, wI_sN, wL_sM, sN_same, sN_K, sN_2, sM_1, sM_same, sM_K, sM_s, uI_at, uN_at, enc_at, uI_enc, uI_uI, upM_s, upM_n]
  refine V_sbg hB (k := 3) (v := aI (nI τ.2.2.2.2.1)) (Or.inr (Or.inr ⟨rfl, rfl⟩)) (idx := 79) (TBg_at 376 (by decide +kernel)) (by decide +kernel) ?_
  refine V_run hB (rt := none) (nL := 2) (mc := 20) rfl rfl rfl (ops := [(67, .iload_n 1, 1, (1, 0, 0, 0, 0, 0), 0), (68, .if_icmp .le 8, 3, (76, 0, 0, 0, 0, 0), 0), (71, .aload_n 0, 1, (0, 0, 0, 0, 0, 0), 0), (72, .iconst 1, 1, (0, 0, 0, 0, 0, 0), nI 1)]) (by decide +kernel) ?_
  dsimp only [↓wpb, ↓wp1, ↓vI, ↓vL, ↓vD, ↓ldI, ↓ldL, ↓ldD, ↓ldR, ↓k1, ↓k2, ↓kI, ↓kL, ↓kD, ↓kII, ↓kLL, ↓kDD, ↓kR, ↓kIR, ↓kLR, ↓kIIR, ↓kLIR, ↓kDIR, ↓kRIR, ↓kNN, ↓kE, ↓br, ↓bn, ↓rtI, ↓gfv, ↓zchk, lput, ldel, lbad, alA, acat, isRf, dom, dS, dJ, isO, aTy, aLen, elAV, elR, Nat.reduceBEq, Nat.reduceAdd, Bool.or, Bool.and, Nat.add_zero, Nat.zero_add]
  try simp only [Nat.reduceLT, Nat.reduceLeDiff, Nat.reduceEqDiff, true_and, and_true, and_self, Nat.zero_le, Nat.le_refl, true_or, or_true, Bool.false_eq_true, not_false_eq_true, Nat.reduceAdd, Nat.lt_add_one, Nat.zero_lt_one, nI_add, pk_mul, ixL, vpL, ne_eq, reduceIte, wI_sN, wL_sM, sN_same, sN_K, sN_2, sM_1, sM_same, sM_K, sM_s, uI_at, uN_at, enc_at, uI_enc, uI_uI, upM_s, upM_n]
  have fin : V x (sbU τ v c' τ.2.2.2.2.1 tt) 20 76 [(0, sbM), (1, aI (nI 0))] [] := by
    refine V_run hB (rt := none) (nL := 2) (mc := 20) rfl rfl rfl (ops := [(76, .aload_n 0, 1, (0, 0, 0, 0, 0, 0), 0), (77, .iload_n 1, 1, (1, 0, 0, 0, 0, 0), 0)]) (by decide +kernel) ?_
    dsimp only [↓wpb, ↓wp1, ↓vI, ↓vL, ↓vD, ↓ldI, ↓ldL, ↓ldD, ↓ldR, ↓k1, ↓k2, ↓kI, ↓kL, ↓kD, ↓kII, ↓kLL, ↓kDD, ↓kR, ↓kIR, ↓kLR, ↓kIIR, ↓kLIR, ↓kDIR, ↓kRIR, ↓kNN, ↓kE, ↓br, ↓bn, ↓rtI, ↓gfv, ↓zchk, lput, ldel, lbad, alA, acat, isRf, dom, dS, dJ, isO, aTy, aLen, elAV, elR, Nat.reduceBEq, Nat.reduceAdd, Bool.or, Bool.and, Nat.add_zero, Nat.zero_add]
    try simp only [Nat.reduceLT, Nat.reduceLeDiff, Nat.reduceEqDiff, true_and, and_true, and_self, Nat.zero_le, Nat.le_refl, true_or, or_true, Bool.false_eq_true, not_false_eq_true, Nat.reduceAdd, Nat.lt_add_one, Nat.zero_lt_one, nI_add, pk_mul, ixL, vpL, ne_eq, reduceIte, wI_sN, wL_sM, sN_same, sN_K, sN_2, sM_1, sM_same, sM_K, sM_s, uI_at, uN_at, enc_at, uI_enc, uI_uI, upM_s, upM_n]
    refine V_sbp hB (q := 0) (Nat.zero_le _) (idx := 79) ⟨RJ4, TJ4, 4, tyJ4, .int, rfl, by decide, (TBg_at 376 (by decide +kernel)), lay_J4, tyJ4_ok, nmJ4, rfl, rfl, rfl, rfl⟩ (by decide +kernel) ?_
    refine V_run hB (rt := none) (nL := 2) (mc := 20) rfl rfl rfl (ops := [(81, .return_, 1, (0, 0, 0, 0, 0, 0), 0)]) (by decide +kernel) ?_
    dsimp only [↓wpb, ↓wp1, ↓vI, ↓vL, ↓vD, ↓ldI, ↓ldL, ↓ldD, ↓ldR, ↓k1, ↓k2, ↓kI, ↓kL, ↓kD, ↓kII, ↓kLL, ↓kDD, ↓kR, ↓kIR, ↓kLR, ↓kIIR, ↓kLIR, ↓kDIR, ↓kRIR, ↓kNN, ↓kE, ↓br, ↓bn, ↓rtI, ↓gfv, ↓zchk, lput, ldel, lbad, alA, acat, isRf, dom, dS, dJ, isO, aTy, aLen, elAV, elR, Nat.reduceBEq, Nat.reduceAdd, Bool.or, Bool.and, Nat.add_zero, Nat.zero_add]
    try simp only [Nat.reduceLT, Nat.reduceLeDiff, Nat.reduceEqDiff, true_and, and_true, and_self, Nat.zero_le, Nat.le_refl, true_or, or_true, Bool.false_eq_true, not_false_eq_true, Nat.reduceAdd, Nat.lt_add_one, Nat.zero_lt_one, nI_add, pk_mul, ixL, vpL, ne_eq, reduceIte, wI_sN, wL_sM, sN_same, sN_K, sN_2, sM_1, sM_same, sM_K, sM_s, uI_at, uN_at, enc_at, uI_enc, uI_uI, upM_s, upM_n]
    exact ⟨rfl, v, c', tt, rfl⟩
  refine ⟨fun _ => fin, fun _ => ?_⟩
  refine V_sbm hB (idx := 73) ⟨RJ4, TJ4, 4, tyJ4, .boolean, rfl, by decide, (TBg_at 374 (by decide +kernel)), lay_J4, tyJ4_ok, nmJ4, rfl, rfl, rfl, rfl⟩ (by decide +kernel) ?_
  exact fin
theorem p_set0 (hc : CtxE l G) (hS : SlF G) : Sat l G iJ4_setLength_d00df [sbM, aI (nI 0)] τ (ZeO τ) := by
  refine Sat_ofF hc.1.1 hc.1.2 (by decide +kernel) (Nat.le_of_ble_eq_true rfl) (fun x hB hno => ?_)
  refine V_run hB (rt := none) (nL := 2) (mc := 20) rfl rfl rfl (ops := [(0, .aload_n 0, 1, (0, 0, 0, 0, 0, 0), 0), (1, .iload_n 1, 1, (1, 0, 0, 0, 0, 0), 0)]) (by decide +kernel) ?_
  dsimp only [↓wpb, ↓wp1, ↓vI, ↓vL, ↓vD, ↓ldI, ↓ldL, ↓ldD, ↓ldR, ↓k1, ↓k2, ↓kI, ↓kL, ↓kD, ↓kII, ↓kLL, ↓kDD, ↓kR, ↓kIR, ↓kLR, ↓kIIR, ↓kLIR, ↓kDIR, ↓kRIR, ↓kNN, ↓kE, ↓br, ↓bn, ↓rtI, ↓gfv, ↓zchk, lput, ldel, lbad, alA, acat, isRf, dom, dS, dJ, isO, aTy, aLen, elAV, elR, Nat.reduceBEq, Nat.reduceAdd, Bool.or, Bool.and, Nat.add_zero, Nat.zero_add]
  try simp only [Nat.reduceLT, Nat.reduceLeDiff, Nat.reduceEqDiff, true_and, and_true, and_self, Nat.zero_le, Nat.le_refl, true_or, or_true, Bool.false_eq_true, not_false_eq_true, Nat.reduceAdd, Nat.lt_add_one, Nat.zero_lt_one, nI_add, pk_mul, ixL, vpL, ne_eq, reduceIte, wI_sN, wL_sM, sN_same, sN_K, sN_2, sM_1, sM_same, sM_K, sM_s, uI_at, uN_at, enc_at, uI_enc, uI_uI, upM_s, upM_n]
  refine V_callSU hB hno (p_set05 hc hS) rfl (by decide +kernel) su5J4_333 npJ5_setLength_d00df ⟨by decide, by decide⟩ (Nat.le_of_ble_eq_true rfl) (by decide) (fun w τ' hh => ?_) (fun E τ' hh => by cases hh.1)
  obtain ⟨e, hh⟩ := hh
  cases e
  show V x τ' 20 5 _ []
  refine V_run hB (rt := none) (nL := 2) (mc := 20) rfl rfl rfl (ops := [(5, .return_, 1, (0, 0, 0, 0, 0, 0), 0)]) (by decide +kernel) ?_
  dsimp only [↓wpb, ↓wp1, ↓vI, ↓vL, ↓vD, ↓ldI, ↓ldL, ↓ldD, ↓ldR, ↓k1, ↓k2, ↓kI, ↓kL, ↓kD, ↓kII, ↓kLL, ↓kDD, ↓kR, ↓kIR, ↓kLR, ↓kIIR, ↓kLIR, ↓kDIR, ↓kRIR, ↓kNN, ↓kE, ↓br, ↓bn, ↓rtI, ↓gfv, ↓zchk, lput, ldel, lbad, alA, acat, isRf, dom, dS, dJ, isO, aTy, aLen, elAV, elR, Nat.reduceBEq, Nat.reduceAdd, Bool.or, Bool.and, Nat.add_zero, Nat.zero_add]
  try simp only [Nat.reduceLT, Nat.reduceLeDiff, Nat.reduceEqDiff, true_and, and_true, and_self, Nat.zero_le, Nat.le_refl, true_or, or_true, Bool.false_eq_true, not_false_eq_true, Nat.reduceAdd, Nat.lt_add_one, Nat.zero_lt_one, nI_add, pk_mul, ixL, vpL, ne_eq, reduceIte, wI_sN, wL_sM, sN_same, sN_K, sN_2, sM_1, sM_same, sM_K, sM_s, uI_at, uN_at, enc_at, uI_enc, uI_uI, upM_s, upM_n]
  exact ⟨rfl, hh⟩
end AP2
