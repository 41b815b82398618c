/-! ===== the slip: a number appended ===== -/
section NM
variable {l : Launch} {G : GG} {τ : Mem}
theorem p_stringSize (hc : CtxE l G) {v : Nat} (hv : v < 100000) : Sat l G iJ6_stringSize_0f7a4 [aI (nI v)] τ (retI (nI (sb_dg v)) τ) := by
  refine Sat_ofF hc.1.1 hc.1.2 (by decide +kernel) (Nat.le_of_ble_eq_true rfl) (fun x hB hno => ?_)
  have hv2 : v < 2 ^ 31 := by omega
  have step : ∀ (i P : Nat) (al : Al), i < 10 → P ≤ 1000000 → (∀ z ∈ ([(0, aI (-nI v)), (1, aI (nI 0)), (2, aI (-nI P)), (3, aI (nI i))] : Al), lk al z.1 = some z.2) → (v < P → sb_dg v = i) → (¬ v < P → V x τ 0 16 [(0, aI (-nI v)), (1, aI (nI 0)), (2, aI (-nI (10 * P))), (3, aI (nI (i + 1)))] []) → V x τ 0 16 al [] := by
    intro i P al hi hP hal hd k
    refine V.sub ?_ hal
    have hmul : nI 10 * -nI P = -nI (10 * P) := by rw [Int32.mul_neg, pk_mul]
    refine V_run hB (rt := some .int) (nL := 4) (mc := 0) rfl rfl rfl (ops := [(16, .iload_n 3, 1, (3, 0, 0, 0, 0, 0), 0), (17, .bipush 10, 2, (0, 0, 0, 0, 0, 0), nI 10), (19, .if_icmp .ge 23, 3, (42, 0, 0, 0, 0, 0), 0)]) (by decide +kernel) ?_
    dsimp only [↓wpb, ↓wp1, ↓vI, ↓vL, ↓vD, ↓ldI, ↓ldL, ↓ldD, ↓ldR, ↓k1, ↓k2, ↓kI, ↓kL, ↓kD, ↓kII, ↓kLL, ↓kDD, ↓kR, ↓kIR, ↓kLR, ↓kIIR, ↓kLIR, ↓kDIR, ↓kRIR, ↓kNN, ↓kE, ↓br, ↓bn, ↓rtI, ↓gfv, ↓zchk, lput, ldel, lbad, alA, acat, isRf, dom, dS, dJ, isO, aTy, aLen, elAV, elR, Nat.reduceBEq, Nat.reduceAdd, Bool.or, Bool.and, Nat.add_zero, Nat.zero_add]
    try simp only [Nat.reduceLT, Nat.reduceLeDiff, Nat.reduceEqDiff, true_and, and_true, and_self, Nat.zero_le, Nat.le_refl, true_or, or_true, Bool.false_eq_true, not_false_eq_true, Nat.reduceAdd, Nat.lt_add_one, Nat.zero_lt_one, nI_add, pk_mul, ixL, vpL, ne_eq, reduceIte, wI_sN, wL_sM, sN_same, sN_K, sN_2, sM_1, sM_same, sM_K, sM_s, uI_at, uN_at, enc_at, uI_enc, uI_uI, upM_s, upM_n]
    refine ⟨fun q => absurd ((nI_leI (by omega) (by omega)).mp q) (by omega), fun _ => ?_⟩
    refine V_run hB (rt := some .int) (nL := 4) (mc := 0) rfl rfl rfl (ops := [(22, .iload_n 0, 1, (0, 0, 0, 0, 0, 0), 0), (23, .iload_n 2, 1, (2, 0, 0, 0, 0, 0), 0), (24, .if_icmp .le 7, 3, (31, 0, 0, 0, 0, 0), 0), (27, .iload_n 3, 1, (3, 0, 0, 0, 0, 0), 0), (28, .iload_n 1, 1, (1, 0, 0, 0, 0, 0), 0), (29, .iadd, 1, (0, 0, 0, 0, 0, 0), 0), (30, .ireturn, 1, (0, 0, 0, 0, 0, 0), 0)]) (by decide +kernel) ?_
    dsimp only [↓wpb, ↓wp1, ↓vI, ↓vL, ↓vD, ↓ldI, ↓ldL, ↓ldD, ↓ldR, ↓k1, ↓k2, ↓kI, ↓kL, ↓kD, ↓kII, ↓kLL, ↓kDD, ↓kR, ↓kIR, ↓kLR, ↓kIIR, ↓kLIR, ↓kDIR, ↓kRIR, ↓kNN, ↓kE, ↓br, ↓bn, ↓rtI, ↓gfv, ↓zchk, lput, ldel, lbad, alA, acat, isRf, dom, dS, dJ, isO, aTy, aLen, elAV, elR, Nat.reduceBEq, Nat.reduceAdd, Bool.or, Bool.and, Nat.add_zero, Nat.zero_add]
    try simp only [Nat.reduceLT, Nat.reduceLeDiff, Nat.reduceEqDiff, true_and, and_true, and_self, Nat.zero_le, Nat.le_refl, true_or, or_true, Bool.false_eq_true, not_false_eq_true, Nat.reduceAdd, Nat.lt_add_one, Nat.zero_lt_one, nI_add, pk_mul, ixL, vpL, ne_eq, reduceIte, wI_sN, wL_sM, sN_same, sN_K, sN_2, sM_1, sM_same, sM_K, sM_s, uI_at, uN_at, enc_at, uI_enc, uI_uI, upM_s, upM_n]
    refine ⟨fun q => ?_, fun q => ?_⟩
    · have h := (sb_nle hv2 (show P < 2 ^ 31 by omega)).mp q
      refine V_run hB (rt := some .int) (nL := 4) (mc := 0) rfl rfl rfl (ops := [(31, .bipush 10, 2, (0, 0, 0, 0, 0, 0), nI 10), (33, .iload_n 2, 1, (2, 0, 0, 0, 0, 0), 0), (34, .imul, 1, (0, 0, 0, 0, 0, 0), 0), (35, .istore_n 2, 1, (2, 0, 0, 0, 0, 0), 0), (36, .iinc 3 1, 3, (3, 0, 0, 0, 0, 0), nI 1), (39, .goto (-23), 3, (16, 0, 0, 0, 0, 0), 0)]) (by decide +kernel) ?_
      dsimp only [↓wpb, ↓wp1, ↓vI, ↓vL, ↓vD, ↓ldI, ↓ldL, ↓ldD, ↓ldR, ↓k1, ↓k2, ↓kI, ↓kL, ↓kD, ↓kII, ↓kLL, ↓kDD, ↓kR, ↓kIR, ↓kLR, ↓kIIR, ↓kLIR, ↓kDIR, ↓kRIR, ↓kNN, ↓kE, ↓br, ↓bn, ↓rtI, ↓gfv, ↓zchk, lput, ldel, lbad, alA, acat, isRf, dom, dS, dJ, isO, aTy, aLen, elAV, elR, Nat.reduceBEq, Nat.reduceAdd, Bool.or, Bool.and, Nat.add_zero, Nat.zero_add]
      try simp only [Nat.reduceLT, Nat.reduceLeDiff, Nat.reduceEqDiff, true_and, and_true, and_self, Nat.zero_le, Nat.le_refl, true_or, or_true, Bool.false_eq_true, not_false_eq_true, Nat.reduceAdd, Nat.lt_add_one, Nat.zero_lt_one, nI_add, pk_mul, ixL, vpL, ne_eq, reduceIte, wI_sN, wL_sM, sN_same, sN_K, sN_2, sM_1, sM_same, sM_K, sM_s, uI_at, uN_at, enc_at, uI_enc, uI_uI, upM_s, upM_n, hmul]
      exact k (by omega)
    · have h : v < P := Nat.not_le.mp (fun z => q ((sb_nle hv2 (show P < 2 ^ 31 by omega)).mpr z))
      rw [hd h]
      exact ⟨rfl, rfl⟩
  refine V_run hB (rt := some .int) (nL := 4) (mc := 0) rfl rfl rfl (ops := [(0, .iconst 1, 1, (0, 0, 0, 0, 0, 0), nI 1), (1, .istore_n 1, 1, (1, 0, 0, 0, 0, 0), 0), (2, .iload_n 0, 1, (0, 0, 0, 0, 0, 0), 0), (3, .ifCond .lt 8, 3, (11, 0, 0, 0, 0, 0), 0)]) (by decide +kernel) ?_
  dsimp only [↓wpb, ↓wp1, ↓vI, ↓vL, ↓vD, ↓ldI, ↓ldL, ↓ldD, ↓ldR, ↓k1, ↓k2, ↓kI, ↓kL, ↓kD, ↓kII, ↓kLL, ↓kDD, ↓kR, ↓kIR, ↓kLR, ↓kIIR, ↓kLIR, ↓kDIR, ↓kRIR, ↓kNN, ↓kE, ↓br, ↓bn, ↓rtI, ↓gfv, ↓zchk, lput, ldel, lbad, alA, acat, isRf, dom, dS, dJ, isO, aTy, aLen, elAV, elR, Nat.reduceBEq, Nat.reduceAdd, Bool.or, Bool.and, Nat.add_zero, Nat.zero_add]
  try simp only [Nat.reduceLT, Nat.reduceLeDiff, Nat.reduceEqDiff, true_and, and_true, and_self, Nat.zero_le, Nat.le_refl, true_or, or_true, Bool.false_eq_true, not_false_eq_true, Nat.reduceAdd, Nat.lt_add_one, Nat.zero_lt_one, nI_add, pk_mul, ixL, vpL, ne_eq, reduceIte, wI_sN, wL_sM, sN_same, sN_K, sN_2, sM_1, sM_same, sM_K, sM_s, uI_at, uN_at, enc_at, uI_enc, uI_uI, upM_s, upM_n]
  refine ⟨fun q => absurd q (nI_pos hv2), fun _ => ?_⟩
  refine V_run hB (rt := some .int) (nL := 4) (mc := 0) rfl rfl rfl (ops := [(6, .iconst 0, 1, (0, 0, 0, 0, 0, 0), nI 0), (7, .istore_n 1, 1, (1, 0, 0, 0, 0, 0), 0), (8, .iload_n 0, 1, (0, 0, 0, 0, 0, 0), 0), (9, .ineg, 1, (0, 0, 0, 0, 0, 0), 0), (10, .istore_n 0, 1, (0, 0, 0, 0, 0, 0), 0), (11, .bipush (-10), 2, (0, 0, 0, 0, 0, 0), -10), (13, .istore_n 2, 1, (2, 0, 0, 0, 0, 0), 0), (14, .iconst 1, 1, (0, 0, 0, 0, 0, 0), nI 1), (15, .istore_n 3, 1, (3, 0, 0, 0, 0, 0), 0)]) (by decide +kernel) ?_
  dsimp only [↓wpb, ↓wp1, ↓vI, ↓vL, ↓vD, ↓ldI, ↓ldL, ↓ldD, ↓ldR, ↓k1, ↓k2, ↓kI, ↓kL, ↓kD, ↓kII, ↓kLL, ↓kDD, ↓kR, ↓kIR, ↓kLR, ↓kIIR, ↓kLIR, ↓kDIR, ↓kRIR, ↓kNN, ↓kE, ↓br, ↓bn, ↓rtI, ↓gfv, ↓zchk, lput, ldel, lbad, alA, acat, isRf, dom, dS, dJ, isO, aTy, aLen, elAV, elR, Nat.reduceBEq, Nat.reduceAdd, Bool.or, Bool.and, Nat.add_zero, Nat.zero_add]
  try simp only [Nat.reduceLT, Nat.reduceLeDiff, Nat.reduceEqDiff, true_and, and_true, and_self, Nat.zero_le, Nat.le_refl, true_or, or_true, Bool.false_eq_true, not_false_eq_true, Nat.reduceAdd, Nat.lt_add_one, Nat.zero_lt_one, nI_add, pk_mul, ixL, vpL, ne_eq, reduceIte, wI_sN, wL_sM, sN_same, sN_K, sN_2, sM_1, sM_same, sM_K, sM_s, uI_at, uN_at, enc_at, uI_enc, uI_uI, upM_s, upM_n]
  refine step 1 10 _ (by decide) (by decide) (List.forall_mem_cons.mpr ⟨rfl, List.forall_mem_cons.mpr ⟨rfl, List.forall_mem_cons.mpr ⟨rfl, List.forall_mem_cons.mpr ⟨rfl, fun _ h => absurd h List.not_mem_nil⟩⟩⟩⟩) (fun h => by unfold sb_dg; (repeat' split) <;> omega) (fun h1 => ?_)
  refine step 2 100 _ (by decide) (by decide) (List.forall_mem_cons.mpr ⟨rfl, List.forall_mem_cons.mpr ⟨rfl, List.forall_mem_cons.mpr ⟨rfl, List.forall_mem_cons.mpr ⟨rfl, fun _ h => absurd h List.not_mem_nil⟩⟩⟩⟩) (fun h => by unfold sb_dg; (repeat' split) <;> omega) (fun h2 => ?_)
  refine step 3 1000 _ (by decide) (by decide) (List.forall_mem_cons.mpr ⟨rfl, List.forall_mem_cons.mpr ⟨rfl, List.forall_mem_cons.mpr ⟨rfl, List.forall_mem_cons.mpr ⟨rfl, fun _ h => absurd h List.not_mem_nil⟩⟩⟩⟩) (fun h => by unfold sb_dg; (repeat' split) <;> omega) (fun h3 => ?_)
  refine step 4 10000 _ (by decide) (by decide) (List.forall_mem_cons.mpr ⟨rfl, List.forall_mem_cons.mpr ⟨rfl, List.forall_mem_cons.mpr ⟨rfl, List.forall_mem_cons.mpr ⟨rfl, fun _ h => absurd h List.not_mem_nil⟩⟩⟩⟩) (fun h => by unfold sb_dg; (repeat' split) <;> omega) (fun h4 => ?_)
  exact step 5 100000 _ (by decide) (by decide) (List.forall_mem_cons.mpr ⟨rfl, List.forall_mem_cons.mpr ⟨rfl, List.forall_mem_cons.mpr ⟨rfl, List.forall_mem_cons.mpr ⟨rfl, fun _ h => absurd h List.not_mem_nil⟩⟩⟩⟩) (fun h => by unfold sb_dg; (repeat' split) <;> omega) (fun h5 => absurd hv h5)
theorem dig_ok : ∀ c, c < 58 → vp_nar .byte (nI c) = sb_b c := by decide +kernel
/-- what the digits' writer leaves -/
def GcO (τ : Mem) (n0 w p : Nat) : AOut → Mem → Prop := fun o τ' => o = .inl (some (aI (nI n0))) ∧ ∃ tt, τ' = sbU τ τ.2.2.1 τ.2.2.2.1 τ.2.2.2.2.1 tt ∧ (∀ j, j < n0 ∨ p ≤ j → tt j = τ.2.2.2.2.2 j) ∧ ∀ i, i < sb_dg w → tt (p - 1 - i) = 48 + w / 10 ^ i % 10
theorem gc_loop (hc : CtxE l G) (hS : SlF G) {x : Cx} {Φ : AOut → Mem → Prop} {n0 m : Nat} (hB : Bd x l G iJ6_getChars_ba4f3 Φ) (hm : m ≤ 200) : ∀ (f w p : Nat) (τ : Mem) (al : Al), w < f → w < 100000 → p = n0 + sb_dg w → p ≤ m → τ.2.2.2.1 = m → (∀ z ∈ ([(0, aI (-nI w)), (2, .inl (.ref τ.2.2.1)), (5, aI (nI p)), (6, aI (nI 0))] : Al), lk al z.1 = some z.2) → (∀ o τ', GcO τ n0 w p o τ' → Φ o τ') → V x τ 0 22 al [] := by
  intro f
  induction f with
  | zero => intro w p τ al h; omega
  | succ f ih =>
    intro w p τ al hwf hw hp hpm hcap hal hP
    have hw2 : w < 2 ^ 31 := by omega
    have hd1 := (sb_dg_in w).1
    have e1 : -(-nI w) = nI w := Int32.neg_neg
    have em : nI p + -1 = nI (p - 1) := sb_m1 (by omega)
    refine V.sub ?_ hal
    refine V_run hB (rt := some .int) (nL := 7) (mc := 0) rfl rfl rfl (ops := [(22, .iload_n 0, 1, (0, 0, 0, 0, 0, 0), 0), (23, .bipush (-100), 2, (0, 0, 0, 0, 0, 0), -100), (25, .if_icmp .gt 47, 3, (72, 0, 0, 0, 0, 0), 0)]) (by decide +kernel) ?_
    dsimp only [↓wpb, ↓wp1, ↓vI, ↓vL, ↓vD, ↓ldI, ↓ldL, ↓ldD, ↓ldR, ↓k1, ↓k2, ↓kI, ↓kL, ↓kD, ↓kII, ↓kLL, ↓kDD, ↓kR, ↓kIR, ↓kLR, ↓kIIR, ↓kLIR, ↓kDIR, ↓kRIR, ↓kNN, ↓kE, ↓br, ↓bn, ↓rtI, ↓gfv, ↓zchk, lput, ldel, lbad, alA, acat, isRf, dom, dS, dJ, isO, aTy, aLen, elAV, elR, Nat.reduceBEq, Nat.reduceAdd, Bool.or, Bool.and, Nat.add_zero, Nat.zero_add]
    try simp only [Nat.reduceLT, Nat.reduceLeDiff, Nat.reduceEqDiff, true_and, and_true, and_self, Nat.zero_le, Nat.le_refl, true_or, or_true, Bool.false_eq_true, not_false_eq_true, Nat.reduceAdd, Nat.lt_add_one, Nat.zero_lt_one, nI_add, pk_mul, ixL, vpL, ne_eq, reduceIte, wI_sN, wL_sM, sN_same, sN_K, sN_2, sM_1, sM_same, sM_K, sM_s, uI_at, uN_at, enc_at, uI_enc, uI_uI, upM_s, upM_n]
    by_cases h100 : w < 100
    · refine ⟨fun _ => ?_, fun q => absurd ((sb_nlt (a := 100) (by decide) hw2).mpr h100) q⟩
      refine V_run hB (rt := some .int) (nL := 7) (mc := 0) rfl rfl rfl (ops := [(72, .aload_n 2, 1, (2, 0, 0, 0, 0, 0), 0), (73, .iinc 5 (-1), 3, (5, 0, 0, 0, 0, 0), -1), (76, .iload 5, 2, (5, 0, 0, 0, 0, 0), 0)]) (by decide +kernel) ?_
      dsimp only [↓wpb, ↓wp1, ↓vI, ↓vL, ↓vD, ↓ldI, ↓ldL, ↓ldD, ↓ldR, ↓k1, ↓k2, ↓kI, ↓kL, ↓kD, ↓kII, ↓kLL, ↓kDD, ↓kR, ↓kIR, ↓kLR, ↓kIIR, ↓kLIR, ↓kDIR, ↓kRIR, ↓kNN, ↓kE, ↓br, ↓bn, ↓rtI, ↓gfv, ↓zchk, lput, ldel, lbad, alA, acat, isRf, dom, dS, dJ, isO, aTy, aLen, elAV, elR, Nat.reduceBEq, Nat.reduceAdd, Bool.or, Bool.and, Nat.add_zero, Nat.zero_add]
      try simp only [Nat.reduceLT, Nat.reduceLeDiff, Nat.reduceEqDiff, true_and, and_true, and_self, Nat.zero_le, Nat.le_refl, true_or, or_true, Bool.false_eq_true, not_false_eq_true, Nat.reduceAdd, Nat.lt_add_one, Nat.zero_lt_one, nI_add, pk_mul, ixL, vpL, ne_eq, reduceIte, wI_sN, wL_sM, sN_same, sN_K, sN_2, sM_1, sM_same, sM_K, sM_s, uI_at, uN_at, enc_at, uI_enc, uI_uI, upM_s, upM_n, em]
      refine V_gets hB (v := .inr (67, 0, 0)) (fun U H h => (hS U H h).1.1) (idx := 83) (TBg_at 1116 (by decide +kernel)) (by decide +kernel) ?_
      refine V_run hB (rt := some .int) (nL := 7) (mc := 0) rfl rfl rfl (ops := [(81, .iload_n 0, 1, (0, 0, 0, 0, 0, 0), 0), (82, .ineg, 1, (0, 0, 0, 0, 0, 0), 0)]) (by decide +kernel) ?_
      dsimp only [↓wpb, ↓wp1, ↓vI, ↓vL, ↓vD, ↓ldI, ↓ldL, ↓ldD, ↓ldR, ↓k1, ↓k2, ↓kI, ↓kL, ↓kD, ↓kII, ↓kLL, ↓kDD, ↓kR, ↓kIR, ↓kLR, ↓kIIR, ↓kLIR, ↓kDIR, ↓kRIR, ↓kNN, ↓kE, ↓br, ↓bn, ↓rtI, ↓gfv, ↓zchk, lput, ldel, lbad, alA, acat, isRf, dom, dS, dJ, isO, aTy, aLen, elAV, elR, Nat.reduceBEq, Nat.reduceAdd, Bool.or, Bool.and, Nat.add_zero, Nat.zero_add]
      try simp only [Nat.reduceLT, Nat.reduceLeDiff, Nat.reduceEqDiff, true_and, and_true, and_self, Nat.zero_le, Nat.le_refl, true_or, or_true, Bool.false_eq_true, not_false_eq_true, Nat.reduceAdd, Nat.lt_add_one, Nat.zero_lt_one, nI_add, pk_mul, ixL, vpL, ne_eq, reduceIte, wI_sN, wL_sM, sN_same, sN_K, sN_2, sM_1, sM_same, sM_K, sM_s, uI_at, uN_at, enc_at, uI_enc, uI_uI, upM_s, upM_n, e1]
      refine V_tba hB (i := w) (N := 100) (fun U H h => (hS U H h).1.2) h100 (by decide) (by decide +kernel) ?_
      refine V_sbst hB (j := p - 1) (c9 := 48 + w % 10) (by omega) (by omega) (dig_ok _ (by omega)) (by omega) (by decide +kernel) ?_
      by_cases h9 : w < 10
      · have hd : sb_dg w = 1 := if_pos h9
        refine V_run hB (rt := some .int) (nL := 7) (mc := 0) rfl rfl rfl (ops := [(85, .iload_n 0, 1, (0, 0, 0, 0, 0, 0), 0), (86, .bipush (-9), 2, (0, 0, 0, 0, 0, 0), -9), (88, .if_icmp .ge 16, 3, (104, 0, 0, 0, 0, 0), 0)]) (by decide +kernel) ?_
        dsimp only [↓wpb, ↓wp1, ↓vI, ↓vL, ↓vD, ↓ldI, ↓ldL, ↓ldD, ↓ldR, ↓k1, ↓k2, ↓kI, ↓kL, ↓kD, ↓kII, ↓kLL, ↓kDD, ↓kR, ↓kIR, ↓kLR, ↓kIIR, ↓kLIR, ↓kDIR, ↓kRIR, ↓kNN, ↓kE, ↓br, ↓bn, ↓rtI, ↓gfv, ↓zchk, lput, ldel, lbad, alA, acat, isRf, dom, dS, dJ, isO, aTy, aLen, elAV, elR, Nat.reduceBEq, Nat.reduceAdd, Bool.or, Bool.and, Nat.add_zero, Nat.zero_add]
        try simp only [Nat.reduceLT, Nat.reduceLeDiff, Nat.reduceEqDiff, true_and, and_true, and_self, Nat.zero_le, Nat.le_refl, true_or, or_true, Bool.false_eq_true, not_false_eq_true, Nat.reduceAdd, Nat.lt_add_one, Nat.zero_lt_one, nI_add, pk_mul, ixL, vpL, ne_eq, reduceIte, wI_sN, wL_sM, sN_same, sN_K, sN_2, sM_1, sM_same, sM_K, sM_s, uI_at, uN_at, enc_at, uI_enc, uI_uI, upM_s, upM_n]
        refine ⟨fun _ => ?_, fun q => absurd ((sb_nle (a := 9) (by decide) hw2).mpr (by omega)) q⟩
        refine V_run hB (rt := some .int) (nL := 7) (mc := 0) rfl rfl rfl (ops := [(104, .iload 6, 2, (6, 0, 0, 0, 0, 0), 0), (106, .ifCond .eq 12, 3, (118, 0, 0, 0, 0, 0), 0)]) (by decide +kernel) ?_
        dsimp only [↓wpb, ↓wp1, ↓vI, ↓vL, ↓vD, ↓ldI, ↓ldL, ↓ldD, ↓ldR, ↓k1, ↓k2, ↓kI, ↓kL, ↓kD, ↓kII, ↓kLL, ↓kDD, ↓kR, ↓kIR, ↓kLR, ↓kIIR, ↓kLIR, ↓kDIR, ↓kRIR, ↓kNN, ↓kE, ↓br, ↓bn, ↓rtI, ↓gfv, ↓zchk, lput, ldel, lbad, alA, acat, isRf, dom, dS, dJ, isO, aTy, aLen, elAV, elR, Nat.reduceBEq, Nat.reduceAdd, Bool.or, Bool.and, Nat.add_zero, Nat.zero_add]
        try simp only [Nat.reduceLT, Nat.reduceLeDiff, Nat.reduceEqDiff, true_and, and_true, and_self, Nat.zero_le, Nat.le_refl, true_or, or_true, Bool.false_eq_true, not_false_eq_true, Nat.reduceAdd, Nat.lt_add_one, Nat.zero_lt_one, nI_add, pk_mul, ixL, vpL, ne_eq, reduceIte, wI_sN, wL_sM, sN_same, sN_K, sN_2, sM_1, sM_same, sM_K, sM_s, uI_at, uN_at, enc_at, uI_enc, uI_uI, upM_s, upM_n]
        refine ⟨fun _ => ?_, fun q => absurd rfl q⟩
        refine V_run hB (rt := some .int) (nL := 7) (mc := 0) rfl rfl rfl (ops := [(118, .iload 5, 2, (5, 0, 0, 0, 0, 0), 0), (120, .ireturn, 1, (0, 0, 0, 0, 0, 0), 0)]) (by decide +kernel) ?_
        dsimp only [↓wpb, ↓wp1, ↓vI, ↓vL, ↓vD, ↓ldI, ↓ldL, ↓ldD, ↓ldR, ↓k1, ↓k2, ↓kI, ↓kL, ↓kD, ↓kII, ↓kLL, ↓kDD, ↓kR, ↓kIR, ↓kLR, ↓kIIR, ↓kLIR, ↓kDIR, ↓kRIR, ↓kNN, ↓kE, ↓br, ↓bn, ↓rtI, ↓gfv, ↓zchk, lput, ldel, lbad, alA, acat, isRf, dom, dS, dJ, isO, aTy, aLen, elAV, elR, Nat.reduceBEq, Nat.reduceAdd, Bool.or, Bool.and, Nat.add_zero, Nat.zero_add]
        try simp only [Nat.reduceLT, Nat.reduceLeDiff, Nat.reduceEqDiff, true_and, and_true, and_self, Nat.zero_le, Nat.le_refl, true_or, or_true, Bool.false_eq_true, not_false_eq_true, Nat.reduceAdd, Nat.lt_add_one, Nat.zero_lt_one, nI_add, pk_mul, ixL, vpL, ne_eq, reduceIte, wI_sN, wL_sM, sN_same, sN_K, sN_2, sM_1, sM_same, sM_K, sM_s, uI_at, uN_at, enc_at, uI_enc, uI_uI, upM_s, upM_n]
        refine hP _ _ ⟨by rw [show p - 1 = n0 by omega], _, rfl, fun j hj => if_neg (by omega), fun i hi => ?_⟩
        obtain rfl : i = 0 := by omega
        rw [Nat.sub_zero, Nat.pow_zero, Nat.div_one]
        exact if_pos rfl
      · have hd : sb_dg w = 2 := by rw [sb_dg, if_neg h9, if_pos h100]
        have em2 : nI (p - 1) + -1 = nI (p - 1 - 1) := sb_m1 (by omega)
        refine V_run hB (rt := some .int) (nL := 7) (mc := 0) rfl rfl rfl (ops := [(85, .iload_n 0, 1, (0, 0, 0, 0, 0, 0), 0), (86, .bipush (-9), 2, (0, 0, 0, 0, 0, 0), -9), (88, .if_icmp .ge 16, 3, (104, 0, 0, 0, 0, 0), 0)]) (by decide +kernel) ?_
        dsimp only [↓wpb, ↓wp1, ↓vI, ↓vL, ↓vD, ↓ldI, ↓ldL, ↓ldD, ↓ldR, ↓k1, ↓k2, ↓kI, ↓kL, ↓kD, ↓kII, ↓kLL, ↓kDD, ↓kR, ↓kIR, ↓kLR, ↓kIIR, ↓kLIR, ↓kDIR, ↓kRIR, ↓kNN, ↓kE, ↓br, ↓bn, ↓rtI, ↓gfv, ↓zchk, lput, ldel, lbad, alA, acat, isRf, dom, dS, dJ, isO, aTy, aLen, elAV, elR, Nat.reduceBEq, Nat.reduceAdd, Bool.or, Bool.and, Nat.add_zero, Nat.zero_add]
        try simp only [Nat.reduceLT, Nat.reduceLeDiff, Nat.reduceEqDiff, true_and, and_true, and_self, Nat.zero_le, Nat.le_refl, true_or, or_true, Bool.false_eq_true, not_false_eq_true, Nat.reduceAdd, Nat.lt_add_one, Nat.zero_lt_one, nI_add, pk_mul, ixL, vpL, ne_eq, reduceIte, wI_sN, wL_sM, sN_same, sN_K, sN_2, sM_1, sM_same, sM_K, sM_s, uI_at, uN_at, enc_at, uI_enc, uI_uI, upM_s, upM_n]
        refine ⟨fun q => absurd ((sb_nle (a := 9) (by decide) hw2).mp q) (by omega), fun _ => ?_⟩
        refine V_run hB (rt := some .int) (nL := 7) (mc := 0) rfl rfl rfl (ops := [(91, .aload_n 2, 1, (2, 0, 0, 0, 0, 0), 0), (92, .iinc 5 (-1), 3, (5, 0, 0, 0, 0, 0), -1), (95, .iload 5, 2, (5, 0, 0, 0, 0, 0), 0)]) (by decide +kernel) ?_
        dsimp only [↓wpb, ↓wp1, ↓vI, ↓vL, ↓vD, ↓ldI, ↓ldL, ↓ldD, ↓ldR, ↓k1, ↓k2, ↓kI, ↓kL, ↓kD, ↓kII, ↓kLL, ↓kDD, ↓kR, ↓kIR, ↓kLR, ↓kIIR, ↓kLIR, ↓kDIR, ↓kRIR, ↓kNN, ↓kE, ↓br, ↓bn, ↓rtI, ↓gfv, ↓zchk, lput, ldel, lbad, alA, acat, isRf, dom, dS, dJ, isO, aTy, aLen, elAV, elR, Nat.reduceBEq, Nat.reduceAdd, Bool.or, Bool.and, Nat.add_zero, Nat.zero_add]
        try simp only [Nat.reduceLT, Nat.reduceLeDiff, Nat.reduceEqDiff, true_and, and_true, and_self, Nat.zero_le, Nat.le_refl, true_or, or_true, Bool.false_eq_true, not_false_eq_true, Nat.reduceAdd, Nat.lt_add_one, Nat.zero_lt_one, nI_add, pk_mul, ixL, vpL, ne_eq, reduceIte, wI_sN, wL_sM, sN_same, sN_K, sN_2, sM_1, sM_same, sM_K, sM_s, uI_at, uN_at, enc_at, uI_enc, uI_uI, upM_s, upM_n, em2]
        refine V_gets hB (v := .inr (68, 0, 0)) (fun U H h => (hS U H h).2.1.1) (idx := 87) (TBg_at 1118 (by decide +kernel)) (by decide +kernel) ?_
        refine V_run hB (rt := some .int) (nL := 7) (mc := 0) rfl rfl rfl (ops := [(100, .iload_n 0, 1, (0, 0, 0, 0, 0, 0), 0), (101, .ineg, 1, (0, 0, 0, 0, 0, 0), 0)]) (by decide +kernel) ?_
        dsimp only [↓wpb, ↓wp1, ↓vI, ↓vL, ↓vD, ↓ldI, ↓ldL, ↓ldD, ↓ldR, ↓k1, ↓k2, ↓kI, ↓kL, ↓kD, ↓kII, ↓kLL, ↓kDD, ↓kR, ↓kIR, ↓kLR, ↓kIIR, ↓kLIR, ↓kDIR, ↓kRIR, ↓kNN, ↓kE, ↓br, ↓bn, ↓rtI, ↓gfv, ↓zchk, lput, ldel, lbad, alA, acat, isRf, dom, dS, dJ, isO, aTy, aLen, elAV, elR, Nat.reduceBEq, Nat.reduceAdd, Bool.or, Bool.and, Nat.add_zero, Nat.zero_add]
        try simp only [Nat.reduceLT, Nat.reduceLeDiff, Nat.reduceEqDiff, true_and, and_true, and_self, Nat.zero_le, Nat.le_refl, true_or, or_true, Bool.false_eq_true, not_false_eq_true, Nat.reduceAdd, Nat.lt_add_one, Nat.zero_lt_one, nI_add, pk_mul, ixL, vpL, ne_eq, reduceIte, wI_sN, wL_sM, sN_same, sN_K, sN_2, sM_1, sM_same, sM_K, sM_s, uI_at, uN_at, enc_at, uI_enc, uI_uI, upM_s, upM_n, e1]
        refine V_tba hB (i := w) (N := 100) (fun U H h => (hS U H h).2.1.2) h100 (by decide) (by decide +kernel) ?_
        refine V_sbst hB (j := p - 1 - 1) (c9 := 48 + w / 10) (show p - 1 - 1 < τ.2.2.2.1 by omega) (by omega) (dig_ok _ (by omega)) (by omega) (by decide +kernel) ?_
        refine V_run hB (rt := some .int) (nL := 7) (mc := 0) rfl rfl rfl (ops := [(104, .iload 6, 2, (6, 0, 0, 0, 0, 0), 0), (106, .ifCond .eq 12, 3, (118, 0, 0, 0, 0, 0), 0)]) (by decide +kernel) ?_
        dsimp only [↓wpb, ↓wp1, ↓vI, ↓vL, ↓vD, ↓ldI, ↓ldL, ↓ldD, ↓ldR, ↓k1, ↓k2, ↓kI, ↓kL, ↓kD, ↓kII, ↓kLL, ↓kDD, ↓kR, ↓kIR, ↓kLR, ↓kIIR, ↓kLIR, ↓kDIR, ↓kRIR, ↓kNN, ↓kE, ↓br, ↓bn, ↓rtI, ↓gfv, ↓zchk, lput, ldel, lbad, alA, acat, isRf, dom, dS, dJ, isO, aTy, aLen, elAV, elR, Nat.reduceBEq, Nat.reduceAdd, Bool.or, Bool.and, Nat.add_zero, Nat.zero_add]
        try simp only [Nat.reduceLT, Nat.reduceLeDiff, Nat.reduceEqDiff, true_and, and_true, and_self, Nat.zero_le, Nat.le_refl, true_or, or_true, Bool.false_eq_true, not_false_eq_true, Nat.reduceAdd, Nat.lt_add_one, Nat.zero_lt_one, nI_add, pk_mul, ixL, vpL, ne_eq, reduceIte, wI_sN, wL_sM, sN_same, sN_K, sN_2, sM_1, sM_same, sM_K, sM_s, uI_at, uN_at, enc_at, uI_enc, uI_uI, upM_s, upM_n]
        refine ⟨fun _ => ?_, fun q => absurd rfl q⟩
        refine V_run hB (rt := some .int) (nL := 7) (mc := 0) rfl rfl rfl (ops := [(118, .iload 5, 2, (5, 0, 0, 0, 0, 0), 0), (120, .ireturn, 1, (0, 0, 0, 0, 0, 0), 0)]) (by decide +kernel) ?_
        dsimp only [↓wpb, ↓wp1, ↓vI, ↓vL, ↓vD, ↓ldI, ↓ldL, ↓ldD, ↓ldR, ↓k1, ↓k2, ↓kI, ↓kL, ↓kD, ↓kII, ↓kLL, ↓kDD, ↓kR, ↓kIR, ↓kLR, ↓kIIR, ↓kLIR, ↓kDIR, ↓kRIR, ↓kNN, ↓kE, ↓br, ↓bn, ↓rtI, ↓gfv, ↓zchk, lput, ldel, lbad, alA, acat, isRf, dom, dS, dJ, isO, aTy, aLen, elAV, elR, Nat.reduceBEq, Nat.reduceAdd, Bool.or, Bool.and, Nat.add_zero, Nat.zero_add]
        try simp only [Nat.reduceLT, Nat.reduceLeDiff, Nat.reduceEqDiff, true_and, and_true, and_self, Nat.zero_le, Nat.le_refl, true_or, or_true, Bool.false_eq_true, not_false_eq_true, Nat.reduceAdd, Nat.lt_add_one, Nat.zero_lt_one, nI_add, pk_mul, ixL, vpL, ne_eq, reduceIte, wI_sN, wL_sM, sN_same, sN_K, sN_2, sM_1, sM_same, sM_K, sM_s, uI_at, uN_at, enc_at, uI_enc, uI_uI, upM_s, upM_n]
        refine hP _ _ ⟨by rw [show p - 1 - 1 = n0 by omega], _, rfl, fun j hj => (if_neg (by omega)).trans (if_neg (by omega)), fun i hi => ?_⟩
        obtain rfl | rfl : i = 0 ∨ i = 1 := by omega
        · rw [Nat.sub_zero, Nat.pow_zero, Nat.div_one]
          exact (if_neg (by omega)).trans (if_pos rfl)
        · rw [Nat.pow_one, show w / 10 % 10 = w / 10 by omega]
          exact if_pos rfl
    · have hd := sb_dg100 (w := w) (by omega) hw2
      have hd2 := (sb_dg_in (w / 100)).1
      have em2 : nI (p - 1) + -1 = nI (p - 1 - 1) := sb_m1 (by omega)
      have ed : -nI w / nI 100 = -nI (w / 100) := sb_ndiv hw2
      have er : -nI (w / 100) * nI 100 - -nI w = nI (w % 100) := sb_nrem hw2
      refine ⟨fun q => absurd ((sb_nlt (a := 100) (by decide) hw2).mp q) h100, fun _ => ?_⟩
      refine V_run hB (rt := some .int) (nL := 7) (mc := 0) rfl rfl rfl (ops := [(28, .iload_n 0, 1, (0, 0, 0, 0, 0, 0), 0), (29, .bipush 100, 2, (0, 0, 0, 0, 0, 0), nI 100), (31, .idiv, 1, (0, 0, 0, 0, 0, 0), 0), (32, .istore_n 3, 1, (3, 0, 0, 0, 0, 0), 0), (33, .iload_n 3, 1, (3, 0, 0, 0, 0, 0), 0), (34, .bipush 100, 2, (0, 0, 0, 0, 0, 0), nI 100), (36, .imul, 1, (0, 0, 0, 0, 0, 0), 0), (37, .iload_n 0, 1, (0, 0, 0, 0, 0, 0), 0), (38, .isub, 1, (0, 0, 0, 0, 0, 0), 0), (39, .istore 4, 2, (4, 0, 0, 0, 0, 0), 0), (41, .iload_n 3, 1, (3, 0, 0, 0, 0, 0), 0), (42, .istore_n 0, 1, (0, 0, 0, 0, 0, 0), 0), (43, .aload_n 2, 1, (2, 0, 0, 0, 0, 0), 0), (44, .iinc 5 (-1), 3, (5, 0, 0, 0, 0, 0), -1), (47, .iload 5, 2, (5, 0, 0, 0, 0, 0), 0)]) (by decide +kernel) ?_
      dsimp only [↓wpb, ↓wp1, ↓vI, ↓vL, ↓vD, ↓ldI, ↓ldL, ↓ldD, ↓ldR, ↓k1, ↓k2, ↓kI, ↓kL, ↓kD, ↓kII, ↓kLL, ↓kDD, ↓kR, ↓kIR, ↓kLR, ↓kIIR, ↓kLIR, ↓kDIR, ↓kRIR, ↓kNN, ↓kE, ↓br, ↓bn, ↓rtI, ↓gfv, ↓zchk, lput, ldel, lbad, alA, acat, isRf, dom, dS, dJ, isO, aTy, aLen, elAV, elR, Nat.reduceBEq, Nat.reduceAdd, Bool.or, Bool.and, Nat.add_zero, Nat.zero_add]
      try simp only [Nat.reduceLT, Nat.reduceLeDiff, Nat.reduceEqDiff, true_and, and_true, and_self, Nat.zero_le, Nat.le_refl, true_or, or_true, Bool.false_eq_true, not_false_eq_true, Nat.reduceAdd, Nat.lt_add_one, Nat.zero_lt_one, nI_add, pk_mul, ixL, vpL, ne_eq, reduceIte, wI_sN, wL_sM, sN_same, sN_K, sN_2, sM_1, sM_same, sM_K, sM_s, uI_at, uN_at, enc_at, uI_enc, uI_uI, upM_s, upM_n, ed, er, em]
      refine ⟨by decide, ?_⟩
      refine V_gets hB (v := .inr (67, 0, 0)) (fun U H h => (hS U H h).1.1) (idx := 83) (TBg_at 1116 (by decide +kernel)) (by decide +kernel) ?_
      refine V_run hB (rt := some .int) (nL := 7) (mc := 0) rfl rfl rfl (ops := [(52, .iload 4, 2, (4, 0, 0, 0, 0, 0), 0)]) (by decide +kernel) ?_
      dsimp only [↓wpb, ↓wp1, ↓vI, ↓vL, ↓vD, ↓ldI, ↓ldL, ↓ldD, ↓ldR, ↓k1, ↓k2, ↓kI, ↓kL, ↓kD, ↓kII, ↓kLL, ↓kDD, ↓kR, ↓kIR, ↓kLR, ↓kIIR, ↓kLIR, ↓kDIR, ↓kRIR, ↓kNN, ↓kE, ↓br, ↓bn, ↓rtI, ↓gfv, ↓zchk, lput, ldel, lbad, alA, acat, isRf, dom, dS, dJ, isO, aTy, aLen, elAV, elR, Nat.reduceBEq, Nat.reduceAdd, Bool.or, Bool.and, Nat.add_zero, Nat.zero_add]
      try simp only [Nat.reduceLT, Nat.reduceLeDiff, Nat.reduceEqDiff, true_and, and_true, and_self, Nat.zero_le, Nat.le_refl, true_or, or_true, Bool.false_eq_true, not_false_eq_true, Nat.reduceAdd, Nat.lt_add_one, Nat.zero_lt_one, nI_add, pk_mul, ixL, vpL, ne_eq, reduceIte, wI_sN, wL_sM, sN_same, sN_K, sN_2, sM_1, sM_same, sM_K, sM_s, uI_at, uN_at, enc_at, uI_enc, uI_uI, upM_s, upM_n]
      refine V_tba hB (i := w % 100) (N := 100) (fun U H h => (hS U H h).1.2) (by omega) (by decide) (by decide +kernel) ?_
      refine V_sbst hB (j := p - 1) (c9 := 48 + w % 100 % 10) (by omega) (by omega) (dig_ok _ (by omega)) (by omega) (by decide +kernel) ?_
      refine V_run hB (rt := some .int) (nL := 7) (mc := 0) rfl rfl rfl (ops := [(56, .aload_n 2, 1, (2, 0, 0, 0, 0, 0), 0), (57, .iinc 5 (-1), 3, (5, 0, 0, 0, 0, 0), -1), (60, .iload 5, 2, (5, 0, 0, 0, 0, 0), 0)]) (by decide +kernel) ?_
      dsimp only [↓wpb, ↓wp1, ↓vI, ↓vL, ↓vD, ↓ldI, ↓ldL, ↓ldD, ↓ldR, ↓k1, ↓k2, ↓kI, ↓kL, ↓kD, ↓kII, ↓kLL, ↓kDD, ↓kR, ↓kIR, ↓kLR, ↓kIIR, ↓kLIR, ↓kDIR, ↓kRIR, ↓kNN, ↓kE, ↓br, ↓bn, ↓rtI, ↓gfv, ↓zchk, lput, ldel, lbad, alA, acat, isRf, dom, dS, dJ, isO, aTy, aLen, elAV, elR, Nat.reduceBEq, Nat.reduceAdd, Bool.or, Bool.and, Nat.add_zero, Nat.zero_add]
      try simp only [Nat.reduceLT, Nat.reduceLeDiff, Nat.reduceEqDiff, true_and, and_true, and_self, Nat.zero_le, Nat.le_refl, true_or, or_true, Bool.false_eq_true, not_false_eq_true, Nat.reduceAdd, Nat.lt_add_one, Nat.zero_lt_one, nI_add, pk_mul, ixL, vpL, ne_eq, reduceIte, wI_sN, wL_sM, sN_same, sN_K, sN_2, sM_1, sM_same, sM_K, sM_s, uI_at, uN_at, enc_at, uI_enc, uI_uI, upM_s, upM_n, em2]
      refine V_gets hB (v := .inr (68, 0, 0)) (fun U H h => (hS U H h).2.1.1) (idx := 87) (TBg_at 1118 (by decide +kernel)) (by decide +kernel) ?_
      refine V_run hB (rt := some .int) (nL := 7) (mc := 0) rfl rfl rfl (ops := [(65, .iload 4, 2, (4, 0, 0, 0, 0, 0), 0)]) (by decide +kernel) ?_
      dsimp only [↓wpb, ↓wp1, ↓vI, ↓vL, ↓vD, ↓ldI, ↓ldL, ↓ldD, ↓ldR, ↓k1, ↓k2, ↓kI, ↓kL, ↓kD, ↓kII, ↓kLL, ↓kDD, ↓kR, ↓kIR, ↓kLR, ↓kIIR, ↓kLIR, ↓kDIR, ↓kRIR, ↓kNN, ↓kE, ↓br, ↓bn, ↓rtI, ↓gfv, ↓zchk, lput, ldel, lbad, alA, acat, isRf, dom, dS, dJ, isO, aTy, aLen, elAV, elR, Nat.reduceBEq, Nat.reduceAdd, Bool.or, Bool.and, Nat.add_zero, Nat.zero_add]
      try simp only [Nat.reduceLT, Nat.reduceLeDiff, Nat.reduceEqDiff, true_and, and_true, and_self, Nat.zero_le, Nat.le_refl, true_or, or_true, Bool.false_eq_true, not_false_eq_true, Nat.reduceAdd, Nat.lt_add_one, Nat.zero_lt_one, nI_add, pk_mul, ixL, vpL, ne_eq, reduceIte, wI_sN, wL_sM, sN_same, sN_K, sN_2, sM_1, sM_same, sM_K, sM_s, uI_at, uN_at, enc_at, uI_enc, uI_uI, upM_s, upM_n]
      refine V_tba hB (i := w % 100) (N := 100) (fun U H h => (hS U H h).2.1.2) (by omega) (by decide) (by decide +kernel) ?_
      refine V_sbst hB (j := p - 1 - 1) (c9 := 48 + w % 100 / 10) (show p - 1 - 1 < τ.2.2.2.1 by omega) (by omega) (dig_ok _ (by omega)) (by omega) (by decide +kernel) ?_
      refine V_run hB (rt := some .int) (nL := 7) (mc := 0) rfl rfl rfl (ops := [(69, .goto (-47), 3, (22, 0, 0, 0, 0, 0), 0)]) (by decide +kernel) ?_
      dsimp only [↓wpb, ↓wp1, ↓vI, ↓vL, ↓vD, ↓ldI, ↓ldL, ↓ldD, ↓ldR, ↓k1, ↓k2, ↓kI, ↓kL, ↓kD, ↓kII, ↓kLL, ↓kDD, ↓kR, ↓kIR, ↓kLR, ↓kIIR, ↓kLIR, ↓kDIR, ↓kRIR, ↓kNN, ↓kE, ↓br, ↓bn, ↓rtI, ↓gfv, ↓zchk, lput, ldel, lbad, alA, acat, isRf, dom, dS, dJ, isO, aTy, aLen, elAV, elR, Nat.reduceBEq, Nat.reduceAdd, Bool.or, Bool.and, Nat.add_zero, Nat.zero_add]
      try simp only [Nat.reduceLT, Nat.reduceLeDiff, Nat.reduceEqDiff, true_and, and_true, and_self, Nat.zero_le, Nat.le_refl, true_or, or_true, Bool.false_eq_true, not_false_eq_true, Nat.reduceAdd, Nat.lt_add_one, Nat.zero_lt_one, nI_add, pk_mul, ixL, vpL, ne_eq, reduceIte, wI_sN, wL_sM, sN_same, sN_K, sN_2, sM_1, sM_same, sM_K, sM_s, uI_at, uN_at, enc_at, uI_enc, uI_uI, upM_s, upM_n]
      refine ih (w / 100) (p - 1 - 1) _ _ (by omega) (by omega) (by omega) (by omega) hcap (List.forall_mem_cons.mpr ⟨rfl, List.forall_mem_cons.mpr ⟨rfl, List.forall_mem_cons.mpr ⟨rfl, List.forall_mem_cons.mpr ⟨rfl, fun _ h => absurd h List.not_mem_nil⟩⟩⟩⟩) (fun o τ' hg => ?_)
      obtain ⟨eo, tt, rfl, g1, g2⟩ := hg
      refine hP _ _ ⟨eo, tt, rfl, fun j hj => (g1 j (by omega)).trans ((if_neg (by omega)).trans (if_neg (by omega))), fun i hi => ?_⟩
      match i, hi with
      | 0, _ =>
        rw [Nat.sub_zero, Nat.pow_zero, Nat.div_one]
        refine (g1 _ (Or.inr (by omega))).trans (((if_neg (by omega)).trans (if_pos rfl)).trans ?_)
        omega
      | 1, _ =>
        rw [Nat.pow_one]
        refine (g1 _ (Or.inr (by omega))).trans ((if_pos rfl).trans ?_)
        omega
      | k + 2, hi =>
        rw [show p - 1 - (k + 2) = p - 1 - 1 - 1 - k by omega, g2 k (by omega), Nat.div_div_eq_div_mul, show 100 * 10 ^ k = 10 ^ (k + 2) by rw [show k + 2 = k + 1 + 1 from rfl, Nat.pow_succ, Nat.pow_succ]; omega]
theorem p_getChars (hc : CtxE l G) (hS : SlF G) {n0 w p : Nat} (hw : w < 100000) (hp : p = n0 + sb_dg w) (hpc : p ≤ τ.2.2.2.1) : Sat l G iJ6_getChars_ba4f3 [aI (nI w), aI (nI p), .inl (.ref τ.2.2.1)] τ (GcO τ n0 w p) := by
  refine Sat_ofF hc.1.1 hc.1.2 (by decide +kernel) (Nat.le_of_ble_eq_true rfl) (fun x hB hno => ?_)
  refine V_sbi (fun hn hcap ht => ?_)
  refine V_run hB (rt := some .int) (nL := 7) (mc := 0) rfl rfl rfl (ops := [(0, .iload_n 1, 1, (1, 0, 0, 0, 0, 0), 0), (1, .istore 5, 2, (5, 0, 0, 0, 0, 0), 0), (3, .iload_n 0, 1, (0, 0, 0, 0, 0, 0), 0), (4, .ifCond .ge 7, 3, (11, 0, 0, 0, 0, 0), 0)]) (by decide +kernel) ?_
  dsimp only [↓wpb, ↓wp1, ↓vI, ↓vL, ↓vD, ↓ldI, ↓ldL, ↓ldD, ↓ldR, ↓k1, ↓k2, ↓kI, ↓kL, ↓kD, ↓kII, ↓kLL, ↓kDD, ↓kR, ↓kIR, ↓kLR, ↓kIIR, ↓kLIR, ↓kDIR, ↓kRIR, ↓kNN, ↓kE, ↓br, ↓bn, ↓rtI, ↓gfv, ↓zchk, lput, ldel, lbad, alA, acat, isRf, dom, dS, dJ, isO, aTy, aLen, elAV, elR, Nat.reduceBEq, Nat.reduceAdd, Bool.or, Bool.and, Nat.add_zero, Nat.zero_add]
  try simp only [Nat.reduceLT, Nat.reduceLeDiff, Nat.reduceEqDiff, true_and, and_true, and_self, Nat.zero_le, Nat.le_refl, true_or, or_true, Bool.false_eq_true, not_false_eq_true, Nat.reduceAdd, Nat.lt_add_one, Nat.zero_lt_one, nI_add, pk_mul, ixL, vpL, ne_eq, reduceIte, wI_sN, wL_sM, sN_same, sN_K, sN_2, sM_1, sM_same, sM_K, sM_s, uI_at, uN_at, enc_at, uI_enc, uI_uI, upM_s, upM_n]
  refine ⟨fun _ => ?_, fun q => absurd (nI_le (Nat.zero_le w) (by omega)) q⟩
  refine V_run hB (rt := some .int) (nL := 7) (mc := 0) rfl rfl rfl (ops := [(11, .iconst 0, 1, (0, 0, 0, 0, 0, 0), nI 0), (12, .istore 6, 2, (6, 0, 0, 0, 0, 0), 0), (14, .iload 6, 2, (6, 0, 0, 0, 0, 0), 0), (16, .ifCond .ne 6, 3, (22, 0, 0, 0, 0, 0), 0)]) (by decide +kernel) ?_
  dsimp only [↓wpb, ↓wp1, ↓vI, ↓vL, ↓vD, ↓ldI, ↓ldL, ↓ldD, ↓ldR, ↓k1, ↓k2, ↓kI, ↓kL, ↓kD, ↓kII, ↓kLL, ↓kDD, ↓kR, ↓kIR, ↓kLR, ↓kIIR, ↓kLIR, ↓kDIR, ↓kRIR, ↓kNN, ↓kE, ↓br, ↓bn, ↓rtI, ↓gfv, ↓zchk, lput, ldel, lbad, alA, acat, isRf, dom, dS, dJ, isO, aTy, aLen, elAV, elR, Nat.reduceBEq, Nat.reduceAdd, Bool.or, Bool.and, Nat.add_zero, Nat.zero_add]
  try simp only [Nat.reduceLT, Nat.reduceLeDiff, Nat.reduceEqDiff, true_and, and_true, and_self, Nat.zero_le, Nat.le_refl, true_or, or_true, Bool.false_eq_true, not_false_eq_true, Nat.reduceAdd, Nat.lt_add_one, Nat.zero_lt_one, nI_add, pk_mul, ixL, vpL, ne_eq, reduceIte, wI_sN, wL_sM, sN_same, sN_K, sN_2, sM_1, sM_same, sM_K, sM_s, uI_at, uN_at, enc_at, uI_enc, uI_uI, upM_s, upM_n]
  refine ⟨fun q => absurd rfl q, fun _ => ?_⟩
  refine V_run hB (rt := some .int) (nL := 7) (mc := 0) rfl rfl rfl (ops := [(19, .iload_n 0, 1, (0, 0, 0, 0, 0, 0), 0), (20, .ineg, 1, (0, 0, 0, 0, 0, 0), 0), (21, .istore_n 0, 1, (0, 0, 0, 0, 0, 0), 0)]) (by decide +kernel) ?_
  dsimp only [↓wpb, ↓wp1, ↓vI, ↓vL, ↓vD, ↓ldI, ↓ldL, ↓ldD, ↓ldR, ↓k1, ↓k2, ↓kI, ↓kL, ↓kD, ↓kII, ↓kLL, ↓kDD, ↓kR, ↓kIR, ↓kLR, ↓kIIR, ↓kLIR, ↓kDIR, ↓kRIR, ↓kNN, ↓kE, ↓br, ↓bn, ↓rtI, ↓gfv, ↓zchk, lput, ldel, lbad, alA, acat, isRf, dom, dS, dJ, isO, aTy, aLen, elAV, elR, Nat.reduceBEq, Nat.reduceAdd, Bool.or, Bool.and, Nat.add_zero, Nat.zero_add]
  try simp only [Nat.reduceLT, Nat.reduceLeDiff, Nat.reduceEqDiff, true_and, and_true, and_self, Nat.zero_le, Nat.le_refl, true_or, or_true, Bool.false_eq_true, not_false_eq_true, Nat.reduceAdd, Nat.lt_add_one, Nat.zero_lt_one, nI_add, pk_mul, ixL, vpL, ne_eq, reduceIte, wI_sN, wL_sM, sN_same, sN_K, sN_2, sM_1, sM_same, sM_K, sM_s, uI_at, uN_at, enc_at, uI_enc, uI_uI, upM_s, upM_n]
  exact gc_loop hc hS hB hcap (w + 1) w p τ _ (Nat.lt_succ_self w) hw hp hpc rfl (List.forall_mem_cons.mpr ⟨rfl, List.forall_mem_cons.mpr ⟨rfl, List.forall_mem_cons.mpr ⟨rfl, List.forall_mem_cons.mpr ⟨rfl, fun _ h => absurd h List.not_mem_nil⟩⟩⟩⟩) (fun o τ' h => h)
end NM
