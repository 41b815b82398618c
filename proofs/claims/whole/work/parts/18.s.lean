/-! ===== the class: a command tried ===== -/
theorem exL_in {L : List String} {c : Nat} (h0 : c ≠ 0) (h : c ≤ L.length) : exL L c ∈ L := by
  unfold exL
  rw [List.getD_eq_getElem?_getD, List.getElem?_eq_getElem (show c - 1 < L.length by omega)]
  exact List.getElem_mem _
section CO
variable {a : Nat → Nat}
theorem sPl_le (p q z : Int32) : (sPl a p q z).1 ≤ 3 := by unfold sPl; repeat' split
                                                           all_goals simp
theorem sRed_le (o : Option Nat) : (sRed a o).1 ≤ 1 := by unfold sRed; repeat' split
                                                          all_goals simp
theorem sExt_le (o : Option Nat) (d : Int32) : (sExt a o d).1 ≤ 2 := by unfold sExt; repeat' split
                                                                        all_goals simp
theorem sPas_le (d : Int32) : (sPas a d).1 ≤ 1 := by unfold sPas; repeat' split
                                                     all_goals simp
theorem sPri_le (d : Int32) : (sPri a d).1 ≤ 1 := by unfold sPri; repeat' split
                                                     all_goals simp
theorem sRat_le (w d : Int32) : (sRat a w d).1 ≤ 1 := by unfold sRat; repeat' split
                                                         all_goals simp
theorem sBid_le (o : Option Nat) (w d : Int32) : (sBid a o w d).1 ≤ 2 := by unfold sBid; repeat' split
                                                                            all_goals simp
theorem sSel_le (o : Option Nat) : (sSel a o).1 ≤ 2 := by
  unfold sSel
  cases o with
  | none => simp
  | some i =>
    cases h : buyer a i with
    | none => simp [h]
    | some b => simp [h]
theorem sEve_le : (sEve a).1 ≤ 1 := by unfold sEve; repeat' split
                                       all_goals simp
theorem runS_le {w : Nat} (hw : w < 9) (p q z : Int32) : (runS a w p q z).1 ≤ (runL w).length := by
  rcases (by omega : w = 0 ∨ w = 1 ∨ w = 2 ∨ w = 3 ∨ w = 4 ∨ w = 5 ∨ w = 6 ∨ w = 7 ∨ w = 8) with rfl | rfl | rfl | rfl | rfl | rfl | rfl | rfl | rfl
  · rw [runS_0e]; exact sPl_le p q z
  · rw [runS_1e]; exact sRed_le _
  · rw [runS_2e]; exact sExt_le _ _
  · rw [runS_3e]; exact sPas_le _
  · rw [runS_4e]; exact sPri_le _
  · rw [runS_5e]; exact sRat_le _ _
  · rw [runS_6e]; exact sBid_le _ _ _
  · rw [runS_7e]; exact sSel_le _
  · rw [runS_8e]; exact sEve_le
theorem runL_in : ∀ w, w < 9 → ∀ E ∈ runL w, E ∈ exc6 ∧ (E = NSE ∨ E = IAE ∨ E = ISE ∨ E = UOE) := by decide +kernel
end CO
def sucP (τ : Mem) (r : Nat × Nat × (Nat → Nat)) : AOut → Mem → Prop := fun o τ' => o = .inl (some (aI (nI (if r.1 = 0 then 1 else 0)))) ∧ ShR τ' 0 r.2.2 ∧ Same seN τ τ'
section S8
variable {l : Launch} {G : GG} {τ : Mem} {a π : Nat → Nat} {n : Nat}
theorem x_succeeds (hc : CtxE l G) (hN : NcF G) (hQ : OrdH l G) (hS : ShP τ 0 a π) (hV : IV n a) (hn : n ≤ 1000) {w j : Nat} (hw : w < 9) (hj : j < 9) :
    SatH l G iX10_succeeds hX10_succeeds [moM, .inr (60, w, 0), .inr (29, 0, j)] τ (sucP τ (runS a w (τ.1 (29, 0, j) 0) (τ.1 (29, 0, j) 1) (τ.1 (29, 0, j) 2))) := by
  refine SatH_of hc.1.1 hc.1.2 (by decide +kernel) (Nat.le_of_ble_eq_true rfl) (fun x hB hT => ?_)
  refine V_run hB (rt := some .boolean) (nL := 4) (mc := 12) rfl rfl rfl (ops := [(0, .aload_n 0, 1, (0, 0, 0, 0, 0, 0), 0), (1, .aload_n 1, 1, (1, 0, 0, 0, 0, 0), 0), (2, .aload_n 2, 1, (2, 0, 0, 0, 0, 0), 0), (3, .iconst 0, 1, (0, 0, 0, 0, 0, 0), nI 0), (4, .iaload, 1, (0, 0, 0, 0, 0, 0), 0), (5, .aload_n 2, 1, (2, 0, 0, 0, 0, 0), 0), (6, .iconst 1, 1, (0, 0, 0, 0, 0, 0), nI 1), (7, .iaload, 1, (0, 0, 0, 0, 0, 0), 0), (8, .aload_n 2, 1, (2, 0, 0, 0, 0, 0), 0), (9, .iconst 2, 1, (0, 0, 0, 0, 0, 0), nI 2), (10, .iaload, 1, (0, 0, 0, 0, 0, 0), 0)]) (by decide +kernel) ?_
  dsimp only [↓wpb, ↓wp1, ↓vI, ↓vL, ↓vD, ↓ldI, ↓ldL, ↓ldD, ↓ldR, ↓k1, ↓k2, ↓kI, ↓kL, ↓kD, ↓kII, ↓kLL, ↓kDD, ↓kR, ↓kIR, ↓kLR, ↓kIIR, ↓kLIR, ↓kDIR, ↓kRIR, ↓kNN, ↓kE, ↓br, ↓bn, ↓rtI, ↓gfv, ↓zchk, lput, ldel, lbad, alA, acat, isRf, dom, dS, dJ, isO, aTy, aLen, elAV, elR, Nat.reduceBEq, Nat.reduceAdd, Bool.or, Bool.and, Nat.add_zero, Nat.zero_add]
  try simp only [Nat.reduceLT, Nat.reduceLeDiff, Nat.reduceEqDiff, true_and, and_true, and_self, Nat.zero_le, Nat.le_refl, true_or, or_true, Bool.false_eq_true, not_false_eq_true, Nat.reduceAdd, Nat.lt_add_one, Nat.zero_lt_one, nI_add, pk_mul, ixL, vpL, ne_eq, reduceIte, wI_sN, wL_sM, sN_same, sN_K, sN_2, sM_1, sM_same, sM_K, sM_s, uI_at, uN_at, enc_at, uI_enc, uI_uI, upM_s, upM_n, hj]
  refine V_callVH hB hT hkX10_succeeds hN (c_run hc hQ hS hV hn hw _ _ _) rfl (by decide +kernel) cvX10_365 (dom1 rfl) npX10_run ⟨by decide, by decide⟩ (Nat.le_of_ble_eq_true rfl) (by decide) ?_ ?_
  · intro v t1 hq
    obtain ⟨e, h1, h2⟩ := hq
    have hl := runS_le (a := a) hw (τ.1 (29, 0, j) 0) (τ.1 (29, 0, j) 1) (τ.1 (29, 0, j) 2)
    generalize runS a w (τ.1 (29, 0, j) 0) (τ.1 (29, 0, j) 1) (τ.1 (29, 0, j) 2) = R at *
    by_cases hr : R.1 = 0
    rotate_left
    · rw [if_neg hr] at e; cases e
    rw [if_pos hr] at e
    cases e
    show V x t1 12 14 _ []
    refine V_run hB (rt := some .boolean) (nL := 4) (mc := 12) rfl rfl rfl (ops := [(14, .iconst 1, 1, (0, 0, 0, 0, 0, 0), nI 1), (15, .ireturn, 1, (0, 0, 0, 0, 0, 0), 0)]) (by decide +kernel) ?_
    dsimp only [↓wpb, ↓wp1, ↓vI, ↓vL, ↓vD, ↓ldI, ↓ldL, ↓ldD, ↓ldR, ↓k1, ↓k2, ↓kI, ↓kL, ↓kD, ↓kII, ↓kLL, ↓kDD, ↓kR, ↓kIR, ↓kLR, ↓kIIR, ↓kLIR, ↓kDIR, ↓kRIR, ↓kNN, ↓kE, ↓br, ↓bn, ↓rtI, ↓gfv, ↓zchk, lput, ldel, lbad, alA, acat, isRf, dom, dS, dJ, isO, aTy, aLen, elAV, elR, Nat.reduceBEq, Nat.reduceAdd, Bool.or, Bool.and, Nat.add_zero, Nat.zero_add]
    try simp only [Nat.reduceLT, Nat.reduceLeDiff, Nat.reduceEqDiff, true_and, and_true, and_self, Nat.zero_le, Nat.le_refl, true_or, or_true, Bool.false_eq_true, not_false_eq_true, Nat.reduceAdd, Nat.lt_add_one, Nat.zero_lt_one, nI_add, pk_mul, ixL, vpL, ne_eq, reduceIte, wI_sN, wL_sM, sN_same, sN_K, sN_2, sM_1, sM_same, sM_K, sM_s, uI_at, uN_at, enc_at, uI_enc, uI_uI, upM_s, upM_n]
    exact ⟨Or.inr rfl, by rw [if_pos hr], h1, h2⟩
  · intro E t1 hq
    obtain ⟨e, h1, h2⟩ := hq
    have hl := runS_le (a := a) hw (τ.1 (29, 0, j) 0) (τ.1 (29, 0, j) 1) (τ.1 (29, 0, j) 2)
    generalize runS a w (τ.1 (29, 0, j) 0) (τ.1 (29, 0, j) 1) (τ.1 (29, 0, j) 2) = R at *
    by_cases hr : R.1 = 0
    · rw [if_pos hr] at e; cases e
    rw [if_neg hr] at e
    cases e
    obtain ⟨g1, g2⟩ := runL_in w hw _ (exL_in hr hl)
    refine ⟨g1, ?_⟩
    have hz : nI (if R.1 = 0 then 1 else 0) = nI 0 := by rw [if_neg hr]
    rcases g2 with g2 | g2 | g2 | g2
    · refine ⟨16, by rw [g2]; decide +kernel, fun q => ?_⟩
      show V x t1 12 16 _ _
      refine V_run hB (rt := some .boolean) (nL := 4) (mc := 12) rfl rfl rfl (ops := [(16, .astore_n 3, 1, (3, 0, 0, 0, 0, 0), 0), (17, .iconst 0, 1, (0, 0, 0, 0, 0, 0), nI 0), (18, .ireturn, 1, (0, 0, 0, 0, 0, 0), 0)]) (by decide +kernel) ?_
      dsimp only [↓wpb, ↓wp1, ↓vI, ↓vL, ↓vD, ↓ldI, ↓ldL, ↓ldD, ↓ldR, ↓k1, ↓k2, ↓kI, ↓kL, ↓kD, ↓kII, ↓kLL, ↓kDD, ↓kR, ↓kIR, ↓kLR, ↓kIIR, ↓kLIR, ↓kDIR, ↓kRIR, ↓kNN, ↓kE, ↓br, ↓bn, ↓rtI, ↓gfv, ↓zchk, lput, ldel, lbad, alA, acat, isRf, dom, dS, dJ, isO, aTy, aLen, elAV, elR, Nat.reduceBEq, Nat.reduceAdd, Bool.or, Bool.and, Nat.add_zero, Nat.zero_add]
      try simp only [Nat.reduceLT, Nat.reduceLeDiff, Nat.reduceEqDiff, true_and, and_true, and_self, Nat.zero_le, Nat.le_refl, true_or, or_true, Bool.false_eq_true, not_false_eq_true, Nat.reduceAdd, Nat.lt_add_one, Nat.zero_lt_one, nI_add, pk_mul, ixL, vpL, ne_eq, reduceIte, wI_sN, wL_sM, sN_same, sN_K, sN_2, sM_1, sM_same, sM_K, sM_s, uI_at, uN_at, enc_at, uI_enc, uI_uI, upM_s, upM_n]
      exact ⟨Or.inl rfl, by rw [hz], h1, h2⟩
    · refine ⟨19, by rw [g2]; decide +kernel, fun q => ?_⟩
      show V x t1 12 19 _ _
      refine V_run hB (rt := some .boolean) (nL := 4) (mc := 12) rfl rfl rfl (ops := [(19, .astore_n 3, 1, (3, 0, 0, 0, 0, 0), 0), (20, .iconst 0, 1, (0, 0, 0, 0, 0, 0), nI 0), (21, .ireturn, 1, (0, 0, 0, 0, 0, 0), 0)]) (by decide +kernel) ?_
      dsimp only [↓wpb, ↓wp1, ↓vI, ↓vL, ↓vD, ↓ldI, ↓ldL, ↓ldD, ↓ldR, ↓k1, ↓k2, ↓kI, ↓kL, ↓kD, ↓kII, ↓kLL, ↓kDD, ↓kR, ↓kIR, ↓kLR, ↓kIIR, ↓kLIR, ↓kDIR, ↓kRIR, ↓kNN, ↓kE, ↓br, ↓bn, ↓rtI, ↓gfv, ↓zchk, lput, ldel, lbad, alA, acat, isRf, dom, dS, dJ, isO, aTy, aLen, elAV, elR, Nat.reduceBEq, Nat.reduceAdd, Bool.or, Bool.and, Nat.add_zero, Nat.zero_add]
      try simp only [Nat.reduceLT, Nat.reduceLeDiff, Nat.reduceEqDiff, true_and, and_true, and_self, Nat.zero_le, Nat.le_refl, true_or, or_true, Bool.false_eq_true, not_false_eq_true, Nat.reduceAdd, Nat.lt_add_one, Nat.zero_lt_one, nI_add, pk_mul, ixL, vpL, ne_eq, reduceIte, wI_sN, wL_sM, sN_same, sN_K, sN_2, sM_1, sM_same, sM_K, sM_s, uI_at, uN_at, enc_at, uI_enc, uI_uI, upM_s, upM_n]
      exact ⟨Or.inl rfl, by rw [hz], h1, h2⟩
    · refine ⟨22, by rw [g2]; decide +kernel, fun q => ?_⟩
      show V x t1 12 22 _ _
      refine V_run hB (rt := some .boolean) (nL := 4) (mc := 12) rfl rfl rfl (ops := [(22, .astore_n 3, 1, (3, 0, 0, 0, 0, 0), 0), (23, .iconst 0, 1, (0, 0, 0, 0, 0, 0), nI 0), (24, .ireturn, 1, (0, 0, 0, 0, 0, 0), 0)]) (by decide +kernel) ?_
      dsimp only [↓wpb, ↓wp1, ↓vI, ↓vL, ↓vD, ↓ldI, ↓ldL, ↓ldD, ↓ldR, ↓k1, ↓k2, ↓kI, ↓kL, ↓kD, ↓kII, ↓kLL, ↓kDD, ↓kR, ↓kIR, ↓kLR, ↓kIIR, ↓kLIR, ↓kDIR, ↓kRIR, ↓kNN, ↓kE, ↓br, ↓bn, ↓rtI, ↓gfv, ↓zchk, lput, ldel, lbad, alA, acat, isRf, dom, dS, dJ, isO, aTy, aLen, elAV, elR, Nat.reduceBEq, Nat.reduceAdd, Bool.or, Bool.and, Nat.add_zero, Nat.zero_add]
      try simp only [Nat.reduceLT, Nat.reduceLeDiff, Nat.reduceEqDiff, true_and, and_true, and_self, Nat.zero_le, Nat.le_refl, true_or, or_true, Bool.false_eq_true, not_false_eq_true, Nat.reduceAdd, Nat.lt_add_one, Nat.zero_lt_one, nI_add, pk_mul, ixL, vpL, ne_eq, reduceIte, wI_sN, wL_sM, sN_same, sN_K, sN_2, sM_1, sM_same, sM_K, sM_s, uI_at, uN_at, enc_at, uI_enc, uI_uI, upM_s, upM_n]
      exact ⟨Or.inl rfl, by rw [hz], h1, h2⟩
    · refine ⟨25, by rw [g2]; decide +kernel, fun q => ?_⟩
      show V x t1 12 25 _ _
      refine V_run hB (rt := some .boolean) (nL := 4) (mc := 12) rfl rfl rfl (ops := [(25, .astore_n 3, 1, (3, 0, 0, 0, 0, 0), 0), (26, .iconst 0, 1, (0, 0, 0, 0, 0, 0), nI 0), (27, .ireturn, 1, (0, 0, 0, 0, 0, 0), 0)]) (by decide +kernel) ?_
      dsimp only [↓wpb, ↓wp1, ↓vI, ↓vL, ↓vD, ↓ldI, ↓ldL, ↓ldD, ↓ldR, ↓k1, ↓k2, ↓kI, ↓kL, ↓kD, ↓kII, ↓kLL, ↓kDD, ↓kR, ↓kIR, ↓kLR, ↓kIIR, ↓kLIR, ↓kDIR, ↓kRIR, ↓kNN, ↓kE, ↓br, ↓bn, ↓rtI, ↓gfv, ↓zchk, lput, ldel, lbad, alA, acat, isRf, dom, dS, dJ, isO, aTy, aLen, elAV, elR, Nat.reduceBEq, Nat.reduceAdd, Bool.or, Bool.and, Nat.add_zero, Nat.zero_add]
      try simp only [Nat.reduceLT, Nat.reduceLeDiff, Nat.reduceEqDiff, true_and, and_true, and_self, Nat.zero_le, Nat.le_refl, true_or, or_true, Bool.false_eq_true, not_false_eq_true, Nat.reduceAdd, Nat.lt_add_one, Nat.zero_lt_one, nI_add, pk_mul, ixL, vpL, ne_eq, reduceIte, wI_sN, wL_sM, sN_same, sN_K, sN_2, sM_1, sM_same, sM_K, sM_s, uI_at, uN_at, enc_at, uI_enc, uI_uI, upM_s, upM_n]
      exact ⟨Or.inl rfl, by rw [hz], h1, h2⟩
theorem sucH (hc : CtxE l G) (hN : NcF G) (hQ : OrdH l G) : SucH l G := by
  intro x Φ hB hno τ a π n k w j al r hS hV hn hw hj hk hr kk
  refine V_callVX hB hno (x_succeeds hc hN hQ hS hV hn hw hj) rfl (by decide +kernel) cvxX10_356 (dom1 rfl) npX10_succeeds ⟨by decide, by decide⟩ (by omega) hk ?_ ?_
  · intro v t hq
    obtain ⟨e, h1, h2⟩ := hq
    cases e
    exact kk t h1 h2
  · intro E t hq
    cases hq.1
end S8
