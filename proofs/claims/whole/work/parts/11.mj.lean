/-! ===== the most minutes, the mean loan ===== -/
def okU (a : Nat → Nat) (p : Int32) (s : Nat) : Nat → Bool
  | 0 => true
  | k + 1 => okU a p s k && (!s.testBit k || (!isLot a k && decide (nI (it a k 2) = p)))
def mnS (a : Nat → Nat) (s : Nat) : Nat → Nat
  | 0 => 0
  | k + 1 => mnS a s k + (if s.testBit k then it a k 3 else 0)
def dbS (a : Nat → Nat) (s : Nat) : Nat → Nat
  | 0 => 0
  | k + 1 => dbS a s k + (if s.testBit k then debt a k else 0)
def moU (a : Nat → Nat) (p : Int32) (c : Nat) : Nat → Nat
  | 0 => 0
  | s + 1 => if okU a p s (a 4) = true ∧ dbS a s (a 4) ≤ c ∧ moU a p c s < mnS a s (a 4) then mnS a s (a 4) else moU a p c s
def sMos (a : Nat → Nat) (p q : Int32) : Nat × Nat := if inR p 0 5 = true ∧ inR q 0 9999 = true then (0, moU a p q.toNatClampNeg (2 ^ a 4)) else (1, 0)
theorem bit10 : ∀ k, k < 10 → ∀ s, s < 1024 → ((nI s >>> (nI k &&& 31)) &&& nI 1 = nI (bN (s.testBit k))) := by decide +kernel
theorem shl10 : ∀ k, k ≤ 10 → nI 1 <<< (nI k &&& 31) = nI (2 ^ k) := by decide +kernel
theorem bN_and (x y : Bool) : nI (bN x) &&& nI (bN y) = nI (bN (x && y)) := by cases x <;> cases y <;> decide
section MJ
variable {l : Launch} {G : GG} {τ : Mem} {c0 n : Nat} {σ : Sg}
theorem q_pledgedMinutes (hc : Ctx l G) (h : MW τ c0 σ) (hI : IV n σ.1) (hn : n ≤ 1000) : Sat l G iX11_pledgedMinutes [mM] τ (fun o τ' => o = .inl (some (.inl (.long (nI (σ.1 8)).toInt64))) ∧ MW τ' 0 σ ∧ Oth τ τ') := by
  refine Sat_of hc.1 hc.2 (by decide +kernel) (Nat.le_of_ble_eq_true rfl) (fun x hB hno => ?_)
  refine V_run hB (rt := some .long) (nL := 1) (mc := 0) rfl rfl rfl obX11_pledgedMinutes_0 ?_
  dsimp only [bX11_pledgedMinutes_0, ↓wpb, ↓wp1, ↓vI, ↓vL, ↓vD, ↓ldI, ↓ldL, ↓ldD, ↓ldR, ↓k1, ↓k2, ↓kI, ↓kL, ↓kD, ↓kII, ↓kLL, ↓kDD, ↓kR, ↓kIR, ↓kLR, ↓kIIR, ↓kLIR, ↓kDIR, ↓kRIR, ↓kNN, ↓kE, ↓br, ↓bn, ↓rtI, ↓gfv, ↓zchk, lput, ldel, lbad, alA, acat, isRf, dom, dS, dJ, isO, aTy, aLen, elAV, elR, Nat.reduceBEq, Nat.reduceAdd, Bool.or, Bool.and, Nat.add_zero, Nat.zero_add]
  try simp only [Nat.reduceLT, Nat.reduceLeDiff, Nat.reduceEqDiff, true_and, and_true, and_self, Nat.zero_le, Nat.le_refl, true_or, or_true, Bool.false_eq_true, not_false_eq_true, Nat.reduceAdd, Nat.lt_add_one, Nat.zero_lt_one, nI_add, pk_mul, ixL, vpL, ne_eq, reduceIte, wI_sA, sA_same, sA_ne, sA_sA, sA_comm, uI_at, uN_at, enc_at, uI_enc, uI_uI, itn1, itn2, itn3, itn4, itc, itc0, itc1, upM_s, upM_n]
  refine V_cV hB hno (q_tells hc h (k := 8) (by decide)) rfl (by decide +kernel) cvX11_118 (dom1 rfl) npX11_tells ⟨by decide, by decide⟩ (Nat.le_of_ble_eq_true rfl) (n' := 0) (by decide) rfl ?_
  refine V_run hB (rt := some .long) (nL := 1) (mc := 0) rfl rfl rfl obX11_pledgedMinutes_6 ?_
  dsimp only [bX11_pledgedMinutes_6, ↓wpb, ↓wp1, ↓vI, ↓vL, ↓vD, ↓ldI, ↓ldL, ↓ldD, ↓ldR, ↓k1, ↓k2, ↓kI, ↓kL, ↓kD, ↓kII, ↓kLL, ↓kDD, ↓kR, ↓kIR, ↓kLR, ↓kIIR, ↓kLIR, ↓kDIR, ↓kRIR, ↓kNN, ↓kE, ↓br, ↓bn, ↓rtI, ↓gfv, ↓zchk, lput, ldel, lbad, alA, acat, isRf, dom, dS, dJ, isO, aTy, aLen, elAV, elR, Nat.reduceBEq, Nat.reduceAdd, Bool.or, Bool.and, Nat.add_zero, Nat.zero_add]
  try simp only [Nat.reduceLT, Nat.reduceLeDiff, Nat.reduceEqDiff, true_and, and_true, and_self, Nat.zero_le, Nat.le_refl, true_or, or_true, Bool.false_eq_true, not_false_eq_true, Nat.reduceAdd, Nat.lt_add_one, Nat.zero_lt_one, nI_add, pk_mul, ixL, vpL, ne_eq, reduceIte, wI_sA, sA_same, sA_ne, sA_sA, sA_comm, uI_at, uN_at, enc_at, uI_enc, uI_uI, itn1, itn2, itn3, itn4, itc, itc0, itc1, upM_s, upM_n]
  exact ⟨tS_MW h 0, tS_Oth τ 0⟩
/-- a sum of an item's, also where it runs over -/
theorem q_interestX (hc : Ctx l G) {τ : Mem} {a : Nat → Nat} (hS : MS τ a) {i : Nat} (hi : i < 10) (hr : ∀ w, w < 7 → a (9 + w) ≤ 9) (h0 : a 0 ≤ 100000) : Sat l G iX11_interest [mM, aI (nI i), aI (nI (a 0))] τ (fun o τ' => ∃ x, o = .inl (some (aI x)) ∧ τ' = τ) := by
  obtain ⟨hv, hm, hs⟩ := hS
  have hf : it a i 5 < 1073741824 := hs _
  refine Sat_of hc.1 hc.2 (by decide +kernel) (Nat.le_of_ble_eq_true rfl) (fun x hB hno => ?_)
  have head : ∀ k c, c + k = a 0 - it a i 5 → V x τ 0 16 [(0, mM), (1, aI (nI i)), (2, aI (nI (a 0))), (3, aI (nI (rsU a (it a i 5) c))), (4, aI (nI (it a i 5 + 1 + c)))] [] := by
    intro k
    induction k with
    | zero =>
      intro c hk
      have hk : c = a 0 - it a i 5 := by omega
      subst hk
      refine V_run hB (rt := some .int) (nL := 5) (mc := 0) rfl rfl rfl obX11_interest_16 ?_
      dsimp only [bX11_interest_16, ↓wpb, ↓wp1, ↓vI, ↓vL, ↓vD, ↓ldI, ↓ldL, ↓ldD, ↓ldR, ↓k1, ↓k2, ↓kI, ↓kL, ↓kD, ↓kII, ↓kLL, ↓kDD, ↓kR, ↓kIR, ↓kLR, ↓kIIR, ↓kLIR, ↓kDIR, ↓kRIR, ↓kNN, ↓kE, ↓br, ↓bn, ↓rtI, ↓gfv, ↓zchk, lput, ldel, lbad, alA, acat, isRf, dom, dS, dJ, isO, aTy, aLen, elAV, elR, Nat.reduceBEq, Nat.reduceAdd, Bool.or, Bool.and, Nat.add_zero, Nat.zero_add]
      try simp only [Nat.reduceLT, Nat.reduceLeDiff, Nat.reduceEqDiff, true_and, and_true, and_self, Nat.zero_le, Nat.le_refl, true_or, or_true, Bool.false_eq_true, not_false_eq_true, Nat.reduceAdd, Nat.lt_add_one, Nat.zero_lt_one, nI_add, pk_mul, ixL, vpL, ne_eq, reduceIte, wI_sA, sA_same, sA_ne, sA_sA, sA_comm, uI_at, uN_at, enc_at, uI_enc, uI_uI, itn1, itn2, itn3, itn4, itc, itc0, itc1, upM_s, upM_n]
      refine ⟨fun _ => ?_, fun h => absurd (nI_lt (by omega) (by omega)) h⟩
      refine V_run hB (rt := some .int) (nL := 5) (mc := 0) rfl rfl rfl obX11_interest_44 ?_
      dsimp only [bX11_interest_44, ↓wpb, ↓wp1, ↓vI, ↓vL, ↓vD, ↓ldI, ↓ldL, ↓ldD, ↓ldR, ↓k1, ↓k2, ↓kI, ↓kL, ↓kD, ↓kII, ↓kLL, ↓kDD, ↓kR, ↓kIR, ↓kLR, ↓kIIR, ↓kLIR, ↓kDIR, ↓kRIR, ↓kNN, ↓kE, ↓br, ↓bn, ↓rtI, ↓gfv, ↓zchk, lput, ldel, lbad, alA, acat, isRf, dom, dS, dJ, isO, aTy, aLen, elAV, elR, Nat.reduceBEq, Nat.reduceAdd, Bool.or, Bool.and, Nat.add_zero, Nat.zero_add]
      try simp only [Nat.reduceLT, Nat.reduceLeDiff, Nat.reduceEqDiff, true_and, and_true, and_self, Nat.zero_le, Nat.le_refl, true_or, or_true, Bool.false_eq_true, not_false_eq_true, Nat.reduceAdd, Nat.lt_add_one, Nat.zero_lt_one, nI_add, pk_mul, ixL, vpL, ne_eq, reduceIte, wI_sA, sA_same, sA_ne, sA_sA, sA_comm, uI_at, uN_at, enc_at, uI_enc, uI_uI, itn1, itn2, itn3, itn4, itc, itc0, itc1, upM_s, upM_n]
      refine V_cS hB hno (q_ofN hc _ _ _) rfl (by decide +kernel) csX11_60 npX11_of ⟨by decide, by decide⟩ (Nat.le_of_ble_eq_true rfl) (n' := 0) (by decide) rfl ?_
      refine V_run hB (rt := some .int) (nL := 5) (mc := 0) rfl rfl rfl obX11_interest_53 ?_
      dsimp only [bX11_interest_53, ↓wpb, ↓wp1, ↓vI, ↓vL, ↓vD, ↓ldI, ↓ldL, ↓ldD, ↓ldR, ↓k1, ↓k2, ↓kI, ↓kL, ↓kD, ↓kII, ↓kLL, ↓kDD, ↓kR, ↓kIR, ↓kLR, ↓kIIR, ↓kLIR, ↓kDIR, ↓kRIR, ↓kNN, ↓kE, ↓br, ↓bn, ↓rtI, ↓gfv, ↓zchk, lput, ldel, lbad, alA, acat, isRf, dom, dS, dJ, isO, aTy, aLen, elAV, elR, Nat.reduceBEq, Nat.reduceAdd, Bool.or, Bool.and, Nat.add_zero, Nat.zero_add]
      try simp only [Nat.reduceLT, Nat.reduceLeDiff, Nat.reduceEqDiff, true_and, and_true, and_self, Nat.zero_le, Nat.le_refl, true_or, or_true, Bool.false_eq_true, not_false_eq_true, Nat.reduceAdd, Nat.lt_add_one, Nat.zero_lt_one, nI_add, pk_mul, ixL, vpL, ne_eq, reduceIte, wI_sA, sA_same, sA_ne, sA_sA, sA_comm, uI_at, uN_at, enc_at, uI_enc, uI_uI, itn1, itn2, itn3, itn4, itc, itc0, itc1, upM_s, upM_n, hv, ixI hi, vpI hi]
      exact ⟨by decide, _, rfl⟩
    | succ k ih =>
      intro c hk
      have e : nI (it a i 5 + 1 + c) - nI (it a i 5 + 1 + c) / nI 7 * nI 7 = nI ((it a i 5 + 1 + c) % 7) := pk_rem (by omega) (by omega) (by omega)
      have e7 : (it a i 5 + 1 + c) % 7 < 7 := Nat.mod_lt _ (by omega)
      have ix : (nI (9 + (it a i 5 + 1 + c) % 7)).toNatClampNeg = 9 + (it a i 5 + 1 + c) % 7 := ixL (by omega)
      have vx : vp_in (nI (9 + (it a i 5 + 1 + c) % 7)) 136 = True := vpL (by omega) (by omega)
      refine V_run hB (rt := some .int) (nL := 5) (mc := 0) rfl rfl rfl obX11_interest_16 ?_
      dsimp only [bX11_interest_16, ↓wpb, ↓wp1, ↓vI, ↓vL, ↓vD, ↓ldI, ↓ldL, ↓ldD, ↓ldR, ↓k1, ↓k2, ↓kI, ↓kL, ↓kD, ↓kII, ↓kLL, ↓kDD, ↓kR, ↓kIR, ↓kLR, ↓kIIR, ↓kLIR, ↓kDIR, ↓kRIR, ↓kNN, ↓kE, ↓br, ↓bn, ↓rtI, ↓gfv, ↓zchk, lput, ldel, lbad, alA, acat, isRf, dom, dS, dJ, isO, aTy, aLen, elAV, elR, Nat.reduceBEq, Nat.reduceAdd, Bool.or, Bool.and, Nat.add_zero, Nat.zero_add]
      try simp only [Nat.reduceLT, Nat.reduceLeDiff, Nat.reduceEqDiff, true_and, and_true, and_self, Nat.zero_le, Nat.le_refl, true_or, or_true, Bool.false_eq_true, not_false_eq_true, Nat.reduceAdd, Nat.lt_add_one, Nat.zero_lt_one, nI_add, pk_mul, ixL, vpL, ne_eq, reduceIte, wI_sA, sA_same, sA_ne, sA_sA, sA_comm, uI_at, uN_at, enc_at, uI_enc, uI_uI, itn1, itn2, itn3, itn4, itc, itc0, itc1, upM_s, upM_n, hv, e, ix, vx]
      refine ⟨fun h => absurd h (nI_nlt (by omega) (by omega)), fun _ => ⟨by decide, ?_⟩⟩
      exact ih (c + 1) (by omega)
  refine V_run hB (rt := some .int) (nL := 5) (mc := 0) rfl rfl rfl obX11_interest_0 ?_
  dsimp only [bX11_interest_0, ↓wpb, ↓wp1, ↓vI, ↓vL, ↓vD, ↓ldI, ↓ldL, ↓ldD, ↓ldR, ↓k1, ↓k2, ↓kI, ↓kL, ↓kD, ↓kII, ↓kLL, ↓kDD, ↓kR, ↓kIR, ↓kLR, ↓kIIR, ↓kLIR, ↓kDIR, ↓kRIR, ↓kNN, ↓kE, ↓br, ↓bn, ↓rtI, ↓gfv, ↓zchk, lput, ldel, lbad, alA, acat, isRf, dom, dS, dJ, isO, aTy, aLen, elAV, elR, Nat.reduceBEq, Nat.reduceAdd, Bool.or, Bool.and, Nat.add_zero, Nat.zero_add]
  try simp only [Nat.reduceLT, Nat.reduceLeDiff, Nat.reduceEqDiff, true_and, and_true, and_self, Nat.zero_le, Nat.le_refl, true_or, or_true, Bool.false_eq_true, not_false_eq_true, Nat.reduceAdd, Nat.lt_add_one, Nat.zero_lt_one, nI_add, pk_mul, ixL, vpL, ne_eq, reduceIte, wI_sA, sA_same, sA_ne, sA_sA, sA_comm, uI_at, uN_at, enc_at, uI_enc, uI_uI, itn1, itn2, itn3, itn4, itc, itc0, itc1, upM_s, upM_n]
  refine V_cS hB hno (q_ofN hc _ _ _) rfl (by decide +kernel) csX11_60 npX11_of ⟨by decide, by decide⟩ (Nat.le_of_ble_eq_true rfl) (n' := 0) (by decide) rfl ?_
  refine V_run hB (rt := some .int) (nL := 5) (mc := 0) rfl rfl rfl obX11_interest_11 ?_
  dsimp only [bX11_interest_11, ↓wpb, ↓wp1, ↓vI, ↓vL, ↓vD, ↓ldI, ↓ldL, ↓ldD, ↓ldR, ↓k1, ↓k2, ↓kI, ↓kL, ↓kD, ↓kII, ↓kLL, ↓kDD, ↓kR, ↓kIR, ↓kLR, ↓kIIR, ↓kLIR, ↓kDIR, ↓kRIR, ↓kNN, ↓kE, ↓br, ↓bn, ↓rtI, ↓gfv, ↓zchk, lput, ldel, lbad, alA, acat, isRf, dom, dS, dJ, isO, aTy, aLen, elAV, elR, Nat.reduceBEq, Nat.reduceAdd, Bool.or, Bool.and, Nat.add_zero, Nat.zero_add]
  try simp only [Nat.reduceLT, Nat.reduceLeDiff, Nat.reduceEqDiff, true_and, and_true, and_self, Nat.zero_le, Nat.le_refl, true_or, or_true, Bool.false_eq_true, not_false_eq_true, Nat.reduceAdd, Nat.lt_add_one, Nat.zero_lt_one, nI_add, pk_mul, ixL, vpL, ne_eq, reduceIte, wI_sA, sA_same, sA_ne, sA_sA, sA_comm, uI_at, uN_at, enc_at, uI_enc, uI_uI, itn1, itn2, itn3, itn4, itc, itc0, itc1, upM_s, upM_n, hv, ixI hi, vpI hi]
  exact head (a 0 - it a i 5) 0 (by omega)
theorem q_debtX (hc : Ctx l G) {τ : Mem} {a : Nat → Nat} (hS : MS τ a) {i : Nat} (hi : i < 10) (hr : ∀ w, w < 7 → a (9 + w) ≤ 9) (h0 : a 0 ≤ 100000) : Sat l G iX11_debt [mM, aI (nI i)] τ (fun o τ' => ∃ x, o = .inl (some (aI x)) ∧ τ' = τ) := by
  have hv := hS.1
  refine Sat_of hc.1 hc.2 (by decide +kernel) (Nat.le_of_ble_eq_true rfl) (fun x hB hno => ?_)
  refine V_run hB (rt := some .int) (nL := 2) (mc := 0) rfl rfl rfl obX11_debt_0 ?_
  dsimp only [bX11_debt_0, ↓wpb, ↓wp1, ↓vI, ↓vL, ↓vD, ↓ldI, ↓ldL, ↓ldD, ↓ldR, ↓k1, ↓k2, ↓kI, ↓kL, ↓kD, ↓kII, ↓kLL, ↓kDD, ↓kR, ↓kIR, ↓kLR, ↓kIIR, ↓kLIR, ↓kDIR, ↓kRIR, ↓kNN, ↓kE, ↓br, ↓bn, ↓rtI, ↓gfv, ↓zchk, lput, ldel, lbad, alA, acat, isRf, dom, dS, dJ, isO, aTy, aLen, elAV, elR, Nat.reduceBEq, Nat.reduceAdd, Bool.or, Bool.and, Nat.add_zero, Nat.zero_add]
  try simp only [Nat.reduceLT, Nat.reduceLeDiff, Nat.reduceEqDiff, true_and, and_true, and_self, Nat.zero_le, Nat.le_refl, true_or, or_true, Bool.false_eq_true, not_false_eq_true, Nat.reduceAdd, Nat.lt_add_one, Nat.zero_lt_one, nI_add, pk_mul, ixL, vpL, ne_eq, reduceIte, wI_sA, sA_same, sA_ne, sA_sA, sA_comm, uI_at, uN_at, enc_at, uI_enc, uI_uI, itn1, itn2, itn3, itn4, itc, itc0, itc1, upM_s, upM_n]
  refine V_cS hB hno (q_ofN hc _ _ _) rfl (by decide +kernel) csX11_60 npX11_of ⟨by decide, by decide⟩ (Nat.le_of_ble_eq_true rfl) (n' := 0) (by decide) rfl ?_
  refine V_run hB (rt := some .int) (nL := 2) (mc := 0) rfl rfl rfl obX11_debt_9 ?_
  dsimp only [bX11_debt_9, ↓wpb, ↓wp1, ↓vI, ↓vL, ↓vD, ↓ldI, ↓ldL, ↓ldD, ↓ldR, ↓k1, ↓k2, ↓kI, ↓kL, ↓kD, ↓kII, ↓kLL, ↓kDD, ↓kR, ↓kIR, ↓kLR, ↓kIIR, ↓kLIR, ↓kDIR, ↓kRIR, ↓kNN, ↓kE, ↓br, ↓bn, ↓rtI, ↓gfv, ↓zchk, lput, ldel, lbad, alA, acat, isRf, dom, dS, dJ, isO, aTy, aLen, elAV, elR, Nat.reduceBEq, Nat.reduceAdd, Bool.or, Bool.and, Nat.add_zero, Nat.zero_add]
  try simp only [Nat.reduceLT, Nat.reduceLeDiff, Nat.reduceEqDiff, true_and, and_true, and_self, Nat.zero_le, Nat.le_refl, true_or, or_true, Bool.false_eq_true, not_false_eq_true, Nat.reduceAdd, Nat.lt_add_one, Nat.zero_lt_one, nI_add, pk_mul, ixL, vpL, ne_eq, reduceIte, wI_sA, sA_same, sA_ne, sA_sA, sA_comm, uI_at, uN_at, enc_at, uI_enc, uI_uI, itn1, itn2, itn3, itn4, itc, itc0, itc1, upM_s, upM_n, hv, ixI hi, vpI hi]
  refine V_callV hB hno (q_interestX hc hS hi hr h0) rfl (by decide +kernel) cvX11_89 (dom1 rfl) npX11_interest ⟨by decide, by decide⟩ (Nat.le_of_ble_eq_true rfl) (by decide) ?_ ?_
  · intro v τ' hq
    obtain ⟨y, e1, rfl⟩ := hq
    cases e1
    refine V_run hB (rt := some .int) (nL := 2) (mc := 0) rfl rfl rfl obX11_debt_21 ?_
    dsimp only [bX11_debt_21, ↓wpb, ↓wp1, ↓vI, ↓vL, ↓vD, ↓ldI, ↓ldL, ↓ldD, ↓ldR, ↓k1, ↓k2, ↓kI, ↓kL, ↓kD, ↓kII, ↓kLL, ↓kDD, ↓kR, ↓kIR, ↓kLR, ↓kIIR, ↓kLIR, ↓kDIR, ↓kRIR, ↓kNN, ↓kE, ↓br, ↓bn, ↓rtI, ↓gfv, ↓zchk, lput, ldel, lbad, alA, acat, isRf, dom, dS, dJ, isO, aTy, aLen, elAV, elR, Nat.reduceBEq, Nat.reduceAdd, Bool.or, Bool.and, Nat.add_zero, Nat.zero_add]
    try simp only [Nat.reduceLT, Nat.reduceLeDiff, Nat.reduceEqDiff, true_and, and_true, and_self, Nat.zero_le, Nat.le_refl, true_or, or_true, Bool.false_eq_true, not_false_eq_true, Nat.reduceAdd, Nat.lt_add_one, Nat.zero_lt_one, nI_add, pk_mul, ixL, vpL, ne_eq, reduceIte, wI_sA, sA_same, sA_ne, sA_sA, sA_comm, uI_at, uN_at, enc_at, uI_enc, uI_uI, itn1, itn2, itn3, itn4, itc, itc0, itc1, upM_s, upM_n]
    exact ⟨by decide, _, rfl⟩
  · intro E τ' hq; obtain ⟨y, e1, -⟩ := hq; cases e1
/-- .. as one contract: a pledge's is the debt -/
theorem q_debtY (hc : Ctx l G) {τ : Mem} {a : Nat → Nat} {n : Nat} (hS : MS τ a) (hI : IV n a) (hn : n ≤ 1000) {i : Nat} (hi : i < a 4) : Sat l G iX11_debt [mM, aI (nI i)] τ (fun o τ' => ∃ x, o = .inl (some (aI x)) ∧ τ' = τ ∧ (isLot a i = false → x = nI (debt a i))) := by
  have hi10 : i < 10 := by have := hI.1.1; omega
  by_cases hl : isLot a i = false
  · refine Sat.mono (q_debt hc hS hi10 (hI.okD (e := 0) hi hl (by omega))) ?_
    intro o τ' h
    exact ⟨_, h.1, h.2, fun _ => rfl⟩
  · refine Sat.mono (q_debtX hc hS hi10 hI.2.2.2.1 (by have := hI.2.2.2.2.1; omega)) ?_
    intro o τ' h
    obtain ⟨x, e1, e2⟩ := h
    exact ⟨x, e1, e2, fun h => absurd h hl⟩
theorem mnS_le {a : Nat → Nat} (hm : ∀ j, j < 10 → it a j 3 ≤ 240) (s : Nat) : ∀ k, k ≤ 10 → mnS a s k ≤ 240 * k
  | 0, _ => Nat.le_refl _
  | k + 1, hk => by
    have h1 := mnS_le hm s k (by omega)
    have h2 := hm k (by omega)
    unfold mnS
    split <;> omega
theorem dbS_le {n : Nat} {a : Nat → Nat} (hI : IV n a) (p : Int32) (s : Nat) : ∀ k, k ≤ a 4 → okU a p s k = true → dbS a s k ≤ 13860 * k
  | 0, _, _ => Nat.le_refl _
  | k + 1, hk, h => by
    unfold okU at h
    rw [Bool.and_eq_true] at h
    have h1 := dbS_le hI p s k (by omega) h.1
    unfold dbS
    split
    · rename_i hb
      have h2 := h.2
      rw [hb] at h2
      simp at h2
      have := hI.dbt (show k < a 4 by omega) h2.1
      omega
    · omega
theorem moU_le {a : Nat → Nat} (hm : ∀ j, j < 10 → it a j 3 ≤ 240) (h4 : a 4 ≤ 10) (p : Int32) (c : Nat) : ∀ s, moU a p c s ≤ 2400
  | 0 => by simp [moU]
  | s + 1 => by
    have h1 := moU_le hm h4 p c s
    have h2 := mnS_le hm s (a 4) h4
    unfold moU
    split <;> omega
theorem q_mostMinutes (hc : Ctx l G) (h : MW τ c0 σ) (hI : IV n σ.1) (hn : n ≤ 1000) (p q : Int32) : Sat l G iX11_mostMinutes [mM, aI p, aI q] τ (AnR τ σ (sMos σ.1 p q)) := by
  have hS0 := MS_of (tS_MW h 0) hI hn
  have hv := h.1
  have hm := hI.1.1
  unfold tS at hS0
  refine Sat_of hc.1 hc.2 (by decide +kernel) (Nat.le_of_ble_eq_true rfl) (fun x hB hno => ?_)
  have bad : ¬ (inR p 0 5 = true ∧ inR q 0 9999 = true) → V x τ 0 25 [(0, mM), (1, aI p), (2, aI q)] [mM] := by
    intro hq
    have e : sMos σ.1 p q = (1, 0) := if_neg hq
    rw [e] at hB
    refine V_run hB (rt := some .int) (nL := 9) (mc := 0) rfl rfl rfl obX11_mostMinutes_25 ?_
    dsimp only [bX11_mostMinutes_25, ↓wpb, ↓wp1, ↓vI, ↓vL, ↓vD, ↓ldI, ↓ldL, ↓ldD, ↓ldR, ↓k1, ↓k2, ↓kI, ↓kL, ↓kD, ↓kII, ↓kLL, ↓kDD, ↓kR, ↓kIR, ↓kLR, ↓kIIR, ↓kLIR, ↓kDIR, ↓kRIR, ↓kNN, ↓kE, ↓br, ↓bn, ↓rtI, ↓gfv, ↓zchk, lput, ldel, lbad, alA, acat, isRf, dom, dS, dJ, isO, aTy, aLen, elAV, elR, Nat.reduceBEq, Nat.reduceAdd, Bool.or, Bool.and, Nat.add_zero, Nat.zero_add]
    try simp only [Nat.reduceLT, Nat.reduceLeDiff, Nat.reduceEqDiff, true_and, and_true, and_self, Nat.zero_le, Nat.le_refl, true_or, or_true, Bool.false_eq_true, not_false_eq_true, Nat.reduceAdd, Nat.lt_add_one, Nat.zero_lt_one, nI_add, pk_mul, ixL, vpL, ne_eq, reduceIte, wI_sA, sA_same, sA_ne, sA_sA, sA_comm, uI_at, uN_at, enc_at, uI_enc, uI_uI, itn1, itn2, itn3, itn4, itc, itc0, itc1, upM_s, upM_n]
    refine ⟨fun h => absurd h (by decide), fun _ => ?_⟩
    exact Ans_t h
  refine V_run hB (rt := some .int) (nL := 9) (mc := 0) rfl rfl rfl obX11_mostMinutes_0 ?_
  dsimp only [bX11_mostMinutes_0, ↓wpb, ↓wp1, ↓vI, ↓vL, ↓vD, ↓ldI, ↓ldL, ↓ldD, ↓ldR, ↓k1, ↓k2, ↓kI, ↓kL, ↓kD, ↓kII, ↓kLL, ↓kDD, ↓kR, ↓kIR, ↓kLR, ↓kIIR, ↓kLIR, ↓kDIR, ↓kRIR, ↓kNN, ↓kE, ↓br, ↓bn, ↓rtI, ↓gfv, ↓zchk, lput, ldel, lbad, alA, acat, isRf, dom, dS, dJ, isO, aTy, aLen, elAV, elR, Nat.reduceBEq, Nat.reduceAdd, Bool.or, Bool.and, Nat.add_zero, Nat.zero_add]
  try simp only [Nat.reduceLT, Nat.reduceLeDiff, Nat.reduceEqDiff, true_and, and_true, and_self, Nat.zero_le, Nat.le_refl, true_or, or_true, Bool.false_eq_true, not_false_eq_true, Nat.reduceAdd, Nat.lt_add_one, Nat.zero_lt_one, nI_add, pk_mul, ixL, vpL, ne_eq, reduceIte, wI_sA, sA_same, sA_ne, sA_sA, sA_comm, uI_at, uN_at, enc_at, uI_enc, uI_uI, itn1, itn2, itn3, itn4, itc, itc0, itc1, upM_s, upM_n]
  refine V_cS hB hno (q_isInN hc _ _ _ _) rfl (by decide +kernel) csX11_72 npX11_isIn ⟨by decide, by decide⟩ (Nat.le_of_ble_eq_true rfl) (n' := 0) (by decide) rfl ?_
  refine V_run hB (rt := some .int) (nL := 9) (mc := 0) rfl rfl rfl obX11_mostMinutes_7 ?_
  dsimp only [bX11_mostMinutes_7, ↓wpb, ↓wp1, ↓vI, ↓vL, ↓vD, ↓ldI, ↓ldL, ↓ldD, ↓ldR, ↓k1, ↓k2, ↓kI, ↓kL, ↓kD, ↓kII, ↓kLL, ↓kDD, ↓kR, ↓kIR, ↓kLR, ↓kIIR, ↓kLIR, ↓kDIR, ↓kRIR, ↓kNN, ↓kE, ↓br, ↓bn, ↓rtI, ↓gfv, ↓zchk, lput, ldel, lbad, alA, acat, isRf, dom, dS, dJ, isO, aTy, aLen, elAV, elR, Nat.reduceBEq, Nat.reduceAdd, Bool.or, Bool.and, Nat.add_zero, Nat.zero_add]
  try simp only [Nat.reduceLT, Nat.reduceLeDiff, Nat.reduceEqDiff, true_and, and_true, and_self, Nat.zero_le, Nat.le_refl, true_or, or_true, Bool.false_eq_true, not_false_eq_true, Nat.reduceAdd, Nat.lt_add_one, Nat.zero_lt_one, nI_add, pk_mul, ixL, vpL, ne_eq, reduceIte, wI_sA, sA_same, sA_ne, sA_sA, sA_comm, uI_at, uN_at, enc_at, uI_enc, uI_uI, itn1, itn2, itn3, itn4, itc, itc0, itc1, upM_s, upM_n, bN_0]
  refine ⟨fun h1 => bad (fun r => by rw [r.1] at h1; cases h1), fun h1 => ?_⟩
  have h1 : inR p 0 5 = true := by simpa using h1
  refine V_cS hB hno (q_isInN hc _ _ _ _) rfl (by decide +kernel) csX11_72 npX11_isIn ⟨by decide, by decide⟩ (Nat.le_of_ble_eq_true rfl) (n' := 0) (by decide) rfl ?_
  refine V_run hB (rt := some .int) (nL := 9) (mc := 0) rfl rfl rfl obX11_mostMinutes_18 ?_
  dsimp only [bX11_mostMinutes_18, ↓wpb, ↓wp1, ↓vI, ↓vL, ↓vD, ↓ldI, ↓ldL, ↓ldD, ↓ldR, ↓k1, ↓k2, ↓kI, ↓kL, ↓kD, ↓kII, ↓kLL, ↓kDD, ↓kR, ↓kIR, ↓kLR, ↓kIIR, ↓kLIR, ↓kDIR, ↓kRIR, ↓kNN, ↓kE, ↓br, ↓bn, ↓rtI, ↓gfv, ↓zchk, lput, ldel, lbad, alA, acat, isRf, dom, dS, dJ, isO, aTy, aLen, elAV, elR, Nat.reduceBEq, Nat.reduceAdd, Bool.or, Bool.and, Nat.add_zero, Nat.zero_add]
  try simp only [Nat.reduceLT, Nat.reduceLeDiff, Nat.reduceEqDiff, true_and, and_true, and_self, Nat.zero_le, Nat.le_refl, true_or, or_true, Bool.false_eq_true, not_false_eq_true, Nat.reduceAdd, Nat.lt_add_one, Nat.zero_lt_one, nI_add, pk_mul, ixL, vpL, ne_eq, reduceIte, wI_sA, sA_same, sA_ne, sA_sA, sA_comm, uI_at, uN_at, enc_at, uI_enc, uI_uI, itn1, itn2, itn3, itn4, itc, itc0, itc1, upM_s, upM_n, bN_0]
  refine ⟨fun h2 => bad (fun r => by rw [r.2] at h2; cases h2), fun h2 => ?_⟩
  have h2 : inR q 0 9999 = true := by simpa using h2
  have e : sMos σ.1 p q = (0, moU σ.1 p q.toNatClampNeg (2 ^ σ.1 4)) := if_pos ⟨h1, h2⟩
  rw [e] at hB
  obtain ⟨c, rfl, -, hc9⟩ := inR_N h2 (by omega) (by omega)
  rw [ixL (by omega)] at hB
  have p10 : 2 ^ σ.1 4 ≤ 1024 := by
    have : 2 ^ σ.1 4 ≤ 2 ^ 10 := Nat.pow_le_pow_right (by omega) hm
    omega
  have h43 : ∀ w s, s + w = 2 ^ σ.1 4 → ∀ al, (∀ z ∈ [(0, mM), (1, aI p), (2, aI (nI c)), (3, aI (nI (moU σ.1 p c s))), (4, aI (nI s))], lk al z.1 = some z.2) → V x (sA τ 30 (uI (τ.1 (30, 0, 0)) 0 (nI 0))) 0 43 al [] := by
    intro w
    induction w with
    | zero =>
      intro s hs al hal
      have hs : s = 2 ^ σ.1 4 := by omega
      subst hs
      refine V.sub ?_ hal
      refine V_run hB (rt := some .int) (nL := 9) (mc := 0) rfl rfl rfl obX11_mostMinutes_43 ?_
      dsimp only [bX11_mostMinutes_43, ↓wpb, ↓wp1, ↓vI, ↓vL, ↓vD, ↓ldI, ↓ldL, ↓ldD, ↓ldR, ↓k1, ↓k2, ↓kI, ↓kL, ↓kD, ↓kII, ↓kLL, ↓kDD, ↓kR, ↓kIR, ↓kLR, ↓kIIR, ↓kLIR, ↓kDIR, ↓kRIR, ↓kNN, ↓kE, ↓br, ↓bn, ↓rtI, ↓gfv, ↓zchk, lput, ldel, lbad, alA, acat, isRf, dom, dS, dJ, isO, aTy, aLen, elAV, elR, Nat.reduceBEq, Nat.reduceAdd, Bool.or, Bool.and, Nat.add_zero, Nat.zero_add]
      try simp only [Nat.reduceLT, Nat.reduceLeDiff, Nat.reduceEqDiff, true_and, and_true, and_self, Nat.zero_le, Nat.le_refl, true_or, or_true, Bool.false_eq_true, not_false_eq_true, Nat.reduceAdd, Nat.lt_add_one, Nat.zero_lt_one, nI_add, pk_mul, ixL, vpL, ne_eq, reduceIte, wI_sA, sA_same, sA_ne, sA_sA, sA_comm, uI_at, uN_at, enc_at, uI_enc, uI_uI, itn1, itn2, itn3, itn4, itc, itc0, itc1, upM_s, upM_n, hv, shl10 _ hm]
      refine ⟨fun _ => ?_, fun h => absurd (nI_le (by omega) (by omega)) h⟩
      refine V_run hB (rt := some .int) (nL := 9) (mc := 0) rfl rfl rfl obX11_mostMinutes_185 ?_
      dsimp only [bX11_mostMinutes_185, ↓wpb, ↓wp1, ↓vI, ↓vL, ↓vD, ↓ldI, ↓ldL, ↓ldD, ↓ldR, ↓k1, ↓k2, ↓kI, ↓kL, ↓kD, ↓kII, ↓kLL, ↓kDD, ↓kR, ↓kIR, ↓kLR, ↓kIIR, ↓kLIR, ↓kDIR, ↓kRIR, ↓kNN, ↓kE, ↓br, ↓bn, ↓rtI, ↓gfv, ↓zchk, lput, ldel, lbad, alA, acat, isRf, dom, dS, dJ, isO, aTy, aLen, elAV, elR, Nat.reduceBEq, Nat.reduceAdd, Bool.or, Bool.and, Nat.add_zero, Nat.zero_add]
      try simp only [Nat.reduceLT, Nat.reduceLeDiff, Nat.reduceEqDiff, true_and, and_true, and_self, Nat.zero_le, Nat.le_refl, true_or, or_true, Bool.false_eq_true, not_false_eq_true, Nat.reduceAdd, Nat.lt_add_one, Nat.zero_lt_one, nI_add, pk_mul, ixL, vpL, ne_eq, reduceIte, wI_sA, sA_same, sA_ne, sA_sA, sA_comm, uI_at, uN_at, enc_at, uI_enc, uI_uI, itn1, itn2, itn3, itn4, itc, itc0, itc1, upM_s, upM_n]
      exact Ans_t h
    | succ w ih =>
      intro s hs al hal
      refine V.sub ?_ hal
      have hs10 : s < 1024 := by omega
      have ih' := ih (s + 1) (by omega)
      have hmu : moU σ.1 p c (s + 1) = if okU σ.1 p s (σ.1 4) = true ∧ dbS σ.1 s (σ.1 4) ≤ c ∧ moU σ.1 p c s < mnS σ.1 s (σ.1 4) then mnS σ.1 s (σ.1 4) else moU σ.1 p c s := rfl
      have hmo := moU_le hI.min hm p c s
      have hmn := mnS_le hI.min s (σ.1 4) hm
      rw [hmu] at ih'
      have h68 : ∀ w2 k, k + w2 = σ.1 4 → ∀ x6 : Int32, (okU σ.1 p s k = true → x6 = nI (dbS σ.1 s k)) → ∀ al, (∀ z ∈ [(0, mM), (1, aI p), (2, aI (nI c)), (3, aI (nI (moU σ.1 p c s))), (4, aI (nI s)), (5, aI (nI (mnS σ.1 s k))), (6, aI x6), (7, aI (nI (bN (okU σ.1 p s k)))), (8, aI (nI k))], lk al z.1 = some z.2) → V x (sA τ 30 (uI (τ.1 (30, 0, 0)) 0 (nI 0))) 0 68 al [] := by
        intro w2
        induction w2 with
        | zero =>
          intro k hk x6 hx6 al hal
          have hk : k = σ.1 4 := by omega
          subst hk
          refine V.sub ?_ hal
          have h179 : ¬ (okU σ.1 p s (σ.1 4) = true ∧ dbS σ.1 s (σ.1 4) ≤ c ∧ moU σ.1 p c s < mnS σ.1 s (σ.1 4)) → ∀ al, (∀ z ∈ [(0, mM), (1, aI p), (2, aI (nI c)), (3, aI (nI (moU σ.1 p c s))), (4, aI (nI s))], lk al z.1 = some z.2) → V x (sA τ 30 (uI (τ.1 (30, 0, 0)) 0 (nI 0))) 0 179 al [] := by
            intro hq al hal
            refine V.sub ?_ hal
            rw [if_neg hq] at ih'
            refine V_run hB (rt := some .int) (nL := 9) (mc := 0) rfl rfl rfl obX11_mostMinutes_179 ?_
            dsimp only [bX11_mostMinutes_179, ↓wpb, ↓wp1, ↓vI, ↓vL, ↓vD, ↓ldI, ↓ldL, ↓ldD, ↓ldR, ↓k1, ↓k2, ↓kI, ↓kL, ↓kD, ↓kII, ↓kLL, ↓kDD, ↓kR, ↓kIR, ↓kLR, ↓kIIR, ↓kLIR, ↓kDIR, ↓kRIR, ↓kNN, ↓kE, ↓br, ↓bn, ↓rtI, ↓gfv, ↓zchk, lput, ldel, lbad, alA, acat, isRf, dom, dS, dJ, isO, aTy, aLen, elAV, elR, Nat.reduceBEq, Nat.reduceAdd, Bool.or, Bool.and, Nat.add_zero, Nat.zero_add]
            try simp only [Nat.reduceLT, Nat.reduceLeDiff, Nat.reduceEqDiff, true_and, and_true, and_self, Nat.zero_le, Nat.le_refl, true_or, or_true, Bool.false_eq_true, not_false_eq_true, Nat.reduceAdd, Nat.lt_add_one, Nat.zero_lt_one, nI_add, pk_mul, ixL, vpL, ne_eq, reduceIte, wI_sA, sA_same, sA_ne, sA_sA, sA_comm, uI_at, uN_at, enc_at, uI_enc, uI_uI, itn1, itn2, itn3, itn4, itc, itc0, itc1, upM_s, upM_n]
            exact ih' _ (List.forall_mem_cons.mpr ⟨rfl, List.forall_mem_cons.mpr ⟨rfl, List.forall_mem_cons.mpr ⟨rfl, List.forall_mem_cons.mpr ⟨rfl, List.forall_mem_cons.mpr ⟨rfl, fun _ h => absurd h List.not_mem_nil⟩⟩⟩⟩⟩)
          refine V_run hB (rt := some .int) (nL := 9) (mc := 0) rfl rfl rfl obX11_mostMinutes_68 ?_
          dsimp only [bX11_mostMinutes_68, ↓wpb, ↓wp1, ↓vI, ↓vL, ↓vD, ↓ldI, ↓ldL, ↓ldD, ↓ldR, ↓k1, ↓k2, ↓kI, ↓kL, ↓kD, ↓kII, ↓kLL, ↓kDD, ↓kR, ↓kIR, ↓kLR, ↓kIIR, ↓kLIR, ↓kDIR, ↓kRIR, ↓kNN, ↓kE, ↓br, ↓bn, ↓rtI, ↓gfv, ↓zchk, lput, ldel, lbad, alA, acat, isRf, dom, dS, dJ, isO, aTy, aLen, elAV, elR, Nat.reduceBEq, Nat.reduceAdd, Bool.or, Bool.and, Nat.add_zero, Nat.zero_add]
          try simp only [Nat.reduceLT, Nat.reduceLeDiff, Nat.reduceEqDiff, true_and, and_true, and_self, Nat.zero_le, Nat.le_refl, true_or, or_true, Bool.false_eq_true, not_false_eq_true, Nat.reduceAdd, Nat.lt_add_one, Nat.zero_lt_one, nI_add, pk_mul, ixL, vpL, ne_eq, reduceIte, wI_sA, sA_same, sA_ne, sA_sA, sA_comm, uI_at, uN_at, enc_at, uI_enc, uI_uI, itn1, itn2, itn3, itn4, itc, itc0, itc1, upM_s, upM_n, hv]
          refine ⟨fun _ => ?_, fun h => absurd (nI_le (by omega) (by omega)) h⟩
          refine V_run hB (rt := some .int) (nL := 9) (mc := 0) rfl rfl rfl obX11_mostMinutes_159 ?_
          dsimp only [bX11_mostMinutes_159, ↓wpb, ↓wp1, ↓vI, ↓vL, ↓vD, ↓ldI, ↓ldL, ↓ldD, ↓ldR, ↓k1, ↓k2, ↓kI, ↓kL, ↓kD, ↓kII, ↓kLL, ↓kDD, ↓kR, ↓kIR, ↓kLR, ↓kIIR, ↓kLIR, ↓kDIR, ↓kRIR, ↓kNN, ↓kE, ↓br, ↓bn, ↓rtI, ↓gfv, ↓zchk, lput, ldel, lbad, alA, acat, isRf, dom, dS, dJ, isO, aTy, aLen, elAV, elR, Nat.reduceBEq, Nat.reduceAdd, Bool.or, Bool.and, Nat.add_zero, Nat.zero_add]
          try simp only [Nat.reduceLT, Nat.reduceLeDiff, Nat.reduceEqDiff, true_and, and_true, and_self, Nat.zero_le, Nat.le_refl, true_or, or_true, Bool.false_eq_true, not_false_eq_true, Nat.reduceAdd, Nat.lt_add_one, Nat.zero_lt_one, nI_add, pk_mul, ixL, vpL, ne_eq, reduceIte, wI_sA, sA_same, sA_ne, sA_sA, sA_comm, uI_at, uN_at, enc_at, uI_enc, uI_uI, itn1, itn2, itn3, itn4, itc, itc0, itc1, upM_s, upM_n, bN_0]
          refine ⟨fun hq => h179 (fun r => by rw [hq] at r; cases r.1) _ (List.forall_mem_cons.mpr ⟨rfl, List.forall_mem_cons.mpr ⟨rfl, List.forall_mem_cons.mpr ⟨rfl, List.forall_mem_cons.mpr ⟨rfl, List.forall_mem_cons.mpr ⟨rfl, fun _ h => absurd h List.not_mem_nil⟩⟩⟩⟩⟩), fun hq => ?_⟩
          have hq : okU σ.1 p s (σ.1 4) = true := by simpa using hq
          have hdb := dbS_le hI p s (σ.1 4) (Nat.le_refl _) hq
          rw [hx6 hq]
          refine ⟨fun hr => ?_, fun hr => ⟨fun hu => ?_, fun hu => ?_⟩⟩
          · have hr := (nI_ltI (by omega) (by omega)).mp hr
            exact h179 (fun r => by omega) _ (List.forall_mem_cons.mpr ⟨rfl, List.forall_mem_cons.mpr ⟨rfl, List.forall_mem_cons.mpr ⟨rfl, List.forall_mem_cons.mpr ⟨rfl, List.forall_mem_cons.mpr ⟨rfl, fun _ h => absurd h List.not_mem_nil⟩⟩⟩⟩⟩)
          · have hu := (nI_leI (by omega) (by omega)).mp hu
            exact h179 (fun r => by omega) _ (List.forall_mem_cons.mpr ⟨rfl, List.forall_mem_cons.mpr ⟨rfl, List.forall_mem_cons.mpr ⟨rfl, List.forall_mem_cons.mpr ⟨rfl, List.forall_mem_cons.mpr ⟨rfl, fun _ h => absurd h List.not_mem_nil⟩⟩⟩⟩⟩)
          · have hr : dbS σ.1 s (σ.1 4) ≤ c := by
              rcases Nat.lt_or_ge c (dbS σ.1 s (σ.1 4)) with q | q
              · exact absurd ((nI_ltI (by omega) (by omega)).mpr q) hr
              · exact q
            have hu : moU σ.1 p c s < mnS σ.1 s (σ.1 4) := by
              rcases Nat.lt_or_ge (moU σ.1 p c s) (mnS σ.1 s (σ.1 4)) with q | q
              · exact q
              · exact absurd ((nI_leI (by omega) (by omega)).mpr q) hu
            rw [if_pos ⟨hq, hr, hu⟩] at ih'
            exact ih' _ (List.forall_mem_cons.mpr ⟨rfl, List.forall_mem_cons.mpr ⟨rfl, List.forall_mem_cons.mpr ⟨rfl, List.forall_mem_cons.mpr ⟨rfl, List.forall_mem_cons.mpr ⟨rfl, fun _ h => absurd h List.not_mem_nil⟩⟩⟩⟩⟩)
        | succ w2 ih2 =>
          intro k hk x6 hx6 al hal
          refine V.sub ?_ hal
          have hk10 : k < 10 := by omega
          have hok : okU σ.1 p s (k + 1) = (okU σ.1 p s k && (!s.testBit k || (!isLot σ.1 k && decide (nI (it σ.1 k 2) = p)))) := rfl
          have hmk : mnS σ.1 s (k + 1) = mnS σ.1 s k + (if s.testBit k then it σ.1 k 3 else 0) := rfl
          have hdk : dbS σ.1 s (k + 1) = dbS σ.1 s k + (if s.testBit k then debt σ.1 k else 0) := rfl
          have ih2' := ih2 (k + 1) (by omega)
          rw [hok, hmk, hdk] at ih2'
          refine V_run hB (rt := some .int) (nL := 9) (mc := 0) rfl rfl rfl obX11_mostMinutes_68 ?_
          dsimp only [bX11_mostMinutes_68, ↓wpb, ↓wp1, ↓vI, ↓vL, ↓vD, ↓ldI, ↓ldL, ↓ldD, ↓ldR, ↓k1, ↓k2, ↓kI, ↓kL, ↓kD, ↓kII, ↓kLL, ↓kDD, ↓kR, ↓kIR, ↓kLR, ↓kIIR, ↓kLIR, ↓kDIR, ↓kRIR, ↓kNN, ↓kE, ↓br, ↓bn, ↓rtI, ↓gfv, ↓zchk, lput, ldel, lbad, alA, acat, isRf, dom, dS, dJ, isO, aTy, aLen, elAV, elR, Nat.reduceBEq, Nat.reduceAdd, Bool.or, Bool.and, Nat.add_zero, Nat.zero_add]
          try simp only [Nat.reduceLT, Nat.reduceLeDiff, Nat.reduceEqDiff, true_and, and_true, and_self, Nat.zero_le, Nat.le_refl, true_or, or_true, Bool.false_eq_true, not_false_eq_true, Nat.reduceAdd, Nat.lt_add_one, Nat.zero_lt_one, nI_add, pk_mul, ixL, vpL, ne_eq, reduceIte, wI_sA, sA_same, sA_ne, sA_sA, sA_comm, uI_at, uN_at, enc_at, uI_enc, uI_uI, itn1, itn2, itn3, itn4, itc, itc0, itc1, upM_s, upM_n, hv, bit10 k hk10 s hs10, bN_0]
          refine ⟨fun h => absurd h (nI_ge (by omega) (by omega)), fun _ => ⟨fun hb => ?_, fun hb => ?_⟩⟩
          · have hb : s.testBit k = true := by simpa using hb
            rw [hb] at ih2'
            have h135 : ∀ t : Bool, (t = (!isLot σ.1 k && decide (nI (it σ.1 k 2) = p))) → V x (sA τ 30 (uI (τ.1 (30, 0, 0)) 0 (nI 0))) 0 135 [(0, mM), (1, aI p), (2, aI (nI c)), (3, aI (nI (moU σ.1 p c s))), (4, aI (nI s)), (5, aI (nI (mnS σ.1 s k))), (6, aI x6), (7, aI (nI (bN (okU σ.1 p s k && t)))), (8, aI (nI k))] [aI (nI 3), aI (nI k), .inr (31, 0, 0), aI (nI (mnS σ.1 s k))] := by
              intro t ht
              refine V_cS hB hno (q_ofN hc _ _ _) rfl (by decide +kernel) csX11_60 npX11_of ⟨by decide, by decide⟩ (Nat.le_of_ble_eq_true rfl) (n' := 0) (by decide) rfl ?_
              refine V_run hB (rt := some .int) (nL := 9) (mc := 0) rfl rfl rfl obX11_mostMinutes_138 ?_
              dsimp only [bX11_mostMinutes_138, ↓wpb, ↓wp1, ↓vI, ↓vL, ↓vD, ↓ldI, ↓ldL, ↓ldD, ↓ldR, ↓k1, ↓k2, ↓kI, ↓kL, ↓kD, ↓kII, ↓kLL, ↓kDD, ↓kR, ↓kIR, ↓kLR, ↓kIIR, ↓kLIR, ↓kDIR, ↓kRIR, ↓kNN, ↓kE, ↓br, ↓bn, ↓rtI, ↓gfv, ↓zchk, lput, ldel, lbad, alA, acat, isRf, dom, dS, dJ, isO, aTy, aLen, elAV, elR, Nat.reduceBEq, Nat.reduceAdd, Bool.or, Bool.and, Nat.add_zero, Nat.zero_add]
              try simp only [Nat.reduceLT, Nat.reduceLeDiff, Nat.reduceEqDiff, true_and, and_true, and_self, Nat.zero_le, Nat.le_refl, true_or, or_true, Bool.false_eq_true, not_false_eq_true, Nat.reduceAdd, Nat.lt_add_one, Nat.zero_lt_one, nI_add, pk_mul, ixL, vpL, ne_eq, reduceIte, wI_sA, sA_same, sA_ne, sA_sA, sA_comm, uI_at, uN_at, enc_at, uI_enc, uI_uI, itn1, itn2, itn3, itn4, itc, itc0, itc1, upM_s, upM_n, hv, ixI (c := 3) hk10 (by omega), vpI (c := 3) hk10 (by omega)]
              refine V_callV hB hno (q_debtY hc hS0 hI hn (show k < σ.1 4 by omega)) rfl (by decide +kernel) cvX11_92 (dom1 rfl) npX11_debt ⟨by decide, by decide⟩ (Nat.le_of_ble_eq_true rfl) (by decide) ?_ ?_
              rotate_left
              · intro E τ' hq; obtain ⟨y, e1, -⟩ := hq; cases e1
              intro v τ' hq
              obtain ⟨y, e1, rfl, hy⟩ := hq
              cases e1
              show V x _ 0 150 _ _
              refine V_run hB (rt := some .int) (nL := 9) (mc := 0) rfl rfl rfl obX11_mostMinutes_150 ?_
              dsimp only [bX11_mostMinutes_150, ↓wpb, ↓wp1, ↓vI, ↓vL, ↓vD, ↓ldI, ↓ldL, ↓ldD, ↓ldR, ↓k1, ↓k2, ↓kI, ↓kL, ↓kD, ↓kII, ↓kLL, ↓kDD, ↓kR, ↓kIR, ↓kLR, ↓kIIR, ↓kLIR, ↓kDIR, ↓kRIR, ↓kNN, ↓kE, ↓br, ↓bn, ↓rtI, ↓gfv, ↓zchk, lput, ldel, lbad, alA, acat, isRf, dom, dS, dJ, isO, aTy, aLen, elAV, elR, Nat.reduceBEq, Nat.reduceAdd, Bool.or, Bool.and, Nat.add_zero, Nat.zero_add]
              try simp only [Nat.reduceLT, Nat.reduceLeDiff, Nat.reduceEqDiff, true_and, and_true, and_self, Nat.zero_le, Nat.le_refl, true_or, or_true, Bool.false_eq_true, not_false_eq_true, Nat.reduceAdd, Nat.lt_add_one, Nat.zero_lt_one, nI_add, pk_mul, ixL, vpL, ne_eq, reduceIte, wI_sA, sA_same, sA_ne, sA_sA, sA_comm, uI_at, uN_at, enc_at, uI_enc, uI_uI, itn1, itn2, itn3, itn4, itc, itc0, itc1, upM_s, upM_n]
              refine ih2' (x6 + y) (fun hok2 => ?_) _ ?_
              · rw [Bool.not_true, Bool.false_or, Bool.and_eq_true, Bool.and_eq_true] at hok2
                rw [hx6 hok2.1, hy (by simpa using hok2.2.1)]
                exact nI_add _ _
              · rw [Bool.not_true, Bool.false_or, ← ht]
                exact (List.forall_mem_cons.mpr ⟨rfl, List.forall_mem_cons.mpr ⟨rfl, List.forall_mem_cons.mpr ⟨rfl, List.forall_mem_cons.mpr ⟨rfl, List.forall_mem_cons.mpr ⟨rfl, List.forall_mem_cons.mpr ⟨rfl, List.forall_mem_cons.mpr ⟨rfl, List.forall_mem_cons.mpr ⟨rfl, List.forall_mem_cons.mpr ⟨rfl, fun _ h => absurd h List.not_mem_nil⟩⟩⟩⟩⟩⟩⟩⟩⟩)
            refine V_run hB (rt := some .int) (nL := 9) (mc := 0) rfl rfl rfl obX11_mostMinutes_92 ?_
            dsimp only [bX11_mostMinutes_92, ↓wpb, ↓wp1, ↓vI, ↓vL, ↓vD, ↓ldI, ↓ldL, ↓ldD, ↓ldR, ↓k1, ↓k2, ↓kI, ↓kL, ↓kD, ↓kII, ↓kLL, ↓kDD, ↓kR, ↓kIR, ↓kLR, ↓kIIR, ↓kLIR, ↓kDIR, ↓kRIR, ↓kNN, ↓kE, ↓br, ↓bn, ↓rtI, ↓gfv, ↓zchk, lput, ldel, lbad, alA, acat, isRf, dom, dS, dJ, isO, aTy, aLen, elAV, elR, Nat.reduceBEq, Nat.reduceAdd, Bool.or, Bool.and, Nat.add_zero, Nat.zero_add]
            try simp only [Nat.reduceLT, Nat.reduceLeDiff, Nat.reduceEqDiff, true_and, and_true, and_self, Nat.zero_le, Nat.le_refl, true_or, or_true, Bool.false_eq_true, not_false_eq_true, Nat.reduceAdd, Nat.lt_add_one, Nat.zero_lt_one, nI_add, pk_mul, ixL, vpL, ne_eq, reduceIte, wI_sA, sA_same, sA_ne, sA_sA, sA_comm, uI_at, uN_at, enc_at, uI_enc, uI_uI, itn1, itn2, itn3, itn4, itc, itc0, itc1, upM_s, upM_n]
            refine V_cV hB hno (q_isLot hc hS0 hk10) rfl (by decide +kernel) cvX11_68 (dom1 rfl) npX11_isLot ⟨by decide, by decide⟩ (Nat.le_of_ble_eq_true rfl) (n' := 0) (by decide) rfl ?_
            refine V_run hB (rt := some .int) (nL := 9) (mc := 0) rfl rfl rfl obX11_mostMinutes_100 ?_
            dsimp only [bX11_mostMinutes_100, ↓wpb, ↓wp1, ↓vI, ↓vL, ↓vD, ↓ldI, ↓ldL, ↓ldD, ↓ldR, ↓k1, ↓k2, ↓kI, ↓kL, ↓kD, ↓kII, ↓kLL, ↓kDD, ↓kR, ↓kIR, ↓kLR, ↓kIIR, ↓kLIR, ↓kDIR, ↓kRIR, ↓kNN, ↓kE, ↓br, ↓bn, ↓rtI, ↓gfv, ↓zchk, lput, ldel, lbad, alA, acat, isRf, dom, dS, dJ, isO, aTy, aLen, elAV, elR, Nat.reduceBEq, Nat.reduceAdd, Bool.or, Bool.and, Nat.add_zero, Nat.zero_add]
            try simp only [Nat.reduceLT, Nat.reduceLeDiff, Nat.reduceEqDiff, true_and, and_true, and_self, Nat.zero_le, Nat.le_refl, true_or, or_true, Bool.false_eq_true, not_false_eq_true, Nat.reduceAdd, Nat.lt_add_one, Nat.zero_lt_one, nI_add, pk_mul, ixL, vpL, ne_eq, reduceIte, wI_sA, sA_same, sA_ne, sA_sA, sA_comm, uI_at, uN_at, enc_at, uI_enc, uI_uI, itn1, itn2, itn3, itn4, itc, itc0, itc1, upM_s, upM_n, bN_0]
            refine ⟨fun hl => ?_, fun hl => ?_⟩
            · have hl : isLot σ.1 k = true := by simpa using hl
              refine V_run hB (rt := some .int) (nL := 9) (mc := 0) rfl rfl rfl obX11_mostMinutes_122 ?_
              dsimp only [bX11_mostMinutes_122, ↓wpb, ↓wp1, ↓vI, ↓vL, ↓vD, ↓ldI, ↓ldL, ↓ldD, ↓ldR, ↓k1, ↓k2, ↓kI, ↓kL, ↓kD, ↓kII, ↓kLL, ↓kDD, ↓kR, ↓kIR, ↓kLR, ↓kIIR, ↓kLIR, ↓kDIR, ↓kRIR, ↓kNN, ↓kE, ↓br, ↓bn, ↓rtI, ↓gfv, ↓zchk, lput, ldel, lbad, alA, acat, isRf, dom, dS, dJ, isO, aTy, aLen, elAV, elR, Nat.reduceBEq, Nat.reduceAdd, Bool.or, Bool.and, Nat.add_zero, Nat.zero_add]
              try simp only [Nat.reduceLT, Nat.reduceLeDiff, Nat.reduceEqDiff, true_and, and_true, and_self, Nat.zero_le, Nat.le_refl, true_or, or_true, Bool.false_eq_true, not_false_eq_true, Nat.reduceAdd, Nat.lt_add_one, Nat.zero_lt_one, nI_add, pk_mul, ixL, vpL, ne_eq, reduceIte, wI_sA, sA_same, sA_ne, sA_sA, sA_comm, uI_at, uN_at, enc_at, uI_enc, uI_uI, itn1, itn2, itn3, itn4, itc, itc0, itc1, upM_s, upM_n]
              rw [show nI (bN (okU σ.1 p s k)) &&& nI 0 = nI (bN (okU σ.1 p s k && false)) from bN_and _ false]
              exact h135 false (by rw [hl]; rfl)
            · refine V_cS hB hno (q_ofN hc _ _ _) rfl (by decide +kernel) csX11_60 npX11_of ⟨by decide, by decide⟩ (Nat.le_of_ble_eq_true rfl) (n' := 0) (by decide) rfl ?_
              refine V_run hB (rt := some .int) (nL := 9) (mc := 0) rfl rfl rfl obX11_mostMinutes_113 ?_
              dsimp only [bX11_mostMinutes_113, ↓wpb, ↓wp1, ↓vI, ↓vL, ↓vD, ↓ldI, ↓ldL, ↓ldD, ↓ldR, ↓k1, ↓k2, ↓kI, ↓kL, ↓kD, ↓kII, ↓kLL, ↓kDD, ↓kR, ↓kIR, ↓kLR, ↓kIIR, ↓kLIR, ↓kDIR, ↓kRIR, ↓kNN, ↓kE, ↓br, ↓bn, ↓rtI, ↓gfv, ↓zchk, lput, ldel, lbad, alA, acat, isRf, dom, dS, dJ, isO, aTy, aLen, elAV, elR, Nat.reduceBEq, Nat.reduceAdd, Bool.or, Bool.and, Nat.add_zero, Nat.zero_add]
              try simp only [Nat.reduceLT, Nat.reduceLeDiff, Nat.reduceEqDiff, true_and, and_true, and_self, Nat.zero_le, Nat.le_refl, true_or, or_true, Bool.false_eq_true, not_false_eq_true, Nat.reduceAdd, Nat.lt_add_one, Nat.zero_lt_one, nI_add, pk_mul, ixL, vpL, ne_eq, reduceIte, wI_sA, sA_same, sA_ne, sA_sA, sA_comm, uI_at, uN_at, enc_at, uI_enc, uI_uI, itn1, itn2, itn3, itn4, itc, itc0, itc1, upM_s, upM_n, hv, ixI (c := 2) hk10 (by omega), vpI (c := 2) hk10 (by omega)]
              refine ⟨fun hne => ?_, fun he => ?_⟩
              · refine V_run hB (rt := some .int) (nL := 9) (mc := 0) rfl rfl rfl obX11_mostMinutes_122 ?_
                dsimp only [bX11_mostMinutes_122, ↓wpb, ↓wp1, ↓vI, ↓vL, ↓vD, ↓ldI, ↓ldL, ↓ldD, ↓ldR, ↓k1, ↓k2, ↓kI, ↓kL, ↓kD, ↓kII, ↓kLL, ↓kDD, ↓kR, ↓kIR, ↓kLR, ↓kIIR, ↓kLIR, ↓kDIR, ↓kRIR, ↓kNN, ↓kE, ↓br, ↓bn, ↓rtI, ↓gfv, ↓zchk, lput, ldel, lbad, alA, acat, isRf, dom, dS, dJ, isO, aTy, aLen, elAV, elR, Nat.reduceBEq, Nat.reduceAdd, Bool.or, Bool.and, Nat.add_zero, Nat.zero_add]
                try simp only [Nat.reduceLT, Nat.reduceLeDiff, Nat.reduceEqDiff, true_and, and_true, and_self, Nat.zero_le, Nat.le_refl, true_or, or_true, Bool.false_eq_true, not_false_eq_true, Nat.reduceAdd, Nat.lt_add_one, Nat.zero_lt_one, nI_add, pk_mul, ixL, vpL, ne_eq, reduceIte, wI_sA, sA_same, sA_ne, sA_sA, sA_comm, uI_at, uN_at, enc_at, uI_enc, uI_uI, itn1, itn2, itn3, itn4, itc, itc0, itc1, upM_s, upM_n]
                rw [show nI (bN (okU σ.1 p s k)) &&& nI 0 = nI (bN (okU σ.1 p s k && false)) from bN_and _ false]
                exact h135 false (by rw [hl, show decide (nI (it σ.1 k 2) = p) = false from decide_eq_false hne]; rfl)
              · refine V_run hB (rt := some .int) (nL := 9) (mc := 0) rfl rfl rfl obX11_mostMinutes_123 ?_
                dsimp only [bX11_mostMinutes_123, ↓wpb, ↓wp1, ↓vI, ↓vL, ↓vD, ↓ldI, ↓ldL, ↓ldD, ↓ldR, ↓k1, ↓k2, ↓kI, ↓kL, ↓kD, ↓kII, ↓kLL, ↓kDD, ↓kR, ↓kIR, ↓kLR, ↓kIIR, ↓kLIR, ↓kDIR, ↓kRIR, ↓kNN, ↓kE, ↓br, ↓bn, ↓rtI, ↓gfv, ↓zchk, lput, ldel, lbad, alA, acat, isRf, dom, dS, dJ, isO, aTy, aLen, elAV, elR, Nat.reduceBEq, Nat.reduceAdd, Bool.or, Bool.and, Nat.add_zero, Nat.zero_add]
                try simp only [Nat.reduceLT, Nat.reduceLeDiff, Nat.reduceEqDiff, true_and, and_true, and_self, Nat.zero_le, Nat.le_refl, true_or, or_true, Bool.false_eq_true, not_false_eq_true, Nat.reduceAdd, Nat.lt_add_one, Nat.zero_lt_one, nI_add, pk_mul, ixL, vpL, ne_eq, reduceIte, wI_sA, sA_same, sA_ne, sA_sA, sA_comm, uI_at, uN_at, enc_at, uI_enc, uI_uI, itn1, itn2, itn3, itn4, itc, itc0, itc1, upM_s, upM_n]
                rw [show nI (bN (okU σ.1 p s k)) &&& nI 1 = nI (bN (okU σ.1 p s k && true)) from bN_and _ true]
                exact h135 true (by rw [hl, show decide (nI (it σ.1 k 2) = p) = true from decide_eq_true he]; rfl)
          · rw [hb] at ih2'
            refine V_run hB (rt := some .int) (nL := 9) (mc := 0) rfl rfl rfl obX11_mostMinutes_153 ?_
            dsimp only [bX11_mostMinutes_153, ↓wpb, ↓wp1, ↓vI, ↓vL, ↓vD, ↓ldI, ↓ldL, ↓ldD, ↓ldR, ↓k1, ↓k2, ↓kI, ↓kL, ↓kD, ↓kII, ↓kLL, ↓kDD, ↓kR, ↓kIR, ↓kLR, ↓kIIR, ↓kLIR, ↓kDIR, ↓kRIR, ↓kNN, ↓kE, ↓br, ↓bn, ↓rtI, ↓gfv, ↓zchk, lput, ldel, lbad, alA, acat, isRf, dom, dS, dJ, isO, aTy, aLen, elAV, elR, Nat.reduceBEq, Nat.reduceAdd, Bool.or, Bool.and, Nat.add_zero, Nat.zero_add]
            try simp only [Nat.reduceLT, Nat.reduceLeDiff, Nat.reduceEqDiff, true_and, and_true, and_self, Nat.zero_le, Nat.le_refl, true_or, or_true, Bool.false_eq_true, not_false_eq_true, Nat.reduceAdd, Nat.lt_add_one, Nat.zero_lt_one, nI_add, pk_mul, ixL, vpL, ne_eq, reduceIte, wI_sA, sA_same, sA_ne, sA_sA, sA_comm, uI_at, uN_at, enc_at, uI_enc, uI_uI, itn1, itn2, itn3, itn4, itc, itc0, itc1, upM_s, upM_n]
            refine ih2' x6 (fun hok2 => ?_) _ ?_
            · rw [Bool.and_eq_true] at hok2
              exact hx6 hok2.1
            · rw [Bool.not_false, Bool.true_or, Bool.and_true]
              exact (List.forall_mem_cons.mpr ⟨rfl, List.forall_mem_cons.mpr ⟨rfl, List.forall_mem_cons.mpr ⟨rfl, List.forall_mem_cons.mpr ⟨rfl, List.forall_mem_cons.mpr ⟨rfl, List.forall_mem_cons.mpr ⟨rfl, List.forall_mem_cons.mpr ⟨rfl, List.forall_mem_cons.mpr ⟨rfl, List.forall_mem_cons.mpr ⟨rfl, fun _ h => absurd h List.not_mem_nil⟩⟩⟩⟩⟩⟩⟩⟩⟩)
      refine V_run hB (rt := some .int) (nL := 9) (mc := 0) rfl rfl rfl obX11_mostMinutes_43 ?_
      dsimp only [bX11_mostMinutes_43, ↓wpb, ↓wp1, ↓vI, ↓vL, ↓vD, ↓ldI, ↓ldL, ↓ldD, ↓ldR, ↓k1, ↓k2, ↓kI, ↓kL, ↓kD, ↓kII, ↓kLL, ↓kDD, ↓kR, ↓kIR, ↓kLR, ↓kIIR, ↓kLIR, ↓kDIR, ↓kRIR, ↓kNN, ↓kE, ↓br, ↓bn, ↓rtI, ↓gfv, ↓zchk, lput, ldel, lbad, alA, acat, isRf, dom, dS, dJ, isO, aTy, aLen, elAV, elR, Nat.reduceBEq, Nat.reduceAdd, Bool.or, Bool.and, Nat.add_zero, Nat.zero_add]
      try simp only [Nat.reduceLT, Nat.reduceLeDiff, Nat.reduceEqDiff, true_and, and_true, and_self, Nat.zero_le, Nat.le_refl, true_or, or_true, Bool.false_eq_true, not_false_eq_true, Nat.reduceAdd, Nat.lt_add_one, Nat.zero_lt_one, nI_add, pk_mul, ixL, vpL, ne_eq, reduceIte, wI_sA, sA_same, sA_ne, sA_sA, sA_comm, uI_at, uN_at, enc_at, uI_enc, uI_uI, itn1, itn2, itn3, itn4, itc, itc0, itc1, upM_s, upM_n, hv, shl10 _ hm]
      refine ⟨fun h => absurd h (nI_ge (by omega) (by omega)), fun _ => ?_⟩
      exact h68 (σ.1 4) 0 (by omega) (nI 0) (fun _ => rfl) _ (List.forall_mem_cons.mpr ⟨rfl, List.forall_mem_cons.mpr ⟨rfl, List.forall_mem_cons.mpr ⟨rfl, List.forall_mem_cons.mpr ⟨rfl, List.forall_mem_cons.mpr ⟨rfl, List.forall_mem_cons.mpr ⟨rfl, List.forall_mem_cons.mpr ⟨rfl, List.forall_mem_cons.mpr ⟨rfl, List.forall_mem_cons.mpr ⟨rfl, fun _ h => absurd h List.not_mem_nil⟩⟩⟩⟩⟩⟩⟩⟩⟩)
  refine V_run hB (rt := some .int) (nL := 9) (mc := 0) rfl rfl rfl obX11_mostMinutes_26 ?_
  dsimp only [bX11_mostMinutes_26, ↓wpb, ↓wp1, ↓vI, ↓vL, ↓vD, ↓ldI, ↓ldL, ↓ldD, ↓ldR, ↓k1, ↓k2, ↓kI, ↓kL, ↓kD, ↓kII, ↓kLL, ↓kDD, ↓kR, ↓kIR, ↓kLR, ↓kIIR, ↓kLIR, ↓kDIR, ↓kRIR, ↓kNN, ↓kE, ↓br, ↓bn, ↓rtI, ↓gfv, ↓zchk, lput, ldel, lbad, alA, acat, isRf, dom, dS, dJ, isO, aTy, aLen, elAV, elR, Nat.reduceBEq, Nat.reduceAdd, Bool.or, Bool.and, Nat.add_zero, Nat.zero_add]
  try simp only [Nat.reduceLT, Nat.reduceLeDiff, Nat.reduceEqDiff, true_and, and_true, and_self, Nat.zero_le, Nat.le_refl, true_or, or_true, Bool.false_eq_true, not_false_eq_true, Nat.reduceAdd, Nat.lt_add_one, Nat.zero_lt_one, nI_add, pk_mul, ixL, vpL, ne_eq, reduceIte, wI_sA, sA_same, sA_ne, sA_sA, sA_comm, uI_at, uN_at, enc_at, uI_enc, uI_uI, itn1, itn2, itn3, itn4, itc, itc0, itc1, upM_s, upM_n]
  refine ⟨fun _ => ?_, fun h => absurd rfl h⟩
  refine V_run hB (rt := some .int) (nL := 9) (mc := 0) rfl rfl rfl obX11_mostMinutes_38 ?_
  dsimp only [bX11_mostMinutes_38, ↓wpb, ↓wp1, ↓vI, ↓vL, ↓vD, ↓ldI, ↓ldL, ↓ldD, ↓ldR, ↓k1, ↓k2, ↓kI, ↓kL, ↓kD, ↓kII, ↓kLL, ↓kDD, ↓kR, ↓kIR, ↓kLR, ↓kIIR, ↓kLIR, ↓kDIR, ↓kRIR, ↓kNN, ↓kE, ↓br, ↓bn, ↓rtI, ↓gfv, ↓zchk, lput, ldel, lbad, alA, acat, isRf, dom, dS, dJ, isO, aTy, aLen, elAV, elR, Nat.reduceBEq, Nat.reduceAdd, Bool.or, Bool.and, Nat.add_zero, Nat.zero_add]
  try simp only [Nat.reduceLT, Nat.reduceLeDiff, Nat.reduceEqDiff, true_and, and_true, and_self, Nat.zero_le, Nat.le_refl, true_or, or_true, Bool.false_eq_true, not_false_eq_true, Nat.reduceAdd, Nat.lt_add_one, Nat.zero_lt_one, nI_add, pk_mul, ixL, vpL, ne_eq, reduceIte, wI_sA, sA_same, sA_ne, sA_sA, sA_comm, uI_at, uN_at, enc_at, uI_enc, uI_uI, itn1, itn2, itn3, itn4, itc, itc0, itc1, upM_s, upM_n]
  exact h43 (2 ^ σ.1 4) 0 (by omega) _ (List.forall_mem_cons.mpr ⟨rfl, List.forall_mem_cons.mpr ⟨rfl, List.forall_mem_cons.mpr ⟨rfl, List.forall_mem_cons.mpr ⟨rfl, List.forall_mem_cons.mpr ⟨rfl, fun _ h => absurd h List.not_mem_nil⟩⟩⟩⟩⟩)
theorem q_mostMinutesByTable (hc : Ctx l G) (h : MW τ c0 σ) (hI : IV n σ.1) (hn : n ≤ 1000) (p q : Int32) : Sat l G iX11_mostMinutesByTable [mM, aI p, aI q] τ (AnR τ σ (sMos σ.1 p q)) := by
  refine Sat_of hc.1 hc.2 (by decide +kernel) (Nat.le_of_ble_eq_true rfl) (fun x hB hno => ?_)
  refine V_run hB (rt := some .int) (nL := 3) (mc := 0) rfl rfl rfl obX11_mostMinutesByTable_0 ?_
  dsimp only [bX11_mostMinutesByTable_0, ↓wpb, ↓wp1, ↓vI, ↓vL, ↓vD, ↓ldI, ↓ldL, ↓ldD, ↓ldR, ↓k1, ↓k2, ↓kI, ↓kL, ↓kD, ↓kII, ↓kLL, ↓kDD, ↓kR, ↓kIR, ↓kLR, ↓kIIR, ↓kLIR, ↓kDIR, ↓kRIR, ↓kNN, ↓kE, ↓br, ↓bn, ↓rtI, ↓gfv, ↓zchk, lput, ldel, lbad, alA, acat, isRf, dom, dS, dJ, isO, aTy, aLen, elAV, elR, Nat.reduceBEq, Nat.reduceAdd, Bool.or, Bool.and, Nat.add_zero, Nat.zero_add]
  try simp only [Nat.reduceLT, Nat.reduceLeDiff, Nat.reduceEqDiff, true_and, and_true, and_self, Nat.zero_le, Nat.le_refl, true_or, or_true, Bool.false_eq_true, not_false_eq_true, Nat.reduceAdd, Nat.lt_add_one, Nat.zero_lt_one, nI_add, pk_mul, ixL, vpL, ne_eq, reduceIte, wI_sA, sA_same, sA_ne, sA_sA, sA_comm, uI_at, uN_at, enc_at, uI_enc, uI_uI, itn1, itn2, itn3, itn4, itc, itc0, itc1, upM_s, upM_n]
  refine V_callV hB hno (q_mostMinutes hc h hI hn p q) rfl (by decide +kernel) cvX11_134 (dom1 rfl) npX11_mostMinutes ⟨by decide, by decide⟩ (Nat.le_of_ble_eq_true rfl) (by decide) ?_ ?_
  · intro v τ' hq
    obtain ⟨e1, h1, h2⟩ := hq
    cases e1
    refine V_run hB (rt := some .int) (nL := 3) (mc := 0) rfl rfl rfl obX11_mostMinutesByTable_6 ?_
    dsimp only [bX11_mostMinutesByTable_6, ↓wpb, ↓wp1, ↓vI, ↓vL, ↓vD, ↓ldI, ↓ldL, ↓ldD, ↓ldR, ↓k1, ↓k2, ↓kI, ↓kL, ↓kD, ↓kII, ↓kLL, ↓kDD, ↓kR, ↓kIR, ↓kLR, ↓kIIR, ↓kLIR, ↓kDIR, ↓kRIR, ↓kNN, ↓kE, ↓br, ↓bn, ↓rtI, ↓gfv, ↓zchk, lput, ldel, lbad, alA, acat, isRf, dom, dS, dJ, isO, aTy, aLen, elAV, elR, Nat.reduceBEq, Nat.reduceAdd, Bool.or, Bool.and, Nat.add_zero, Nat.zero_add]
    try simp only [Nat.reduceLT, Nat.reduceLeDiff, Nat.reduceEqDiff, true_and, and_true, and_self, Nat.zero_le, Nat.le_refl, true_or, or_true, Bool.false_eq_true, not_false_eq_true, Nat.reduceAdd, Nat.lt_add_one, Nat.zero_lt_one, nI_add, pk_mul, ixL, vpL, ne_eq, reduceIte, wI_sA, sA_same, sA_ne, sA_sA, sA_comm, uI_at, uN_at, enc_at, uI_enc, uI_uI, itn1, itn2, itn3, itn4, itc, itc0, itc1, upM_s, upM_n]
    exact ⟨by decide, rfl, h1, h2⟩
  · intro E τ' hq; cases hq.1
end MJ
