/-! ===== the evening's buyer, the place by due days ===== -/
def rkU (a : Nat → Nat) (i : Nat) : Nat → Nat
  | 0 => 0
  | o + 1 => rkU a i o + (if isLot a o = false ∧ (it a o 6 < it a i 6 ∨ it a o 6 = it a i 6 ∧ o < i) then 1 else 0)
def bdU (a : Nat → Nat) (p : Int32) : Nat → Nat → Option Nat
  | _, 0 => none
  | i, k + 1 => if isLot a i = false ∧ nI (rkU a i (a 4)) = p then some i else bdU a p (i + 1) k
def sByD (a : Nat → Nat) (p : Int32) : Nat × Nat := match bdU a p 0 (a 4) with
  | none => (1, 0)
  | some i => (0, it a i 0)
section MI
variable {l : Launch} {G : GG} {τ : Mem} {c0 n : Nat} {σ : Sg}
theorem q_eveningBuyerOf (hc : Ctx l G) (h : MW τ c0 σ) (hI : IV n σ.1) (hn : n ≤ 1000) (t : Int32) : Sat l G iX11_eveningBuyerOf [mM, aI t] τ (AnR τ σ (sEvB σ.1 (findO σ.1 t true))) := by
  have hS := MS_of h hI hn
  have hS0 := MS_of (tS_MW h 0) hI hn
  have hM0 := tS_MW h 0
  have hO := tS_Oth τ 0
  unfold tS at hS0 hM0 hO
  refine Sat_of hc.1 hc.2 (by decide +kernel) (Nat.le_of_ble_eq_true rfl) (fun x hB hno => ?_)
  refine V_run hB (rt := some .int) (nL := 6) (mc := 0) rfl rfl rfl obX11_eveningBuyerOf_0 ?_
  dsimp only [bX11_eveningBuyerOf_0, ↓wpb, ↓wp1, ↓vI, ↓vL, ↓vD, ↓ldI, ↓ldL, ↓ldD, ↓ldR, ↓k1, ↓k2, ↓kI, ↓kL, ↓kD, ↓kII, ↓kLL, ↓kDD, ↓kR, ↓kIR, ↓kLR, ↓kIIR, ↓kLIR, ↓kDIR, ↓kRIR, ↓kNN, ↓kE, ↓br, ↓bn, ↓rtI, ↓gfv, ↓zchk, lput, ldel, lbad, alA, acat, isRf, dom, dS, dJ, isO, aTy, aLen, elAV, elR, Nat.reduceBEq, Nat.reduceAdd, Bool.or, Bool.and, Nat.add_zero, Nat.zero_add]
  try simp only [Nat.reduceLT, Nat.reduceLeDiff, Nat.reduceEqDiff, true_and, and_true, and_self, Nat.zero_le, Nat.le_refl, true_or, or_true, Bool.false_eq_true, not_false_eq_true, Nat.reduceAdd, Nat.lt_add_one, Nat.zero_lt_one, nI_add, pk_mul, ixL, vpL, ne_eq, reduceIte, wI_sA, sA_same, sA_ne, sA_sA, sA_comm, uI_at, uN_at, enc_at, uI_enc, uI_uI, itn1, itn2, itn3, itn4, itc, itc0, itc1, upM_s, upM_n]
  refine V_cV hB hno (q_findOf hc hS t true) rfl (by decide +kernel) cvX11_99 (dom1 rfl) npX11_findOf ⟨by decide, by decide⟩ (Nat.le_of_ble_eq_true rfl) (n' := 0) (by decide) rfl ?_
  cases ho : findO σ.1 t true with
  | none =>
    rw [ho] at hB
    have e : sEvB σ.1 none = (1, 0) := rfl
    rw [e] at hB
    simp only [oI_none]
    refine V_run hB (rt := some .int) (nL := 6) (mc := 0) rfl rfl rfl obX11_eveningBuyerOf_6 ?_
    dsimp only [bX11_eveningBuyerOf_6, ↓wpb, ↓wp1, ↓vI, ↓vL, ↓vD, ↓ldI, ↓ldL, ↓ldD, ↓ldR, ↓k1, ↓k2, ↓kI, ↓kL, ↓kD, ↓kII, ↓kLL, ↓kDD, ↓kR, ↓kIR, ↓kLR, ↓kIIR, ↓kLIR, ↓kDIR, ↓kRIR, ↓kNN, ↓kE, ↓br, ↓bn, ↓rtI, ↓gfv, ↓zchk, lput, ldel, lbad, alA, acat, isRf, dom, dS, dJ, isO, aTy, aLen, elAV, elR, Nat.reduceBEq, Nat.reduceAdd, Bool.or, Bool.and, Nat.add_zero, Nat.zero_add]
    try simp only [Nat.reduceLT, Nat.reduceLeDiff, Nat.reduceEqDiff, true_and, and_true, and_self, Nat.zero_le, Nat.le_refl, true_or, or_true, Bool.false_eq_true, not_false_eq_true, Nat.reduceAdd, Nat.lt_add_one, Nat.zero_lt_one, nI_add, pk_mul, ixL, vpL, ne_eq, reduceIte, wI_sA, sA_same, sA_ne, sA_sA, sA_comm, uI_at, uN_at, enc_at, uI_enc, uI_uI, itn1, itn2, itn3, itn4, itc, itc0, itc1, upM_s, upM_n]
    refine ⟨fun h => absurd h (by decide), fun _ => ?_⟩
    refine V_run hB (rt := some .int) (nL := 6) (mc := 0) rfl rfl rfl obX11_eveningBuyerOf_19 ?_
    dsimp only [bX11_eveningBuyerOf_19, ↓wpb, ↓wp1, ↓vI, ↓vL, ↓vD, ↓ldI, ↓ldL, ↓ldD, ↓ldR, ↓k1, ↓k2, ↓kI, ↓kL, ↓kD, ↓kII, ↓kLL, ↓kDD, ↓kR, ↓kIR, ↓kLR, ↓kIIR, ↓kLIR, ↓kDIR, ↓kRIR, ↓kNN, ↓kE, ↓br, ↓bn, ↓rtI, ↓gfv, ↓zchk, lput, ldel, lbad, alA, acat, isRf, dom, dS, dJ, isO, aTy, aLen, elAV, elR, Nat.reduceBEq, Nat.reduceAdd, Bool.or, Bool.and, Nat.add_zero, Nat.zero_add]
    try simp only [Nat.reduceLT, Nat.reduceLeDiff, Nat.reduceEqDiff, true_and, and_true, and_self, Nat.zero_le, Nat.le_refl, true_or, or_true, Bool.false_eq_true, not_false_eq_true, Nat.reduceAdd, Nat.lt_add_one, Nat.zero_lt_one, nI_add, pk_mul, ixL, vpL, ne_eq, reduceIte, wI_sA, sA_same, sA_ne, sA_sA, sA_comm, uI_at, uN_at, enc_at, uI_enc, uI_uI, itn1, itn2, itn3, itn4, itc, itc0, itc1, upM_s, upM_n]
    refine ⟨fun h => absurd h (by decide), fun _ => ?_⟩
    exact Ans_t h
  | some i =>
    rw [ho] at hB
    obtain ⟨hi4, hl⟩ := findO_lt ho
    have hi : i < 10 := by have := hI.1.1; omega
    simp only [oI_some]
    refine V_run hB (rt := some .int) (nL := 6) (mc := 0) rfl rfl rfl obX11_eveningBuyerOf_6 ?_
    dsimp only [bX11_eveningBuyerOf_6, ↓wpb, ↓wp1, ↓vI, ↓vL, ↓vD, ↓ldI, ↓ldL, ↓ldD, ↓ldR, ↓k1, ↓k2, ↓kI, ↓kL, ↓kD, ↓kII, ↓kLL, ↓kDD, ↓kR, ↓kIR, ↓kLR, ↓kIIR, ↓kLIR, ↓kDIR, ↓kRIR, ↓kNN, ↓kE, ↓br, ↓bn, ↓rtI, ↓gfv, ↓zchk, lput, ldel, lbad, alA, acat, isRf, dom, dS, dJ, isO, aTy, aLen, elAV, elR, Nat.reduceBEq, Nat.reduceAdd, Bool.or, Bool.and, Nat.add_zero, Nat.zero_add]
    try simp only [Nat.reduceLT, Nat.reduceLeDiff, Nat.reduceEqDiff, true_and, and_true, and_self, Nat.zero_le, Nat.le_refl, true_or, or_true, Bool.false_eq_true, not_false_eq_true, Nat.reduceAdd, Nat.lt_add_one, Nat.zero_lt_one, nI_add, pk_mul, ixL, vpL, ne_eq, reduceIte, wI_sA, sA_same, sA_ne, sA_sA, sA_comm, uI_at, uN_at, enc_at, uI_enc, uI_uI, itn1, itn2, itn3, itn4, itc, itc0, itc1, upM_s, upM_n]
    refine ⟨fun _ => ?_, fun h => absurd (nI_pos' (by omega)) h⟩
    refine V_run hB (rt := some .int) (nL := 6) (mc := 0) rfl rfl rfl obX11_eveningBuyerOf_18 ?_
    dsimp only [bX11_eveningBuyerOf_18, ↓wpb, ↓wp1, ↓vI, ↓vL, ↓vD, ↓ldI, ↓ldL, ↓ldD, ↓ldR, ↓k1, ↓k2, ↓kI, ↓kL, ↓kD, ↓kII, ↓kLL, ↓kDD, ↓kR, ↓kIR, ↓kLR, ↓kIIR, ↓kLIR, ↓kDIR, ↓kRIR, ↓kNN, ↓kE, ↓br, ↓bn, ↓rtI, ↓gfv, ↓zchk, lput, ldel, lbad, alA, acat, isRf, dom, dS, dJ, isO, aTy, aLen, elAV, elR, Nat.reduceBEq, Nat.reduceAdd, Bool.or, Bool.and, Nat.add_zero, Nat.zero_add]
    try simp only [Nat.reduceLT, Nat.reduceLeDiff, Nat.reduceEqDiff, true_and, and_true, and_self, Nat.zero_le, Nat.le_refl, true_or, or_true, Bool.false_eq_true, not_false_eq_true, Nat.reduceAdd, Nat.lt_add_one, Nat.zero_lt_one, nI_add, pk_mul, ixL, vpL, ne_eq, reduceIte, wI_sA, sA_same, sA_ne, sA_sA, sA_comm, uI_at, uN_at, enc_at, uI_enc, uI_uI, itn1, itn2, itn3, itn4, itc, itc0, itc1, upM_s, upM_n]
    refine ⟨fun _ => ?_, fun h => absurd rfl h⟩
    refine V_run hB (rt := some .int) (nL := 6) (mc := 0) rfl rfl rfl obX11_eveningBuyerOf_31 ?_
    dsimp only [bX11_eveningBuyerOf_31, ↓wpb, ↓wp1, ↓vI, ↓vL, ↓vD, ↓ldI, ↓ldL, ↓ldD, ↓ldR, ↓k1, ↓k2, ↓kI, ↓kL, ↓kD, ↓kII, ↓kLL, ↓kDD, ↓kR, ↓kIR, ↓kLR, ↓kIIR, ↓kLIR, ↓kDIR, ↓kRIR, ↓kNN, ↓kE, ↓br, ↓bn, ↓rtI, ↓gfv, ↓zchk, lput, ldel, lbad, alA, acat, isRf, dom, dS, dJ, isO, aTy, aLen, elAV, elR, Nat.reduceBEq, Nat.reduceAdd, Bool.or, Bool.and, Nat.add_zero, Nat.zero_add]
    try simp only [Nat.reduceLT, Nat.reduceLeDiff, Nat.reduceEqDiff, true_and, and_true, and_self, Nat.zero_le, Nat.le_refl, true_or, or_true, Bool.false_eq_true, not_false_eq_true, Nat.reduceAdd, Nat.lt_add_one, Nat.zero_lt_one, nI_add, pk_mul, ixL, vpL, ne_eq, reduceIte, wI_sA, sA_same, sA_ne, sA_sA, sA_comm, uI_at, uN_at, enc_at, uI_enc, uI_uI, itn1, itn2, itn3, itn4, itc, itc0, itc1, upM_s, upM_n]
    refine V_callV hB hno (q_evenings hc hS0 hI.bidOk) rfl (by decide +kernel) cvX11_159 (dom1 rfl) npX11_evenings ⟨by decide, by decide⟩ (Nat.le_of_ble_eq_true rfl) (by decide) ?_ ?_
    rotate_left
    · intro E τ' hq; cases hq.1
    intro v τ' hq
    obtain ⟨e1, r, rfl, hr⟩ := hq
    cases e1
    have hS1 : MS (sA (sA τ 30 (uI (τ.1 (30, 0, 0)) 0 (nI 0))) 35 r) σ.1 := hS0.s35
    have hM1 : MW (sA (sA τ 30 (uI (τ.1 (30, 0, 0)) 0 (nI 0))) 35 r) 0 σ := ⟨by rw [sA_ne (by decide)]; exact hM0.1, by rw [sA_ne (by decide)]; exact hM0.2.1, hM0.2.2.sX _ (by omega)⟩
    have hO1 : Oth τ (sA (sA τ 30 (uI (τ.1 (30, 0, 0)) 0 (nI 0))) 35 r) := hO.sA _ (by decide) (by decide)
    have h38 : ∀ w k, k + w = i → ∀ al, (∀ z ∈ [(0, mM), (2, aI (nI i)), (3, aI (nI (uA σ.1 k))), (4, aI (nI k))], lk al z.1 = some z.2) → V x (sA (sA τ 30 (uI (τ.1 (30, 0, 0)) 0 (nI 0))) 35 r) 0 38 al [] := by
      intro w
      induction w with
      | zero =>
        intro k hk al hal
        have hk : k = i := by omega
        subst hk
        refine V.sub ?_ hal
        have hu32 := uA_lt σ.1 k
        refine V_run hB (rt := some .int) (nL := 6) (mc := 0) rfl rfl rfl obX11_eveningBuyerOf_38 ?_
        dsimp only [bX11_eveningBuyerOf_38, ↓wpb, ↓wp1, ↓vI, ↓vL, ↓vD, ↓ldI, ↓ldL, ↓ldD, ↓ldR, ↓k1, ↓k2, ↓kI, ↓kL, ↓kD, ↓kII, ↓kLL, ↓kDD, ↓kR, ↓kIR, ↓kLR, ↓kIIR, ↓kLIR, ↓kDIR, ↓kRIR, ↓kNN, ↓kE, ↓br, ↓bn, ↓rtI, ↓gfv, ↓zchk, lput, ldel, lbad, alA, acat, isRf, dom, dS, dJ, isO, aTy, aLen, elAV, elR, Nat.reduceBEq, Nat.reduceAdd, Bool.or, Bool.and, Nat.add_zero, Nat.zero_add]
        try simp only [Nat.reduceLT, Nat.reduceLeDiff, Nat.reduceEqDiff, true_and, and_true, and_self, Nat.zero_le, Nat.le_refl, true_or, or_true, Bool.false_eq_true, not_false_eq_true, Nat.reduceAdd, Nat.lt_add_one, Nat.zero_lt_one, nI_add, pk_mul, ixL, vpL, ne_eq, reduceIte, wI_sA, sA_same, sA_ne, sA_sA, sA_comm, uI_at, uN_at, enc_at, uI_enc, uI_uI, itn1, itn2, itn3, itn4, itc, itc0, itc1, upM_s, upM_n]
        refine ⟨fun _ => ?_, fun h => absurd (nI_le (by omega) (by omega)) h⟩
        refine V_run hB (rt := some .int) (nL := 6) (mc := 0) rfl rfl rfl obX11_eveningBuyerOf_75 ?_
        dsimp only [bX11_eveningBuyerOf_75, ↓wpb, ↓wp1, ↓vI, ↓vL, ↓vD, ↓ldI, ↓ldL, ↓ldD, ↓ldR, ↓k1, ↓k2, ↓kI, ↓kL, ↓kD, ↓kII, ↓kLL, ↓kDD, ↓kR, ↓kIR, ↓kLR, ↓kIIR, ↓kLIR, ↓kDIR, ↓kRIR, ↓kNN, ↓kE, ↓br, ↓bn, ↓rtI, ↓gfv, ↓zchk, lput, ldel, lbad, alA, acat, isRf, dom, dS, dJ, isO, aTy, aLen, elAV, elR, Nat.reduceBEq, Nat.reduceAdd, Bool.or, Bool.and, Nat.add_zero, Nat.zero_add]
        try simp only [Nat.reduceLT, Nat.reduceLeDiff, Nat.reduceEqDiff, true_and, and_true, and_self, Nat.zero_le, Nat.le_refl, true_or, or_true, Bool.false_eq_true, not_false_eq_true, Nat.reduceAdd, Nat.lt_add_one, Nat.zero_lt_one, nI_add, pk_mul, ixL, vpL, ne_eq, reduceIte, wI_sA, sA_same, sA_ne, sA_sA, sA_comm, uI_at, uN_at, enc_at, uI_enc, uI_uI, itn1, itn2, itn3, itn4, itc, itc0, itc1, upM_s, upM_n]
        refine V_cV hB hno (q_gets hc hS1 hI.bidOk (by rw [sA_same]; exact hr) hi4 hu32) rfl (by decide +kernel) cvX11_162 (dom1 rfl) npX11_gets ⟨by decide, by decide⟩ (Nat.le_of_ble_eq_true rfl) (n' := 0) (by decide) rfl ?_
        have hgk : gts σ.1 k (uA σ.1 k) = gk σ.1 k := rfl
        rw [hgk]
        cases hg : gk σ.1 k with
        | none =>
          have e : sEvB σ.1 (some k) = (1, 0) := by unfold sEvB; simp only [hg]
          rw [e] at hB
          rw [oI_none]
          refine V_run hB (rt := some .int) (nL := 6) (mc := 0) rfl rfl rfl obX11_eveningBuyerOf_81 ?_
          dsimp only [bX11_eveningBuyerOf_81, ↓wpb, ↓wp1, ↓vI, ↓vL, ↓vD, ↓ldI, ↓ldL, ↓ldD, ↓ldR, ↓k1, ↓k2, ↓kI, ↓kL, ↓kD, ↓kII, ↓kLL, ↓kDD, ↓kR, ↓kIR, ↓kLR, ↓kIIR, ↓kLIR, ↓kDIR, ↓kRIR, ↓kNN, ↓kE, ↓br, ↓bn, ↓rtI, ↓gfv, ↓zchk, lput, ldel, lbad, alA, acat, isRf, dom, dS, dJ, isO, aTy, aLen, elAV, elR, Nat.reduceBEq, Nat.reduceAdd, Bool.or, Bool.and, Nat.add_zero, Nat.zero_add]
          try simp only [Nat.reduceLT, Nat.reduceLeDiff, Nat.reduceEqDiff, true_and, and_true, and_self, Nat.zero_le, Nat.le_refl, true_or, or_true, Bool.false_eq_true, not_false_eq_true, Nat.reduceAdd, Nat.lt_add_one, Nat.zero_lt_one, nI_add, pk_mul, ixL, vpL, ne_eq, reduceIte, wI_sA, sA_same, sA_ne, sA_sA, sA_comm, uI_at, uN_at, enc_at, uI_enc, uI_uI, itn1, itn2, itn3, itn4, itc, itc0, itc1, upM_s, upM_n]
          refine ⟨fun h => absurd h (by decide), fun _ => ?_⟩
          refine V_cV hB hno (q_failM hc hS1 1) rfl (by decide +kernel) cvX11_76 (dom1 rfl) npX11_fail ⟨by decide, by decide⟩ (Nat.le_of_ble_eq_true rfl) (n' := 0) (by decide) rfl ?_
          refine V_run hB (rt := some .int) (nL := 6) (mc := 0) rfl rfl rfl obX11_eveningBuyerOf_93 ?_
          dsimp only [bX11_eveningBuyerOf_93, ↓wpb, ↓wp1, ↓vI, ↓vL, ↓vD, ↓ldI, ↓ldL, ↓ldD, ↓ldR, ↓k1, ↓k2, ↓kI, ↓kL, ↓kD, ↓kII, ↓kLL, ↓kDD, ↓kR, ↓kIR, ↓kLR, ↓kIIR, ↓kLIR, ↓kDIR, ↓kRIR, ↓kNN, ↓kE, ↓br, ↓bn, ↓rtI, ↓gfv, ↓zchk, lput, ldel, lbad, alA, acat, isRf, dom, dS, dJ, isO, aTy, aLen, elAV, elR, Nat.reduceBEq, Nat.reduceAdd, Bool.or, Bool.and, Nat.add_zero, Nat.zero_add]
          try simp only [Nat.reduceLT, Nat.reduceLeDiff, Nat.reduceEqDiff, true_and, and_true, and_self, Nat.zero_le, Nat.le_refl, true_or, or_true, Bool.false_eq_true, not_false_eq_true, Nat.reduceAdd, Nat.lt_add_one, Nat.zero_lt_one, nI_add, pk_mul, ixL, vpL, ne_eq, reduceIte, wI_sA, sA_same, sA_ne, sA_sA, sA_comm, uI_at, uN_at, enc_at, uI_enc, uI_uI, itn1, itn2, itn3, itn4, itc, itc0, itc1, upM_s, upM_n]
          refine V_run hB (rt := some .int) (nL := 6) (mc := 0) rfl rfl rfl obX11_eveningBuyerOf_98 ?_
          dsimp only [bX11_eveningBuyerOf_98, ↓wpb, ↓wp1, ↓vI, ↓vL, ↓vD, ↓ldI, ↓ldL, ↓ldD, ↓ldR, ↓k1, ↓k2, ↓kI, ↓kL, ↓kD, ↓kII, ↓kLL, ↓kDD, ↓kR, ↓kIR, ↓kLR, ↓kIIR, ↓kLIR, ↓kDIR, ↓kRIR, ↓kNN, ↓kE, ↓br, ↓bn, ↓rtI, ↓gfv, ↓zchk, lput, ldel, lbad, alA, acat, isRf, dom, dS, dJ, isO, aTy, aLen, elAV, elR, Nat.reduceBEq, Nat.reduceAdd, Bool.or, Bool.and, Nat.add_zero, Nat.zero_add]
          try simp only [Nat.reduceLT, Nat.reduceLeDiff, Nat.reduceEqDiff, true_and, and_true, and_self, Nat.zero_le, Nat.le_refl, true_or, or_true, Bool.false_eq_true, not_false_eq_true, Nat.reduceAdd, Nat.lt_add_one, Nat.zero_lt_one, nI_add, pk_mul, ixL, vpL, ne_eq, reduceIte, wI_sA, sA_same, sA_ne, sA_sA, sA_comm, uI_at, uN_at, enc_at, uI_enc, uI_uI, itn1, itn2, itn3, itn4, itc, itc0, itc1, upM_s, upM_n]
          exact ⟨rfl, op_MW hM1 σ.1, op_Oth hO1 1 σ.1⟩
        | some y =>
          have hy := gk_lt hg
          have e : sEvB σ.1 (some k) = (0, y) := by unfold sEvB; simp only [hg]
          rw [e] at hB
          rw [oI_some]
          refine V_run hB (rt := some .int) (nL := 6) (mc := 0) rfl rfl rfl obX11_eveningBuyerOf_81 ?_
          dsimp only [bX11_eveningBuyerOf_81, ↓wpb, ↓wp1, ↓vI, ↓vL, ↓vD, ↓ldI, ↓ldL, ↓ldD, ↓ldR, ↓k1, ↓k2, ↓kI, ↓kL, ↓kD, ↓kII, ↓kLL, ↓kDD, ↓kR, ↓kIR, ↓kLR, ↓kIIR, ↓kLIR, ↓kDIR, ↓kRIR, ↓kNN, ↓kE, ↓br, ↓bn, ↓rtI, ↓gfv, ↓zchk, lput, ldel, lbad, alA, acat, isRf, dom, dS, dJ, isO, aTy, aLen, elAV, elR, Nat.reduceBEq, Nat.reduceAdd, Bool.or, Bool.and, Nat.add_zero, Nat.zero_add]
          try simp only [Nat.reduceLT, Nat.reduceLeDiff, Nat.reduceEqDiff, true_and, and_true, and_self, Nat.zero_le, Nat.le_refl, true_or, or_true, Bool.false_eq_true, not_false_eq_true, Nat.reduceAdd, Nat.lt_add_one, Nat.zero_lt_one, nI_add, pk_mul, ixL, vpL, ne_eq, reduceIte, wI_sA, sA_same, sA_ne, sA_sA, sA_comm, uI_at, uN_at, enc_at, uI_enc, uI_uI, itn1, itn2, itn3, itn4, itc, itc0, itc1, upM_s, upM_n]
          refine ⟨fun _ => ?_, fun h => absurd (nI_pos' (by omega)) h⟩
          refine V_run hB (rt := some .int) (nL := 6) (mc := 0) rfl rfl rfl obX11_eveningBuyerOf_96 ?_
          dsimp only [bX11_eveningBuyerOf_96, ↓wpb, ↓wp1, ↓vI, ↓vL, ↓vD, ↓ldI, ↓ldL, ↓ldD, ↓ldR, ↓k1, ↓k2, ↓kI, ↓kL, ↓kD, ↓kII, ↓kLL, ↓kDD, ↓kR, ↓kIR, ↓kLR, ↓kIIR, ↓kLIR, ↓kDIR, ↓kRIR, ↓kNN, ↓kE, ↓br, ↓bn, ↓rtI, ↓gfv, ↓zchk, lput, ldel, lbad, alA, acat, isRf, dom, dS, dJ, isO, aTy, aLen, elAV, elR, Nat.reduceBEq, Nat.reduceAdd, Bool.or, Bool.and, Nat.add_zero, Nat.zero_add]
          try simp only [Nat.reduceLT, Nat.reduceLeDiff, Nat.reduceEqDiff, true_and, and_true, and_self, Nat.zero_le, Nat.le_refl, true_or, or_true, Bool.false_eq_true, not_false_eq_true, Nat.reduceAdd, Nat.lt_add_one, Nat.zero_lt_one, nI_add, pk_mul, ixL, vpL, ne_eq, reduceIte, wI_sA, sA_same, sA_ne, sA_sA, sA_comm, uI_at, uN_at, enc_at, uI_enc, uI_uI, itn1, itn2, itn3, itn4, itc, itc0, itc1, upM_s, upM_n]
          exact ⟨rfl, hM1, hO1⟩
      | succ w ih =>
        intro k hk al hal
        refine V.sub ?_ hal
        have hk10 : k < 10 := by omega
        have hu32 := uA_lt σ.1 k
        have ih' := ih (k + 1) (by omega)
        have hua : uA σ.1 (k + 1) = match gk σ.1 k with | none => uA σ.1 k | some b => uA σ.1 k ||| 2 ^ b := rfl
        rw [hua] at ih'
        refine V_run hB (rt := some .int) (nL := 6) (mc := 0) rfl rfl rfl obX11_eveningBuyerOf_38 ?_
        dsimp only [bX11_eveningBuyerOf_38, ↓wpb, ↓wp1, ↓vI, ↓vL, ↓vD, ↓ldI, ↓ldL, ↓ldD, ↓ldR, ↓k1, ↓k2, ↓kI, ↓kL, ↓kD, ↓kII, ↓kLL, ↓kDD, ↓kR, ↓kIR, ↓kLR, ↓kIIR, ↓kLIR, ↓kDIR, ↓kRIR, ↓kNN, ↓kE, ↓br, ↓bn, ↓rtI, ↓gfv, ↓zchk, lput, ldel, lbad, alA, acat, isRf, dom, dS, dJ, isO, aTy, aLen, elAV, elR, Nat.reduceBEq, Nat.reduceAdd, Bool.or, Bool.and, Nat.add_zero, Nat.zero_add]
        try simp only [Nat.reduceLT, Nat.reduceLeDiff, Nat.reduceEqDiff, true_and, and_true, and_self, Nat.zero_le, Nat.le_refl, true_or, or_true, Bool.false_eq_true, not_false_eq_true, Nat.reduceAdd, Nat.lt_add_one, Nat.zero_lt_one, nI_add, pk_mul, ixL, vpL, ne_eq, reduceIte, wI_sA, sA_same, sA_ne, sA_sA, sA_comm, uI_at, uN_at, enc_at, uI_enc, uI_uI, itn1, itn2, itn3, itn4, itc, itc0, itc1, upM_s, upM_n]
        refine ⟨fun h => absurd h (nI_ge (by omega) (by omega)), fun _ => ?_⟩
        refine V_cV hB hno (q_gets hc hS1 hI.bidOk (by rw [sA_same]; exact hr) (by omega) hu32) rfl (by decide +kernel) cvX11_162 (dom1 rfl) npX11_gets ⟨by decide, by decide⟩ (Nat.le_of_ble_eq_true rfl) (n' := 0) (by decide) rfl ?_
        have hgk : gts σ.1 k (uA σ.1 k) = gk σ.1 k := rfl
        rw [hgk]
        cases hg : gk σ.1 k with
        | none =>
          rw [hg] at ih'
          rw [oI_none]
          refine V_run hB (rt := some .int) (nL := 6) (mc := 0) rfl rfl rfl obX11_eveningBuyerOf_51 ?_
          dsimp only [bX11_eveningBuyerOf_51, ↓wpb, ↓wp1, ↓vI, ↓vL, ↓vD, ↓ldI, ↓ldL, ↓ldD, ↓ldR, ↓k1, ↓k2, ↓kI, ↓kL, ↓kD, ↓kII, ↓kLL, ↓kDD, ↓kR, ↓kIR, ↓kLR, ↓kIIR, ↓kLIR, ↓kDIR, ↓kRIR, ↓kNN, ↓kE, ↓br, ↓bn, ↓rtI, ↓gfv, ↓zchk, lput, ldel, lbad, alA, acat, isRf, dom, dS, dJ, isO, aTy, aLen, elAV, elR, Nat.reduceBEq, Nat.reduceAdd, Bool.or, Bool.and, Nat.add_zero, Nat.zero_add]
          try simp only [Nat.reduceLT, Nat.reduceLeDiff, Nat.reduceEqDiff, true_and, and_true, and_self, Nat.zero_le, Nat.le_refl, true_or, or_true, Bool.false_eq_true, not_false_eq_true, Nat.reduceAdd, Nat.lt_add_one, Nat.zero_lt_one, nI_add, pk_mul, ixL, vpL, ne_eq, reduceIte, wI_sA, sA_same, sA_ne, sA_sA, sA_comm, uI_at, uN_at, enc_at, uI_enc, uI_uI, itn1, itn2, itn3, itn4, itc, itc0, itc1, upM_s, upM_n]
          refine ⟨fun h => absurd h (by decide), fun _ => ?_⟩
          refine V_run hB (rt := some .int) (nL := 6) (mc := 0) rfl rfl rfl obX11_eveningBuyerOf_67 ?_
          dsimp only [bX11_eveningBuyerOf_67, ↓wpb, ↓wp1, ↓vI, ↓vL, ↓vD, ↓ldI, ↓ldL, ↓ldD, ↓ldR, ↓k1, ↓k2, ↓kI, ↓kL, ↓kD, ↓kII, ↓kLL, ↓kDD, ↓kR, ↓kIR, ↓kLR, ↓kIIR, ↓kLIR, ↓kDIR, ↓kRIR, ↓kNN, ↓kE, ↓br, ↓bn, ↓rtI, ↓gfv, ↓zchk, lput, ldel, lbad, alA, acat, isRf, dom, dS, dJ, isO, aTy, aLen, elAV, elR, Nat.reduceBEq, Nat.reduceAdd, Bool.or, Bool.and, Nat.add_zero, Nat.zero_add]
          try simp only [Nat.reduceLT, Nat.reduceLeDiff, Nat.reduceEqDiff, true_and, and_true, and_self, Nat.zero_le, Nat.le_refl, true_or, or_true, Bool.false_eq_true, not_false_eq_true, Nat.reduceAdd, Nat.lt_add_one, Nat.zero_lt_one, nI_add, pk_mul, ixL, vpL, ne_eq, reduceIte, wI_sA, sA_same, sA_ne, sA_sA, sA_comm, uI_at, uN_at, enc_at, uI_enc, uI_uI, itn1, itn2, itn3, itn4, itc, itc0, itc1, upM_s, upM_n]
          rw [show nI (uA σ.1 k) ||| nI 0 = nI (uA σ.1 k) from or0 _ hu32]
          exact ih' _ (List.forall_mem_cons.mpr ⟨rfl, List.forall_mem_cons.mpr ⟨rfl, List.forall_mem_cons.mpr ⟨rfl, List.forall_mem_cons.mpr ⟨rfl, fun _ h => absurd h List.not_mem_nil⟩⟩⟩⟩)
        | some b =>
          have hb5 := gk_lt hg
          rw [hg] at ih'
          rw [oI_some]
          refine V_run hB (rt := some .int) (nL := 6) (mc := 0) rfl rfl rfl obX11_eveningBuyerOf_51 ?_
          dsimp only [bX11_eveningBuyerOf_51, ↓wpb, ↓wp1, ↓vI, ↓vL, ↓vD, ↓ldI, ↓ldL, ↓ldD, ↓ldR, ↓k1, ↓k2, ↓kI, ↓kL, ↓kD, ↓kII, ↓kLL, ↓kDD, ↓kR, ↓kIR, ↓kLR, ↓kIIR, ↓kLIR, ↓kDIR, ↓kRIR, ↓kNN, ↓kE, ↓br, ↓bn, ↓rtI, ↓gfv, ↓zchk, lput, ldel, lbad, alA, acat, isRf, dom, dS, dJ, isO, aTy, aLen, elAV, elR, Nat.reduceBEq, Nat.reduceAdd, Bool.or, Bool.and, Nat.add_zero, Nat.zero_add]
          try simp only [Nat.reduceLT, Nat.reduceLeDiff, Nat.reduceEqDiff, true_and, and_true, and_self, Nat.zero_le, Nat.le_refl, true_or, or_true, Bool.false_eq_true, not_false_eq_true, Nat.reduceAdd, Nat.lt_add_one, Nat.zero_lt_one, nI_add, pk_mul, ixL, vpL, ne_eq, reduceIte, wI_sA, sA_same, sA_ne, sA_sA, sA_comm, uI_at, uN_at, enc_at, uI_enc, uI_uI, itn1, itn2, itn3, itn4, itc, itc0, itc1, upM_s, upM_n]
          refine ⟨fun _ => ?_, fun h => absurd (nI_pos' (by omega)) h⟩
          refine V_run hB (rt := some .int) (nL := 6) (mc := 0) rfl rfl rfl obX11_eveningBuyerOf_63 ?_
          dsimp only [bX11_eveningBuyerOf_63, ↓wpb, ↓wp1, ↓vI, ↓vL, ↓vD, ↓ldI, ↓ldL, ↓ldD, ↓ldR, ↓k1, ↓k2, ↓kI, ↓kL, ↓kD, ↓kII, ↓kLL, ↓kDD, ↓kR, ↓kIR, ↓kLR, ↓kIIR, ↓kLIR, ↓kDIR, ↓kRIR, ↓kNN, ↓kE, ↓br, ↓bn, ↓rtI, ↓gfv, ↓zchk, lput, ldel, lbad, alA, acat, isRf, dom, dS, dJ, isO, aTy, aLen, elAV, elR, Nat.reduceBEq, Nat.reduceAdd, Bool.or, Bool.and, Nat.add_zero, Nat.zero_add]
          try simp only [Nat.reduceLT, Nat.reduceLeDiff, Nat.reduceEqDiff, true_and, and_true, and_self, Nat.zero_le, Nat.le_refl, true_or, or_true, Bool.false_eq_true, not_false_eq_true, Nat.reduceAdd, Nat.lt_add_one, Nat.zero_lt_one, nI_add, pk_mul, ixL, vpL, ne_eq, reduceIte, wI_sA, sA_same, sA_ne, sA_sA, sA_comm, uI_at, uN_at, enc_at, uI_enc, uI_uI, itn1, itn2, itn3, itn4, itc, itc0, itc1, upM_s, upM_n, shl5 b hb5, or5 _ hu32 b hb5]
          exact ih' _ (List.forall_mem_cons.mpr ⟨rfl, List.forall_mem_cons.mpr ⟨rfl, List.forall_mem_cons.mpr ⟨rfl, List.forall_mem_cons.mpr ⟨rfl, fun _ h => absurd h List.not_mem_nil⟩⟩⟩⟩)
    refine V_run hB (rt := some .int) (nL := 6) (mc := 0) rfl rfl rfl obX11_eveningBuyerOf_35 ?_
    dsimp only [bX11_eveningBuyerOf_35, ↓wpb, ↓wp1, ↓vI, ↓vL, ↓vD, ↓ldI, ↓ldL, ↓ldD, ↓ldR, ↓k1, ↓k2, ↓kI, ↓kL, ↓kD, ↓kII, ↓kLL, ↓kDD, ↓kR, ↓kIR, ↓kLR, ↓kIIR, ↓kLIR, ↓kDIR, ↓kRIR, ↓kNN, ↓kE, ↓br, ↓bn, ↓rtI, ↓gfv, ↓zchk, lput, ldel, lbad, alA, acat, isRf, dom, dS, dJ, isO, aTy, aLen, elAV, elR, Nat.reduceBEq, Nat.reduceAdd, Bool.or, Bool.and, Nat.add_zero, Nat.zero_add]
    try simp only [Nat.reduceLT, Nat.reduceLeDiff, Nat.reduceEqDiff, true_and, and_true, and_self, Nat.zero_le, Nat.le_refl, true_or, or_true, Bool.false_eq_true, not_false_eq_true, Nat.reduceAdd, Nat.lt_add_one, Nat.zero_lt_one, nI_add, pk_mul, ixL, vpL, ne_eq, reduceIte, wI_sA, sA_same, sA_ne, sA_sA, sA_comm, uI_at, uN_at, enc_at, uI_enc, uI_uI, itn1, itn2, itn3, itn4, itc, itc0, itc1, upM_s, upM_n]
    exact h38 i 0 (by omega) _ (List.forall_mem_cons.mpr ⟨rfl, List.forall_mem_cons.mpr ⟨rfl, List.forall_mem_cons.mpr ⟨rfl, List.forall_mem_cons.mpr ⟨rfl, fun _ h => absurd h List.not_mem_nil⟩⟩⟩⟩)
theorem rkU_le (a : Nat → Nat) (i : Nat) : ∀ o, rkU a i o ≤ o
  | 0 => Nat.le_refl _
  | o + 1 => by
    have := rkU_le a i o
    unfold rkU
    split <;> omega
theorem q_pledgeByDueDay (hc : Ctx l G) (h : MW τ c0 σ) (hI : IV n σ.1) (hn : n ≤ 1000) (p : Int32) : Sat l G iX11_pledgeByDueDay [mM, aI p] τ (AnR τ σ (sByD σ.1 p)) := by
  have hS0 := MS_of (tS_MW h 0) hI hn
  have hM0 := tS_MW h 0
  have hO := tS_Oth τ 0
  have hv := h.1
  have hm := hI.1.1
  unfold tS at hS0 hM0 hO
  refine Sat_of hc.1 hc.2 (by decide +kernel) (Nat.le_of_ble_eq_true rfl) (fun x hB hno => ?_)
  have h7 : ∀ w k, k + w = σ.1 4 → bdU σ.1 p 0 (σ.1 4) = bdU σ.1 p k w → ∀ al, (∀ z ∈ [(0, mM), (1, aI p), (2, aI (nI k))], lk al z.1 = some z.2) → V x (sA τ 30 (uI (τ.1 (30, 0, 0)) 0 (nI 0))) 0 7 al [] := by
    intro w
    induction w with
    | zero =>
      intro k hk hb al hal
      have hk : k = σ.1 4 := by omega
      subst hk
      refine V.sub ?_ hal
      have e : sByD σ.1 p = (1, 0) := by unfold sByD; rw [hb]; rfl
      rw [e] at hB
      refine V_run hB (rt := some .int) (nL := 5) (mc := 0) rfl rfl rfl obX11_pledgeByDueDay_7 ?_
      dsimp only [bX11_pledgeByDueDay_7, ↓wpb, ↓wp1, ↓vI, ↓vL, ↓vD, ↓ldI, ↓ldL, ↓ldD, ↓ldR, ↓k1, ↓k2, ↓kI, ↓kL, ↓kD, ↓kII, ↓kLL, ↓kDD, ↓kR, ↓kIR, ↓kLR, ↓kIIR, ↓kLIR, ↓kDIR, ↓kRIR, ↓kNN, ↓kE, ↓br, ↓bn, ↓rtI, ↓gfv, ↓zchk, lput, ldel, lbad, alA, acat, isRf, dom, dS, dJ, isO, aTy, aLen, elAV, elR, Nat.reduceBEq, Nat.reduceAdd, Bool.or, Bool.and, Nat.add_zero, Nat.zero_add]
      try simp only [Nat.reduceLT, Nat.reduceLeDiff, Nat.reduceEqDiff, true_and, and_true, and_self, Nat.zero_le, Nat.le_refl, true_or, or_true, Bool.false_eq_true, not_false_eq_true, Nat.reduceAdd, Nat.lt_add_one, Nat.zero_lt_one, nI_add, pk_mul, ixL, vpL, ne_eq, reduceIte, wI_sA, sA_same, sA_ne, sA_sA, sA_comm, uI_at, uN_at, enc_at, uI_enc, uI_uI, itn1, itn2, itn3, itn4, itc, itc0, itc1, upM_s, upM_n, hv]
      refine ⟨fun _ => ?_, fun h => absurd (nI_le (by omega) (by omega)) h⟩
      refine V_run hB (rt := some .int) (nL := 5) (mc := 0) rfl rfl rfl obX11_pledgeByDueDay_150 ?_
      dsimp only [bX11_pledgeByDueDay_150, ↓wpb, ↓wp1, ↓vI, ↓vL, ↓vD, ↓ldI, ↓ldL, ↓ldD, ↓ldR, ↓k1, ↓k2, ↓kI, ↓kL, ↓kD, ↓kII, ↓kLL, ↓kDD, ↓kR, ↓kIR, ↓kLR, ↓kIIR, ↓kLIR, ↓kDIR, ↓kRIR, ↓kNN, ↓kE, ↓br, ↓bn, ↓rtI, ↓gfv, ↓zchk, lput, ldel, lbad, alA, acat, isRf, dom, dS, dJ, isO, aTy, aLen, elAV, elR, Nat.reduceBEq, Nat.reduceAdd, Bool.or, Bool.and, Nat.add_zero, Nat.zero_add]
      try simp only [Nat.reduceLT, Nat.reduceLeDiff, Nat.reduceEqDiff, true_and, and_true, and_self, Nat.zero_le, Nat.le_refl, true_or, or_true, Bool.false_eq_true, not_false_eq_true, Nat.reduceAdd, Nat.lt_add_one, Nat.zero_lt_one, nI_add, pk_mul, ixL, vpL, ne_eq, reduceIte, wI_sA, sA_same, sA_ne, sA_sA, sA_comm, uI_at, uN_at, enc_at, uI_enc, uI_uI, itn1, itn2, itn3, itn4, itc, itc0, itc1, upM_s, upM_n]
      refine V_cV hB hno (q_failM hc hS0 1) rfl (by decide +kernel) cvX11_76 (dom1 rfl) npX11_fail ⟨by decide, by decide⟩ (Nat.le_of_ble_eq_true rfl) (n' := 0) (by decide) rfl ?_
      refine V_run hB (rt := some .int) (nL := 5) (mc := 0) rfl rfl rfl obX11_pledgeByDueDay_155 ?_
      dsimp only [bX11_pledgeByDueDay_155, ↓wpb, ↓wp1, ↓vI, ↓vL, ↓vD, ↓ldI, ↓ldL, ↓ldD, ↓ldR, ↓k1, ↓k2, ↓kI, ↓kL, ↓kD, ↓kII, ↓kLL, ↓kDD, ↓kR, ↓kIR, ↓kLR, ↓kIIR, ↓kLIR, ↓kDIR, ↓kRIR, ↓kNN, ↓kE, ↓br, ↓bn, ↓rtI, ↓gfv, ↓zchk, lput, ldel, lbad, alA, acat, isRf, dom, dS, dJ, isO, aTy, aLen, elAV, elR, Nat.reduceBEq, Nat.reduceAdd, Bool.or, Bool.and, Nat.add_zero, Nat.zero_add]
      try simp only [Nat.reduceLT, Nat.reduceLeDiff, Nat.reduceEqDiff, true_and, and_true, and_self, Nat.zero_le, Nat.le_refl, true_or, or_true, Bool.false_eq_true, not_false_eq_true, Nat.reduceAdd, Nat.lt_add_one, Nat.zero_lt_one, nI_add, pk_mul, ixL, vpL, ne_eq, reduceIte, wI_sA, sA_same, sA_ne, sA_sA, sA_comm, uI_at, uN_at, enc_at, uI_enc, uI_uI, itn1, itn2, itn3, itn4, itc, itc0, itc1, upM_s, upM_n]
      exact ⟨rfl, op_MW hM0 σ.1, op_Oth hO 1 σ.1⟩
    | succ w ih =>
      intro k hk hb al hal
      refine V.sub ?_ hal
      have hk10 : k < 10 := by omega
      have hbu : bdU σ.1 p k (w + 1) = if isLot σ.1 k = false ∧ nI (rkU σ.1 k (σ.1 4)) = p then some k else bdU σ.1 p (k + 1) w := rfl
      rw [hbu] at hb
      have h144 : ¬ (isLot σ.1 k = false ∧ nI (rkU σ.1 k (σ.1 4)) = p) → ∀ al, (∀ z ∈ [(0, mM), (1, aI p), (2, aI (nI k))], lk al z.1 = some z.2) → V x (sA τ 30 (uI (τ.1 (30, 0, 0)) 0 (nI 0))) 0 144 al [] := by
        intro hq al hal
        refine V.sub ?_ hal
        rw [if_neg hq] at hb
        refine V_run hB (rt := some .int) (nL := 5) (mc := 0) rfl rfl rfl obX11_pledgeByDueDay_144 ?_
        dsimp only [bX11_pledgeByDueDay_144, ↓wpb, ↓wp1, ↓vI, ↓vL, ↓vD, ↓ldI, ↓ldL, ↓ldD, ↓ldR, ↓k1, ↓k2, ↓kI, ↓kL, ↓kD, ↓kII, ↓kLL, ↓kDD, ↓kR, ↓kIR, ↓kLR, ↓kIIR, ↓kLIR, ↓kDIR, ↓kRIR, ↓kNN, ↓kE, ↓br, ↓bn, ↓rtI, ↓gfv, ↓zchk, lput, ldel, lbad, alA, acat, isRf, dom, dS, dJ, isO, aTy, aLen, elAV, elR, Nat.reduceBEq, Nat.reduceAdd, Bool.or, Bool.and, Nat.add_zero, Nat.zero_add]
        try simp only [Nat.reduceLT, Nat.reduceLeDiff, Nat.reduceEqDiff, true_and, and_true, and_self, Nat.zero_le, Nat.le_refl, true_or, or_true, Bool.false_eq_true, not_false_eq_true, Nat.reduceAdd, Nat.lt_add_one, Nat.zero_lt_one, nI_add, pk_mul, ixL, vpL, ne_eq, reduceIte, wI_sA, sA_same, sA_ne, sA_sA, sA_comm, uI_at, uN_at, enc_at, uI_enc, uI_uI, itn1, itn2, itn3, itn4, itc, itc0, itc1, upM_s, upM_n]
        exact ih (k + 1) (by omega) hb _ (List.forall_mem_cons.mpr ⟨rfl, List.forall_mem_cons.mpr ⟨rfl, List.forall_mem_cons.mpr ⟨rfl, fun _ h => absurd h List.not_mem_nil⟩⟩⟩)
      have h33 : isLot σ.1 k = false → ∀ w2 o, o + w2 = σ.1 4 → ∀ al, (∀ z ∈ [(0, mM), (1, aI p), (2, aI (nI k)), (3, aI (nI (rkU σ.1 k o))), (4, aI (nI o))], lk al z.1 = some z.2) → V x (sA τ 30 (uI (τ.1 (30, 0, 0)) 0 (nI 0))) 0 33 al [] := by
        intro hlk w2
        induction w2 with
        | zero =>
          intro o ho al hal
          have ho : o = σ.1 4 := by omega
          subst ho
          refine V.sub ?_ hal
          refine V_run hB (rt := some .int) (nL := 5) (mc := 0) rfl rfl rfl obX11_pledgeByDueDay_33 ?_
          dsimp only [bX11_pledgeByDueDay_33, ↓wpb, ↓wp1, ↓vI, ↓vL, ↓vD, ↓ldI, ↓ldL, ↓ldD, ↓ldR, ↓k1, ↓k2, ↓kI, ↓kL, ↓kD, ↓kII, ↓kLL, ↓kDD, ↓kR, ↓kIR, ↓kLR, ↓kIIR, ↓kLIR, ↓kDIR, ↓kRIR, ↓kNN, ↓kE, ↓br, ↓bn, ↓rtI, ↓gfv, ↓zchk, lput, ldel, lbad, alA, acat, isRf, dom, dS, dJ, isO, aTy, aLen, elAV, elR, Nat.reduceBEq, Nat.reduceAdd, Bool.or, Bool.and, Nat.add_zero, Nat.zero_add]
          try simp only [Nat.reduceLT, Nat.reduceLeDiff, Nat.reduceEqDiff, true_and, and_true, and_self, Nat.zero_le, Nat.le_refl, true_or, or_true, Bool.false_eq_true, not_false_eq_true, Nat.reduceAdd, Nat.lt_add_one, Nat.zero_lt_one, nI_add, pk_mul, ixL, vpL, ne_eq, reduceIte, wI_sA, sA_same, sA_ne, sA_sA, sA_comm, uI_at, uN_at, enc_at, uI_enc, uI_uI, itn1, itn2, itn3, itn4, itc, itc0, itc1, upM_s, upM_n, hv]
          refine ⟨fun _ => ?_, fun h => absurd (nI_le (by omega) (by omega)) h⟩
          refine V_run hB (rt := some .int) (nL := 5) (mc := 0) rfl rfl rfl obX11_pledgeByDueDay_128 ?_
          dsimp only [bX11_pledgeByDueDay_128, ↓wpb, ↓wp1, ↓vI, ↓vL, ↓vD, ↓ldI, ↓ldL, ↓ldD, ↓ldR, ↓k1, ↓k2, ↓kI, ↓kL, ↓kD, ↓kII, ↓kLL, ↓kDD, ↓kR, ↓kIR, ↓kLR, ↓kIIR, ↓kLIR, ↓kDIR, ↓kRIR, ↓kNN, ↓kE, ↓br, ↓bn, ↓rtI, ↓gfv, ↓zchk, lput, ldel, lbad, alA, acat, isRf, dom, dS, dJ, isO, aTy, aLen, elAV, elR, Nat.reduceBEq, Nat.reduceAdd, Bool.or, Bool.and, Nat.add_zero, Nat.zero_add]
          try simp only [Nat.reduceLT, Nat.reduceLeDiff, Nat.reduceEqDiff, true_and, and_true, and_self, Nat.zero_le, Nat.le_refl, true_or, or_true, Bool.false_eq_true, not_false_eq_true, Nat.reduceAdd, Nat.lt_add_one, Nat.zero_lt_one, nI_add, pk_mul, ixL, vpL, ne_eq, reduceIte, wI_sA, sA_same, sA_ne, sA_sA, sA_comm, uI_at, uN_at, enc_at, uI_enc, uI_uI, itn1, itn2, itn3, itn4, itc, itc0, itc1, upM_s, upM_n]
          refine ⟨fun hq => h144 (fun q => hq q.2) _ (List.forall_mem_cons.mpr ⟨rfl, List.forall_mem_cons.mpr ⟨rfl, List.forall_mem_cons.mpr ⟨rfl, fun _ h => absurd h List.not_mem_nil⟩⟩⟩), fun hq => ?_⟩
          rw [if_pos ⟨hlk, hq⟩] at hb
          have e : sByD σ.1 p = (0, it σ.1 k 0) := by unfold sByD; rw [hb]
          rw [e] at hB
          refine V_cS hB hno (q_ofN hc _ _ _) rfl (by decide +kernel) csX11_60 npX11_of ⟨by decide, by decide⟩ (Nat.le_of_ble_eq_true rfl) (n' := 0) (by decide) rfl ?_
          refine V_run hB (rt := some .int) (nL := 5) (mc := 0) rfl rfl rfl obX11_pledgeByDueDay_142 ?_
          dsimp only [bX11_pledgeByDueDay_142, ↓wpb, ↓wp1, ↓vI, ↓vL, ↓vD, ↓ldI, ↓ldL, ↓ldD, ↓ldR, ↓k1, ↓k2, ↓kI, ↓kL, ↓kD, ↓kII, ↓kLL, ↓kDD, ↓kR, ↓kIR, ↓kLR, ↓kIIR, ↓kLIR, ↓kDIR, ↓kRIR, ↓kNN, ↓kE, ↓br, ↓bn, ↓rtI, ↓gfv, ↓zchk, lput, ldel, lbad, alA, acat, isRf, dom, dS, dJ, isO, aTy, aLen, elAV, elR, Nat.reduceBEq, Nat.reduceAdd, Bool.or, Bool.and, Nat.add_zero, Nat.zero_add]
          try simp only [Nat.reduceLT, Nat.reduceLeDiff, Nat.reduceEqDiff, true_and, and_true, and_self, Nat.zero_le, Nat.le_refl, true_or, or_true, Bool.false_eq_true, not_false_eq_true, Nat.reduceAdd, Nat.lt_add_one, Nat.zero_lt_one, nI_add, pk_mul, ixL, vpL, ne_eq, reduceIte, wI_sA, sA_same, sA_ne, sA_sA, sA_comm, uI_at, uN_at, enc_at, uI_enc, uI_uI, itn1, itn2, itn3, itn4, itc, itc0, itc1, upM_s, upM_n, hv, ixI0 hk10, vpI0 hk10]
          exact ⟨rfl, hM0, hO⟩
        | succ w2 ih2 =>
          intro o ho al hal
          refine V.sub ?_ hal
          have ho10 : o < 10 := by omega
          have hd1 := hI.bd hn (16 + 12 * o + 6)
          have hd2 := hI.bd hn (16 + 12 * k + 6)
          have hru : rkU σ.1 k (o + 1) = rkU σ.1 k o + (if isLot σ.1 o = false ∧ (it σ.1 o 6 < it σ.1 k 6 ∨ it σ.1 o 6 = it σ.1 k 6 ∧ o < k) then 1 else 0) := rfl
          have ih2' := ih2 (o + 1) (by omega)
          rw [hru] at ih2'
          refine V_run hB (rt := some .int) (nL := 5) (mc := 0) rfl rfl rfl obX11_pledgeByDueDay_33 ?_
          dsimp only [bX11_pledgeByDueDay_33, ↓wpb, ↓wp1, ↓vI, ↓vL, ↓vD, ↓ldI, ↓ldL, ↓ldD, ↓ldR, ↓k1, ↓k2, ↓kI, ↓kL, ↓kD, ↓kII, ↓kLL, ↓kDD, ↓kR, ↓kIR, ↓kLR, ↓kIIR, ↓kLIR, ↓kDIR, ↓kRIR, ↓kNN, ↓kE, ↓br, ↓bn, ↓rtI, ↓gfv, ↓zchk, lput, ldel, lbad, alA, acat, isRf, dom, dS, dJ, isO, aTy, aLen, elAV, elR, Nat.reduceBEq, Nat.reduceAdd, Bool.or, Bool.and, Nat.add_zero, Nat.zero_add]
          try simp only [Nat.reduceLT, Nat.reduceLeDiff, Nat.reduceEqDiff, true_and, and_true, and_self, Nat.zero_le, Nat.le_refl, true_or, or_true, Bool.false_eq_true, not_false_eq_true, Nat.reduceAdd, Nat.lt_add_one, Nat.zero_lt_one, nI_add, pk_mul, ixL, vpL, ne_eq, reduceIte, wI_sA, sA_same, sA_ne, sA_sA, sA_comm, uI_at, uN_at, enc_at, uI_enc, uI_uI, itn1, itn2, itn3, itn4, itc, itc0, itc1, upM_s, upM_n, hv]
          refine ⟨fun h => absurd h (nI_ge (by omega) (by omega)), fun _ => ?_⟩
          refine V_cV hB hno (q_isLot hc hS0 ho10) rfl (by decide +kernel) cvX11_68 (dom1 rfl) npX11_isLot ⟨by decide, by decide⟩ (Nat.le_of_ble_eq_true rfl) (n' := 0) (by decide) rfl ?_
          refine V_run hB (rt := some .int) (nL := 5) (mc := 0) rfl rfl rfl obX11_pledgeByDueDay_50 ?_
          dsimp only [bX11_pledgeByDueDay_50, ↓wpb, ↓wp1, ↓vI, ↓vL, ↓vD, ↓ldI, ↓ldL, ↓ldD, ↓ldR, ↓k1, ↓k2, ↓kI, ↓kL, ↓kD, ↓kII, ↓kLL, ↓kDD, ↓kR, ↓kIR, ↓kLR, ↓kIIR, ↓kLIR, ↓kDIR, ↓kRIR, ↓kNN, ↓kE, ↓br, ↓bn, ↓rtI, ↓gfv, ↓zchk, lput, ldel, lbad, alA, acat, isRf, dom, dS, dJ, isO, aTy, aLen, elAV, elR, Nat.reduceBEq, Nat.reduceAdd, Bool.or, Bool.and, Nat.add_zero, Nat.zero_add]
          try simp only [Nat.reduceLT, Nat.reduceLeDiff, Nat.reduceEqDiff, true_and, and_true, and_self, Nat.zero_le, Nat.le_refl, true_or, or_true, Bool.false_eq_true, not_false_eq_true, Nat.reduceAdd, Nat.lt_add_one, Nat.zero_lt_one, nI_add, pk_mul, ixL, vpL, ne_eq, reduceIte, wI_sA, sA_same, sA_ne, sA_sA, sA_comm, uI_at, uN_at, enc_at, uI_enc, uI_uI, itn1, itn2, itn3, itn4, itc, itc0, itc1, upM_s, upM_n, bN_0]
          refine ⟨fun hq => ?_, fun hq => ?_⟩
          · have h120 : (it σ.1 o 6 < it σ.1 k 6 ∨ it σ.1 o 6 = it σ.1 k 6 ∧ o < k) → V x (sA τ 30 (uI (τ.1 (30, 0, 0)) 0 (nI 0))) 0 120 [(0, mM), (1, aI p), (2, aI (nI k)), (3, aI (nI (rkU σ.1 k o))), (4, aI (nI o))] [aI (nI 1), aI (nI (rkU σ.1 k o))] := by
              intro hcnd
              rw [if_pos ⟨hq, hcnd⟩] at ih2'
              refine V_run hB (rt := some .int) (nL := 5) (mc := 0) rfl rfl rfl obX11_pledgeByDueDay_120 ?_
              dsimp only [bX11_pledgeByDueDay_120, ↓wpb, ↓wp1, ↓vI, ↓vL, ↓vD, ↓ldI, ↓ldL, ↓ldD, ↓ldR, ↓k1, ↓k2, ↓kI, ↓kL, ↓kD, ↓kII, ↓kLL, ↓kDD, ↓kR, ↓kIR, ↓kLR, ↓kIIR, ↓kLIR, ↓kDIR, ↓kRIR, ↓kNN, ↓kE, ↓br, ↓bn, ↓rtI, ↓gfv, ↓zchk, lput, ldel, lbad, alA, acat, isRf, dom, dS, dJ, isO, aTy, aLen, elAV, elR, Nat.reduceBEq, Nat.reduceAdd, Bool.or, Bool.and, Nat.add_zero, Nat.zero_add]
              try simp only [Nat.reduceLT, Nat.reduceLeDiff, Nat.reduceEqDiff, true_and, and_true, and_self, Nat.zero_le, Nat.le_refl, true_or, or_true, Bool.false_eq_true, not_false_eq_true, Nat.reduceAdd, Nat.lt_add_one, Nat.zero_lt_one, nI_add, pk_mul, ixL, vpL, ne_eq, reduceIte, wI_sA, sA_same, sA_ne, sA_sA, sA_comm, uI_at, uN_at, enc_at, uI_enc, uI_uI, itn1, itn2, itn3, itn4, itc, itc0, itc1, upM_s, upM_n]
              exact ih2' _ (List.forall_mem_cons.mpr ⟨rfl, List.forall_mem_cons.mpr ⟨rfl, List.forall_mem_cons.mpr ⟨rfl, List.forall_mem_cons.mpr ⟨rfl, List.forall_mem_cons.mpr ⟨rfl, fun _ h => absurd h List.not_mem_nil⟩⟩⟩⟩⟩)
            have h115 : (it σ.1 o 6 < it σ.1 k 6 ∨ it σ.1 o 6 = it σ.1 k 6 ∧ o < k) → V x (sA τ 30 (uI (τ.1 (30, 0, 0)) 0 (nI 0))) 0 115 [(0, mM), (1, aI p), (2, aI (nI k)), (3, aI (nI (rkU σ.1 k o))), (4, aI (nI o))] [aI (nI (rkU σ.1 k o))] := by
              intro hcnd
              refine V_run hB (rt := some .int) (nL := 5) (mc := 0) rfl rfl rfl obX11_pledgeByDueDay_115 ?_
              dsimp only [bX11_pledgeByDueDay_115, ↓wpb, ↓wp1, ↓vI, ↓vL, ↓vD, ↓ldI, ↓ldL, ↓ldD, ↓ldR, ↓k1, ↓k2, ↓kI, ↓kL, ↓kD, ↓kII, ↓kLL, ↓kDD, ↓kR, ↓kIR, ↓kLR, ↓kIIR, ↓kLIR, ↓kDIR, ↓kRIR, ↓kNN, ↓kE, ↓br, ↓bn, ↓rtI, ↓gfv, ↓zchk, lput, ldel, lbad, alA, acat, isRf, dom, dS, dJ, isO, aTy, aLen, elAV, elR, Nat.reduceBEq, Nat.reduceAdd, Bool.or, Bool.and, Nat.add_zero, Nat.zero_add]
              try simp only [Nat.reduceLT, Nat.reduceLeDiff, Nat.reduceEqDiff, true_and, and_true, and_self, Nat.zero_le, Nat.le_refl, true_or, or_true, Bool.false_eq_true, not_false_eq_true, Nat.reduceAdd, Nat.lt_add_one, Nat.zero_lt_one, nI_add, pk_mul, ixL, vpL, ne_eq, reduceIte, wI_sA, sA_same, sA_ne, sA_sA, sA_comm, uI_at, uN_at, enc_at, uI_enc, uI_uI, itn1, itn2, itn3, itn4, itc, itc0, itc1, upM_s, upM_n]
              exact h120 hcnd
            have h119 : ¬ (it σ.1 o 6 < it σ.1 k 6 ∨ it σ.1 o 6 = it σ.1 k 6 ∧ o < k) → V x (sA τ 30 (uI (τ.1 (30, 0, 0)) 0 (nI 0))) 0 119 [(0, mM), (1, aI p), (2, aI (nI k)), (3, aI (nI (rkU σ.1 k o))), (4, aI (nI o))] [aI (nI (rkU σ.1 k o))] := by
              intro hcnd
              rw [if_neg (fun q => hcnd q.2)] at ih2'
              refine V_run hB (rt := some .int) (nL := 5) (mc := 0) rfl rfl rfl obX11_pledgeByDueDay_119 ?_
              dsimp only [bX11_pledgeByDueDay_119, ↓wpb, ↓wp1, ↓vI, ↓vL, ↓vD, ↓ldI, ↓ldL, ↓ldD, ↓ldR, ↓k1, ↓k2, ↓kI, ↓kL, ↓kD, ↓kII, ↓kLL, ↓kDD, ↓kR, ↓kIR, ↓kLR, ↓kIIR, ↓kLIR, ↓kDIR, ↓kRIR, ↓kNN, ↓kE, ↓br, ↓bn, ↓rtI, ↓gfv, ↓zchk, lput, ldel, lbad, alA, acat, isRf, dom, dS, dJ, isO, aTy, aLen, elAV, elR, Nat.reduceBEq, Nat.reduceAdd, Bool.or, Bool.and, Nat.add_zero, Nat.zero_add]
              try simp only [Nat.reduceLT, Nat.reduceLeDiff, Nat.reduceEqDiff, true_and, and_true, and_self, Nat.zero_le, Nat.le_refl, true_or, or_true, Bool.false_eq_true, not_false_eq_true, Nat.reduceAdd, Nat.lt_add_one, Nat.zero_lt_one, nI_add, pk_mul, ixL, vpL, ne_eq, reduceIte, wI_sA, sA_same, sA_ne, sA_sA, sA_comm, uI_at, uN_at, enc_at, uI_enc, uI_uI, itn1, itn2, itn3, itn4, itc, itc0, itc1, upM_s, upM_n]
              exact ih2' _ (List.forall_mem_cons.mpr ⟨rfl, List.forall_mem_cons.mpr ⟨rfl, List.forall_mem_cons.mpr ⟨rfl, List.forall_mem_cons.mpr ⟨rfl, List.forall_mem_cons.mpr ⟨rfl, fun _ h => absurd h List.not_mem_nil⟩⟩⟩⟩⟩)
            have hd1 : it σ.1 o 6 ≤ 216000000 := hd1
            have hd2 : it σ.1 k 6 ≤ 216000000 := hd2
            refine V_run hB (rt := some .int) (nL := 5) (mc := 0) rfl rfl rfl obX11_pledgeByDueDay_56 ?_
            dsimp only [bX11_pledgeByDueDay_56, ↓wpb, ↓wp1, ↓vI, ↓vL, ↓vD, ↓ldI, ↓ldL, ↓ldD, ↓ldR, ↓k1, ↓k2, ↓kI, ↓kL, ↓kD, ↓kII, ↓kLL, ↓kDD, ↓kR, ↓kIR, ↓kLR, ↓kIIR, ↓kLIR, ↓kDIR, ↓kRIR, ↓kNN, ↓kE, ↓br, ↓bn, ↓rtI, ↓gfv, ↓zchk, lput, ldel, lbad, alA, acat, isRf, dom, dS, dJ, isO, aTy, aLen, elAV, elR, Nat.reduceBEq, Nat.reduceAdd, Bool.or, Bool.and, Nat.add_zero, Nat.zero_add]
            try simp only [Nat.reduceLT, Nat.reduceLeDiff, Nat.reduceEqDiff, true_and, and_true, and_self, Nat.zero_le, Nat.le_refl, true_or, or_true, Bool.false_eq_true, not_false_eq_true, Nat.reduceAdd, Nat.lt_add_one, Nat.zero_lt_one, nI_add, pk_mul, ixL, vpL, ne_eq, reduceIte, wI_sA, sA_same, sA_ne, sA_sA, sA_comm, uI_at, uN_at, enc_at, uI_enc, uI_uI, itn1, itn2, itn3, itn4, itc, itc0, itc1, upM_s, upM_n]
            refine V_cS hB hno (q_ofN hc _ _ _) rfl (by decide +kernel) csX11_60 npX11_of ⟨by decide, by decide⟩ (Nat.le_of_ble_eq_true rfl) (n' := 0) (by decide) rfl ?_
            refine V_run hB (rt := some .int) (nL := 5) (mc := 0) rfl rfl rfl obX11_pledgeByDueDay_68 ?_
            dsimp only [bX11_pledgeByDueDay_68, ↓wpb, ↓wp1, ↓vI, ↓vL, ↓vD, ↓ldI, ↓ldL, ↓ldD, ↓ldR, ↓k1, ↓k2, ↓kI, ↓kL, ↓kD, ↓kII, ↓kLL, ↓kDD, ↓kR, ↓kIR, ↓kLR, ↓kIIR, ↓kLIR, ↓kDIR, ↓kRIR, ↓kNN, ↓kE, ↓br, ↓bn, ↓rtI, ↓gfv, ↓zchk, lput, ldel, lbad, alA, acat, isRf, dom, dS, dJ, isO, aTy, aLen, elAV, elR, Nat.reduceBEq, Nat.reduceAdd, Bool.or, Bool.and, Nat.add_zero, Nat.zero_add]
            try simp only [Nat.reduceLT, Nat.reduceLeDiff, Nat.reduceEqDiff, true_and, and_true, and_self, Nat.zero_le, Nat.le_refl, true_or, or_true, Bool.false_eq_true, not_false_eq_true, Nat.reduceAdd, Nat.lt_add_one, Nat.zero_lt_one, nI_add, pk_mul, ixL, vpL, ne_eq, reduceIte, wI_sA, sA_same, sA_ne, sA_sA, sA_comm, uI_at, uN_at, enc_at, uI_enc, uI_uI, itn1, itn2, itn3, itn4, itc, itc0, itc1, upM_s, upM_n, hv, ixI (c := 6) ho10 (by omega), vpI (c := 6) ho10 (by omega)]
            refine V_cS hB hno (q_ofN hc _ _ _) rfl (by decide +kernel) csX11_60 npX11_of ⟨by decide, by decide⟩ (Nat.le_of_ble_eq_true rfl) (n' := 0) (by decide) rfl ?_
            refine V_run hB (rt := some .int) (nL := 5) (mc := 0) rfl rfl rfl obX11_pledgeByDueDay_79 ?_
            dsimp only [bX11_pledgeByDueDay_79, ↓wpb, ↓wp1, ↓vI, ↓vL, ↓vD, ↓ldI, ↓ldL, ↓ldD, ↓ldR, ↓k1, ↓k2, ↓kI, ↓kL, ↓kD, ↓kII, ↓kLL, ↓kDD, ↓kR, ↓kIR, ↓kLR, ↓kIIR, ↓kLIR, ↓kDIR, ↓kRIR, ↓kNN, ↓kE, ↓br, ↓bn, ↓rtI, ↓gfv, ↓zchk, lput, ldel, lbad, alA, acat, isRf, dom, dS, dJ, isO, aTy, aLen, elAV, elR, Nat.reduceBEq, Nat.reduceAdd, Bool.or, Bool.and, Nat.add_zero, Nat.zero_add]
            try simp only [Nat.reduceLT, Nat.reduceLeDiff, Nat.reduceEqDiff, true_and, and_true, and_self, Nat.zero_le, Nat.le_refl, true_or, or_true, Bool.false_eq_true, not_false_eq_true, Nat.reduceAdd, Nat.lt_add_one, Nat.zero_lt_one, nI_add, pk_mul, ixL, vpL, ne_eq, reduceIte, wI_sA, sA_same, sA_ne, sA_sA, sA_comm, uI_at, uN_at, enc_at, uI_enc, uI_uI, itn1, itn2, itn3, itn4, itc, itc0, itc1, upM_s, upM_n, hv, ixI (c := 6) hk10 (by omega), vpI (c := 6) hk10 (by omega)]
            refine ⟨fun hlt => h115 (Or.inl ((nI_ltI (show it σ.1 o 6 < 2147483648 by omega) (show it σ.1 k 6 < 2147483648 by omega)).mp hlt)), fun hlt => ?_⟩
            have hlt : ¬ it σ.1 o 6 < it σ.1 k 6 := fun q => hlt ((nI_ltI (show it σ.1 o 6 < 2147483648 by omega) (show it σ.1 k 6 < 2147483648 by omega)).mpr q)
            refine V_cS hB hno (q_ofN hc _ _ _) rfl (by decide +kernel) csX11_60 npX11_of ⟨by decide, by decide⟩ (Nat.le_of_ble_eq_true rfl) (n' := 0) (by decide) rfl ?_
            refine V_run hB (rt := some .int) (nL := 5) (mc := 0) rfl rfl rfl obX11_pledgeByDueDay_94 ?_
            dsimp only [bX11_pledgeByDueDay_94, ↓wpb, ↓wp1, ↓vI, ↓vL, ↓vD, ↓ldI, ↓ldL, ↓ldD, ↓ldR, ↓k1, ↓k2, ↓kI, ↓kL, ↓kD, ↓kII, ↓kLL, ↓kDD, ↓kR, ↓kIR, ↓kLR, ↓kIIR, ↓kLIR, ↓kDIR, ↓kRIR, ↓kNN, ↓kE, ↓br, ↓bn, ↓rtI, ↓gfv, ↓zchk, lput, ldel, lbad, alA, acat, isRf, dom, dS, dJ, isO, aTy, aLen, elAV, elR, Nat.reduceBEq, Nat.reduceAdd, Bool.or, Bool.and, Nat.add_zero, Nat.zero_add]
            try simp only [Nat.reduceLT, Nat.reduceLeDiff, Nat.reduceEqDiff, true_and, and_true, and_self, Nat.zero_le, Nat.le_refl, true_or, or_true, Bool.false_eq_true, not_false_eq_true, Nat.reduceAdd, Nat.lt_add_one, Nat.zero_lt_one, nI_add, pk_mul, ixL, vpL, ne_eq, reduceIte, wI_sA, sA_same, sA_ne, sA_sA, sA_comm, uI_at, uN_at, enc_at, uI_enc, uI_uI, itn1, itn2, itn3, itn4, itc, itc0, itc1, upM_s, upM_n, hv, ixI (c := 6) ho10 (by omega), vpI (c := 6) ho10 (by omega)]
            refine V_cS hB hno (q_ofN hc _ _ _) rfl (by decide +kernel) csX11_60 npX11_of ⟨by decide, by decide⟩ (Nat.le_of_ble_eq_true rfl) (n' := 0) (by decide) rfl ?_
            refine V_run hB (rt := some .int) (nL := 5) (mc := 0) rfl rfl rfl obX11_pledgeByDueDay_105 ?_
            dsimp only [bX11_pledgeByDueDay_105, ↓wpb, ↓wp1, ↓vI, ↓vL, ↓vD, ↓ldI, ↓ldL, ↓ldD, ↓ldR, ↓k1, ↓k2, ↓kI, ↓kL, ↓kD, ↓kII, ↓kLL, ↓kDD, ↓kR, ↓kIR, ↓kLR, ↓kIIR, ↓kLIR, ↓kDIR, ↓kRIR, ↓kNN, ↓kE, ↓br, ↓bn, ↓rtI, ↓gfv, ↓zchk, lput, ldel, lbad, alA, acat, isRf, dom, dS, dJ, isO, aTy, aLen, elAV, elR, Nat.reduceBEq, Nat.reduceAdd, Bool.or, Bool.and, Nat.add_zero, Nat.zero_add]
            try simp only [Nat.reduceLT, Nat.reduceLeDiff, Nat.reduceEqDiff, true_and, and_true, and_self, Nat.zero_le, Nat.le_refl, true_or, or_true, Bool.false_eq_true, not_false_eq_true, Nat.reduceAdd, Nat.lt_add_one, Nat.zero_lt_one, nI_add, pk_mul, ixL, vpL, ne_eq, reduceIte, wI_sA, sA_same, sA_ne, sA_sA, sA_comm, uI_at, uN_at, enc_at, uI_enc, uI_uI, itn1, itn2, itn3, itn4, itc, itc0, itc1, upM_s, upM_n, hv, ixI (c := 6) hk10 (by omega), vpI (c := 6) hk10 (by omega)]
            refine ⟨fun hne => h119 (fun q => ?_), fun heq => ⟨fun hge => h119 (fun q => ?_), fun hge => ?_⟩⟩
            · rcases q with q | q
              · exact hlt q
              · exact hne (congrArg nI q.1)
            · have hge := (nI_leI (by omega) (by omega)).mp hge
              rcases q with q | q
              · exact hlt q
              · omega
            · have hok : o < k := by
                rcases Nat.lt_or_ge o k with q | q
                · exact q
                · exact absurd ((nI_leI (by omega) (by omega)).mpr q) hge
              have heq2 := (nI_eq (show it σ.1 o 6 < 2147483648 by omega) (show it σ.1 k 6 < 2147483648 by omega)).mp heq
              exact h120 (Or.inr ⟨heq2, hok⟩)
          · rw [if_neg (fun q => hq q.1)] at ih2'
            refine V_run hB (rt := some .int) (nL := 5) (mc := 0) rfl rfl rfl obX11_pledgeByDueDay_122 ?_
            dsimp only [bX11_pledgeByDueDay_122, ↓wpb, ↓wp1, ↓vI, ↓vL, ↓vD, ↓ldI, ↓ldL, ↓ldD, ↓ldR, ↓k1, ↓k2, ↓kI, ↓kL, ↓kD, ↓kII, ↓kLL, ↓kDD, ↓kR, ↓kIR, ↓kLR, ↓kIIR, ↓kLIR, ↓kDIR, ↓kRIR, ↓kNN, ↓kE, ↓br, ↓bn, ↓rtI, ↓gfv, ↓zchk, lput, ldel, lbad, alA, acat, isRf, dom, dS, dJ, isO, aTy, aLen, elAV, elR, Nat.reduceBEq, Nat.reduceAdd, Bool.or, Bool.and, Nat.add_zero, Nat.zero_add]
            try simp only [Nat.reduceLT, Nat.reduceLeDiff, Nat.reduceEqDiff, true_and, and_true, and_self, Nat.zero_le, Nat.le_refl, true_or, or_true, Bool.false_eq_true, not_false_eq_true, Nat.reduceAdd, Nat.lt_add_one, Nat.zero_lt_one, nI_add, pk_mul, ixL, vpL, ne_eq, reduceIte, wI_sA, sA_same, sA_ne, sA_sA, sA_comm, uI_at, uN_at, enc_at, uI_enc, uI_uI, itn1, itn2, itn3, itn4, itc, itc0, itc1, upM_s, upM_n]
            exact ih2' _ (List.forall_mem_cons.mpr ⟨rfl, List.forall_mem_cons.mpr ⟨rfl, List.forall_mem_cons.mpr ⟨rfl, List.forall_mem_cons.mpr ⟨rfl, List.forall_mem_cons.mpr ⟨rfl, fun _ h => absurd h List.not_mem_nil⟩⟩⟩⟩⟩)
      refine V_run hB (rt := some .int) (nL := 5) (mc := 0) rfl rfl rfl obX11_pledgeByDueDay_7 ?_
      dsimp only [bX11_pledgeByDueDay_7, ↓wpb, ↓wp1, ↓vI, ↓vL, ↓vD, ↓ldI, ↓ldL, ↓ldD, ↓ldR, ↓k1, ↓k2, ↓kI, ↓kL, ↓kD, ↓kII, ↓kLL, ↓kDD, ↓kR, ↓kIR, ↓kLR, ↓kIIR, ↓kLIR, ↓kDIR, ↓kRIR, ↓kNN, ↓kE, ↓br, ↓bn, ↓rtI, ↓gfv, ↓zchk, lput, ldel, lbad, alA, acat, isRf, dom, dS, dJ, isO, aTy, aLen, elAV, elR, Nat.reduceBEq, Nat.reduceAdd, Bool.or, Bool.and, Nat.add_zero, Nat.zero_add]
      try simp only [Nat.reduceLT, Nat.reduceLeDiff, Nat.reduceEqDiff, true_and, and_true, and_self, Nat.zero_le, Nat.le_refl, true_or, or_true, Bool.false_eq_true, not_false_eq_true, Nat.reduceAdd, Nat.lt_add_one, Nat.zero_lt_one, nI_add, pk_mul, ixL, vpL, ne_eq, reduceIte, wI_sA, sA_same, sA_ne, sA_sA, sA_comm, uI_at, uN_at, enc_at, uI_enc, uI_uI, itn1, itn2, itn3, itn4, itc, itc0, itc1, upM_s, upM_n, hv]
      refine ⟨fun h => absurd h (nI_ge (by omega) (by omega)), fun _ => ?_⟩
      refine V_cV hB hno (q_isLot hc hS0 hk10) rfl (by decide +kernel) cvX11_68 (dom1 rfl) npX11_isLot ⟨by decide, by decide⟩ (Nat.le_of_ble_eq_true rfl) (n' := 0) (by decide) rfl ?_
      refine V_run hB (rt := some .int) (nL := 5) (mc := 0) rfl rfl rfl obX11_pledgeByDueDay_22 ?_
      dsimp only [bX11_pledgeByDueDay_22, ↓wpb, ↓wp1, ↓vI, ↓vL, ↓vD, ↓ldI, ↓ldL, ↓ldD, ↓ldR, ↓k1, ↓k2, ↓kI, ↓kL, ↓kD, ↓kII, ↓kLL, ↓kDD, ↓kR, ↓kIR, ↓kLR, ↓kIIR, ↓kLIR, ↓kDIR, ↓kRIR, ↓kNN, ↓kE, ↓br, ↓bn, ↓rtI, ↓gfv, ↓zchk, lput, ldel, lbad, alA, acat, isRf, dom, dS, dJ, isO, aTy, aLen, elAV, elR, Nat.reduceBEq, Nat.reduceAdd, Bool.or, Bool.and, Nat.add_zero, Nat.zero_add]
      try simp only [Nat.reduceLT, Nat.reduceLeDiff, Nat.reduceEqDiff, true_and, and_true, and_self, Nat.zero_le, Nat.le_refl, true_or, or_true, Bool.false_eq_true, not_false_eq_true, Nat.reduceAdd, Nat.lt_add_one, Nat.zero_lt_one, nI_add, pk_mul, ixL, vpL, ne_eq, reduceIte, wI_sA, sA_same, sA_ne, sA_sA, sA_comm, uI_at, uN_at, enc_at, uI_enc, uI_uI, itn1, itn2, itn3, itn4, itc, itc0, itc1, upM_s, upM_n, bN_0]
      refine ⟨fun hq => ?_, fun hq => h144 (fun q => hq q.1) _ (List.forall_mem_cons.mpr ⟨rfl, List.forall_mem_cons.mpr ⟨rfl, List.forall_mem_cons.mpr ⟨rfl, fun _ h => absurd h List.not_mem_nil⟩⟩⟩)⟩
      refine V_run hB (rt := some .int) (nL := 5) (mc := 0) rfl rfl rfl obX11_pledgeByDueDay_28 ?_
      dsimp only [bX11_pledgeByDueDay_28, ↓wpb, ↓wp1, ↓vI, ↓vL, ↓vD, ↓ldI, ↓ldL, ↓ldD, ↓ldR, ↓k1, ↓k2, ↓kI, ↓kL, ↓kD, ↓kII, ↓kLL, ↓kDD, ↓kR, ↓kIR, ↓kLR, ↓kIIR, ↓kLIR, ↓kDIR, ↓kRIR, ↓kNN, ↓kE, ↓br, ↓bn, ↓rtI, ↓gfv, ↓zchk, lput, ldel, lbad, alA, acat, isRf, dom, dS, dJ, isO, aTy, aLen, elAV, elR, Nat.reduceBEq, Nat.reduceAdd, Bool.or, Bool.and, Nat.add_zero, Nat.zero_add]
      try simp only [Nat.reduceLT, Nat.reduceLeDiff, Nat.reduceEqDiff, true_and, and_true, and_self, Nat.zero_le, Nat.le_refl, true_or, or_true, Bool.false_eq_true, not_false_eq_true, Nat.reduceAdd, Nat.lt_add_one, Nat.zero_lt_one, nI_add, pk_mul, ixL, vpL, ne_eq, reduceIte, wI_sA, sA_same, sA_ne, sA_sA, sA_comm, uI_at, uN_at, enc_at, uI_enc, uI_uI, itn1, itn2, itn3, itn4, itc, itc0, itc1, upM_s, upM_n]
      exact h33 hq (σ.1 4) 0 (by omega) _ (List.forall_mem_cons.mpr ⟨rfl, List.forall_mem_cons.mpr ⟨rfl, List.forall_mem_cons.mpr ⟨rfl, List.forall_mem_cons.mpr ⟨rfl, List.forall_mem_cons.mpr ⟨rfl, fun _ h => absurd h List.not_mem_nil⟩⟩⟩⟩⟩)
  refine V_run hB (rt := some .int) (nL := 5) (mc := 0) rfl rfl rfl obX11_pledgeByDueDay_0 ?_
  dsimp only [bX11_pledgeByDueDay_0, ↓wpb, ↓wp1, ↓vI, ↓vL, ↓vD, ↓ldI, ↓ldL, ↓ldD, ↓ldR, ↓k1, ↓k2, ↓kI, ↓kL, ↓kD, ↓kII, ↓kLL, ↓kDD, ↓kR, ↓kIR, ↓kLR, ↓kIIR, ↓kLIR, ↓kDIR, ↓kRIR, ↓kNN, ↓kE, ↓br, ↓bn, ↓rtI, ↓gfv, ↓zchk, lput, ldel, lbad, alA, acat, isRf, dom, dS, dJ, isO, aTy, aLen, elAV, elR, Nat.reduceBEq, Nat.reduceAdd, Bool.or, Bool.and, Nat.add_zero, Nat.zero_add]
  try simp only [Nat.reduceLT, Nat.reduceLeDiff, Nat.reduceEqDiff, true_and, and_true, and_self, Nat.zero_le, Nat.le_refl, true_or, or_true, Bool.false_eq_true, not_false_eq_true, Nat.reduceAdd, Nat.lt_add_one, Nat.zero_lt_one, nI_add, pk_mul, ixL, vpL, ne_eq, reduceIte, wI_sA, sA_same, sA_ne, sA_sA, sA_comm, uI_at, uN_at, enc_at, uI_enc, uI_uI, itn1, itn2, itn3, itn4, itc, itc0, itc1, upM_s, upM_n]
  exact h7 (σ.1 4) 0 (by omega) rfl _ (List.forall_mem_cons.mpr ⟨rfl, List.forall_mem_cons.mpr ⟨rfl, List.forall_mem_cons.mpr ⟨rfl, fun _ h => absurd h List.not_mem_nil⟩⟩⟩)
end MI
