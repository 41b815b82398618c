/-! ===== the class: redemptions ===== -/
abbrev reM : AV := .inr (6, 0, 0)
def reN (nm : Nm) : Prop := nm.1 = 6 ∨ nm.1 = 13 ∨ nm.1 = 14 ∨ nm.1 = 15 ∨ nm.1 = 16 ∨ nm.1 = 17
theorem ShP.re {τ τ' : Mem} {s : Nat} {a π : Nat → Nat} (h : ShP τ s a π) (hm : Same reN τ τ') : ShP τ' s a π := h.same hm (fun K j hK q => by rcases q with q | q | q | q | q | q <;> simp only at q <;> omega)
theorem cpN_mono (a : Nat → Nat) (p : Int32) (i : Nat) : ∀ k, i ≤ k → cpN a p i ≤ cpN a p k
  | 0, h => by rw [Nat.le_zero.mp h]; exact Nat.le_refl _
  | k + 1, h => by
    by_cases hk : i = k + 1
    · subst hk; exact Nat.le_refl _
    · have := cpN_mono a p i k (by omega)
      show _ ≤ cpN a p k + _
      omega
theorem cpN_lt {a : Nat → Nat} {p : Int32} {i k : Nat} (h : i < k) (hc : cpl a p i = true) : cpN a p i < cpN a p k := by
  have := cpN_mono a p (i + 1) k h
  have e : cpN a p (i + 1) = cpN a p i + (if cpl a p i = true then 1 else 0) := rfl
  rw [if_pos hc] at e
  omega
/-- the rows of what was collected -/
def ClT (τ : Mem) (a : Nat → Nat) (p : Int32) (k : Nat) (D M : Nat → Nat) : Prop := τ.1 (6, 0, 0) 2 = nI (cpN a p k) ∧ ClD a p k D M ∧ ∀ i, i < cpN a p k → (τ.1 (13, 0, 0) i = nI (D i) ∧ τ.1 (14, 0, 0) i = nI (M i)) ∧ D i ≤ 13860 ∧ 1 ≤ M i ∧ M i ≤ 240
section R1
variable {l : Launch} {G : GG} {τ : Mem} {a π : Nat → Nat} {n : Nat} {p : Int32} {D M : Nat → Nat}
theorem c_collect (hc : Ctx l G) (hS : ShP τ 0 a π) (hV : IV n a) (hn : n ≤ 1000) (p : Int32) : Sat l G iX8_collect [reM, shM, aI p] τ (voidP (fun τ' => (∃ D M, ClT τ' a p (a 4) D M) ∧ Same reN τ τ')) := by
  have h10 := hV.1.1
  refine Sat_of hc.1 hc.2 (by decide +kernel) (Nat.le_of_ble_eq_true rfl) (fun x hB hno => ?_)
  have loop : ∀ w i t D M al, i + w = a 4 → Same reN τ t → ClT t a p i D M → (∀ z ∈ [(0, reM), (1, shM), (2, aI p), (3, aI (nI i))], lk al z.1 = some z.2) → V x t 0 7 al [] := by
    intro w
    induction w with
    | zero =>
      intro i t D M al hi hm hT hal
      refine V.sub ?_ hal
      have hi : i = a 4 := by omega
      subst hi
      have g5 := (hS.re hm).1.2.2
      refine V_run hB (rt := none) (nL := 5) (mc := 0) rfl rfl rfl obX8_collect_7 ?_
      dsimp only [bX8_collect_7, ↓wpb, ↓wp1, ↓vI, ↓vL, ↓vD, ↓ldI, ↓ldL, ↓ldD, ↓ldR, ↓k1, ↓k2, ↓kI, ↓kL, ↓kD, ↓kII, ↓kLL, ↓kDD, ↓kR, ↓kIR, ↓kLR, ↓kIIR, ↓kLIR, ↓kDIR, ↓kRIR, ↓kNN, ↓kE, ↓br, ↓bn, ↓rtI, ↓gfv, ↓zchk, lput, ldel, lbad, alA, acat, isRf, dom, dS, dJ, isO, aTy, aLen, elAV, elR, Nat.reduceBEq, Nat.reduceAdd, Bool.or, Bool.and, Nat.add_zero, Nat.zero_add]
      try simp only [Nat.reduceLT, Nat.reduceLeDiff, Nat.reduceEqDiff, true_and, and_true, and_self, Nat.zero_le, Nat.le_refl, true_or, or_true, Bool.false_eq_true, not_false_eq_true, Nat.reduceAdd, Nat.lt_add_one, Nat.zero_lt_one, nI_add, pk_mul, ixL, vpL, ne_eq, reduceIte, wI_sN, wL_sM, sN_same, sN_K, sN_2, sM_1, sM_same, sM_K, sM_s, uI_at, uN_at, enc_at, uI_enc, uI_uI, upM_s, upM_n, g5]
      refine ⟨fun _ => ?_, fun q => absurd (nI_le (by omega) (by omega)) q⟩
      refine V_run hB (rt := none) (nL := 5) (mc := 0) rfl rfl rfl obX8_collect_92 ?_
      dsimp only [bX8_collect_92, ↓wpb, ↓wp1, ↓vI, ↓vL, ↓vD, ↓ldI, ↓ldL, ↓ldD, ↓ldR, ↓k1, ↓k2, ↓kI, ↓kL, ↓kD, ↓kII, ↓kLL, ↓kDD, ↓kR, ↓kIR, ↓kLR, ↓kIIR, ↓kLIR, ↓kDIR, ↓kRIR, ↓kNN, ↓kE, ↓br, ↓bn, ↓rtI, ↓gfv, ↓zchk, lput, ldel, lbad, alA, acat, isRf, dom, dS, dJ, isO, aTy, aLen, elAV, elR, Nat.reduceBEq, Nat.reduceAdd, Bool.or, Bool.and, Nat.add_zero, Nat.zero_add]
      try simp only [Nat.reduceLT, Nat.reduceLeDiff, Nat.reduceEqDiff, true_and, and_true, and_self, Nat.zero_le, Nat.le_refl, true_or, or_true, Bool.false_eq_true, not_false_eq_true, Nat.reduceAdd, Nat.lt_add_one, Nat.zero_lt_one, nI_add, pk_mul, ixL, vpL, ne_eq, reduceIte, wI_sN, wL_sM, sN_same, sN_K, sN_2, sM_1, sM_same, sM_K, sM_s, uI_at, uN_at, enc_at, uI_enc, uI_uI, upM_s, upM_n]
      exact ⟨rfl, ⟨D, M, hT⟩, hm⟩
    | succ w ih =>
      intro i t D M al hi hm hT hal
      refine V.sub ?_ hal
      have hS0 := hS
      have hS := hS.re hm
      have g5 := hS.1.2.2
      have ix : (nI i).toNatClampNeg = i := ixL (by omega)
      have vx : vp_in (nI i) 10 = True := vpL (by omega) (by omega)
      obtain ⟨hp, rp⟩ := hS.2.2.2.1 i (by omega)
      have ip : (nI (π i)).toNatClampNeg = π i := ixL (by omega)
      obtain ⟨⟨f0, f1, f2, f3, f4, f5, f6⟩, fb⟩ := hS.2.2.2.2.2 i (by omega)
      have hN : cpN a p (i + 1) = cpN a p i + (if cpl a p i = true then 1 else 0) := rfl
      have hci : cpl a p i = true ↔ isLot a i = false ∧ nI (it a i 2) = p := by
        unfold cpl
        simp only [Bool.and_eq_true, Bool.not_eq_true', decide_eq_true_eq]
      have k86 : ∀ al, ¬ cpl a p i = true → (∀ z ∈ [(0, reM), (1, shM), (2, aI p), (3, aI (nI i))], lk al z.1 = some z.2) → V x t 0 86 al [] := by
        intro al hq hal
        refine V.sub ?_ hal
        rw [if_neg hq, Nat.add_zero] at hN
        refine V_run hB (rt := none) (nL := 5) (mc := 0) rfl rfl rfl obX8_collect_86 ?_
        dsimp only [bX8_collect_86, ↓wpb, ↓wp1, ↓vI, ↓vL, ↓vD, ↓ldI, ↓ldL, ↓ldD, ↓ldR, ↓k1, ↓k2, ↓kI, ↓kL, ↓kD, ↓kII, ↓kLL, ↓kDD, ↓kR, ↓kIR, ↓kLR, ↓kIIR, ↓kLIR, ↓kDIR, ↓kRIR, ↓kNN, ↓kE, ↓br, ↓bn, ↓rtI, ↓gfv, ↓zchk, lput, ldel, lbad, alA, acat, isRf, dom, dS, dJ, isO, aTy, aLen, elAV, elR, Nat.reduceBEq, Nat.reduceAdd, Bool.or, Bool.and, Nat.add_zero, Nat.zero_add]
        try simp only [Nat.reduceLT, Nat.reduceLeDiff, Nat.reduceEqDiff, true_and, and_true, and_self, Nat.zero_le, Nat.le_refl, true_or, or_true, Bool.false_eq_true, not_false_eq_true, Nat.reduceAdd, Nat.lt_add_one, Nat.zero_lt_one, nI_add, pk_mul, ixL, vpL, ne_eq, reduceIte, wI_sN, wL_sM, sN_same, sN_K, sN_2, sM_1, sM_same, sM_K, sM_s, uI_at, uN_at, enc_at, uI_enc, uI_uI, upM_s, upM_n]
        refine ih (i + 1) t D M _ (by omega) hm ⟨by rw [hN]; exact hT.1, fun j hj hjc => ?_, fun j hj => hT.2.2 j (by omega)⟩ (List.forall_mem_cons.mpr ⟨rfl, List.forall_mem_cons.mpr ⟨rfl, List.forall_mem_cons.mpr ⟨rfl, List.forall_mem_cons.mpr ⟨rfl, fun _ h => absurd h List.not_mem_nil⟩⟩⟩⟩)
        by_cases hji : j = i
        · subst hji; exact absurd hjc hq
        · exact hT.2.1 j (by omega) hjc
      refine V_run hB (rt := none) (nL := 5) (mc := 0) rfl rfl rfl obX8_collect_7 ?_
      dsimp only [bX8_collect_7, ↓wpb, ↓wp1, ↓vI, ↓vL, ↓vD, ↓ldI, ↓ldL, ↓ldD, ↓ldR, ↓k1, ↓k2, ↓kI, ↓kL, ↓kD, ↓kII, ↓kLL, ↓kDD, ↓kR, ↓kIR, ↓kLR, ↓kIIR, ↓kLIR, ↓kDIR, ↓kRIR, ↓kNN, ↓kE, ↓br, ↓bn, ↓rtI, ↓gfv, ↓zchk, lput, ldel, lbad, alA, acat, isRf, dom, dS, dJ, isO, aTy, aLen, elAV, elR, Nat.reduceBEq, Nat.reduceAdd, Bool.or, Bool.and, Nat.add_zero, Nat.zero_add]
      try simp only [Nat.reduceLT, Nat.reduceLeDiff, Nat.reduceEqDiff, true_and, and_true, and_self, Nat.zero_le, Nat.le_refl, true_or, or_true, Bool.false_eq_true, not_false_eq_true, Nat.reduceAdd, Nat.lt_add_one, Nat.zero_lt_one, nI_add, pk_mul, ixL, vpL, ne_eq, reduceIte, wI_sN, wL_sM, sN_same, sN_K, sN_2, sM_1, sM_same, sM_K, sM_s, uI_at, uN_at, enc_at, uI_enc, uI_uI, upM_s, upM_n, g5, ix, vx, hp, rp, ip, f0, f1, f2, f3, f4, f5, f6, lot_0 (hV.l1 (show i < 10 by omega))]
      refine ⟨fun q => absurd q (nI_ge (by omega) (by omega)), fun _ => ⟨fun q => k86 _ (fun z => q (hci.mp z).1) (List.forall_mem_cons.mpr ⟨rfl, List.forall_mem_cons.mpr ⟨rfl, List.forall_mem_cons.mpr ⟨rfl, List.forall_mem_cons.mpr ⟨rfl, fun _ h => absurd h List.not_mem_nil⟩⟩⟩⟩), fun q1 => ⟨fun q => k86 _ (fun z => q (hci.mp z).2) (List.forall_mem_cons.mpr ⟨rfl, List.forall_mem_cons.mpr ⟨rfl, List.forall_mem_cons.mpr ⟨rfl, List.forall_mem_cons.mpr ⟨rfl, fun _ h => absurd h List.not_mem_nil⟩⟩⟩⟩), fun q2 => ?_⟩⟩⟩
      have hcp := hci.mpr ⟨q1, q2⟩
      have hok := hV.okD (e := 0) (show i < a 4 by omega) q1 (by omega)
      have hdb := hV.dbt (show i < a 4 by omega) q1
      have hmn := hV.min i (by omega)
      have hm1 := (hV.1.2.2.1 i (by omega)).2.1
      refine V_cV hB hno (c_interest hc hS hV hn (i := i) (d := 0) (by omega) (by omega) hok) rfl (by decide +kernel) cvX8_52 (dom1 rfl) npX9_interestByDays ⟨by decide, by decide⟩ (Nat.le_of_ble_eq_true rfl) (n' := 0) (by decide) rfl ?_
      have hcN := cpN_le a p i
      have ixc : (nI (cpN a p i)).toNatClampNeg = cpN a p i := ixL (by omega)
      have vxc : vp_in (nI (cpN a p i)) 10 = True := vpL (by omega) (by omega)
      rw [if_pos hcp] at hN
      refine V_run hB (rt := none) (nL := 5) (mc := 0) rfl rfl rfl obX8_collect_60 ?_
      dsimp only [bX8_collect_60, ↓wpb, ↓wp1, ↓vI, ↓vL, ↓vD, ↓ldI, ↓ldL, ↓ldD, ↓ldR, ↓k1, ↓k2, ↓kI, ↓kL, ↓kD, ↓kII, ↓kLL, ↓kDD, ↓kR, ↓kIR, ↓kLR, ↓kIIR, ↓kLIR, ↓kDIR, ↓kRIR, ↓kNN, ↓kE, ↓br, ↓bn, ↓rtI, ↓gfv, ↓zchk, lput, ldel, lbad, alA, acat, isRf, dom, dS, dJ, isO, aTy, aLen, elAV, elR, Nat.reduceBEq, Nat.reduceAdd, Bool.or, Bool.and, Nat.add_zero, Nat.zero_add]
      try simp only [Nat.reduceLT, Nat.reduceLeDiff, Nat.reduceEqDiff, true_and, and_true, and_self, Nat.zero_le, Nat.le_refl, true_or, or_true, Bool.false_eq_true, not_false_eq_true, Nat.reduceAdd, Nat.lt_add_one, Nat.zero_lt_one, nI_add, pk_mul, ixL, vpL, ne_eq, reduceIte, wI_sN, wL_sM, sN_same, sN_K, sN_2, sM_1, sM_same, sM_K, sM_s, uI_at, uN_at, enc_at, uI_enc, uI_uI, upM_s, upM_n, hT.1, ixc, vxc, hp, f2, uI_at, sN_sN]
      refine ih (i + 1) _ (uN D (cpN a p i) (debt a i)) (uN M (cpN a p i) (it a i 3)) _ (by omega) (((hm.sN _ (by unfold reN; omega)).sN _ (by unfold reN; omega)).sN _ (by unfold reN; omega)) ⟨?_, fun j hj hjc => ?_, fun j hj => ?_⟩ (List.forall_mem_cons.mpr ⟨rfl, List.forall_mem_cons.mpr ⟨rfl, List.forall_mem_cons.mpr ⟨rfl, List.forall_mem_cons.mpr ⟨rfl, fun _ h => absurd h List.not_mem_nil⟩⟩⟩⟩)
      · rw [sN_same, hN]; rfl
      · simp only [uN]
        by_cases hji : j = i
        · subst hji; rw [if_pos rfl, if_pos rfl]; exact ⟨rfl, rfl⟩
        · have := cpN_lt (show j < i by omega) hjc
          rw [if_neg (by omega), if_neg (by omega)]
          exact hT.2.1 j (by omega) hjc
      · simp only [sN_K, sN_same, ne_eq, Nat.reduceEqDiff, not_false_eq_true, uI, uN]
        by_cases hji : j = cpN a p i
        · rw [if_pos hji, if_pos hji, if_pos hji, if_pos hji]
          exact ⟨⟨rfl, rfl⟩, hdb, hm1, hmn⟩
        · rw [if_neg hji, if_neg hji, if_neg hji, if_neg hji]
          exact hT.2.2 j (by omega)
  refine V_run hB (rt := none) (nL := 5) (mc := 0) rfl rfl rfl obX8_collect_0 ?_
  dsimp only [bX8_collect_0, ↓wpb, ↓wp1, ↓vI, ↓vL, ↓vD, ↓ldI, ↓ldL, ↓ldD, ↓ldR, ↓k1, ↓k2, ↓kI, ↓kL, ↓kD, ↓kII, ↓kLL, ↓kDD, ↓kR, ↓kIR, ↓kLR, ↓kIIR, ↓kLIR, ↓kDIR, ↓kRIR, ↓kNN, ↓kE, ↓br, ↓bn, ↓rtI, ↓gfv, ↓zchk, lput, ldel, lbad, alA, acat, isRf, dom, dS, dJ, isO, aTy, aLen, elAV, elR, Nat.reduceBEq, Nat.reduceAdd, Bool.or, Bool.and, Nat.add_zero, Nat.zero_add]
  try simp only [Nat.reduceLT, Nat.reduceLeDiff, Nat.reduceEqDiff, true_and, and_true, and_self, Nat.zero_le, Nat.le_refl, true_or, or_true, Bool.false_eq_true, not_false_eq_true, Nat.reduceAdd, Nat.lt_add_one, Nat.zero_lt_one, nI_add, pk_mul, ixL, vpL, ne_eq, reduceIte, wI_sN, wL_sM, sN_same, sN_K, sN_2, sM_1, sM_same, sM_K, sM_s, uI_at, uN_at, enc_at, uI_enc, uI_uI, upM_s, upM_n]
  exact loop (a 4) 0 _ (fun _ => 0) (fun _ => 0) _ (by omega) ((Same.refl _ _).sN _ (Or.inl rfl)) ⟨by rw [sN_same]; rfl, fun j hj => absurd hj (Nat.not_lt_zero _), fun j hj => absurd hj (Nat.not_lt_zero _)⟩ (List.forall_mem_cons.mpr ⟨rfl, List.forall_mem_cons.mpr ⟨rfl, List.forall_mem_cons.mpr ⟨rfl, List.forall_mem_cons.mpr ⟨rfl, fun _ h => absurd h List.not_mem_nil⟩⟩⟩⟩)
theorem c_wholeDebt (hc : Ctx l G) (hT : ClT τ a p (a 4) D M) (h10 : a 4 ≤ 10) : Sat l G iX8_wholeDebt [reM] τ (retI (nI (dcU a p (a 4))) τ) := by
  have hN := cpN_le a p (a 4)
  rw [← dcU_cl hT.2.1]
  refine Sat_of hc.1 hc.2 (by decide +kernel) (Nat.le_of_ble_eq_true rfl) (fun x hB hno => ?_)
  have loop : ∀ w i, i + w = cpN a p (a 4) → V x τ 0 4 [(0, reM), (1, aI (nI (sumU D i))), (2, aI (nI i))] [] := by
    intro w
    induction w with
    | zero =>
      intro i hi
      have hi : i = cpN a p (a 4) := by omega
      subst hi
      refine V_run hB (rt := some .int) (nL := 3) (mc := 0) rfl rfl rfl obX8_wholeDebt_4 ?_
      dsimp only [bX8_wholeDebt_4, ↓wpb, ↓wp1, ↓vI, ↓vL, ↓vD, ↓ldI, ↓ldL, ↓ldD, ↓ldR, ↓k1, ↓k2, ↓kI, ↓kL, ↓kD, ↓kII, ↓kLL, ↓kDD, ↓kR, ↓kIR, ↓kLR, ↓kIIR, ↓kLIR, ↓kDIR, ↓kRIR, ↓kNN, ↓kE, ↓br, ↓bn, ↓rtI, ↓gfv, ↓zchk, lput, ldel, lbad, alA, acat, isRf, dom, dS, dJ, isO, aTy, aLen, elAV, elR, Nat.reduceBEq, Nat.reduceAdd, Bool.or, Bool.and, Nat.add_zero, Nat.zero_add]
      try simp only [Nat.reduceLT, Nat.reduceLeDiff, Nat.reduceEqDiff, true_and, and_true, and_self, Nat.zero_le, Nat.le_refl, true_or, or_true, Bool.false_eq_true, not_false_eq_true, Nat.reduceAdd, Nat.lt_add_one, Nat.zero_lt_one, nI_add, pk_mul, ixL, vpL, ne_eq, reduceIte, wI_sN, wL_sM, sN_same, sN_K, sN_2, sM_1, sM_same, sM_K, sM_s, uI_at, uN_at, enc_at, uI_enc, uI_uI, upM_s, upM_n, hT.1]
      refine ⟨fun _ => ?_, fun q => absurd (nI_le (by omega) (by omega)) q⟩
      refine V_run hB (rt := some .int) (nL := 3) (mc := 0) rfl rfl rfl obX8_wholeDebt_27 ?_
      dsimp only [bX8_wholeDebt_27, ↓wpb, ↓wp1, ↓vI, ↓vL, ↓vD, ↓ldI, ↓ldL, ↓ldD, ↓ldR, ↓k1, ↓k2, ↓kI, ↓kL, ↓kD, ↓kII, ↓kLL, ↓kDD, ↓kR, ↓kIR, ↓kLR, ↓kIIR, ↓kLIR, ↓kDIR, ↓kRIR, ↓kNN, ↓kE, ↓br, ↓bn, ↓rtI, ↓gfv, ↓zchk, lput, ldel, lbad, alA, acat, isRf, dom, dS, dJ, isO, aTy, aLen, elAV, elR, Nat.reduceBEq, Nat.reduceAdd, Bool.or, Bool.and, Nat.add_zero, Nat.zero_add]
      try simp only [Nat.reduceLT, Nat.reduceLeDiff, Nat.reduceEqDiff, true_and, and_true, and_self, Nat.zero_le, Nat.le_refl, true_or, or_true, Bool.false_eq_true, not_false_eq_true, Nat.reduceAdd, Nat.lt_add_one, Nat.zero_lt_one, nI_add, pk_mul, ixL, vpL, ne_eq, reduceIte, wI_sN, wL_sM, sN_same, sN_K, sN_2, sM_1, sM_same, sM_K, sM_s, uI_at, uN_at, enc_at, uI_enc, uI_uI, upM_s, upM_n]
      exact ⟨rfl, rfl⟩
    | succ w ih =>
      intro i hi
      have ix : (nI i).toNatClampNeg = i := ixL (by omega)
      have vx : vp_in (nI i) 10 = True := vpL (by omega) (by omega)
      have r := (hT.2.2 i (by omega)).1.1
      refine V_run hB (rt := some .int) (nL := 3) (mc := 0) rfl rfl rfl obX8_wholeDebt_4 ?_
      dsimp only [bX8_wholeDebt_4, ↓wpb, ↓wp1, ↓vI, ↓vL, ↓vD, ↓ldI, ↓ldL, ↓ldD, ↓ldR, ↓k1, ↓k2, ↓kI, ↓kL, ↓kD, ↓kII, ↓kLL, ↓kDD, ↓kR, ↓kIR, ↓kLR, ↓kIIR, ↓kLIR, ↓kDIR, ↓kRIR, ↓kNN, ↓kE, ↓br, ↓bn, ↓rtI, ↓gfv, ↓zchk, lput, ldel, lbad, alA, acat, isRf, dom, dS, dJ, isO, aTy, aLen, elAV, elR, Nat.reduceBEq, Nat.reduceAdd, Bool.or, Bool.and, Nat.add_zero, Nat.zero_add]
      try simp only [Nat.reduceLT, Nat.reduceLeDiff, Nat.reduceEqDiff, true_and, and_true, and_self, Nat.zero_le, Nat.le_refl, true_or, or_true, Bool.false_eq_true, not_false_eq_true, Nat.reduceAdd, Nat.lt_add_one, Nat.zero_lt_one, nI_add, pk_mul, ixL, vpL, ne_eq, reduceIte, wI_sN, wL_sM, sN_same, sN_K, sN_2, sM_1, sM_same, sM_K, sM_s, uI_at, uN_at, enc_at, uI_enc, uI_uI, upM_s, upM_n, hT.1, ix, vx, r]
      refine ⟨fun q => absurd q (nI_ge (by omega) (by omega)), fun _ => ?_⟩
      exact ih (i + 1) (by omega)
  refine V_run hB (rt := some .int) (nL := 3) (mc := 0) rfl rfl rfl obX8_wholeDebt_0 ?_
  dsimp only [bX8_wholeDebt_0, ↓wpb, ↓wp1, ↓vI, ↓vL, ↓vD, ↓ldI, ↓ldL, ↓ldD, ↓ldR, ↓k1, ↓k2, ↓kI, ↓kL, ↓kD, ↓kII, ↓kLL, ↓kDD, ↓kR, ↓kIR, ↓kLR, ↓kIIR, ↓kLIR, ↓kDIR, ↓kRIR, ↓kNN, ↓kE, ↓br, ↓bn, ↓rtI, ↓gfv, ↓zchk, lput, ldel, lbad, alA, acat, isRf, dom, dS, dJ, isO, aTy, aLen, elAV, elR, Nat.reduceBEq, Nat.reduceAdd, Bool.or, Bool.and, Nat.add_zero, Nat.zero_add]
  try simp only [Nat.reduceLT, Nat.reduceLeDiff, Nat.reduceEqDiff, true_and, and_true, and_self, Nat.zero_le, Nat.le_refl, true_or, or_true, Bool.false_eq_true, not_false_eq_true, Nat.reduceAdd, Nat.lt_add_one, Nat.zero_lt_one, nI_add, pk_mul, ixL, vpL, ne_eq, reduceIte, wI_sN, wL_sM, sN_same, sN_K, sN_2, sM_1, sM_same, sM_K, sM_s, uI_at, uN_at, enc_at, uI_enc, uI_uI, upM_s, upM_n]
  exact loop (cpN a p (a 4)) 0 (by omega)
/-- the sums of the sets of the first i -/
def SeR (τ : Mem) (D M : Nat → Nat) (i s : Nat) : Prop := τ.1 (15, 0, 0) s = nI (sumB D s i) ∧ τ.1 (16, 0, 0) s = nI (sumB M s i)
theorem pow_10 {i : Nat} (h : i ≤ 10) : 2 ^ i ≤ 1024 := Nat.pow_le_pow_right (n := 2) (by omega) h
theorem sumB_up {f : Nat → Nat} {s i : Nat} (h : s < 2 ^ i) : sumB f s (i + 1) = sumB f s i := by
  show sumB f s i + (if s.testBit i = true then f i else 0) = _
  rw [bit_lo h (Nat.le_refl _)]
  rfl
theorem sumB_add {f : Nat → Nat} {s i : Nat} (h : s < 2 ^ i) : sumB f (2 ^ i + s) (i + 1) = sumB f s i + f i := by
  show sumB f (2 ^ i + s) i + (if (2 ^ i + s).testBit i = true then f i else 0) = _
  have hb := bit_add h
  rw [hb, if_pos rfl, if_pos rfl, sumB_congr (s' := s) (fun j hj => by rw [hb, if_neg (by omega), if_pos hj])]
theorem c_fillSets (hc : Ctx l G) (hT : ClT τ a p (a 4) D M) (h10 : a 4 ≤ 10) : Sat l G iX8_fillSets [reM] τ (voidP (fun τ' => (∀ s, s < 2 ^ cpN a p (a 4) → SeR τ' D M (cpN a p (a 4)) s) ∧ ClT τ' a p (a 4) D M ∧ Same reN τ τ')) := by
  have hN := cpN_le a p (a 4)
  refine Sat_of hc.1 hc.2 (by decide +kernel) (Nat.le_of_ble_eq_true rfl) (fun x hB hno => ?_)
  have keep : ∀ (t : Mem) F K, (K = 15 ∨ K = 16) → ClT t a p (a 4) D M → ClT (sN t (K, 0, 0) F) a p (a 4) D M := fun t F K hK h => ⟨by rw [sN_K (by omega)]; exact h.1, h.2.1, fun i hi => by rw [sN_K (by omega), sN_K (by omega)]; exact h.2.2 i hi⟩
  have outer : ∀ w i t al, i + w = cpN a p (a 4) → Same reN τ t → ClT t a p (a 4) D M → (∀ s, s < 2 ^ i → SeR t D M i s) → (∀ z ∈ [(0, reM), (1, aI (nI i))], lk al z.1 = some z.2) → V x t 0 16 al [] := by
    intro w
    induction w with
    | zero =>
      intro i t al hi hm hT hQ hal
      refine V.sub ?_ hal
      have hi : i = cpN a p (a 4) := by omega
      subst hi
      refine V_run hB (rt := none) (nL := 4) (mc := 0) rfl rfl rfl obX8_fillSets_16 ?_
      dsimp only [bX8_fillSets_16, ↓wpb, ↓wp1, ↓vI, ↓vL, ↓vD, ↓ldI, ↓ldL, ↓ldD, ↓ldR, ↓k1, ↓k2, ↓kI, ↓kL, ↓kD, ↓kII, ↓kLL, ↓kDD, ↓kR, ↓kIR, ↓kLR, ↓kIIR, ↓kLIR, ↓kDIR, ↓kRIR, ↓kNN, ↓kE, ↓br, ↓bn, ↓rtI, ↓gfv, ↓zchk, lput, ldel, lbad, alA, acat, isRf, dom, dS, dJ, isO, aTy, aLen, elAV, elR, Nat.reduceBEq, Nat.reduceAdd, Bool.or, Bool.and, Nat.add_zero, Nat.zero_add]
      try simp only [Nat.reduceLT, Nat.reduceLeDiff, Nat.reduceEqDiff, true_and, and_true, and_self, Nat.zero_le, Nat.le_refl, true_or, or_true, Bool.false_eq_true, not_false_eq_true, Nat.reduceAdd, Nat.lt_add_one, Nat.zero_lt_one, nI_add, pk_mul, ixL, vpL, ne_eq, reduceIte, wI_sN, wL_sM, sN_same, sN_K, sN_2, sM_1, sM_same, sM_K, sM_s, uI_at, uN_at, enc_at, uI_enc, uI_uI, upM_s, upM_n, hT.1]
      refine ⟨fun _ => ?_, fun q => absurd (nI_le (by omega) (by omega)) q⟩
      refine V_run hB (rt := none) (nL := 4) (mc := 0) rfl rfl rfl obX8_fillSets_89 ?_
      dsimp only [bX8_fillSets_89, ↓wpb, ↓wp1, ↓vI, ↓vL, ↓vD, ↓ldI, ↓ldL, ↓ldD, ↓ldR, ↓k1, ↓k2, ↓kI, ↓kL, ↓kD, ↓kII, ↓kLL, ↓kDD, ↓kR, ↓kIR, ↓kLR, ↓kIIR, ↓kLIR, ↓kDIR, ↓kRIR, ↓kNN, ↓kE, ↓br, ↓bn, ↓rtI, ↓gfv, ↓zchk, lput, ldel, lbad, alA, acat, isRf, dom, dS, dJ, isO, aTy, aLen, elAV, elR, Nat.reduceBEq, Nat.reduceAdd, Bool.or, Bool.and, Nat.add_zero, Nat.zero_add]
      try simp only [Nat.reduceLT, Nat.reduceLeDiff, Nat.reduceEqDiff, true_and, and_true, and_self, Nat.zero_le, Nat.le_refl, true_or, or_true, Bool.false_eq_true, not_false_eq_true, Nat.reduceAdd, Nat.lt_add_one, Nat.zero_lt_one, nI_add, pk_mul, ixL, vpL, ne_eq, reduceIte, wI_sN, wL_sM, sN_same, sN_K, sN_2, sM_1, sM_same, sM_K, sM_s, uI_at, uN_at, enc_at, uI_enc, uI_uI, upM_s, upM_n]
      exact ⟨rfl, hQ, hT, hm⟩
    | succ w ih =>
      intro i t al hi hm hT hQ hal
      refine V.sub ?_ hal
      have hi10 : i < 10 := by omega
      have s10 := shl10 i (by omega)
      have hp1 : 2 ^ i ≤ 512 := Nat.pow_le_pow_right (n := 2) (by omega) (show i ≤ 9 by omega)
      have ix : (nI i).toNatClampNeg = i := ixL (by omega)
      have vx : vp_in (nI i) 10 = True := vpL (by omega) (by omega)
      refine V_run hB (rt := none) (nL := 4) (mc := 0) rfl rfl rfl obX8_fillSets_16 ?_
      dsimp only [bX8_fillSets_16, ↓wpb, ↓wp1, ↓vI, ↓vL, ↓vD, ↓ldI, ↓ldL, ↓ldD, ↓ldR, ↓k1, ↓k2, ↓kI, ↓kL, ↓kD, ↓kII, ↓kLL, ↓kDD, ↓kR, ↓kIR, ↓kLR, ↓kIIR, ↓kLIR, ↓kDIR, ↓kRIR, ↓kNN, ↓kE, ↓br, ↓bn, ↓rtI, ↓gfv, ↓zchk, lput, ldel, lbad, alA, acat, isRf, dom, dS, dJ, isO, aTy, aLen, elAV, elR, Nat.reduceBEq, Nat.reduceAdd, Bool.or, Bool.and, Nat.add_zero, Nat.zero_add]
      try simp only [Nat.reduceLT, Nat.reduceLeDiff, Nat.reduceEqDiff, true_and, and_true, and_self, Nat.zero_le, Nat.le_refl, true_or, or_true, Bool.false_eq_true, not_false_eq_true, Nat.reduceAdd, Nat.lt_add_one, Nat.zero_lt_one, nI_add, pk_mul, ixL, vpL, ne_eq, reduceIte, wI_sN, wL_sM, sN_same, sN_K, sN_2, sM_1, sM_same, sM_K, sM_s, uI_at, uN_at, enc_at, uI_enc, uI_uI, upM_s, upM_n, hT.1, s10]
      refine ⟨fun q => absurd q (nI_ge (by omega) (by omega)), fun _ => ?_⟩
      have inner : ∀ w2 s t al, s + w2 = 2 ^ i → Same reN τ t → ClT t a p (a 4) D M → (∀ v, v < 2 ^ i → SeR t D M i v) → (∀ v, v < s → SeR t D M (i + 1) (2 ^ i + v)) → (∀ z ∈ [(0, reM), (1, aI (nI i)), (2, aI (nI (2 ^ i))), (3, aI (nI s))], lk al z.1 = some z.2) → V x t 0 30 al [] := by
        intro w2
        induction w2 with
        | zero =>
          intro s t al hs hm hT hQ hR hal
          refine V.sub ?_ hal
          have hs : s = 2 ^ i := by omega
          subst hs
          refine V_run hB (rt := none) (nL := 4) (mc := 0) rfl rfl rfl obX8_fillSets_30 ?_
          dsimp only [bX8_fillSets_30, ↓wpb, ↓wp1, ↓vI, ↓vL, ↓vD, ↓ldI, ↓ldL, ↓ldD, ↓ldR, ↓k1, ↓k2, ↓kI, ↓kL, ↓kD, ↓kII, ↓kLL, ↓kDD, ↓kR, ↓kIR, ↓kLR, ↓kIIR, ↓kLIR, ↓kDIR, ↓kRIR, ↓kNN, ↓kE, ↓br, ↓bn, ↓rtI, ↓gfv, ↓zchk, lput, ldel, lbad, alA, acat, isRf, dom, dS, dJ, isO, aTy, aLen, elAV, elR, Nat.reduceBEq, Nat.reduceAdd, Bool.or, Bool.and, Nat.add_zero, Nat.zero_add]
          try simp only [Nat.reduceLT, Nat.reduceLeDiff, Nat.reduceEqDiff, true_and, and_true, and_self, Nat.zero_le, Nat.le_refl, true_or, or_true, Bool.false_eq_true, not_false_eq_true, Nat.reduceAdd, Nat.lt_add_one, Nat.zero_lt_one, nI_add, pk_mul, ixL, vpL, ne_eq, reduceIte, wI_sN, wL_sM, sN_same, sN_K, sN_2, sM_1, sM_same, sM_K, sM_s, uI_at, uN_at, enc_at, uI_enc, uI_uI, upM_s, upM_n]
          refine ⟨fun _ => ?_, fun q => absurd (nI_le (by omega) (by omega)) q⟩
          refine V_run hB (rt := none) (nL := 4) (mc := 0) rfl rfl rfl obX8_fillSets_83 ?_
          dsimp only [bX8_fillSets_83, ↓wpb, ↓wp1, ↓vI, ↓vL, ↓vD, ↓ldI, ↓ldL, ↓ldD, ↓ldR, ↓k1, ↓k2, ↓kI, ↓kL, ↓kD, ↓kII, ↓kLL, ↓kDD, ↓kR, ↓kIR, ↓kLR, ↓kIIR, ↓kLIR, ↓kDIR, ↓kRIR, ↓kNN, ↓kE, ↓br, ↓bn, ↓rtI, ↓gfv, ↓zchk, lput, ldel, lbad, alA, acat, isRf, dom, dS, dJ, isO, aTy, aLen, elAV, elR, Nat.reduceBEq, Nat.reduceAdd, Bool.or, Bool.and, Nat.add_zero, Nat.zero_add]
          try simp only [Nat.reduceLT, Nat.reduceLeDiff, Nat.reduceEqDiff, true_and, and_true, and_self, Nat.zero_le, Nat.le_refl, true_or, or_true, Bool.false_eq_true, not_false_eq_true, Nat.reduceAdd, Nat.lt_add_one, Nat.zero_lt_one, nI_add, pk_mul, ixL, vpL, ne_eq, reduceIte, wI_sN, wL_sM, sN_same, sN_K, sN_2, sM_1, sM_same, sM_K, sM_s, uI_at, uN_at, enc_at, uI_enc, uI_uI, upM_s, upM_n]
          refine ih (i + 1) t _ (by omega) hm hT (fun v hv => ?_) (List.forall_mem_cons.mpr ⟨rfl, List.forall_mem_cons.mpr ⟨rfl, fun _ h => absurd h List.not_mem_nil⟩⟩)
          by_cases hlo : v < 2 ^ i
          · have := hQ v hlo
            unfold SeR at this ⊢
            rw [sumB_up hlo, sumB_up hlo]
            exact this
          · rw [Nat.pow_succ] at hv
            have := hR (v - 2 ^ i) (by omega)
            rw [show 2 ^ i + (v - 2 ^ i) = v by omega] at this
            exact this
        | succ w2 ih2 =>
          intro s t al hs hm hT hQ hR hal
          refine V.sub ?_ hal
          have hs2 : s < 2 ^ i := by omega
          have ixs : (nI s).toNatClampNeg = s := ixL (by omega)
          have vxs : vp_in (nI s) 1024 = True := vpL (by omega) (by omega)
          have ixa : (nI (2 ^ i + s)).toNatClampNeg = 2 ^ i + s := ixL (by omega)
          have vxa : vp_in (nI (2 ^ i + s)) 1024 = True := vpL (by omega) (by omega)
          obtain ⟨⟨rD, rM⟩, -⟩ := hT.2.2 i (by omega)
          obtain ⟨q1, q2⟩ := hQ s hs2
          refine V_run hB (rt := none) (nL := 4) (mc := 0) rfl rfl rfl obX8_fillSets_30 ?_
          dsimp only [bX8_fillSets_30, ↓wpb, ↓wp1, ↓vI, ↓vL, ↓vD, ↓ldI, ↓ldL, ↓ldD, ↓ldR, ↓k1, ↓k2, ↓kI, ↓kL, ↓kD, ↓kII, ↓kLL, ↓kDD, ↓kR, ↓kIR, ↓kLR, ↓kIIR, ↓kLIR, ↓kDIR, ↓kRIR, ↓kNN, ↓kE, ↓br, ↓bn, ↓rtI, ↓gfv, ↓zchk, lput, ldel, lbad, alA, acat, isRf, dom, dS, dJ, isO, aTy, aLen, elAV, elR, Nat.reduceBEq, Nat.reduceAdd, Bool.or, Bool.and, Nat.add_zero, Nat.zero_add]
          try simp only [Nat.reduceLT, Nat.reduceLeDiff, Nat.reduceEqDiff, true_and, and_true, and_self, Nat.zero_le, Nat.le_refl, true_or, or_true, Bool.false_eq_true, not_false_eq_true, Nat.reduceAdd, Nat.lt_add_one, Nat.zero_lt_one, nI_add, pk_mul, ixL, vpL, ne_eq, reduceIte, wI_sN, wL_sM, sN_same, sN_K, sN_2, sM_1, sM_same, sM_K, sM_s, uI_at, uN_at, enc_at, uI_enc, uI_uI, upM_s, upM_n, ix, vx, ixs, vxs, ixa, vxa, rD, rM, q1, q2]
          refine ⟨fun q => absurd q (nI_ge (by omega) (by omega)), fun _ => ?_⟩
          refine ih2 (s + 1) _ _ (by omega) ((hm.sN _ (by unfold reN; omega)).sN _ (by unfold reN; omega)) (keep _ _ 16 (Or.inr rfl) (keep _ _ 15 (Or.inl rfl) hT)) (fun v hv => ?_) (fun v hv => ?_) (List.forall_mem_cons.mpr ⟨rfl, List.forall_mem_cons.mpr ⟨rfl, List.forall_mem_cons.mpr ⟨rfl, List.forall_mem_cons.mpr ⟨rfl, fun _ h => absurd h List.not_mem_nil⟩⟩⟩⟩)
          · obtain ⟨y1, y2⟩ := hQ v hv
            refine ⟨?_, ?_⟩
            · simp only [sN_K, sN_same, ne_eq, Nat.reduceEqDiff, not_false_eq_true, uI]
              rw [if_neg (by omega)]; exact y1
            · simp only [sN_K, sN_same, ne_eq, Nat.reduceEqDiff, not_false_eq_true, uI]
              rw [if_neg (by omega)]; exact y2
          · refine ⟨?_, ?_⟩
            · simp only [sN_K, sN_same, ne_eq, Nat.reduceEqDiff, not_false_eq_true, uI]
              by_cases hvs : v = s
              · subst hvs; rw [if_pos rfl, sumB_add hs2]
              · rw [if_neg (by omega)]; exact (hR v (by omega)).1
            · simp only [sN_K, sN_same, ne_eq, Nat.reduceEqDiff, not_false_eq_true, uI]
              by_cases hvs : v = s
              · subst hvs; rw [if_pos rfl, sumB_add hs2]
              · rw [if_neg (by omega)]; exact (hR v (by omega)).2
      exact inner (2 ^ i) 0 t _ (by omega) hm hT hQ (fun v hv => absurd hv (Nat.not_lt_zero _)) (List.forall_mem_cons.mpr ⟨rfl, List.forall_mem_cons.mpr ⟨rfl, List.forall_mem_cons.mpr ⟨rfl, List.forall_mem_cons.mpr ⟨rfl, fun _ h => absurd h List.not_mem_nil⟩⟩⟩⟩)
  refine V_run hB (rt := none) (nL := 4) (mc := 0) rfl rfl rfl obX8_fillSets_0 ?_
  dsimp only [bX8_fillSets_0, ↓wpb, ↓wp1, ↓vI, ↓vL, ↓vD, ↓ldI, ↓ldL, ↓ldD, ↓ldR, ↓k1, ↓k2, ↓kI, ↓kL, ↓kD, ↓kII, ↓kLL, ↓kDD, ↓kR, ↓kIR, ↓kLR, ↓kIIR, ↓kLIR, ↓kDIR, ↓kRIR, ↓kNN, ↓kE, ↓br, ↓bn, ↓rtI, ↓gfv, ↓zchk, lput, ldel, lbad, alA, acat, isRf, dom, dS, dJ, isO, aTy, aLen, elAV, elR, Nat.reduceBEq, Nat.reduceAdd, Bool.or, Bool.and, Nat.add_zero, Nat.zero_add]
  try simp only [Nat.reduceLT, Nat.reduceLeDiff, Nat.reduceEqDiff, true_and, and_true, and_self, Nat.zero_le, Nat.le_refl, true_or, or_true, Bool.false_eq_true, not_false_eq_true, Nat.reduceAdd, Nat.lt_add_one, Nat.zero_lt_one, nI_add, pk_mul, ixL, vpL, ne_eq, reduceIte, wI_sN, wL_sM, sN_same, sN_K, sN_2, sM_1, sM_same, sM_K, sM_s, uI_at, uN_at, enc_at, uI_enc, uI_uI, upM_s, upM_n]
  refine outer (cpN a p (a 4)) 0 _ _ (by omega) (((Same.refl _ _).sN _ (by unfold reN; omega)).sN _ (by unfold reN; omega)) (keep _ _ 16 (Or.inr rfl) (keep _ _ 15 (Or.inl rfl) hT)) (fun s hs => ?_) (List.forall_mem_cons.mpr ⟨rfl, List.forall_mem_cons.mpr ⟨rfl, fun _ h => absurd h List.not_mem_nil⟩⟩)
  have hs : s = 0 := by rw [Nat.pow_zero] at hs; omega
  subst hs
  refine ⟨?_, ?_⟩
  · rw [sN_K (by decide), sN_same]; rfl
  · rw [sN_same]; rfl
/-- the most minutes of the first S sets -/
def mbU (D M : Nat → Nat) (k c : Nat) : Nat → Nat
  | 0 => 0
  | s + 1 => if sumB D s k ≤ c then max (mbU D M k c s) (sumB M s k) else mbU D M k c s
theorem mbU_ge {D M : Nat → Nat} {k c : Nat} : ∀ {S s}, s < S → sumB D s k ≤ c → sumB M s k ≤ mbU D M k c S
  | 0, s, h, _ => by omega
  | S + 1, s, h, h1 => by
    by_cases hs : s = S
    · subst hs
      unfold mbU
      rw [if_pos h1]
      omega
    · have := mbU_ge (D := D) (M := M) (show s < S by omega) h1
      unfold mbU
      split <;> omega
theorem sumB_0 (f : Nat → Nat) : ∀ k, sumB f 0 k = 0
  | 0 => rfl
  | k + 1 => by unfold sumB; rw [sumB_0 f k, Nat.zero_testBit]; rfl
theorem mbU_ex {D M : Nat → Nat} {k c : Nat} : ∀ S, ∃ s, sumB D s k ≤ c ∧ sumB M s k = mbU D M k c S
  | 0 => ⟨0, by rw [sumB_0]; omega, sumB_0 M k⟩
  | S + 1 => by
    obtain ⟨s, s1, s2⟩ := mbU_ex (D := D) (M := M) (k := k) (c := c) S
    unfold mbU
    split
    · rename_i q
      by_cases h : mbU D M k c S ≤ sumB M S k
      · exact ⟨S, q, by rw [Nat.max_eq_right h]⟩
      · exact ⟨s, s1, by rw [Nat.max_eq_left (by omega)]; exact s2⟩
    · exact ⟨s, s1, s2⟩
theorem mbU_mx (D M : Nat → Nat) (k c : Nat) : isMx (fun _ => true) D M k c (mbU D M k c (2 ^ k)) := by
  refine ⟨?_, fun d m h hd => ?_⟩
  · obtain ⟨s, s1, s2⟩ := mbU_ex (D := D) (M := M) (k := k) (c := c) (2 ^ k)
    have h := acA_of (ok := fun _ => true) (D := D) (M := M) k (okB_t s k)
    rw [s2] at h
    exact ⟨_, h, s1⟩
  · obtain ⟨s, s1, s2, rfl, rfl⟩ := acA_ex h
    exact mbU_ge s1 hd
theorem mbU_le {D M : Nat → Nat} {k c B : Nat} (h : ∀ s, sumB M s k ≤ B) : ∀ S, mbU D M k c S ≤ B
  | 0 => Nat.zero_le _
  | S + 1 => by
    have h1 := mbU_le (D := D) (c := c) h S
    have h2 := h S
    unfold mbU
    split <;> omega
theorem c_mostSets (hc : Ctx l G) (hT : ClT τ a p (a 4) D M) (h10 : a 4 ≤ 10) {c : Nat} (hcc : c ≤ 9999) : Sat l G iX8_mostBySets [reM, aI (nI c)] τ (intP (nI (moU a p c (2 ^ a 4))) (fun τ' => Same reN τ τ')) := by
  have hN := cpN_le a p (a 4)
  have hmx := mx_cl hT.2.1 (mbU_mx D M (cpN a p (a 4)) c)
  rw [← hmx]
  have hp10 := pow_10 (show cpN a p (a 4) ≤ 10 by omega)
  have hsM : ∀ s, sumB M s (cpN a p (a 4)) ≤ 2400 := fun s => by have := sumB_le (f := M) (B := 240) s (cpN a p (a 4)) (fun i hi => (hT.2.2 i hi).2.2.2); omega
  have hsD : ∀ s, sumB D s (cpN a p (a 4)) ≤ 138600 := fun s => by have := sumB_le (f := D) (B := 13860) s (cpN a p (a 4)) (fun i hi => (hT.2.2 i hi).2.1); omega
  have hml := mbU_le (D := D) (c := c) hsM
  refine Sat_of hc.1 hc.2 (by decide +kernel) (Nat.le_of_ble_eq_true rfl) (fun x hB hno => ?_)
  refine V_run hB (rt := some .int) (nL := 4) (mc := 0) rfl rfl rfl obX8_mostBySets_0 ?_
  dsimp only [bX8_mostBySets_0, ↓wpb, ↓wp1, ↓vI, ↓vL, ↓vD, ↓ldI, ↓ldL, ↓ldD, ↓ldR, ↓k1, ↓k2, ↓kI, ↓kL, ↓kD, ↓kII, ↓kLL, ↓kDD, ↓kR, ↓kIR, ↓kLR, ↓kIIR, ↓kLIR, ↓kDIR, ↓kRIR, ↓kNN, ↓kE, ↓br, ↓bn, ↓rtI, ↓gfv, ↓zchk, lput, ldel, lbad, alA, acat, isRf, dom, dS, dJ, isO, aTy, aLen, elAV, elR, Nat.reduceBEq, Nat.reduceAdd, Bool.or, Bool.and, Nat.add_zero, Nat.zero_add]
  try simp only [Nat.reduceLT, Nat.reduceLeDiff, Nat.reduceEqDiff, true_and, and_true, and_self, Nat.zero_le, Nat.le_refl, true_or, or_true, Bool.false_eq_true, not_false_eq_true, Nat.reduceAdd, Nat.lt_add_one, Nat.zero_lt_one, nI_add, pk_mul, ixL, vpL, ne_eq, reduceIte, wI_sN, wL_sM, sN_same, sN_K, sN_2, sM_1, sM_same, sM_K, sM_s, uI_at, uN_at, enc_at, uI_enc, uI_uI, upM_s, upM_n]
  refine V_callV hB hno (c_fillSets hc hT h10) rfl (by decide +kernel) cvX8_58 (dom1 rfl) npX8_fillSets ⟨by decide, by decide⟩ (Nat.le_of_ble_eq_true rfl) (by decide) ?_ ?_
  rotate_left
  · intro E τ' hq; cases hq.1
  intro v t hq
  obtain ⟨e1, hQ, hT1, hm⟩ := hq
  cases e1
  show V x t 0 4 _ _
  have s10 := shl10 (cpN a p (a 4)) (by omega)
  have loop : ∀ w s, s + w = 2 ^ cpN a p (a 4) → V x t 0 8 [(0, reM), (1, aI (nI c)), (2, aI (nI (mbU D M (cpN a p (a 4)) c s))), (3, aI (nI s))] [] := by
    intro w
    induction w with
    | zero =>
      intro s hs
      have hs : s = 2 ^ cpN a p (a 4) := by omega
      subst hs
      refine V_run hB (rt := some .int) (nL := 4) (mc := 0) rfl rfl rfl obX8_mostBySets_8 ?_
      dsimp only [bX8_mostBySets_8, ↓wpb, ↓wp1, ↓vI, ↓vL, ↓vD, ↓ldI, ↓ldL, ↓ldD, ↓ldR, ↓k1, ↓k2, ↓kI, ↓kL, ↓kD, ↓kII, ↓kLL, ↓kDD, ↓kR, ↓kIR, ↓kLR, ↓kIIR, ↓kLIR, ↓kDIR, ↓kRIR, ↓kNN, ↓kE, ↓br, ↓bn, ↓rtI, ↓gfv, ↓zchk, lput, ldel, lbad, alA, acat, isRf, dom, dS, dJ, isO, aTy, aLen, elAV, elR, Nat.reduceBEq, Nat.reduceAdd, Bool.or, Bool.and, Nat.add_zero, Nat.zero_add]
      try simp only [Nat.reduceLT, Nat.reduceLeDiff, Nat.reduceEqDiff, true_and, and_true, and_self, Nat.zero_le, Nat.le_refl, true_or, or_true, Bool.false_eq_true, not_false_eq_true, Nat.reduceAdd, Nat.lt_add_one, Nat.zero_lt_one, nI_add, pk_mul, ixL, vpL, ne_eq, reduceIte, wI_sN, wL_sM, sN_same, sN_K, sN_2, sM_1, sM_same, sM_K, sM_s, uI_at, uN_at, enc_at, uI_enc, uI_uI, upM_s, upM_n, hT1.1, s10]
      refine ⟨fun _ => ?_, fun q => absurd (nI_le (by omega) (by omega)) q⟩
      refine V_run hB (rt := some .int) (nL := 4) (mc := 0) rfl rfl rfl obX8_mostBySets_45 ?_
      dsimp only [bX8_mostBySets_45, ↓wpb, ↓wp1, ↓vI, ↓vL, ↓vD, ↓ldI, ↓ldL, ↓ldD, ↓ldR, ↓k1, ↓k2, ↓kI, ↓kL, ↓kD, ↓kII, ↓kLL, ↓kDD, ↓kR, ↓kIR, ↓kLR, ↓kIIR, ↓kLIR, ↓kDIR, ↓kRIR, ↓kNN, ↓kE, ↓br, ↓bn, ↓rtI, ↓gfv, ↓zchk, lput, ldel, lbad, alA, acat, isRf, dom, dS, dJ, isO, aTy, aLen, elAV, elR, Nat.reduceBEq, Nat.reduceAdd, Bool.or, Bool.and, Nat.add_zero, Nat.zero_add]
      try simp only [Nat.reduceLT, Nat.reduceLeDiff, Nat.reduceEqDiff, true_and, and_true, and_self, Nat.zero_le, Nat.le_refl, true_or, or_true, Bool.false_eq_true, not_false_eq_true, Nat.reduceAdd, Nat.lt_add_one, Nat.zero_lt_one, nI_add, pk_mul, ixL, vpL, ne_eq, reduceIte, wI_sN, wL_sM, sN_same, sN_K, sN_2, sM_1, sM_same, sM_K, sM_s, uI_at, uN_at, enc_at, uI_enc, uI_uI, upM_s, upM_n]
      exact ⟨rfl, hm⟩
    | succ w ih =>
      intro s hs
      have ix : (nI s).toNatClampNeg = s := ixL (by omega)
      have vx : vp_in (nI s) 1024 = True := vpL (by omega) (by omega)
      obtain ⟨q1, q2⟩ := hQ s (by omega)
      have b1 := hsM s
      have b2 := hsD s
      have b3 := hml s
      have hu : mbU D M (cpN a p (a 4)) c (s + 1) = if sumB D s (cpN a p (a 4)) ≤ c then max (mbU D M (cpN a p (a 4)) c s) (sumB M s (cpN a p (a 4))) else mbU D M (cpN a p (a 4)) c s := rfl
      have ih' := ih (s + 1) (by omega)
      rw [hu] at ih'
      refine V_run hB (rt := some .int) (nL := 4) (mc := 0) rfl rfl rfl obX8_mostBySets_8 ?_
      dsimp only [bX8_mostBySets_8, ↓wpb, ↓wp1, ↓vI, ↓vL, ↓vD, ↓ldI, ↓ldL, ↓ldD, ↓ldR, ↓k1, ↓k2, ↓kI, ↓kL, ↓kD, ↓kII, ↓kLL, ↓kDD, ↓kR, ↓kIR, ↓kLR, ↓kIIR, ↓kLIR, ↓kDIR, ↓kRIR, ↓kNN, ↓kE, ↓br, ↓bn, ↓rtI, ↓gfv, ↓zchk, lput, ldel, lbad, alA, acat, isRf, dom, dS, dJ, isO, aTy, aLen, elAV, elR, Nat.reduceBEq, Nat.reduceAdd, Bool.or, Bool.and, Nat.add_zero, Nat.zero_add]
      try simp only [Nat.reduceLT, Nat.reduceLeDiff, Nat.reduceEqDiff, true_and, and_true, and_self, Nat.zero_le, Nat.le_refl, true_or, or_true, Bool.false_eq_true, not_false_eq_true, Nat.reduceAdd, Nat.lt_add_one, Nat.zero_lt_one, nI_add, pk_mul, ixL, vpL, ne_eq, reduceIte, wI_sN, wL_sM, sN_same, sN_K, sN_2, sM_1, sM_same, sM_K, sM_s, uI_at, uN_at, enc_at, uI_enc, uI_uI, upM_s, upM_n, hT1.1, s10, ix, vx, q1, q2]
      refine ⟨fun q => absurd q (nI_ge (by omega) (by omega)), fun _ => ⟨fun q => ?_, fun q => ?_⟩⟩
      · rw [nI_ltI (by omega) (by omega)] at q
        rw [if_neg (by omega)] at ih'
        refine V_run hB (rt := some .int) (nL := 4) (mc := 0) rfl rfl rfl obX8_mostBySets_39 ?_
        dsimp only [bX8_mostBySets_39, ↓wpb, ↓wp1, ↓vI, ↓vL, ↓vD, ↓ldI, ↓ldL, ↓ldD, ↓ldR, ↓k1, ↓k2, ↓kI, ↓kL, ↓kD, ↓kII, ↓kLL, ↓kDD, ↓kR, ↓kIR, ↓kLR, ↓kIIR, ↓kLIR, ↓kDIR, ↓kRIR, ↓kNN, ↓kE, ↓br, ↓bn, ↓rtI, ↓gfv, ↓zchk, lput, ldel, lbad, alA, acat, isRf, dom, dS, dJ, isO, aTy, aLen, elAV, elR, Nat.reduceBEq, Nat.reduceAdd, Bool.or, Bool.and, Nat.add_zero, Nat.zero_add]
        try simp only [Nat.reduceLT, Nat.reduceLeDiff, Nat.reduceEqDiff, true_and, and_true, and_self, Nat.zero_le, Nat.le_refl, true_or, or_true, Bool.false_eq_true, not_false_eq_true, Nat.reduceAdd, Nat.lt_add_one, Nat.zero_lt_one, nI_add, pk_mul, ixL, vpL, ne_eq, reduceIte, wI_sN, wL_sM, sN_same, sN_K, sN_2, sM_1, sM_same, sM_K, sM_s, uI_at, uN_at, enc_at, uI_enc, uI_uI, upM_s, upM_n]
        exact ih'
      · rw [nI_ltI (by omega) (by omega)] at q
        rw [if_pos (by omega)] at ih'
        refine V_cS hB hno (q_max hc t (a := mbU D M (cpN a p (a 4)) c s) (b := sumB M s (cpN a p (a 4))) (by omega) (by omega)) rfl (by decide +kernel) csX8_61 npJ9_max_7cf53 ⟨by decide, by decide⟩ (Nat.le_of_ble_eq_true rfl) (n' := 0) (by decide) rfl ?_
        refine V_run hB (rt := some .int) (nL := 4) (mc := 0) rfl rfl rfl obX8_mostBySets_38 ?_
        dsimp only [bX8_mostBySets_38, ↓wpb, ↓wp1, ↓vI, ↓vL, ↓vD, ↓ldI, ↓ldL, ↓ldD, ↓ldR, ↓k1, ↓k2, ↓kI, ↓kL, ↓kD, ↓kII, ↓kLL, ↓kDD, ↓kR, ↓kIR, ↓kLR, ↓kIIR, ↓kLIR, ↓kDIR, ↓kRIR, ↓kNN, ↓kE, ↓br, ↓bn, ↓rtI, ↓gfv, ↓zchk, lput, ldel, lbad, alA, acat, isRf, dom, dS, dJ, isO, aTy, aLen, elAV, elR, Nat.reduceBEq, Nat.reduceAdd, Bool.or, Bool.and, Nat.add_zero, Nat.zero_add]
        try simp only [Nat.reduceLT, Nat.reduceLeDiff, Nat.reduceEqDiff, true_and, and_true, and_self, Nat.zero_le, Nat.le_refl, true_or, or_true, Bool.false_eq_true, not_false_eq_true, Nat.reduceAdd, Nat.lt_add_one, Nat.zero_lt_one, nI_add, pk_mul, ixL, vpL, ne_eq, reduceIte, wI_sN, wL_sM, sN_same, sN_K, sN_2, sM_1, sM_same, sM_K, sM_s, uI_at, uN_at, enc_at, uI_enc, uI_uI, upM_s, upM_n]
        exact ih'
  refine V_run hB (rt := some .int) (nL := 4) (mc := 0) rfl rfl rfl obX8_mostBySets_4 ?_
  dsimp only [bX8_mostBySets_4, ↓wpb, ↓wp1, ↓vI, ↓vL, ↓vD, ↓ldI, ↓ldL, ↓ldD, ↓ldR, ↓k1, ↓k2, ↓kI, ↓kL, ↓kD, ↓kII, ↓kLL, ↓kDD, ↓kR, ↓kIR, ↓kLR, ↓kIIR, ↓kLIR, ↓kDIR, ↓kRIR, ↓kNN, ↓kE, ↓br, ↓bn, ↓rtI, ↓gfv, ↓zchk, lput, ldel, lbad, alA, acat, isRf, dom, dS, dJ, isO, aTy, aLen, elAV, elR, Nat.reduceBEq, Nat.reduceAdd, Bool.or, Bool.and, Nat.add_zero, Nat.zero_add]
  try simp only [Nat.reduceLT, Nat.reduceLeDiff, Nat.reduceEqDiff, true_and, and_true, and_self, Nat.zero_le, Nat.le_refl, true_or, or_true, Bool.false_eq_true, not_false_eq_true, Nat.reduceAdd, Nat.lt_add_one, Nat.zero_lt_one, nI_add, pk_mul, ixL, vpL, ne_eq, reduceIte, wI_sN, wL_sM, sN_same, sN_K, sN_2, sM_1, sM_same, sM_K, sM_s, uI_at, uN_at, enc_at, uI_enc, uI_uI, upM_s, upM_n]
  exact loop (2 ^ cpN a p (a 4)) 0 (by omega)
end R1
