/-! ===== the class: the shop read ===== -/
def ItP (τ : Mem) (s : Nat) (a : Nat → Nat) (π : Nat → Nat) : Prop := (∀ i, i < 10 → π i < 10 ∧ τ.1 (10, s, 0) i = nI (π i)) ∧ (∀ i j, i < 10 → j < 10 → π i = π j → i = j) ∧ ∀ i, i < a 4 → I1 (τ.1 (5, s, π i)) (τ.1 (12, s, π i)) (it a i)
def ShP (τ : Mem) (s : Nat) (a : Nat → Nat) (π : Nat → Nat) : Prop := (τ.1 (2, s, 0) 2 = nI (a 1) ∧ τ.1 (2, s, 0) 3 = nI (a 3) ∧ τ.1 (2, s, 0) 5 = nI (a 4)) ∧ CaR τ s a ∧ AcR τ s a ∧ ItP τ s a π
def ShR (τ : Mem) (s : Nat) (a : Nat → Nat) : Prop := ∃ π, ShP τ s a π
abbrev shM : AV := .inr (2, 0, 0)
def itA (π : Nat → Nat) (o : Option Nat) : Option AV := o.map (fun i => .inr (5, 0, π i))
def nul (o : Option AV) : AV := match o with
  | some v => v
  | none => .inl .null
theorem lot_0 {a : Nat → Nat} {i : Nat} (h : it a i 1 ≤ 1) : nI (it a i 1) = 0 ↔ isLot a i = false := by
  rw [show (nI (it a i 1) = 0) = (nI (it a i 1) = nI 0) from rfl, nI_eq (by omega) (by omega)]
  unfold isLot
  rw [beq_eq_false_iff_ne]
  omega
theorem lot_b {a : Nat → Nat} {i : Nat} (h : it a i 1 ≤ 1) (b : Bool) : nI (it a i 1) = nI (bN b) ↔ isLot a i = b := by
  unfold isLot
  cases b
  · rw [show bN false = 0 from rfl, nI_eq (by omega) (by omega), beq_eq_false_iff_ne]
    omega
  · rw [show bN true = 1 from rfl, nI_eq (by omega) (by omega), beq_iff_eq]
theorem nI_n1 {i : Nat} (h : i < 2147483648) : ¬ nI i = -1 := fun z => absurd (z ▸ nI_pos' h) (by decide)
section C3
variable {l : Launch} {G : GG} {τ : Mem} {a π : Nat → Nat} {n : Nat}
theorem IV.lt {n : Nat} {a : Nat → Nat} (h : IV n a) (hn : n ≤ 1000) (k : Nat) : a k < 1073741824 := by have := h.bd hn k; omega
theorem IV.l1 {n : Nat} {a : Nat → Nat} (h : IV n a) {i : Nat} (hi : i < 10) : it a i 1 ≤ 1 := (h.1.2.1 i hi).1
theorem c_indexOf (hc : Ctx l G) (hS : ShP τ 0 a π) (h10 : a 4 ≤ 10) (t : Int32) : Sat l G iX9_indexOf [shM, aI t] τ (retI (oI (find a t)) τ) := by
  have g5 := hS.1.2.2
  refine Sat_of hc.1 hc.2 (by decide +kernel) (Nat.le_of_ble_eq_true rfl) (fun x hB hno => ?_)
  have head : ∀ k i, i + k = a 4 → fnd a t i k = find a t → V x τ 0 2 [(0, shM), (1, aI t), (2, aI (nI i))] [] := by
    intro k
    induction k with
    | zero =>
      intro i hi hR
      refine V_run hB (rt := some .int) (nL := 3) (mc := 0) rfl rfl rfl obX9_indexOf_2 ?_
      dsimp only [bX9_indexOf_2, ↓wpb, ↓wp1, ↓vI, ↓vL, ↓vD, ↓ldI, ↓ldL, ↓ldD, ↓ldR, ↓k1, ↓k2, ↓kI, ↓kL, ↓kD, ↓kII, ↓kLL, ↓kDD, ↓kR, ↓kIR, ↓kLR, ↓kIIR, ↓kLIR, ↓kDIR, ↓kRIR, ↓kNN, ↓kE, ↓br, ↓bn, ↓rtI, ↓gfv, ↓zchk, lput, ldel, lbad, alA, acat, isRf, dom, dS, dJ, isO, aTy, aLen, elAV, elR, Nat.reduceBEq, Nat.reduceAdd, Bool.or, Bool.and, Nat.add_zero, Nat.zero_add]
      try simp only [Nat.reduceLT, Nat.reduceLeDiff, Nat.reduceEqDiff, true_and, and_true, and_self, Nat.zero_le, Nat.le_refl, true_or, or_true, Bool.false_eq_true, not_false_eq_true, Nat.reduceAdd, Nat.lt_add_one, Nat.zero_lt_one, nI_add, pk_mul, ixL, vpL, ne_eq, reduceIte, wI_sN, wL_sM, sN_same, sN_K, sN_2, sM_1, sM_same, sM_K, sM_s, uI_at, uN_at, enc_at, uI_enc, uI_uI, upM_s, upM_n, g5]
      refine ⟨fun _ => ?_, fun q => absurd (nI_le (by omega) (by omega)) q⟩
      refine V_run hB (rt := some .int) (nL := 3) (mc := 0) rfl rfl rfl obX9_indexOf_31 ?_
      dsimp only [bX9_indexOf_31, ↓wpb, ↓wp1, ↓vI, ↓vL, ↓vD, ↓ldI, ↓ldL, ↓ldD, ↓ldR, ↓k1, ↓k2, ↓kI, ↓kL, ↓kD, ↓kII, ↓kLL, ↓kDD, ↓kR, ↓kIR, ↓kLR, ↓kIIR, ↓kLIR, ↓kDIR, ↓kRIR, ↓kNN, ↓kE, ↓br, ↓bn, ↓rtI, ↓gfv, ↓zchk, lput, ldel, lbad, alA, acat, isRf, dom, dS, dJ, isO, aTy, aLen, elAV, elR, Nat.reduceBEq, Nat.reduceAdd, Bool.or, Bool.and, Nat.add_zero, Nat.zero_add]
      try simp only [Nat.reduceLT, Nat.reduceLeDiff, Nat.reduceEqDiff, true_and, and_true, and_self, Nat.zero_le, Nat.le_refl, true_or, or_true, Bool.false_eq_true, not_false_eq_true, Nat.reduceAdd, Nat.lt_add_one, Nat.zero_lt_one, nI_add, pk_mul, ixL, vpL, ne_eq, reduceIte, wI_sN, wL_sM, sN_same, sN_K, sN_2, sM_1, sM_same, sM_K, sM_s, uI_at, uN_at, enc_at, uI_enc, uI_uI, upM_s, upM_n]
      rw [← hR]
      exact ⟨rfl, rfl⟩
    | succ k ih =>
      intro i hi hR
      have ix : (nI i).toNatClampNeg = i := ixL (by omega)
      have vx : vp_in (nI i) 10 = True := vpL (by omega) (by omega)
      obtain ⟨hp, rp⟩ := hS.2.2.2.1 i (by omega)
      have ip : (nI (π i)).toNatClampNeg = π i := ixL (by omega)
      obtain ⟨⟨f0, f1, f2, f3, f4, f5, f6⟩, fb⟩ := hS.2.2.2.2.2 i (by omega)
      have hU : fnd a t i (k + 1) = if nI (it a i 0) = t then some i else fnd a t (i + 1) k := rfl
      rw [hU] at hR
      refine V_run hB (rt := some .int) (nL := 3) (mc := 0) rfl rfl rfl obX9_indexOf_2 ?_
      dsimp only [bX9_indexOf_2, ↓wpb, ↓wp1, ↓vI, ↓vL, ↓vD, ↓ldI, ↓ldL, ↓ldD, ↓ldR, ↓k1, ↓k2, ↓kI, ↓kL, ↓kD, ↓kII, ↓kLL, ↓kDD, ↓kR, ↓kIR, ↓kLR, ↓kIIR, ↓kLIR, ↓kDIR, ↓kRIR, ↓kNN, ↓kE, ↓br, ↓bn, ↓rtI, ↓gfv, ↓zchk, lput, ldel, lbad, alA, acat, isRf, dom, dS, dJ, isO, aTy, aLen, elAV, elR, Nat.reduceBEq, Nat.reduceAdd, Bool.or, Bool.and, Nat.add_zero, Nat.zero_add]
      try simp only [Nat.reduceLT, Nat.reduceLeDiff, Nat.reduceEqDiff, true_and, and_true, and_self, Nat.zero_le, Nat.le_refl, true_or, or_true, Bool.false_eq_true, not_false_eq_true, Nat.reduceAdd, Nat.lt_add_one, Nat.zero_lt_one, nI_add, pk_mul, ixL, vpL, ne_eq, reduceIte, wI_sN, wL_sM, sN_same, sN_K, sN_2, sM_1, sM_same, sM_K, sM_s, uI_at, uN_at, enc_at, uI_enc, uI_uI, upM_s, upM_n, g5, ix, vx, hp, rp, ip, f0, f1, f2, f3, f4, f5, f6]
      refine ⟨fun q => absurd q (nI_ge (by omega) (by omega)), fun _ => ⟨fun q => ?_, fun q => ?_⟩⟩
      · rw [if_neg q] at hR
        refine V_run hB (rt := some .int) (nL := 3) (mc := 0) rfl rfl rfl obX9_indexOf_25 ?_
        dsimp only [bX9_indexOf_25, ↓wpb, ↓wp1, ↓vI, ↓vL, ↓vD, ↓ldI, ↓ldL, ↓ldD, ↓ldR, ↓k1, ↓k2, ↓kI, ↓kL, ↓kD, ↓kII, ↓kLL, ↓kDD, ↓kR, ↓kIR, ↓kLR, ↓kIIR, ↓kLIR, ↓kDIR, ↓kRIR, ↓kNN, ↓kE, ↓br, ↓bn, ↓rtI, ↓gfv, ↓zchk, lput, ldel, lbad, alA, acat, isRf, dom, dS, dJ, isO, aTy, aLen, elAV, elR, Nat.reduceBEq, Nat.reduceAdd, Bool.or, Bool.and, Nat.add_zero, Nat.zero_add]
        try simp only [Nat.reduceLT, Nat.reduceLeDiff, Nat.reduceEqDiff, true_and, and_true, and_self, Nat.zero_le, Nat.le_refl, true_or, or_true, Bool.false_eq_true, not_false_eq_true, Nat.reduceAdd, Nat.lt_add_one, Nat.zero_lt_one, nI_add, pk_mul, ixL, vpL, ne_eq, reduceIte, wI_sN, wL_sM, sN_same, sN_K, sN_2, sM_1, sM_same, sM_K, sM_s, uI_at, uN_at, enc_at, uI_enc, uI_uI, upM_s, upM_n]
        exact ih (i + 1) (by omega) hR
      · rw [if_pos q] at hR
        rw [← hR]
        exact ⟨rfl, rfl⟩
  refine V_run hB (rt := some .int) (nL := 3) (mc := 0) rfl rfl rfl obX9_indexOf_0 ?_
  dsimp only [bX9_indexOf_0, ↓wpb, ↓wp1, ↓vI, ↓vL, ↓vD, ↓ldI, ↓ldL, ↓ldD, ↓ldR, ↓k1, ↓k2, ↓kI, ↓kL, ↓kD, ↓kII, ↓kLL, ↓kDD, ↓kR, ↓kIR, ↓kLR, ↓kIIR, ↓kLIR, ↓kDIR, ↓kRIR, ↓kNN, ↓kE, ↓br, ↓bn, ↓rtI, ↓gfv, ↓zchk, lput, ldel, lbad, alA, acat, isRf, dom, dS, dJ, isO, aTy, aLen, elAV, elR, Nat.reduceBEq, Nat.reduceAdd, Bool.or, Bool.and, Nat.add_zero, Nat.zero_add]
  try simp only [Nat.reduceLT, Nat.reduceLeDiff, Nat.reduceEqDiff, true_and, and_true, and_self, Nat.zero_le, Nat.le_refl, true_or, or_true, Bool.false_eq_true, not_false_eq_true, Nat.reduceAdd, Nat.lt_add_one, Nat.zero_lt_one, nI_add, pk_mul, ixL, vpL, ne_eq, reduceIte, wI_sN, wL_sM, sN_same, sN_K, sN_2, sM_1, sM_same, sM_K, sM_s, uI_at, uN_at, enc_at, uI_enc, uI_uI, upM_s, upM_n]
  exact head (a 4) 0 (by omega) rfl
theorem c_requireItem (hc : Ctx l G) (hS : ShP τ 0 a π) (h10 : a 4 ≤ 10) (t : Int32) : Sat l G iX9_requireItem [shM, aI t] τ (ansO (itA π (find a t)) NSE τ) := by
  refine Sat_of hc.1 hc.2 (by decide +kernel) (Nat.le_of_ble_eq_true rfl) (fun x hB hno => ?_)
  refine V_run hB (rt := some (.object "MinutePawnshop$Item")) (nL := 3) (mc := 1) rfl rfl rfl obX9_requireItem_0 ?_
  dsimp only [bX9_requireItem_0, ↓wpb, ↓wp1, ↓vI, ↓vL, ↓vD, ↓ldI, ↓ldL, ↓ldD, ↓ldR, ↓k1, ↓k2, ↓kI, ↓kL, ↓kD, ↓kII, ↓kLL, ↓kDD, ↓kR, ↓kIR, ↓kLR, ↓kIIR, ↓kLIR, ↓kDIR, ↓kRIR, ↓kNN, ↓kE, ↓br, ↓bn, ↓rtI, ↓gfv, ↓zchk, lput, ldel, lbad, alA, acat, isRf, dom, dS, dJ, isO, aTy, aLen, elAV, elR, Nat.reduceBEq, Nat.reduceAdd, Bool.or, Bool.and, Nat.add_zero, Nat.zero_add]
  try simp only [Nat.reduceLT, Nat.reduceLeDiff, Nat.reduceEqDiff, true_and, and_true, and_self, Nat.zero_le, Nat.le_refl, true_or, or_true, Bool.false_eq_true, not_false_eq_true, Nat.reduceAdd, Nat.lt_add_one, Nat.zero_lt_one, nI_add, pk_mul, ixL, vpL, ne_eq, reduceIte, wI_sN, wL_sM, sN_same, sN_K, sN_2, sM_1, sM_same, sM_K, sM_s, uI_at, uN_at, enc_at, uI_enc, uI_uI, upM_s, upM_n]
  refine V_cV hB hno (c_indexOf hc hS h10 t) rfl (by decide +kernel) cvX9_55 (dom1 rfl) npX9_indexOf ⟨by decide, by decide⟩ (Nat.le_of_ble_eq_true rfl) (n' := 0) (by decide) rfl ?_
  cases ho : find a t with
  | none =>
    rw [ho] at hB
    refine V_run hB (rt := some (.object "MinutePawnshop$Item")) (nL := 3) (mc := 1) rfl rfl rfl obX9_requireItem_5 ?_
    dsimp only [bX9_requireItem_5, ↓wpb, ↓wp1, ↓vI, ↓vL, ↓vD, ↓ldI, ↓ldL, ↓ldD, ↓ldR, ↓k1, ↓k2, ↓kI, ↓kL, ↓kD, ↓kII, ↓kLL, ↓kDD, ↓kR, ↓kIR, ↓kLR, ↓kIIR, ↓kLIR, ↓kDIR, ↓kRIR, ↓kNN, ↓kE, ↓br, ↓bn, ↓rtI, ↓gfv, ↓zchk, lput, ldel, lbad, alA, acat, isRf, dom, dS, dJ, isO, aTy, aLen, elAV, elR, Nat.reduceBEq, Nat.reduceAdd, Bool.or, Bool.and, Nat.add_zero, Nat.zero_add]
    try simp only [Nat.reduceLT, Nat.reduceLeDiff, Nat.reduceEqDiff, true_and, and_true, and_self, Nat.zero_le, Nat.le_refl, true_or, or_true, Bool.false_eq_true, not_false_eq_true, Nat.reduceAdd, Nat.lt_add_one, Nat.zero_lt_one, nI_add, pk_mul, ixL, vpL, ne_eq, reduceIte, wI_sN, wL_sM, sN_same, sN_K, sN_2, sM_1, sM_same, sM_K, sM_s, uI_at, uN_at, enc_at, uI_enc, uI_uI, upM_s, upM_n]
    refine ⟨fun q => absurd rfl q, fun _ => ?_⟩
    refine V_throw hB hno thX9_61_63 ⟨by decide +kernel, by decide +kernel, by decide +kernel, by decide +kernel, by decide +kernel⟩ (by decide) (Nat.le_of_ble_eq_true rfl) ?_
    exact ⟨rfl, rfl⟩
  | some i =>
    have hi := find_lt ho
    have ix : (nI i).toNatClampNeg = i := ixL (by omega)
    have vx : vp_in (nI i) 10 = True := vpL (by omega) (by omega)
    obtain ⟨hp, rp⟩ := hS.2.2.2.1 i (by omega)
    have ip : (nI (π i)).toNatClampNeg = π i := ixL (by omega)
    obtain ⟨⟨f0, f1, f2, f3, f4, f5, f6⟩, fb⟩ := hS.2.2.2.2.2 i (by omega)
    rw [ho] at hB
    rw [oI_some]
    refine V_run hB (rt := some (.object "MinutePawnshop$Item")) (nL := 3) (mc := 1) rfl rfl rfl obX9_requireItem_5 ?_
    dsimp only [bX9_requireItem_5, ↓wpb, ↓wp1, ↓vI, ↓vL, ↓vD, ↓ldI, ↓ldL, ↓ldD, ↓ldR, ↓k1, ↓k2, ↓kI, ↓kL, ↓kD, ↓kII, ↓kLL, ↓kDD, ↓kR, ↓kIR, ↓kLR, ↓kIIR, ↓kLIR, ↓kDIR, ↓kRIR, ↓kNN, ↓kE, ↓br, ↓bn, ↓rtI, ↓gfv, ↓zchk, lput, ldel, lbad, alA, acat, isRf, dom, dS, dJ, isO, aTy, aLen, elAV, elR, Nat.reduceBEq, Nat.reduceAdd, Bool.or, Bool.and, Nat.add_zero, Nat.zero_add]
    try simp only [Nat.reduceLT, Nat.reduceLeDiff, Nat.reduceEqDiff, true_and, and_true, and_self, Nat.zero_le, Nat.le_refl, true_or, or_true, Bool.false_eq_true, not_false_eq_true, Nat.reduceAdd, Nat.lt_add_one, Nat.zero_lt_one, nI_add, pk_mul, ixL, vpL, ne_eq, reduceIte, wI_sN, wL_sM, sN_same, sN_K, sN_2, sM_1, sM_same, sM_K, sM_s, uI_at, uN_at, enc_at, uI_enc, uI_uI, upM_s, upM_n]
    refine ⟨fun _ => ?_, fun q => absurd q (nI_n1 (by omega))⟩
    refine V_run hB (rt := some (.object "MinutePawnshop$Item")) (nL := 3) (mc := 1) rfl rfl rfl obX9_requireItem_21 ?_
    dsimp only [bX9_requireItem_21, ↓wpb, ↓wp1, ↓vI, ↓vL, ↓vD, ↓ldI, ↓ldL, ↓ldD, ↓ldR, ↓k1, ↓k2, ↓kI, ↓kL, ↓kD, ↓kII, ↓kLL, ↓kDD, ↓kR, ↓kIR, ↓kLR, ↓kIIR, ↓kLIR, ↓kDIR, ↓kRIR, ↓kNN, ↓kE, ↓br, ↓bn, ↓rtI, ↓gfv, ↓zchk, lput, ldel, lbad, alA, acat, isRf, dom, dS, dJ, isO, aTy, aLen, elAV, elR, Nat.reduceBEq, Nat.reduceAdd, Bool.or, Bool.and, Nat.add_zero, Nat.zero_add]
    try simp only [Nat.reduceLT, Nat.reduceLeDiff, Nat.reduceEqDiff, true_and, and_true, and_self, Nat.zero_le, Nat.le_refl, true_or, or_true, Bool.false_eq_true, not_false_eq_true, Nat.reduceAdd, Nat.lt_add_one, Nat.zero_lt_one, nI_add, pk_mul, ixL, vpL, ne_eq, reduceIte, wI_sN, wL_sM, sN_same, sN_K, sN_2, sM_1, sM_same, sM_K, sM_s, uI_at, uN_at, enc_at, uI_enc, uI_uI, upM_s, upM_n, ix, vx, hp, rp, ip, f0, f1, f2, f3, f4, f5, f6]
    exact ⟨Or.inl ⟨_, rfl⟩, rfl, rfl⟩
theorem c_requirePledge (hc : Ctx l G) (hS : ShP τ 0 a π) (hV : IV n a) (t : Int32) : Sat l G iX9_requirePledge [shM, aI t] τ (ansO (itA π (findO a t false)) NSE τ) := by
  have h10 := hV.1.1
  refine Sat_of hc.1 hc.2 (by decide +kernel) (Nat.le_of_ble_eq_true rfl) (fun x hB hno => ?_)
  have e23 : findO a t false = none → ∀ al, V x τ 0 23 al [] := by
    intro ho al
    rw [ho] at hB
    refine V_throw hB hno thX9_70_63 ⟨by decide +kernel, by decide +kernel, by decide +kernel, by decide +kernel, by decide +kernel⟩ (by decide) (Nat.le_of_ble_eq_true rfl) ?_
    exact ⟨rfl, rfl⟩
  refine V_run hB (rt := some (.object "MinutePawnshop$Item")) (nL := 3) (mc := 1) rfl rfl rfl obX9_requirePledge_0 ?_
  dsimp only [bX9_requirePledge_0, ↓wpb, ↓wp1, ↓vI, ↓vL, ↓vD, ↓ldI, ↓ldL, ↓ldD, ↓ldR, ↓k1, ↓k2, ↓kI, ↓kL, ↓kD, ↓kII, ↓kLL, ↓kDD, ↓kR, ↓kIR, ↓kLR, ↓kIIR, ↓kLIR, ↓kDIR, ↓kRIR, ↓kNN, ↓kE, ↓br, ↓bn, ↓rtI, ↓gfv, ↓zchk, lput, ldel, lbad, alA, acat, isRf, dom, dS, dJ, isO, aTy, aLen, elAV, elR, Nat.reduceBEq, Nat.reduceAdd, Bool.or, Bool.and, Nat.add_zero, Nat.zero_add]
  try simp only [Nat.reduceLT, Nat.reduceLeDiff, Nat.reduceEqDiff, true_and, and_true, and_self, Nat.zero_le, Nat.le_refl, true_or, or_true, Bool.false_eq_true, not_false_eq_true, Nat.reduceAdd, Nat.lt_add_one, Nat.zero_lt_one, nI_add, pk_mul, ixL, vpL, ne_eq, reduceIte, wI_sN, wL_sM, sN_same, sN_K, sN_2, sM_1, sM_same, sM_K, sM_s, uI_at, uN_at, enc_at, uI_enc, uI_uI, upM_s, upM_n]
  refine V_cV hB hno (c_indexOf hc hS h10 t) rfl (by decide +kernel) cvX9_55 (dom1 rfl) npX9_indexOf ⟨by decide, by decide⟩ (Nat.le_of_ble_eq_true rfl) (n' := 0) (by decide) rfl ?_
  cases ho : find a t with
  | none =>
    have e : findO a t false = none := by unfold findO; rw [ho]
    refine V_run hB (rt := some (.object "MinutePawnshop$Item")) (nL := 3) (mc := 1) rfl rfl rfl obX9_requirePledge_5 ?_
    dsimp only [bX9_requirePledge_5, ↓wpb, ↓wp1, ↓vI, ↓vL, ↓vD, ↓ldI, ↓ldL, ↓ldD, ↓ldR, ↓k1, ↓k2, ↓kI, ↓kL, ↓kD, ↓kII, ↓kLL, ↓kDD, ↓kR, ↓kIR, ↓kLR, ↓kIIR, ↓kLIR, ↓kDIR, ↓kRIR, ↓kNN, ↓kE, ↓br, ↓bn, ↓rtI, ↓gfv, ↓zchk, lput, ldel, lbad, alA, acat, isRf, dom, dS, dJ, isO, aTy, aLen, elAV, elR, Nat.reduceBEq, Nat.reduceAdd, Bool.or, Bool.and, Nat.add_zero, Nat.zero_add]
    try simp only [Nat.reduceLT, Nat.reduceLeDiff, Nat.reduceEqDiff, true_and, and_true, and_self, Nat.zero_le, Nat.le_refl, true_or, or_true, Bool.false_eq_true, not_false_eq_true, Nat.reduceAdd, Nat.lt_add_one, Nat.zero_lt_one, nI_add, pk_mul, ixL, vpL, ne_eq, reduceIte, wI_sN, wL_sM, sN_same, sN_K, sN_2, sM_1, sM_same, sM_K, sM_s, uI_at, uN_at, enc_at, uI_enc, uI_uI, upM_s, upM_n]
    exact ⟨fun _ => e23 e _, fun q => absurd rfl q⟩
  | some i =>
    have hi := find_lt ho
    have ix : (nI i).toNatClampNeg = i := ixL (by omega)
    have vx : vp_in (nI i) 10 = True := vpL (by omega) (by omega)
    obtain ⟨hp, rp⟩ := hS.2.2.2.1 i (by omega)
    have ip : (nI (π i)).toNatClampNeg = π i := ixL (by omega)
    obtain ⟨⟨f0, f1, f2, f3, f4, f5, f6⟩, fb⟩ := hS.2.2.2.2.2 i (by omega)
    rw [oI_some]
    refine V_run hB (rt := some (.object "MinutePawnshop$Item")) (nL := 3) (mc := 1) rfl rfl rfl obX9_requirePledge_5 ?_
    dsimp only [bX9_requirePledge_5, ↓wpb, ↓wp1, ↓vI, ↓vL, ↓vD, ↓ldI, ↓ldL, ↓ldD, ↓ldR, ↓k1, ↓k2, ↓kI, ↓kL, ↓kD, ↓kII, ↓kLL, ↓kDD, ↓kR, ↓kIR, ↓kLR, ↓kIIR, ↓kLIR, ↓kDIR, ↓kRIR, ↓kNN, ↓kE, ↓br, ↓bn, ↓rtI, ↓gfv, ↓zchk, lput, ldel, lbad, alA, acat, isRf, dom, dS, dJ, isO, aTy, aLen, elAV, elR, Nat.reduceBEq, Nat.reduceAdd, Bool.or, Bool.and, Nat.add_zero, Nat.zero_add]
    try simp only [Nat.reduceLT, Nat.reduceLeDiff, Nat.reduceEqDiff, true_and, and_true, and_self, Nat.zero_le, Nat.le_refl, true_or, or_true, Bool.false_eq_true, not_false_eq_true, Nat.reduceAdd, Nat.lt_add_one, Nat.zero_lt_one, nI_add, pk_mul, ixL, vpL, ne_eq, reduceIte, wI_sN, wL_sM, sN_same, sN_K, sN_2, sM_1, sM_same, sM_K, sM_s, uI_at, uN_at, enc_at, uI_enc, uI_uI, upM_s, upM_n, ix, vx, hp, rp, ip, f0, f1, f2, f3, f4, f5, f6, lot_0 (hV.l1 (show i < 10 by omega))]
    refine ⟨fun q => absurd q (nI_n1 (by omega)), fun _ => ⟨fun q => ?_, fun q => ?_⟩⟩
    · have e : findO a t false = some i := by unfold findO; rw [ho]; exact if_pos q
      rw [e] at hB
      refine V_run hB (rt := some (.object "MinutePawnshop$Item")) (nL := 3) (mc := 1) rfl rfl rfl obX9_requirePledge_33 ?_
      dsimp only [bX9_requirePledge_33, ↓wpb, ↓wp1, ↓vI, ↓vL, ↓vD, ↓ldI, ↓ldL, ↓ldD, ↓ldR, ↓k1, ↓k2, ↓kI, ↓kL, ↓kD, ↓kII, ↓kLL, ↓kDD, ↓kR, ↓kIR, ↓kLR, ↓kIIR, ↓kLIR, ↓kDIR, ↓kRIR, ↓kNN, ↓kE, ↓br, ↓bn, ↓rtI, ↓gfv, ↓zchk, lput, ldel, lbad, alA, acat, isRf, dom, dS, dJ, isO, aTy, aLen, elAV, elR, Nat.reduceBEq, Nat.reduceAdd, Bool.or, Bool.and, Nat.add_zero, Nat.zero_add]
      try simp only [Nat.reduceLT, Nat.reduceLeDiff, Nat.reduceEqDiff, true_and, and_true, and_self, Nat.zero_le, Nat.le_refl, true_or, or_true, Bool.false_eq_true, not_false_eq_true, Nat.reduceAdd, Nat.lt_add_one, Nat.zero_lt_one, nI_add, pk_mul, ixL, vpL, ne_eq, reduceIte, wI_sN, wL_sM, sN_same, sN_K, sN_2, sM_1, sM_same, sM_K, sM_s, uI_at, uN_at, enc_at, uI_enc, uI_uI, upM_s, upM_n, ix, vx, hp, rp, ip, f0, f1, f2, f3, f4, f5, f6]
      exact ⟨Or.inl ⟨_, rfl⟩, rfl, rfl⟩
    · have e : findO a t false = none := by unfold findO; rw [ho]; exact if_neg q
      exact e23 e _
theorem c_requireLot (hc : Ctx l G) (hS : ShP τ 0 a π) (hV : IV n a) (t : Int32) : Sat l G iX9_requireLot [shM, aI t] τ (ansO (itA π (findO a t true)) NSE τ) := by
  have h10 := hV.1.1
  refine Sat_of hc.1 hc.2 (by decide +kernel) (Nat.le_of_ble_eq_true rfl) (fun x hB hno => ?_)
  have e23 : findO a t true = none → ∀ al, V x τ 0 23 al [] := by
    intro ho al
    rw [ho] at hB
    refine V_throw hB hno thX9_72_63 ⟨by decide +kernel, by decide +kernel, by decide +kernel, by decide +kernel, by decide +kernel⟩ (by decide) (Nat.le_of_ble_eq_true rfl) ?_
    exact ⟨rfl, rfl⟩
  refine V_run hB (rt := some (.object "MinutePawnshop$Item")) (nL := 3) (mc := 1) rfl rfl rfl obX9_requireLot_0 ?_
  dsimp only [bX9_requireLot_0, ↓wpb, ↓wp1, ↓vI, ↓vL, ↓vD, ↓ldI, ↓ldL, ↓ldD, ↓ldR, ↓k1, ↓k2, ↓kI, ↓kL, ↓kD, ↓kII, ↓kLL, ↓kDD, ↓kR, ↓kIR, ↓kLR, ↓kIIR, ↓kLIR, ↓kDIR, ↓kRIR, ↓kNN, ↓kE, ↓br, ↓bn, ↓rtI, ↓gfv, ↓zchk, lput, ldel, lbad, alA, acat, isRf, dom, dS, dJ, isO, aTy, aLen, elAV, elR, Nat.reduceBEq, Nat.reduceAdd, Bool.or, Bool.and, Nat.add_zero, Nat.zero_add]
  try simp only [Nat.reduceLT, Nat.reduceLeDiff, Nat.reduceEqDiff, true_and, and_true, and_self, Nat.zero_le, Nat.le_refl, true_or, or_true, Bool.false_eq_true, not_false_eq_true, Nat.reduceAdd, Nat.lt_add_one, Nat.zero_lt_one, nI_add, pk_mul, ixL, vpL, ne_eq, reduceIte, wI_sN, wL_sM, sN_same, sN_K, sN_2, sM_1, sM_same, sM_K, sM_s, uI_at, uN_at, enc_at, uI_enc, uI_uI, upM_s, upM_n]
  refine V_cV hB hno (c_indexOf hc hS h10 t) rfl (by decide +kernel) cvX9_55 (dom1 rfl) npX9_indexOf ⟨by decide, by decide⟩ (Nat.le_of_ble_eq_true rfl) (n' := 0) (by decide) rfl ?_
  cases ho : find a t with
  | none =>
    have e : findO a t true = none := by unfold findO; rw [ho]
    refine V_run hB (rt := some (.object "MinutePawnshop$Item")) (nL := 3) (mc := 1) rfl rfl rfl obX9_requireLot_5 ?_
    dsimp only [bX9_requireLot_5, ↓wpb, ↓wp1, ↓vI, ↓vL, ↓vD, ↓ldI, ↓ldL, ↓ldD, ↓ldR, ↓k1, ↓k2, ↓kI, ↓kL, ↓kD, ↓kII, ↓kLL, ↓kDD, ↓kR, ↓kIR, ↓kLR, ↓kIIR, ↓kLIR, ↓kDIR, ↓kRIR, ↓kNN, ↓kE, ↓br, ↓bn, ↓rtI, ↓gfv, ↓zchk, lput, ldel, lbad, alA, acat, isRf, dom, dS, dJ, isO, aTy, aLen, elAV, elR, Nat.reduceBEq, Nat.reduceAdd, Bool.or, Bool.and, Nat.add_zero, Nat.zero_add]
    try simp only [Nat.reduceLT, Nat.reduceLeDiff, Nat.reduceEqDiff, true_and, and_true, and_self, Nat.zero_le, Nat.le_refl, true_or, or_true, Bool.false_eq_true, not_false_eq_true, Nat.reduceAdd, Nat.lt_add_one, Nat.zero_lt_one, nI_add, pk_mul, ixL, vpL, ne_eq, reduceIte, wI_sN, wL_sM, sN_same, sN_K, sN_2, sM_1, sM_same, sM_K, sM_s, uI_at, uN_at, enc_at, uI_enc, uI_uI, upM_s, upM_n]
    exact ⟨fun _ => e23 e _, fun q => absurd rfl q⟩
  | some i =>
    have hi := find_lt ho
    have ix : (nI i).toNatClampNeg = i := ixL (by omega)
    have vx : vp_in (nI i) 10 = True := vpL (by omega) (by omega)
    obtain ⟨hp, rp⟩ := hS.2.2.2.1 i (by omega)
    have ip : (nI (π i)).toNatClampNeg = π i := ixL (by omega)
    obtain ⟨⟨f0, f1, f2, f3, f4, f5, f6⟩, fb⟩ := hS.2.2.2.2.2 i (by omega)
    rw [oI_some]
    refine V_run hB (rt := some (.object "MinutePawnshop$Item")) (nL := 3) (mc := 1) rfl rfl rfl obX9_requireLot_5 ?_
    dsimp only [bX9_requireLot_5, ↓wpb, ↓wp1, ↓vI, ↓vL, ↓vD, ↓ldI, ↓ldL, ↓ldD, ↓ldR, ↓k1, ↓k2, ↓kI, ↓kL, ↓kD, ↓kII, ↓kLL, ↓kDD, ↓kR, ↓kIR, ↓kLR, ↓kIIR, ↓kLIR, ↓kDIR, ↓kRIR, ↓kNN, ↓kE, ↓br, ↓bn, ↓rtI, ↓gfv, ↓zchk, lput, ldel, lbad, alA, acat, isRf, dom, dS, dJ, isO, aTy, aLen, elAV, elR, Nat.reduceBEq, Nat.reduceAdd, Bool.or, Bool.and, Nat.add_zero, Nat.zero_add]
    try simp only [Nat.reduceLT, Nat.reduceLeDiff, Nat.reduceEqDiff, true_and, and_true, and_self, Nat.zero_le, Nat.le_refl, true_or, or_true, Bool.false_eq_true, not_false_eq_true, Nat.reduceAdd, Nat.lt_add_one, Nat.zero_lt_one, nI_add, pk_mul, ixL, vpL, ne_eq, reduceIte, wI_sN, wL_sM, sN_same, sN_K, sN_2, sM_1, sM_same, sM_K, sM_s, uI_at, uN_at, enc_at, uI_enc, uI_uI, upM_s, upM_n, ix, vx, hp, rp, ip, f0, f1, f2, f3, f4, f5, f6, lot_0 (hV.l1 (show i < 10 by omega))]
    refine ⟨fun q => absurd q (nI_n1 (by omega)), fun _ => ⟨fun q => ?_, fun q => ?_⟩⟩
    · have e : findO a t true = some i := by unfold findO; rw [ho]; exact if_pos (by simpa using q)
      rw [e] at hB
      refine V_run hB (rt := some (.object "MinutePawnshop$Item")) (nL := 3) (mc := 1) rfl rfl rfl obX9_requireLot_33 ?_
      dsimp only [bX9_requireLot_33, ↓wpb, ↓wp1, ↓vI, ↓vL, ↓vD, ↓ldI, ↓ldL, ↓ldD, ↓ldR, ↓k1, ↓k2, ↓kI, ↓kL, ↓kD, ↓kII, ↓kLL, ↓kDD, ↓kR, ↓kIR, ↓kLR, ↓kIIR, ↓kLIR, ↓kDIR, ↓kRIR, ↓kNN, ↓kE, ↓br, ↓bn, ↓rtI, ↓gfv, ↓zchk, lput, ldel, lbad, alA, acat, isRf, dom, dS, dJ, isO, aTy, aLen, elAV, elR, Nat.reduceBEq, Nat.reduceAdd, Bool.or, Bool.and, Nat.add_zero, Nat.zero_add]
      try simp only [Nat.reduceLT, Nat.reduceLeDiff, Nat.reduceEqDiff, true_and, and_true, and_self, Nat.zero_le, Nat.le_refl, true_or, or_true, Bool.false_eq_true, not_false_eq_true, Nat.reduceAdd, Nat.lt_add_one, Nat.zero_lt_one, nI_add, pk_mul, ixL, vpL, ne_eq, reduceIte, wI_sN, wL_sM, sN_same, sN_K, sN_2, sM_1, sM_same, sM_K, sM_s, uI_at, uN_at, enc_at, uI_enc, uI_uI, upM_s, upM_n, ix, vx, hp, rp, ip, f0, f1, f2, f3, f4, f5, f6]
      exact ⟨Or.inl ⟨_, rfl⟩, rfl, rfl⟩
    · have e : findO a t true = none := by unfold findO; rw [ho]; exact if_neg (by rw [q]; decide)
      exact e23 e _
theorem c_countOf (hc : Ctx l G) (hS : ShP τ 0 a π) (hV : IV n a) (b : Bool) : Sat l G iX9_countOf [shM, aI (nI (bN b))] τ (retI (nI (cntU a b (a 4))) τ) := by
  have h10 := hV.1.1
  have g5 := hS.1.2.2
  refine Sat_of hc.1 hc.2 (by decide +kernel) (Nat.le_of_ble_eq_true rfl) (fun x hB hno => ?_)
  have head : ∀ k i, i + k = a 4 → V x τ 0 4 [(0, shM), (1, aI (nI (bN b))), (2, aI (nI (cntU a b i))), (3, aI (nI i))] [] := by
    intro k
    induction k with
    | zero =>
      intro i hi
      have hi : i = a 4 := by omega
      subst hi
      refine V_run hB (rt := some .int) (nL := 4) (mc := 0) rfl rfl rfl obX9_countOf_4 ?_
      dsimp only [bX9_countOf_4, ↓wpb, ↓wp1, ↓vI, ↓vL, ↓vD, ↓ldI, ↓ldL, ↓ldD, ↓ldR, ↓k1, ↓k2, ↓kI, ↓kL, ↓kD, ↓kII, ↓kLL, ↓kDD, ↓kR, ↓kIR, ↓kLR, ↓kIIR, ↓kLIR, ↓kDIR, ↓kRIR, ↓kNN, ↓kE, ↓br, ↓bn, ↓rtI, ↓gfv, ↓zchk, lput, ldel, lbad, alA, acat, isRf, dom, dS, dJ, isO, aTy, aLen, elAV, elR, Nat.reduceBEq, Nat.reduceAdd, Bool.or, Bool.and, Nat.add_zero, Nat.zero_add]
      try simp only [Nat.reduceLT, Nat.reduceLeDiff, Nat.reduceEqDiff, true_and, and_true, and_self, Nat.zero_le, Nat.le_refl, true_or, or_true, Bool.false_eq_true, not_false_eq_true, Nat.reduceAdd, Nat.lt_add_one, Nat.zero_lt_one, nI_add, pk_mul, ixL, vpL, ne_eq, reduceIte, wI_sN, wL_sM, sN_same, sN_K, sN_2, sM_1, sM_same, sM_K, sM_s, uI_at, uN_at, enc_at, uI_enc, uI_uI, upM_s, upM_n, g5]
      refine ⟨fun _ => ?_, fun q => absurd (nI_le (by omega) (by omega)) q⟩
      refine V_run hB (rt := some .int) (nL := 4) (mc := 0) rfl rfl rfl obX9_countOf_34 ?_
      dsimp only [bX9_countOf_34, ↓wpb, ↓wp1, ↓vI, ↓vL, ↓vD, ↓ldI, ↓ldL, ↓ldD, ↓ldR, ↓k1, ↓k2, ↓kI, ↓kL, ↓kD, ↓kII, ↓kLL, ↓kDD, ↓kR, ↓kIR, ↓kLR, ↓kIIR, ↓kLIR, ↓kDIR, ↓kRIR, ↓kNN, ↓kE, ↓br, ↓bn, ↓rtI, ↓gfv, ↓zchk, lput, ldel, lbad, alA, acat, isRf, dom, dS, dJ, isO, aTy, aLen, elAV, elR, Nat.reduceBEq, Nat.reduceAdd, Bool.or, Bool.and, Nat.add_zero, Nat.zero_add]
      try simp only [Nat.reduceLT, Nat.reduceLeDiff, Nat.reduceEqDiff, true_and, and_true, and_self, Nat.zero_le, Nat.le_refl, true_or, or_true, Bool.false_eq_true, not_false_eq_true, Nat.reduceAdd, Nat.lt_add_one, Nat.zero_lt_one, nI_add, pk_mul, ixL, vpL, ne_eq, reduceIte, wI_sN, wL_sM, sN_same, sN_K, sN_2, sM_1, sM_same, sM_K, sM_s, uI_at, uN_at, enc_at, uI_enc, uI_uI, upM_s, upM_n]
      exact ⟨rfl, rfl⟩
    | succ k ih =>
      intro i hi
      have ix : (nI i).toNatClampNeg = i := ixL (by omega)
      have vx : vp_in (nI i) 10 = True := vpL (by omega) (by omega)
      obtain ⟨hp, rp⟩ := hS.2.2.2.1 i (by omega)
      have ip : (nI (π i)).toNatClampNeg = π i := ixL (by omega)
      obtain ⟨⟨f0, f1, f2, f3, f4, f5, f6⟩, fb⟩ := hS.2.2.2.2.2 i (by omega)
      have ih' := ih (i + 1) (by omega)
      have hu : cntU a b (i + 1) = cntU a b i + (if isLot a i = b then 1 else 0) := rfl
      rw [hu] at ih'
      refine V_run hB (rt := some .int) (nL := 4) (mc := 0) rfl rfl rfl obX9_countOf_4 ?_
      dsimp only [bX9_countOf_4, ↓wpb, ↓wp1, ↓vI, ↓vL, ↓vD, ↓ldI, ↓ldL, ↓ldD, ↓ldR, ↓k1, ↓k2, ↓kI, ↓kL, ↓kD, ↓kII, ↓kLL, ↓kDD, ↓kR, ↓kIR, ↓kLR, ↓kIIR, ↓kLIR, ↓kDIR, ↓kRIR, ↓kNN, ↓kE, ↓br, ↓bn, ↓rtI, ↓gfv, ↓zchk, lput, ldel, lbad, alA, acat, isRf, dom, dS, dJ, isO, aTy, aLen, elAV, elR, Nat.reduceBEq, Nat.reduceAdd, Bool.or, Bool.and, Nat.add_zero, Nat.zero_add]
      try simp only [Nat.reduceLT, Nat.reduceLeDiff, Nat.reduceEqDiff, true_and, and_true, and_self, Nat.zero_le, Nat.le_refl, true_or, or_true, Bool.false_eq_true, not_false_eq_true, Nat.reduceAdd, Nat.lt_add_one, Nat.zero_lt_one, nI_add, pk_mul, ixL, vpL, ne_eq, reduceIte, wI_sN, wL_sM, sN_same, sN_K, sN_2, sM_1, sM_same, sM_K, sM_s, uI_at, uN_at, enc_at, uI_enc, uI_uI, upM_s, upM_n, g5, ix, vx, hp, rp, ip, f0, f1, f2, f3, f4, f5, f6, lot_b (hV.l1 (show i < 10 by omega)) b]
      refine ⟨fun q => absurd q (nI_ge (by omega) (by omega)), fun _ => ⟨fun q => ?_, fun q => ?_⟩⟩
      · rw [if_neg q] at ih'
        refine V_run hB (rt := some .int) (nL := 4) (mc := 0) rfl rfl rfl obX9_countOf_28 ?_
        dsimp only [bX9_countOf_28, ↓wpb, ↓wp1, ↓vI, ↓vL, ↓vD, ↓ldI, ↓ldL, ↓ldD, ↓ldR, ↓k1, ↓k2, ↓kI, ↓kL, ↓kD, ↓kII, ↓kLL, ↓kDD, ↓kR, ↓kIR, ↓kLR, ↓kIIR, ↓kLIR, ↓kDIR, ↓kRIR, ↓kNN, ↓kE, ↓br, ↓bn, ↓rtI, ↓gfv, ↓zchk, lput, ldel, lbad, alA, acat, isRf, dom, dS, dJ, isO, aTy, aLen, elAV, elR, Nat.reduceBEq, Nat.reduceAdd, Bool.or, Bool.and, Nat.add_zero, Nat.zero_add]
        try simp only [Nat.reduceLT, Nat.reduceLeDiff, Nat.reduceEqDiff, true_and, and_true, and_self, Nat.zero_le, Nat.le_refl, true_or, or_true, Bool.false_eq_true, not_false_eq_true, Nat.reduceAdd, Nat.lt_add_one, Nat.zero_lt_one, nI_add, pk_mul, ixL, vpL, ne_eq, reduceIte, wI_sN, wL_sM, sN_same, sN_K, sN_2, sM_1, sM_same, sM_K, sM_s, uI_at, uN_at, enc_at, uI_enc, uI_uI, upM_s, upM_n]
        exact ih'
      · rw [if_pos q] at ih'
        exact ih'
  refine V_run hB (rt := some .int) (nL := 4) (mc := 0) rfl rfl rfl obX9_countOf_0 ?_
  dsimp only [bX9_countOf_0, ↓wpb, ↓wp1, ↓vI, ↓vL, ↓vD, ↓ldI, ↓ldL, ↓ldD, ↓ldR, ↓k1, ↓k2, ↓kI, ↓kL, ↓kD, ↓kII, ↓kLL, ↓kDD, ↓kR, ↓kIR, ↓kLR, ↓kIIR, ↓kLIR, ↓kDIR, ↓kRIR, ↓kNN, ↓kE, ↓br, ↓bn, ↓rtI, ↓gfv, ↓zchk, lput, ldel, lbad, alA, acat, isRf, dom, dS, dJ, isO, aTy, aLen, elAV, elR, Nat.reduceBEq, Nat.reduceAdd, Bool.or, Bool.and, Nat.add_zero, Nat.zero_add]
  try simp only [Nat.reduceLT, Nat.reduceLeDiff, Nat.reduceEqDiff, true_and, and_true, and_self, Nat.zero_le, Nat.le_refl, true_or, or_true, Bool.false_eq_true, not_false_eq_true, Nat.reduceAdd, Nat.lt_add_one, Nat.zero_lt_one, nI_add, pk_mul, ixL, vpL, ne_eq, reduceIte, wI_sN, wL_sM, sN_same, sN_K, sN_2, sM_1, sM_same, sM_K, sM_s, uI_at, uN_at, enc_at, uI_enc, uI_uI, upM_s, upM_n]
  exact head (a 4) 0 (by omega)
/-- the item at a place among its like; none at a place below 0 -/
def plcI (a : Nat → Nat) (b : Bool) (p : Int32) : Option Nat := if p < 0 then none else plc a b p.toNatClampNeg 0 (a 4)
theorem c_nthOf (hc : Ctx l G) (hS : ShP τ 0 a π) (hV : IV n a) (b : Bool) (p : Int32) : Sat l G iX9_nthOf [shM, aI (nI (bN b)), aI p] τ (retA (nul (itA π (plcI a b p))) τ) := by
  have h10 := hV.1.1
  have g5 := hS.1.2.2
  refine Sat_of hc.1 hc.2 (by decide +kernel) (Nat.le_of_ble_eq_true rfl) (fun x hB hno => ?_)
  have fin : plcI a b p = none → ∀ al, V x τ 0 50 al [] := by
    intro e al
    rw [e] at hB
    refine V_run hB (rt := some (.object "MinutePawnshop$Item")) (nL := 5) (mc := 0) rfl rfl rfl obX9_nthOf_50 ?_
    dsimp only [bX9_nthOf_50, ↓wpb, ↓wp1, ↓vI, ↓vL, ↓vD, ↓ldI, ↓ldL, ↓ldD, ↓ldR, ↓k1, ↓k2, ↓kI, ↓kL, ↓kD, ↓kII, ↓kLL, ↓kDD, ↓kR, ↓kIR, ↓kLR, ↓kIIR, ↓kLIR, ↓kDIR, ↓kRIR, ↓kNN, ↓kE, ↓br, ↓bn, ↓rtI, ↓gfv, ↓zchk, lput, ldel, lbad, alA, acat, isRf, dom, dS, dJ, isO, aTy, aLen, elAV, elR, Nat.reduceBEq, Nat.reduceAdd, Bool.or, Bool.and, Nat.add_zero, Nat.zero_add]
    try simp only [Nat.reduceLT, Nat.reduceLeDiff, Nat.reduceEqDiff, true_and, and_true, and_self, Nat.zero_le, Nat.le_refl, true_or, or_true, Bool.false_eq_true, not_false_eq_true, Nat.reduceAdd, Nat.lt_add_one, Nat.zero_lt_one, nI_add, pk_mul, ixL, vpL, ne_eq, reduceIte, wI_sN, wL_sM, sN_same, sN_K, sN_2, sM_1, sM_same, sM_K, sM_s, uI_at, uN_at, enc_at, uI_enc, uI_uI, upM_s, upM_n]
    exact ⟨Or.inl ⟨_, rfl⟩, rfl, rfl⟩
  have head : ∀ k i q, i + k = a 4 → q ≤ i → ((p < 0 ∧ plcI a b p = none) ∨ ∃ P, P < 2147483648 ∧ p = nI P ∧ q ≤ P ∧ plc a b (P - q) i k = plcI a b p) → V x τ 0 5 [(0, shM), (1, aI (nI (bN b))), (2, aI p), (3, aI (nI q)), (4, aI (nI i))] [] := by
    intro k
    induction k with
    | zero =>
      intro i q hi hq hR
      refine V_run hB (rt := some (.object "MinutePawnshop$Item")) (nL := 5) (mc := 0) rfl rfl rfl obX9_nthOf_5 ?_
      dsimp only [bX9_nthOf_5, ↓wpb, ↓wp1, ↓vI, ↓vL, ↓vD, ↓ldI, ↓ldL, ↓ldD, ↓ldR, ↓k1, ↓k2, ↓kI, ↓kL, ↓kD, ↓kII, ↓kLL, ↓kDD, ↓kR, ↓kIR, ↓kLR, ↓kIIR, ↓kLIR, ↓kDIR, ↓kRIR, ↓kNN, ↓kE, ↓br, ↓bn, ↓rtI, ↓gfv, ↓zchk, lput, ldel, lbad, alA, acat, isRf, dom, dS, dJ, isO, aTy, aLen, elAV, elR, Nat.reduceBEq, Nat.reduceAdd, Bool.or, Bool.and, Nat.add_zero, Nat.zero_add]
      try simp only [Nat.reduceLT, Nat.reduceLeDiff, Nat.reduceEqDiff, true_and, and_true, and_self, Nat.zero_le, Nat.le_refl, true_or, or_true, Bool.false_eq_true, not_false_eq_true, Nat.reduceAdd, Nat.lt_add_one, Nat.zero_lt_one, nI_add, pk_mul, ixL, vpL, ne_eq, reduceIte, wI_sN, wL_sM, sN_same, sN_K, sN_2, sM_1, sM_same, sM_K, sM_s, uI_at, uN_at, enc_at, uI_enc, uI_uI, upM_s, upM_n, g5]
      refine ⟨fun _ => fin ?_ _, fun q => absurd (nI_le (by omega) (by omega)) q⟩
      rcases hR with ⟨_, hR⟩ | ⟨P, _, _, _, hR⟩
      · exact hR
      · rw [← hR]; rfl
    | succ k ih =>
      intro i q hi hq hR
      have ix : (nI i).toNatClampNeg = i := ixL (by omega)
      have vx : vp_in (nI i) 10 = True := vpL (by omega) (by omega)
      obtain ⟨hp, rp⟩ := hS.2.2.2.1 i (by omega)
      have ip : (nI (π i)).toNatClampNeg = π i := ixL (by omega)
      obtain ⟨⟨f0, f1, f2, f3, f4, f5, f6⟩, fb⟩ := hS.2.2.2.2.2 i (by omega)
      have hU : ∀ r, plc a b r i (k + 1) = if isLot a i = b then (if r = 0 then some i else plc a b (r - 1) (i + 1) k) else plc a b r (i + 1) k := fun _ => rfl
      refine V_run hB (rt := some (.object "MinutePawnshop$Item")) (nL := 5) (mc := 0) rfl rfl rfl obX9_nthOf_5 ?_
      dsimp only [bX9_nthOf_5, ↓wpb, ↓wp1, ↓vI, ↓vL, ↓vD, ↓ldI, ↓ldL, ↓ldD, ↓ldR, ↓k1, ↓k2, ↓kI, ↓kL, ↓kD, ↓kII, ↓kLL, ↓kDD, ↓kR, ↓kIR, ↓kLR, ↓kIIR, ↓kLIR, ↓kDIR, ↓kRIR, ↓kNN, ↓kE, ↓br, ↓bn, ↓rtI, ↓gfv, ↓zchk, lput, ldel, lbad, alA, acat, isRf, dom, dS, dJ, isO, aTy, aLen, elAV, elR, Nat.reduceBEq, Nat.reduceAdd, Bool.or, Bool.and, Nat.add_zero, Nat.zero_add]
      try simp only [Nat.reduceLT, Nat.reduceLeDiff, Nat.reduceEqDiff, true_and, and_true, and_self, Nat.zero_le, Nat.le_refl, true_or, or_true, Bool.false_eq_true, not_false_eq_true, Nat.reduceAdd, Nat.lt_add_one, Nat.zero_lt_one, nI_add, pk_mul, ixL, vpL, ne_eq, reduceIte, wI_sN, wL_sM, sN_same, sN_K, sN_2, sM_1, sM_same, sM_K, sM_s, uI_at, uN_at, enc_at, uI_enc, uI_uI, upM_s, upM_n, g5, ix, vx, hp, rp, ip, f0, f1, f2, f3, f4, f5, f6, lot_b (hV.l1 (show i < 10 by omega)) b]
      refine ⟨fun q => absurd q (nI_ge (by omega) (by omega)), fun _ => ⟨fun h1 => ?_, fun h1 => ⟨fun h2 => ?_, fun h2 => ?_⟩⟩⟩
      · refine V_run hB (rt := some (.object "MinutePawnshop$Item")) (nL := 5) (mc := 0) rfl rfl rfl obX9_nthOf_44 ?_
        dsimp only [bX9_nthOf_44, ↓wpb, ↓wp1, ↓vI, ↓vL, ↓vD, ↓ldI, ↓ldL, ↓ldD, ↓ldR, ↓k1, ↓k2, ↓kI, ↓kL, ↓kD, ↓kII, ↓kLL, ↓kDD, ↓kR, ↓kIR, ↓kLR, ↓kIIR, ↓kLIR, ↓kDIR, ↓kRIR, ↓kNN, ↓kE, ↓br, ↓bn, ↓rtI, ↓gfv, ↓zchk, lput, ldel, lbad, alA, acat, isRf, dom, dS, dJ, isO, aTy, aLen, elAV, elR, Nat.reduceBEq, Nat.reduceAdd, Bool.or, Bool.and, Nat.add_zero, Nat.zero_add]
        try simp only [Nat.reduceLT, Nat.reduceLeDiff, Nat.reduceEqDiff, true_and, and_true, and_self, Nat.zero_le, Nat.le_refl, true_or, or_true, Bool.false_eq_true, not_false_eq_true, Nat.reduceAdd, Nat.lt_add_one, Nat.zero_lt_one, nI_add, pk_mul, ixL, vpL, ne_eq, reduceIte, wI_sN, wL_sM, sN_same, sN_K, sN_2, sM_1, sM_same, sM_K, sM_s, uI_at, uN_at, enc_at, uI_enc, uI_uI, upM_s, upM_n]
        refine ih (i + 1) q (by omega) (by omega) ?_
        rcases hR with hR | ⟨P, P1, P2, P3, hR⟩
        · exact Or.inl hR
        · rw [hU, if_neg h1] at hR
          exact Or.inr ⟨P, P1, P2, P3, hR⟩
      · refine V_run hB (rt := some (.object "MinutePawnshop$Item")) (nL := 5) (mc := 0) rfl rfl rfl obX9_nthOf_41 ?_
        dsimp only [bX9_nthOf_41, ↓wpb, ↓wp1, ↓vI, ↓vL, ↓vD, ↓ldI, ↓ldL, ↓ldD, ↓ldR, ↓k1, ↓k2, ↓kI, ↓kL, ↓kD, ↓kII, ↓kLL, ↓kDD, ↓kR, ↓kIR, ↓kLR, ↓kIIR, ↓kLIR, ↓kDIR, ↓kRIR, ↓kNN, ↓kE, ↓br, ↓bn, ↓rtI, ↓gfv, ↓zchk, lput, ldel, lbad, alA, acat, isRf, dom, dS, dJ, isO, aTy, aLen, elAV, elR, Nat.reduceBEq, Nat.reduceAdd, Bool.or, Bool.and, Nat.add_zero, Nat.zero_add]
        try simp only [Nat.reduceLT, Nat.reduceLeDiff, Nat.reduceEqDiff, true_and, and_true, and_self, Nat.zero_le, Nat.le_refl, true_or, or_true, Bool.false_eq_true, not_false_eq_true, Nat.reduceAdd, Nat.lt_add_one, Nat.zero_lt_one, nI_add, pk_mul, ixL, vpL, ne_eq, reduceIte, wI_sN, wL_sM, sN_same, sN_K, sN_2, sM_1, sM_same, sM_K, sM_s, uI_at, uN_at, enc_at, uI_enc, uI_uI, upM_s, upM_n]
        refine ih (i + 1) (q + 1) (by omega) (by omega) ?_
        rcases hR with hR | ⟨P, P1, P2, P3, hR⟩
        · exact Or.inl hR
        · have hne : P ≠ q := fun z => h2 (by rw [P2, z])
          rw [hU, if_pos h1, if_neg (by omega)] at hR
          exact Or.inr ⟨P, P1, P2, by omega, by rw [show P - (q + 1) = P - q - 1 by omega]; exact hR⟩
      · rcases hR with ⟨hR, _⟩ | ⟨P, P1, P2, P3, hR⟩
        · rw [← h2] at hR
          exact absurd hR (nI_pos (by omega))
        · rw [P2] at h2
          have h3 := (nI_eq (show q < 2147483648 by omega) P1).mp h2
          rw [hU, if_pos h1, if_pos (by omega)] at hR
          rw [← hR]
          exact ⟨Or.inl ⟨_, rfl⟩, rfl, rfl⟩
  refine V_run hB (rt := some (.object "MinutePawnshop$Item")) (nL := 5) (mc := 0) rfl rfl rfl obX9_nthOf_0 ?_
  dsimp only [bX9_nthOf_0, ↓wpb, ↓wp1, ↓vI, ↓vL, ↓vD, ↓ldI, ↓ldL, ↓ldD, ↓ldR, ↓k1, ↓k2, ↓kI, ↓kL, ↓kD, ↓kII, ↓kLL, ↓kDD, ↓kR, ↓kIR, ↓kLR, ↓kIIR, ↓kLIR, ↓kDIR, ↓kRIR, ↓kNN, ↓kE, ↓br, ↓bn, ↓rtI, ↓gfv, ↓zchk, lput, ldel, lbad, alA, acat, isRf, dom, dS, dJ, isO, aTy, aLen, elAV, elR, Nat.reduceBEq, Nat.reduceAdd, Bool.or, Bool.and, Nat.add_zero, Nat.zero_add]
  try simp only [Nat.reduceLT, Nat.reduceLeDiff, Nat.reduceEqDiff, true_and, and_true, and_self, Nat.zero_le, Nat.le_refl, true_or, or_true, Bool.false_eq_true, not_false_eq_true, Nat.reduceAdd, Nat.lt_add_one, Nat.zero_lt_one, nI_add, pk_mul, ixL, vpL, ne_eq, reduceIte, wI_sN, wL_sM, sN_same, sN_K, sN_2, sM_1, sM_same, sM_K, sM_s, uI_at, uN_at, enc_at, uI_enc, uI_uI, upM_s, upM_n]
  refine head (a 4) 0 0 (by omega) (by omega) ?_
  by_cases h : p < 0
  · exact Or.inl ⟨h, if_pos h⟩
  · obtain ⟨P, P1, P2⟩ := nI_of h
    refine Or.inr ⟨P, P1, P2, Nat.zero_le _, ?_⟩
    unfold plcI
    rw [if_neg h, P2, ixL P1, Nat.sub_zero]
theorem c_dueBefore (hc : Ctx l G) (hS : ShP τ 0 a π) (hV : IV n a) (hn : n ≤ 1000) {j : Nat} (hj : j < a 4) : Sat l G iX9_pledgesDueBefore [shM, aI (nI j)] τ (retI (nI (rkU a j (a 4))) τ) := by
  have h10 := hV.1.1
  have g5 := hS.1.2.2
  have hl : ∀ i, it a i 6 < 2147483648 := fun i => by have := hV.lt hn (16 + 12 * i + 6); unfold it; omega
  have ixj : (nI j).toNatClampNeg = j := ixL (by omega)
  have vxj : vp_in (nI j) 10 = True := vpL (by omega) (by omega)
  obtain ⟨hpj, rpj⟩ := hS.2.2.2.1 j (by omega)
  have ipj : (nI (π j)).toNatClampNeg = π j := ixL (by omega)
  obtain ⟨⟨f0j, f1j, f2j, f3j, f4j, f5j, f6j⟩, fbj⟩ := hS.2.2.2.2.2 j (by omega)
  refine Sat_of hc.1 hc.2 (by decide +kernel) (Nat.le_of_ble_eq_true rfl) (fun x hB hno => ?_)
  have head : ∀ k i al, i + k = a 4 → (∀ z ∈ [(0, shM), (1, aI (nI j)), (2, aI (nI (it a j 6))), (3, aI (nI (rkU a j i))), (4, aI (nI i))], lk al z.1 = some z.2) → V x τ 0 15 al [] := by
    intro k
    induction k with
    | zero =>
      intro i al hi hal
      refine V.sub ?_ hal
      have hi : i = a 4 := by omega
      subst hi
      refine V_run hB (rt := some .int) (nL := 6) (mc := 0) rfl rfl rfl obX9_pledgesDueBefore_15 ?_
      dsimp only [bX9_pledgesDueBefore_15, ↓wpb, ↓wp1, ↓vI, ↓vL, ↓vD, ↓ldI, ↓ldL, ↓ldD, ↓ldR, ↓k1, ↓k2, ↓kI, ↓kL, ↓kD, ↓kII, ↓kLL, ↓kDD, ↓kR, ↓kIR, ↓kLR, ↓kIIR, ↓kLIR, ↓kDIR, ↓kRIR, ↓kNN, ↓kE, ↓br, ↓bn, ↓rtI, ↓gfv, ↓zchk, lput, ldel, lbad, alA, acat, isRf, dom, dS, dJ, isO, aTy, aLen, elAV, elR, Nat.reduceBEq, Nat.reduceAdd, Bool.or, Bool.and, Nat.add_zero, Nat.zero_add]
      try simp only [Nat.reduceLT, Nat.reduceLeDiff, Nat.reduceEqDiff, true_and, and_true, and_self, Nat.zero_le, Nat.le_refl, true_or, or_true, Bool.false_eq_true, not_false_eq_true, Nat.reduceAdd, Nat.lt_add_one, Nat.zero_lt_one, nI_add, pk_mul, ixL, vpL, ne_eq, reduceIte, wI_sN, wL_sM, sN_same, sN_K, sN_2, sM_1, sM_same, sM_K, sM_s, uI_at, uN_at, enc_at, uI_enc, uI_uI, upM_s, upM_n, g5]
      refine ⟨fun _ => ?_, fun q => absurd (nI_le (by omega) (by omega)) q⟩
      refine V_run hB (rt := some .int) (nL := 6) (mc := 0) rfl rfl rfl obX9_pledgesDueBefore_92 ?_
      dsimp only [bX9_pledgesDueBefore_92, ↓wpb, ↓wp1, ↓vI, ↓vL, ↓vD, ↓ldI, ↓ldL, ↓ldD, ↓ldR, ↓k1, ↓k2, ↓kI, ↓kL, ↓kD, ↓kII, ↓kLL, ↓kDD, ↓kR, ↓kIR, ↓kLR, ↓kIIR, ↓kLIR, ↓kDIR, ↓kRIR, ↓kNN, ↓kE, ↓br, ↓bn, ↓rtI, ↓gfv, ↓zchk, lput, ldel, lbad, alA, acat, isRf, dom, dS, dJ, isO, aTy, aLen, elAV, elR, Nat.reduceBEq, Nat.reduceAdd, Bool.or, Bool.and, Nat.add_zero, Nat.zero_add]
      try simp only [Nat.reduceLT, Nat.reduceLeDiff, Nat.reduceEqDiff, true_and, and_true, and_self, Nat.zero_le, Nat.le_refl, true_or, or_true, Bool.false_eq_true, not_false_eq_true, Nat.reduceAdd, Nat.lt_add_one, Nat.zero_lt_one, nI_add, pk_mul, ixL, vpL, ne_eq, reduceIte, wI_sN, wL_sM, sN_same, sN_K, sN_2, sM_1, sM_same, sM_K, sM_s, uI_at, uN_at, enc_at, uI_enc, uI_uI, upM_s, upM_n]
      exact ⟨rfl, rfl⟩
    | succ k ih =>
      intro i al hi hal
      refine V.sub ?_ hal
      have ix : (nI i).toNatClampNeg = i := ixL (by omega)
      have vx : vp_in (nI i) 10 = True := vpL (by omega) (by omega)
      obtain ⟨hp, rp⟩ := hS.2.2.2.1 i (by omega)
      have ip : (nI (π i)).toNatClampNeg = π i := ixL (by omega)
      obtain ⟨⟨f0, f1, f2, f3, f4, f5, f6⟩, fb⟩ := hS.2.2.2.2.2 i (by omega)
      have hli := hl i
      have hlj := hl j
      have ih' := fun al => ih (i + 1) al (by omega)
      have hu : rkU a j (i + 1) = rkU a j i + (if isLot a i = false ∧ (it a i 6 < it a j 6 ∨ it a i 6 = it a j 6 ∧ i < j) then 1 else 0) := rfl
      rw [hu] at ih'
      have k63 : ∀ b : Bool, (b = true ↔ (it a i 6 < it a j 6 ∨ it a i 6 = it a j 6 ∧ i < j)) → V x τ 0 63 [(0, shM), (1, aI (nI j)), (2, aI (nI (it a j 6))), (3, aI (nI (rkU a j i))), (4, aI (nI i))] [aI (nI (bN b))] := by
        intro b hb
        refine V_run hB (rt := some .int) (nL := 6) (mc := 0) rfl rfl rfl obX9_pledgesDueBefore_63 ?_
        dsimp only [bX9_pledgesDueBefore_63, ↓wpb, ↓wp1, ↓vI, ↓vL, ↓vD, ↓ldI, ↓ldL, ↓ldD, ↓ldR, ↓k1, ↓k2, ↓kI, ↓kL, ↓kD, ↓kII, ↓kLL, ↓kDD, ↓kR, ↓kIR, ↓kLR, ↓kIIR, ↓kLIR, ↓kDIR, ↓kRIR, ↓kNN, ↓kE, ↓br, ↓bn, ↓rtI, ↓gfv, ↓zchk, lput, ldel, lbad, alA, acat, isRf, dom, dS, dJ, isO, aTy, aLen, elAV, elR, Nat.reduceBEq, Nat.reduceAdd, Bool.or, Bool.and, Nat.add_zero, Nat.zero_add]
        try simp only [Nat.reduceLT, Nat.reduceLeDiff, Nat.reduceEqDiff, true_and, and_true, and_self, Nat.zero_le, Nat.le_refl, true_or, or_true, Bool.false_eq_true, not_false_eq_true, Nat.reduceAdd, Nat.lt_add_one, Nat.zero_lt_one, nI_add, pk_mul, ixL, vpL, ne_eq, reduceIte, wI_sN, wL_sM, sN_same, sN_K, sN_2, sM_1, sM_same, sM_K, sM_s, uI_at, uN_at, enc_at, uI_enc, uI_uI, upM_s, upM_n, g5, ix, vx, hp, rp, ip, f0, f1, f2, f3, f4, f5, f6, lot_0 (hV.l1 (show i < 10 by omega)), bN_0]
        refine ⟨fun q => ?_, fun q => ⟨fun q2 => ?_, fun q2 => ?_⟩⟩
        · rw [if_neg (fun z => q z.1)] at ih'
          refine V_run hB (rt := some .int) (nL := 6) (mc := 0) rfl rfl rfl obX9_pledgesDueBefore_86 ?_
          dsimp only [bX9_pledgesDueBefore_86, ↓wpb, ↓wp1, ↓vI, ↓vL, ↓vD, ↓ldI, ↓ldL, ↓ldD, ↓ldR, ↓k1, ↓k2, ↓kI, ↓kL, ↓kD, ↓kII, ↓kLL, ↓kDD, ↓kR, ↓kIR, ↓kLR, ↓kIIR, ↓kLIR, ↓kDIR, ↓kRIR, ↓kNN, ↓kE, ↓br, ↓bn, ↓rtI, ↓gfv, ↓zchk, lput, ldel, lbad, alA, acat, isRf, dom, dS, dJ, isO, aTy, aLen, elAV, elR, Nat.reduceBEq, Nat.reduceAdd, Bool.or, Bool.and, Nat.add_zero, Nat.zero_add]
          try simp only [Nat.reduceLT, Nat.reduceLeDiff, Nat.reduceEqDiff, true_and, and_true, and_self, Nat.zero_le, Nat.le_refl, true_or, or_true, Bool.false_eq_true, not_false_eq_true, Nat.reduceAdd, Nat.lt_add_one, Nat.zero_lt_one, nI_add, pk_mul, ixL, vpL, ne_eq, reduceIte, wI_sN, wL_sM, sN_same, sN_K, sN_2, sM_1, sM_same, sM_K, sM_s, uI_at, uN_at, enc_at, uI_enc, uI_uI, upM_s, upM_n]
          exact ih' _ (List.forall_mem_cons.mpr ⟨rfl, List.forall_mem_cons.mpr ⟨rfl, List.forall_mem_cons.mpr ⟨rfl, List.forall_mem_cons.mpr ⟨rfl, List.forall_mem_cons.mpr ⟨rfl, fun _ h => absurd h List.not_mem_nil⟩⟩⟩⟩⟩)
        · rw [if_neg (fun z => by have := hb.mpr z.2; rw [q2] at this; cases this)] at ih'
          refine V_run hB (rt := some .int) (nL := 6) (mc := 0) rfl rfl rfl obX9_pledgesDueBefore_86 ?_
          dsimp only [bX9_pledgesDueBefore_86, ↓wpb, ↓wp1, ↓vI, ↓vL, ↓vD, ↓ldI, ↓ldL, ↓ldD, ↓ldR, ↓k1, ↓k2, ↓kI, ↓kL, ↓kD, ↓kII, ↓kLL, ↓kDD, ↓kR, ↓kIR, ↓kLR, ↓kIIR, ↓kLIR, ↓kDIR, ↓kRIR, ↓kNN, ↓kE, ↓br, ↓bn, ↓rtI, ↓gfv, ↓zchk, lput, ldel, lbad, alA, acat, isRf, dom, dS, dJ, isO, aTy, aLen, elAV, elR, Nat.reduceBEq, Nat.reduceAdd, Bool.or, Bool.and, Nat.add_zero, Nat.zero_add]
          try simp only [Nat.reduceLT, Nat.reduceLeDiff, Nat.reduceEqDiff, true_and, and_true, and_self, Nat.zero_le, Nat.le_refl, true_or, or_true, Bool.false_eq_true, not_false_eq_true, Nat.reduceAdd, Nat.lt_add_one, Nat.zero_lt_one, nI_add, pk_mul, ixL, vpL, ne_eq, reduceIte, wI_sN, wL_sM, sN_same, sN_K, sN_2, sM_1, sM_same, sM_K, sM_s, uI_at, uN_at, enc_at, uI_enc, uI_uI, upM_s, upM_n]
          exact ih' _ (List.forall_mem_cons.mpr ⟨rfl, List.forall_mem_cons.mpr ⟨rfl, List.forall_mem_cons.mpr ⟨rfl, List.forall_mem_cons.mpr ⟨rfl, List.forall_mem_cons.mpr ⟨rfl, fun _ h => absurd h List.not_mem_nil⟩⟩⟩⟩⟩)
        · rw [if_pos ⟨q, hb.mp (by simpa using q2)⟩] at ih'
          exact ih' _ (List.forall_mem_cons.mpr ⟨rfl, List.forall_mem_cons.mpr ⟨rfl, List.forall_mem_cons.mpr ⟨rfl, List.forall_mem_cons.mpr ⟨rfl, List.forall_mem_cons.mpr ⟨rfl, fun _ h => absurd h List.not_mem_nil⟩⟩⟩⟩⟩)
      have k62 : ¬ (it a i 6 < it a j 6 ∨ it a i 6 = it a j 6 ∧ i < j) → V x τ 0 62 [(0, shM), (1, aI (nI j)), (2, aI (nI (it a j 6))), (3, aI (nI (rkU a j i))), (4, aI (nI i))] [] := by
        intro hq
        refine V_run hB (rt := some .int) (nL := 6) (mc := 0) rfl rfl rfl (ops := [(62, .iconst 0, 1, (0, 0, 0, 0, 0, 0), nI 0)]) (by decide +kernel) ?_
        dsimp only [↓wpb, ↓wp1, ↓vI, ↓vL, ↓vD, ↓ldI, ↓ldL, ↓ldD, ↓ldR, ↓k1, ↓k2, ↓kI, ↓kL, ↓kD, ↓kII, ↓kLL, ↓kDD, ↓kR, ↓kIR, ↓kLR, ↓kIIR, ↓kLIR, ↓kDIR, ↓kRIR, ↓kNN, ↓kE, ↓br, ↓bn, ↓rtI, ↓gfv, ↓zchk, lput, ldel, lbad, alA, acat, isRf, dom, dS, dJ, isO, aTy, aLen, elAV, elR, Nat.reduceBEq, Nat.reduceAdd, Bool.or, Bool.and, Nat.add_zero, Nat.zero_add]
        try simp only [Nat.reduceLT, Nat.reduceLeDiff, Nat.reduceEqDiff, true_and, and_true, and_self, Nat.zero_le, Nat.le_refl, true_or, or_true, Bool.false_eq_true, not_false_eq_true, Nat.reduceAdd, Nat.lt_add_one, Nat.zero_lt_one, nI_add, pk_mul, ixL, vpL, ne_eq, reduceIte, wI_sN, wL_sM, sN_same, sN_K, sN_2, sM_1, sM_same, sM_K, sM_s, uI_at, uN_at, enc_at, uI_enc, uI_uI, upM_s, upM_n]
        exact k63 false ⟨fun z => (nomatch z), fun z => absurd z hq⟩
      have k58 : (it a i 6 < it a j 6 ∨ it a i 6 = it a j 6 ∧ i < j) → V x τ 0 58 [(0, shM), (1, aI (nI j)), (2, aI (nI (it a j 6))), (3, aI (nI (rkU a j i))), (4, aI (nI i))] [] := by
        intro hq
        refine V_run hB (rt := some .int) (nL := 6) (mc := 0) rfl rfl rfl obX9_pledgesDueBefore_58 ?_
        dsimp only [bX9_pledgesDueBefore_58, ↓wpb, ↓wp1, ↓vI, ↓vL, ↓vD, ↓ldI, ↓ldL, ↓ldD, ↓ldR, ↓k1, ↓k2, ↓kI, ↓kL, ↓kD, ↓kII, ↓kLL, ↓kDD, ↓kR, ↓kIR, ↓kLR, ↓kIIR, ↓kLIR, ↓kDIR, ↓kRIR, ↓kNN, ↓kE, ↓br, ↓bn, ↓rtI, ↓gfv, ↓zchk, lput, ldel, lbad, alA, acat, isRf, dom, dS, dJ, isO, aTy, aLen, elAV, elR, Nat.reduceBEq, Nat.reduceAdd, Bool.or, Bool.and, Nat.add_zero, Nat.zero_add]
        try simp only [Nat.reduceLT, Nat.reduceLeDiff, Nat.reduceEqDiff, true_and, and_true, and_self, Nat.zero_le, Nat.le_refl, true_or, or_true, Bool.false_eq_true, not_false_eq_true, Nat.reduceAdd, Nat.lt_add_one, Nat.zero_lt_one, nI_add, pk_mul, ixL, vpL, ne_eq, reduceIte, wI_sN, wL_sM, sN_same, sN_K, sN_2, sM_1, sM_same, sM_K, sM_s, uI_at, uN_at, enc_at, uI_enc, uI_uI, upM_s, upM_n]
        exact k63 true ⟨fun _ => hq, fun _ => rfl⟩
      refine V_run hB (rt := some .int) (nL := 6) (mc := 0) rfl rfl rfl (ops := [(15, .iload 4, 2, (4, 0, 0, 0, 0, 0), 0), (17, .aload_n 0, 1, (0, 0, 0, 0, 0, 0), 0), (18, .getfield 38, 3, (2, 5, 0, 0, 0, 0), 0), (21, .if_icmp .ge 71, 3, (92, 0, 0, 0, 0, 0), 0), (24, .aload_n 0, 1, (0, 0, 0, 0, 0, 0), 0), (25, .getfield 34, 3, (2, 4, 2, 10, 0, 0), 0), (28, .iload 4, 2, (4, 0, 0, 0, 0, 0), 0), (30, .aaload, 1, (0, 0, 0, 0, 0, 0), 0), (31, .getfield 77, 3, (5, 5, 0, 0, 0, 0), 0), (34, .iload_n 2, 1, (2, 0, 0, 0, 0, 0), 0), (35, .if_icmp .lt 23, 3, (58, 0, 0, 0, 0, 0), 0), (38, .aload_n 0, 1, (0, 0, 0, 0, 0, 0), 0), (39, .getfield 34, 3, (2, 4, 2, 10, 0, 0), 0), (42, .iload 4, 2, (4, 0, 0, 0, 0, 0), 0), (44, .aaload, 1, (0, 0, 0, 0, 0, 0), 0), (45, .getfield 77, 3, (5, 5, 0, 0, 0, 0), 0), (48, .iload_n 2, 1, (2, 0, 0, 0, 0, 0), 0), (49, .if_icmp .ne 13, 3, (62, 0, 0, 0, 0, 0), 0), (52, .iload 4, 2, (4, 0, 0, 0, 0, 0), 0), (54, .iload_n 1, 1, (1, 0, 0, 0, 0, 0), 0), (55, .if_icmp .ge 7, 3, (62, 0, 0, 0, 0, 0), 0)]) (by decide +kernel) ?_
      dsimp only [↓wpb, ↓wp1, ↓vI, ↓vL, ↓vD, ↓ldI, ↓ldL, ↓ldD, ↓ldR, ↓k1, ↓k2, ↓kI, ↓kL, ↓kD, ↓kII, ↓kLL, ↓kDD, ↓kR, ↓kIR, ↓kLR, ↓kIIR, ↓kLIR, ↓kDIR, ↓kRIR, ↓kNN, ↓kE, ↓br, ↓bn, ↓rtI, ↓gfv, ↓zchk, lput, ldel, lbad, alA, acat, isRf, dom, dS, dJ, isO, aTy, aLen, elAV, elR, Nat.reduceBEq, Nat.reduceAdd, Bool.or, Bool.and, Nat.add_zero, Nat.zero_add]
      try simp only [Nat.reduceLT, Nat.reduceLeDiff, Nat.reduceEqDiff, true_and, and_true, and_self, Nat.zero_le, Nat.le_refl, true_or, or_true, Bool.false_eq_true, not_false_eq_true, Nat.reduceAdd, Nat.lt_add_one, Nat.zero_lt_one, nI_add, pk_mul, ixL, vpL, ne_eq, reduceIte, wI_sN, wL_sM, sN_same, sN_K, sN_2, sM_1, sM_same, sM_K, sM_s, uI_at, uN_at, enc_at, uI_enc, uI_uI, upM_s, upM_n, g5, ix, vx, hp, rp, ip, f0, f1, f2, f3, f4, f5, f6]
      rw [nI_ltI hli hlj, nI_eq hli hlj]
      refine ⟨fun q => absurd q (nI_ge (by omega) (by omega)), fun _ => ⟨fun q => k58 (Or.inl q), fun q => ⟨fun q2 => k62 (by omega), fun q2 => ⟨fun q3 => k62 ?_, fun q3 => k58 ?_⟩⟩⟩⟩
      · rw [nI_leI (by omega) (by omega)] at q3
        omega
      · rw [nI_leI (by omega) (by omega)] at q3
        omega
  refine V_run hB (rt := some .int) (nL := 6) (mc := 0) rfl rfl rfl obX9_pledgesDueBefore_0 ?_
  dsimp only [bX9_pledgesDueBefore_0, ↓wpb, ↓wp1, ↓vI, ↓vL, ↓vD, ↓ldI, ↓ldL, ↓ldD, ↓ldR, ↓k1, ↓k2, ↓kI, ↓kL, ↓kD, ↓kII, ↓kLL, ↓kDD, ↓kR, ↓kIR, ↓kLR, ↓kIIR, ↓kLIR, ↓kDIR, ↓kRIR, ↓kNN, ↓kE, ↓br, ↓bn, ↓rtI, ↓gfv, ↓zchk, lput, ldel, lbad, alA, acat, isRf, dom, dS, dJ, isO, aTy, aLen, elAV, elR, Nat.reduceBEq, Nat.reduceAdd, Bool.or, Bool.and, Nat.add_zero, Nat.zero_add]
  try simp only [Nat.reduceLT, Nat.reduceLeDiff, Nat.reduceEqDiff, true_and, and_true, and_self, Nat.zero_le, Nat.le_refl, true_or, or_true, Bool.false_eq_true, not_false_eq_true, Nat.reduceAdd, Nat.lt_add_one, Nat.zero_lt_one, nI_add, pk_mul, ixL, vpL, ne_eq, reduceIte, wI_sN, wL_sM, sN_same, sN_K, sN_2, sM_1, sM_same, sM_K, sM_s, uI_at, uN_at, enc_at, uI_enc, uI_uI, upM_s, upM_n, ixj, vxj, hpj, rpj, ipj, f0j, f1j, f2j, f3j, f4j, f5j, f6j]
  exact head (a 4) 0 _ (by omega) (List.forall_mem_cons.mpr ⟨rfl, List.forall_mem_cons.mpr ⟨rfl, List.forall_mem_cons.mpr ⟨rfl, List.forall_mem_cons.mpr ⟨rfl, List.forall_mem_cons.mpr ⟨rfl, fun _ h => absurd h List.not_mem_nil⟩⟩⟩⟩⟩)
theorem c_dueRank (hc : Ctx l G) (hS : ShP τ 0 a π) (hV : IV n a) (hn : n ≤ 1000) (p : Int32) : Sat l G iX9_pledgeOfDueRank [shM, aI p] τ (retA (nul (itA π (bdU a p 0 (a 4)))) τ) := by
  have h10 := hV.1.1
  have g5 := hS.1.2.2
  refine Sat_of hc.1 hc.2 (by decide +kernel) (Nat.le_of_ble_eq_true rfl) (fun x hB hno => ?_)
  have head : ∀ k i, i + k = a 4 → bdU a p i k = bdU a p 0 (a 4) → V x τ 0 2 [(0, shM), (1, aI p), (2, aI (nI i))] [] := by
    intro k
    induction k with
    | zero =>
      intro i hi hR
      refine V_run hB (rt := some (.object "MinutePawnshop$Item")) (nL := 3) (mc := 0) rfl rfl rfl obX9_pledgeOfDueRank_2 ?_
      dsimp only [bX9_pledgeOfDueRank_2, ↓wpb, ↓wp1, ↓vI, ↓vL, ↓vD, ↓ldI, ↓ldL, ↓ldD, ↓ldR, ↓k1, ↓k2, ↓kI, ↓kL, ↓kD, ↓kII, ↓kLL, ↓kDD, ↓kR, ↓kIR, ↓kLR, ↓kIIR, ↓kLIR, ↓kDIR, ↓kRIR, ↓kNN, ↓kE, ↓br, ↓bn, ↓rtI, ↓gfv, ↓zchk, lput, ldel, lbad, alA, acat, isRf, dom, dS, dJ, isO, aTy, aLen, elAV, elR, Nat.reduceBEq, Nat.reduceAdd, Bool.or, Bool.and, Nat.add_zero, Nat.zero_add]
      try simp only [Nat.reduceLT, Nat.reduceLeDiff, Nat.reduceEqDiff, true_and, and_true, and_self, Nat.zero_le, Nat.le_refl, true_or, or_true, Bool.false_eq_true, not_false_eq_true, Nat.reduceAdd, Nat.lt_add_one, Nat.zero_lt_one, nI_add, pk_mul, ixL, vpL, ne_eq, reduceIte, wI_sN, wL_sM, sN_same, sN_K, sN_2, sM_1, sM_same, sM_K, sM_s, uI_at, uN_at, enc_at, uI_enc, uI_uI, upM_s, upM_n, g5]
      refine ⟨fun _ => ?_, fun q => absurd (nI_le (by omega) (by omega)) q⟩
      rw [← hR] at hB
      refine V_run hB (rt := some (.object "MinutePawnshop$Item")) (nL := 3) (mc := 0) rfl rfl rfl obX9_pledgeOfDueRank_44 ?_
      dsimp only [bX9_pledgeOfDueRank_44, ↓wpb, ↓wp1, ↓vI, ↓vL, ↓vD, ↓ldI, ↓ldL, ↓ldD, ↓ldR, ↓k1, ↓k2, ↓kI, ↓kL, ↓kD, ↓kII, ↓kLL, ↓kDD, ↓kR, ↓kIR, ↓kLR, ↓kIIR, ↓kLIR, ↓kDIR, ↓kRIR, ↓kNN, ↓kE, ↓br, ↓bn, ↓rtI, ↓gfv, ↓zchk, lput, ldel, lbad, alA, acat, isRf, dom, dS, dJ, isO, aTy, aLen, elAV, elR, Nat.reduceBEq, Nat.reduceAdd, Bool.or, Bool.and, Nat.add_zero, Nat.zero_add]
      try simp only [Nat.reduceLT, Nat.reduceLeDiff, Nat.reduceEqDiff, true_and, and_true, and_self, Nat.zero_le, Nat.le_refl, true_or, or_true, Bool.false_eq_true, not_false_eq_true, Nat.reduceAdd, Nat.lt_add_one, Nat.zero_lt_one, nI_add, pk_mul, ixL, vpL, ne_eq, reduceIte, wI_sN, wL_sM, sN_same, sN_K, sN_2, sM_1, sM_same, sM_K, sM_s, uI_at, uN_at, enc_at, uI_enc, uI_uI, upM_s, upM_n]
      exact ⟨Or.inl ⟨_, rfl⟩, rfl, rfl⟩
    | succ k ih =>
      intro i hi hR
      have ix : (nI i).toNatClampNeg = i := ixL (by omega)
      have vx : vp_in (nI i) 10 = True := vpL (by omega) (by omega)
      obtain ⟨hp, rp⟩ := hS.2.2.2.1 i (by omega)
      have ip : (nI (π i)).toNatClampNeg = π i := ixL (by omega)
      obtain ⟨⟨f0, f1, f2, f3, f4, f5, f6⟩, fb⟩ := hS.2.2.2.2.2 i (by omega)
      have hU : bdU a p i (k + 1) = if isLot a i = false ∧ nI (rkU a i (a 4)) = p then some i else bdU a p (i + 1) k := rfl
      rw [hU] at hR
      have k38 : ¬ (isLot a i = false ∧ nI (rkU a i (a 4)) = p) → V x τ 0 38 [(0, shM), (1, aI p), (2, aI (nI i))] [] := by
        intro hq
        rw [if_neg hq] at hR
        refine V_run hB (rt := some (.object "MinutePawnshop$Item")) (nL := 3) (mc := 0) rfl rfl rfl obX9_pledgeOfDueRank_38 ?_
        dsimp only [bX9_pledgeOfDueRank_38, ↓wpb, ↓wp1, ↓vI, ↓vL, ↓vD, ↓ldI, ↓ldL, ↓ldD, ↓ldR, ↓k1, ↓k2, ↓kI, ↓kL, ↓kD, ↓kII, ↓kLL, ↓kDD, ↓kR, ↓kIR, ↓kLR, ↓kIIR, ↓kLIR, ↓kDIR, ↓kRIR, ↓kNN, ↓kE, ↓br, ↓bn, ↓rtI, ↓gfv, ↓zchk, lput, ldel, lbad, alA, acat, isRf, dom, dS, dJ, isO, aTy, aLen, elAV, elR, Nat.reduceBEq, Nat.reduceAdd, Bool.or, Bool.and, Nat.add_zero, Nat.zero_add]
        try simp only [Nat.reduceLT, Nat.reduceLeDiff, Nat.reduceEqDiff, true_and, and_true, and_self, Nat.zero_le, Nat.le_refl, true_or, or_true, Bool.false_eq_true, not_false_eq_true, Nat.reduceAdd, Nat.lt_add_one, Nat.zero_lt_one, nI_add, pk_mul, ixL, vpL, ne_eq, reduceIte, wI_sN, wL_sM, sN_same, sN_K, sN_2, sM_1, sM_same, sM_K, sM_s, uI_at, uN_at, enc_at, uI_enc, uI_uI, upM_s, upM_n]
        exact ih (i + 1) (by omega) hR
      refine V_run hB (rt := some (.object "MinutePawnshop$Item")) (nL := 3) (mc := 0) rfl rfl rfl obX9_pledgeOfDueRank_2 ?_
      dsimp only [bX9_pledgeOfDueRank_2, ↓wpb, ↓wp1, ↓vI, ↓vL, ↓vD, ↓ldI, ↓ldL, ↓ldD, ↓ldR, ↓k1, ↓k2, ↓kI, ↓kL, ↓kD, ↓kII, ↓kLL, ↓kDD, ↓kR, ↓kIR, ↓kLR, ↓kIIR, ↓kLIR, ↓kDIR, ↓kRIR, ↓kNN, ↓kE, ↓br, ↓bn, ↓rtI, ↓gfv, ↓zchk, lput, ldel, lbad, alA, acat, isRf, dom, dS, dJ, isO, aTy, aLen, elAV, elR, Nat.reduceBEq, Nat.reduceAdd, Bool.or, Bool.and, Nat.add_zero, Nat.zero_add]
      try simp only [Nat.reduceLT, Nat.reduceLeDiff, Nat.reduceEqDiff, true_and, and_true, and_self, Nat.zero_le, Nat.le_refl, true_or, or_true, Bool.false_eq_true, not_false_eq_true, Nat.reduceAdd, Nat.lt_add_one, Nat.zero_lt_one, nI_add, pk_mul, ixL, vpL, ne_eq, reduceIte, wI_sN, wL_sM, sN_same, sN_K, sN_2, sM_1, sM_same, sM_K, sM_s, uI_at, uN_at, enc_at, uI_enc, uI_uI, upM_s, upM_n, g5, ix, vx, hp, rp, ip, f0, f1, f2, f3, f4, f5, f6, lot_0 (hV.l1 (show i < 10 by omega))]
      refine ⟨fun q => absurd q (nI_ge (by omega) (by omega)), fun _ => ⟨fun q => k38 (fun z => q z.1), fun q => ?_⟩⟩
      refine V_cV hB hno (c_dueBefore hc hS hV hn (j := i) (by omega)) rfl (by decide +kernel) cvX9_74 (dom1 rfl) npX9_pledgesDueBefore ⟨by decide, by decide⟩ (Nat.le_of_ble_eq_true rfl) (n' := 0) (by decide) rfl ?_
      refine V_run hB (rt := some (.object "MinutePawnshop$Item")) (nL := 3) (mc := 0) rfl rfl rfl obX9_pledgeOfDueRank_27 ?_
      dsimp only [bX9_pledgeOfDueRank_27, ↓wpb, ↓wp1, ↓vI, ↓vL, ↓vD, ↓ldI, ↓ldL, ↓ldD, ↓ldR, ↓k1, ↓k2, ↓kI, ↓kL, ↓kD, ↓kII, ↓kLL, ↓kDD, ↓kR, ↓kIR, ↓kLR, ↓kIIR, ↓kLIR, ↓kDIR, ↓kRIR, ↓kNN, ↓kE, ↓br, ↓bn, ↓rtI, ↓gfv, ↓zchk, lput, ldel, lbad, alA, acat, isRf, dom, dS, dJ, isO, aTy, aLen, elAV, elR, Nat.reduceBEq, Nat.reduceAdd, Bool.or, Bool.and, Nat.add_zero, Nat.zero_add]
      try simp only [Nat.reduceLT, Nat.reduceLeDiff, Nat.reduceEqDiff, true_and, and_true, and_self, Nat.zero_le, Nat.le_refl, true_or, or_true, Bool.false_eq_true, not_false_eq_true, Nat.reduceAdd, Nat.lt_add_one, Nat.zero_lt_one, nI_add, pk_mul, ixL, vpL, ne_eq, reduceIte, wI_sN, wL_sM, sN_same, sN_K, sN_2, sM_1, sM_same, sM_K, sM_s, uI_at, uN_at, enc_at, uI_enc, uI_uI, upM_s, upM_n, ix, vx, hp, rp, ip, f0, f1, f2, f3, f4, f5, f6]
      refine ⟨fun q2 => k38 (fun z => q2 z.2), fun q2 => ?_⟩
      rw [if_pos ⟨q, q2⟩] at hR
      rw [← hR]
      exact ⟨Or.inl ⟨_, rfl⟩, rfl, rfl⟩
  refine V_run hB (rt := some (.object "MinutePawnshop$Item")) (nL := 3) (mc := 0) rfl rfl rfl obX9_pledgeOfDueRank_0 ?_
  dsimp only [bX9_pledgeOfDueRank_0, ↓wpb, ↓wp1, ↓vI, ↓vL, ↓vD, ↓ldI, ↓ldL, ↓ldD, ↓ldR, ↓k1, ↓k2, ↓kI, ↓kL, ↓kD, ↓kII, ↓kLL, ↓kDD, ↓kR, ↓kIR, ↓kLR, ↓kIIR, ↓kLIR, ↓kDIR, ↓kRIR, ↓kNN, ↓kE, ↓br, ↓bn, ↓rtI, ↓gfv, ↓zchk, lput, ldel, lbad, alA, acat, isRf, dom, dS, dJ, isO, aTy, aLen, elAV, elR, Nat.reduceBEq, Nat.reduceAdd, Bool.or, Bool.and, Nat.add_zero, Nat.zero_add]
  try simp only [Nat.reduceLT, Nat.reduceLeDiff, Nat.reduceEqDiff, true_and, and_true, and_self, Nat.zero_le, Nat.le_refl, true_or, or_true, Bool.false_eq_true, not_false_eq_true, Nat.reduceAdd, Nat.lt_add_one, Nat.zero_lt_one, nI_add, pk_mul, ixL, vpL, ne_eq, reduceIte, wI_sN, wL_sM, sN_same, sN_K, sN_2, sM_1, sM_same, sM_K, sM_s, uI_at, uN_at, enc_at, uI_enc, uI_uI, upM_s, upM_n]
  exact head (a 4) 0 (by omega) rfl
def stkP (a : Nat → Nat) (τ : Mem) : AOut → Mem → Prop := fun o τ' => τ' = τ ∧ ∃ N, o = .inl (some (aI (nI N))) ∧ N ≤ 2400 ∧ N + (a 5 + a 7) = mnU a (a 4)
theorem c_stock (hc : Ctx l G) (hS : ShP τ 0 a π) (hV : IV n a) : Sat l G iX9_minutesInStock [shM] τ (stkP a τ) := by
  have h10 := hV.1.1
  have g5 := hS.1.2.2
  refine Sat_of hc.1 hc.2 (by decide +kernel) (Nat.le_of_ble_eq_true rfl) (fun x hB hno => ?_)
  have head : ∀ k i N, i + k = a 4 → N ≤ 240 * i → N + (a 5 + a 7) = mnU a i → V x τ 0 4 [(0, shM), (1, aI (nI N)), (2, aI (nI i))] [] := by
    intro k
    induction k with
    | zero =>
      intro i N hi hN hM
      have hi : i = a 4 := by omega
      subst hi
      refine V_run hB (rt := some .int) (nL := 3) (mc := 0) rfl rfl rfl obX9_minutesInStock_4 ?_
      dsimp only [bX9_minutesInStock_4, ↓wpb, ↓wp1, ↓vI, ↓vL, ↓vD, ↓ldI, ↓ldL, ↓ldD, ↓ldR, ↓k1, ↓k2, ↓kI, ↓kL, ↓kD, ↓kII, ↓kLL, ↓kDD, ↓kR, ↓kIR, ↓kLR, ↓kIIR, ↓kLIR, ↓kDIR, ↓kRIR, ↓kNN, ↓kE, ↓br, ↓bn, ↓rtI, ↓gfv, ↓zchk, lput, ldel, lbad, alA, acat, isRf, dom, dS, dJ, isO, aTy, aLen, elAV, elR, Nat.reduceBEq, Nat.reduceAdd, Bool.or, Bool.and, Nat.add_zero, Nat.zero_add]
      try simp only [Nat.reduceLT, Nat.reduceLeDiff, Nat.reduceEqDiff, true_and, and_true, and_self, Nat.zero_le, Nat.le_refl, true_or, or_true, Bool.false_eq_true, not_false_eq_true, Nat.reduceAdd, Nat.lt_add_one, Nat.zero_lt_one, nI_add, pk_mul, ixL, vpL, ne_eq, reduceIte, wI_sN, wL_sM, sN_same, sN_K, sN_2, sM_1, sM_same, sM_K, sM_s, uI_at, uN_at, enc_at, uI_enc, uI_uI, upM_s, upM_n, g5]
      refine ⟨fun _ => ?_, fun q => absurd (nI_le (by omega) (by omega)) q⟩
      refine V_run hB (rt := some .int) (nL := 3) (mc := 0) rfl rfl rfl obX9_minutesInStock_30 ?_
      dsimp only [bX9_minutesInStock_30, ↓wpb, ↓wp1, ↓vI, ↓vL, ↓vD, ↓ldI, ↓ldL, ↓ldD, ↓ldR, ↓k1, ↓k2, ↓kI, ↓kL, ↓kD, ↓kII, ↓kLL, ↓kDD, ↓kR, ↓kIR, ↓kLR, ↓kIIR, ↓kLIR, ↓kDIR, ↓kRIR, ↓kNN, ↓kE, ↓br, ↓bn, ↓rtI, ↓gfv, ↓zchk, lput, ldel, lbad, alA, acat, isRf, dom, dS, dJ, isO, aTy, aLen, elAV, elR, Nat.reduceBEq, Nat.reduceAdd, Bool.or, Bool.and, Nat.add_zero, Nat.zero_add]
      try simp only [Nat.reduceLT, Nat.reduceLeDiff, Nat.reduceEqDiff, true_and, and_true, and_self, Nat.zero_le, Nat.le_refl, true_or, or_true, Bool.false_eq_true, not_false_eq_true, Nat.reduceAdd, Nat.lt_add_one, Nat.zero_lt_one, nI_add, pk_mul, ixL, vpL, ne_eq, reduceIte, wI_sN, wL_sM, sN_same, sN_K, sN_2, sM_1, sM_same, sM_K, sM_s, uI_at, uN_at, enc_at, uI_enc, uI_uI, upM_s, upM_n]
      exact ⟨rfl, N, rfl, by omega, hM⟩
    | succ k ih =>
      intro i N hi hN hM
      have ix : (nI i).toNatClampNeg = i := ixL (by omega)
      have vx : vp_in (nI i) 10 = True := vpL (by omega) (by omega)
      obtain ⟨hp, rp⟩ := hS.2.2.2.1 i (by omega)
      have ip : (nI (π i)).toNatClampNeg = π i := ixL (by omega)
      obtain ⟨⟨f0, f1, f2, f3, f4, f5, f6⟩, fb⟩ := hS.2.2.2.2.2 i (by omega)
      have hm := hV.min i (by omega)
      refine V_run hB (rt := some .int) (nL := 3) (mc := 0) rfl rfl rfl obX9_minutesInStock_4 ?_
      dsimp only [bX9_minutesInStock_4, ↓wpb, ↓wp1, ↓vI, ↓vL, ↓vD, ↓ldI, ↓ldL, ↓ldD, ↓ldR, ↓k1, ↓k2, ↓kI, ↓kL, ↓kD, ↓kII, ↓kLL, ↓kDD, ↓kR, ↓kIR, ↓kLR, ↓kIIR, ↓kLIR, ↓kDIR, ↓kRIR, ↓kNN, ↓kE, ↓br, ↓bn, ↓rtI, ↓gfv, ↓zchk, lput, ldel, lbad, alA, acat, isRf, dom, dS, dJ, isO, aTy, aLen, elAV, elR, Nat.reduceBEq, Nat.reduceAdd, Bool.or, Bool.and, Nat.add_zero, Nat.zero_add]
      try simp only [Nat.reduceLT, Nat.reduceLeDiff, Nat.reduceEqDiff, true_and, and_true, and_self, Nat.zero_le, Nat.le_refl, true_or, or_true, Bool.false_eq_true, not_false_eq_true, Nat.reduceAdd, Nat.lt_add_one, Nat.zero_lt_one, nI_add, pk_mul, ixL, vpL, ne_eq, reduceIte, wI_sN, wL_sM, sN_same, sN_K, sN_2, sM_1, sM_same, sM_K, sM_s, uI_at, uN_at, enc_at, uI_enc, uI_uI, upM_s, upM_n, g5, ix, vx, hp, rp, ip, f0, f1, f2, f3, f4, f5, f6]
      refine ⟨fun q => absurd q (nI_ge (by omega) (by omega)), fun _ => ?_⟩
      refine ih (i + 1) _ (by omega) (by omega) ?_
      show _ = mnU a i + it a i 3
      omega
  refine V_run hB (rt := some .int) (nL := 3) (mc := 0) rfl rfl rfl obX9_minutesInStock_0 ?_
  dsimp only [bX9_minutesInStock_0, ↓wpb, ↓wp1, ↓vI, ↓vL, ↓vD, ↓ldI, ↓ldL, ↓ldD, ↓ldR, ↓k1, ↓k2, ↓kI, ↓kL, ↓kD, ↓kII, ↓kLL, ↓kDD, ↓kR, ↓kIR, ↓kLR, ↓kIIR, ↓kLIR, ↓kDIR, ↓kRIR, ↓kNN, ↓kE, ↓br, ↓bn, ↓rtI, ↓gfv, ↓zchk, lput, ldel, lbad, alA, acat, isRf, dom, dS, dJ, isO, aTy, aLen, elAV, elR, Nat.reduceBEq, Nat.reduceAdd, Bool.or, Bool.and, Nat.add_zero, Nat.zero_add]
  try simp only [Nat.reduceLT, Nat.reduceLeDiff, Nat.reduceEqDiff, true_and, and_true, and_self, Nat.zero_le, Nat.le_refl, true_or, or_true, Bool.false_eq_true, not_false_eq_true, Nat.reduceAdd, Nat.lt_add_one, Nat.zero_lt_one, nI_add, pk_mul, ixL, vpL, ne_eq, reduceIte, wI_sN, wL_sM, sN_same, sN_K, sN_2, sM_1, sM_same, sM_K, sM_s, uI_at, uN_at, enc_at, uI_enc, uI_uI, upM_s, upM_n]
  exact head (a 4) 0 0 (by omega) (by omega) (Nat.zero_add _)
theorem c_loans (hc : Ctx l G) (hS : ShP τ 0 a π) (hV : IV n a) : Sat l G iX9_sumOfPledgedLoans [shM] τ (retI (nI (slU a (a 4))) τ) := by
  have h10 := hV.1.1
  have g5 := hS.1.2.2
  refine Sat_of hc.1 hc.2 (by decide +kernel) (Nat.le_of_ble_eq_true rfl) (fun x hB hno => ?_)
  have head : ∀ k i, i + k = a 4 → V x τ 0 4 [(0, shM), (1, aI (nI (slU a i))), (2, aI (nI i))] [] := by
    intro k
    induction k with
    | zero =>
      intro i hi
      have hi : i = a 4 := by omega
      subst hi
      refine V_run hB (rt := some .int) (nL := 3) (mc := 0) rfl rfl rfl obX9_sumOfPledgedLoans_4 ?_
      dsimp only [bX9_sumOfPledgedLoans_4, ↓wpb, ↓wp1, ↓vI, ↓vL, ↓vD, ↓ldI, ↓ldL, ↓ldD, ↓ldR, ↓k1, ↓k2, ↓kI, ↓kL, ↓kD, ↓kII, ↓kLL, ↓kDD, ↓kR, ↓kIR, ↓kLR, ↓kIIR, ↓kLIR, ↓kDIR, ↓kRIR, ↓kNN, ↓kE, ↓br, ↓bn, ↓rtI, ↓gfv, ↓zchk, lput, ldel, lbad, alA, acat, isRf, dom, dS, dJ, isO, aTy, aLen, elAV, elR, Nat.reduceBEq, Nat.reduceAdd, Bool.or, Bool.and, Nat.add_zero, Nat.zero_add]
      try simp only [Nat.reduceLT, Nat.reduceLeDiff, Nat.reduceEqDiff, true_and, and_true, and_self, Nat.zero_le, Nat.le_refl, true_or, or_true, Bool.false_eq_true, not_false_eq_true, Nat.reduceAdd, Nat.lt_add_one, Nat.zero_lt_one, nI_add, pk_mul, ixL, vpL, ne_eq, reduceIte, wI_sN, wL_sM, sN_same, sN_K, sN_2, sM_1, sM_same, sM_K, sM_s, uI_at, uN_at, enc_at, uI_enc, uI_uI, upM_s, upM_n, g5]
      refine ⟨fun _ => ?_, fun q => absurd (nI_le (by omega) (by omega)) q⟩
      refine V_run hB (rt := some .int) (nL := 3) (mc := 0) rfl rfl rfl obX9_sumOfPledgedLoans_42 ?_
      dsimp only [bX9_sumOfPledgedLoans_42, ↓wpb, ↓wp1, ↓vI, ↓vL, ↓vD, ↓ldI, ↓ldL, ↓ldD, ↓ldR, ↓k1, ↓k2, ↓kI, ↓kL, ↓kD, ↓kII, ↓kLL, ↓kDD, ↓kR, ↓kIR, ↓kLR, ↓kIIR, ↓kLIR, ↓kDIR, ↓kRIR, ↓kNN, ↓kE, ↓br, ↓bn, ↓rtI, ↓gfv, ↓zchk, lput, ldel, lbad, alA, acat, isRf, dom, dS, dJ, isO, aTy, aLen, elAV, elR, Nat.reduceBEq, Nat.reduceAdd, Bool.or, Bool.and, Nat.add_zero, Nat.zero_add]
      try simp only [Nat.reduceLT, Nat.reduceLeDiff, Nat.reduceEqDiff, true_and, and_true, and_self, Nat.zero_le, Nat.le_refl, true_or, or_true, Bool.false_eq_true, not_false_eq_true, Nat.reduceAdd, Nat.lt_add_one, Nat.zero_lt_one, nI_add, pk_mul, ixL, vpL, ne_eq, reduceIte, wI_sN, wL_sM, sN_same, sN_K, sN_2, sM_1, sM_same, sM_K, sM_s, uI_at, uN_at, enc_at, uI_enc, uI_uI, upM_s, upM_n]
      exact ⟨rfl, rfl⟩
    | succ k ih =>
      intro i hi
      have ix : (nI i).toNatClampNeg = i := ixL (by omega)
      have vx : vp_in (nI i) 10 = True := vpL (by omega) (by omega)
      obtain ⟨hp, rp⟩ := hS.2.2.2.1 i (by omega)
      have ip : (nI (π i)).toNatClampNeg = π i := ixL (by omega)
      obtain ⟨⟨f0, f1, f2, f3, f4, f5, f6⟩, fb⟩ := hS.2.2.2.2.2 i (by omega)
      have ih' := ih (i + 1) (by omega)
      have hu : slU a (i + 1) = slU a i + (if isLot a i = true then 0 else it a i 4) := rfl
      rw [hu] at ih'
      refine V_run hB (rt := some .int) (nL := 3) (mc := 0) rfl rfl rfl obX9_sumOfPledgedLoans_4 ?_
      dsimp only [bX9_sumOfPledgedLoans_4, ↓wpb, ↓wp1, ↓vI, ↓vL, ↓vD, ↓ldI, ↓ldL, ↓ldD, ↓ldR, ↓k1, ↓k2, ↓kI, ↓kL, ↓kD, ↓kII, ↓kLL, ↓kDD, ↓kR, ↓kIR, ↓kLR, ↓kIIR, ↓kLIR, ↓kDIR, ↓kRIR, ↓kNN, ↓kE, ↓br, ↓bn, ↓rtI, ↓gfv, ↓zchk, lput, ldel, lbad, alA, acat, isRf, dom, dS, dJ, isO, aTy, aLen, elAV, elR, Nat.reduceBEq, Nat.reduceAdd, Bool.or, Bool.and, Nat.add_zero, Nat.zero_add]
      try simp only [Nat.reduceLT, Nat.reduceLeDiff, Nat.reduceEqDiff, true_and, and_true, and_self, Nat.zero_le, Nat.le_refl, true_or, or_true, Bool.false_eq_true, not_false_eq_true, Nat.reduceAdd, Nat.lt_add_one, Nat.zero_lt_one, nI_add, pk_mul, ixL, vpL, ne_eq, reduceIte, wI_sN, wL_sM, sN_same, sN_K, sN_2, sM_1, sM_same, sM_K, sM_s, uI_at, uN_at, enc_at, uI_enc, uI_uI, upM_s, upM_n, g5, ix, vx, hp, rp, ip, f0, f1, f2, f3, f4, f5, f6, lot_0 (hV.l1 (show i < 10 by omega))]
      refine ⟨fun q => absurd q (nI_ge (by omega) (by omega)), fun _ => ⟨fun q => ?_, fun q => ?_⟩⟩
      · rw [if_pos (by simpa using q)] at ih'
        refine V_run hB (rt := some .int) (nL := 3) (mc := 0) rfl rfl rfl obX9_sumOfPledgedLoans_36 ?_
        dsimp only [bX9_sumOfPledgedLoans_36, ↓wpb, ↓wp1, ↓vI, ↓vL, ↓vD, ↓ldI, ↓ldL, ↓ldD, ↓ldR, ↓k1, ↓k2, ↓kI, ↓kL, ↓kD, ↓kII, ↓kLL, ↓kDD, ↓kR, ↓kIR, ↓kLR, ↓kIIR, ↓kLIR, ↓kDIR, ↓kRIR, ↓kNN, ↓kE, ↓br, ↓bn, ↓rtI, ↓gfv, ↓zchk, lput, ldel, lbad, alA, acat, isRf, dom, dS, dJ, isO, aTy, aLen, elAV, elR, Nat.reduceBEq, Nat.reduceAdd, Bool.or, Bool.and, Nat.add_zero, Nat.zero_add]
        try simp only [Nat.reduceLT, Nat.reduceLeDiff, Nat.reduceEqDiff, true_and, and_true, and_self, Nat.zero_le, Nat.le_refl, true_or, or_true, Bool.false_eq_true, not_false_eq_true, Nat.reduceAdd, Nat.lt_add_one, Nat.zero_lt_one, nI_add, pk_mul, ixL, vpL, ne_eq, reduceIte, wI_sN, wL_sM, sN_same, sN_K, sN_2, sM_1, sM_same, sM_K, sM_s, uI_at, uN_at, enc_at, uI_enc, uI_uI, upM_s, upM_n]
        exact ih'
      · rw [q, if_neg (by decide)] at ih'
        exact ih'
  refine V_run hB (rt := some .int) (nL := 3) (mc := 0) rfl rfl rfl obX9_sumOfPledgedLoans_0 ?_
  dsimp only [bX9_sumOfPledgedLoans_0, ↓wpb, ↓wp1, ↓vI, ↓vL, ↓vD, ↓ldI, ↓ldL, ↓ldD, ↓ldR, ↓k1, ↓k2, ↓kI, ↓kL, ↓kD, ↓kII, ↓kLL, ↓kDD, ↓kR, ↓kIR, ↓kLR, ↓kIIR, ↓kLIR, ↓kDIR, ↓kRIR, ↓kNN, ↓kE, ↓br, ↓bn, ↓rtI, ↓gfv, ↓zchk, lput, ldel, lbad, alA, acat, isRf, dom, dS, dJ, isO, aTy, aLen, elAV, elR, Nat.reduceBEq, Nat.reduceAdd, Bool.or, Bool.and, Nat.add_zero, Nat.zero_add]
  try simp only [Nat.reduceLT, Nat.reduceLeDiff, Nat.reduceEqDiff, true_and, and_true, and_self, Nat.zero_le, Nat.le_refl, true_or, or_true, Bool.false_eq_true, not_false_eq_true, Nat.reduceAdd, Nat.lt_add_one, Nat.zero_lt_one, nI_add, pk_mul, ixL, vpL, ne_eq, reduceIte, wI_sN, wL_sM, sN_same, sN_K, sN_2, sM_1, sM_same, sM_K, sM_s, uI_at, uN_at, enc_at, uI_enc, uI_uI, upM_s, upM_n]
  exact head (a 4) 0 (by omega)
theorem c_interest (hc : Ctx l G) (hS : ShP τ 0 a π) (hV : IV n a) (hn : n ≤ 1000) {i d : Nat} (hi : i < a 4) (hd : d ≤ 90) (hok : okI a i (a 0 + d)) : Sat l G iX9_interestByDays [shM, .inr (5, 0, π i), aI (nI d)] τ (retI (nI (intr a i (a 0 + d))) τ) := by
  have h10 := hV.1.1
  have gd := hS.2.1.1
  have b0 := hV.2.2.2.2.1
  have b5 := (hV.1.2.1 i (by omega)).2.2.2.2.1
  have ix : (nI i).toNatClampNeg = i := ixL (by omega)
  have vx : vp_in (nI i) 10 = True := vpL (by omega) (by omega)
  obtain ⟨hp, rp⟩ := hS.2.2.2.1 i (by omega)
  have ip : (nI (π i)).toNatClampNeg = π i := ixL (by omega)
  obtain ⟨⟨f0, f1, f2, f3, f4, f5, f6⟩, fb⟩ := hS.2.2.2.2.2 i (by omega)
  refine Sat_of hc.1 hc.2 (by decide +kernel) (Nat.le_of_ble_eq_true rfl) (fun x hB hno => ?_)
  refine V_run hB (rt := some .int) (nL := 3) (mc := 0) rfl rfl rfl obX9_interestByDays_0 ?_
  dsimp only [bX9_interestByDays_0, ↓wpb, ↓wp1, ↓vI, ↓vL, ↓vD, ↓ldI, ↓ldL, ↓ldD, ↓ldR, ↓k1, ↓k2, ↓kI, ↓kL, ↓kD, ↓kII, ↓kLL, ↓kDD, ↓kR, ↓kIR, ↓kLR, ↓kIIR, ↓kLIR, ↓kDIR, ↓kRIR, ↓kNN, ↓kE, ↓br, ↓bn, ↓rtI, ↓gfv, ↓zchk, lput, ldel, lbad, alA, acat, isRf, dom, dS, dJ, isO, aTy, aLen, elAV, elR, Nat.reduceBEq, Nat.reduceAdd, Bool.or, Bool.and, Nat.add_zero, Nat.zero_add]
  try simp only [Nat.reduceLT, Nat.reduceLeDiff, Nat.reduceEqDiff, true_and, and_true, and_self, Nat.zero_le, Nat.le_refl, true_or, or_true, Bool.false_eq_true, not_false_eq_true, Nat.reduceAdd, Nat.lt_add_one, Nat.zero_lt_one, nI_add, pk_mul, ixL, vpL, ne_eq, reduceIte, wI_sN, wL_sM, sN_same, sN_K, sN_2, sM_1, sM_same, sM_K, sM_s, uI_at, uN_at, enc_at, uI_enc, uI_uI, upM_s, upM_n, ix, vx, hp, rp, ip, f0, f1, f2, f3, f4, f5, f6, gd]
  refine V_cV hB hno (c_sumByDays hc hS.2.1 (f := it a i 5) (d := a 0 + d) (by omega) (by omega)) rfl (by decide +kernel) cvX9_156 (dom1 rfl) npX2_sumByDays ⟨by decide, by decide⟩ (Nat.le_of_ble_eq_true rfl) (n' := 0) (by decide) rfl ?_
  unfold okI at hok
  have e : nI (it a i 4 * rsU a (it a i 5) (a 0 + d - it a i 5)) / nI 100 = nI (it a i 4 * rsU a (it a i 5) (a 0 + d - it a i 5) / 100) := pk_div hok (by omega) (by omega)
  refine V_run hB (rt := some .int) (nL := 3) (mc := 0) rfl rfl rfl obX9_interestByDays_24 ?_
  dsimp only [bX9_interestByDays_24, ↓wpb, ↓wp1, ↓vI, ↓vL, ↓vD, ↓ldI, ↓ldL, ↓ldD, ↓ldR, ↓k1, ↓k2, ↓kI, ↓kL, ↓kD, ↓kII, ↓kLL, ↓kDD, ↓kR, ↓kIR, ↓kLR, ↓kIIR, ↓kLIR, ↓kDIR, ↓kRIR, ↓kNN, ↓kE, ↓br, ↓bn, ↓rtI, ↓gfv, ↓zchk, lput, ldel, lbad, alA, acat, isRf, dom, dS, dJ, isO, aTy, aLen, elAV, elR, Nat.reduceBEq, Nat.reduceAdd, Bool.or, Bool.and, Nat.add_zero, Nat.zero_add]
  try simp only [Nat.reduceLT, Nat.reduceLeDiff, Nat.reduceEqDiff, true_and, and_true, and_self, Nat.zero_le, Nat.le_refl, true_or, or_true, Bool.false_eq_true, not_false_eq_true, Nat.reduceAdd, Nat.lt_add_one, Nat.zero_lt_one, nI_add, pk_mul, ixL, vpL, ne_eq, reduceIte, wI_sN, wL_sM, sN_same, sN_K, sN_2, sM_1, sM_same, sM_K, sM_s, uI_at, uN_at, enc_at, uI_enc, uI_uI, upM_s, upM_n, e]
  exact ⟨by decide, rfl, rfl⟩
theorem c_interestW (hc : Ctx l G) (hS : ShP τ 0 a π) (hV : IV n a) (hn : n ≤ 1000) {i : Nat} (hi : i < a 4) (hok : okI a i (a 0)) : Sat l G iX9_interestFromWeeks [shM, .inr (5, 0, π i)] τ (retI (nI (intr a i (a 0))) τ) := by
  have h10 := hV.1.1
  have gd := hS.2.1.1
  have b0 := hV.2.2.2.2.1
  have b5 := (hV.1.2.1 i (by omega)).2.2.2.2.1
  have ix : (nI i).toNatClampNeg = i := ixL (by omega)
  have vx : vp_in (nI i) 10 = True := vpL (by omega) (by omega)
  obtain ⟨hp, rp⟩ := hS.2.2.2.1 i (by omega)
  have ip : (nI (π i)).toNatClampNeg = π i := ixL (by omega)
  obtain ⟨⟨f0, f1, f2, f3, f4, f5, f6⟩, fb⟩ := hS.2.2.2.2.2 i (by omega)
  refine Sat_of hc.1 hc.2 (by decide +kernel) (Nat.le_of_ble_eq_true rfl) (fun x hB hno => ?_)
  refine V_run hB (rt := some .int) (nL := 2) (mc := 0) rfl rfl rfl obX9_interestFromWeeks_0 ?_
  dsimp only [bX9_interestFromWeeks_0, ↓wpb, ↓wp1, ↓vI, ↓vL, ↓vD, ↓ldI, ↓ldL, ↓ldD, ↓ldR, ↓k1, ↓k2, ↓kI, ↓kL, ↓kD, ↓kII, ↓kLL, ↓kDD, ↓kR, ↓kIR, ↓kLR, ↓kIIR, ↓kLIR, ↓kDIR, ↓kRIR, ↓kNN, ↓kE, ↓br, ↓bn, ↓rtI, ↓gfv, ↓zchk, lput, ldel, lbad, alA, acat, isRf, dom, dS, dJ, isO, aTy, aLen, elAV, elR, Nat.reduceBEq, Nat.reduceAdd, Bool.or, Bool.and, Nat.add_zero, Nat.zero_add]
  try simp only [Nat.reduceLT, Nat.reduceLeDiff, Nat.reduceEqDiff, true_and, and_true, and_self, Nat.zero_le, Nat.le_refl, true_or, or_true, Bool.false_eq_true, not_false_eq_true, Nat.reduceAdd, Nat.lt_add_one, Nat.zero_lt_one, nI_add, pk_mul, ixL, vpL, ne_eq, reduceIte, wI_sN, wL_sM, sN_same, sN_K, sN_2, sM_1, sM_same, sM_K, sM_s, uI_at, uN_at, enc_at, uI_enc, uI_uI, upM_s, upM_n, ix, vx, hp, rp, ip, f0, f1, f2, f3, f4, f5, f6, gd]
  refine V_cV hB hno (c_sumByWeeks hc hS.2.1 (f := it a i 5) (d := a 0) (by omega) (by omega)) rfl (by decide +kernel) cvX9_160 (dom1 rfl) npX2_sumByWeeks ⟨by decide, by decide⟩ (Nat.le_of_ble_eq_true rfl) (n' := 0) (by decide) rfl ?_
  unfold okI at hok
  have e : nI (it a i 4 * rsU a (it a i 5) (a 0 - it a i 5)) / nI 100 = nI (it a i 4 * rsU a (it a i 5) (a 0 - it a i 5) / 100) := pk_div hok (by omega) (by omega)
  refine V_run hB (rt := some .int) (nL := 2) (mc := 0) rfl rfl rfl obX9_interestFromWeeks_22 ?_
  dsimp only [bX9_interestFromWeeks_22, ↓wpb, ↓wp1, ↓vI, ↓vL, ↓vD, ↓ldI, ↓ldL, ↓ldD, ↓ldR, ↓k1, ↓k2, ↓kI, ↓kL, ↓kD, ↓kII, ↓kLL, ↓kDD, ↓kR, ↓kIR, ↓kLR, ↓kIIR, ↓kLIR, ↓kDIR, ↓kRIR, ↓kNN, ↓kE, ↓br, ↓bn, ↓rtI, ↓gfv, ↓zchk, lput, ldel, lbad, alA, acat, isRf, dom, dS, dJ, isO, aTy, aLen, elAV, elR, Nat.reduceBEq, Nat.reduceAdd, Bool.or, Bool.and, Nat.add_zero, Nat.zero_add]
  try simp only [Nat.reduceLT, Nat.reduceLeDiff, Nat.reduceEqDiff, true_and, and_true, and_self, Nat.zero_le, Nat.le_refl, true_or, or_true, Bool.false_eq_true, not_false_eq_true, Nat.reduceAdd, Nat.lt_add_one, Nat.zero_lt_one, nI_add, pk_mul, ixL, vpL, ne_eq, reduceIte, wI_sN, wL_sM, sN_same, sN_K, sN_2, sM_1, sM_same, sM_K, sM_s, uI_at, uN_at, enc_at, uI_enc, uI_uI, upM_s, upM_n, e]
  exact ⟨by decide, rfl, rfl⟩
theorem c_agree (hc : Ctx l G) (hS : ShP τ 0 a π) (hV : IV n a) (hn : n ≤ 1000) : Sat l G iX9_interestsAgree [shM] τ (retI (nI 1) τ) := by
  have h10 := hV.1.1
  have g5 := hS.1.2.2
  refine Sat_of hc.1 hc.2 (by decide +kernel) (Nat.le_of_ble_eq_true rfl) (fun x hB hno => ?_)
  have head : ∀ k i, i + k = a 4 → V x τ 0 2 [(0, shM), (1, aI (nI i))] [] := by
    intro k
    induction k with
    | zero =>
      intro i hi
      refine V_run hB (rt := some .boolean) (nL := 2) (mc := 0) rfl rfl rfl obX9_interestsAgree_2 ?_
      dsimp only [bX9_interestsAgree_2, ↓wpb, ↓wp1, ↓vI, ↓vL, ↓vD, ↓ldI, ↓ldL, ↓ldD, ↓ldR, ↓k1, ↓k2, ↓kI, ↓kL, ↓kD, ↓kII, ↓kLL, ↓kDD, ↓kR, ↓kIR, ↓kLR, ↓kIIR, ↓kLIR, ↓kDIR, ↓kRIR, ↓kNN, ↓kE, ↓br, ↓bn, ↓rtI, ↓gfv, ↓zchk, lput, ldel, lbad, alA, acat, isRf, dom, dS, dJ, isO, aTy, aLen, elAV, elR, Nat.reduceBEq, Nat.reduceAdd, Bool.or, Bool.and, Nat.add_zero, Nat.zero_add]
      try simp only [Nat.reduceLT, Nat.reduceLeDiff, Nat.reduceEqDiff, true_and, and_true, and_self, Nat.zero_le, Nat.le_refl, true_or, or_true, Bool.false_eq_true, not_false_eq_true, Nat.reduceAdd, Nat.lt_add_one, Nat.zero_lt_one, nI_add, pk_mul, ixL, vpL, ne_eq, reduceIte, wI_sN, wL_sM, sN_same, sN_K, sN_2, sM_1, sM_same, sM_K, sM_s, uI_at, uN_at, enc_at, uI_enc, uI_uI, upM_s, upM_n, g5]
      refine ⟨fun _ => ?_, fun q => absurd (nI_le (by omega) (by omega)) q⟩
      refine V_run hB (rt := some .boolean) (nL := 2) (mc := 0) rfl rfl rfl obX9_interestsAgree_54 ?_
      dsimp only [bX9_interestsAgree_54, ↓wpb, ↓wp1, ↓vI, ↓vL, ↓vD, ↓ldI, ↓ldL, ↓ldD, ↓ldR, ↓k1, ↓k2, ↓kI, ↓kL, ↓kD, ↓kII, ↓kLL, ↓kDD, ↓kR, ↓kIR, ↓kLR, ↓kIIR, ↓kLIR, ↓kDIR, ↓kRIR, ↓kNN, ↓kE, ↓br, ↓bn, ↓rtI, ↓gfv, ↓zchk, lput, ldel, lbad, alA, acat, isRf, dom, dS, dJ, isO, aTy, aLen, elAV, elR, Nat.reduceBEq, Nat.reduceAdd, Bool.or, Bool.and, Nat.add_zero, Nat.zero_add]
      try simp only [Nat.reduceLT, Nat.reduceLeDiff, Nat.reduceEqDiff, true_and, and_true, and_self, Nat.zero_le, Nat.le_refl, true_or, or_true, Bool.false_eq_true, not_false_eq_true, Nat.reduceAdd, Nat.lt_add_one, Nat.zero_lt_one, nI_add, pk_mul, ixL, vpL, ne_eq, reduceIte, wI_sN, wL_sM, sN_same, sN_K, sN_2, sM_1, sM_same, sM_K, sM_s, uI_at, uN_at, enc_at, uI_enc, uI_uI, upM_s, upM_n]
      exact ⟨Or.inr rfl, rfl, rfl⟩
    | succ k ih =>
      intro i hi
      have ix : (nI i).toNatClampNeg = i := ixL (by omega)
      have vx : vp_in (nI i) 10 = True := vpL (by omega) (by omega)
      obtain ⟨hp, rp⟩ := hS.2.2.2.1 i (by omega)
      have ip : (nI (π i)).toNatClampNeg = π i := ixL (by omega)
      obtain ⟨⟨f0, f1, f2, f3, f4, f5, f6⟩, fb⟩ := hS.2.2.2.2.2 i (by omega)
      have k48 : V x τ 0 48 [(0, shM), (1, aI (nI i))] [] := by
        refine V_run hB (rt := some .boolean) (nL := 2) (mc := 0) rfl rfl rfl obX9_interestsAgree_48 ?_
        dsimp only [bX9_interestsAgree_48, ↓wpb, ↓wp1, ↓vI, ↓vL, ↓vD, ↓ldI, ↓ldL, ↓ldD, ↓ldR, ↓k1, ↓k2, ↓kI, ↓kL, ↓kD, ↓kII, ↓kLL, ↓kDD, ↓kR, ↓kIR, ↓kLR, ↓kIIR, ↓kLIR, ↓kDIR, ↓kRIR, ↓kNN, ↓kE, ↓br, ↓bn, ↓rtI, ↓gfv, ↓zchk, lput, ldel, lbad, alA, acat, isRf, dom, dS, dJ, isO, aTy, aLen, elAV, elR, Nat.reduceBEq, Nat.reduceAdd, Bool.or, Bool.and, Nat.add_zero, Nat.zero_add]
        try simp only [Nat.reduceLT, Nat.reduceLeDiff, Nat.reduceEqDiff, true_and, and_true, and_self, Nat.zero_le, Nat.le_refl, true_or, or_true, Bool.false_eq_true, not_false_eq_true, Nat.reduceAdd, Nat.lt_add_one, Nat.zero_lt_one, nI_add, pk_mul, ixL, vpL, ne_eq, reduceIte, wI_sN, wL_sM, sN_same, sN_K, sN_2, sM_1, sM_same, sM_K, sM_s, uI_at, uN_at, enc_at, uI_enc, uI_uI, upM_s, upM_n]
        exact ih (i + 1) (by omega)
      refine V_run hB (rt := some .boolean) (nL := 2) (mc := 0) rfl rfl rfl obX9_interestsAgree_2 ?_
      dsimp only [bX9_interestsAgree_2, ↓wpb, ↓wp1, ↓vI, ↓vL, ↓vD, ↓ldI, ↓ldL, ↓ldD, ↓ldR, ↓k1, ↓k2, ↓kI, ↓kL, ↓kD, ↓kII, ↓kLL, ↓kDD, ↓kR, ↓kIR, ↓kLR, ↓kIIR, ↓kLIR, ↓kDIR, ↓kRIR, ↓kNN, ↓kE, ↓br, ↓bn, ↓rtI, ↓gfv, ↓zchk, lput, ldel, lbad, alA, acat, isRf, dom, dS, dJ, isO, aTy, aLen, elAV, elR, Nat.reduceBEq, Nat.reduceAdd, Bool.or, Bool.and, Nat.add_zero, Nat.zero_add]
      try simp only [Nat.reduceLT, Nat.reduceLeDiff, Nat.reduceEqDiff, true_and, and_true, and_self, Nat.zero_le, Nat.le_refl, true_or, or_true, Bool.false_eq_true, not_false_eq_true, Nat.reduceAdd, Nat.lt_add_one, Nat.zero_lt_one, nI_add, pk_mul, ixL, vpL, ne_eq, reduceIte, wI_sN, wL_sM, sN_same, sN_K, sN_2, sM_1, sM_same, sM_K, sM_s, uI_at, uN_at, enc_at, uI_enc, uI_uI, upM_s, upM_n, g5, ix, vx, hp, rp, ip, f0, f1, f2, f3, f4, f5, f6, lot_0 (hV.l1 (show i < 10 by omega))]
      refine ⟨fun q => absurd q (nI_ge (by omega) (by omega)), fun _ => ⟨fun q => k48, fun q => ?_⟩⟩
      have hok := hV.okD (e := 0) (show i < a 4 by omega) q (by omega)
      refine V_cV hB hno (c_interest hc hS hV hn (i := i) (d := 0) (by omega) (by omega) hok) rfl (by decide +kernel) cvX9_121 (dom1 rfl) npX9_interestByDays ⟨by decide, by decide⟩ (Nat.le_of_ble_eq_true rfl) (n' := 0) (by decide) rfl ?_
      refine V_run hB (rt := some .boolean) (nL := 2) (mc := 0) rfl rfl rfl obX9_interestsAgree_33 ?_
      dsimp only [bX9_interestsAgree_33, ↓wpb, ↓wp1, ↓vI, ↓vL, ↓vD, ↓ldI, ↓ldL, ↓ldD, ↓ldR, ↓k1, ↓k2, ↓kI, ↓kL, ↓kD, ↓kII, ↓kLL, ↓kDD, ↓kR, ↓kIR, ↓kLR, ↓kIIR, ↓kLIR, ↓kDIR, ↓kRIR, ↓kNN, ↓kE, ↓br, ↓bn, ↓rtI, ↓gfv, ↓zchk, lput, ldel, lbad, alA, acat, isRf, dom, dS, dJ, isO, aTy, aLen, elAV, elR, Nat.reduceBEq, Nat.reduceAdd, Bool.or, Bool.and, Nat.add_zero, Nat.zero_add]
      try simp only [Nat.reduceLT, Nat.reduceLeDiff, Nat.reduceEqDiff, true_and, and_true, and_self, Nat.zero_le, Nat.le_refl, true_or, or_true, Bool.false_eq_true, not_false_eq_true, Nat.reduceAdd, Nat.lt_add_one, Nat.zero_lt_one, nI_add, pk_mul, ixL, vpL, ne_eq, reduceIte, wI_sN, wL_sM, sN_same, sN_K, sN_2, sM_1, sM_same, sM_K, sM_s, uI_at, uN_at, enc_at, uI_enc, uI_uI, upM_s, upM_n, ix, vx, hp, rp, ip, f0, f1, f2, f3, f4, f5, f6]
      refine V_cV hB hno (c_interestW hc hS hV hn (i := i) (by omega) hok) rfl (by decide +kernel) cvX9_190 (dom1 rfl) npX9_interestFromWeeks ⟨by decide, by decide⟩ (Nat.le_of_ble_eq_true rfl) (n' := 0) (by decide) rfl ?_
      refine V_run hB (rt := some .boolean) (nL := 2) (mc := 0) rfl rfl rfl obX9_interestsAgree_43 ?_
      dsimp only [bX9_interestsAgree_43, ↓wpb, ↓wp1, ↓vI, ↓vL, ↓vD, ↓ldI, ↓ldL, ↓ldD, ↓ldR, ↓k1, ↓k2, ↓kI, ↓kL, ↓kD, ↓kII, ↓kLL, ↓kDD, ↓kR, ↓kIR, ↓kLR, ↓kIIR, ↓kLIR, ↓kDIR, ↓kRIR, ↓kNN, ↓kE, ↓br, ↓bn, ↓rtI, ↓gfv, ↓zchk, lput, ldel, lbad, alA, acat, isRf, dom, dS, dJ, isO, aTy, aLen, elAV, elR, Nat.reduceBEq, Nat.reduceAdd, Bool.or, Bool.and, Nat.add_zero, Nat.zero_add]
      try simp only [Nat.reduceLT, Nat.reduceLeDiff, Nat.reduceEqDiff, true_and, and_true, and_self, Nat.zero_le, Nat.le_refl, true_or, or_true, Bool.false_eq_true, not_false_eq_true, Nat.reduceAdd, Nat.lt_add_one, Nat.zero_lt_one, nI_add, pk_mul, ixL, vpL, ne_eq, reduceIte, wI_sN, wL_sM, sN_same, sN_K, sN_2, sM_1, sM_same, sM_K, sM_s, uI_at, uN_at, enc_at, uI_enc, uI_uI, upM_s, upM_n]
      exact ⟨fun _ => k48, fun q => absurd trivial q⟩
  refine V_run hB (rt := some .boolean) (nL := 2) (mc := 0) rfl rfl rfl obX9_interestsAgree_0 ?_
  dsimp only [bX9_interestsAgree_0, ↓wpb, ↓wp1, ↓vI, ↓vL, ↓vD, ↓ldI, ↓ldL, ↓ldD, ↓ldR, ↓k1, ↓k2, ↓kI, ↓kL, ↓kD, ↓kII, ↓kLL, ↓kDD, ↓kR, ↓kIR, ↓kLR, ↓kIIR, ↓kLIR, ↓kDIR, ↓kRIR, ↓kNN, ↓kE, ↓br, ↓bn, ↓rtI, ↓gfv, ↓zchk, lput, ldel, lbad, alA, acat, isRf, dom, dS, dJ, isO, aTy, aLen, elAV, elR, Nat.reduceBEq, Nat.reduceAdd, Bool.or, Bool.and, Nat.add_zero, Nat.zero_add]
  try simp only [Nat.reduceLT, Nat.reduceLeDiff, Nat.reduceEqDiff, true_and, and_true, and_self, Nat.zero_le, Nat.le_refl, true_or, or_true, Bool.false_eq_true, not_false_eq_true, Nat.reduceAdd, Nat.lt_add_one, Nat.zero_lt_one, nI_add, pk_mul, ixL, vpL, ne_eq, reduceIte, wI_sN, wL_sM, sN_same, sN_K, sN_2, sM_1, sM_same, sM_K, sM_s, uI_at, uN_at, enc_at, uI_enc, uI_uI, upM_s, upM_n]
  exact head (a 4) 0 (by omega)
end C3
