/-! ===== the reference's methods: pledging, days ===== -/
def zU (a : Nat → Nat) (n k : Nat) : Nat → Nat := fun j => if 16 + 12 * n ≤ j ∧ j < 16 + 12 * n + k then 0 else a j
theorem zU_lo {a : Nat → Nat} {n k d : Nat} (h : d < 16) : zU a n k d = a d := if_neg (by omega)
def plA (a : Nat → Nat) (c m t : Nat) : Nat → Nat :=
  uN (uN (uN (uN (uN (uN (uN (uN (uN (uN (zU a (a 4) 12) (16 + 12 * a 4) (a 3)) (16 + 12 * a 4 + 2) c) (16 + 12 * a 4 + 3) m) (16 + 12 * a 4 + 4) (m * a 1)) (16 + 12 * a 4 + 5) (a 0)) (16 + 12 * a 4 + 6) (a 0 + t)) 2 (a 2 - m * a 1)) 8 (a 8 + m)) 4 (a 4 + 1)) 3 (a 3 + 1)
def sPl (a : Nat → Nat) (p0 p1 p2 : Int32) : Nat × Nat × (Nat → Nat) :=
  if inR p0 0 5 = true ∧ inR p1 1 240 = true ∧ inR p2 1 60 = true then
    (if a 4 = 10 then (2, 0, a) else if a 2 < p1.toNatClampNeg * a 1 then (3, 0, a) else (0, a 3, plA a p0.toNatClampNeg p1.toNatClampNeg p2.toNatClampNeg))
  else (1, 0, a)
/-- a day's forfeits: of the first items; how many -/
def fA (a : Nat → Nat) : Nat → (Nat → Nat) × Nat
  | 0 => (a, 0)
  | i + 1 => if isLot (fA a i).1 i = true ∨ (fA a i).1 0 ≤ it (fA a i).1 i 6 then fA a i else (uN (uN (fA a i).1 (16 + 12 * i + 1) 1) 6 ((fA a i).1 6 + it (fA a i).1 i 3), (fA a i).2 + 1)
def pA (a : Nat → Nat) : Nat → (Nat → Nat) × Nat
  | 0 => (a, 0)
  | d + 1 => ((fA (uN (pA a d).1 0 ((pA a d).1 0 + 1)) (a 4)).1, (pA a d).2 + (fA (uN (pA a d).1 0 ((pA a d).1 0 + 1)) (a 4)).2)
def sPas (a : Nat → Nat) (p : Int32) : Nat × Nat × (Nat → Nat) := if inR p 1 90 = true then (0, (pA a p.toNatClampNeg).2, (pA a p.toNatClampNeg).1) else (1, 0, a)
theorem fA_bd {a : Nat → Nat} (hm : ∀ j, j < 10 → it a j 3 ≤ 240) : ∀ i, i ≤ 10 → (fA a i).1 4 = a 4 ∧ (fA a i).1 0 = a 0 ∧ (∀ j, j < 10 → it (fA a i).1 j 3 = it a j 3) ∧ (fA a i).1 6 ≤ a 6 + 240 * i ∧ (∀ k, k ≠ 6 → (fA a i).1 k ≤ a k + 1) ∧ (fA a i).2 ≤ i
  | 0, _ => ⟨rfl, rfl, fun _ _ => rfl, by simp [fA], fun k _ => by simp [fA], by simp [fA]⟩
  | i + 1, hi => by
    obtain ⟨h1, h2, h3, h4, h5, h6⟩ := fA_bd hm i (by omega)
    have hu : fA a (i + 1) = if isLot (fA a i).1 i = true ∨ (fA a i).1 0 ≤ it (fA a i).1 i 6 then fA a i else (uN (uN (fA a i).1 (16 + 12 * i + 1) 1) 6 ((fA a i).1 6 + it (fA a i).1 i 3), (fA a i).2 + 1) := rfl
    by_cases hc : isLot (fA a i).1 i = true ∨ (fA a i).1 0 ≤ it (fA a i).1 i 6
    · rw [hu, if_pos hc]
      exact ⟨h1, h2, h3, by omega, h5, by omega⟩
    · rw [hu, if_neg hc]
      have h7 := h3 i (by omega)
      have h8 := hm i (by omega)
      refine ⟨?_, ?_, ?_, ?_, ?_, by simp only; omega⟩
      · simp only [uN]; rw [if_neg (by omega), if_neg (by omega)]; exact h1
      · simp only [uN]; rw [if_neg (by omega), if_neg (by omega)]; exact h2
      · intro j hj
        have := h3 j hj
        simp only [it, uN] at this ⊢
        rw [if_neg (by omega), if_neg (by omega)]; exact this
      · simp only [uN, if_true]; omega
      · intro k hk
        simp only [uN]
        rw [if_neg hk]
        split
        · omega
        · exact h5 k hk
theorem pA_bd {a : Nat → Nat} (hm : ∀ j, j < 10 → it a j 3 ≤ 240) (h10 : a 4 ≤ 10) : ∀ d, (pA a d).1 4 = a 4 ∧ (pA a d).1 0 = a 0 + d ∧ (∀ j, j < 10 → it (pA a d).1 j 3 = it a j 3) ∧ (pA a d).1 6 ≤ a 6 + 2400 * d ∧ (∀ k, k ≠ 6 → k ≠ 0 → (pA a d).1 k ≤ a k + d) ∧ (pA a d).2 ≤ 10 * d
  | 0 => ⟨rfl, rfl, fun _ _ => rfl, by simp [pA], fun k _ _ => by simp [pA], by simp [pA]⟩
  | d + 1 => by
    obtain ⟨h1, h2, h3, h4, h5, h6⟩ := pA_bd hm h10 d
    have hm2 : ∀ j, j < 10 → it (uN (pA a d).1 0 ((pA a d).1 0 + 1)) j 3 ≤ 240 := by
      intro j hj
      have := h3 j hj
      have := hm j hj
      simp only [it, uN] at *
      rw [if_neg (by omega)]; omega
    obtain ⟨f1, f2, f3, f4, f5, f6⟩ := fA_bd hm2 (a 4) h10
    have e6 : uN (pA a d).1 0 ((pA a d).1 0 + 1) 6 = (pA a d).1 6 := rfl
    have e4 : uN (pA a d).1 0 ((pA a d).1 0 + 1) 4 = (pA a d).1 4 := rfl
    have e0 : uN (pA a d).1 0 ((pA a d).1 0 + 1) 0 = (pA a d).1 0 + 1 := rfl
    refine ⟨?_, ?_, ?_, ?_, ?_, ?_⟩
    · show (fA _ _).1 4 = _
      rw [f1, e4, h1]
    · show (fA _ _).1 0 = _
      rw [f2, e0, h2]; omega
    · intro j hj
      show it (fA _ _).1 j 3 = _
      rw [f3 j hj, ← h3 j hj]
      simp only [it, uN]
      rw [if_neg (by omega)]
    · show (fA _ _).1 6 ≤ _
      rw [e6] at f4
      omega
    · intro k k6 k0
      show (fA _ _).1 k ≤ _
      have := f5 k k6
      have e : uN (pA a d).1 0 ((pA a d).1 0 + 1) k = (pA a d).1 k := if_neg k0
      rw [e] at this
      have := h5 k k6 k0
      omega
    · show (pA a d).2 + (fA _ _).2 ≤ _
      omega
section M4
variable {l : Launch} {G : GG}
theorem q_pledges (hc : Ctx l G) {τ : Mem} {a : Nat → Nat} (hS : MS τ a) (ht : τ.1 (30, 0, 0) 0 = nI 0) (hp : a 1 ≤ 9) (p0 p1 p2 : Int32) : Sat l G iX11_pledges [mM, aI p0, aI p1, aI p2] τ (outM τ (sPl a p0 p1 p2)) := by
  have hv := hS.1
  have hm := hS.2.1
  have hs := hS.2.2
  refine Sat_of hc.1 hc.2 (by decide +kernel) (Nat.le_of_ble_eq_true rfl) (fun x hB hno => ?_)
  have h30 : ¬ (inR p0 0 5 = true ∧ inR p1 1 240 = true ∧ inR p2 1 60 = true) → V x τ 0 30 [(0, mM), (1, aI p0), (2, aI p1), (3, aI p2)] [] := by
    intro h
    have e : sPl a p0 p1 p2 = (1, 0, a) := by simp only [sPl, if_neg h]
    rw [e] at hB
    refine V_run hB (rt := some .int) (nL := 7) (mc := 0) rfl rfl rfl obX11_pledges_30 ?_
    dsimp only [bX11_pledges_30, ↓wpb, ↓wp1, ↓vI, ↓vL, ↓vD, ↓ldI, ↓ldL, ↓ldD, ↓ldR, ↓k1, ↓k2, ↓kI, ↓kL, ↓kD, ↓kII, ↓kLL, ↓kDD, ↓kR, ↓kIR, ↓kLR, ↓kIIR, ↓kLIR, ↓kDIR, ↓kRIR, ↓kNN, ↓kE, ↓br, ↓bn, ↓rtI, ↓gfv, ↓zchk, lput, ldel, lbad, alA, acat, isRf, dom, dS, dJ, isO, aTy, aLen, elAV, elR, Nat.reduceBEq, Nat.reduceAdd, Bool.or, Bool.and, Nat.add_zero, Nat.zero_add]
    try simp only [Nat.reduceLT, Nat.reduceLeDiff, Nat.reduceEqDiff, true_and, and_true, and_self, Nat.zero_le, Nat.le_refl, true_or, or_true, Bool.false_eq_true, not_false_eq_true, Nat.reduceAdd, Nat.lt_add_one, Nat.zero_lt_one, nI_add, pk_mul, ixL, vpL, ne_eq, reduceIte, wI_sA, sA_same, sA_ne, sA_sA, sA_comm, uI_at, uN_at, enc_at, uI_enc, uI_uI, itn1, itn2, itn3, itn4, itc, itc0, itc1, upM_s, upM_n]
    refine V_cV hB hno (q_failM hc hS 1) rfl (by decide +kernel) cvX11_76 (dom1 rfl) npX11_fail ⟨by decide, by decide⟩ (Nat.le_of_ble_eq_true rfl) (n' := 0) (by decide) rfl ?_
    refine V_run hB (rt := some .int) (nL := 7) (mc := 0) rfl rfl rfl obX11_pledges_35 ?_
    dsimp only [bX11_pledges_35, ↓wpb, ↓wp1, ↓vI, ↓vL, ↓vD, ↓ldI, ↓ldL, ↓ldD, ↓ldR, ↓k1, ↓k2, ↓kI, ↓kL, ↓kD, ↓kII, ↓kLL, ↓kDD, ↓kR, ↓kIR, ↓kLR, ↓kIIR, ↓kLIR, ↓kDIR, ↓kRIR, ↓kNN, ↓kE, ↓br, ↓bn, ↓rtI, ↓gfv, ↓zchk, lput, ldel, lbad, alA, acat, isRf, dom, dS, dJ, isO, aTy, aLen, elAV, elR, Nat.reduceBEq, Nat.reduceAdd, Bool.or, Bool.and, Nat.add_zero, Nat.zero_add]
    try simp only [Nat.reduceLT, Nat.reduceLeDiff, Nat.reduceEqDiff, true_and, and_true, and_self, Nat.zero_le, Nat.le_refl, true_or, or_true, Bool.false_eq_true, not_false_eq_true, Nat.reduceAdd, Nat.lt_add_one, Nat.zero_lt_one, nI_add, pk_mul, ixL, vpL, ne_eq, reduceIte, wI_sA, sA_same, sA_ne, sA_sA, sA_comm, uI_at, uN_at, enc_at, uI_enc, uI_uI, itn1, itn2, itn3, itn4, itc, itc0, itc1, upM_s, upM_n]
    exact ⟨rfl, rfl⟩
  refine V_run hB (rt := some .int) (nL := 7) (mc := 0) rfl rfl rfl obX11_pledges_0 ?_
  dsimp only [bX11_pledges_0, ↓wpb, ↓wp1, ↓vI, ↓vL, ↓vD, ↓ldI, ↓ldL, ↓ldD, ↓ldR, ↓k1, ↓k2, ↓kI, ↓kL, ↓kD, ↓kII, ↓kLL, ↓kDD, ↓kR, ↓kIR, ↓kLR, ↓kIIR, ↓kLIR, ↓kDIR, ↓kRIR, ↓kNN, ↓kE, ↓br, ↓bn, ↓rtI, ↓gfv, ↓zchk, lput, ldel, lbad, alA, acat, isRf, dom, dS, dJ, isO, aTy, aLen, elAV, elR, Nat.reduceBEq, Nat.reduceAdd, Bool.or, Bool.and, Nat.add_zero, Nat.zero_add]
  try simp only [Nat.reduceLT, Nat.reduceLeDiff, Nat.reduceEqDiff, true_and, and_true, and_self, Nat.zero_le, Nat.le_refl, true_or, or_true, Bool.false_eq_true, not_false_eq_true, Nat.reduceAdd, Nat.lt_add_one, Nat.zero_lt_one, nI_add, pk_mul, ixL, vpL, ne_eq, reduceIte, wI_sA, sA_same, sA_ne, sA_sA, sA_comm, uI_at, uN_at, enc_at, uI_enc, uI_uI, itn1, itn2, itn3, itn4, itc, itc0, itc1, upM_s, upM_n]
  refine V_cS hB hno (q_isInN hc _ _ _ _) rfl (by decide +kernel) csX11_72 npX11_isIn ⟨by decide, by decide⟩ (Nat.le_of_ble_eq_true rfl) (n' := 0) (by decide) rfl ?_
  refine V_run hB (rt := some .int) (nL := 7) (mc := 0) rfl rfl rfl obX11_pledges_6 ?_
  dsimp only [bX11_pledges_6, ↓wpb, ↓wp1, ↓vI, ↓vL, ↓vD, ↓ldI, ↓ldL, ↓ldD, ↓ldR, ↓k1, ↓k2, ↓kI, ↓kL, ↓kD, ↓kII, ↓kLL, ↓kDD, ↓kR, ↓kIR, ↓kLR, ↓kIIR, ↓kLIR, ↓kDIR, ↓kRIR, ↓kNN, ↓kE, ↓br, ↓bn, ↓rtI, ↓gfv, ↓zchk, lput, ldel, lbad, alA, acat, isRf, dom, dS, dJ, isO, aTy, aLen, elAV, elR, Nat.reduceBEq, Nat.reduceAdd, Bool.or, Bool.and, Nat.add_zero, Nat.zero_add]
  try simp only [Nat.reduceLT, Nat.reduceLeDiff, Nat.reduceEqDiff, true_and, and_true, and_self, Nat.zero_le, Nat.le_refl, true_or, or_true, Bool.false_eq_true, not_false_eq_true, Nat.reduceAdd, Nat.lt_add_one, Nat.zero_lt_one, nI_add, pk_mul, ixL, vpL, ne_eq, reduceIte, wI_sA, sA_same, sA_ne, sA_sA, sA_comm, uI_at, uN_at, enc_at, uI_enc, uI_uI, itn1, itn2, itn3, itn4, itc, itc0, itc1, upM_s, upM_n, bN_0]
  refine ⟨fun h => h30 (fun q => by rw [q.1] at h; cases h), fun h => ?_⟩
  have h1 : inR p0 0 5 = true := by simpa using h
  refine V_cS hB hno (q_isInN hc _ _ _ _) rfl (by decide +kernel) csX11_72 npX11_isIn ⟨by decide, by decide⟩ (Nat.le_of_ble_eq_true rfl) (n' := 0) (by decide) rfl ?_
  refine V_run hB (rt := some .int) (nL := 7) (mc := 0) rfl rfl rfl obX11_pledges_17 ?_
  dsimp only [bX11_pledges_17, ↓wpb, ↓wp1, ↓vI, ↓vL, ↓vD, ↓ldI, ↓ldL, ↓ldD, ↓ldR, ↓k1, ↓k2, ↓kI, ↓kL, ↓kD, ↓kII, ↓kLL, ↓kDD, ↓kR, ↓kIR, ↓kLR, ↓kIIR, ↓kLIR, ↓kDIR, ↓kRIR, ↓kNN, ↓kE, ↓br, ↓bn, ↓rtI, ↓gfv, ↓zchk, lput, ldel, lbad, alA, acat, isRf, dom, dS, dJ, isO, aTy, aLen, elAV, elR, Nat.reduceBEq, Nat.reduceAdd, Bool.or, Bool.and, Nat.add_zero, Nat.zero_add]
  try simp only [Nat.reduceLT, Nat.reduceLeDiff, Nat.reduceEqDiff, true_and, and_true, and_self, Nat.zero_le, Nat.le_refl, true_or, or_true, Bool.false_eq_true, not_false_eq_true, Nat.reduceAdd, Nat.lt_add_one, Nat.zero_lt_one, nI_add, pk_mul, ixL, vpL, ne_eq, reduceIte, wI_sA, sA_same, sA_ne, sA_sA, sA_comm, uI_at, uN_at, enc_at, uI_enc, uI_uI, itn1, itn2, itn3, itn4, itc, itc0, itc1, upM_s, upM_n, bN_0]
  refine ⟨fun h => h30 (fun q => by rw [q.2.1] at h; cases h), fun h => ?_⟩
  have h2 : inR p1 1 240 = true := by simpa using h
  refine V_cS hB hno (q_isInN hc _ _ _ _) rfl (by decide +kernel) csX11_72 npX11_isIn ⟨by decide, by decide⟩ (Nat.le_of_ble_eq_true rfl) (n' := 0) (by decide) rfl ?_
  have h36 : inR p2 1 60 = true → V x τ 0 36 [(0, mM), (1, aI p0), (2, aI p1), (3, aI p2)] [] := by
    intro h3
    obtain ⟨c, rfl, hc1, hc2⟩ := inR_N h1 (by omega) (by omega)
    obtain ⟨m, rfl, hm1, hm2⟩ := inR_N h2 (by omega) (by omega)
    obtain ⟨t, rfl, ht1, ht2⟩ := inR_N h3 (by omega) (by omega)
    have hml : m * a 1 ≤ 2160 := by
      have : m * a 1 ≤ 240 * 9 := Nat.mul_le_mul hm2 hp
      omega
    have e : sPl a (nI c) (nI m) (nI t) = (if a 4 = 10 then (2, 0, a) else if a 2 < m * a 1 then (3, 0, a) else (0, a 3, plA a c m t)) := by
      simp only [sPl, if_pos (And.intro h1 (And.intro h2 h3)), ixL (show c < 2147483648 by omega), ixL (show m < 2147483648 by omega), ixL (show t < 2147483648 by omega)]
    rw [e] at hB
    refine V_run hB (rt := some .int) (nL := 7) (mc := 0) rfl rfl rfl obX11_pledges_36 ?_
    dsimp only [bX11_pledges_36, ↓wpb, ↓wp1, ↓vI, ↓vL, ↓vD, ↓ldI, ↓ldL, ↓ldD, ↓ldR, ↓k1, ↓k2, ↓kI, ↓kL, ↓kD, ↓kII, ↓kLL, ↓kDD, ↓kR, ↓kIR, ↓kLR, ↓kIIR, ↓kLIR, ↓kDIR, ↓kRIR, ↓kNN, ↓kE, ↓br, ↓bn, ↓rtI, ↓gfv, ↓zchk, lput, ldel, lbad, alA, acat, isRf, dom, dS, dJ, isO, aTy, aLen, elAV, elR, Nat.reduceBEq, Nat.reduceAdd, Bool.or, Bool.and, Nat.add_zero, Nat.zero_add]
    try simp only [Nat.reduceLT, Nat.reduceLeDiff, Nat.reduceEqDiff, true_and, and_true, and_self, Nat.zero_le, Nat.le_refl, true_or, or_true, Bool.false_eq_true, not_false_eq_true, Nat.reduceAdd, Nat.lt_add_one, Nat.zero_lt_one, nI_add, pk_mul, ixL, vpL, ne_eq, reduceIte, wI_sA, sA_same, sA_ne, sA_sA, sA_comm, uI_at, uN_at, enc_at, uI_enc, uI_uI, itn1, itn2, itn3, itn4, itc, itc0, itc1, upM_s, upM_n, hv]
    refine ⟨fun h4 => ?_, fun h4 => ?_⟩
    · have h4 : ¬ a 4 = 10 := fun q => h4 (by rw [q])
      have hn10 : a 4 < 10 := by omega
      rw [if_neg h4] at hB
      refine V_run hB (rt := some .int) (nL := 7) (mc := 0) rfl rfl rfl obX11_pledges_67 ?_
      dsimp only [bX11_pledges_67, ↓wpb, ↓wp1, ↓vI, ↓vL, ↓vD, ↓ldI, ↓ldL, ↓ldD, ↓ldR, ↓k1, ↓k2, ↓kI, ↓kL, ↓kD, ↓kII, ↓kLL, ↓kDD, ↓kR, ↓kIR, ↓kLR, ↓kIIR, ↓kLIR, ↓kDIR, ↓kRIR, ↓kNN, ↓kE, ↓br, ↓bn, ↓rtI, ↓gfv, ↓zchk, lput, ldel, lbad, alA, acat, isRf, dom, dS, dJ, isO, aTy, aLen, elAV, elR, Nat.reduceBEq, Nat.reduceAdd, Bool.or, Bool.and, Nat.add_zero, Nat.zero_add]
      try simp only [Nat.reduceLT, Nat.reduceLeDiff, Nat.reduceEqDiff, true_and, and_true, and_self, Nat.zero_le, Nat.le_refl, true_or, or_true, Bool.false_eq_true, not_false_eq_true, Nat.reduceAdd, Nat.lt_add_one, Nat.zero_lt_one, nI_add, pk_mul, ixL, vpL, ne_eq, reduceIte, wI_sA, sA_same, sA_ne, sA_sA, sA_comm, uI_at, uN_at, enc_at, uI_enc, uI_uI, itn1, itn2, itn3, itn4, itc, itc0, itc1, upM_s, upM_n, hv]
      refine ⟨fun h5 => ?_, fun h5 => ?_⟩
      · have h5 := (nI_leI (by omega) (by have := hs 2; omega)).mp h5
        rw [if_neg (by omega)] at hB
        have head : ∀ d k, k + d = 12 → V x (sA τ 31 (enc (zU a (a 4) k))) 0 87 [(0, mM), (1, aI (nI c)), (2, aI (nI m)), (3, aI (nI t)), (4, aI (nI (a 4))), (5, aI (nI (m * a 1))), (6, aI (nI k))] [] := by
          intro d
          induction d with
          | zero =>
            intro k hk
            have hk : k = 12 := by omega
            subst hk
            refine V_run hB (rt := some .int) (nL := 7) (mc := 0) rfl rfl rfl obX11_pledges_87 ?_
            dsimp only [bX11_pledges_87, ↓wpb, ↓wp1, ↓vI, ↓vL, ↓vD, ↓ldI, ↓ldL, ↓ldD, ↓ldR, ↓k1, ↓k2, ↓kI, ↓kL, ↓kD, ↓kII, ↓kLL, ↓kDD, ↓kR, ↓kIR, ↓kLR, ↓kIIR, ↓kLIR, ↓kDIR, ↓kRIR, ↓kNN, ↓kE, ↓br, ↓bn, ↓rtI, ↓gfv, ↓zchk, lput, ldel, lbad, alA, acat, isRf, dom, dS, dJ, isO, aTy, aLen, elAV, elR, Nat.reduceBEq, Nat.reduceAdd, Bool.or, Bool.and, Nat.add_zero, Nat.zero_add]
            try simp only [Nat.reduceLT, Nat.reduceLeDiff, Nat.reduceEqDiff, true_and, and_true, and_self, Nat.zero_le, Nat.le_refl, true_or, or_true, Bool.false_eq_true, not_false_eq_true, Nat.reduceAdd, Nat.lt_add_one, Nat.zero_lt_one, nI_add, pk_mul, ixL, vpL, ne_eq, reduceIte, wI_sA, sA_same, sA_ne, sA_sA, sA_comm, uI_at, uN_at, enc_at, uI_enc, uI_uI, itn1, itn2, itn3, itn4, itc, itc0, itc1, upM_s, upM_n]
            refine ⟨fun _ => ?_, fun h => absurd (nI_le (by omega) (by omega)) h⟩
            refine V_run hB (rt := some .int) (nL := 7) (mc := 0) rfl rfl rfl obX11_pledges_113 ?_
            dsimp only [bX11_pledges_113, ↓wpb, ↓wp1, ↓vI, ↓vL, ↓vD, ↓ldI, ↓ldL, ↓ldD, ↓ldR, ↓k1, ↓k2, ↓kI, ↓kL, ↓kD, ↓kII, ↓kLL, ↓kDD, ↓kR, ↓kIR, ↓kLR, ↓kIIR, ↓kLIR, ↓kDIR, ↓kRIR, ↓kNN, ↓kE, ↓br, ↓bn, ↓rtI, ↓gfv, ↓zchk, lput, ldel, lbad, alA, acat, isRf, dom, dS, dJ, isO, aTy, aLen, elAV, elR, Nat.reduceBEq, Nat.reduceAdd, Bool.or, Bool.and, Nat.add_zero, Nat.zero_add]
            try simp only [Nat.reduceLT, Nat.reduceLeDiff, Nat.reduceEqDiff, true_and, and_true, and_self, Nat.zero_le, Nat.le_refl, true_or, or_true, Bool.false_eq_true, not_false_eq_true, Nat.reduceAdd, Nat.lt_add_one, Nat.zero_lt_one, nI_add, pk_mul, ixL, vpL, ne_eq, reduceIte, wI_sA, sA_same, sA_ne, sA_sA, sA_comm, uI_at, uN_at, enc_at, uI_enc, uI_uI, itn1, itn2, itn3, itn4, itc, itc0, itc1, upM_s, upM_n]
            refine V_cS hB hno (q_ofN hc _ _ _) rfl (by decide +kernel) csX11_60 npX11_of ⟨by decide, by decide⟩ (Nat.le_of_ble_eq_true rfl) (n' := 0) (by decide) rfl ?_
            refine V_run hB (rt := some .int) (nL := 7) (mc := 0) rfl rfl rfl obX11_pledges_123 ?_
            dsimp only [bX11_pledges_123, ↓wpb, ↓wp1, ↓vI, ↓vL, ↓vD, ↓ldI, ↓ldL, ↓ldD, ↓ldR, ↓k1, ↓k2, ↓kI, ↓kL, ↓kD, ↓kII, ↓kLL, ↓kDD, ↓kR, ↓kIR, ↓kLR, ↓kIIR, ↓kLIR, ↓kDIR, ↓kRIR, ↓kNN, ↓kE, ↓br, ↓bn, ↓rtI, ↓gfv, ↓zchk, lput, ldel, lbad, alA, acat, isRf, dom, dS, dJ, isO, aTy, aLen, elAV, elR, Nat.reduceBEq, Nat.reduceAdd, Bool.or, Bool.and, Nat.add_zero, Nat.zero_add]
            try simp only [Nat.reduceLT, Nat.reduceLeDiff, Nat.reduceEqDiff, true_and, and_true, and_self, Nat.zero_le, Nat.le_refl, true_or, or_true, Bool.false_eq_true, not_false_eq_true, Nat.reduceAdd, Nat.lt_add_one, Nat.zero_lt_one, nI_add, pk_mul, ixL, vpL, ne_eq, reduceIte, wI_sA, sA_same, sA_ne, sA_sA, sA_comm, uI_at, uN_at, enc_at, uI_enc, uI_uI, itn1, itn2, itn3, itn4, itc, itc0, itc1, upM_s, upM_n, ixI0 hn10, vpI0 hn10, zU_lo]
            refine V_cS hB hno (q_ofN hc _ _ _) rfl (by decide +kernel) csX11_60 npX11_of ⟨by decide, by decide⟩ (Nat.le_of_ble_eq_true rfl) (n' := 0) (by decide) rfl ?_
            refine V_run hB (rt := some .int) (nL := 7) (mc := 0) rfl rfl rfl obX11_pledges_140 ?_
            dsimp only [bX11_pledges_140, ↓wpb, ↓wp1, ↓vI, ↓vL, ↓vD, ↓ldI, ↓ldL, ↓ldD, ↓ldR, ↓k1, ↓k2, ↓kI, ↓kL, ↓kD, ↓kII, ↓kLL, ↓kDD, ↓kR, ↓kIR, ↓kLR, ↓kIIR, ↓kLIR, ↓kDIR, ↓kRIR, ↓kNN, ↓kE, ↓br, ↓bn, ↓rtI, ↓gfv, ↓zchk, lput, ldel, lbad, alA, acat, isRf, dom, dS, dJ, isO, aTy, aLen, elAV, elR, Nat.reduceBEq, Nat.reduceAdd, Bool.or, Bool.and, Nat.add_zero, Nat.zero_add]
            try simp only [Nat.reduceLT, Nat.reduceLeDiff, Nat.reduceEqDiff, true_and, and_true, and_self, Nat.zero_le, Nat.le_refl, true_or, or_true, Bool.false_eq_true, not_false_eq_true, Nat.reduceAdd, Nat.lt_add_one, Nat.zero_lt_one, nI_add, pk_mul, ixL, vpL, ne_eq, reduceIte, wI_sA, sA_same, sA_ne, sA_sA, sA_comm, uI_at, uN_at, enc_at, uI_enc, uI_uI, itn1, itn2, itn3, itn4, itc, itc0, itc1, upM_s, upM_n, ixI hn10, vpI hn10, zU_lo]
            refine V_cS hB hno (q_ofN hc _ _ _) rfl (by decide +kernel) csX11_60 npX11_of ⟨by decide, by decide⟩ (Nat.le_of_ble_eq_true rfl) (n' := 0) (by decide) rfl ?_
            refine V_run hB (rt := some .int) (nL := 7) (mc := 0) rfl rfl rfl obX11_pledges_152 ?_
            dsimp only [bX11_pledges_152, ↓wpb, ↓wp1, ↓vI, ↓vL, ↓vD, ↓ldI, ↓ldL, ↓ldD, ↓ldR, ↓k1, ↓k2, ↓kI, ↓kL, ↓kD, ↓kII, ↓kLL, ↓kDD, ↓kR, ↓kIR, ↓kLR, ↓kIIR, ↓kLIR, ↓kDIR, ↓kRIR, ↓kNN, ↓kE, ↓br, ↓bn, ↓rtI, ↓gfv, ↓zchk, lput, ldel, lbad, alA, acat, isRf, dom, dS, dJ, isO, aTy, aLen, elAV, elR, Nat.reduceBEq, Nat.reduceAdd, Bool.or, Bool.and, Nat.add_zero, Nat.zero_add]
            try simp only [Nat.reduceLT, Nat.reduceLeDiff, Nat.reduceEqDiff, true_and, and_true, and_self, Nat.zero_le, Nat.le_refl, true_or, or_true, Bool.false_eq_true, not_false_eq_true, Nat.reduceAdd, Nat.lt_add_one, Nat.zero_lt_one, nI_add, pk_mul, ixL, vpL, ne_eq, reduceIte, wI_sA, sA_same, sA_ne, sA_sA, sA_comm, uI_at, uN_at, enc_at, uI_enc, uI_uI, itn1, itn2, itn3, itn4, itc, itc0, itc1, upM_s, upM_n, ixI hn10, vpI hn10, zU_lo]
            refine V_cS hB hno (q_ofN hc _ _ _) rfl (by decide +kernel) csX11_60 npX11_of ⟨by decide, by decide⟩ (Nat.le_of_ble_eq_true rfl) (n' := 0) (by decide) rfl ?_
            refine V_run hB (rt := some .int) (nL := 7) (mc := 0) rfl rfl rfl obX11_pledges_164 ?_
            dsimp only [bX11_pledges_164, ↓wpb, ↓wp1, ↓vI, ↓vL, ↓vD, ↓ldI, ↓ldL, ↓ldD, ↓ldR, ↓k1, ↓k2, ↓kI, ↓kL, ↓kD, ↓kII, ↓kLL, ↓kDD, ↓kR, ↓kIR, ↓kLR, ↓kIIR, ↓kLIR, ↓kDIR, ↓kRIR, ↓kNN, ↓kE, ↓br, ↓bn, ↓rtI, ↓gfv, ↓zchk, lput, ldel, lbad, alA, acat, isRf, dom, dS, dJ, isO, aTy, aLen, elAV, elR, Nat.reduceBEq, Nat.reduceAdd, Bool.or, Bool.and, Nat.add_zero, Nat.zero_add]
            try simp only [Nat.reduceLT, Nat.reduceLeDiff, Nat.reduceEqDiff, true_and, and_true, and_self, Nat.zero_le, Nat.le_refl, true_or, or_true, Bool.false_eq_true, not_false_eq_true, Nat.reduceAdd, Nat.lt_add_one, Nat.zero_lt_one, nI_add, pk_mul, ixL, vpL, ne_eq, reduceIte, wI_sA, sA_same, sA_ne, sA_sA, sA_comm, uI_at, uN_at, enc_at, uI_enc, uI_uI, itn1, itn2, itn3, itn4, itc, itc0, itc1, upM_s, upM_n, ixI hn10, vpI hn10, zU_lo]
            refine V_cS hB hno (q_ofN hc _ _ _) rfl (by decide +kernel) csX11_60 npX11_of ⟨by decide, by decide⟩ (Nat.le_of_ble_eq_true rfl) (n' := 0) (by decide) rfl ?_
            refine V_run hB (rt := some .int) (nL := 7) (mc := 0) rfl rfl rfl obX11_pledges_177 ?_
            dsimp only [bX11_pledges_177, ↓wpb, ↓wp1, ↓vI, ↓vL, ↓vD, ↓ldI, ↓ldL, ↓ldD, ↓ldR, ↓k1, ↓k2, ↓kI, ↓kL, ↓kD, ↓kII, ↓kLL, ↓kDD, ↓kR, ↓kIR, ↓kLR, ↓kIIR, ↓kLIR, ↓kDIR, ↓kRIR, ↓kNN, ↓kE, ↓br, ↓bn, ↓rtI, ↓gfv, ↓zchk, lput, ldel, lbad, alA, acat, isRf, dom, dS, dJ, isO, aTy, aLen, elAV, elR, Nat.reduceBEq, Nat.reduceAdd, Bool.or, Bool.and, Nat.add_zero, Nat.zero_add]
            try simp only [Nat.reduceLT, Nat.reduceLeDiff, Nat.reduceEqDiff, true_and, and_true, and_self, Nat.zero_le, Nat.le_refl, true_or, or_true, Bool.false_eq_true, not_false_eq_true, Nat.reduceAdd, Nat.lt_add_one, Nat.zero_lt_one, nI_add, pk_mul, ixL, vpL, ne_eq, reduceIte, wI_sA, sA_same, sA_ne, sA_sA, sA_comm, uI_at, uN_at, enc_at, uI_enc, uI_uI, itn1, itn2, itn3, itn4, itc, itc0, itc1, upM_s, upM_n, ixI hn10, vpI hn10, zU_lo]
            refine V_cS hB hno (q_ofN hc _ _ _) rfl (by decide +kernel) csX11_60 npX11_of ⟨by decide, by decide⟩ (Nat.le_of_ble_eq_true rfl) (n' := 0) (by decide) rfl ?_
            refine V_run hB (rt := some .int) (nL := 7) (mc := 0) rfl rfl rfl obX11_pledges_195 ?_
            dsimp only [bX11_pledges_195, ↓wpb, ↓wp1, ↓vI, ↓vL, ↓vD, ↓ldI, ↓ldL, ↓ldD, ↓ldR, ↓k1, ↓k2, ↓kI, ↓kL, ↓kD, ↓kII, ↓kLL, ↓kDD, ↓kR, ↓kIR, ↓kLR, ↓kIIR, ↓kLIR, ↓kDIR, ↓kRIR, ↓kNN, ↓kE, ↓br, ↓bn, ↓rtI, ↓gfv, ↓zchk, lput, ldel, lbad, alA, acat, isRf, dom, dS, dJ, isO, aTy, aLen, elAV, elR, Nat.reduceBEq, Nat.reduceAdd, Bool.or, Bool.and, Nat.add_zero, Nat.zero_add]
            try simp only [Nat.reduceLT, Nat.reduceLeDiff, Nat.reduceEqDiff, true_and, and_true, and_self, Nat.zero_le, Nat.le_refl, true_or, or_true, Bool.false_eq_true, not_false_eq_true, Nat.reduceAdd, Nat.lt_add_one, Nat.zero_lt_one, nI_add, pk_mul, ixL, vpL, ne_eq, reduceIte, wI_sA, sA_same, sA_ne, sA_sA, sA_comm, uI_at, uN_at, enc_at, uI_enc, uI_uI, itn1, itn2, itn3, itn4, itc, itc0, itc1, upM_s, upM_n, ixI hn10, vpI hn10, zU_lo, pk_sub h5]
            refine V_cS hB hno (q_ofN hc _ _ _) rfl (by decide +kernel) csX11_60 npX11_of ⟨by decide, by decide⟩ (Nat.le_of_ble_eq_true rfl) (n' := 0) (by decide) rfl ?_
            refine V_run hB (rt := some .int) (nL := 7) (mc := 0) rfl rfl rfl obX11_pledges_256 ?_
            dsimp only [bX11_pledges_256, ↓wpb, ↓wp1, ↓vI, ↓vL, ↓vD, ↓ldI, ↓ldL, ↓ldD, ↓ldR, ↓k1, ↓k2, ↓kI, ↓kL, ↓kD, ↓kII, ↓kLL, ↓kDD, ↓kR, ↓kIR, ↓kLR, ↓kIIR, ↓kLIR, ↓kDIR, ↓kRIR, ↓kNN, ↓kE, ↓br, ↓bn, ↓rtI, ↓gfv, ↓zchk, lput, ldel, lbad, alA, acat, isRf, dom, dS, dJ, isO, aTy, aLen, elAV, elR, Nat.reduceBEq, Nat.reduceAdd, Bool.or, Bool.and, Nat.add_zero, Nat.zero_add]
            try simp only [Nat.reduceLT, Nat.reduceLeDiff, Nat.reduceEqDiff, true_and, and_true, and_self, Nat.zero_le, Nat.le_refl, true_or, or_true, Bool.false_eq_true, not_false_eq_true, Nat.reduceAdd, Nat.lt_add_one, Nat.zero_lt_one, nI_add, pk_mul, ixL, vpL, ne_eq, reduceIte, wI_sA, sA_same, sA_ne, sA_sA, sA_comm, uI_at, uN_at, enc_at, uI_enc, uI_uI, itn1, itn2, itn3, itn4, itc, itc0, itc1, upM_s, upM_n, ixI0 hn10, vpI0 hn10, zU_lo]
            refine ⟨rfl, ?_⟩
            rw [opM_ok ht]
            rfl
          | succ d ih =>
            intro k hk
            have e2 : uN (zU a (a 4) k) (16 + 12 * a 4 + k) 0 = zU a (a 4) (k + 1) := by
              funext j
              simp only [uN, zU]
              by_cases hj : j = 16 + 12 * a 4 + k
              · rw [if_pos hj, if_pos (by omega)]
              · rw [if_neg hj]
                by_cases h6 : 16 + 12 * a 4 ≤ j ∧ j < 16 + 12 * a 4 + k
                · rw [if_pos h6, if_pos (by omega)]
                · rw [if_neg h6, if_neg (by omega)]
            refine V_run hB (rt := some .int) (nL := 7) (mc := 0) rfl rfl rfl obX11_pledges_87 ?_
            dsimp only [bX11_pledges_87, ↓wpb, ↓wp1, ↓vI, ↓vL, ↓vD, ↓ldI, ↓ldL, ↓ldD, ↓ldR, ↓k1, ↓k2, ↓kI, ↓kL, ↓kD, ↓kII, ↓kLL, ↓kDD, ↓kR, ↓kIR, ↓kLR, ↓kIIR, ↓kLIR, ↓kDIR, ↓kRIR, ↓kNN, ↓kE, ↓br, ↓bn, ↓rtI, ↓gfv, ↓zchk, lput, ldel, lbad, alA, acat, isRf, dom, dS, dJ, isO, aTy, aLen, elAV, elR, Nat.reduceBEq, Nat.reduceAdd, Bool.or, Bool.and, Nat.add_zero, Nat.zero_add]
            try simp only [Nat.reduceLT, Nat.reduceLeDiff, Nat.reduceEqDiff, true_and, and_true, and_self, Nat.zero_le, Nat.le_refl, true_or, or_true, Bool.false_eq_true, not_false_eq_true, Nat.reduceAdd, Nat.lt_add_one, Nat.zero_lt_one, nI_add, pk_mul, ixL, vpL, ne_eq, reduceIte, wI_sA, sA_same, sA_ne, sA_sA, sA_comm, uI_at, uN_at, enc_at, uI_enc, uI_uI, itn1, itn2, itn3, itn4, itc, itc0, itc1, upM_s, upM_n]
            refine ⟨fun h => absurd h (nI_ge (by omega) (by omega)), fun _ => ?_⟩
            refine V_cS hB hno (q_ofN hc _ _ _) rfl (by decide +kernel) csX11_60 npX11_of ⟨by decide, by decide⟩ (Nat.le_of_ble_eq_true rfl) (n' := 0) (by decide) rfl ?_
            refine V_run hB (rt := some .int) (nL := 7) (mc := 0) rfl rfl rfl obX11_pledges_105 ?_
            dsimp only [bX11_pledges_105, ↓wpb, ↓wp1, ↓vI, ↓vL, ↓vD, ↓ldI, ↓ldL, ↓ldD, ↓ldR, ↓k1, ↓k2, ↓kI, ↓kL, ↓kD, ↓kII, ↓kLL, ↓kDD, ↓kR, ↓kIR, ↓kLR, ↓kIIR, ↓kLIR, ↓kDIR, ↓kRIR, ↓kNN, ↓kE, ↓br, ↓bn, ↓rtI, ↓gfv, ↓zchk, lput, ldel, lbad, alA, acat, isRf, dom, dS, dJ, isO, aTy, aLen, elAV, elR, Nat.reduceBEq, Nat.reduceAdd, Bool.or, Bool.and, Nat.add_zero, Nat.zero_add]
            try simp only [Nat.reduceLT, Nat.reduceLeDiff, Nat.reduceEqDiff, true_and, and_true, and_self, Nat.zero_le, Nat.le_refl, true_or, or_true, Bool.false_eq_true, not_false_eq_true, Nat.reduceAdd, Nat.lt_add_one, Nat.zero_lt_one, nI_add, pk_mul, ixL, vpL, ne_eq, reduceIte, wI_sA, sA_same, sA_ne, sA_sA, sA_comm, uI_at, uN_at, enc_at, uI_enc, uI_uI, itn1, itn2, itn3, itn4, itc, itc0, itc1, upM_s, upM_n, ixI (c := k) hn10 (by omega), vpI (c := k) hn10 (by omega)]
            rw [e2]
            exact ih (k + 1) (by omega)
        refine V_run hB (rt := some .int) (nL := 7) (mc := 0) rfl rfl rfl obX11_pledges_84 ?_
        dsimp only [bX11_pledges_84, ↓wpb, ↓wp1, ↓vI, ↓vL, ↓vD, ↓ldI, ↓ldL, ↓ldD, ↓ldR, ↓k1, ↓k2, ↓kI, ↓kL, ↓kD, ↓kII, ↓kLL, ↓kDD, ↓kR, ↓kIR, ↓kLR, ↓kIIR, ↓kLIR, ↓kDIR, ↓kRIR, ↓kNN, ↓kE, ↓br, ↓bn, ↓rtI, ↓gfv, ↓zchk, lput, ldel, lbad, alA, acat, isRf, dom, dS, dJ, isO, aTy, aLen, elAV, elR, Nat.reduceBEq, Nat.reduceAdd, Bool.or, Bool.and, Nat.add_zero, Nat.zero_add]
        try simp only [Nat.reduceLT, Nat.reduceLeDiff, Nat.reduceEqDiff, true_and, and_true, and_self, Nat.zero_le, Nat.le_refl, true_or, or_true, Bool.false_eq_true, not_false_eq_true, Nat.reduceAdd, Nat.lt_add_one, Nat.zero_lt_one, nI_add, pk_mul, ixL, vpL, ne_eq, reduceIte, wI_sA, sA_same, sA_ne, sA_sA, sA_comm, uI_at, uN_at, enc_at, uI_enc, uI_uI, itn1, itn2, itn3, itn4, itc, itc0, itc1, upM_s, upM_n]
        have h := head 12 0 (by omega)
        have e0 : zU a (a 4) 0 = a := by funext j; simp only [zU]; rw [if_neg (by omega)]
        rw [e0, sA_id hv] at h
        exact h
      · have h5 : a 2 < m * a 1 := by
          rcases Nat.lt_or_ge (a 2) (m * a 1) with q | q
          · exact q
          · exact absurd (nI_le q (by have := hs 2; omega)) h5
        rw [if_pos h5] at hB
        refine V_cV hB hno (q_failM hc hS 3) rfl (by decide +kernel) cvX11_76 (dom1 rfl) npX11_fail ⟨by decide, by decide⟩ (Nat.le_of_ble_eq_true rfl) (n' := 0) (by decide) rfl ?_
        refine V_run hB (rt := some .int) (nL := 7) (mc := 0) rfl rfl rfl obX11_pledges_83 ?_
        dsimp only [bX11_pledges_83, ↓wpb, ↓wp1, ↓vI, ↓vL, ↓vD, ↓ldI, ↓ldL, ↓ldD, ↓ldR, ↓k1, ↓k2, ↓kI, ↓kL, ↓kD, ↓kII, ↓kLL, ↓kDD, ↓kR, ↓kIR, ↓kLR, ↓kIIR, ↓kLIR, ↓kDIR, ↓kRIR, ↓kNN, ↓kE, ↓br, ↓bn, ↓rtI, ↓gfv, ↓zchk, lput, ldel, lbad, alA, acat, isRf, dom, dS, dJ, isO, aTy, aLen, elAV, elR, Nat.reduceBEq, Nat.reduceAdd, Bool.or, Bool.and, Nat.add_zero, Nat.zero_add]
        try simp only [Nat.reduceLT, Nat.reduceLeDiff, Nat.reduceEqDiff, true_and, and_true, and_self, Nat.zero_le, Nat.le_refl, true_or, or_true, Bool.false_eq_true, not_false_eq_true, Nat.reduceAdd, Nat.lt_add_one, Nat.zero_lt_one, nI_add, pk_mul, ixL, vpL, ne_eq, reduceIte, wI_sA, sA_same, sA_ne, sA_sA, sA_comm, uI_at, uN_at, enc_at, uI_enc, uI_uI, itn1, itn2, itn3, itn4, itc, itc0, itc1, upM_s, upM_n]
        exact ⟨rfl, rfl⟩
    · have h4 := (nI_eq (by omega) (by omega)).mp h4
      rw [if_pos h4] at hB
      refine V_cV hB hno (q_failM hc hS 2) rfl (by decide +kernel) cvX11_76 (dom1 rfl) npX11_fail ⟨by decide, by decide⟩ (Nat.le_of_ble_eq_true rfl) (n' := 0) (by decide) rfl ?_
      refine V_run hB (rt := some .int) (nL := 7) (mc := 0) rfl rfl rfl obX11_pledges_66 ?_
      dsimp only [bX11_pledges_66, ↓wpb, ↓wp1, ↓vI, ↓vL, ↓vD, ↓ldI, ↓ldL, ↓ldD, ↓ldR, ↓k1, ↓k2, ↓kI, ↓kL, ↓kD, ↓kII, ↓kLL, ↓kDD, ↓kR, ↓kIR, ↓kLR, ↓kIIR, ↓kLIR, ↓kDIR, ↓kRIR, ↓kNN, ↓kE, ↓br, ↓bn, ↓rtI, ↓gfv, ↓zchk, lput, ldel, lbad, alA, acat, isRf, dom, dS, dJ, isO, aTy, aLen, elAV, elR, Nat.reduceBEq, Nat.reduceAdd, Bool.or, Bool.and, Nat.add_zero, Nat.zero_add]
      try simp only [Nat.reduceLT, Nat.reduceLeDiff, Nat.reduceEqDiff, true_and, and_true, and_self, Nat.zero_le, Nat.le_refl, true_or, or_true, Bool.false_eq_true, not_false_eq_true, Nat.reduceAdd, Nat.lt_add_one, Nat.zero_lt_one, nI_add, pk_mul, ixL, vpL, ne_eq, reduceIte, wI_sA, sA_same, sA_ne, sA_sA, sA_comm, uI_at, uN_at, enc_at, uI_enc, uI_uI, itn1, itn2, itn3, itn4, itc, itc0, itc1, upM_s, upM_n]
      exact ⟨rfl, rfl⟩
  refine V_run hB (rt := some .int) (nL := 7) (mc := 0) rfl rfl rfl obX11_pledges_27 ?_
  dsimp only [bX11_pledges_27, ↓wpb, ↓wp1, ↓vI, ↓vL, ↓vD, ↓ldI, ↓ldL, ↓ldD, ↓ldR, ↓k1, ↓k2, ↓kI, ↓kL, ↓kD, ↓kII, ↓kLL, ↓kDD, ↓kR, ↓kIR, ↓kLR, ↓kIIR, ↓kLIR, ↓kDIR, ↓kRIR, ↓kNN, ↓kE, ↓br, ↓bn, ↓rtI, ↓gfv, ↓zchk, lput, ldel, lbad, alA, acat, isRf, dom, dS, dJ, isO, aTy, aLen, elAV, elR, Nat.reduceBEq, Nat.reduceAdd, Bool.or, Bool.and, Nat.add_zero, Nat.zero_add]
  try simp only [Nat.reduceLT, Nat.reduceLeDiff, Nat.reduceEqDiff, true_and, and_true, and_self, Nat.zero_le, Nat.le_refl, true_or, or_true, Bool.false_eq_true, not_false_eq_true, Nat.reduceAdd, Nat.lt_add_one, Nat.zero_lt_one, nI_add, pk_mul, ixL, vpL, ne_eq, reduceIte, wI_sA, sA_same, sA_ne, sA_sA, sA_comm, uI_at, uN_at, enc_at, uI_enc, uI_uI, itn1, itn2, itn3, itn4, itc, itc0, itc1, upM_s, upM_n, bN_0]
  refine ⟨fun h => h36 (by simpa using h), fun h => ?_⟩
  have e : sPl a p0 p1 p2 = (1, 0, a) := by
    simp only [sPl]
    rw [if_neg (fun q => by rw [q.2.2] at h; cases h)]
  rw [e] at hB
  refine V_cV hB hno (q_failM hc hS 1) rfl (by decide +kernel) cvX11_76 (dom1 rfl) npX11_fail ⟨by decide, by decide⟩ (Nat.le_of_ble_eq_true rfl) (n' := 0) (by decide) rfl ?_
  refine V_run hB (rt := some .int) (nL := 7) (mc := 0) rfl rfl rfl obX11_pledges_35 ?_
  dsimp only [bX11_pledges_35, ↓wpb, ↓wp1, ↓vI, ↓vL, ↓vD, ↓ldI, ↓ldL, ↓ldD, ↓ldR, ↓k1, ↓k2, ↓kI, ↓kL, ↓kD, ↓kII, ↓kLL, ↓kDD, ↓kR, ↓kIR, ↓kLR, ↓kIIR, ↓kLIR, ↓kDIR, ↓kRIR, ↓kNN, ↓kE, ↓br, ↓bn, ↓rtI, ↓gfv, ↓zchk, lput, ldel, lbad, alA, acat, isRf, dom, dS, dJ, isO, aTy, aLen, elAV, elR, Nat.reduceBEq, Nat.reduceAdd, Bool.or, Bool.and, Nat.add_zero, Nat.zero_add]
  try simp only [Nat.reduceLT, Nat.reduceLeDiff, Nat.reduceEqDiff, true_and, and_true, and_self, Nat.zero_le, Nat.le_refl, true_or, or_true, Bool.false_eq_true, not_false_eq_true, Nat.reduceAdd, Nat.lt_add_one, Nat.zero_lt_one, nI_add, pk_mul, ixL, vpL, ne_eq, reduceIte, wI_sA, sA_same, sA_ne, sA_sA, sA_comm, uI_at, uN_at, enc_at, uI_enc, uI_uI, itn1, itn2, itn3, itn4, itc, itc0, itc1, upM_s, upM_n]
  exact ⟨rfl, rfl⟩
theorem q_passes (hc : Ctx l G) {τ : Mem} {a : Nat → Nat} (hS : MS τ a) (ht : τ.1 (30, 0, 0) 0 = nI 0) (hmn : ∀ j, j < 10 → it a j 3 ≤ 240) (hbd : ∀ k, a k < 1073000000) (p : Int32) : Sat l G iX11_passes [mM, aI p] τ (outM τ (sPas a p)) := by
  have hv := hS.1
  have hm := hS.2.1
  refine Sat_of hc.1 hc.2 (by decide +kernel) (Nat.le_of_ble_eq_true rfl) (fun x hB hno => ?_)
  refine V_run hB (rt := some .int) (nL := 5) (mc := 0) rfl rfl rfl obX11_passes_0 ?_
  dsimp only [bX11_passes_0, ↓wpb, ↓wp1, ↓vI, ↓vL, ↓vD, ↓ldI, ↓ldL, ↓ldD, ↓ldR, ↓k1, ↓k2, ↓kI, ↓kL, ↓kD, ↓kII, ↓kLL, ↓kDD, ↓kR, ↓kIR, ↓kLR, ↓kIIR, ↓kLIR, ↓kDIR, ↓kRIR, ↓kNN, ↓kE, ↓br, ↓bn, ↓rtI, ↓gfv, ↓zchk, lput, ldel, lbad, alA, acat, isRf, dom, dS, dJ, isO, aTy, aLen, elAV, elR, Nat.reduceBEq, Nat.reduceAdd, Bool.or, Bool.and, Nat.add_zero, Nat.zero_add]
  try simp only [Nat.reduceLT, Nat.reduceLeDiff, Nat.reduceEqDiff, true_and, and_true, and_self, Nat.zero_le, Nat.le_refl, true_or, or_true, Bool.false_eq_true, not_false_eq_true, Nat.reduceAdd, Nat.lt_add_one, Nat.zero_lt_one, nI_add, pk_mul, ixL, vpL, ne_eq, reduceIte, wI_sA, sA_same, sA_ne, sA_sA, sA_comm, uI_at, uN_at, enc_at, uI_enc, uI_uI, itn1, itn2, itn3, itn4, itc, itc0, itc1, upM_s, upM_n]
  refine V_cS hB hno (q_isInN hc _ _ _ _) rfl (by decide +kernel) csX11_72 npX11_isIn ⟨by decide, by decide⟩ (Nat.le_of_ble_eq_true rfl) (n' := 0) (by decide) rfl ?_
  refine V_run hB (rt := some .int) (nL := 5) (mc := 0) rfl rfl rfl obX11_passes_7 ?_
  dsimp only [bX11_passes_7, ↓wpb, ↓wp1, ↓vI, ↓vL, ↓vD, ↓ldI, ↓ldL, ↓ldD, ↓ldR, ↓k1, ↓k2, ↓kI, ↓kL, ↓kD, ↓kII, ↓kLL, ↓kDD, ↓kR, ↓kIR, ↓kLR, ↓kIIR, ↓kLIR, ↓kDIR, ↓kRIR, ↓kNN, ↓kE, ↓br, ↓bn, ↓rtI, ↓gfv, ↓zchk, lput, ldel, lbad, alA, acat, isRf, dom, dS, dJ, isO, aTy, aLen, elAV, elR, Nat.reduceBEq, Nat.reduceAdd, Bool.or, Bool.and, Nat.add_zero, Nat.zero_add]
  try simp only [Nat.reduceLT, Nat.reduceLeDiff, Nat.reduceEqDiff, true_and, and_true, and_self, Nat.zero_le, Nat.le_refl, true_or, or_true, Bool.false_eq_true, not_false_eq_true, Nat.reduceAdd, Nat.lt_add_one, Nat.zero_lt_one, nI_add, pk_mul, ixL, vpL, ne_eq, reduceIte, wI_sA, sA_same, sA_ne, sA_sA, sA_comm, uI_at, uN_at, enc_at, uI_enc, uI_uI, itn1, itn2, itn3, itn4, itc, itc0, itc1, upM_s, upM_n, bN_0]
  refine ⟨fun h => ?_, fun h => ?_⟩
  · have h1 : inR p 1 90 = true := by simpa using h
    obtain ⟨n, rfl, hn1, hn2⟩ := inR_N h1 (by omega) (by omega)
    have e : sPas a (nI n) = (0, (pA a n).2, (pA a n).1) := by simp only [sPas, if_pos h1, ixL (show n < 2147483648 by omega)]
    rw [e] at hB
    have head : ∀ k d, d + k = n → V x (sA τ 31 (enc (pA a d).1)) 0 20 [(0, mM), (1, aI (nI n)), (2, aI (nI (pA a d).2)), (3, aI (nI d))] [] := by
      intro k
      induction k with
      | zero =>
        intro d hd
        have hd : d = n := by omega
        subst hd
        refine V_run hB (rt := some .int) (nL := 5) (mc := 0) rfl rfl rfl obX11_passes_20 ?_
        dsimp only [bX11_passes_20, ↓wpb, ↓wp1, ↓vI, ↓vL, ↓vD, ↓ldI, ↓ldL, ↓ldD, ↓ldR, ↓k1, ↓k2, ↓kI, ↓kL, ↓kD, ↓kII, ↓kLL, ↓kDD, ↓kR, ↓kIR, ↓kLR, ↓kIIR, ↓kLIR, ↓kDIR, ↓kRIR, ↓kNN, ↓kE, ↓br, ↓bn, ↓rtI, ↓gfv, ↓zchk, lput, ldel, lbad, alA, acat, isRf, dom, dS, dJ, isO, aTy, aLen, elAV, elR, Nat.reduceBEq, Nat.reduceAdd, Bool.or, Bool.and, Nat.add_zero, Nat.zero_add]
        try simp only [Nat.reduceLT, Nat.reduceLeDiff, Nat.reduceEqDiff, true_and, and_true, and_self, Nat.zero_le, Nat.le_refl, true_or, or_true, Bool.false_eq_true, not_false_eq_true, Nat.reduceAdd, Nat.lt_add_one, Nat.zero_lt_one, nI_add, pk_mul, ixL, vpL, ne_eq, reduceIte, wI_sA, sA_same, sA_ne, sA_sA, sA_comm, uI_at, uN_at, enc_at, uI_enc, uI_uI, itn1, itn2, itn3, itn4, itc, itc0, itc1, upM_s, upM_n]
        refine ⟨fun _ => ?_, fun h => absurd (nI_le (by omega) (by omega)) h⟩
        refine V_run hB (rt := some .int) (nL := 5) (mc := 0) rfl rfl rfl obX11_passes_130 ?_
        dsimp only [bX11_passes_130, ↓wpb, ↓wp1, ↓vI, ↓vL, ↓vD, ↓ldI, ↓ldL, ↓ldD, ↓ldR, ↓k1, ↓k2, ↓kI, ↓kL, ↓kD, ↓kII, ↓kLL, ↓kDD, ↓kR, ↓kIR, ↓kLR, ↓kIIR, ↓kLIR, ↓kDIR, ↓kRIR, ↓kNN, ↓kE, ↓br, ↓bn, ↓rtI, ↓gfv, ↓zchk, lput, ldel, lbad, alA, acat, isRf, dom, dS, dJ, isO, aTy, aLen, elAV, elR, Nat.reduceBEq, Nat.reduceAdd, Bool.or, Bool.and, Nat.add_zero, Nat.zero_add]
        try simp only [Nat.reduceLT, Nat.reduceLeDiff, Nat.reduceEqDiff, true_and, and_true, and_self, Nat.zero_le, Nat.le_refl, true_or, or_true, Bool.false_eq_true, not_false_eq_true, Nat.reduceAdd, Nat.lt_add_one, Nat.zero_lt_one, nI_add, pk_mul, ixL, vpL, ne_eq, reduceIte, wI_sA, sA_same, sA_ne, sA_sA, sA_comm, uI_at, uN_at, enc_at, uI_enc, uI_uI, itn1, itn2, itn3, itn4, itc, itc0, itc1, upM_s, upM_n]
        refine ⟨rfl, ?_⟩
        rw [opM_ok ht]
      | succ k ih =>
        intro d hd
        have ih' := ih (d + 1) (by omega)
        obtain ⟨b1, b2, b3, b4, b5, b6⟩ := pA_bd hmn hm d
        have hu : pA a (d + 1) = ((fA (uN (pA a d).1 0 ((pA a d).1 0 + 1)) (a 4)).1, (pA a d).2 + (fA (uN (pA a d).1 0 ((pA a d).1 0 + 1)) (a 4)).2) := rfl
        rw [hu] at ih'
        dsimp only at ih'
        obtain ⟨b, hbe⟩ : ∃ b, b = uN (pA a d).1 0 ((pA a d).1 0 + 1) := ⟨_, rfl⟩
        have hb4 : b 4 = a 4 := by rw [hbe]; exact b1
        have hb0 : b 0 = a 0 + d + 1 := by rw [hbe]; show (pA a d).1 0 + 1 = _; rw [b2]
        have hb3 : ∀ j, j < 10 → it b j 3 ≤ 240 := by
          intro j hj
          have h2 := b3 j hj
          have h3 := hmn j hj
          rw [hbe]
          simp only [it, uN] at *
          rw [if_neg (by omega)]; omega
        have hbk : ∀ k, b k < 1073300000 := by
          intro k
          have h2 := hbd k
          have h60 := hbd 6
          have h00 := hbd 0
          by_cases hk0 : k = 0
          · rw [hk0, hb0]; omega
          · have h3 : b k = (pA a d).1 k := by rw [hbe]; exact if_neg hk0
            rw [h3]
            by_cases hk6 : k = 6
            · rw [hk6]; omega
            · have := b5 k hk6 hk0; omega
        refine V_run hB (rt := some .int) (nL := 5) (mc := 0) rfl rfl rfl obX11_passes_20 ?_
        dsimp only [bX11_passes_20, ↓wpb, ↓wp1, ↓vI, ↓vL, ↓vD, ↓ldI, ↓ldL, ↓ldD, ↓ldR, ↓k1, ↓k2, ↓kI, ↓kL, ↓kD, ↓kII, ↓kLL, ↓kDD, ↓kR, ↓kIR, ↓kLR, ↓kIIR, ↓kLIR, ↓kDIR, ↓kRIR, ↓kNN, ↓kE, ↓br, ↓bn, ↓rtI, ↓gfv, ↓zchk, lput, ldel, lbad, alA, acat, isRf, dom, dS, dJ, isO, aTy, aLen, elAV, elR, Nat.reduceBEq, Nat.reduceAdd, Bool.or, Bool.and, Nat.add_zero, Nat.zero_add]
        try simp only [Nat.reduceLT, Nat.reduceLeDiff, Nat.reduceEqDiff, true_and, and_true, and_self, Nat.zero_le, Nat.le_refl, true_or, or_true, Bool.false_eq_true, not_false_eq_true, Nat.reduceAdd, Nat.lt_add_one, Nat.zero_lt_one, nI_add, pk_mul, ixL, vpL, ne_eq, reduceIte, wI_sA, sA_same, sA_ne, sA_sA, sA_comm, uI_at, uN_at, enc_at, uI_enc, uI_uI, itn1, itn2, itn3, itn4, itc, itc0, itc1, upM_s, upM_n]
        refine ⟨fun h => absurd h (nI_ge (by omega) (by omega)), fun _ => ?_⟩
        rw [← hbe]
        rw [← hbe] at ih'
        have inner : ∀ w2 i, i + w2 = a 4 → V x (sA τ 31 (enc (fA b i).1)) 0 38 [(0, mM), (1, aI (nI n)), (2, aI (nI ((pA a d).2 + (fA b i).2))), (3, aI (nI d)), (4, aI (nI i))] [] := by
          intro w2
          induction w2 with
          | zero =>
            intro i hi
            have hi : i = a 4 := by omega
            subst hi
            obtain ⟨f1, f2, f3, f4, f5, f6⟩ := fA_bd hb3 (a 4) hm
            rw [hb4] at f1
            refine V_run hB (rt := some .int) (nL := 5) (mc := 0) rfl rfl rfl obX11_passes_38 ?_
            dsimp only [bX11_passes_38, ↓wpb, ↓wp1, ↓vI, ↓vL, ↓vD, ↓ldI, ↓ldL, ↓ldD, ↓ldR, ↓k1, ↓k2, ↓kI, ↓kL, ↓kD, ↓kII, ↓kLL, ↓kDD, ↓kR, ↓kIR, ↓kLR, ↓kIIR, ↓kLIR, ↓kDIR, ↓kRIR, ↓kNN, ↓kE, ↓br, ↓bn, ↓rtI, ↓gfv, ↓zchk, lput, ldel, lbad, alA, acat, isRf, dom, dS, dJ, isO, aTy, aLen, elAV, elR, Nat.reduceBEq, Nat.reduceAdd, Bool.or, Bool.and, Nat.add_zero, Nat.zero_add]
            try simp only [Nat.reduceLT, Nat.reduceLeDiff, Nat.reduceEqDiff, true_and, and_true, and_self, Nat.zero_le, Nat.le_refl, true_or, or_true, Bool.false_eq_true, not_false_eq_true, Nat.reduceAdd, Nat.lt_add_one, Nat.zero_lt_one, nI_add, pk_mul, ixL, vpL, ne_eq, reduceIte, wI_sA, sA_same, sA_ne, sA_sA, sA_comm, uI_at, uN_at, enc_at, uI_enc, uI_uI, itn1, itn2, itn3, itn4, itc, itc0, itc1, upM_s, upM_n, f1]
            refine ⟨fun _ => ?_, fun h => absurd (nI_le (by omega) (by omega)) h⟩
            refine V_run hB (rt := some .int) (nL := 5) (mc := 0) rfl rfl rfl obX11_passes_124 ?_
            dsimp only [bX11_passes_124, ↓wpb, ↓wp1, ↓vI, ↓vL, ↓vD, ↓ldI, ↓ldL, ↓ldD, ↓ldR, ↓k1, ↓k2, ↓kI, ↓kL, ↓kD, ↓kII, ↓kLL, ↓kDD, ↓kR, ↓kIR, ↓kLR, ↓kIIR, ↓kLIR, ↓kDIR, ↓kRIR, ↓kNN, ↓kE, ↓br, ↓bn, ↓rtI, ↓gfv, ↓zchk, lput, ldel, lbad, alA, acat, isRf, dom, dS, dJ, isO, aTy, aLen, elAV, elR, Nat.reduceBEq, Nat.reduceAdd, Bool.or, Bool.and, Nat.add_zero, Nat.zero_add]
            try simp only [Nat.reduceLT, Nat.reduceLeDiff, Nat.reduceEqDiff, true_and, and_true, and_self, Nat.zero_le, Nat.le_refl, true_or, or_true, Bool.false_eq_true, not_false_eq_true, Nat.reduceAdd, Nat.lt_add_one, Nat.zero_lt_one, nI_add, pk_mul, ixL, vpL, ne_eq, reduceIte, wI_sA, sA_same, sA_ne, sA_sA, sA_comm, uI_at, uN_at, enc_at, uI_enc, uI_uI, itn1, itn2, itn3, itn4, itc, itc0, itc1, upM_s, upM_n]
            exact V.sub ih' (List.forall_mem_cons.mpr ⟨rfl, List.forall_mem_cons.mpr ⟨rfl, List.forall_mem_cons.mpr ⟨rfl, List.forall_mem_cons.mpr ⟨rfl, fun _ h => absurd h List.not_mem_nil⟩⟩⟩⟩)
          | succ w2 ih2 =>
            intro i hi
            have hi10 : i < 10 := by omega
            have ih2' := ih2 (i + 1) (by omega)
            obtain ⟨f1, f2, f3, f4, f5, f6⟩ := fA_bd hb3 i (by omega)
            rw [hb4] at f1
            have hu2 : fA b (i + 1) = if isLot (fA b i).1 i = true ∨ (fA b i).1 0 ≤ it (fA b i).1 i 6 then fA b i else (uN (uN (fA b i).1 (16 + 12 * i + 1) 1) 6 ((fA b i).1 6 + it (fA b i).1 i 3), (fA b i).2 + 1) := rfl
            have hS2 : MS (sA τ 31 (enc (fA b i).1)) (fA b i).1 := MS.s31 ⟨by rw [f1]; exact hm, fun k => by
              by_cases hk6 : k = 6
              · rw [hk6]; have := hbk 6; omega
              · have := f5 k hk6; have := hbk k; omega⟩
            have hlt := hS2.2.2
            have h118 : (isLot (fA b i).1 i = true ∨ (fA b i).1 0 ≤ it (fA b i).1 i 6) → V x (sA τ 31 (enc (fA b i).1)) 0 118 [(0, mM), (1, aI (nI n)), (2, aI (nI ((pA a d).2 + (fA b i).2))), (3, aI (nI d)), (4, aI (nI i))] [] := by
              intro h
              refine V_run hB (rt := some .int) (nL := 5) (mc := 0) rfl rfl rfl obX11_passes_118 ?_
              dsimp only [bX11_passes_118, ↓wpb, ↓wp1, ↓vI, ↓vL, ↓vD, ↓ldI, ↓ldL, ↓ldD, ↓ldR, ↓k1, ↓k2, ↓kI, ↓kL, ↓kD, ↓kII, ↓kLL, ↓kDD, ↓kR, ↓kIR, ↓kLR, ↓kIIR, ↓kLIR, ↓kDIR, ↓kRIR, ↓kNN, ↓kE, ↓br, ↓bn, ↓rtI, ↓gfv, ↓zchk, lput, ldel, lbad, alA, acat, isRf, dom, dS, dJ, isO, aTy, aLen, elAV, elR, Nat.reduceBEq, Nat.reduceAdd, Bool.or, Bool.and, Nat.add_zero, Nat.zero_add]
              try simp only [Nat.reduceLT, Nat.reduceLeDiff, Nat.reduceEqDiff, true_and, and_true, and_self, Nat.zero_le, Nat.le_refl, true_or, or_true, Bool.false_eq_true, not_false_eq_true, Nat.reduceAdd, Nat.lt_add_one, Nat.zero_lt_one, nI_add, pk_mul, ixL, vpL, ne_eq, reduceIte, wI_sA, sA_same, sA_ne, sA_sA, sA_comm, uI_at, uN_at, enc_at, uI_enc, uI_uI, itn1, itn2, itn3, itn4, itc, itc0, itc1, upM_s, upM_n]
              rw [hu2, if_pos h] at ih2'
              exact ih2'
            refine V_run hB (rt := some .int) (nL := 5) (mc := 0) rfl rfl rfl obX11_passes_38 ?_
            dsimp only [bX11_passes_38, ↓wpb, ↓wp1, ↓vI, ↓vL, ↓vD, ↓ldI, ↓ldL, ↓ldD, ↓ldR, ↓k1, ↓k2, ↓kI, ↓kL, ↓kD, ↓kII, ↓kLL, ↓kDD, ↓kR, ↓kIR, ↓kLR, ↓kIIR, ↓kLIR, ↓kDIR, ↓kRIR, ↓kNN, ↓kE, ↓br, ↓bn, ↓rtI, ↓gfv, ↓zchk, lput, ldel, lbad, alA, acat, isRf, dom, dS, dJ, isO, aTy, aLen, elAV, elR, Nat.reduceBEq, Nat.reduceAdd, Bool.or, Bool.and, Nat.add_zero, Nat.zero_add]
            try simp only [Nat.reduceLT, Nat.reduceLeDiff, Nat.reduceEqDiff, true_and, and_true, and_self, Nat.zero_le, Nat.le_refl, true_or, or_true, Bool.false_eq_true, not_false_eq_true, Nat.reduceAdd, Nat.lt_add_one, Nat.zero_lt_one, nI_add, pk_mul, ixL, vpL, ne_eq, reduceIte, wI_sA, sA_same, sA_ne, sA_sA, sA_comm, uI_at, uN_at, enc_at, uI_enc, uI_uI, itn1, itn2, itn3, itn4, itc, itc0, itc1, upM_s, upM_n, f1]
            refine ⟨fun h => absurd h (nI_ge (by omega) (by omega)), fun _ => ?_⟩
            refine V_cV hB hno (q_isLot hc hS2 hi10) rfl (by decide +kernel) cvX11_68 (dom1 rfl) npX11_isLot ⟨by decide, by decide⟩ (Nat.le_of_ble_eq_true rfl) (n' := 0) (by decide) rfl ?_
            refine V_run hB (rt := some .int) (nL := 5) (mc := 0) rfl rfl rfl obX11_passes_55 ?_
            dsimp only [bX11_passes_55, ↓wpb, ↓wp1, ↓vI, ↓vL, ↓vD, ↓ldI, ↓ldL, ↓ldD, ↓ldR, ↓k1, ↓k2, ↓kI, ↓kL, ↓kD, ↓kII, ↓kLL, ↓kDD, ↓kR, ↓kIR, ↓kLR, ↓kIIR, ↓kLIR, ↓kDIR, ↓kRIR, ↓kNN, ↓kE, ↓br, ↓bn, ↓rtI, ↓gfv, ↓zchk, lput, ldel, lbad, alA, acat, isRf, dom, dS, dJ, isO, aTy, aLen, elAV, elR, Nat.reduceBEq, Nat.reduceAdd, Bool.or, Bool.and, Nat.add_zero, Nat.zero_add]
            try simp only [Nat.reduceLT, Nat.reduceLeDiff, Nat.reduceEqDiff, true_and, and_true, and_self, Nat.zero_le, Nat.le_refl, true_or, or_true, Bool.false_eq_true, not_false_eq_true, Nat.reduceAdd, Nat.lt_add_one, Nat.zero_lt_one, nI_add, pk_mul, ixL, vpL, ne_eq, reduceIte, wI_sA, sA_same, sA_ne, sA_sA, sA_comm, uI_at, uN_at, enc_at, uI_enc, uI_uI, itn1, itn2, itn3, itn4, itc, itc0, itc1, upM_s, upM_n, bN_0]
            refine ⟨fun h => h118 (Or.inl (by simpa using h)), fun h => ?_⟩
            refine V_cS hB hno (q_ofN hc _ _ _) rfl (by decide +kernel) csX11_60 npX11_of ⟨by decide, by decide⟩ (Nat.le_of_ble_eq_true rfl) (n' := 0) (by decide) rfl ?_
            refine V_run hB (rt := some .int) (nL := 5) (mc := 0) rfl rfl rfl obX11_passes_69 ?_
            dsimp only [bX11_passes_69, ↓wpb, ↓wp1, ↓vI, ↓vL, ↓vD, ↓ldI, ↓ldL, ↓ldD, ↓ldR, ↓k1, ↓k2, ↓kI, ↓kL, ↓kD, ↓kII, ↓kLL, ↓kDD, ↓kR, ↓kIR, ↓kLR, ↓kIIR, ↓kLIR, ↓kDIR, ↓kRIR, ↓kNN, ↓kE, ↓br, ↓bn, ↓rtI, ↓gfv, ↓zchk, lput, ldel, lbad, alA, acat, isRf, dom, dS, dJ, isO, aTy, aLen, elAV, elR, Nat.reduceBEq, Nat.reduceAdd, Bool.or, Bool.and, Nat.add_zero, Nat.zero_add]
            try simp only [Nat.reduceLT, Nat.reduceLeDiff, Nat.reduceEqDiff, true_and, and_true, and_self, Nat.zero_le, Nat.le_refl, true_or, or_true, Bool.false_eq_true, not_false_eq_true, Nat.reduceAdd, Nat.lt_add_one, Nat.zero_lt_one, nI_add, pk_mul, ixL, vpL, ne_eq, reduceIte, wI_sA, sA_same, sA_ne, sA_sA, sA_comm, uI_at, uN_at, enc_at, uI_enc, uI_uI, itn1, itn2, itn3, itn4, itc, itc0, itc1, upM_s, upM_n, ixI hi10, vpI hi10]
            refine ⟨fun h2 => ?_, fun h2 => ?_⟩
            · have h2 := (nI_ltI (by have := hlt (16 + 12 * i + 6); omega) (by have := hlt 0; omega)).mp h2
              refine V_run hB (rt := some .int) (nL := 5) (mc := 0) rfl rfl rfl obX11_passes_82 ?_
              dsimp only [bX11_passes_82, ↓wpb, ↓wp1, ↓vI, ↓vL, ↓vD, ↓ldI, ↓ldL, ↓ldD, ↓ldR, ↓k1, ↓k2, ↓kI, ↓kL, ↓kD, ↓kII, ↓kLL, ↓kDD, ↓kR, ↓kIR, ↓kLR, ↓kIIR, ↓kLIR, ↓kDIR, ↓kRIR, ↓kNN, ↓kE, ↓br, ↓bn, ↓rtI, ↓gfv, ↓zchk, lput, ldel, lbad, alA, acat, isRf, dom, dS, dJ, isO, aTy, aLen, elAV, elR, Nat.reduceBEq, Nat.reduceAdd, Bool.or, Bool.and, Nat.add_zero, Nat.zero_add]
              try simp only [Nat.reduceLT, Nat.reduceLeDiff, Nat.reduceEqDiff, true_and, and_true, and_self, Nat.zero_le, Nat.le_refl, true_or, or_true, Bool.false_eq_true, not_false_eq_true, Nat.reduceAdd, Nat.lt_add_one, Nat.zero_lt_one, nI_add, pk_mul, ixL, vpL, ne_eq, reduceIte, wI_sA, sA_same, sA_ne, sA_sA, sA_comm, uI_at, uN_at, enc_at, uI_enc, uI_uI, itn1, itn2, itn3, itn4, itc, itc0, itc1, upM_s, upM_n]
              refine V_cS hB hno (q_ofN hc _ _ _) rfl (by decide +kernel) csX11_60 npX11_of ⟨by decide, by decide⟩ (Nat.le_of_ble_eq_true rfl) (n' := 0) (by decide) rfl ?_
              refine V_run hB (rt := some .int) (nL := 5) (mc := 0) rfl rfl rfl obX11_passes_92 ?_
              dsimp only [bX11_passes_92, ↓wpb, ↓wp1, ↓vI, ↓vL, ↓vD, ↓ldI, ↓ldL, ↓ldD, ↓ldR, ↓k1, ↓k2, ↓kI, ↓kL, ↓kD, ↓kII, ↓kLL, ↓kDD, ↓kR, ↓kIR, ↓kLR, ↓kIIR, ↓kLIR, ↓kDIR, ↓kRIR, ↓kNN, ↓kE, ↓br, ↓bn, ↓rtI, ↓gfv, ↓zchk, lput, ldel, lbad, alA, acat, isRf, dom, dS, dJ, isO, aTy, aLen, elAV, elR, Nat.reduceBEq, Nat.reduceAdd, Bool.or, Bool.and, Nat.add_zero, Nat.zero_add]
              try simp only [Nat.reduceLT, Nat.reduceLeDiff, Nat.reduceEqDiff, true_and, and_true, and_self, Nat.zero_le, Nat.le_refl, true_or, or_true, Bool.false_eq_true, not_false_eq_true, Nat.reduceAdd, Nat.lt_add_one, Nat.zero_lt_one, nI_add, pk_mul, ixL, vpL, ne_eq, reduceIte, wI_sA, sA_same, sA_ne, sA_sA, sA_comm, uI_at, uN_at, enc_at, uI_enc, uI_uI, itn1, itn2, itn3, itn4, itc, itc0, itc1, upM_s, upM_n, ixI hi10, vpI hi10]
              refine V_cS hB hno (q_ofN hc _ _ _) rfl (by decide +kernel) csX11_60 npX11_of ⟨by decide, by decide⟩ (Nat.le_of_ble_eq_true rfl) (n' := 0) (by decide) rfl ?_
              refine V_run hB (rt := some .int) (nL := 5) (mc := 0) rfl rfl rfl obX11_passes_112 ?_
              dsimp only [bX11_passes_112, ↓wpb, ↓wp1, ↓vI, ↓vL, ↓vD, ↓ldI, ↓ldL, ↓ldD, ↓ldR, ↓k1, ↓k2, ↓kI, ↓kL, ↓kD, ↓kII, ↓kLL, ↓kDD, ↓kR, ↓kIR, ↓kLR, ↓kIIR, ↓kLIR, ↓kDIR, ↓kRIR, ↓kNN, ↓kE, ↓br, ↓bn, ↓rtI, ↓gfv, ↓zchk, lput, ldel, lbad, alA, acat, isRf, dom, dS, dJ, isO, aTy, aLen, elAV, elR, Nat.reduceBEq, Nat.reduceAdd, Bool.or, Bool.and, Nat.add_zero, Nat.zero_add]
              try simp only [Nat.reduceLT, Nat.reduceLeDiff, Nat.reduceEqDiff, true_and, and_true, and_self, Nat.zero_le, Nat.le_refl, true_or, or_true, Bool.false_eq_true, not_false_eq_true, Nat.reduceAdd, Nat.lt_add_one, Nat.zero_lt_one, nI_add, pk_mul, ixL, vpL, ne_eq, reduceIte, wI_sA, sA_same, sA_ne, sA_sA, sA_comm, uI_at, uN_at, enc_at, uI_enc, uI_uI, itn1, itn2, itn3, itn4, itc, itc0, itc1, upM_s, upM_n, ixI hi10, vpI hi10]
              rw [hu2, if_neg (fun q => by rcases q with q | q; rw [q] at h; cases h; unfold it at q; omega)] at ih2'
              exact ih2'
            · refine h118 (Or.inr ?_)
              rcases Nat.lt_or_ge (it (fA b i).1 i 6) ((fA b i).1 0) with q | q
              · exact absurd (nI_lt q (by have := hlt 0; omega)) h2
              · exact q
        exact inner (a 4) 0 (by omega)
    refine V_run hB (rt := some .int) (nL := 5) (mc := 0) rfl rfl rfl obX11_passes_16 ?_
    dsimp only [bX11_passes_16, ↓wpb, ↓wp1, ↓vI, ↓vL, ↓vD, ↓ldI, ↓ldL, ↓ldD, ↓ldR, ↓k1, ↓k2, ↓kI, ↓kL, ↓kD, ↓kII, ↓kLL, ↓kDD, ↓kR, ↓kIR, ↓kLR, ↓kIIR, ↓kLIR, ↓kDIR, ↓kRIR, ↓kNN, ↓kE, ↓br, ↓bn, ↓rtI, ↓gfv, ↓zchk, lput, ldel, lbad, alA, acat, isRf, dom, dS, dJ, isO, aTy, aLen, elAV, elR, Nat.reduceBEq, Nat.reduceAdd, Bool.or, Bool.and, Nat.add_zero, Nat.zero_add]
    try simp only [Nat.reduceLT, Nat.reduceLeDiff, Nat.reduceEqDiff, true_and, and_true, and_self, Nat.zero_le, Nat.le_refl, true_or, or_true, Bool.false_eq_true, not_false_eq_true, Nat.reduceAdd, Nat.lt_add_one, Nat.zero_lt_one, nI_add, pk_mul, ixL, vpL, ne_eq, reduceIte, wI_sA, sA_same, sA_ne, sA_sA, sA_comm, uI_at, uN_at, enc_at, uI_enc, uI_uI, itn1, itn2, itn3, itn4, itc, itc0, itc1, upM_s, upM_n]
    have h := head n 0 (by omega)
    have e0 : (pA a 0).1 = a := rfl
    rw [e0, sA_id hv] at h
    exact h
  · have h1 : ¬ inR p 1 90 = true := by simpa using h
    have e : sPas a p = (1, 0, a) := by simp only [sPas, if_neg h1]
    rw [e] at hB
    refine V_cV hB hno (q_failM hc hS 1) rfl (by decide +kernel) cvX11_76 (dom1 rfl) npX11_fail ⟨by decide, by decide⟩ (Nat.le_of_ble_eq_true rfl) (n' := 0) (by decide) rfl ?_
    refine V_run hB (rt := some .int) (nL := 5) (mc := 0) rfl rfl rfl obX11_passes_15 ?_
    dsimp only [bX11_passes_15, ↓wpb, ↓wp1, ↓vI, ↓vL, ↓vD, ↓ldI, ↓ldL, ↓ldD, ↓ldR, ↓k1, ↓k2, ↓kI, ↓kL, ↓kD, ↓kII, ↓kLL, ↓kDD, ↓kR, ↓kIR, ↓kLR, ↓kIIR, ↓kLIR, ↓kDIR, ↓kRIR, ↓kNN, ↓kE, ↓br, ↓bn, ↓rtI, ↓gfv, ↓zchk, lput, ldel, lbad, alA, acat, isRf, dom, dS, dJ, isO, aTy, aLen, elAV, elR, Nat.reduceBEq, Nat.reduceAdd, Bool.or, Bool.and, Nat.add_zero, Nat.zero_add]
    try simp only [Nat.reduceLT, Nat.reduceLeDiff, Nat.reduceEqDiff, true_and, and_true, and_self, Nat.zero_le, Nat.le_refl, true_or, or_true, Bool.false_eq_true, not_false_eq_true, Nat.reduceAdd, Nat.lt_add_one, Nat.zero_lt_one, nI_add, pk_mul, ixL, vpL, ne_eq, reduceIte, wI_sA, sA_same, sA_ne, sA_sA, sA_comm, uI_at, uN_at, enc_at, uI_enc, uI_uI, itn1, itn2, itn3, itn4, itc, itc0, itc1, upM_s, upM_n]
    exact ⟨rfl, rfl⟩
end M4
