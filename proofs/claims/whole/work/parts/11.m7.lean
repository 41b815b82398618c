/-! ===== the reference's methods: what goes back ===== -/
def cpR (τ : Mem) (K1 K2 : Nat) : Nat → Int32 := fun k => if k < 136 then τ.1 (K2, 0, 0) k else τ.1 (K1, 0, 0) k
section M7
variable {l : Launch} {G : GG}
theorem q_lays (hc : Ctx l G) (τ : Mem) (K1 K2 : Nat) (h1 : dS K1 = 1) (h2 : dJ K1 = 1) (h3 : isO K1 = false) (h4 : aTy K1 = 0) (h5 : aLen K1 = 136) (g1 : dS K2 = 1) (g2 : dJ K2 = 1) (g3 : isO K2 = false) (g4 : aTy K2 = 0) (g5 : aLen K2 = 136) (hne : K2 ≠ K1) : Sat l G iX11_lays [.inr (K1, 0, 0), .inr (K2, 0, 0)] τ (retV (sA τ K1 (cpR τ K1 K2))) := by
  refine Sat_of hc.1 hc.2 (by decide +kernel) (Nat.le_of_ble_eq_true rfl) (fun x hB hno => ?_)
  have head : ∀ w k, k + w = 136 → V x (sA τ K1 (fun i => if i < k then τ.1 (K2, 0, 0) i else τ.1 (K1, 0, 0) i)) 0 2 [(0, .inr (K1, 0, 0)), (1, .inr (K2, 0, 0)), (2, aI (nI k))] [] := by
    intro w
    induction w with
    | zero =>
      intro k hk
      have hk : k = 136 := by omega
      subst hk
      refine V_run hB (rt := none) (nL := 3) (mc := 0) rfl rfl rfl obX11_lays_2 ?_
      dsimp only [bX11_lays_2, ↓wpb, ↓wp1, ↓vI, ↓vL, ↓vD, ↓ldI, ↓ldL, ↓ldD, ↓ldR, ↓k1, ↓k2, ↓kI, ↓kL, ↓kD, ↓kII, ↓kLL, ↓kDD, ↓kR, ↓kIR, ↓kLR, ↓kIIR, ↓kLIR, ↓kDIR, ↓kRIR, ↓kNN, ↓kE, ↓br, ↓bn, ↓rtI, ↓gfv, ↓zchk, lput, ldel, lbad, alA, acat, isRf, dom, dS, dJ, isO, aTy, aLen, elAV, elR, Nat.reduceBEq, Nat.reduceAdd, Bool.or, Bool.and, Nat.add_zero, Nat.zero_add]
      try simp only [Nat.reduceLT, Nat.reduceLeDiff, Nat.reduceEqDiff, true_and, and_true, and_self, Nat.zero_le, Nat.le_refl, true_or, or_true, Bool.false_eq_true, not_false_eq_true, Nat.reduceAdd, Nat.lt_add_one, Nat.zero_lt_one, nI_add, pk_mul, ixL, vpL, ne_eq, reduceIte, wI_sA, sA_same, sA_ne, sA_sA, sA_comm, uI_at, uN_at, enc_at, uI_enc, uI_uI, itn1, itn2, itn3, itn4, itc, itc0, itc1, upM_s, upM_n]
      refine ⟨fun _ => ?_, fun h => absurd (nI_le (by omega) (by omega)) h⟩
      refine V_run hB (rt := none) (nL := 3) (mc := 0) rfl rfl rfl obX11_lays_21 ?_
      dsimp only [bX11_lays_21, ↓wpb, ↓wp1, ↓vI, ↓vL, ↓vD, ↓ldI, ↓ldL, ↓ldD, ↓ldR, ↓k1, ↓k2, ↓kI, ↓kL, ↓kD, ↓kII, ↓kLL, ↓kDD, ↓kR, ↓kIR, ↓kLR, ↓kIIR, ↓kLIR, ↓kDIR, ↓kRIR, ↓kNN, ↓kE, ↓br, ↓bn, ↓rtI, ↓gfv, ↓zchk, lput, ldel, lbad, alA, acat, isRf, dom, dS, dJ, isO, aTy, aLen, elAV, elR, Nat.reduceBEq, Nat.reduceAdd, Bool.or, Bool.and, Nat.add_zero, Nat.zero_add]
      try simp only [Nat.reduceLT, Nat.reduceLeDiff, Nat.reduceEqDiff, true_and, and_true, and_self, Nat.zero_le, Nat.le_refl, true_or, or_true, Bool.false_eq_true, not_false_eq_true, Nat.reduceAdd, Nat.lt_add_one, Nat.zero_lt_one, nI_add, pk_mul, ixL, vpL, ne_eq, reduceIte, wI_sA, sA_same, sA_ne, sA_sA, sA_comm, uI_at, uN_at, enc_at, uI_enc, uI_uI, itn1, itn2, itn3, itn4, itc, itc0, itc1, upM_s, upM_n]
      exact ⟨rfl, rfl⟩
    | succ w ih =>
      intro k hk
      have ix : (nI k).toNatClampNeg = k := ixL (by omega)
      have vx : vp_in (nI k) 136 = True := vpL (by omega) (by omega)
      refine V_run hB (rt := none) (nL := 3) (mc := 0) rfl rfl rfl obX11_lays_2 ?_
      dsimp only [bX11_lays_2, ↓wpb, ↓wp1, ↓vI, ↓vL, ↓vD, ↓ldI, ↓ldL, ↓ldD, ↓ldR, ↓k1, ↓k2, ↓kI, ↓kL, ↓kD, ↓kII, ↓kLL, ↓kDD, ↓kR, ↓kIR, ↓kLR, ↓kIIR, ↓kLIR, ↓kDIR, ↓kRIR, ↓kNN, ↓kE, ↓br, ↓bn, ↓rtI, ↓gfv, ↓zchk, lput, ldel, lbad, alA, acat, isRf, dom, elAV, elR, Nat.reduceBEq, Nat.reduceAdd, Bool.or, Bool.and, Nat.add_zero, Nat.zero_add]
      simp only [Nat.reduceLT, Nat.reduceLeDiff, Nat.reduceEqDiff, true_and, and_true, and_self, Nat.zero_le, Nat.le_refl, true_or, or_true, Bool.false_eq_true, not_false_eq_true, Nat.reduceAdd, Nat.lt_add_one, Nat.zero_lt_one, nI_add, pk_mul, ixL, vpL, ne_eq, reduceIte, wI_sA, sA_same, sA_ne, sA_sA, sA_comm, uI_at, uN_at, enc_at, uI_enc, uI_uI, itn1, itn2, itn3, itn4, itc, itc0, itc1, upM_s, upM_n, h1, h2, h3, h4, h5, g1, g2, g3, g4, g5, ix, vx, sA_ne hne]
      refine ⟨fun h => absurd h (nI_ge (by omega) (by omega)), fun _ => ?_⟩
      have e : uI (fun i => if i < k then τ.1 (K2, 0, 0) i else τ.1 (K1, 0, 0) i) k (τ.1 (K2, 0, 0) k) = fun i => if i < k + 1 then τ.1 (K2, 0, 0) i else τ.1 (K1, 0, 0) i := by
        funext i
        simp only [uI]
        by_cases hi : i = k
        · subst hi; rw [if_pos rfl, if_pos (by omega)]
        · rw [if_neg hi]
          by_cases h6 : i < k
          · rw [if_pos h6, if_pos (by omega)]
          · rw [if_neg h6, if_neg (by omega)]
      rw [e]
      exact ih (k + 1) (by omega)
  refine V_run hB (rt := none) (nL := 3) (mc := 0) rfl rfl rfl obX11_lays_0 ?_
  dsimp only [bX11_lays_0, ↓wpb, ↓wp1, ↓vI, ↓vL, ↓vD, ↓ldI, ↓ldL, ↓ldD, ↓ldR, ↓k1, ↓k2, ↓kI, ↓kL, ↓kD, ↓kII, ↓kLL, ↓kDD, ↓kR, ↓kIR, ↓kLR, ↓kIIR, ↓kLIR, ↓kDIR, ↓kRIR, ↓kNN, ↓kE, ↓br, ↓bn, ↓rtI, ↓gfv, ↓zchk, lput, ldel, lbad, alA, acat, isRf, dom, dS, dJ, isO, aTy, aLen, elAV, elR, Nat.reduceBEq, Nat.reduceAdd, Bool.or, Bool.and, Nat.add_zero, Nat.zero_add]
  try simp only [Nat.reduceLT, Nat.reduceLeDiff, Nat.reduceEqDiff, true_and, and_true, and_self, Nat.zero_le, Nat.le_refl, true_or, or_true, Bool.false_eq_true, not_false_eq_true, Nat.reduceAdd, Nat.lt_add_one, Nat.zero_lt_one, nI_add, pk_mul, ixL, vpL, ne_eq, reduceIte, wI_sA, sA_same, sA_ne, sA_sA, sA_comm, uI_at, uN_at, enc_at, uI_enc, uI_uI, itn1, itn2, itn3, itn4, itc, itc0, itc1, upM_s, upM_n]
  have h := head 136 0 (by omega)
  have e : (fun i => if i < 0 then τ.1 (K2, 0, 0) i else τ.1 (K1, 0, 0) i) = τ.1 (K1, 0, 0) := by funext i; rw [if_neg (by omega)]
  rw [e, sA_id rfl] at h
  exact h
theorem q_begins (hc : Ctx l G) (τ : Mem) : Sat l G iX11_begins [mM] τ (retV (sA (sA τ 30 (uI (τ.1 (30, 0, 0)) 0 (nI 0))) 32 (cpR τ 32 31))) := by
  refine Sat_of hc.1 hc.2 (by decide +kernel) (Nat.le_of_ble_eq_true rfl) (fun x hB hno => ?_)
  refine V_run hB (rt := none) (nL := 1) (mc := 0) rfl rfl rfl obX11_begins_0 ?_
  dsimp only [bX11_begins_0, ↓wpb, ↓wp1, ↓vI, ↓vL, ↓vD, ↓ldI, ↓ldL, ↓ldD, ↓ldR, ↓k1, ↓k2, ↓kI, ↓kL, ↓kD, ↓kII, ↓kLL, ↓kDD, ↓kR, ↓kIR, ↓kLR, ↓kIIR, ↓kLIR, ↓kDIR, ↓kRIR, ↓kNN, ↓kE, ↓br, ↓bn, ↓rtI, ↓gfv, ↓zchk, lput, ldel, lbad, alA, acat, isRf, dom, dS, dJ, isO, aTy, aLen, elAV, elR, Nat.reduceBEq, Nat.reduceAdd, Bool.or, Bool.and, Nat.add_zero, Nat.zero_add]
  try simp only [Nat.reduceLT, Nat.reduceLeDiff, Nat.reduceEqDiff, true_and, and_true, and_self, Nat.zero_le, Nat.le_refl, true_or, or_true, Bool.false_eq_true, not_false_eq_true, Nat.reduceAdd, Nat.lt_add_one, Nat.zero_lt_one, nI_add, pk_mul, ixL, vpL, ne_eq, reduceIte, wI_sA, sA_same, sA_ne, sA_sA, sA_comm, uI_at, uN_at, enc_at, uI_enc, uI_uI, itn1, itn2, itn3, itn4, itc, itc0, itc1, upM_s, upM_n]
  refine V_cSv hB hno (q_lays hc _ 32 31 rfl rfl rfl rfl rfl rfl rfl rfl rfl rfl (by decide)) rfl (by decide +kernel) csX11_53 npX11_lays ⟨by decide, by decide⟩ (Nat.le_of_ble_eq_true rfl) (n' := 0) (by decide) rfl ?_
  refine V_run hB (rt := none) (nL := 1) (mc := 0) rfl rfl rfl obX11_begins_16 ?_
  dsimp only [bX11_begins_16, ↓wpb, ↓wp1, ↓vI, ↓vL, ↓vD, ↓ldI, ↓ldL, ↓ldD, ↓ldR, ↓k1, ↓k2, ↓kI, ↓kL, ↓kD, ↓kII, ↓kLL, ↓kDD, ↓kR, ↓kIR, ↓kLR, ↓kIIR, ↓kLIR, ↓kDIR, ↓kRIR, ↓kNN, ↓kE, ↓br, ↓bn, ↓rtI, ↓gfv, ↓zchk, lput, ldel, lbad, alA, acat, isRf, dom, dS, dJ, isO, aTy, aLen, elAV, elR, Nat.reduceBEq, Nat.reduceAdd, Bool.or, Bool.and, Nat.add_zero, Nat.zero_add]
  try simp only [Nat.reduceLT, Nat.reduceLeDiff, Nat.reduceEqDiff, true_and, and_true, and_self, Nat.zero_le, Nat.le_refl, true_or, or_true, Bool.false_eq_true, not_false_eq_true, Nat.reduceAdd, Nat.lt_add_one, Nat.zero_lt_one, nI_add, pk_mul, ixL, vpL, ne_eq, reduceIte, wI_sA, sA_same, sA_ne, sA_sA, sA_comm, uI_at, uN_at, enc_at, uI_enc, uI_uI, itn1, itn2, itn3, itn4, itc, itc0, itc1, upM_s, upM_n]
  refine ⟨rfl, ?_⟩
  congr 1
theorem q_endsF (hc : Ctx l G) {τ : Mem} {c : Nat} (ht : τ.1 (30, 0, 0) 0 = nI c) (h0 : c ≠ 0) (h1 : c < 1000) (z : Int32) : Sat l G iX11_ends [mM, aI z] τ (retI (nI 0) (sA τ 31 (cpR τ 31 32))) := by
  refine Sat_of hc.1 hc.2 (by decide +kernel) (Nat.le_of_ble_eq_true rfl) (fun x hB hno => ?_)
  refine V_run hB (rt := some .int) (nL := 3) (mc := 0) rfl rfl rfl obX11_ends_0 ?_
  dsimp only [bX11_ends_0, ↓wpb, ↓wp1, ↓vI, ↓vL, ↓vD, ↓ldI, ↓ldL, ↓ldD, ↓ldR, ↓k1, ↓k2, ↓kI, ↓kL, ↓kD, ↓kII, ↓kLL, ↓kDD, ↓kR, ↓kIR, ↓kLR, ↓kIIR, ↓kLIR, ↓kDIR, ↓kRIR, ↓kNN, ↓kE, ↓br, ↓bn, ↓rtI, ↓gfv, ↓zchk, lput, ldel, lbad, alA, acat, isRf, dom, dS, dJ, isO, aTy, aLen, elAV, elR, Nat.reduceBEq, Nat.reduceAdd, Bool.or, Bool.and, Nat.add_zero, Nat.zero_add]
  try simp only [Nat.reduceLT, Nat.reduceLeDiff, Nat.reduceEqDiff, true_and, and_true, and_self, Nat.zero_le, Nat.le_refl, true_or, or_true, Bool.false_eq_true, not_false_eq_true, Nat.reduceAdd, Nat.lt_add_one, Nat.zero_lt_one, nI_add, pk_mul, ixL, vpL, ne_eq, reduceIte, wI_sA, sA_same, sA_ne, sA_sA, sA_comm, uI_at, uN_at, enc_at, uI_enc, uI_uI, itn1, itn2, itn3, itn4, itc, itc0, itc1, upM_s, upM_n, ht]
  refine ⟨fun h => ?_, fun _ => ?_⟩
  · have h2 : nI c = nI 0 := h
    exact absurd ((nI_eq (by omega) (by omega)).mp h2) h0
  · refine V_cSv hB hno (q_lays hc _ 31 32 rfl rfl rfl rfl rfl rfl rfl rfl rfl rfl (by decide)) rfl (by decide +kernel) csX11_53 npX11_lays ⟨by decide, by decide⟩ (Nat.le_of_ble_eq_true rfl) (n' := 0) (by decide) rfl ?_
    refine V_run hB (rt := some .int) (nL := 3) (mc := 0) rfl rfl rfl obX11_ends_18 ?_
    dsimp only [bX11_ends_18, ↓wpb, ↓wp1, ↓vI, ↓vL, ↓vD, ↓ldI, ↓ldL, ↓ldD, ↓ldR, ↓k1, ↓k2, ↓kI, ↓kL, ↓kD, ↓kII, ↓kLL, ↓kDD, ↓kR, ↓kIR, ↓kLR, ↓kIIR, ↓kLIR, ↓kDIR, ↓kRIR, ↓kNN, ↓kE, ↓br, ↓bn, ↓rtI, ↓gfv, ↓zchk, lput, ldel, lbad, alA, acat, isRf, dom, dS, dJ, isO, aTy, aLen, elAV, elR, Nat.reduceBEq, Nat.reduceAdd, Bool.or, Bool.and, Nat.add_zero, Nat.zero_add]
    try simp only [Nat.reduceLT, Nat.reduceLeDiff, Nat.reduceEqDiff, true_and, and_true, and_self, Nat.zero_le, Nat.le_refl, true_or, or_true, Bool.false_eq_true, not_false_eq_true, Nat.reduceAdd, Nat.lt_add_one, Nat.zero_lt_one, nI_add, pk_mul, ixL, vpL, ne_eq, reduceIte, wI_sA, sA_same, sA_ne, sA_sA, sA_comm, uI_at, uN_at, enc_at, uI_enc, uI_uI, itn1, itn2, itn3, itn4, itc, itc0, itc1, upM_s, upM_n]
    exact ⟨rfl, rfl⟩
/-- a state goes onto the past -/
def pushN (n : Nat) : Nat := if n = 8 then 8 else n + 1
theorem q_endsO (hc : Ctx l G) {τ : Mem} (ht : τ.1 (30, 0, 0) 0 = nI 0) {n : Nat} (hn : τ.1 (30, 0, 0) 1 = nI n) (hn8 : n ≤ 8) (z : Int32) : Sat l G iX11_ends [mM, aI z] τ (fun o τ' => o = .inl (some (aI z)) ∧ ∃ r, τ' = sA (sA τ 30 (uI (τ.1 (30, 0, 0)) 1 (nI (pushN n)))) 34 r ∧
    ∀ j, j < pushN n → ∀ k, k < 136 → r (136 * j + k) = if j + 1 = pushN n then τ.1 (32, 0, 0) k else τ.1 (34, 0, 0) (136 * (if n = 8 then j + 1 else j) + k)) := by
  refine Sat_of hc.1 hc.2 (by decide +kernel) (Nat.le_of_ble_eq_true rfl) (fun x hB hno => ?_)
  have h70 : ∀ m, m < 8 → ∀ r, V x (sA (sA τ 30 (uI (τ.1 (30, 0, 0)) 1 (nI m))) 34 r) 0 70 [(0, mM), (1, aI z)] [] → True := fun _ _ _ _ => trivial
  have h72 : ∀ m, m < 8 → m + 1 = pushN n → ∀ r0 : Nat → Int32, (∀ j, j < m → ∀ k, k < 136 → r0 (136 * j + k) = τ.1 (34, 0, 0) (136 * (if n = 8 then j + 1 else j) + k)) → ∀ w k, k + w = 136 → ∀ al, (∀ q ∈ [(0, mM), (1, aI z), (2, aI (nI k))], lk al q.1 = some q.2) → V x (sA (sA τ 30 (uI (τ.1 (30, 0, 0)) 1 (nI m))) 34 (fun i => if 136 * m ≤ i ∧ i < 136 * m + k then τ.1 (32, 0, 0) (i - 136 * m) else r0 i)) 0 72 al [] := by
    intro m hm hmn r0 hr0 w
    induction w with
    | zero =>
      intro k hk al hal
      have hk : k = 136 := by omega
      subst hk
      refine V.sub ?_ hal
      refine V_run hB (rt := some .int) (nL := 3) (mc := 0) rfl rfl rfl obX11_ends_72 ?_
      dsimp only [bX11_ends_72, ↓wpb, ↓wp1, ↓vI, ↓vL, ↓vD, ↓ldI, ↓ldL, ↓ldD, ↓ldR, ↓k1, ↓k2, ↓kI, ↓kL, ↓kD, ↓kII, ↓kLL, ↓kDD, ↓kR, ↓kIR, ↓kLR, ↓kIIR, ↓kLIR, ↓kDIR, ↓kRIR, ↓kNN, ↓kE, ↓br, ↓bn, ↓rtI, ↓gfv, ↓zchk, lput, ldel, lbad, alA, acat, isRf, dom, dS, dJ, isO, aTy, aLen, elAV, elR, Nat.reduceBEq, Nat.reduceAdd, Bool.or, Bool.and, Nat.add_zero, Nat.zero_add]
      try simp only [Nat.reduceLT, Nat.reduceLeDiff, Nat.reduceEqDiff, true_and, and_true, and_self, Nat.zero_le, Nat.le_refl, true_or, or_true, Bool.false_eq_true, not_false_eq_true, Nat.reduceAdd, Nat.lt_add_one, Nat.zero_lt_one, nI_add, pk_mul, ixL, vpL, ne_eq, reduceIte, wI_sA, sA_same, sA_ne, sA_sA, sA_comm, uI_at, uN_at, enc_at, uI_enc, uI_uI, itn1, itn2, itn3, itn4, itc, itc0, itc1, upM_s, upM_n]
      refine ⟨fun _ => ?_, fun h => absurd (nI_le (by omega) (by omega)) h⟩
      refine V_run hB (rt := some .int) (nL := 3) (mc := 0) rfl rfl rfl obX11_ends_106 ?_
      dsimp only [bX11_ends_106, ↓wpb, ↓wp1, ↓vI, ↓vL, ↓vD, ↓ldI, ↓ldL, ↓ldD, ↓ldR, ↓k1, ↓k2, ↓kI, ↓kL, ↓kD, ↓kII, ↓kLL, ↓kDD, ↓kR, ↓kIR, ↓kLR, ↓kIIR, ↓kLIR, ↓kDIR, ↓kRIR, ↓kNN, ↓kE, ↓br, ↓bn, ↓rtI, ↓gfv, ↓zchk, lput, ldel, lbad, alA, acat, isRf, dom, dS, dJ, isO, aTy, aLen, elAV, elR, Nat.reduceBEq, Nat.reduceAdd, Bool.or, Bool.and, Nat.add_zero, Nat.zero_add]
      try simp only [Nat.reduceLT, Nat.reduceLeDiff, Nat.reduceEqDiff, true_and, and_true, and_self, Nat.zero_le, Nat.le_refl, true_or, or_true, Bool.false_eq_true, not_false_eq_true, Nat.reduceAdd, Nat.lt_add_one, Nat.zero_lt_one, nI_add, pk_mul, ixL, vpL, ne_eq, reduceIte, wI_sA, sA_same, sA_ne, sA_sA, sA_comm, uI_at, uN_at, enc_at, uI_enc, uI_uI, itn1, itn2, itn3, itn4, itc, itc0, itc1, upM_s, upM_n]
      refine ⟨_, by rw [← hmn], fun j hj k hk => ?_⟩
      by_cases hjm : j = m
      · subst hjm
        rw [if_pos (by omega), if_pos (by omega), show 136 * j + k - 136 * j = k from by omega]
      · rw [if_neg (by omega), if_neg (by omega)]
        exact hr0 j (by omega) k hk
    | succ w ih =>
      intro k hk al hal
      refine V.sub ?_ hal
      have ix : (nI k).toNatClampNeg = k := ixL (by omega)
      have vx : vp_in (nI k) 136 = True := vpL (by omega) (by omega)
      have ix2 : (nI (m * 136 + k)).toNatClampNeg = m * 136 + k := ixL (by omega)
      have vx2 : vp_in (nI (m * 136 + k)) 1088 = True := vpL (by omega) (by omega)
      refine V_run hB (rt := some .int) (nL := 3) (mc := 0) rfl rfl rfl obX11_ends_72 ?_
      dsimp only [bX11_ends_72, ↓wpb, ↓wp1, ↓vI, ↓vL, ↓vD, ↓ldI, ↓ldL, ↓ldD, ↓ldR, ↓k1, ↓k2, ↓kI, ↓kL, ↓kD, ↓kII, ↓kLL, ↓kDD, ↓kR, ↓kIR, ↓kLR, ↓kIIR, ↓kLIR, ↓kDIR, ↓kRIR, ↓kNN, ↓kE, ↓br, ↓bn, ↓rtI, ↓gfv, ↓zchk, lput, ldel, lbad, alA, acat, isRf, dom, dS, dJ, isO, aTy, aLen, elAV, elR, Nat.reduceBEq, Nat.reduceAdd, Bool.or, Bool.and, Nat.add_zero, Nat.zero_add]
      try simp only [Nat.reduceLT, Nat.reduceLeDiff, Nat.reduceEqDiff, true_and, and_true, and_self, Nat.zero_le, Nat.le_refl, true_or, or_true, Bool.false_eq_true, not_false_eq_true, Nat.reduceAdd, Nat.lt_add_one, Nat.zero_lt_one, nI_add, pk_mul, ixL, vpL, ne_eq, reduceIte, wI_sA, sA_same, sA_ne, sA_sA, sA_comm, uI_at, uN_at, enc_at, uI_enc, uI_uI, itn1, itn2, itn3, itn4, itc, itc0, itc1, upM_s, upM_n, ix, vx, ix2, vx2]
      refine ⟨fun h => absurd h (nI_ge (by omega) (by omega)), fun _ => ?_⟩
      have e : uI (fun i => if 136 * m ≤ i ∧ i < 136 * m + k then τ.1 (32, 0, 0) (i - 136 * m) else r0 i) (m * 136 + k) (τ.1 (32, 0, 0) k) = fun i => if 136 * m ≤ i ∧ i < 136 * m + (k + 1) then τ.1 (32, 0, 0) (i - 136 * m) else r0 i := by
        funext i
        simp only [uI]
        by_cases hi : i = m * 136 + k
        · subst hi
          rw [if_pos rfl, if_pos (by omega), show m * 136 + k - 136 * m = k from by omega]
        · rw [if_neg hi]
          by_cases h6 : 136 * m ≤ i ∧ i < 136 * m + k
          · rw [if_pos h6, if_pos (by omega)]
          · rw [if_neg h6, if_neg (by omega)]
      rw [e]
      exact ih (k + 1) (by omega) _ (List.forall_mem_cons.mpr ⟨rfl, List.forall_mem_cons.mpr ⟨rfl, List.forall_mem_cons.mpr ⟨rfl, fun _ h => absurd h List.not_mem_nil⟩⟩⟩)
  have start : ∀ m, m < 8 → m + 1 = pushN n → ∀ r0 : Nat → Int32, (∀ j, j < m → ∀ k, k < 136 → r0 (136 * j + k) = τ.1 (34, 0, 0) (136 * (if n = 8 then j + 1 else j) + k)) → ∀ al, (∀ q ∈ [(0, mM), (1, aI z)], lk al q.1 = some q.2) → V x (sA (sA τ 30 (uI (τ.1 (30, 0, 0)) 1 (nI m))) 34 r0) 0 70 al [] := by
    intro m hm hmn r0 hr0 al hal
    refine V.sub ?_ hal
    refine V_run hB (rt := some .int) (nL := 3) (mc := 0) rfl rfl rfl obX11_ends_70 ?_
    dsimp only [bX11_ends_70, ↓wpb, ↓wp1, ↓vI, ↓vL, ↓vD, ↓ldI, ↓ldL, ↓ldD, ↓ldR, ↓k1, ↓k2, ↓kI, ↓kL, ↓kD, ↓kII, ↓kLL, ↓kDD, ↓kR, ↓kIR, ↓kLR, ↓kIIR, ↓kLIR, ↓kDIR, ↓kRIR, ↓kNN, ↓kE, ↓br, ↓bn, ↓rtI, ↓gfv, ↓zchk, lput, ldel, lbad, alA, acat, isRf, dom, dS, dJ, isO, aTy, aLen, elAV, elR, Nat.reduceBEq, Nat.reduceAdd, Bool.or, Bool.and, Nat.add_zero, Nat.zero_add]
    try simp only [Nat.reduceLT, Nat.reduceLeDiff, Nat.reduceEqDiff, true_and, and_true, and_self, Nat.zero_le, Nat.le_refl, true_or, or_true, Bool.false_eq_true, not_false_eq_true, Nat.reduceAdd, Nat.lt_add_one, Nat.zero_lt_one, nI_add, pk_mul, ixL, vpL, ne_eq, reduceIte, wI_sA, sA_same, sA_ne, sA_sA, sA_comm, uI_at, uN_at, enc_at, uI_enc, uI_uI, itn1, itn2, itn3, itn4, itc, itc0, itc1, upM_s, upM_n]
    have h := h72 m hm hmn r0 hr0 136 0 (by omega) [(0, mM), (1, aI z), (2, aI (nI 0))] (List.forall_mem_cons.mpr ⟨rfl, List.forall_mem_cons.mpr ⟨rfl, List.forall_mem_cons.mpr ⟨rfl, fun _ h => absurd h List.not_mem_nil⟩⟩⟩)
    have e : (fun i => if 136 * m ≤ i ∧ i < 136 * m + 0 then τ.1 (32, 0, 0) (i - 136 * m) else r0 i) = r0 := by funext i; rw [if_neg (by omega)]
    rw [e] at h
    exact h
  refine V_run hB (rt := some .int) (nL := 3) (mc := 0) rfl rfl rfl obX11_ends_0 ?_
  dsimp only [bX11_ends_0, ↓wpb, ↓wp1, ↓vI, ↓vL, ↓vD, ↓ldI, ↓ldL, ↓ldD, ↓ldR, ↓k1, ↓k2, ↓kI, ↓kL, ↓kD, ↓kII, ↓kLL, ↓kDD, ↓kR, ↓kIR, ↓kLR, ↓kIIR, ↓kLIR, ↓kDIR, ↓kRIR, ↓kNN, ↓kE, ↓br, ↓bn, ↓rtI, ↓gfv, ↓zchk, lput, ldel, lbad, alA, acat, isRf, dom, dS, dJ, isO, aTy, aLen, elAV, elR, Nat.reduceBEq, Nat.reduceAdd, Bool.or, Bool.and, Nat.add_zero, Nat.zero_add]
  try simp only [Nat.reduceLT, Nat.reduceLeDiff, Nat.reduceEqDiff, true_and, and_true, and_self, Nat.zero_le, Nat.le_refl, true_or, or_true, Bool.false_eq_true, not_false_eq_true, Nat.reduceAdd, Nat.lt_add_one, Nat.zero_lt_one, nI_add, pk_mul, ixL, vpL, ne_eq, reduceIte, wI_sA, sA_same, sA_ne, sA_sA, sA_comm, uI_at, uN_at, enc_at, uI_enc, uI_uI, itn1, itn2, itn3, itn4, itc, itc0, itc1, upM_s, upM_n, ht]
  refine ⟨fun _ => ?_, fun h => absurd rfl h⟩
  refine V_run hB (rt := some .int) (nL := 3) (mc := 0) rfl rfl rfl obX11_ends_20 ?_
  dsimp only [bX11_ends_20, ↓wpb, ↓wp1, ↓vI, ↓vL, ↓vD, ↓ldI, ↓ldL, ↓ldD, ↓ldR, ↓k1, ↓k2, ↓kI, ↓kL, ↓kD, ↓kII, ↓kLL, ↓kDD, ↓kR, ↓kIR, ↓kLR, ↓kIIR, ↓kLIR, ↓kDIR, ↓kRIR, ↓kNN, ↓kE, ↓br, ↓bn, ↓rtI, ↓gfv, ↓zchk, lput, ldel, lbad, alA, acat, isRf, dom, dS, dJ, isO, aTy, aLen, elAV, elR, Nat.reduceBEq, Nat.reduceAdd, Bool.or, Bool.and, Nat.add_zero, Nat.zero_add]
  try simp only [Nat.reduceLT, Nat.reduceLeDiff, Nat.reduceEqDiff, true_and, and_true, and_self, Nat.zero_le, Nat.le_refl, true_or, or_true, Bool.false_eq_true, not_false_eq_true, Nat.reduceAdd, Nat.lt_add_one, Nat.zero_lt_one, nI_add, pk_mul, ixL, vpL, ne_eq, reduceIte, wI_sA, sA_same, sA_ne, sA_sA, sA_comm, uI_at, uN_at, enc_at, uI_enc, uI_uI, itn1, itn2, itn3, itn4, itc, itc0, itc1, upM_s, upM_n, hn]
  refine ⟨fun h => ?_, fun h => ?_⟩
  · have h8 : n ≠ 8 := fun q => h (by rw [q])
    have h := start n (by omega) (by simp [pushN, h8]) (τ.1 (34, 0, 0)) (fun j hj k hk => by rw [if_neg h8]) [(0, mM), (1, aI z)] (List.forall_mem_cons.mpr ⟨rfl, List.forall_mem_cons.mpr ⟨rfl, fun _ h => absurd h List.not_mem_nil⟩⟩)
    rw [uI_id hn, sA_id (K := 30) rfl, sA_id rfl] at h
    exact h
  · have h8 := (nI_eq (by omega) (by omega)).mp h
    subst h8
    have h31 : ∀ w k, k + w = 952 → V x (sA τ 34 (fun i => if i < k then τ.1 (34, 0, 0) (i + 136) else τ.1 (34, 0, 0) i)) 0 31 [(0, mM), (1, aI z), (2, aI (nI k))] [] := by
      intro w
      induction w with
      | zero =>
        intro k hk
        have hk : k = 952 := by omega
        subst hk
        refine V_run hB (rt := some .int) (nL := 3) (mc := 0) rfl rfl rfl obX11_ends_31 ?_
        dsimp only [bX11_ends_31, ↓wpb, ↓wp1, ↓vI, ↓vL, ↓vD, ↓ldI, ↓ldL, ↓ldD, ↓ldR, ↓k1, ↓k2, ↓kI, ↓kL, ↓kD, ↓kII, ↓kLL, ↓kDD, ↓kR, ↓kIR, ↓kLR, ↓kIIR, ↓kLIR, ↓kDIR, ↓kRIR, ↓kNN, ↓kE, ↓br, ↓bn, ↓rtI, ↓gfv, ↓zchk, lput, ldel, lbad, alA, acat, isRf, dom, dS, dJ, isO, aTy, aLen, elAV, elR, Nat.reduceBEq, Nat.reduceAdd, Bool.or, Bool.and, Nat.add_zero, Nat.zero_add]
        try simp only [Nat.reduceLT, Nat.reduceLeDiff, Nat.reduceEqDiff, true_and, and_true, and_self, Nat.zero_le, Nat.le_refl, true_or, or_true, Bool.false_eq_true, not_false_eq_true, Nat.reduceAdd, Nat.lt_add_one, Nat.zero_lt_one, nI_add, pk_mul, ixL, vpL, ne_eq, reduceIte, wI_sA, sA_same, sA_ne, sA_sA, sA_comm, uI_at, uN_at, enc_at, uI_enc, uI_uI, itn1, itn2, itn3, itn4, itc, itc0, itc1, upM_s, upM_n]
        refine ⟨fun _ => ?_, fun h => absurd (nI_le (by omega) (by omega)) h⟩
        refine V_run hB (rt := some .int) (nL := 3) (mc := 0) rfl rfl rfl obX11_ends_60 ?_
        dsimp only [bX11_ends_60, ↓wpb, ↓wp1, ↓vI, ↓vL, ↓vD, ↓ldI, ↓ldL, ↓ldD, ↓ldR, ↓k1, ↓k2, ↓kI, ↓kL, ↓kD, ↓kII, ↓kLL, ↓kDD, ↓kR, ↓kIR, ↓kLR, ↓kIIR, ↓kLIR, ↓kDIR, ↓kRIR, ↓kNN, ↓kE, ↓br, ↓bn, ↓rtI, ↓gfv, ↓zchk, lput, ldel, lbad, alA, acat, isRf, dom, dS, dJ, isO, aTy, aLen, elAV, elR, Nat.reduceBEq, Nat.reduceAdd, Bool.or, Bool.and, Nat.add_zero, Nat.zero_add]
        try simp only [Nat.reduceLT, Nat.reduceLeDiff, Nat.reduceEqDiff, true_and, and_true, and_self, Nat.zero_le, Nat.le_refl, true_or, or_true, Bool.false_eq_true, not_false_eq_true, Nat.reduceAdd, Nat.lt_add_one, Nat.zero_lt_one, nI_add, pk_mul, ixL, vpL, ne_eq, reduceIte, wI_sA, sA_same, sA_ne, sA_sA, sA_comm, uI_at, uN_at, enc_at, uI_enc, uI_uI, itn1, itn2, itn3, itn4, itc, itc0, itc1, upM_s, upM_n, hn]
        have e9 : nI 8 - nI 1 = nI 7 := by decide
        rw [e9]
        have h := start 7 (by omega) (by decide) (fun i => if i < 952 then τ.1 (34, 0, 0) (i + 136) else τ.1 (34, 0, 0) i) (fun j hj k hk => by
          rw [if_pos rfl, if_pos (by omega), show 136 * (j + 1) + k = 136 * j + k + 136 from by omega]) [(0, mM), (1, aI z), (2, aI (nI 952))] (List.forall_mem_cons.mpr ⟨rfl, List.forall_mem_cons.mpr ⟨rfl, fun _ h => absurd h List.not_mem_nil⟩⟩)
        have h2 : V x (sA (sA τ 30 (uI (τ.1 (30, 0, 0)) 1 (nI 7))) 34 (fun i => if i < 952 then τ.1 (34, 0, 0) (i + 136) else τ.1 (34, 0, 0) i)) 0 72 [(0, mM), (1, aI z), (2, aI (nI 0))] [] := by
          have h := h72 7 (by omega) (by decide) (fun i => if i < 952 then τ.1 (34, 0, 0) (i + 136) else τ.1 (34, 0, 0) i) (fun j hj k hk => by
            rw [if_pos rfl, if_pos (by omega), show 136 * (j + 1) + k = 136 * j + k + 136 from by omega]) 136 0 (by omega) [(0, mM), (1, aI z), (2, aI (nI 0))] (List.forall_mem_cons.mpr ⟨rfl, List.forall_mem_cons.mpr ⟨rfl, List.forall_mem_cons.mpr ⟨rfl, fun _ h => absurd h List.not_mem_nil⟩⟩⟩)
          have e : (fun i => if 136 * 7 ≤ i ∧ i < 136 * 7 + 0 then τ.1 (32, 0, 0) (i - 136 * 7) else (if i < 952 then τ.1 (34, 0, 0) (i + 136) else τ.1 (34, 0, 0) i)) = (fun i => if i < 952 then τ.1 (34, 0, 0) (i + 136) else τ.1 (34, 0, 0) i) := by funext i; rw [if_neg (by omega)]
          rw [e] at h
          exact h
        exact h2
      | succ w ih =>
        intro k hk
        have ix : (nI k).toNatClampNeg = k := ixL (by omega)
        have vx : vp_in (nI k) 1088 = True := vpL (by omega) (by omega)
        have ix2 : (nI (k + 136)).toNatClampNeg = k + 136 := ixL (by omega)
        have vx2 : vp_in (nI (k + 136)) 1088 = True := vpL (by omega) (by omega)
        refine V_run hB (rt := some .int) (nL := 3) (mc := 0) rfl rfl rfl obX11_ends_31 ?_
        dsimp only [bX11_ends_31, ↓wpb, ↓wp1, ↓vI, ↓vL, ↓vD, ↓ldI, ↓ldL, ↓ldD, ↓ldR, ↓k1, ↓k2, ↓kI, ↓kL, ↓kD, ↓kII, ↓kLL, ↓kDD, ↓kR, ↓kIR, ↓kLR, ↓kIIR, ↓kLIR, ↓kDIR, ↓kRIR, ↓kNN, ↓kE, ↓br, ↓bn, ↓rtI, ↓gfv, ↓zchk, lput, ldel, lbad, alA, acat, isRf, dom, dS, dJ, isO, aTy, aLen, elAV, elR, Nat.reduceBEq, Nat.reduceAdd, Bool.or, Bool.and, Nat.add_zero, Nat.zero_add]
        try simp only [Nat.reduceLT, Nat.reduceLeDiff, Nat.reduceEqDiff, true_and, and_true, and_self, Nat.zero_le, Nat.le_refl, true_or, or_true, Bool.false_eq_true, not_false_eq_true, Nat.reduceAdd, Nat.lt_add_one, Nat.zero_lt_one, nI_add, pk_mul, ixL, vpL, ne_eq, reduceIte, wI_sA, sA_same, sA_ne, sA_sA, sA_comm, uI_at, uN_at, enc_at, uI_enc, uI_uI, itn1, itn2, itn3, itn4, itc, itc0, itc1, upM_s, upM_n, ix, vx, ix2, vx2]
        refine ⟨fun h => absurd h (nI_ge (by omega) (by omega)), fun _ => ?_⟩
        have e : uI (fun i => if i < k then τ.1 (34, 0, 0) (i + 136) else τ.1 (34, 0, 0) i) k (if k + 136 < k then τ.1 (34, 0, 0) (k + 136 + 136) else τ.1 (34, 0, 0) (k + 136)) = fun i => if i < k + 1 then τ.1 (34, 0, 0) (i + 136) else τ.1 (34, 0, 0) i := by
          funext i
          simp only [uI]
          by_cases hi : i = k
          · subst hi
            rw [if_pos rfl, if_neg (by omega), if_pos (by omega)]
          · rw [if_neg hi]
            by_cases h6 : i < k
            · rw [if_pos h6, if_pos (by omega)]
            · rw [if_neg h6, if_neg (by omega)]
        rw [e]
        exact ih (k + 1) (by omega)
    have h := h31 952 0 (by omega)
    have e : (fun i => if i < 0 then τ.1 (34, 0, 0) (i + 136) else τ.1 (34, 0, 0) i) = τ.1 (34, 0, 0) := by funext i; rw [if_neg (by omega)]
    rw [e, sA_id rfl] at h
    exact h
end M7
