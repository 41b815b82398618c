/-! ===== sums and choices ===== -/
def chU (a : Nat → Nat) : Nat → Nat
  | 0 => a 0 % 7
  | k + 1 => if a (9 + (a 0 + (k + 1)) % 7) < a (9 + chU a k) then (a 0 + (k + 1)) % 7 else chU a k
theorem chU_lt (a : Nat → Nat) : ∀ k, chU a k < 7
  | 0 => Nat.mod_lt _ (by omega)
  | k + 1 => by
    have := chU_lt a k
    unfold chU
    split
    · exact Nat.mod_lt _ (by omega)
    · exact this
def dcU (a : Nat → Nat) (p : Int32) : Nat → Nat
  | 0 => 0
  | k + 1 => dcU a p k + (if isLot a k = false ∧ nI (it a k 2) = p then debt a k else 0)
def sDOf (a : Nat → Nat) (p : Int32) : Nat × Nat := (if inR p 0 5 = true then 0 else 1, dcU a p (a 4))
def dfU (a : Nat → Nat) : Nat → Option Nat
  | 0 => none
  | k + 1 => if isLot a k = true then dfU a k else match dfU a k with
    | none => some (it a k 6 + 1 - a 0)
    | some m => if it a k 6 + 1 - a 0 < m then some (it a k 6 + 1 - a 0) else some m
def sDtF (a : Nat → Nat) : Nat × Nat := match dfU a (a 4) with
  | none => (1, 0)
  | some m => (0, m)
def sEvB (a : Nat → Nat) (o : Option Nat) : Nat × Nat := match o with
  | none => (1, 0)
  | some i => match gk a i with
    | none => (1, 0)
    | some y => (0, y)
def mnU (a : Nat → Nat) : Nat → Nat
  | 0 => a 5 + a 7
  | k + 1 => mnU a k + it a k 3
def sCon (a : Nat → Nat) : Nat × Nat := (0, if mnU a (a 4) = a 8 then 1 else 0)
section MG
variable {l : Launch} {G : GG} {τ : Mem} {c0 n : Nat} {σ : Sg}
theorem q_cheapestWeekday (hc : Ctx l G) (h : MW τ c0 σ) (hI : IV n σ.1) (hn : n ≤ 1000) : Sat l G iX11_cheapestWeekday [mM] τ (AnR τ σ (0, chU σ.1 6)) := by
  have hv := h.1
  have hb := fun k => hI.bd hn k
  have h0 := hb 0
  refine Sat_of hc.1 hc.2 (by decide +kernel) (Nat.le_of_ble_eq_true rfl) (fun x hB hno => ?_)
  have h17 : ∀ w k, k + w = 6 → ∀ al, (∀ z ∈ [(0, mM), (1, aI (nI (chU σ.1 k))), (2, aI (nI (k + 1)))], lk al z.1 = some z.2) → V x (sA τ 30 (uI (τ.1 (30, 0, 0)) 0 (nI 0))) 0 17 al [] := by
    intro w
    induction w with
    | zero =>
      intro k hk al hal
      have hk : k = 6 := by omega
      subst hk
      refine V.sub ?_ hal
      refine V_run hB (rt := some .int) (nL := 4) (mc := 0) rfl rfl rfl obX11_cheapestWeekday_17 ?_
      dsimp only [bX11_cheapestWeekday_17, ↓wpb, ↓wp1, ↓vI, ↓vL, ↓vD, ↓ldI, ↓ldL, ↓ldD, ↓ldR, ↓k1, ↓k2, ↓kI, ↓kL, ↓kD, ↓kII, ↓kLL, ↓kDD, ↓kR, ↓kIR, ↓kLR, ↓kIIR, ↓kLIR, ↓kDIR, ↓kRIR, ↓kNN, ↓kE, ↓br, ↓bn, ↓rtI, ↓gfv, ↓zchk, lput, ldel, lbad, alA, acat, isRf, dom, dS, dJ, isO, aTy, aLen, elAV, elR, Nat.reduceBEq, Nat.reduceAdd, Bool.or, Bool.and, Nat.add_zero, Nat.zero_add]
      try simp only [Nat.reduceLT, Nat.reduceLeDiff, Nat.reduceEqDiff, true_and, and_true, and_self, Nat.zero_le, Nat.le_refl, true_or, or_true, Bool.false_eq_true, not_false_eq_true, Nat.reduceAdd, Nat.lt_add_one, Nat.zero_lt_one, nI_add, pk_mul, ixL, vpL, ne_eq, reduceIte, wI_sA, sA_same, sA_ne, sA_sA, sA_comm, uI_at, uN_at, enc_at, uI_enc, uI_uI, itn1, itn2, itn3, itn4, itc, itc0, itc1, upM_s, upM_n]
      refine ⟨fun _ => ?_, fun h => absurd (nI_le (by omega) (by omega)) h⟩
      refine V_run hB (rt := some .int) (nL := 4) (mc := 0) rfl rfl rfl obX11_cheapestWeekday_64 ?_
      dsimp only [bX11_cheapestWeekday_64, ↓wpb, ↓wp1, ↓vI, ↓vL, ↓vD, ↓ldI, ↓ldL, ↓ldD, ↓ldR, ↓k1, ↓k2, ↓kI, ↓kL, ↓kD, ↓kII, ↓kLL, ↓kDD, ↓kR, ↓kIR, ↓kLR, ↓kIIR, ↓kLIR, ↓kDIR, ↓kRIR, ↓kNN, ↓kE, ↓br, ↓bn, ↓rtI, ↓gfv, ↓zchk, lput, ldel, lbad, alA, acat, isRf, dom, dS, dJ, isO, aTy, aLen, elAV, elR, Nat.reduceBEq, Nat.reduceAdd, Bool.or, Bool.and, Nat.add_zero, Nat.zero_add]
      try simp only [Nat.reduceLT, Nat.reduceLeDiff, Nat.reduceEqDiff, true_and, and_true, and_self, Nat.zero_le, Nat.le_refl, true_or, or_true, Bool.false_eq_true, not_false_eq_true, Nat.reduceAdd, Nat.lt_add_one, Nat.zero_lt_one, nI_add, pk_mul, ixL, vpL, ne_eq, reduceIte, wI_sA, sA_same, sA_ne, sA_sA, sA_comm, uI_at, uN_at, enc_at, uI_enc, uI_uI, itn1, itn2, itn3, itn4, itc, itc0, itc1, upM_s, upM_n]
      exact Ans_t h
    | succ w ih =>
      intro k hk al hal
      refine V.sub ?_ hal
      have e : nI (σ.1 0 + (k + 1)) - nI (σ.1 0 + (k + 1)) / nI 7 * nI 7 = nI ((σ.1 0 + (k + 1)) % 7) := pk_rem (by omega) (by omega) (by omega)
      have e7 : (σ.1 0 + (k + 1)) % 7 < 7 := Nat.mod_lt _ (by omega)
      have c7 := chU_lt σ.1 k
      have ix : (nI (9 + (σ.1 0 + (k + 1)) % 7)).toNatClampNeg = 9 + (σ.1 0 + (k + 1)) % 7 := ixL (by omega)
      have vx : vp_in (nI (9 + (σ.1 0 + (k + 1)) % 7)) 136 = True := vpL (by omega) (by omega)
      have ix2 : (nI (9 + chU σ.1 k)).toNatClampNeg = 9 + chU σ.1 k := ixL (by omega)
      have vx2 : vp_in (nI (9 + chU σ.1 k)) 136 = True := vpL (by omega) (by omega)
      have hb1 := hb (9 + (σ.1 0 + (k + 1)) % 7)
      have hb2 := hb (9 + chU σ.1 k)
      have hu : chU σ.1 (k + 1) = if σ.1 (9 + (σ.1 0 + (k + 1)) % 7) < σ.1 (9 + chU σ.1 k) then (σ.1 0 + (k + 1)) % 7 else chU σ.1 k := rfl
      have ih' := ih (k + 1) (by omega)
      rw [hu] at ih'
      refine V_run hB (rt := some .int) (nL := 4) (mc := 0) rfl rfl rfl obX11_cheapestWeekday_17 ?_
      dsimp only [bX11_cheapestWeekday_17, ↓wpb, ↓wp1, ↓vI, ↓vL, ↓vD, ↓ldI, ↓ldL, ↓ldD, ↓ldR, ↓k1, ↓k2, ↓kI, ↓kL, ↓kD, ↓kII, ↓kLL, ↓kDD, ↓kR, ↓kIR, ↓kLR, ↓kIIR, ↓kLIR, ↓kDIR, ↓kRIR, ↓kNN, ↓kE, ↓br, ↓bn, ↓rtI, ↓gfv, ↓zchk, lput, ldel, lbad, alA, acat, isRf, dom, dS, dJ, isO, aTy, aLen, elAV, elR, Nat.reduceBEq, Nat.reduceAdd, Bool.or, Bool.and, Nat.add_zero, Nat.zero_add]
      try simp only [Nat.reduceLT, Nat.reduceLeDiff, Nat.reduceEqDiff, true_and, and_true, and_self, Nat.zero_le, Nat.le_refl, true_or, or_true, Bool.false_eq_true, not_false_eq_true, Nat.reduceAdd, Nat.lt_add_one, Nat.zero_lt_one, nI_add, pk_mul, ixL, vpL, ne_eq, reduceIte, wI_sA, sA_same, sA_ne, sA_sA, sA_comm, uI_at, uN_at, enc_at, uI_enc, uI_uI, itn1, itn2, itn3, itn4, itc, itc0, itc1, upM_s, upM_n, hv, e, ix, vx, ix2, vx2]
      refine ⟨fun h => absurd h (nI_ge (by omega) (by omega)), fun _ => ⟨by decide, fun h4 => ?_, fun h4 => ?_⟩⟩
      · have h4 := (nI_leI (by omega) (by omega)).mp h4
        rw [if_neg (by omega)] at ih'
        refine V_run hB (rt := some .int) (nL := 4) (mc := 0) rfl rfl rfl obX11_cheapestWeekday_58 ?_
        dsimp only [bX11_cheapestWeekday_58, ↓wpb, ↓wp1, ↓vI, ↓vL, ↓vD, ↓ldI, ↓ldL, ↓ldD, ↓ldR, ↓k1, ↓k2, ↓kI, ↓kL, ↓kD, ↓kII, ↓kLL, ↓kDD, ↓kR, ↓kIR, ↓kLR, ↓kIIR, ↓kLIR, ↓kDIR, ↓kRIR, ↓kNN, ↓kE, ↓br, ↓bn, ↓rtI, ↓gfv, ↓zchk, lput, ldel, lbad, alA, acat, isRf, dom, dS, dJ, isO, aTy, aLen, elAV, elR, Nat.reduceBEq, Nat.reduceAdd, Bool.or, Bool.and, Nat.add_zero, Nat.zero_add]
        try simp only [Nat.reduceLT, Nat.reduceLeDiff, Nat.reduceEqDiff, true_and, and_true, and_self, Nat.zero_le, Nat.le_refl, true_or, or_true, Bool.false_eq_true, not_false_eq_true, Nat.reduceAdd, Nat.lt_add_one, Nat.zero_lt_one, nI_add, pk_mul, ixL, vpL, ne_eq, reduceIte, wI_sA, sA_same, sA_ne, sA_sA, sA_comm, uI_at, uN_at, enc_at, uI_enc, uI_uI, itn1, itn2, itn3, itn4, itc, itc0, itc1, upM_s, upM_n]
        exact ih' _ (List.forall_mem_cons.mpr ⟨rfl, List.forall_mem_cons.mpr ⟨rfl, List.forall_mem_cons.mpr ⟨rfl, fun _ h => absurd h List.not_mem_nil⟩⟩⟩)
      · have h4 : σ.1 (9 + (σ.1 0 + (k + 1)) % 7) < σ.1 (9 + chU σ.1 k) := by
          rcases Nat.lt_or_ge (σ.1 (9 + (σ.1 0 + (k + 1)) % 7)) (σ.1 (9 + chU σ.1 k)) with q | q
          · exact q
          · exact absurd ((nI_leI (by omega) (by omega)).mpr q) h4
        rw [if_pos h4] at ih'
        exact ih' _ (List.forall_mem_cons.mpr ⟨rfl, List.forall_mem_cons.mpr ⟨rfl, List.forall_mem_cons.mpr ⟨rfl, fun _ h => absurd h List.not_mem_nil⟩⟩⟩)
  have e0 : nI (σ.1 0) - nI (σ.1 0) / nI 7 * nI 7 = nI (σ.1 0 % 7) := pk_rem (by omega) (by omega) (by omega)
  refine V_run hB (rt := some .int) (nL := 4) (mc := 0) rfl rfl rfl obX11_cheapestWeekday_0 ?_
  dsimp only [bX11_cheapestWeekday_0, ↓wpb, ↓wp1, ↓vI, ↓vL, ↓vD, ↓ldI, ↓ldL, ↓ldD, ↓ldR, ↓k1, ↓k2, ↓kI, ↓kL, ↓kD, ↓kII, ↓kLL, ↓kDD, ↓kR, ↓kIR, ↓kLR, ↓kIIR, ↓kLIR, ↓kDIR, ↓kRIR, ↓kNN, ↓kE, ↓br, ↓bn, ↓rtI, ↓gfv, ↓zchk, lput, ldel, lbad, alA, acat, isRf, dom, dS, dJ, isO, aTy, aLen, elAV, elR, Nat.reduceBEq, Nat.reduceAdd, Bool.or, Bool.and, Nat.add_zero, Nat.zero_add]
  try simp only [Nat.reduceLT, Nat.reduceLeDiff, Nat.reduceEqDiff, true_and, and_true, and_self, Nat.zero_le, Nat.le_refl, true_or, or_true, Bool.false_eq_true, not_false_eq_true, Nat.reduceAdd, Nat.lt_add_one, Nat.zero_lt_one, nI_add, pk_mul, ixL, vpL, ne_eq, reduceIte, wI_sA, sA_same, sA_ne, sA_sA, sA_comm, uI_at, uN_at, enc_at, uI_enc, uI_uI, itn1, itn2, itn3, itn4, itc, itc0, itc1, upM_s, upM_n, hv, e0]
  exact ⟨by decide, h17 6 0 (by omega) _ (List.forall_mem_cons.mpr ⟨rfl, List.forall_mem_cons.mpr ⟨rfl, List.forall_mem_cons.mpr ⟨rfl, fun _ h => absurd h List.not_mem_nil⟩⟩⟩)⟩
theorem q_debtOf (hc : Ctx l G) (h : MW τ c0 σ) (hI : IV n σ.1) (hn : n ≤ 1000) (p : Int32) : Sat l G iX11_debtOf [mM, aI p] τ (AnR τ σ (sDOf σ.1 p)) := by
  have hS0 := MS_of (tS_MW h (if inR p 0 5 = true then 0 else 1)) hI hn
  have hv := h.1
  have hm := hI.1.1
  have e : sDOf σ.1 p = (if inR p 0 5 = true then 0 else 1, dcU σ.1 p (σ.1 4)) := rfl
  unfold tS at hS0
  have hle : ∀ k, k ≤ σ.1 4 → dcU σ.1 p k ≤ 13860 * k := by
    intro k
    induction k with
    | zero => intro _; exact Nat.le_refl _
    | succ k ih =>
      intro hk
      have := ih (by omega)
      unfold dcU
      split
      · rename_i hq
        have := hI.dbt (show k < σ.1 4 by omega) hq.1
        omega
      · omega
  refine Sat_of hc.1 hc.2 (by decide +kernel) (Nat.le_of_ble_eq_true rfl) (fun x hB hno => ?_)
  rw [e] at hB
  generalize hcc : (if inR p 0 5 = true then 0 else 1) = c at *
  have h22 : ∀ w k, k + w = σ.1 4 → V x (sA τ 30 (uI (τ.1 (30, 0, 0)) 0 (nI c))) 0 22 [(0, mM), (1, aI p), (2, aI (nI (dcU σ.1 p k))), (3, aI (nI k))] [] := by
    intro w
    induction w with
    | zero =>
      intro k hk
      have hk : k = σ.1 4 := by omega
      subst hk
      refine V_run hB (rt := some .int) (nL := 4) (mc := 0) rfl rfl rfl obX11_debtOf_22 ?_
      dsimp only [bX11_debtOf_22, ↓wpb, ↓wp1, ↓vI, ↓vL, ↓vD, ↓ldI, ↓ldL, ↓ldD, ↓ldR, ↓k1, ↓k2, ↓kI, ↓kL, ↓kD, ↓kII, ↓kLL, ↓kDD, ↓kR, ↓kIR, ↓kLR, ↓kIIR, ↓kLIR, ↓kDIR, ↓kRIR, ↓kNN, ↓kE, ↓br, ↓bn, ↓rtI, ↓gfv, ↓zchk, lput, ldel, lbad, alA, acat, isRf, dom, dS, dJ, isO, aTy, aLen, elAV, elR, Nat.reduceBEq, Nat.reduceAdd, Bool.or, Bool.and, Nat.add_zero, Nat.zero_add]
      try simp only [Nat.reduceLT, Nat.reduceLeDiff, Nat.reduceEqDiff, true_and, and_true, and_self, Nat.zero_le, Nat.le_refl, true_or, or_true, Bool.false_eq_true, not_false_eq_true, Nat.reduceAdd, Nat.lt_add_one, Nat.zero_lt_one, nI_add, pk_mul, ixL, vpL, ne_eq, reduceIte, wI_sA, sA_same, sA_ne, sA_sA, sA_comm, uI_at, uN_at, enc_at, uI_enc, uI_uI, itn1, itn2, itn3, itn4, itc, itc0, itc1, upM_s, upM_n, hv]
      refine ⟨fun _ => ?_, fun h => absurd (nI_le (by omega) (by omega)) h⟩
      refine V_run hB (rt := some .int) (nL := 4) (mc := 0) rfl rfl rfl obX11_debtOf_72 ?_
      dsimp only [bX11_debtOf_72, ↓wpb, ↓wp1, ↓vI, ↓vL, ↓vD, ↓ldI, ↓ldL, ↓ldD, ↓ldR, ↓k1, ↓k2, ↓kI, ↓kL, ↓kD, ↓kII, ↓kLL, ↓kDD, ↓kR, ↓kIR, ↓kLR, ↓kIIR, ↓kLIR, ↓kDIR, ↓kRIR, ↓kNN, ↓kE, ↓br, ↓bn, ↓rtI, ↓gfv, ↓zchk, lput, ldel, lbad, alA, acat, isRf, dom, dS, dJ, isO, aTy, aLen, elAV, elR, Nat.reduceBEq, Nat.reduceAdd, Bool.or, Bool.and, Nat.add_zero, Nat.zero_add]
      try simp only [Nat.reduceLT, Nat.reduceLeDiff, Nat.reduceEqDiff, true_and, and_true, and_self, Nat.zero_le, Nat.le_refl, true_or, or_true, Bool.false_eq_true, not_false_eq_true, Nat.reduceAdd, Nat.lt_add_one, Nat.zero_lt_one, nI_add, pk_mul, ixL, vpL, ne_eq, reduceIte, wI_sA, sA_same, sA_ne, sA_sA, sA_comm, uI_at, uN_at, enc_at, uI_enc, uI_uI, itn1, itn2, itn3, itn4, itc, itc0, itc1, upM_s, upM_n]
      exact Ans_t h
    | succ w ih =>
      intro k hk
      have hk10 : k < 10 := by omega
      have hl := hle k (by omega)
      have ih' := ih (k + 1) (by omega)
      have hu : dcU σ.1 p (k + 1) = dcU σ.1 p k + (if isLot σ.1 k = false ∧ nI (it σ.1 k 2) = p then debt σ.1 k else 0) := rfl
      rw [hu] at ih'
      have h63 : ¬ (isLot σ.1 k = false ∧ nI (it σ.1 k 2) = p) → V x (sA τ 30 (uI (τ.1 (30, 0, 0)) 0 (nI c))) 0 63 [(0, mM), (1, aI p), (2, aI (nI (dcU σ.1 p k))), (3, aI (nI k))] [aI (nI (dcU σ.1 p k))] := by
        intro hq
        rw [if_neg hq] at ih'
        refine V_run hB (rt := some .int) (nL := 4) (mc := 0) rfl rfl rfl obX11_debtOf_63 ?_
        dsimp only [bX11_debtOf_63, ↓wpb, ↓wp1, ↓vI, ↓vL, ↓vD, ↓ldI, ↓ldL, ↓ldD, ↓ldR, ↓k1, ↓k2, ↓kI, ↓kL, ↓kD, ↓kII, ↓kLL, ↓kDD, ↓kR, ↓kIR, ↓kLR, ↓kIIR, ↓kLIR, ↓kDIR, ↓kRIR, ↓kNN, ↓kE, ↓br, ↓bn, ↓rtI, ↓gfv, ↓zchk, lput, ldel, lbad, alA, acat, isRf, dom, dS, dJ, isO, aTy, aLen, elAV, elR, Nat.reduceBEq, Nat.reduceAdd, Bool.or, Bool.and, Nat.add_zero, Nat.zero_add]
        try simp only [Nat.reduceLT, Nat.reduceLeDiff, Nat.reduceEqDiff, true_and, and_true, and_self, Nat.zero_le, Nat.le_refl, true_or, or_true, Bool.false_eq_true, not_false_eq_true, Nat.reduceAdd, Nat.lt_add_one, Nat.zero_lt_one, nI_add, pk_mul, ixL, vpL, ne_eq, reduceIte, wI_sA, sA_same, sA_ne, sA_sA, sA_comm, uI_at, uN_at, enc_at, uI_enc, uI_uI, itn1, itn2, itn3, itn4, itc, itc0, itc1, upM_s, upM_n]
        exact ih'
      refine V_run hB (rt := some .int) (nL := 4) (mc := 0) rfl rfl rfl obX11_debtOf_22 ?_
      dsimp only [bX11_debtOf_22, ↓wpb, ↓wp1, ↓vI, ↓vL, ↓vD, ↓ldI, ↓ldL, ↓ldD, ↓ldR, ↓k1, ↓k2, ↓kI, ↓kL, ↓kD, ↓kII, ↓kLL, ↓kDD, ↓kR, ↓kIR, ↓kLR, ↓kIIR, ↓kLIR, ↓kDIR, ↓kRIR, ↓kNN, ↓kE, ↓br, ↓bn, ↓rtI, ↓gfv, ↓zchk, lput, ldel, lbad, alA, acat, isRf, dom, dS, dJ, isO, aTy, aLen, elAV, elR, Nat.reduceBEq, Nat.reduceAdd, Bool.or, Bool.and, Nat.add_zero, Nat.zero_add]
      try simp only [Nat.reduceLT, Nat.reduceLeDiff, Nat.reduceEqDiff, true_and, and_true, and_self, Nat.zero_le, Nat.le_refl, true_or, or_true, Bool.false_eq_true, not_false_eq_true, Nat.reduceAdd, Nat.lt_add_one, Nat.zero_lt_one, nI_add, pk_mul, ixL, vpL, ne_eq, reduceIte, wI_sA, sA_same, sA_ne, sA_sA, sA_comm, uI_at, uN_at, enc_at, uI_enc, uI_uI, itn1, itn2, itn3, itn4, itc, itc0, itc1, upM_s, upM_n, hv]
      refine ⟨fun h => absurd h (nI_ge (by omega) (by omega)), fun _ => ?_⟩
      refine V_cV hB hno (q_isLot hc hS0 hk10) rfl (by decide +kernel) cvX11_68 (dom1 rfl) npX11_isLot ⟨by decide, by decide⟩ (Nat.le_of_ble_eq_true rfl) (n' := 0) (by decide) rfl ?_
      refine V_run hB (rt := some .int) (nL := 4) (mc := 0) rfl rfl rfl obX11_debtOf_38 ?_
      dsimp only [bX11_debtOf_38, ↓wpb, ↓wp1, ↓vI, ↓vL, ↓vD, ↓ldI, ↓ldL, ↓ldD, ↓ldR, ↓k1, ↓k2, ↓kI, ↓kL, ↓kD, ↓kII, ↓kLL, ↓kDD, ↓kR, ↓kIR, ↓kLR, ↓kIIR, ↓kLIR, ↓kDIR, ↓kRIR, ↓kNN, ↓kE, ↓br, ↓bn, ↓rtI, ↓gfv, ↓zchk, lput, ldel, lbad, alA, acat, isRf, dom, dS, dJ, isO, aTy, aLen, elAV, elR, Nat.reduceBEq, Nat.reduceAdd, Bool.or, Bool.and, Nat.add_zero, Nat.zero_add]
      try simp only [Nat.reduceLT, Nat.reduceLeDiff, Nat.reduceEqDiff, true_and, and_true, and_self, Nat.zero_le, Nat.le_refl, true_or, or_true, Bool.false_eq_true, not_false_eq_true, Nat.reduceAdd, Nat.lt_add_one, Nat.zero_lt_one, nI_add, pk_mul, ixL, vpL, ne_eq, reduceIte, wI_sA, sA_same, sA_ne, sA_sA, sA_comm, uI_at, uN_at, enc_at, uI_enc, uI_uI, itn1, itn2, itn3, itn4, itc, itc0, itc1, upM_s, upM_n, bN_0]
      refine ⟨fun hq => h63 (fun r => hq r.1), fun hq => ?_⟩
      refine V_cS hB hno (q_ofN hc _ _ _) rfl (by decide +kernel) csX11_60 npX11_of ⟨by decide, by decide⟩ (Nat.le_of_ble_eq_true rfl) (n' := 0) (by decide) rfl ?_
      refine V_run hB (rt := some .int) (nL := 4) (mc := 0) rfl rfl rfl obX11_debtOf_50 ?_
      dsimp only [bX11_debtOf_50, ↓wpb, ↓wp1, ↓vI, ↓vL, ↓vD, ↓ldI, ↓ldL, ↓ldD, ↓ldR, ↓k1, ↓k2, ↓kI, ↓kL, ↓kD, ↓kII, ↓kLL, ↓kDD, ↓kR, ↓kIR, ↓kLR, ↓kIIR, ↓kLIR, ↓kDIR, ↓kRIR, ↓kNN, ↓kE, ↓br, ↓bn, ↓rtI, ↓gfv, ↓zchk, lput, ldel, lbad, alA, acat, isRf, dom, dS, dJ, isO, aTy, aLen, elAV, elR, Nat.reduceBEq, Nat.reduceAdd, Bool.or, Bool.and, Nat.add_zero, Nat.zero_add]
      try simp only [Nat.reduceLT, Nat.reduceLeDiff, Nat.reduceEqDiff, true_and, and_true, and_self, Nat.zero_le, Nat.le_refl, true_or, or_true, Bool.false_eq_true, not_false_eq_true, Nat.reduceAdd, Nat.lt_add_one, Nat.zero_lt_one, nI_add, pk_mul, ixL, vpL, ne_eq, reduceIte, wI_sA, sA_same, sA_ne, sA_sA, sA_comm, uI_at, uN_at, enc_at, uI_enc, uI_uI, itn1, itn2, itn3, itn4, itc, itc0, itc1, upM_s, upM_n, hv, ixI (c := 2) hk10 (by omega), vpI (c := 2) hk10 (by omega)]
      refine ⟨fun hr => h63 (fun r => hr r.2), fun hr => ?_⟩
      have hpl := hI.okD (e := 0) (show k < σ.1 4 by omega) hq (by omega)
      refine V_cV hB hno (q_debt hc hS0 hk10 hpl) rfl (by decide +kernel) cvX11_92 (dom1 rfl) npX11_debt ⟨by decide, by decide⟩ (Nat.le_of_ble_eq_true rfl) (n' := 0) (by decide) rfl ?_
      refine V_run hB (rt := some .int) (nL := 4) (mc := 0) rfl rfl rfl obX11_debtOf_60 ?_
      dsimp only [bX11_debtOf_60, ↓wpb, ↓wp1, ↓vI, ↓vL, ↓vD, ↓ldI, ↓ldL, ↓ldD, ↓ldR, ↓k1, ↓k2, ↓kI, ↓kL, ↓kD, ↓kII, ↓kLL, ↓kDD, ↓kR, ↓kIR, ↓kLR, ↓kIIR, ↓kLIR, ↓kDIR, ↓kRIR, ↓kNN, ↓kE, ↓br, ↓bn, ↓rtI, ↓gfv, ↓zchk, lput, ldel, lbad, alA, acat, isRf, dom, dS, dJ, isO, aTy, aLen, elAV, elR, Nat.reduceBEq, Nat.reduceAdd, Bool.or, Bool.and, Nat.add_zero, Nat.zero_add]
      try simp only [Nat.reduceLT, Nat.reduceLeDiff, Nat.reduceEqDiff, true_and, and_true, and_self, Nat.zero_le, Nat.le_refl, true_or, or_true, Bool.false_eq_true, not_false_eq_true, Nat.reduceAdd, Nat.lt_add_one, Nat.zero_lt_one, nI_add, pk_mul, ixL, vpL, ne_eq, reduceIte, wI_sA, sA_same, sA_ne, sA_sA, sA_comm, uI_at, uN_at, enc_at, uI_enc, uI_uI, itn1, itn2, itn3, itn4, itc, itc0, itc1, upM_s, upM_n]
      refine V_run hB (rt := some .int) (nL := 4) (mc := 0) rfl rfl rfl obX11_debtOf_64 ?_
      dsimp only [bX11_debtOf_64, ↓wpb, ↓wp1, ↓vI, ↓vL, ↓vD, ↓ldI, ↓ldL, ↓ldD, ↓ldR, ↓k1, ↓k2, ↓kI, ↓kL, ↓kD, ↓kII, ↓kLL, ↓kDD, ↓kR, ↓kIR, ↓kLR, ↓kIIR, ↓kLIR, ↓kDIR, ↓kRIR, ↓kNN, ↓kE, ↓br, ↓bn, ↓rtI, ↓gfv, ↓zchk, lput, ldel, lbad, alA, acat, isRf, dom, dS, dJ, isO, aTy, aLen, elAV, elR, Nat.reduceBEq, Nat.reduceAdd, Bool.or, Bool.and, Nat.add_zero, Nat.zero_add]
      try simp only [Nat.reduceLT, Nat.reduceLeDiff, Nat.reduceEqDiff, true_and, and_true, and_self, Nat.zero_le, Nat.le_refl, true_or, or_true, Bool.false_eq_true, not_false_eq_true, Nat.reduceAdd, Nat.lt_add_one, Nat.zero_lt_one, nI_add, pk_mul, ixL, vpL, ne_eq, reduceIte, wI_sA, sA_same, sA_ne, sA_sA, sA_comm, uI_at, uN_at, enc_at, uI_enc, uI_uI, itn1, itn2, itn3, itn4, itc, itc0, itc1, upM_s, upM_n]
      rw [if_pos ⟨hq, hr⟩] at ih'
      exact ih'
  have h15 : V x τ 0 15 [(0, mM), (1, aI p)] [aI (nI c), mM] := by
    refine V_run hB (rt := some .int) (nL := 4) (mc := 0) rfl rfl rfl obX11_debtOf_15 ?_
    dsimp only [bX11_debtOf_15, ↓wpb, ↓wp1, ↓vI, ↓vL, ↓vD, ↓ldI, ↓ldL, ↓ldD, ↓ldR, ↓k1, ↓k2, ↓kI, ↓kL, ↓kD, ↓kII, ↓kLL, ↓kDD, ↓kR, ↓kIR, ↓kLR, ↓kIIR, ↓kLIR, ↓kDIR, ↓kRIR, ↓kNN, ↓kE, ↓br, ↓bn, ↓rtI, ↓gfv, ↓zchk, lput, ldel, lbad, alA, acat, isRf, dom, dS, dJ, isO, aTy, aLen, elAV, elR, Nat.reduceBEq, Nat.reduceAdd, Bool.or, Bool.and, Nat.add_zero, Nat.zero_add]
    try simp only [Nat.reduceLT, Nat.reduceLeDiff, Nat.reduceEqDiff, true_and, and_true, and_self, Nat.zero_le, Nat.le_refl, true_or, or_true, Bool.false_eq_true, not_false_eq_true, Nat.reduceAdd, Nat.lt_add_one, Nat.zero_lt_one, nI_add, pk_mul, ixL, vpL, ne_eq, reduceIte, wI_sA, sA_same, sA_ne, sA_sA, sA_comm, uI_at, uN_at, enc_at, uI_enc, uI_uI, itn1, itn2, itn3, itn4, itc, itc0, itc1, upM_s, upM_n]
    exact h22 (σ.1 4) 0 (by omega)
  refine V_run hB (rt := some .int) (nL := 4) (mc := 0) rfl rfl rfl obX11_debtOf_0 ?_
  dsimp only [bX11_debtOf_0, ↓wpb, ↓wp1, ↓vI, ↓vL, ↓vD, ↓ldI, ↓ldL, ↓ldD, ↓ldR, ↓k1, ↓k2, ↓kI, ↓kL, ↓kD, ↓kII, ↓kLL, ↓kDD, ↓kR, ↓kIR, ↓kLR, ↓kIIR, ↓kLIR, ↓kDIR, ↓kRIR, ↓kNN, ↓kE, ↓br, ↓bn, ↓rtI, ↓gfv, ↓zchk, lput, ldel, lbad, alA, acat, isRf, dom, dS, dJ, isO, aTy, aLen, elAV, elR, Nat.reduceBEq, Nat.reduceAdd, Bool.or, Bool.and, Nat.add_zero, Nat.zero_add]
  try simp only [Nat.reduceLT, Nat.reduceLeDiff, Nat.reduceEqDiff, true_and, and_true, and_self, Nat.zero_le, Nat.le_refl, true_or, or_true, Bool.false_eq_true, not_false_eq_true, Nat.reduceAdd, Nat.lt_add_one, Nat.zero_lt_one, nI_add, pk_mul, ixL, vpL, ne_eq, reduceIte, wI_sA, sA_same, sA_ne, sA_sA, sA_comm, uI_at, uN_at, enc_at, uI_enc, uI_uI, itn1, itn2, itn3, itn4, itc, itc0, itc1, upM_s, upM_n]
  refine V_cS hB hno (q_isInN hc _ _ _ _) rfl (by decide +kernel) csX11_72 npX11_isIn ⟨by decide, by decide⟩ (Nat.le_of_ble_eq_true rfl) (n' := 0) (by decide) rfl ?_
  refine V_run hB (rt := some .int) (nL := 4) (mc := 0) rfl rfl rfl obX11_debtOf_7 ?_
  dsimp only [bX11_debtOf_7, ↓wpb, ↓wp1, ↓vI, ↓vL, ↓vD, ↓ldI, ↓ldL, ↓ldD, ↓ldR, ↓k1, ↓k2, ↓kI, ↓kL, ↓kD, ↓kII, ↓kLL, ↓kDD, ↓kR, ↓kIR, ↓kLR, ↓kIIR, ↓kLIR, ↓kDIR, ↓kRIR, ↓kNN, ↓kE, ↓br, ↓bn, ↓rtI, ↓gfv, ↓zchk, lput, ldel, lbad, alA, acat, isRf, dom, dS, dJ, isO, aTy, aLen, elAV, elR, Nat.reduceBEq, Nat.reduceAdd, Bool.or, Bool.and, Nat.add_zero, Nat.zero_add]
  try simp only [Nat.reduceLT, Nat.reduceLeDiff, Nat.reduceEqDiff, true_and, and_true, and_self, Nat.zero_le, Nat.le_refl, true_or, or_true, Bool.false_eq_true, not_false_eq_true, Nat.reduceAdd, Nat.lt_add_one, Nat.zero_lt_one, nI_add, pk_mul, ixL, vpL, ne_eq, reduceIte, wI_sA, sA_same, sA_ne, sA_sA, sA_comm, uI_at, uN_at, enc_at, uI_enc, uI_uI, itn1, itn2, itn3, itn4, itc, itc0, itc1, upM_s, upM_n, bN_0]
  refine ⟨fun q => ?_, fun q => ?_⟩
  · rw [if_neg (by rw [q]; decide)] at hcc
    subst hcc
    refine V_run hB (rt := some .int) (nL := 4) (mc := 0) rfl rfl rfl obX11_debtOf_14 ?_
    dsimp only [bX11_debtOf_14, ↓wpb, ↓wp1, ↓vI, ↓vL, ↓vD, ↓ldI, ↓ldL, ↓ldD, ↓ldR, ↓k1, ↓k2, ↓kI, ↓kL, ↓kD, ↓kII, ↓kLL, ↓kDD, ↓kR, ↓kIR, ↓kLR, ↓kIIR, ↓kLIR, ↓kDIR, ↓kRIR, ↓kNN, ↓kE, ↓br, ↓bn, ↓rtI, ↓gfv, ↓zchk, lput, ldel, lbad, alA, acat, isRf, dom, dS, dJ, isO, aTy, aLen, elAV, elR, Nat.reduceBEq, Nat.reduceAdd, Bool.or, Bool.and, Nat.add_zero, Nat.zero_add]
    try simp only [Nat.reduceLT, Nat.reduceLeDiff, Nat.reduceEqDiff, true_and, and_true, and_self, Nat.zero_le, Nat.le_refl, true_or, or_true, Bool.false_eq_true, not_false_eq_true, Nat.reduceAdd, Nat.lt_add_one, Nat.zero_lt_one, nI_add, pk_mul, ixL, vpL, ne_eq, reduceIte, wI_sA, sA_same, sA_ne, sA_sA, sA_comm, uI_at, uN_at, enc_at, uI_enc, uI_uI, itn1, itn2, itn3, itn4, itc, itc0, itc1, upM_s, upM_n]
    exact h22 (σ.1 4) 0 (by omega)
  · have q : inR p 0 5 = true := by simpa using q
    rw [if_pos q] at hcc
    subst hcc
    exact h15
end MG
