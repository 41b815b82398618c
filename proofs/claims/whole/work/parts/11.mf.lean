/-! ===== errors, the slip read, typing, undo, save, restore ===== -/
def sEp (o : Option Nat) : Nat × Nat := match o with
  | none => (1, 0)
  | some p => (0, p)
def sSl (ln : List Nat) (p : Int32) : Nat × Nat := if p < 0 then (1, 97) else match ln[p.toNatClampNeg]? with
  | none => (1, 97)
  | some c => (0, c)
def sTyp (σ : Sg) (c : Nat) : Nat × Nat × Sg := if 32 ≤ c ∧ c ≤ 126 then (if σ.2.2.2.2.1.length = 60 then (2, 0, σ) else (0, σ.2.2.2.2.1.length + 1, (σ.1, σ.2.1, σ.2.2.1, σ.2.2.2.1, σ.2.2.2.2.1 ++ [c], σ.2.2.2.2.2))) else (1, 0, σ)
def sUnd (σ : Sg) : Nat × Nat × Sg := match σ.2.1 with
  | [] => (1, 0, σ)
  | b :: t => (0, t.length, (b, t, σ.2.2))
def sSav (σ : Sg) : Nat × Nat × Sg := (0, σ.1 0, (σ.1, σ.2.1, some σ.1, σ.2.2.2))
def sRes (σ : Sg) : Nat × Nat × Sg := match σ.2.2.1 with
  | none => (1, 0, σ)
  | some s => (0, s 0, (s, [], σ.2.2))
theorem slip_in {k n : Nat} (hk : k < 2147483648) (hn : n ≤ 1000) : nI k ≤ nI n - nI 1 ↔ k < n := by
  cases n with
  | zero =>
    have e : nI 0 - nI 1 = -1 := by decide
    rw [e]
    refine ⟨fun h => ?_, fun h => absurd h (Nat.not_lt_zero _)⟩
    have h4 := Int32.le_iff_toInt_le.mp h
    rw [nI_toInt (by omega)] at h4
    have h6 : (-1 : Int32).toInt = -1 := rfl
    omega
  | succ n =>
    rw [pk_sub (by omega), nI_leI (by omega) (by omega)]
    omega
theorem ch_nI {c : Nat} (h : c < 65536) : ((nI c).toUInt32 % 65536).toInt32 = nI c := by
  have e : (nI c).toUInt32 % 65536 = (nI c).toUInt32 := by
    apply UInt32.toNat_inj.mp
    rw [UInt32.toNat_mod]
    have e1 : (nI c).toUInt32.toNat = c := by
      show (UInt32.ofNat c).toNat = c
      rw [UInt32.toNat_ofNat']
      omega
    rw [e1]
    have e2 : (65536 : UInt32).toNat = 65536 := rfl
    rw [e2]
    omega
  rw [e]
  rfl
theorem nar_nI {c : Nat} (h : c < 65536) : narrow FieldType.char (Value.int (nI c)) = Value.int (nI c) := by
  show Value.int ((nI c).toUInt32 % 65536).toInt32 = _
  rw [ch_nI h]
section MF
variable {l : Launch} {G : GG} {τ : Mem} {c0 n : Nat} {σ : Sg}
theorem q_errorPosition (hc : Ctx l G) (h : MW τ c0 σ) (hb : ∀ p, σ.2.2.2.1.1 = some p → p < 1000) : Sat l G iX11_errorPosition [mM] τ (AnR τ σ (sEp σ.2.2.2.1.1)) := by
  have hf := h.2.2.2.1.2.1
  refine Sat_of hc.1 hc.2 (by decide +kernel) (Nat.le_of_ble_eq_true rfl) (fun x hB hno => ?_)
  cases ho : σ.2.2.2.1.1 with
  | none =>
    rw [ho] at hB hf
    rw [oI_none] at hf
    have e : sEp none = (1, 0) := rfl
    rw [e] at hB
    refine V_run hB (rt := some .int) (nL := 1) (mc := 0) rfl rfl rfl obX11_errorPosition_0 ?_
    dsimp only [bX11_errorPosition_0, ↓wpb, ↓wp1, ↓vI, ↓vL, ↓vD, ↓ldI, ↓ldL, ↓ldD, ↓ldR, ↓k1, ↓k2, ↓kI, ↓kL, ↓kD, ↓kII, ↓kLL, ↓kDD, ↓kR, ↓kIR, ↓kLR, ↓kIIR, ↓kLIR, ↓kDIR, ↓kRIR, ↓kNN, ↓kE, ↓br, ↓bn, ↓rtI, ↓gfv, ↓zchk, lput, ldel, lbad, alA, acat, isRf, dom, dS, dJ, isO, aTy, aLen, elAV, elR, Nat.reduceBEq, Nat.reduceAdd, Bool.or, Bool.and, Nat.add_zero, Nat.zero_add]
    try simp only [Nat.reduceLT, Nat.reduceLeDiff, Nat.reduceEqDiff, true_and, and_true, and_self, Nat.zero_le, Nat.le_refl, true_or, or_true, Bool.false_eq_true, not_false_eq_true, Nat.reduceAdd, Nat.lt_add_one, Nat.zero_lt_one, nI_add, pk_mul, ixL, vpL, ne_eq, reduceIte, wI_sA, sA_same, sA_ne, sA_sA, sA_comm, uI_at, uN_at, enc_at, uI_enc, uI_uI, itn1, itn2, itn3, itn4, itc, itc0, itc1, upM_s, upM_n, hf]
    refine ⟨fun h => absurd h (by decide), fun _ => ?_⟩
    refine V_run hB (rt := some .int) (nL := 1) (mc := 0) rfl rfl rfl obX11_errorPosition_13 ?_
    dsimp only [bX11_errorPosition_13, ↓wpb, ↓wp1, ↓vI, ↓vL, ↓vD, ↓ldI, ↓ldL, ↓ldD, ↓ldR, ↓k1, ↓k2, ↓kI, ↓kL, ↓kD, ↓kII, ↓kLL, ↓kDD, ↓kR, ↓kIR, ↓kLR, ↓kIIR, ↓kLIR, ↓kDIR, ↓kRIR, ↓kNN, ↓kE, ↓br, ↓bn, ↓rtI, ↓gfv, ↓zchk, lput, ldel, lbad, alA, acat, isRf, dom, dS, dJ, isO, aTy, aLen, elAV, elR, Nat.reduceBEq, Nat.reduceAdd, Bool.or, Bool.and, Nat.add_zero, Nat.zero_add]
    try simp only [Nat.reduceLT, Nat.reduceLeDiff, Nat.reduceEqDiff, true_and, and_true, and_self, Nat.zero_le, Nat.le_refl, true_or, or_true, Bool.false_eq_true, not_false_eq_true, Nat.reduceAdd, Nat.lt_add_one, Nat.zero_lt_one, nI_add, pk_mul, ixL, vpL, ne_eq, reduceIte, wI_sA, sA_same, sA_ne, sA_sA, sA_comm, uI_at, uN_at, enc_at, uI_enc, uI_uI, itn1, itn2, itn3, itn4, itc, itc0, itc1, upM_s, upM_n, hf]
    refine ⟨fun _ => ?_, fun h => absurd h (by decide)⟩
    refine V_run hB (rt := some .int) (nL := 1) (mc := 0) rfl rfl rfl obX11_errorPosition_30 ?_
    dsimp only [bX11_errorPosition_30, ↓wpb, ↓wp1, ↓vI, ↓vL, ↓vD, ↓ldI, ↓ldL, ↓ldD, ↓ldR, ↓k1, ↓k2, ↓kI, ↓kL, ↓kD, ↓kII, ↓kLL, ↓kDD, ↓kR, ↓kIR, ↓kLR, ↓kIIR, ↓kLIR, ↓kDIR, ↓kRIR, ↓kNN, ↓kE, ↓br, ↓bn, ↓rtI, ↓gfv, ↓zchk, lput, ldel, lbad, alA, acat, isRf, dom, dS, dJ, isO, aTy, aLen, elAV, elR, Nat.reduceBEq, Nat.reduceAdd, Bool.or, Bool.and, Nat.add_zero, Nat.zero_add]
    try simp only [Nat.reduceLT, Nat.reduceLeDiff, Nat.reduceEqDiff, true_and, and_true, and_self, Nat.zero_le, Nat.le_refl, true_or, or_true, Bool.false_eq_true, not_false_eq_true, Nat.reduceAdd, Nat.lt_add_one, Nat.zero_lt_one, nI_add, pk_mul, ixL, vpL, ne_eq, reduceIte, wI_sA, sA_same, sA_ne, sA_sA, sA_comm, uI_at, uN_at, enc_at, uI_enc, uI_uI, itn1, itn2, itn3, itn4, itc, itc0, itc1, upM_s, upM_n]
    exact Ans_t h
  | some p =>
    have hp := hb p ho
    rw [ho] at hB hf
    rw [oI_some] at hf
    have e : sEp (some p) = (0, p) := rfl
    rw [e] at hB
    refine V_run hB (rt := some .int) (nL := 1) (mc := 0) rfl rfl rfl obX11_errorPosition_0 ?_
    dsimp only [bX11_errorPosition_0, ↓wpb, ↓wp1, ↓vI, ↓vL, ↓vD, ↓ldI, ↓ldL, ↓ldD, ↓ldR, ↓k1, ↓k2, ↓kI, ↓kL, ↓kD, ↓kII, ↓kLL, ↓kDD, ↓kR, ↓kIR, ↓kLR, ↓kIIR, ↓kLIR, ↓kDIR, ↓kRIR, ↓kNN, ↓kE, ↓br, ↓bn, ↓rtI, ↓gfv, ↓zchk, lput, ldel, lbad, alA, acat, isRf, dom, dS, dJ, isO, aTy, aLen, elAV, elR, Nat.reduceBEq, Nat.reduceAdd, Bool.or, Bool.and, Nat.add_zero, Nat.zero_add]
    try simp only [Nat.reduceLT, Nat.reduceLeDiff, Nat.reduceEqDiff, true_and, and_true, and_self, Nat.zero_le, Nat.le_refl, true_or, or_true, Bool.false_eq_true, not_false_eq_true, Nat.reduceAdd, Nat.lt_add_one, Nat.zero_lt_one, nI_add, pk_mul, ixL, vpL, ne_eq, reduceIte, wI_sA, sA_same, sA_ne, sA_sA, sA_comm, uI_at, uN_at, enc_at, uI_enc, uI_uI, itn1, itn2, itn3, itn4, itc, itc0, itc1, upM_s, upM_n, hf]
    refine ⟨fun _ => ?_, fun h => absurd (nI_pos' (by omega)) h⟩
    refine V_run hB (rt := some .int) (nL := 1) (mc := 0) rfl rfl rfl obX11_errorPosition_12 ?_
    dsimp only [bX11_errorPosition_12, ↓wpb, ↓wp1, ↓vI, ↓vL, ↓vD, ↓ldI, ↓ldL, ↓ldD, ↓ldR, ↓k1, ↓k2, ↓kI, ↓kL, ↓kD, ↓kII, ↓kLL, ↓kDD, ↓kR, ↓kIR, ↓kLR, ↓kIIR, ↓kLIR, ↓kDIR, ↓kRIR, ↓kNN, ↓kE, ↓br, ↓bn, ↓rtI, ↓gfv, ↓zchk, lput, ldel, lbad, alA, acat, isRf, dom, dS, dJ, isO, aTy, aLen, elAV, elR, Nat.reduceBEq, Nat.reduceAdd, Bool.or, Bool.and, Nat.add_zero, Nat.zero_add]
    try simp only [Nat.reduceLT, Nat.reduceLeDiff, Nat.reduceEqDiff, true_and, and_true, and_self, Nat.zero_le, Nat.le_refl, true_or, or_true, Bool.false_eq_true, not_false_eq_true, Nat.reduceAdd, Nat.lt_add_one, Nat.zero_lt_one, nI_add, pk_mul, ixL, vpL, ne_eq, reduceIte, wI_sA, sA_same, sA_ne, sA_sA, sA_comm, uI_at, uN_at, enc_at, uI_enc, uI_uI, itn1, itn2, itn3, itn4, itc, itc0, itc1, upM_s, upM_n, hf]
    refine ⟨fun h => absurd rfl h, fun _ => ?_⟩
    refine V_run hB (rt := some .int) (nL := 1) (mc := 0) rfl rfl rfl obX11_errorPosition_31 ?_
    dsimp only [bX11_errorPosition_31, ↓wpb, ↓wp1, ↓vI, ↓vL, ↓vD, ↓ldI, ↓ldL, ↓ldD, ↓ldR, ↓k1, ↓k2, ↓kI, ↓kL, ↓kD, ↓kII, ↓kLL, ↓kDD, ↓kR, ↓kIR, ↓kLR, ↓kIIR, ↓kLIR, ↓kDIR, ↓kRIR, ↓kNN, ↓kE, ↓br, ↓bn, ↓rtI, ↓gfv, ↓zchk, lput, ldel, lbad, alA, acat, isRf, dom, dS, dJ, isO, aTy, aLen, elAV, elR, Nat.reduceBEq, Nat.reduceAdd, Bool.or, Bool.and, Nat.add_zero, Nat.zero_add]
    try simp only [Nat.reduceLT, Nat.reduceLeDiff, Nat.reduceEqDiff, true_and, and_true, and_self, Nat.zero_le, Nat.le_refl, true_or, or_true, Bool.false_eq_true, not_false_eq_true, Nat.reduceAdd, Nat.lt_add_one, Nat.zero_lt_one, nI_add, pk_mul, ixL, vpL, ne_eq, reduceIte, wI_sA, sA_same, sA_ne, sA_sA, sA_comm, uI_at, uN_at, enc_at, uI_enc, uI_uI, itn1, itn2, itn3, itn4, itc, itc0, itc1, upM_s, upM_n]
    exact Ans_t h
theorem q_failedCommand (hc : Ctx l G) (h : MW τ c0 σ) (hb : ∀ p, σ.2.2.2.1.2 = some p → p < 1000) : Sat l G iX11_failedCommand [mM] τ (AnR τ σ (sEp σ.2.2.2.1.2)) := by
  have hf := h.2.2.2.1.2.2.1
  refine Sat_of hc.1 hc.2 (by decide +kernel) (Nat.le_of_ble_eq_true rfl) (fun x hB hno => ?_)
  cases ho : σ.2.2.2.1.2 with
  | none =>
    rw [ho] at hB hf
    rw [oI_none] at hf
    have e : sEp none = (1, 0) := rfl
    rw [e] at hB
    refine V_run hB (rt := some .int) (nL := 1) (mc := 0) rfl rfl rfl obX11_failedCommand_0 ?_
    dsimp only [bX11_failedCommand_0, ↓wpb, ↓wp1, ↓vI, ↓vL, ↓vD, ↓ldI, ↓ldL, ↓ldD, ↓ldR, ↓k1, ↓k2, ↓kI, ↓kL, ↓kD, ↓kII, ↓kLL, ↓kDD, ↓kR, ↓kIR, ↓kLR, ↓kIIR, ↓kLIR, ↓kDIR, ↓kRIR, ↓kNN, ↓kE, ↓br, ↓bn, ↓rtI, ↓gfv, ↓zchk, lput, ldel, lbad, alA, acat, isRf, dom, dS, dJ, isO, aTy, aLen, elAV, elR, Nat.reduceBEq, Nat.reduceAdd, Bool.or, Bool.and, Nat.add_zero, Nat.zero_add]
    try simp only [Nat.reduceLT, Nat.reduceLeDiff, Nat.reduceEqDiff, true_and, and_true, and_self, Nat.zero_le, Nat.le_refl, true_or, or_true, Bool.false_eq_true, not_false_eq_true, Nat.reduceAdd, Nat.lt_add_one, Nat.zero_lt_one, nI_add, pk_mul, ixL, vpL, ne_eq, reduceIte, wI_sA, sA_same, sA_ne, sA_sA, sA_comm, uI_at, uN_at, enc_at, uI_enc, uI_uI, itn1, itn2, itn3, itn4, itc, itc0, itc1, upM_s, upM_n, hf]
    refine ⟨fun h => absurd h (by decide), fun _ => ?_⟩
    refine V_run hB (rt := some .int) (nL := 1) (mc := 0) rfl rfl rfl obX11_failedCommand_13 ?_
    dsimp only [bX11_failedCommand_13, ↓wpb, ↓wp1, ↓vI, ↓vL, ↓vD, ↓ldI, ↓ldL, ↓ldD, ↓ldR, ↓k1, ↓k2, ↓kI, ↓kL, ↓kD, ↓kII, ↓kLL, ↓kDD, ↓kR, ↓kIR, ↓kLR, ↓kIIR, ↓kLIR, ↓kDIR, ↓kRIR, ↓kNN, ↓kE, ↓br, ↓bn, ↓rtI, ↓gfv, ↓zchk, lput, ldel, lbad, alA, acat, isRf, dom, dS, dJ, isO, aTy, aLen, elAV, elR, Nat.reduceBEq, Nat.reduceAdd, Bool.or, Bool.and, Nat.add_zero, Nat.zero_add]
    try simp only [Nat.reduceLT, Nat.reduceLeDiff, Nat.reduceEqDiff, true_and, and_true, and_self, Nat.zero_le, Nat.le_refl, true_or, or_true, Bool.false_eq_true, not_false_eq_true, Nat.reduceAdd, Nat.lt_add_one, Nat.zero_lt_one, nI_add, pk_mul, ixL, vpL, ne_eq, reduceIte, wI_sA, sA_same, sA_ne, sA_sA, sA_comm, uI_at, uN_at, enc_at, uI_enc, uI_uI, itn1, itn2, itn3, itn4, itc, itc0, itc1, upM_s, upM_n, hf]
    refine ⟨fun _ => ?_, fun h => absurd h (by decide)⟩
    refine V_run hB (rt := some .int) (nL := 1) (mc := 0) rfl rfl rfl obX11_failedCommand_30 ?_
    dsimp only [bX11_failedCommand_30, ↓wpb, ↓wp1, ↓vI, ↓vL, ↓vD, ↓ldI, ↓ldL, ↓ldD, ↓ldR, ↓k1, ↓k2, ↓kI, ↓kL, ↓kD, ↓kII, ↓kLL, ↓kDD, ↓kR, ↓kIR, ↓kLR, ↓kIIR, ↓kLIR, ↓kDIR, ↓kRIR, ↓kNN, ↓kE, ↓br, ↓bn, ↓rtI, ↓gfv, ↓zchk, lput, ldel, lbad, alA, acat, isRf, dom, dS, dJ, isO, aTy, aLen, elAV, elR, Nat.reduceBEq, Nat.reduceAdd, Bool.or, Bool.and, Nat.add_zero, Nat.zero_add]
    try simp only [Nat.reduceLT, Nat.reduceLeDiff, Nat.reduceEqDiff, true_and, and_true, and_self, Nat.zero_le, Nat.le_refl, true_or, or_true, Bool.false_eq_true, not_false_eq_true, Nat.reduceAdd, Nat.lt_add_one, Nat.zero_lt_one, nI_add, pk_mul, ixL, vpL, ne_eq, reduceIte, wI_sA, sA_same, sA_ne, sA_sA, sA_comm, uI_at, uN_at, enc_at, uI_enc, uI_uI, itn1, itn2, itn3, itn4, itc, itc0, itc1, upM_s, upM_n]
    exact Ans_t h
  | some p =>
    have hp := hb p ho
    rw [ho] at hB hf
    rw [oI_some] at hf
    have e : sEp (some p) = (0, p) := rfl
    rw [e] at hB
    refine V_run hB (rt := some .int) (nL := 1) (mc := 0) rfl rfl rfl obX11_failedCommand_0 ?_
    dsimp only [bX11_failedCommand_0, ↓wpb, ↓wp1, ↓vI, ↓vL, ↓vD, ↓ldI, ↓ldL, ↓ldD, ↓ldR, ↓k1, ↓k2, ↓kI, ↓kL, ↓kD, ↓kII, ↓kLL, ↓kDD, ↓kR, ↓kIR, ↓kLR, ↓kIIR, ↓kLIR, ↓kDIR, ↓kRIR, ↓kNN, ↓kE, ↓br, ↓bn, ↓rtI, ↓gfv, ↓zchk, lput, ldel, lbad, alA, acat, isRf, dom, dS, dJ, isO, aTy, aLen, elAV, elR, Nat.reduceBEq, Nat.reduceAdd, Bool.or, Bool.and, Nat.add_zero, Nat.zero_add]
    try simp only [Nat.reduceLT, Nat.reduceLeDiff, Nat.reduceEqDiff, true_and, and_true, and_self, Nat.zero_le, Nat.le_refl, true_or, or_true, Bool.false_eq_true, not_false_eq_true, Nat.reduceAdd, Nat.lt_add_one, Nat.zero_lt_one, nI_add, pk_mul, ixL, vpL, ne_eq, reduceIte, wI_sA, sA_same, sA_ne, sA_sA, sA_comm, uI_at, uN_at, enc_at, uI_enc, uI_uI, itn1, itn2, itn3, itn4, itc, itc0, itc1, upM_s, upM_n, hf]
    refine ⟨fun _ => ?_, fun h => absurd (nI_pos' (by omega)) h⟩
    refine V_run hB (rt := some .int) (nL := 1) (mc := 0) rfl rfl rfl obX11_failedCommand_12 ?_
    dsimp only [bX11_failedCommand_12, ↓wpb, ↓wp1, ↓vI, ↓vL, ↓vD, ↓ldI, ↓ldL, ↓ldD, ↓ldR, ↓k1, ↓k2, ↓kI, ↓kL, ↓kD, ↓kII, ↓kLL, ↓kDD, ↓kR, ↓kIR, ↓kLR, ↓kIIR, ↓kLIR, ↓kDIR, ↓kRIR, ↓kNN, ↓kE, ↓br, ↓bn, ↓rtI, ↓gfv, ↓zchk, lput, ldel, lbad, alA, acat, isRf, dom, dS, dJ, isO, aTy, aLen, elAV, elR, Nat.reduceBEq, Nat.reduceAdd, Bool.or, Bool.and, Nat.add_zero, Nat.zero_add]
    try simp only [Nat.reduceLT, Nat.reduceLeDiff, Nat.reduceEqDiff, true_and, and_true, and_self, Nat.zero_le, Nat.le_refl, true_or, or_true, Bool.false_eq_true, not_false_eq_true, Nat.reduceAdd, Nat.lt_add_one, Nat.zero_lt_one, nI_add, pk_mul, ixL, vpL, ne_eq, reduceIte, wI_sA, sA_same, sA_ne, sA_sA, sA_comm, uI_at, uN_at, enc_at, uI_enc, uI_uI, itn1, itn2, itn3, itn4, itc, itc0, itc1, upM_s, upM_n, hf]
    refine ⟨fun h => absurd rfl h, fun _ => ?_⟩
    refine V_run hB (rt := some .int) (nL := 1) (mc := 0) rfl rfl rfl obX11_failedCommand_31 ?_
    dsimp only [bX11_failedCommand_31, ↓wpb, ↓wp1, ↓vI, ↓vL, ↓vD, ↓ldI, ↓ldL, ↓ldD, ↓ldR, ↓k1, ↓k2, ↓kI, ↓kL, ↓kD, ↓kII, ↓kLL, ↓kDD, ↓kR, ↓kIR, ↓kLR, ↓kIIR, ↓kLIR, ↓kDIR, ↓kRIR, ↓kNN, ↓kE, ↓br, ↓bn, ↓rtI, ↓gfv, ↓zchk, lput, ldel, lbad, alA, acat, isRf, dom, dS, dJ, isO, aTy, aLen, elAV, elR, Nat.reduceBEq, Nat.reduceAdd, Bool.or, Bool.and, Nat.add_zero, Nat.zero_add]
    try simp only [Nat.reduceLT, Nat.reduceLeDiff, Nat.reduceEqDiff, true_and, and_true, and_self, Nat.zero_le, Nat.le_refl, true_or, or_true, Bool.false_eq_true, not_false_eq_true, Nat.reduceAdd, Nat.lt_add_one, Nat.zero_lt_one, nI_add, pk_mul, ixL, vpL, ne_eq, reduceIte, wI_sA, sA_same, sA_ne, sA_sA, sA_comm, uI_at, uN_at, enc_at, uI_enc, uI_uI, itn1, itn2, itn3, itn4, itc, itc0, itc1, upM_s, upM_n]
    exact Ans_t h
theorem q_slipAt (hc : Ctx l G) (h : MW τ c0 σ) (hb : ∀ c ∈ σ.2.2.2.2.2, c < 65536) (p : Int32) : Sat l G iX11_slipAt [mM, aI p] τ (AnR τ σ (sSl σ.2.2.2.2.2 p)) := by
  have hf := h.2.2.2.1.2.2.2.2.2
  have hl := h.2.2.1.2.2
  have hr := h.2.2.2.2.2.2.2.1
  refine Sat_of hc.1 hc.2 (by decide +kernel) (Nat.le_of_ble_eq_true rfl) (fun x hB hno => ?_)
  refine V_run hB (rt := some .char) (nL := 2) (mc := 0) rfl rfl rfl obX11_slipAt_0 ?_
  dsimp only [bX11_slipAt_0, ↓wpb, ↓wp1, ↓vI, ↓vL, ↓vD, ↓ldI, ↓ldL, ↓ldD, ↓ldR, ↓k1, ↓k2, ↓kI, ↓kL, ↓kD, ↓kII, ↓kLL, ↓kDD, ↓kR, ↓kIR, ↓kLR, ↓kIIR, ↓kLIR, ↓kDIR, ↓kRIR, ↓kNN, ↓kE, ↓br, ↓bn, ↓rtI, ↓gfv, ↓zchk, lput, ldel, lbad, alA, acat, isRf, dom, dS, dJ, isO, aTy, aLen, elAV, elR, Nat.reduceBEq, Nat.reduceAdd, Bool.or, Bool.and, Nat.add_zero, Nat.zero_add]
  try simp only [Nat.reduceLT, Nat.reduceLeDiff, Nat.reduceEqDiff, true_and, and_true, and_self, Nat.zero_le, Nat.le_refl, true_or, or_true, Bool.false_eq_true, not_false_eq_true, Nat.reduceAdd, Nat.lt_add_one, Nat.zero_lt_one, nI_add, pk_mul, ixL, vpL, ne_eq, reduceIte, wI_sA, sA_same, sA_ne, sA_sA, sA_comm, uI_at, uN_at, enc_at, uI_enc, uI_uI, itn1, itn2, itn3, itn4, itc, itc0, itc1, upM_s, upM_n, hf]
  refine V_cS hB hno (q_isIn hc _ p (nI 0) (nI σ.2.2.2.2.2.length - nI 1)) rfl (by decide +kernel) csX11_72 npX11_isIn ⟨by decide, by decide⟩ (Nat.le_of_ble_eq_true rfl) (n' := 0) (by decide) rfl ?_
  have bad : ¬ (nI 0 ≤ p ∧ p ≤ nI σ.2.2.2.2.2.length - nI 1) → sSl σ.2.2.2.2.2 p = (1, 97) → V x τ 0 12 [(0, mM), (1, aI p)] [aI (nI (bN (decide (nI 0 ≤ p ∧ p ≤ nI σ.2.2.2.2.2.length - nI 1)))), mM] := by
    intro h1 e
    rw [e] at hB
    rw [decide_eq_false h1]
    refine V_run hB (rt := some .char) (nL := 2) (mc := 0) rfl rfl rfl obX11_slipAt_12 ?_
    dsimp only [bX11_slipAt_12, ↓wpb, ↓wp1, ↓vI, ↓vL, ↓vD, ↓ldI, ↓ldL, ↓ldD, ↓ldR, ↓k1, ↓k2, ↓kI, ↓kL, ↓kD, ↓kII, ↓kLL, ↓kDD, ↓kR, ↓kIR, ↓kLR, ↓kIIR, ↓kLIR, ↓kDIR, ↓kRIR, ↓kNN, ↓kE, ↓br, ↓bn, ↓rtI, ↓gfv, ↓zchk, lput, ldel, lbad, alA, acat, isRf, dom, dS, dJ, isO, aTy, aLen, elAV, elR, Nat.reduceBEq, Nat.reduceAdd, Bool.or, Bool.and, Nat.add_zero, Nat.zero_add]
    try simp only [Nat.reduceLT, Nat.reduceLeDiff, Nat.reduceEqDiff, true_and, and_true, and_self, Nat.zero_le, Nat.le_refl, true_or, or_true, Bool.false_eq_true, not_false_eq_true, Nat.reduceAdd, Nat.lt_add_one, Nat.zero_lt_one, nI_add, pk_mul, ixL, vpL, ne_eq, reduceIte, wI_sA, sA_same, sA_ne, sA_sA, sA_comm, uI_at, uN_at, enc_at, uI_enc, uI_uI, itn1, itn2, itn3, itn4, itc, itc0, itc1, upM_s, upM_n]
    refine ⟨fun _ => ?_, fun h => absurd rfl h⟩
    refine V_run hB (rt := some .char) (nL := 2) (mc := 0) rfl rfl rfl obX11_slipAt_19 ?_
    dsimp only [bX11_slipAt_19, ↓wpb, ↓wp1, ↓vI, ↓vL, ↓vD, ↓ldI, ↓ldL, ↓ldD, ↓ldR, ↓k1, ↓k2, ↓kI, ↓kL, ↓kD, ↓kII, ↓kLL, ↓kDD, ↓kR, ↓kIR, ↓kLR, ↓kIIR, ↓kLIR, ↓kDIR, ↓kRIR, ↓kNN, ↓kE, ↓br, ↓bn, ↓rtI, ↓gfv, ↓zchk, lput, ldel, lbad, alA, acat, isRf, dom, dS, dJ, isO, aTy, aLen, elAV, elR, Nat.reduceBEq, Nat.reduceAdd, Bool.or, Bool.and, Nat.add_zero, Nat.zero_add]
    try simp only [Nat.reduceLT, Nat.reduceLeDiff, Nat.reduceEqDiff, true_and, and_true, and_self, Nat.zero_le, Nat.le_refl, true_or, or_true, Bool.false_eq_true, not_false_eq_true, Nat.reduceAdd, Nat.lt_add_one, Nat.zero_lt_one, nI_add, pk_mul, ixL, vpL, ne_eq, reduceIte, wI_sA, sA_same, sA_ne, sA_sA, sA_comm, uI_at, uN_at, enc_at, uI_enc, uI_uI, itn1, itn2, itn3, itn4, itc, itc0, itc1, upM_s, upM_n]
    refine ⟨fun _ => ?_, fun h => absurd h (by decide)⟩
    refine V_run hB (rt := some .char) (nL := 2) (mc := 0) rfl rfl rfl obX11_slipAt_40 ?_
    dsimp only [bX11_slipAt_40, ↓wpb, ↓wp1, ↓vI, ↓vL, ↓vD, ↓ldI, ↓ldL, ↓ldD, ↓ldR, ↓k1, ↓k2, ↓kI, ↓kL, ↓kD, ↓kII, ↓kLL, ↓kDD, ↓kR, ↓kIR, ↓kLR, ↓kIIR, ↓kLIR, ↓kDIR, ↓kRIR, ↓kNN, ↓kE, ↓br, ↓bn, ↓rtI, ↓gfv, ↓zchk, lput, ldel, lbad, alA, acat, isRf, dom, dS, dJ, isO, aTy, aLen, elAV, elR, Nat.reduceBEq, Nat.reduceAdd, Bool.or, Bool.and, Nat.add_zero, Nat.zero_add]
    try simp only [Nat.reduceLT, Nat.reduceLeDiff, Nat.reduceEqDiff, true_and, and_true, and_self, Nat.zero_le, Nat.le_refl, true_or, or_true, Bool.false_eq_true, not_false_eq_true, Nat.reduceAdd, Nat.lt_add_one, Nat.zero_lt_one, nI_add, pk_mul, ixL, vpL, ne_eq, reduceIte, wI_sA, sA_same, sA_ne, sA_sA, sA_comm, uI_at, uN_at, enc_at, uI_enc, uI_uI, itn1, itn2, itn3, itn4, itc, itc0, itc1, upM_s, upM_n]
    exact ⟨by decide +kernel, Ans_t h⟩
  by_cases hp : p < 0
  · exact bad (fun q => absurd hp (Int32.not_lt.mpr q.1)) (if_pos hp)
  · obtain ⟨k, hk, rfl⟩ := nI_of hp
    have e : sSl σ.2.2.2.2.2 (nI k) = match σ.2.2.2.2.2[k]? with | none => (1, 97) | some c => (0, c) := by unfold sSl; rw [if_neg hp, ixL hk]
    cases hg : σ.2.2.2.2.2[k]? with
    | none =>
      rw [hg] at e
      refine bad (fun q => ?_) e
      have h1 := (slip_in hk (by omega)).mp q.2
      have h2 := List.getElem?_eq_none_iff.mp hg
      omega
    | some c =>
      rw [hg] at e
      have h1 := (List.getElem?_eq_some_iff.mp hg).1
      have hc1 := hb c (List.mem_of_getElem? hg)
      have hrk := hr k c hg
      have ix : (nI k).toNatClampNeg = k := ixL (by omega)
      have vx : vp_in (nI k) 80 = True := vpL (by omega) (by omega)
      rw [e] at hB
      rw [decide_eq_true ⟨Int32.not_lt.mp hp, (slip_in hk (by omega)).mpr h1⟩]
      refine V_run hB (rt := some .char) (nL := 2) (mc := 0) rfl rfl rfl obX11_slipAt_12 ?_
      dsimp only [bX11_slipAt_12, ↓wpb, ↓wp1, ↓vI, ↓vL, ↓vD, ↓ldI, ↓ldL, ↓ldD, ↓ldR, ↓k1, ↓k2, ↓kI, ↓kL, ↓kD, ↓kII, ↓kLL, ↓kDD, ↓kR, ↓kIR, ↓kLR, ↓kIIR, ↓kLIR, ↓kDIR, ↓kRIR, ↓kNN, ↓kE, ↓br, ↓bn, ↓rtI, ↓gfv, ↓zchk, lput, ldel, lbad, alA, acat, isRf, dom, dS, dJ, isO, aTy, aLen, elAV, elR, Nat.reduceBEq, Nat.reduceAdd, Bool.or, Bool.and, Nat.add_zero, Nat.zero_add]
      try simp only [Nat.reduceLT, Nat.reduceLeDiff, Nat.reduceEqDiff, true_and, and_true, and_self, Nat.zero_le, Nat.le_refl, true_or, or_true, Bool.false_eq_true, not_false_eq_true, Nat.reduceAdd, Nat.lt_add_one, Nat.zero_lt_one, nI_add, pk_mul, ixL, vpL, ne_eq, reduceIte, wI_sA, sA_same, sA_ne, sA_sA, sA_comm, uI_at, uN_at, enc_at, uI_enc, uI_uI, itn1, itn2, itn3, itn4, itc, itc0, itc1, upM_s, upM_n]
      refine ⟨fun h => absurd h (by decide), fun _ => ?_⟩
      refine V_run hB (rt := some .char) (nL := 2) (mc := 0) rfl rfl rfl obX11_slipAt_20 ?_
      dsimp only [bX11_slipAt_20, ↓wpb, ↓wp1, ↓vI, ↓vL, ↓vD, ↓ldI, ↓ldL, ↓ldD, ↓ldR, ↓k1, ↓k2, ↓kI, ↓kL, ↓kD, ↓kII, ↓kLL, ↓kDD, ↓kR, ↓kIR, ↓kLR, ↓kIIR, ↓kLIR, ↓kDIR, ↓kRIR, ↓kNN, ↓kE, ↓br, ↓bn, ↓rtI, ↓gfv, ↓zchk, lput, ldel, lbad, alA, acat, isRf, dom, dS, dJ, isO, aTy, aLen, elAV, elR, Nat.reduceBEq, Nat.reduceAdd, Bool.or, Bool.and, Nat.add_zero, Nat.zero_add]
      try simp only [Nat.reduceLT, Nat.reduceLeDiff, Nat.reduceEqDiff, true_and, and_true, and_self, Nat.zero_le, Nat.le_refl, true_or, or_true, Bool.false_eq_true, not_false_eq_true, Nat.reduceAdd, Nat.lt_add_one, Nat.zero_lt_one, nI_add, pk_mul, ixL, vpL, ne_eq, reduceIte, wI_sA, sA_same, sA_ne, sA_sA, sA_comm, uI_at, uN_at, enc_at, uI_enc, uI_uI, itn1, itn2, itn3, itn4, itc, itc0, itc1, upM_s, upM_n, ix, vx, hrk]
      refine ⟨fun h => absurd rfl h, fun _ => ?_⟩
      refine V_run hB (rt := some .char) (nL := 2) (mc := 0) rfl rfl rfl obX11_slipAt_42 ?_
      dsimp only [bX11_slipAt_42, ↓wpb, ↓wp1, ↓vI, ↓vL, ↓vD, ↓ldI, ↓ldL, ↓ldD, ↓ldR, ↓k1, ↓k2, ↓kI, ↓kL, ↓kD, ↓kII, ↓kLL, ↓kDD, ↓kR, ↓kIR, ↓kLR, ↓kIIR, ↓kLIR, ↓kDIR, ↓kRIR, ↓kNN, ↓kE, ↓br, ↓bn, ↓rtI, ↓gfv, ↓zchk, lput, ldel, lbad, alA, acat, isRf, dom, dS, dJ, isO, aTy, aLen, elAV, elR, Nat.reduceBEq, Nat.reduceAdd, Bool.or, Bool.and, Nat.add_zero, Nat.zero_add]
      try simp only [Nat.reduceLT, Nat.reduceLeDiff, Nat.reduceEqDiff, true_and, and_true, and_self, Nat.zero_le, Nat.le_refl, true_or, or_true, Bool.false_eq_true, not_false_eq_true, Nat.reduceAdd, Nat.lt_add_one, Nat.zero_lt_one, nI_add, pk_mul, ixL, vpL, ne_eq, reduceIte, wI_sA, sA_same, sA_ne, sA_sA, sA_comm, uI_at, uN_at, enc_at, uI_enc, uI_uI, itn1, itn2, itn3, itn4, itc, itc0, itc1, upM_s, upM_n]
      rw [ch_nI hc1]
      exact ⟨nar_nI hc1, Ans_t h⟩
theorem q_save (hc : Ctx l G) (h : MW τ c0 σ) : Sat l G iX11_save [mM] τ (Ans τ (sSav σ)) := by
  have hv := h.1
  obtain ⟨g1, g2, g3, g4, g5, g6, g7⟩ := h
  refine Sat_of hc.1 hc.2 (by decide +kernel) (Nat.le_of_ble_eq_true rfl) (fun x hB hno => ?_)
  refine V_run hB (rt := some .int) (nL := 1) (mc := 0) rfl rfl rfl obX11_save_0 ?_
  dsimp only [bX11_save_0, ↓wpb, ↓wp1, ↓vI, ↓vL, ↓vD, ↓ldI, ↓ldL, ↓ldD, ↓ldR, ↓k1, ↓k2, ↓kI, ↓kL, ↓kD, ↓kII, ↓kLL, ↓kDD, ↓kR, ↓kIR, ↓kLR, ↓kIIR, ↓kLIR, ↓kDIR, ↓kRIR, ↓kNN, ↓kE, ↓br, ↓bn, ↓rtI, ↓gfv, ↓zchk, lput, ldel, lbad, alA, acat, isRf, dom, dS, dJ, isO, aTy, aLen, elAV, elR, Nat.reduceBEq, Nat.reduceAdd, Bool.or, Bool.and, Nat.add_zero, Nat.zero_add]
  try simp only [Nat.reduceLT, Nat.reduceLeDiff, Nat.reduceEqDiff, true_and, and_true, and_self, Nat.zero_le, Nat.le_refl, true_or, or_true, Bool.false_eq_true, not_false_eq_true, Nat.reduceAdd, Nat.lt_add_one, Nat.zero_lt_one, nI_add, pk_mul, ixL, vpL, ne_eq, reduceIte, wI_sA, sA_same, sA_ne, sA_sA, sA_comm, uI_at, uN_at, enc_at, uI_enc, uI_uI, itn1, itn2, itn3, itn4, itc, itc0, itc1, upM_s, upM_n]
  refine V_cSv hB hno (q_lays hc _ 33 31 rfl rfl rfl rfl rfl rfl rfl rfl rfl rfl (by decide)) rfl (by decide +kernel) csX11_53 npX11_lays ⟨by decide, by decide⟩ (Nat.le_of_ble_eq_true rfl) (n' := 0) (by decide) rfl ?_
  refine V_run hB (rt := some .int) (nL := 1) (mc := 0) rfl rfl rfl obX11_save_16 ?_
  dsimp only [bX11_save_16, ↓wpb, ↓wp1, ↓vI, ↓vL, ↓vD, ↓ldI, ↓ldL, ↓ldD, ↓ldR, ↓k1, ↓k2, ↓kI, ↓kL, ↓kD, ↓kII, ↓kLL, ↓kDD, ↓kR, ↓kIR, ↓kLR, ↓kIIR, ↓kLIR, ↓kDIR, ↓kRIR, ↓kNN, ↓kE, ↓br, ↓bn, ↓rtI, ↓gfv, ↓zchk, lput, ldel, lbad, alA, acat, isRf, dom, dS, dJ, isO, aTy, aLen, elAV, elR, Nat.reduceBEq, Nat.reduceAdd, Bool.or, Bool.and, Nat.add_zero, Nat.zero_add]
  try simp only [Nat.reduceLT, Nat.reduceLeDiff, Nat.reduceEqDiff, true_and, and_true, and_self, Nat.zero_le, Nat.le_refl, true_or, or_true, Bool.false_eq_true, not_false_eq_true, Nat.reduceAdd, Nat.lt_add_one, Nat.zero_lt_one, nI_add, pk_mul, ixL, vpL, ne_eq, reduceIte, wI_sA, sA_same, sA_ne, sA_sA, sA_comm, uI_at, uN_at, enc_at, uI_enc, uI_uI, itn1, itn2, itn3, itn4, itc, itc0, itc1, upM_s, upM_n, hv]
  refine ⟨Or.inr rfl, rfl, ⟨?_, ?_, g3, ?_, ?_, ?_, ?_⟩, (by repeat' (first | exact Oth.refl _ | (refine Oth.sA ?_ _ ?_ ?_) | decide))⟩
  · simp only [sA_same, sA_ne, ne_eq, Nat.reduceEqDiff, not_false_eq_true, not_true_eq_false]; exact hv
  · simp only [sA_same, sA_ne, ne_eq, Nat.reduceEqDiff, not_false_eq_true, not_true_eq_false]; rfl
  · simp only [sA_same, sA_ne, ne_eq, Nat.reduceEqDiff, not_false_eq_true, not_true_eq_false]
    exact ⟨g4.1, g4.2.1, g4.2.2.1, rfl, g4.2.2.2.2.1, g4.2.2.2.2.2⟩
  · simp only [sA_same, sA_ne, ne_eq, Nat.reduceEqDiff, not_false_eq_true, not_true_eq_false]; exact g5
  · intro s hs k hk
    cases hs
    simp only [sA_same, sA_ne, ne_eq, Nat.reduceEqDiff, not_false_eq_true, not_true_eq_false]
    unfold cpR
    rw [if_pos hk, sA_ne (by decide), hv]
    rfl
  · simp only [sA_same, sA_ne, ne_eq, Nat.reduceEqDiff, not_false_eq_true, not_true_eq_false]
    exact g7
theorem q_restore (hc : Ctx l G) (h : MW τ c0 σ) (hZ : Zr σ.1) (hZ2 : ∀ s, σ.2.2.1 = some s → Zr s) : Sat l G iX11_restore [mM] τ (Ans τ (sRes σ)) := by
  have hf := h.2.2.2.1.2.2.2.1
  refine Sat_of hc.1 hc.2 (by decide +kernel) (Nat.le_of_ble_eq_true rfl) (fun x hB hno => ?_)
  cases hs : σ.2.2.1 with
  | none =>
    rw [hs] at hf
    have hf : τ.1 (30, 0, 0) 4 = nI 0 := hf
    have e : sRes σ = (1, 0, σ) := by unfold sRes; rw [hs]
    rw [e] at hB
    refine V_run hB (rt := some .int) (nL := 1) (mc := 0) rfl rfl rfl obX11_restore_0 ?_
    dsimp only [bX11_restore_0, ↓wpb, ↓wp1, ↓vI, ↓vL, ↓vD, ↓ldI, ↓ldL, ↓ldD, ↓ldR, ↓k1, ↓k2, ↓kI, ↓kL, ↓kD, ↓kII, ↓kLL, ↓kDD, ↓kR, ↓kIR, ↓kLR, ↓kIIR, ↓kLIR, ↓kDIR, ↓kRIR, ↓kNN, ↓kE, ↓br, ↓bn, ↓rtI, ↓gfv, ↓zchk, lput, ldel, lbad, alA, acat, isRf, dom, dS, dJ, isO, aTy, aLen, elAV, elR, Nat.reduceBEq, Nat.reduceAdd, Bool.or, Bool.and, Nat.add_zero, Nat.zero_add]
    try simp only [Nat.reduceLT, Nat.reduceLeDiff, Nat.reduceEqDiff, true_and, and_true, and_self, Nat.zero_le, Nat.le_refl, true_or, or_true, Bool.false_eq_true, not_false_eq_true, Nat.reduceAdd, Nat.lt_add_one, Nat.zero_lt_one, nI_add, pk_mul, ixL, vpL, ne_eq, reduceIte, wI_sA, sA_same, sA_ne, sA_sA, sA_comm, uI_at, uN_at, enc_at, uI_enc, uI_uI, itn1, itn2, itn3, itn4, itc, itc0, itc1, upM_s, upM_n, hf]
    refine ⟨fun _ => ?_, fun h => absurd rfl h⟩
    refine V_run hB (rt := some .int) (nL := 1) (mc := 0) rfl rfl rfl obX11_restore_12 ?_
    dsimp only [bX11_restore_12, ↓wpb, ↓wp1, ↓vI, ↓vL, ↓vD, ↓ldI, ↓ldL, ↓ldD, ↓ldR, ↓k1, ↓k2, ↓kI, ↓kL, ↓kD, ↓kII, ↓kLL, ↓kDD, ↓kR, ↓kIR, ↓kLR, ↓kIIR, ↓kLIR, ↓kDIR, ↓kRIR, ↓kNN, ↓kE, ↓br, ↓bn, ↓rtI, ↓gfv, ↓zchk, lput, ldel, lbad, alA, acat, isRf, dom, dS, dJ, isO, aTy, aLen, elAV, elR, Nat.reduceBEq, Nat.reduceAdd, Bool.or, Bool.and, Nat.add_zero, Nat.zero_add]
    try simp only [Nat.reduceLT, Nat.reduceLeDiff, Nat.reduceEqDiff, true_and, and_true, and_self, Nat.zero_le, Nat.le_refl, true_or, or_true, Bool.false_eq_true, not_false_eq_true, Nat.reduceAdd, Nat.lt_add_one, Nat.zero_lt_one, nI_add, pk_mul, ixL, vpL, ne_eq, reduceIte, wI_sA, sA_same, sA_ne, sA_sA, sA_comm, uI_at, uN_at, enc_at, uI_enc, uI_uI, itn1, itn2, itn3, itn4, itc, itc0, itc1, upM_s, upM_n]
    refine ⟨fun h => absurd h (by decide), fun _ => ?_⟩
    exact Ans_t h
  | some s =>
    rw [hs] at hf
    have hf : τ.1 (30, 0, 0) 4 = nI 1 := hf
    have e : sRes σ = (0, s 0, (s, [], σ.2.2)) := by unfold sRes; rw [hs]
    rw [e] at hB
    refine V_run hB (rt := some .int) (nL := 1) (mc := 0) rfl rfl rfl obX11_restore_0 ?_
    dsimp only [bX11_restore_0, ↓wpb, ↓wp1, ↓vI, ↓vL, ↓vD, ↓ldI, ↓ldL, ↓ldD, ↓ldR, ↓k1, ↓k2, ↓kI, ↓kL, ↓kD, ↓kII, ↓kLL, ↓kDD, ↓kR, ↓kIR, ↓kLR, ↓kIIR, ↓kLIR, ↓kDIR, ↓kRIR, ↓kNN, ↓kE, ↓br, ↓bn, ↓rtI, ↓gfv, ↓zchk, lput, ldel, lbad, alA, acat, isRf, dom, dS, dJ, isO, aTy, aLen, elAV, elR, Nat.reduceBEq, Nat.reduceAdd, Bool.or, Bool.and, Nat.add_zero, Nat.zero_add]
    try simp only [Nat.reduceLT, Nat.reduceLeDiff, Nat.reduceEqDiff, true_and, and_true, and_self, Nat.zero_le, Nat.le_refl, true_or, or_true, Bool.false_eq_true, not_false_eq_true, Nat.reduceAdd, Nat.lt_add_one, Nat.zero_lt_one, nI_add, pk_mul, ixL, vpL, ne_eq, reduceIte, wI_sA, sA_same, sA_ne, sA_sA, sA_comm, uI_at, uN_at, enc_at, uI_enc, uI_uI, itn1, itn2, itn3, itn4, itc, itc0, itc1, upM_s, upM_n, hf]
    refine ⟨fun h => absurd h (by decide), fun _ => ?_⟩
    refine V_run hB (rt := some .int) (nL := 1) (mc := 0) rfl rfl rfl obX11_restore_13 ?_
    dsimp only [bX11_restore_13, ↓wpb, ↓wp1, ↓vI, ↓vL, ↓vD, ↓ldI, ↓ldL, ↓ldD, ↓ldR, ↓k1, ↓k2, ↓kI, ↓kL, ↓kD, ↓kII, ↓kLL, ↓kDD, ↓kR, ↓kIR, ↓kLR, ↓kIIR, ↓kLIR, ↓kDIR, ↓kRIR, ↓kNN, ↓kE, ↓br, ↓bn, ↓rtI, ↓gfv, ↓zchk, lput, ldel, lbad, alA, acat, isRf, dom, dS, dJ, isO, aTy, aLen, elAV, elR, Nat.reduceBEq, Nat.reduceAdd, Bool.or, Bool.and, Nat.add_zero, Nat.zero_add]
    try simp only [Nat.reduceLT, Nat.reduceLeDiff, Nat.reduceEqDiff, true_and, and_true, and_self, Nat.zero_le, Nat.le_refl, true_or, or_true, Bool.false_eq_true, not_false_eq_true, Nat.reduceAdd, Nat.lt_add_one, Nat.zero_lt_one, nI_add, pk_mul, ixL, vpL, ne_eq, reduceIte, wI_sA, sA_same, sA_ne, sA_sA, sA_comm, uI_at, uN_at, enc_at, uI_enc, uI_uI, itn1, itn2, itn3, itn4, itc, itc0, itc1, upM_s, upM_n]
    refine ⟨fun _ => ?_, fun h => absurd rfl h⟩
    refine V_run hB (rt := some .int) (nL := 1) (mc := 0) rfl rfl rfl obX11_restore_25 ?_
    dsimp only [bX11_restore_25, ↓wpb, ↓wp1, ↓vI, ↓vL, ↓vD, ↓ldI, ↓ldL, ↓ldD, ↓ldR, ↓k1, ↓k2, ↓kI, ↓kL, ↓kD, ↓kII, ↓kLL, ↓kDD, ↓kR, ↓kIR, ↓kLR, ↓kIIR, ↓kLIR, ↓kDIR, ↓kRIR, ↓kNN, ↓kE, ↓br, ↓bn, ↓rtI, ↓gfv, ↓zchk, lput, ldel, lbad, alA, acat, isRf, dom, dS, dJ, isO, aTy, aLen, elAV, elR, Nat.reduceBEq, Nat.reduceAdd, Bool.or, Bool.and, Nat.add_zero, Nat.zero_add]
    try simp only [Nat.reduceLT, Nat.reduceLeDiff, Nat.reduceEqDiff, true_and, and_true, and_self, Nat.zero_le, Nat.le_refl, true_or, or_true, Bool.false_eq_true, not_false_eq_true, Nat.reduceAdd, Nat.lt_add_one, Nat.zero_lt_one, nI_add, pk_mul, ixL, vpL, ne_eq, reduceIte, wI_sA, sA_same, sA_ne, sA_sA, sA_comm, uI_at, uN_at, enc_at, uI_enc, uI_uI, itn1, itn2, itn3, itn4, itc, itc0, itc1, upM_s, upM_n]
    refine V_cSv hB hno (q_lays hc _ 31 33 rfl rfl rfl rfl rfl rfl rfl rfl rfl rfl (by decide)) rfl (by decide +kernel) csX11_53 npX11_lays ⟨by decide, by decide⟩ (Nat.le_of_ble_eq_true rfl) (n' := 0) (by decide) rfl ?_
    refine V_run hB (rt := some .int) (nL := 1) (mc := 0) rfl rfl rfl obX11_restore_36 ?_
    dsimp only [bX11_restore_36, ↓wpb, ↓wp1, ↓vI, ↓vL, ↓vD, ↓ldI, ↓ldL, ↓ldD, ↓ldR, ↓k1, ↓k2, ↓kI, ↓kL, ↓kD, ↓kII, ↓kLL, ↓kDD, ↓kR, ↓kIR, ↓kLR, ↓kIIR, ↓kLIR, ↓kDIR, ↓kRIR, ↓kNN, ↓kE, ↓br, ↓bn, ↓rtI, ↓gfv, ↓zchk, lput, ldel, lbad, alA, acat, isRf, dom, dS, dJ, isO, aTy, aLen, elAV, elR, Nat.reduceBEq, Nat.reduceAdd, Bool.or, Bool.and, Nat.add_zero, Nat.zero_add]
    try simp only [Nat.reduceLT, Nat.reduceLeDiff, Nat.reduceEqDiff, true_and, and_true, and_self, Nat.zero_le, Nat.le_refl, true_or, or_true, Bool.false_eq_true, not_false_eq_true, Nat.reduceAdd, Nat.lt_add_one, Nat.zero_lt_one, nI_add, pk_mul, ixL, vpL, ne_eq, reduceIte, wI_sA, sA_same, sA_ne, sA_sA, sA_comm, uI_at, uN_at, enc_at, uI_enc, uI_uI, itn1, itn2, itn3, itn4, itc, itc0, itc1, upM_s, upM_n]
    obtain ⟨g1, g2, g3, g4, g5, g6, g7⟩ := h
    have ev : ∀ k, cpR (sA τ 30 (uI (τ.1 (30, 0, 0)) 0 (nI 0))) 31 33 k = nI (s k) := by
      intro k
      unfold cpR
      rw [sA_ne (by decide), sA_ne (by decide)]
      by_cases hk : k < 136
      · rw [if_pos hk]; exact g6 s hs k hk
      · rw [if_neg hk, g1]
        show nI (σ.1 k) = _
        rw [hZ k (by omega), hZ2 s hs k (by omega)]
    rw [ev 0]
    refine ⟨rfl, ⟨?_, ?_, ⟨Nat.zero_le _, g3.2⟩, ?_, ?_, ?_, ?_⟩, (((Oth.refl _).sA _ (by decide) (by decide)).sA _ (by decide) (by decide)).sA _ (by decide) (by decide)⟩
    · rw [sA_ne (by decide), sA_same]; funext k; exact ev k
    · rw [sA_same]; rfl
    · rw [sA_same]
      exact ⟨rfl, g4.2⟩
    · intro j b hb; cases hb
    · intro s' hs' k hk
      rw [sA_ne (by decide), sA_ne (by decide), sA_ne (by decide)]
      exact g6 s' hs' k hk
    · rw [sA_ne (by decide), sA_ne (by decide), sA_ne (by decide), sA_ne (by decide), sA_ne (by decide), sA_ne (by decide), sA_ne (by decide), sA_ne (by decide), sA_ne (by decide), sA_ne (by decide), sA_ne (by decide), sA_ne (by decide)]
      exact g7
theorem q_undo (hc : Ctx l G) (h : MW τ c0 σ) (hZ : Zr σ.1) (hZ2 : ∀ b ∈ σ.2.1, Zr b) : Sat l G iX11_undo [mM] τ (Ans τ (sUnd σ)) := by
  have hf := h.2.2.2.1.1
  refine Sat_of hc.1 hc.2 (by decide +kernel) (Nat.le_of_ble_eq_true rfl) (fun x hB hno => ?_)
  cases hs : σ.2.1 with
  | nil =>
    rw [hs] at hf
    have hf : τ.1 (30, 0, 0) 1 = nI 0 := hf
    have e : sUnd σ = (1, 0, σ) := by unfold sUnd; rw [hs]
    rw [e] at hB
    refine V_run hB (rt := some .int) (nL := 2) (mc := 0) rfl rfl rfl obX11_undo_0 ?_
    dsimp only [bX11_undo_0, ↓wpb, ↓wp1, ↓vI, ↓vL, ↓vD, ↓ldI, ↓ldL, ↓ldD, ↓ldR, ↓k1, ↓k2, ↓kI, ↓kL, ↓kD, ↓kII, ↓kLL, ↓kDD, ↓kR, ↓kIR, ↓kLR, ↓kIIR, ↓kLIR, ↓kDIR, ↓kRIR, ↓kNN, ↓kE, ↓br, ↓bn, ↓rtI, ↓gfv, ↓zchk, lput, ldel, lbad, alA, acat, isRf, dom, dS, dJ, isO, aTy, aLen, elAV, elR, Nat.reduceBEq, Nat.reduceAdd, Bool.or, Bool.and, Nat.add_zero, Nat.zero_add]
    try simp only [Nat.reduceLT, Nat.reduceLeDiff, Nat.reduceEqDiff, true_and, and_true, and_self, Nat.zero_le, Nat.le_refl, true_or, or_true, Bool.false_eq_true, not_false_eq_true, Nat.reduceAdd, Nat.lt_add_one, Nat.zero_lt_one, nI_add, pk_mul, ixL, vpL, ne_eq, reduceIte, wI_sA, sA_same, sA_ne, sA_sA, sA_comm, uI_at, uN_at, enc_at, uI_enc, uI_uI, itn1, itn2, itn3, itn4, itc, itc0, itc1, upM_s, upM_n, hf]
    refine ⟨fun h => absurd rfl h, fun _ => ?_⟩
    refine V_run hB (rt := some .int) (nL := 2) (mc := 0) rfl rfl rfl obX11_undo_13 ?_
    dsimp only [bX11_undo_13, ↓wpb, ↓wp1, ↓vI, ↓vL, ↓vD, ↓ldI, ↓ldL, ↓ldD, ↓ldR, ↓k1, ↓k2, ↓kI, ↓kL, ↓kD, ↓kII, ↓kLL, ↓kDD, ↓kR, ↓kIR, ↓kLR, ↓kIIR, ↓kLIR, ↓kDIR, ↓kRIR, ↓kNN, ↓kE, ↓br, ↓bn, ↓rtI, ↓gfv, ↓zchk, lput, ldel, lbad, alA, acat, isRf, dom, dS, dJ, isO, aTy, aLen, elAV, elR, Nat.reduceBEq, Nat.reduceAdd, Bool.or, Bool.and, Nat.add_zero, Nat.zero_add]
    try simp only [Nat.reduceLT, Nat.reduceLeDiff, Nat.reduceEqDiff, true_and, and_true, and_self, Nat.zero_le, Nat.le_refl, true_or, or_true, Bool.false_eq_true, not_false_eq_true, Nat.reduceAdd, Nat.lt_add_one, Nat.zero_lt_one, nI_add, pk_mul, ixL, vpL, ne_eq, reduceIte, wI_sA, sA_same, sA_ne, sA_sA, sA_comm, uI_at, uN_at, enc_at, uI_enc, uI_uI, itn1, itn2, itn3, itn4, itc, itc0, itc1, upM_s, upM_n]
    refine ⟨fun h => absurd h (by decide), fun _ => ?_⟩
    exact Ans_t h
  | cons b t =>
    rw [hs] at hf
    have hf : τ.1 (30, 0, 0) 1 = nI (t.length + 1) := hf
    have e : sUnd σ = (0, t.length, (b, t, σ.2.2)) := by unfold sUnd; rw [hs]
    rw [e] at hB
    obtain ⟨g1, g2, g3, g4, g5, g6, g7⟩ := h
    have h8 : t.length + 1 ≤ 8 := by have := g3.1; rw [hs] at this; exact this
    have hsub : nI (t.length + 1) - nI 1 = nI t.length := by rw [pk_sub (by omega)]; rfl
    have row : ∀ k, k < 136 → τ.1 (34, 0, 0) (t.length * 136 + k) = nI (b k) := by
      intro k hk
      have := g5 0 b (by rw [hs]; rfl) k hk
      rw [hs] at this
      rw [← this]
      exact congrArg _ (by simp only [List.length_cons]; omega)
    have h37 : ∀ w k, k + w = 136 → V x (sA (sA τ 30 (uI (uI (τ.1 (30, 0, 0)) 0 (nI 0)) 1 (nI t.length))) 31 (fun i => if i < k then nI (b i) else nI (σ.1 i))) 0 37 [(0, mM), (1, aI (nI k))] [] := by
      intro w
      induction w with
      | zero =>
        intro k hk
        have hk : k = 136 := by omega
        subst hk
        refine V_run hB (rt := some .int) (nL := 2) (mc := 0) rfl rfl rfl obX11_undo_37 ?_
        dsimp only [bX11_undo_37, ↓wpb, ↓wp1, ↓vI, ↓vL, ↓vD, ↓ldI, ↓ldL, ↓ldD, ↓ldR, ↓k1, ↓k2, ↓kI, ↓kL, ↓kD, ↓kII, ↓kLL, ↓kDD, ↓kR, ↓kIR, ↓kLR, ↓kIIR, ↓kLIR, ↓kDIR, ↓kRIR, ↓kNN, ↓kE, ↓br, ↓bn, ↓rtI, ↓gfv, ↓zchk, lput, ldel, lbad, alA, acat, isRf, dom, dS, dJ, isO, aTy, aLen, elAV, elR, Nat.reduceBEq, Nat.reduceAdd, Bool.or, Bool.and, Nat.add_zero, Nat.zero_add]
        try simp only [Nat.reduceLT, Nat.reduceLeDiff, Nat.reduceEqDiff, true_and, and_true, and_self, Nat.zero_le, Nat.le_refl, true_or, or_true, Bool.false_eq_true, not_false_eq_true, Nat.reduceAdd, Nat.lt_add_one, Nat.zero_lt_one, nI_add, pk_mul, ixL, vpL, ne_eq, reduceIte, wI_sA, sA_same, sA_ne, sA_sA, sA_comm, uI_at, uN_at, enc_at, uI_enc, uI_uI, itn1, itn2, itn3, itn4, itc, itc0, itc1, upM_s, upM_n]
        refine ⟨fun _ => ?_, fun h => absurd (nI_le (by omega) (by omega)) h⟩
        refine V_run hB (rt := some .int) (nL := 2) (mc := 0) rfl rfl rfl obX11_undo_71 ?_
        dsimp only [bX11_undo_71, ↓wpb, ↓wp1, ↓vI, ↓vL, ↓vD, ↓ldI, ↓ldL, ↓ldD, ↓ldR, ↓k1, ↓k2, ↓kI, ↓kL, ↓kD, ↓kII, ↓kLL, ↓kDD, ↓kR, ↓kIR, ↓kLR, ↓kIIR, ↓kLIR, ↓kDIR, ↓kRIR, ↓kNN, ↓kE, ↓br, ↓bn, ↓rtI, ↓gfv, ↓zchk, lput, ldel, lbad, alA, acat, isRf, dom, dS, dJ, isO, aTy, aLen, elAV, elR, Nat.reduceBEq, Nat.reduceAdd, Bool.or, Bool.and, Nat.add_zero, Nat.zero_add]
        try simp only [Nat.reduceLT, Nat.reduceLeDiff, Nat.reduceEqDiff, true_and, and_true, and_self, Nat.zero_le, Nat.le_refl, true_or, or_true, Bool.false_eq_true, not_false_eq_true, Nat.reduceAdd, Nat.lt_add_one, Nat.zero_lt_one, nI_add, pk_mul, ixL, vpL, ne_eq, reduceIte, wI_sA, sA_same, sA_ne, sA_sA, sA_comm, uI_at, uN_at, enc_at, uI_enc, uI_uI, itn1, itn2, itn3, itn4, itc, itc0, itc1, upM_s, upM_n]
        refine ⟨rfl, ⟨?_, ?_, ⟨(by show t.length ≤ 8; omega), g3.2⟩, ?_, ?_, ?_, ?_⟩, ((Oth.refl _).sA _ (by decide) (by decide)).sA _ (by decide) (by decide)⟩
        · rw [sA_same]
          funext i
          by_cases hi : i < 136
          · rw [if_pos hi]; rfl
          · rw [if_neg hi, hZ i (by omega)]
            show _ = nI (b i)
            rw [hZ2 b (by rw [hs]; exact List.mem_cons_self) i (by omega)]
        · rw [sA_ne (by decide), sA_same]; rfl
        · rw [sA_ne (by decide), sA_same]; exact ⟨rfl, g4.2⟩
        · rw [sA_ne (by decide), sA_ne (by decide)]
          intro j b' hb' k hk
          have hj : j < t.length := (List.getElem?_eq_some_iff.mp hb').1
          have := g5 (j + 1) b' (by rw [hs]; exact hb') k hk
          rw [hs] at this
          rw [← this]
          show τ.1 (34, 0, 0) (136 * (t.length - 1 - j) + k) = _
          exact congrArg _ (by simp only [List.length_cons]; omega)
        · intro s' hs' k hk
          rw [sA_ne (by decide), sA_ne (by decide)]
          exact g6 s' hs' k hk
        · rw [sA_ne (by decide), sA_ne (by decide), sA_ne (by decide), sA_ne (by decide), sA_ne (by decide), sA_ne (by decide), sA_ne (by decide), sA_ne (by decide)]
          exact g7
      | succ w ih =>
        intro k hk
        have ix : (nI k).toNatClampNeg = k := ixL (by omega)
        have vx : vp_in (nI k) 136 = True := vpL (by omega) (by omega)
        have ix2 : (nI (t.length * 136 + k)).toNatClampNeg = t.length * 136 + k := ixL (by omega)
        have vx2 : vp_in (nI (t.length * 136 + k)) 1088 = True := vpL (by omega) (by omega)
        refine V_run hB (rt := some .int) (nL := 2) (mc := 0) rfl rfl rfl obX11_undo_37 ?_
        dsimp only [bX11_undo_37, ↓wpb, ↓wp1, ↓vI, ↓vL, ↓vD, ↓ldI, ↓ldL, ↓ldD, ↓ldR, ↓k1, ↓k2, ↓kI, ↓kL, ↓kD, ↓kII, ↓kLL, ↓kDD, ↓kR, ↓kIR, ↓kLR, ↓kIIR, ↓kLIR, ↓kDIR, ↓kRIR, ↓kNN, ↓kE, ↓br, ↓bn, ↓rtI, ↓gfv, ↓zchk, lput, ldel, lbad, alA, acat, isRf, dom, dS, dJ, isO, aTy, aLen, elAV, elR, Nat.reduceBEq, Nat.reduceAdd, Bool.or, Bool.and, Nat.add_zero, Nat.zero_add]
        try simp only [Nat.reduceLT, Nat.reduceLeDiff, Nat.reduceEqDiff, true_and, and_true, and_self, Nat.zero_le, Nat.le_refl, true_or, or_true, Bool.false_eq_true, not_false_eq_true, Nat.reduceAdd, Nat.lt_add_one, Nat.zero_lt_one, nI_add, pk_mul, ixL, vpL, ne_eq, reduceIte, wI_sA, sA_same, sA_ne, sA_sA, sA_comm, uI_at, uN_at, enc_at, uI_enc, uI_uI, itn1, itn2, itn3, itn4, itc, itc0, itc1, upM_s, upM_n, ix, vx, ix2, vx2, row k (show k < 136 by omega)]
        refine ⟨fun h => absurd h (nI_ge (by omega) (by omega)), fun _ => ?_⟩
        have e : uI (fun i => if i < k then nI (b i) else nI (σ.1 i)) k (nI (b k)) = fun i => if i < k + 1 then nI (b i) else nI (σ.1 i) := by
          funext i
          simp only [uI]
          by_cases hi : i = k
          · subst hi; rw [if_pos rfl, if_pos (by omega)]
          · rw [if_neg hi]
            by_cases h6 : i < k
            · rw [if_pos h6, if_pos (by omega)]
            · rw [if_neg h6, if_neg (by omega)]
        rw [e]
        exact ih (k + 1) (by omega)
    refine V_run hB (rt := some .int) (nL := 2) (mc := 0) rfl rfl rfl obX11_undo_0 ?_
    dsimp only [bX11_undo_0, ↓wpb, ↓wp1, ↓vI, ↓vL, ↓vD, ↓ldI, ↓ldL, ↓ldD, ↓ldR, ↓k1, ↓k2, ↓kI, ↓kL, ↓kD, ↓kII, ↓kLL, ↓kDD, ↓kR, ↓kIR, ↓kLR, ↓kIIR, ↓kLIR, ↓kDIR, ↓kRIR, ↓kNN, ↓kE, ↓br, ↓bn, ↓rtI, ↓gfv, ↓zchk, lput, ldel, lbad, alA, acat, isRf, dom, dS, dJ, isO, aTy, aLen, elAV, elR, Nat.reduceBEq, Nat.reduceAdd, Bool.or, Bool.and, Nat.add_zero, Nat.zero_add]
    try simp only [Nat.reduceLT, Nat.reduceLeDiff, Nat.reduceEqDiff, true_and, and_true, and_self, Nat.zero_le, Nat.le_refl, true_or, or_true, Bool.false_eq_true, not_false_eq_true, Nat.reduceAdd, Nat.lt_add_one, Nat.zero_lt_one, nI_add, pk_mul, ixL, vpL, ne_eq, reduceIte, wI_sA, sA_same, sA_ne, sA_sA, sA_comm, uI_at, uN_at, enc_at, uI_enc, uI_uI, itn1, itn2, itn3, itn4, itc, itc0, itc1, upM_s, upM_n, hf]
    refine ⟨fun _ => ?_, fun h => absurd ((nI_eq (by omega) (by omega)).mp (show nI (t.length + 1) = nI 0 from h)) (by omega)⟩
    refine V_run hB (rt := some .int) (nL := 2) (mc := 0) rfl rfl rfl obX11_undo_12 ?_
    dsimp only [bX11_undo_12, ↓wpb, ↓wp1, ↓vI, ↓vL, ↓vD, ↓ldI, ↓ldL, ↓ldD, ↓ldR, ↓k1, ↓k2, ↓kI, ↓kL, ↓kD, ↓kII, ↓kLL, ↓kDD, ↓kR, ↓kIR, ↓kLR, ↓kIIR, ↓kLIR, ↓kDIR, ↓kRIR, ↓kNN, ↓kE, ↓br, ↓bn, ↓rtI, ↓gfv, ↓zchk, lput, ldel, lbad, alA, acat, isRf, dom, dS, dJ, isO, aTy, aLen, elAV, elR, Nat.reduceBEq, Nat.reduceAdd, Bool.or, Bool.and, Nat.add_zero, Nat.zero_add]
    try simp only [Nat.reduceLT, Nat.reduceLeDiff, Nat.reduceEqDiff, true_and, and_true, and_self, Nat.zero_le, Nat.le_refl, true_or, or_true, Bool.false_eq_true, not_false_eq_true, Nat.reduceAdd, Nat.lt_add_one, Nat.zero_lt_one, nI_add, pk_mul, ixL, vpL, ne_eq, reduceIte, wI_sA, sA_same, sA_ne, sA_sA, sA_comm, uI_at, uN_at, enc_at, uI_enc, uI_uI, itn1, itn2, itn3, itn4, itc, itc0, itc1, upM_s, upM_n]
    refine ⟨fun _ => ?_, fun h => absurd rfl h⟩
    refine V_run hB (rt := some .int) (nL := 2) (mc := 0) rfl rfl rfl obX11_undo_25 ?_
    dsimp only [bX11_undo_25, ↓wpb, ↓wp1, ↓vI, ↓vL, ↓vD, ↓ldI, ↓ldL, ↓ldD, ↓ldR, ↓k1, ↓k2, ↓kI, ↓kL, ↓kD, ↓kII, ↓kLL, ↓kDD, ↓kR, ↓kIR, ↓kLR, ↓kIIR, ↓kLIR, ↓kDIR, ↓kRIR, ↓kNN, ↓kE, ↓br, ↓bn, ↓rtI, ↓gfv, ↓zchk, lput, ldel, lbad, alA, acat, isRf, dom, dS, dJ, isO, aTy, aLen, elAV, elR, Nat.reduceBEq, Nat.reduceAdd, Bool.or, Bool.and, Nat.add_zero, Nat.zero_add]
    try simp only [Nat.reduceLT, Nat.reduceLeDiff, Nat.reduceEqDiff, true_and, and_true, and_self, Nat.zero_le, Nat.le_refl, true_or, or_true, Bool.false_eq_true, not_false_eq_true, Nat.reduceAdd, Nat.lt_add_one, Nat.zero_lt_one, nI_add, pk_mul, ixL, vpL, ne_eq, reduceIte, wI_sA, sA_same, sA_ne, sA_sA, sA_comm, uI_at, uN_at, enc_at, uI_enc, uI_uI, itn1, itn2, itn3, itn4, itc, itc0, itc1, upM_s, upM_n, hf, hsub]
    have h9 := h37 136 0 (by omega)
    rw [show (fun i => if i < 0 then nI (b i) else nI (σ.1 i)) = enc σ.1 from by funext i; rw [if_neg (by omega)]; rfl, sA_id (K := 31) (by rw [sA_ne (by decide)]; exact g1)] at h9
    exact h9
theorem q_type (hc : Ctx l G) (h : MW τ c0 σ) {c : Nat} (hcc : c < 65536) : Sat l G iX11_type [mM, aI (nI c)] τ (Ans τ (sTyp σ c)) := by
  have hf := h.2.2.2.1.2.2.2.2.1
  have hl := h.2.2.1.2.1
  have hin : inR (nI c) 32 126 = true ↔ 32 ≤ c ∧ c ≤ 126 := by
    unfold inR
    rw [decide_eq_true_iff, nI_leI (by omega) (by omega), nI_leI (by omega) (by omega)]
  refine Sat_of hc.1 hc.2 (by decide +kernel) (Nat.le_of_ble_eq_true rfl) (fun x hB hno => ?_)
  refine V_run hB (rt := some .int) (nL := 2) (mc := 0) rfl rfl rfl obX11_type_0 ?_
  dsimp only [bX11_type_0, ↓wpb, ↓wp1, ↓vI, ↓vL, ↓vD, ↓ldI, ↓ldL, ↓ldD, ↓ldR, ↓k1, ↓k2, ↓kI, ↓kL, ↓kD, ↓kII, ↓kLL, ↓kDD, ↓kR, ↓kIR, ↓kLR, ↓kIIR, ↓kLIR, ↓kDIR, ↓kRIR, ↓kNN, ↓kE, ↓br, ↓bn, ↓rtI, ↓gfv, ↓zchk, lput, ldel, lbad, alA, acat, isRf, dom, dS, dJ, isO, aTy, aLen, elAV, elR, Nat.reduceBEq, Nat.reduceAdd, Bool.or, Bool.and, Nat.add_zero, Nat.zero_add]
  try simp only [Nat.reduceLT, Nat.reduceLeDiff, Nat.reduceEqDiff, true_and, and_true, and_self, Nat.zero_le, Nat.le_refl, true_or, or_true, Bool.false_eq_true, not_false_eq_true, Nat.reduceAdd, Nat.lt_add_one, Nat.zero_lt_one, nI_add, pk_mul, ixL, vpL, ne_eq, reduceIte, wI_sA, sA_same, sA_ne, sA_sA, sA_comm, uI_at, uN_at, enc_at, uI_enc, uI_uI, itn1, itn2, itn3, itn4, itc, itc0, itc1, upM_s, upM_n]
  refine V_cS hB hno (q_isInN hc _ _ _ _) rfl (by decide +kernel) csX11_72 npX11_isIn ⟨by decide, by decide⟩ (Nat.le_of_ble_eq_true rfl) (n' := 0) (by decide) rfl ?_
  by_cases hw : inR (nI c) 32 126 = true
  · have hr := hin.mp hw
    refine V_run hB (rt := some .int) (nL := 2) (mc := 0) rfl rfl rfl obX11_type_9 ?_
    dsimp only [bX11_type_9, ↓wpb, ↓wp1, ↓vI, ↓vL, ↓vD, ↓ldI, ↓ldL, ↓ldD, ↓ldR, ↓k1, ↓k2, ↓kI, ↓kL, ↓kD, ↓kII, ↓kLL, ↓kDD, ↓kR, ↓kIR, ↓kLR, ↓kIIR, ↓kLIR, ↓kDIR, ↓kRIR, ↓kNN, ↓kE, ↓br, ↓bn, ↓rtI, ↓gfv, ↓zchk, lput, ldel, lbad, alA, acat, isRf, dom, dS, dJ, isO, aTy, aLen, elAV, elR, Nat.reduceBEq, Nat.reduceAdd, Bool.or, Bool.and, Nat.add_zero, Nat.zero_add]
    try simp only [Nat.reduceLT, Nat.reduceLeDiff, Nat.reduceEqDiff, true_and, and_true, and_self, Nat.zero_le, Nat.le_refl, true_or, or_true, Bool.false_eq_true, not_false_eq_true, Nat.reduceAdd, Nat.lt_add_one, Nat.zero_lt_one, nI_add, pk_mul, ixL, vpL, ne_eq, reduceIte, wI_sA, sA_same, sA_ne, sA_sA, sA_comm, uI_at, uN_at, enc_at, uI_enc, uI_uI, itn1, itn2, itn3, itn4, itc, itc0, itc1, upM_s, upM_n, bN_0]
    refine ⟨fun _ => ?_, fun q => absurd q (by rw [hw]; decide)⟩
    refine V_run hB (rt := some .int) (nL := 2) (mc := 0) rfl rfl rfl obX11_type_16 ?_
    dsimp only [bX11_type_16, ↓wpb, ↓wp1, ↓vI, ↓vL, ↓vD, ↓ldI, ↓ldL, ↓ldD, ↓ldR, ↓k1, ↓k2, ↓kI, ↓kL, ↓kD, ↓kII, ↓kLL, ↓kDD, ↓kR, ↓kIR, ↓kLR, ↓kIIR, ↓kLIR, ↓kDIR, ↓kRIR, ↓kNN, ↓kE, ↓br, ↓bn, ↓rtI, ↓gfv, ↓zchk, lput, ldel, lbad, alA, acat, isRf, dom, dS, dJ, isO, aTy, aLen, elAV, elR, Nat.reduceBEq, Nat.reduceAdd, Bool.or, Bool.and, Nat.add_zero, Nat.zero_add]
    try simp only [Nat.reduceLT, Nat.reduceLeDiff, Nat.reduceEqDiff, true_and, and_true, and_self, Nat.zero_le, Nat.le_refl, true_or, or_true, Bool.false_eq_true, not_false_eq_true, Nat.reduceAdd, Nat.lt_add_one, Nat.zero_lt_one, nI_add, pk_mul, ixL, vpL, ne_eq, reduceIte, wI_sA, sA_same, sA_ne, sA_sA, sA_comm, uI_at, uN_at, enc_at, uI_enc, uI_uI, itn1, itn2, itn3, itn4, itc, itc0, itc1, upM_s, upM_n, hf]
    refine ⟨fun h6 => ?_, fun h6 => ?_⟩
    · have h6 : σ.2.2.2.2.1.length ≠ 60 := fun q => h6 (by rw [q])
      have e : sTyp σ c = (0, σ.2.2.2.2.1.length + 1, (σ.1, σ.2.1, σ.2.2.1, σ.2.2.2.1, σ.2.2.2.2.1 ++ [c], σ.2.2.2.2.2)) := by unfold sTyp; rw [if_pos hr, if_neg h6]
      rw [e] at hB
      have ix : (nI σ.2.2.2.2.1.length).toNatClampNeg = σ.2.2.2.2.1.length := ixL (by omega)
      have vx : vp_in (nI σ.2.2.2.2.1.length) 60 = True := vpL (by omega) (by omega)
      refine V_run hB (rt := some .int) (nL := 2) (mc := 0) rfl rfl rfl obX11_type_29 ?_
      dsimp only [bX11_type_29, ↓wpb, ↓wp1, ↓vI, ↓vL, ↓vD, ↓ldI, ↓ldL, ↓ldD, ↓ldR, ↓k1, ↓k2, ↓kI, ↓kL, ↓kD, ↓kII, ↓kLL, ↓kDD, ↓kR, ↓kIR, ↓kLR, ↓kIIR, ↓kLIR, ↓kDIR, ↓kRIR, ↓kNN, ↓kE, ↓br, ↓bn, ↓rtI, ↓gfv, ↓zchk, lput, ldel, lbad, alA, acat, isRf, dom, dS, dJ, isO, aTy, aLen, elAV, elR, Nat.reduceBEq, Nat.reduceAdd, Bool.or, Bool.and, Nat.add_zero, Nat.zero_add]
      try simp only [Nat.reduceLT, Nat.reduceLeDiff, Nat.reduceEqDiff, true_and, and_true, and_self, Nat.zero_le, Nat.le_refl, true_or, or_true, Bool.false_eq_true, not_false_eq_true, Nat.reduceAdd, Nat.lt_add_one, Nat.zero_lt_one, nI_add, pk_mul, ixL, vpL, ne_eq, reduceIte, wI_sA, sA_same, sA_ne, sA_sA, sA_comm, uI_at, uN_at, enc_at, uI_enc, uI_uI, itn1, itn2, itn3, itn4, itc, itc0, itc1, upM_s, upM_n]
      refine ⟨fun _ => ?_, fun h => absurd rfl h⟩
      refine V_run hB (rt := some .int) (nL := 2) (mc := 0) rfl rfl rfl obX11_type_42 ?_
      dsimp only [bX11_type_42, ↓wpb, ↓wp1, ↓vI, ↓vL, ↓vD, ↓ldI, ↓ldL, ↓ldD, ↓ldR, ↓k1, ↓k2, ↓kI, ↓kL, ↓kD, ↓kII, ↓kLL, ↓kDD, ↓kR, ↓kIR, ↓kLR, ↓kIIR, ↓kLIR, ↓kDIR, ↓kRIR, ↓kNN, ↓kE, ↓br, ↓bn, ↓rtI, ↓gfv, ↓zchk, lput, ldel, lbad, alA, acat, isRf, dom, dS, dJ, isO, aTy, aLen, elAV, elR, Nat.reduceBEq, Nat.reduceAdd, Bool.or, Bool.and, Nat.add_zero, Nat.zero_add]
      try simp only [Nat.reduceLT, Nat.reduceLeDiff, Nat.reduceEqDiff, true_and, and_true, and_self, Nat.zero_le, Nat.le_refl, true_or, or_true, Bool.false_eq_true, not_false_eq_true, Nat.reduceAdd, Nat.lt_add_one, Nat.zero_lt_one, nI_add, pk_mul, ixL, vpL, ne_eq, reduceIte, wI_sA, sA_same, sA_ne, sA_sA, sA_comm, uI_at, uN_at, enc_at, uI_enc, uI_uI, itn1, itn2, itn3, itn4, itc, itc0, itc1, upM_s, upM_n, hf, ix, vx]
      obtain ⟨g1, g2, g3, g4, g5, g6, g7, g8, g9⟩ := h
      refine ⟨rfl, ⟨?_, ?_, ⟨g3.1, by simp only [List.length_append, List.length_cons, List.length_nil]; omega, g3.2.2⟩, ?_, ?_, ?_, ?_, ?_⟩, ((Oth.refl _).sA _ (by decide) (by decide)).sA _ (by decide) (by decide)⟩
      · rw [sA_ne (by decide), sA_ne (by decide)]; exact g1
      · rw [sA_ne (by decide), sA_same]; rfl
      · rw [sA_ne (by decide), sA_same]
        refine ⟨g4.1, g4.2.1, g4.2.2.1, g4.2.2.2.1, ?_, g4.2.2.2.2.2⟩
        show nI _ = _
        rw [List.length_append]
        rfl
      · rw [sA_ne (by decide), sA_ne (by decide)]; exact g5
      · intro s' hs' k hk
        rw [sA_ne (by decide), sA_ne (by decide)]
        exact g6 s' hs' k hk
      · rw [sA_same]
        intro j d hd
        simp only [uI]
        by_cases hj : j = σ.2.2.2.2.1.length
        · subst hj
          rw [if_pos rfl]
          rw [List.getElem?_append_right (Nat.le_refl _), Nat.sub_self] at hd
          cases hd
          rfl
        · rw [if_neg hj]
          have hjl := (List.getElem?_eq_some_iff.mp hd).1
          rw [List.length_append] at hjl
          have hjl : j < σ.2.2.2.2.1.length := by simp only [List.length_cons, List.length_nil] at hjl; omega
          rw [List.getElem?_append_left hjl] at hd
          exact g7 j d hd
      · rw [sA_ne (by decide), sA_ne (by decide), sA_ne (by decide), sA_ne (by decide), sA_ne (by decide), sA_ne (by decide)]
        exact ⟨g8, g9⟩
    · have h6 := (nI_eq (by omega) (by omega)).mp h6
      have e : sTyp σ c = (2, 0, σ) := by unfold sTyp; rw [if_pos hr, if_pos h6]
      rw [e] at hB
      refine V_run hB (rt := some .int) (nL := 2) (mc := 0) rfl rfl rfl obX11_type_30 ?_
      dsimp only [bX11_type_30, ↓wpb, ↓wp1, ↓vI, ↓vL, ↓vD, ↓ldI, ↓ldL, ↓ldD, ↓ldR, ↓k1, ↓k2, ↓kI, ↓kL, ↓kD, ↓kII, ↓kLL, ↓kDD, ↓kR, ↓kIR, ↓kLR, ↓kIIR, ↓kLIR, ↓kDIR, ↓kRIR, ↓kNN, ↓kE, ↓br, ↓bn, ↓rtI, ↓gfv, ↓zchk, lput, ldel, lbad, alA, acat, isRf, dom, dS, dJ, isO, aTy, aLen, elAV, elR, Nat.reduceBEq, Nat.reduceAdd, Bool.or, Bool.and, Nat.add_zero, Nat.zero_add]
      try simp only [Nat.reduceLT, Nat.reduceLeDiff, Nat.reduceEqDiff, true_and, and_true, and_self, Nat.zero_le, Nat.le_refl, true_or, or_true, Bool.false_eq_true, not_false_eq_true, Nat.reduceAdd, Nat.lt_add_one, Nat.zero_lt_one, nI_add, pk_mul, ixL, vpL, ne_eq, reduceIte, wI_sA, sA_same, sA_ne, sA_sA, sA_comm, uI_at, uN_at, enc_at, uI_enc, uI_uI, itn1, itn2, itn3, itn4, itc, itc0, itc1, upM_s, upM_n]
      refine ⟨fun h => absurd h (by decide), fun _ => ?_⟩
      exact Ans_t h
  · have e : sTyp σ c = (1, 0, σ) := by unfold sTyp; rw [if_neg (fun q => hw (hin.mpr q))]
    rw [e] at hB
    have hw : inR (nI c) 32 126 = false := by simpa using hw
    refine V_run hB (rt := some .int) (nL := 2) (mc := 0) rfl rfl rfl obX11_type_9 ?_
    dsimp only [bX11_type_9, ↓wpb, ↓wp1, ↓vI, ↓vL, ↓vD, ↓ldI, ↓ldL, ↓ldD, ↓ldR, ↓k1, ↓k2, ↓kI, ↓kL, ↓kD, ↓kII, ↓kLL, ↓kDD, ↓kR, ↓kIR, ↓kLR, ↓kIIR, ↓kLIR, ↓kDIR, ↓kRIR, ↓kNN, ↓kE, ↓br, ↓bn, ↓rtI, ↓gfv, ↓zchk, lput, ldel, lbad, alA, acat, isRf, dom, dS, dJ, isO, aTy, aLen, elAV, elR, Nat.reduceBEq, Nat.reduceAdd, Bool.or, Bool.and, Nat.add_zero, Nat.zero_add]
    try simp only [Nat.reduceLT, Nat.reduceLeDiff, Nat.reduceEqDiff, true_and, and_true, and_self, Nat.zero_le, Nat.le_refl, true_or, or_true, Bool.false_eq_true, not_false_eq_true, Nat.reduceAdd, Nat.lt_add_one, Nat.zero_lt_one, nI_add, pk_mul, ixL, vpL, ne_eq, reduceIte, wI_sA, sA_same, sA_ne, sA_sA, sA_comm, uI_at, uN_at, enc_at, uI_enc, uI_uI, itn1, itn2, itn3, itn4, itc, itc0, itc1, upM_s, upM_n, bN_0]
    refine ⟨fun q => absurd hw q, fun _ => ?_⟩
    refine V_run hB (rt := some .int) (nL := 2) (mc := 0) rfl rfl rfl obX11_type_30 ?_
    dsimp only [bX11_type_30, ↓wpb, ↓wp1, ↓vI, ↓vL, ↓vD, ↓ldI, ↓ldL, ↓ldD, ↓ldR, ↓k1, ↓k2, ↓kI, ↓kL, ↓kD, ↓kII, ↓kLL, ↓kDD, ↓kR, ↓kIR, ↓kLR, ↓kIIR, ↓kLIR, ↓kDIR, ↓kRIR, ↓kNN, ↓kE, ↓br, ↓bn, ↓rtI, ↓gfv, ↓zchk, lput, ldel, lbad, alA, acat, isRf, dom, dS, dJ, isO, aTy, aLen, elAV, elR, Nat.reduceBEq, Nat.reduceAdd, Bool.or, Bool.and, Nat.add_zero, Nat.zero_add]
    try simp only [Nat.reduceLT, Nat.reduceLeDiff, Nat.reduceEqDiff, true_and, and_true, and_self, Nat.zero_le, Nat.le_refl, true_or, or_true, Bool.false_eq_true, not_false_eq_true, Nat.reduceAdd, Nat.lt_add_one, Nat.zero_lt_one, nI_add, pk_mul, ixL, vpL, ne_eq, reduceIte, wI_sA, sA_same, sA_ne, sA_sA, sA_comm, uI_at, uN_at, enc_at, uI_enc, uI_uI, itn1, itn2, itn3, itn4, itc, itc0, itc1, upM_s, upM_n]
    refine ⟨fun h => absurd h (by decide), fun _ => ?_⟩
    exact Ans_t h
end MF
