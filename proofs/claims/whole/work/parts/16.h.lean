/-! ===== the class: typing ===== -/
/-- cells of the text and of what is read of it -/
def TN (P : Nm → Prop) : Prop := ∀ nm, P nm → nm.1 = 9 ∨ nm.1 = 26 ∨ nm.1 = 27 ∨ nm.1 = 29
theorem TN_sh {P : Nm → Prop} (hP : TN P) {K s j : Nat} (hK : K = 2 ∨ K = 3 ∨ K = 4 ∨ K = 5 ∨ K = 10 ∨ K = 11 ∨ K = 12) : ¬ P (K, s, j) := fun z => by have := hP _ z; simp only at this; omega
theorem HiP.tn {P : Nm → Prop} {τ τ' : Mem} {ps : List (Nat → Nat)} {p : Nat} (h : HiP τ ps p) (hm : Same P τ τ') (hP : TN P) : HiP τ' ps p := by
  obtain ⟨π, hπ⟩ := h.2.1 (2 + p) (by omega) (by have := h.1.1; omega)
  exact h.same hm (fun z => by have := hP _ z; simp only at this; omega) (fun K s j _ _ hK => TN_sh hP hK) ⟨π, hπ.same hm (TN_sh hP (by omega))⟩
theorem SnR.tn {P : Nm → Prop} {τ τ' : Mem} {o : Option (Nat → Nat)} (h : SnR τ o) (hm : Same P τ τ') (hP : TN P) : SnR τ' o := by
  obtain ⟨⟨π, hπ⟩, h2, h3⟩ := h
  exact ⟨⟨π, hπ.same hm (TN_sh hP (by omega))⟩, by rw [(hm.2 _ (fun z => by have := hP _ z; simp only at this; omega)).1]; exact h2, fun s e => (h3 s e).same hm (fun K j hK => TN_sh hP hK)⟩
theorem CW.tx {P : Nm → Prop} {τ τ' : Mem} {σ : Sg} {T' : List Nat} (h : CW τ σ) (hm : Same P τ τ') (hP : TN P) (hT : TxR τ' T') : CW τ' (σ.1, σ.2.1, σ.2.2.1, σ.2.2.2.1, T', σ.2.2.2.2.2) := by
  obtain ⟨h1, ⟨p, h2⟩, h3, h4, -, h6⟩ := h
  refine ⟨h1.same hm (fun K j hK => TN_sh hP hK), ⟨p, h2.tn hm hP⟩, h3.tn hm hP, ?_, hT, ?_⟩
  · rw [(hm.2 _ (fun z => by have := hP _ z; simp only at this; omega)).1]; exact h4
  · unfold SlR; rw [hm.1]; exact h6
theorem OthC.tn {P : Nm → Prop} {τ τ' : Mem} (hm : Same P τ τ') (h : TN P) : OthC τ τ' := fun nm h30 => (hm.2 nm (fun z => by have := h nm z; omega)).1
theorem TN_tx : TN txN := by rintro nm (rfl | rfl); exact Or.inl rfl; exact Or.inr (Or.inl rfl)
section B7
variable {l : Launch} {G : GG} {τ : Mem} {σ : Sg}
theorem x_type (hc : Ctx l G) (h : CW τ σ) (hl : σ.2.2.2.2.1.length ≤ 60) {c : Nat} (hcc : c < 65536) : Sat l G iX10_type [moM, aI (nI c)] τ (XOp [IAE, ISE] τ (sTyp σ c)) := by
  have hT := h.2.2.2.2.1
  have g1 := hT.1
  refine Sat_of hc.1 hc.2 (by decide +kernel) (Nat.le_of_ble_eq_true rfl) (fun x hB hno => ?_)
  have e12 : ¬ (32 ≤ c ∧ c ≤ 126) → V x τ 0 12 [(0, moM), (1, aI (nI c))] [] := by
    intro hq
    have e : sTyp σ c = (1, 0, σ) := if_neg hq
    rw [e] at hB
    refine V_throwW hB hno thX10_321_109 ⟨by decide +kernel, by decide +kernel, by decide +kernel, by decide +kernel, by decide +kernel⟩ (by decide) (Nat.le_of_ble_eq_true rfl) ?_
    exact ⟨rfl, h, fun _ _ => rfl⟩
  refine V_run hB (rt := some .int) (nL := 2) (mc := 1) rfl rfl rfl (ops := [(0, .iload_n 1, 1, (1, 0, 0, 0, 0, 0), 0), (1, .bipush 32, 2, (0, 0, 0, 0, 0, 0), nI 32), (3, .if_icmp .lt 9, 3, (12, 0, 0, 0, 0, 0), 0), (6, .iload_n 1, 1, (1, 0, 0, 0, 0, 0), 0), (7, .bipush 126, 2, (0, 0, 0, 0, 0, 0), nI 126), (9, .if_icmp .le 14, 3, (23, 0, 0, 0, 0, 0), 0)]) (by decide +kernel) ?_
  dsimp only [↓wpb, ↓wp1, ↓vI, ↓vL, ↓vD, ↓ldI, ↓ldL, ↓ldD, ↓ldR, ↓k1, ↓k2, ↓kI, ↓kL, ↓kD, ↓kII, ↓kLL, ↓kDD, ↓kR, ↓kIR, ↓kLR, ↓kIIR, ↓kLIR, ↓kDIR, ↓kRIR, ↓kNN, ↓kE, ↓br, ↓bn, ↓rtI, ↓gfv, ↓zchk, lput, ldel, lbad, alA, acat, isRf, dom, dS, dJ, isO, aTy, aLen, elAV, elR, Nat.reduceBEq, Nat.reduceAdd, Bool.or, Bool.and, Nat.add_zero, Nat.zero_add]
  try simp only [Nat.reduceLT, Nat.reduceLeDiff, Nat.reduceEqDiff, true_and, and_true, and_self, Nat.zero_le, Nat.le_refl, true_or, or_true, Bool.false_eq_true, not_false_eq_true, Nat.reduceAdd, Nat.lt_add_one, Nat.zero_lt_one, nI_add, pk_mul, ixL, vpL, ne_eq, reduceIte, wI_sN, wL_sM, sN_same, sN_K, sN_2, sM_1, sM_same, sM_K, sM_s, uI_at, uN_at, enc_at, uI_enc, uI_uI, upM_s, upM_n]
  rw [nI_ltI (show c < 2147483648 by omega) (by omega), nI_leI (show c < 2147483648 by omega) (by omega)]
  refine ⟨fun q => e12 (by omega), fun q1 => ⟨fun q2 => ?_, fun q2 => e12 (by omega)⟩⟩
  have e0 : sTyp σ c = if σ.2.2.2.2.1.length = 60 then (2, 0, σ) else (0, σ.2.2.2.2.1.length + 1, (σ.1, σ.2.1, σ.2.2.1, σ.2.2.2.1, σ.2.2.2.2.1 ++ [c], σ.2.2.2.2.2)) := if_pos ⟨by omega, q2⟩
  rw [e0] at hB
  by_cases h60 : σ.2.2.2.2.1.length = 60
  · rw [if_pos h60] at hB
    refine V_run hB (rt := some .int) (nL := 2) (mc := 1) rfl rfl rfl (ops := [(23, .aload_n 0, 1, (0, 0, 0, 0, 0, 0), 0), (24, .getfield 47, 3, (1, 6, 2, 9, 0, 0), 0), (27, .getfield 323, 3, (9, 1, 0, 0, 0, 0), 0), (30, .bipush 60, 2, (0, 0, 0, 0, 0, 0), nI 60), (32, .if_icmp .lt 14, 3, (46, 0, 0, 0, 0, 0), 0)]) (by decide +kernel) ?_
    dsimp only [↓wpb, ↓wp1, ↓vI, ↓vL, ↓vD, ↓ldI, ↓ldL, ↓ldD, ↓ldR, ↓k1, ↓k2, ↓kI, ↓kL, ↓kD, ↓kII, ↓kLL, ↓kDD, ↓kR, ↓kIR, ↓kLR, ↓kIIR, ↓kLIR, ↓kDIR, ↓kRIR, ↓kNN, ↓kE, ↓br, ↓bn, ↓rtI, ↓gfv, ↓zchk, lput, ldel, lbad, alA, acat, isRf, dom, dS, dJ, isO, aTy, aLen, elAV, elR, Nat.reduceBEq, Nat.reduceAdd, Bool.or, Bool.and, Nat.add_zero, Nat.zero_add]
    try simp only [Nat.reduceLT, Nat.reduceLeDiff, Nat.reduceEqDiff, true_and, and_true, and_self, Nat.zero_le, Nat.le_refl, true_or, or_true, Bool.false_eq_true, not_false_eq_true, Nat.reduceAdd, Nat.lt_add_one, Nat.zero_lt_one, nI_add, pk_mul, ixL, vpL, ne_eq, reduceIte, wI_sN, wL_sM, sN_same, sN_K, sN_2, sM_1, sM_same, sM_K, sM_s, uI_at, uN_at, enc_at, uI_enc, uI_uI, upM_s, upM_n, g1]
    refine ⟨fun q => absurd q (nI_nlt (by omega) (by omega)), fun _ => ?_⟩
    refine V_throwW hB hno thX10_327_329 ⟨by decide +kernel, by decide +kernel, by decide +kernel, by decide +kernel, by decide +kernel⟩ (by decide) (Nat.le_of_ble_eq_true rfl) ?_
    exact ⟨rfl, h, fun _ _ => rfl⟩
  · rw [if_neg h60] at hB
    refine V_run hB (rt := some .int) (nL := 2) (mc := 1) rfl rfl rfl (ops := [(23, .aload_n 0, 1, (0, 0, 0, 0, 0, 0), 0), (24, .getfield 47, 3, (1, 6, 2, 9, 0, 0), 0), (27, .getfield 323, 3, (9, 1, 0, 0, 0, 0), 0), (30, .bipush 60, 2, (0, 0, 0, 0, 0, 0), nI 60), (32, .if_icmp .lt 14, 3, (46, 0, 0, 0, 0, 0), 0)]) (by decide +kernel) ?_
    dsimp only [↓wpb, ↓wp1, ↓vI, ↓vL, ↓vD, ↓ldI, ↓ldL, ↓ldD, ↓ldR, ↓k1, ↓k2, ↓kI, ↓kL, ↓kD, ↓kII, ↓kLL, ↓kDD, ↓kR, ↓kIR, ↓kLR, ↓kIIR, ↓kLIR, ↓kDIR, ↓kRIR, ↓kNN, ↓kE, ↓br, ↓bn, ↓rtI, ↓gfv, ↓zchk, lput, ldel, lbad, alA, acat, isRf, dom, dS, dJ, isO, aTy, aLen, elAV, elR, Nat.reduceBEq, Nat.reduceAdd, Bool.or, Bool.and, Nat.add_zero, Nat.zero_add]
    try simp only [Nat.reduceLT, Nat.reduceLeDiff, Nat.reduceEqDiff, true_and, and_true, and_self, Nat.zero_le, Nat.le_refl, true_or, or_true, Bool.false_eq_true, not_false_eq_true, Nat.reduceAdd, Nat.lt_add_one, Nat.zero_lt_one, nI_add, pk_mul, ixL, vpL, ne_eq, reduceIte, wI_sN, wL_sM, sN_same, sN_K, sN_2, sM_1, sM_same, sM_K, sM_s, uI_at, uN_at, enc_at, uI_enc, uI_uI, upM_s, upM_n, g1]
    refine ⟨fun _ => ?_, fun q => absurd (nI_lt (by omega) (by omega)) q⟩
    refine V_run hB (rt := some .int) (nL := 2) (mc := 1) rfl rfl rfl obX10_type_46 ?_
    dsimp only [bX10_type_46, ↓wpb, ↓wp1, ↓vI, ↓vL, ↓vD, ↓ldI, ↓ldL, ↓ldD, ↓ldR, ↓k1, ↓k2, ↓kI, ↓kL, ↓kD, ↓kII, ↓kLL, ↓kDD, ↓kR, ↓kIR, ↓kLR, ↓kIIR, ↓kLIR, ↓kDIR, ↓kRIR, ↓kNN, ↓kE, ↓br, ↓bn, ↓rtI, ↓gfv, ↓zchk, lput, ldel, lbad, alA, acat, isRf, dom, dS, dJ, isO, aTy, aLen, elAV, elR, Nat.reduceBEq, Nat.reduceAdd, Bool.or, Bool.and, Nat.add_zero, Nat.zero_add]
    try simp only [Nat.reduceLT, Nat.reduceLeDiff, Nat.reduceEqDiff, true_and, and_true, and_self, Nat.zero_le, Nat.le_refl, true_or, or_true, Bool.false_eq_true, not_false_eq_true, Nat.reduceAdd, Nat.lt_add_one, Nat.zero_lt_one, nI_add, pk_mul, ixL, vpL, ne_eq, reduceIte, wI_sN, wL_sM, sN_same, sN_K, sN_2, sM_1, sM_same, sM_K, sM_s, uI_at, uN_at, enc_at, uI_enc, uI_uI, upM_s, upM_n]
    refine V_callV hB hno (c_add hc hT (by omega) (show c < 128 by omega)) rfl (by decide +kernel) cvX10_330 (dom1 rfl) npX7_add ⟨by decide, by decide⟩ (Nat.le_of_ble_eq_true rfl) (by decide) ?_ ?_
    rotate_left
    · intro E τ' hq; cases hq.1
    intro v t1 hq
    obtain ⟨e, hT1, hm1⟩ := hq
    cases e
    show V x t1 0 54 _ [aI (nI (σ.2.2.2.2.1.length + 1))]
    refine V_run hB (rt := some .int) (nL := 2) (mc := 1) rfl rfl rfl obX10_type_54 ?_
    dsimp only [bX10_type_54, ↓wpb, ↓wp1, ↓vI, ↓vL, ↓vD, ↓ldI, ↓ldL, ↓ldD, ↓ldR, ↓k1, ↓k2, ↓kI, ↓kL, ↓kD, ↓kII, ↓kLL, ↓kDD, ↓kR, ↓kIR, ↓kLR, ↓kIIR, ↓kLIR, ↓kDIR, ↓kRIR, ↓kNN, ↓kE, ↓br, ↓bn, ↓rtI, ↓gfv, ↓zchk, lput, ldel, lbad, alA, acat, isRf, dom, dS, dJ, isO, aTy, aLen, elAV, elR, Nat.reduceBEq, Nat.reduceAdd, Bool.or, Bool.and, Nat.add_zero, Nat.zero_add]
    try simp only [Nat.reduceLT, Nat.reduceLeDiff, Nat.reduceEqDiff, true_and, and_true, and_self, Nat.zero_le, Nat.le_refl, true_or, or_true, Bool.false_eq_true, not_false_eq_true, Nat.reduceAdd, Nat.lt_add_one, Nat.zero_lt_one, nI_add, pk_mul, ixL, vpL, ne_eq, reduceIte, wI_sN, wL_sM, sN_same, sN_K, sN_2, sM_1, sM_same, sM_K, sM_s, uI_at, uN_at, enc_at, uI_enc, uI_uI, upM_s, upM_n]
    exact ⟨rfl, h.tx hm1 TN_tx hT1, OthC.tn hm1 TN_tx⟩
end B7
