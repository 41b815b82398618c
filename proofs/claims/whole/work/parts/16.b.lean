/-! ===== the class: the text typed, its digits ===== -/
abbrev pgM : AV := .inr (9, 0, 0)
def txN (nm : Nm) : Prop := nm = (9, 0, 0) ∨ nm = (26, 0, 0)
theorem dgt_s (T : List Nat) (m h n : Nat) : dgt T (m + 1) h n = match T[h]? with
    | none => (n, h)
    | some c => if 48 ≤ c ∧ c ≤ 57 then dgt T m (h + 1) (10 * n + c - 48) else (n, h) := rfl
theorem dgt_e (T : List Nat) : ∀ m h n n', (dgt T m h n).2 = (dgt T m h n').2
  | 0, h, n, n' => rfl
  | m + 1, h, n, n' => by
    rw [dgt_s, dgt_s]
    cases T[h]? with
    | none => rfl
    | some c =>
      by_cases hc : 48 ≤ c ∧ c ≤ 57
      · show (if 48 ≤ c ∧ c ≤ 57 then _ else _ : Nat × Nat).2 = (if 48 ≤ c ∧ c ≤ 57 then _ else _ : Nat × Nat).2
        rw [if_pos hc, if_pos hc]
        exact dgt_e T m (h + 1) _ _
      · show (if 48 ≤ c ∧ c ≤ 57 then _ else _ : Nat × Nat).2 = (if 48 ≤ c ∧ c ≤ 57 then _ else _ : Nat × Nat).2
        rw [if_neg hc, if_neg hc]
/-- where a sign of a form ends -/
def msg (T : List Nat) (c h : Nat) : Nat := if c = 35 then (dgt T 1 h 0).2 else if c = 42 then (dgt T 3 h 0).2 else if T[h]? = some c then h + 1 else h
theorem TxR.add {τ : Mem} {T : List Nat} {c : Nat} {f g : Nat → Int32} (h : TxR τ T) (hf : f 1 = nI (T.length + 1)) (hg : g = uI (τ.1 (26, 0, 0)) T.length (nI c)) : TxR (sN (sN τ (26, 0, 0) g) (9, 0, 0) f) (T ++ [c]) := by
  refine ⟨?_, fun j d hj => ?_⟩
  · rw [sN_same, hf, List.length_append]; rfl
  · rw [sN_K (by decide), sN_same, hg]
    simp only [uI]
    by_cases h1 : j = T.length
    · rw [if_pos h1]
      subst h1
      rw [List.getElem?_append_right (Nat.le_refl _), Nat.sub_self] at hj
      cases hj
      rfl
    · rw [if_neg h1]
      have hl := (List.getElem?_eq_some_iff.mp hj).1
      rw [List.length_append] at hl
      have hl : j < T.length + 1 := hl
      rw [List.getElem?_append_left (by omega)] at hj
      exact h.2 j d hj
theorem chN : ∀ c, c < 128 → vp_nar FieldType.char (nI c) = nI c := by decide +kernel
section B6
variable {l : Launch} {G : GG} {τ : Mem} {T : List Nat}
theorem c_add (hc : Ctx l G) (hT : TxR τ T) (hl : T.length < 60) {c : Nat} (hcc : c < 128) : Sat l G iX7_add [pgM, aI (nI c)] τ (intP (nI (T.length + 1)) (fun τ' => TxR τ' (T ++ [c]) ∧ Same txN τ τ')) := by
  have g1 := hT.1
  have ix : (nI T.length).toNatClampNeg = T.length := ixL (by omega)
  have vx : vp_in (nI T.length) 60 = True := vpL (by omega) (by omega)
  have e3 := chN c hcc
  refine Sat_of hc.1 hc.2 (by decide +kernel) (Nat.le_of_ble_eq_true rfl) (fun x hB hno => ?_)
  refine V_run hB (rt := some .int) (nL := 2) (mc := 0) rfl rfl rfl (ops := [(0, .aload_n 0, 1, (0, 0, 0, 0, 0, 0), 0), (1, .getfield 15, 3, (9, 1, 0, 0, 0, 0), 0), (4, .bipush 60, 2, (0, 0, 0, 0, 0, 0), nI 60), (6, .if_icmp .ge 23, 3, (29, 0, 0, 0, 0, 0), 0), (9, .aload_n 0, 1, (0, 0, 0, 0, 0, 0), 0), (10, .getfield 9, 3, (9, 0, 2, 26, 0, 0), 0), (13, .aload_n 0, 1, (0, 0, 0, 0, 0, 0), 0), (14, .getfield 15, 3, (9, 1, 0, 0, 0, 0), 0), (17, .iload_n 1, 1, (1, 0, 0, 0, 0, 0), 0), (18, .castore, 1, (0, 0, 0, 0, 0, 0), 0)]) (by decide +kernel) ?_
  dsimp only [↓wpb, ↓wp1, ↓vI, ↓vL, ↓vD, ↓ldI, ↓ldL, ↓ldD, ↓ldR, ↓k1, ↓k2, ↓kI, ↓kL, ↓kD, ↓kII, ↓kLL, ↓kDD, ↓kR, ↓kIR, ↓kLR, ↓kIIR, ↓kLIR, ↓kDIR, ↓kRIR, ↓kNN, ↓kE, ↓br, ↓bn, ↓rtI, ↓gfv, ↓zchk, lput, ldel, lbad, alA, acat, isRf, dom, dS, dJ, isO, aTy, aLen, elAV, elR, Nat.reduceBEq, Nat.reduceAdd, Bool.or, Bool.and, Nat.add_zero, Nat.zero_add]
  try simp only [Nat.reduceLT, Nat.reduceLeDiff, Nat.reduceEqDiff, true_and, and_true, and_self, Nat.zero_le, Nat.le_refl, true_or, or_true, Bool.false_eq_true, not_false_eq_true, Nat.reduceAdd, Nat.lt_add_one, Nat.zero_lt_one, nI_add, pk_mul, ixL, vpL, ne_eq, reduceIte, wI_sN, wL_sM, sN_same, sN_K, sN_2, sM_1, sM_same, sM_K, sM_s, uI_at, uN_at, enc_at, uI_enc, uI_uI, upM_s, upM_n, g1, ix, vx, e3]
  refine ⟨fun q => absurd q (nI_ge (by omega) (by omega)), fun _ => ?_⟩
  refine V_run hB (rt := some .int) (nL := 2) (mc := 0) rfl rfl rfl (ops := [(19, .aload_n 0, 1, (0, 0, 0, 0, 0, 0), 0), (20, .dup, 1, (0, 0, 0, 0, 0, 0), 0), (21, .getfield 15, 3, (9, 1, 0, 0, 0, 0), 0), (24, .iconst 1, 1, (0, 0, 0, 0, 0, 0), nI 1), (25, .iadd, 1, (0, 0, 0, 0, 0, 0), 0), (26, .putfield 15, 3, (9, 1, 0, 0, 0, 0), 0), (29, .aload_n 0, 1, (0, 0, 0, 0, 0, 0), 0), (30, .getfield 15, 3, (9, 1, 0, 0, 0, 0), 0), (33, .ireturn, 1, (0, 0, 0, 0, 0, 0), 0)]) (by decide +kernel) ?_
  dsimp only [↓wpb, ↓wp1, ↓vI, ↓vL, ↓vD, ↓ldI, ↓ldL, ↓ldD, ↓ldR, ↓k1, ↓k2, ↓kI, ↓kL, ↓kD, ↓kII, ↓kLL, ↓kDD, ↓kR, ↓kIR, ↓kLR, ↓kIIR, ↓kLIR, ↓kDIR, ↓kRIR, ↓kNN, ↓kE, ↓br, ↓bn, ↓rtI, ↓gfv, ↓zchk, lput, ldel, lbad, alA, acat, isRf, dom, dS, dJ, isO, aTy, aLen, elAV, elR, Nat.reduceBEq, Nat.reduceAdd, Bool.or, Bool.and, Nat.add_zero, Nat.zero_add]
  try simp only [Nat.reduceLT, Nat.reduceLeDiff, Nat.reduceEqDiff, true_and, and_true, and_self, Nat.zero_le, Nat.le_refl, true_or, or_true, Bool.false_eq_true, not_false_eq_true, Nat.reduceAdd, Nat.lt_add_one, Nat.zero_lt_one, nI_add, pk_mul, ixL, vpL, ne_eq, reduceIte, wI_sN, wL_sM, sN_same, sN_K, sN_2, sM_1, sM_same, sM_K, sM_s, uI_at, uN_at, enc_at, uI_enc, uI_uI, upM_s, upM_n, g1]
  exact ⟨rfl, hT.add rfl rfl, ((Same.refl txN τ).sN _ (Or.inr rfl)).sN _ (Or.inl rfl)⟩
theorem c_empty (hc : Ctx l G) : Sat l G iX7_empty [pgM] τ (voidP (fun τ' => TxR τ' [] ∧ Same (fun nm => nm = (9, 0, 0)) τ τ' ∧ ∀ k, k ≠ 1 → τ'.1 (9, 0, 0) k = τ.1 (9, 0, 0) k)) := by
  refine Sat_of hc.1 hc.2 (by decide +kernel) (Nat.le_of_ble_eq_true rfl) (fun x hB hno => ?_)
  refine V_run hB (rt := none) (nL := 1) (mc := 0) rfl rfl rfl obX7_empty_0 ?_
  dsimp only [bX7_empty_0, ↓wpb, ↓wp1, ↓vI, ↓vL, ↓vD, ↓ldI, ↓ldL, ↓ldD, ↓ldR, ↓k1, ↓k2, ↓kI, ↓kL, ↓kD, ↓kII, ↓kLL, ↓kDD, ↓kR, ↓kIR, ↓kLR, ↓kIIR, ↓kLIR, ↓kDIR, ↓kRIR, ↓kNN, ↓kE, ↓br, ↓bn, ↓rtI, ↓gfv, ↓zchk, lput, ldel, lbad, alA, acat, isRf, dom, dS, dJ, isO, aTy, aLen, elAV, elR, Nat.reduceBEq, Nat.reduceAdd, Bool.or, Bool.and, Nat.add_zero, Nat.zero_add]
  try simp only [Nat.reduceLT, Nat.reduceLeDiff, Nat.reduceEqDiff, true_and, and_true, and_self, Nat.zero_le, Nat.le_refl, true_or, or_true, Bool.false_eq_true, not_false_eq_true, Nat.reduceAdd, Nat.lt_add_one, Nat.zero_lt_one, nI_add, pk_mul, ixL, vpL, ne_eq, reduceIte, wI_sN, wL_sM, sN_same, sN_K, sN_2, sM_1, sM_same, sM_K, sM_s, uI_at, uN_at, enc_at, uI_enc, uI_uI, upM_s, upM_n]
  refine ⟨rfl, ⟨?_, fun j c hj => (nomatch hj)⟩, (Same.refl _ _).sN _ rfl, fun k hk => ?_⟩
  · rw [sN_same]; rfl
  · rw [sN_same]; exact if_neg hk
theorem c_placeholder (hc : Ctx l G) (τ : Mem) {c : Nat} (hcc : c < 128) : Sat l G iX7_isPlaceholder [aI (nI c)] τ (retI (nI (bN (c == 35 || c == 42))) τ) := by
  refine Sat_of hc.1 hc.2 (by decide +kernel) (Nat.le_of_ble_eq_true rfl) (fun x hB hno => ?_)
  refine V_run hB (rt := some .boolean) (nL := 1) (mc := 0) rfl rfl rfl obX7_isPlaceholder_0 ?_
  dsimp only [bX7_isPlaceholder_0, ↓wpb, ↓wp1, ↓vI, ↓vL, ↓vD, ↓ldI, ↓ldL, ↓ldD, ↓ldR, ↓k1, ↓k2, ↓kI, ↓kL, ↓kD, ↓kII, ↓kLL, ↓kDD, ↓kR, ↓kIR, ↓kLR, ↓kIIR, ↓kLIR, ↓kDIR, ↓kRIR, ↓kNN, ↓kE, ↓br, ↓bn, ↓rtI, ↓gfv, ↓zchk, lput, ldel, lbad, alA, acat, isRf, dom, dS, dJ, isO, aTy, aLen, elAV, elR, Nat.reduceBEq, Nat.reduceAdd, Bool.or, Bool.and, Nat.add_zero, Nat.zero_add]
  try simp only [Nat.reduceLT, Nat.reduceLeDiff, Nat.reduceEqDiff, true_and, and_true, and_self, Nat.zero_le, Nat.le_refl, true_or, or_true, Bool.false_eq_true, not_false_eq_true, Nat.reduceAdd, Nat.lt_add_one, Nat.zero_lt_one, nI_add, pk_mul, ixL, vpL, ne_eq, reduceIte, wI_sN, wL_sM, sN_same, sN_K, sN_2, sM_1, sM_same, sM_K, sM_s, uI_at, uN_at, enc_at, uI_enc, uI_uI, upM_s, upM_n]
  rw [nI_eq (show c < 2147483648 by omega) (by omega), nI_eq (show c < 2147483648 by omega) (by omega)]
  have t12 : c = 35 ∨ c = 42 → V x τ 0 12 [(0, aI (nI c))] [] := by
    intro h
    have e : (c == 35 || c == 42) = true := by simpa using h
    rw [e] at hB
    refine V_run hB (rt := some .boolean) (nL := 1) (mc := 0) rfl rfl rfl obX7_isPlaceholder_12 ?_
    dsimp only [bX7_isPlaceholder_12, ↓wpb, ↓wp1, ↓vI, ↓vL, ↓vD, ↓ldI, ↓ldL, ↓ldD, ↓ldR, ↓k1, ↓k2, ↓kI, ↓kL, ↓kD, ↓kII, ↓kLL, ↓kDD, ↓kR, ↓kIR, ↓kLR, ↓kIIR, ↓kLIR, ↓kDIR, ↓kRIR, ↓kNN, ↓kE, ↓br, ↓bn, ↓rtI, ↓gfv, ↓zchk, lput, ldel, lbad, alA, acat, isRf, dom, dS, dJ, isO, aTy, aLen, elAV, elR, Nat.reduceBEq, Nat.reduceAdd, Bool.or, Bool.and, Nat.add_zero, Nat.zero_add]
    try simp only [Nat.reduceLT, Nat.reduceLeDiff, Nat.reduceEqDiff, true_and, and_true, and_self, Nat.zero_le, Nat.le_refl, true_or, or_true, Bool.false_eq_true, not_false_eq_true, Nat.reduceAdd, Nat.lt_add_one, Nat.zero_lt_one, nI_add, pk_mul, ixL, vpL, ne_eq, reduceIte, wI_sN, wL_sM, sN_same, sN_K, sN_2, sM_1, sM_same, sM_K, sM_s, uI_at, uN_at, enc_at, uI_enc, uI_uI, upM_s, upM_n]
    refine V_run hB (rt := some .boolean) (nL := 1) (mc := 0) rfl rfl rfl obX7_isPlaceholder_17 ?_
    dsimp only [bX7_isPlaceholder_17, ↓wpb, ↓wp1, ↓vI, ↓vL, ↓vD, ↓ldI, ↓ldL, ↓ldD, ↓ldR, ↓k1, ↓k2, ↓kI, ↓kL, ↓kD, ↓kII, ↓kLL, ↓kDD, ↓kR, ↓kIR, ↓kLR, ↓kIIR, ↓kLIR, ↓kDIR, ↓kRIR, ↓kNN, ↓kE, ↓br, ↓bn, ↓rtI, ↓gfv, ↓zchk, lput, ldel, lbad, alA, acat, isRf, dom, dS, dJ, isO, aTy, aLen, elAV, elR, Nat.reduceBEq, Nat.reduceAdd, Bool.or, Bool.and, Nat.add_zero, Nat.zero_add]
    try simp only [Nat.reduceLT, Nat.reduceLeDiff, Nat.reduceEqDiff, true_and, and_true, and_self, Nat.zero_le, Nat.le_refl, true_or, or_true, Bool.false_eq_true, not_false_eq_true, Nat.reduceAdd, Nat.lt_add_one, Nat.zero_lt_one, nI_add, pk_mul, ixL, vpL, ne_eq, reduceIte, wI_sN, wL_sM, sN_same, sN_K, sN_2, sM_1, sM_same, sM_K, sM_s, uI_at, uN_at, enc_at, uI_enc, uI_uI, upM_s, upM_n]
    exact ⟨by decide, rfl, rfl⟩
  refine ⟨fun q => ?_, fun q => ⟨fun q2 => ?_, fun q2 => ?_⟩⟩
  · exact t12 (Or.inl q)
  · have e : (c == 35 || c == 42) = false := by simp [q, q2]
    rw [e] at hB
    refine V_run hB (rt := some .boolean) (nL := 1) (mc := 0) rfl rfl rfl obX7_isPlaceholder_16 ?_
    dsimp only [bX7_isPlaceholder_16, ↓wpb, ↓wp1, ↓vI, ↓vL, ↓vD, ↓ldI, ↓ldL, ↓ldD, ↓ldR, ↓k1, ↓k2, ↓kI, ↓kL, ↓kD, ↓kII, ↓kLL, ↓kDD, ↓kR, ↓kIR, ↓kLR, ↓kIIR, ↓kLIR, ↓kDIR, ↓kRIR, ↓kNN, ↓kE, ↓br, ↓bn, ↓rtI, ↓gfv, ↓zchk, lput, ldel, lbad, alA, acat, isRf, dom, dS, dJ, isO, aTy, aLen, elAV, elR, Nat.reduceBEq, Nat.reduceAdd, Bool.or, Bool.and, Nat.add_zero, Nat.zero_add]
    try simp only [Nat.reduceLT, Nat.reduceLeDiff, Nat.reduceEqDiff, true_and, and_true, and_self, Nat.zero_le, Nat.le_refl, true_or, or_true, Bool.false_eq_true, not_false_eq_true, Nat.reduceAdd, Nat.lt_add_one, Nat.zero_lt_one, nI_add, pk_mul, ixL, vpL, ne_eq, reduceIte, wI_sN, wL_sM, sN_same, sN_K, sN_2, sM_1, sM_same, sM_K, sM_s, uI_at, uN_at, enc_at, uI_enc, uI_uI, upM_s, upM_n]
    exact ⟨by decide, rfl, rfl⟩
  · have e : (c == 35 || c == 42) = true := by simp [q2]
    rw [e] at hB
    refine V_run hB (rt := some .boolean) (nL := 1) (mc := 0) rfl rfl rfl obX7_isPlaceholder_17 ?_
    dsimp only [bX7_isPlaceholder_17, ↓wpb, ↓wp1, ↓vI, ↓vL, ↓vD, ↓ldI, ↓ldL, ↓ldD, ↓ldR, ↓k1, ↓k2, ↓kI, ↓kL, ↓kD, ↓kII, ↓kLL, ↓kDD, ↓kR, ↓kIR, ↓kLR, ↓kIIR, ↓kLIR, ↓kDIR, ↓kRIR, ↓kNN, ↓kE, ↓br, ↓bn, ↓rtI, ↓gfv, ↓zchk, lput, ldel, lbad, alA, acat, isRf, dom, dS, dJ, isO, aTy, aLen, elAV, elR, Nat.reduceBEq, Nat.reduceAdd, Bool.or, Bool.and, Nat.add_zero, Nat.zero_add]
    try simp only [Nat.reduceLT, Nat.reduceLeDiff, Nat.reduceEqDiff, true_and, and_true, and_self, Nat.zero_le, Nat.le_refl, true_or, or_true, Bool.false_eq_true, not_false_eq_true, Nat.reduceAdd, Nat.lt_add_one, Nat.zero_lt_one, nI_add, pk_mul, ixL, vpL, ne_eq, reduceIte, wI_sN, wL_sM, sN_same, sN_K, sN_2, sM_1, sM_same, sM_K, sM_s, uI_at, uN_at, enc_at, uI_enc, uI_uI, upM_s, upM_n]
    exact ⟨by decide, rfl, rfl⟩
theorem c_skip (hc : Ctx l G) (hT : TxR τ T) (hl : T.length ≤ 60) (hch : ∀ c ∈ T, c < 128) {h m : Nat} (hh : h ≤ T.length) (hm : m ≤ 3) : Sat l G iX7_skipDigits [pgM, aI (nI h), aI (nI m)] τ (retI (nI (dgt T m h 0).2) τ) := by
  have g1 := hT.1
  refine Sat_of hc.1 hc.2 (by decide +kernel) (Nat.le_of_ble_eq_true rfl) (fun x hB hno => ?_)
  have head : ∀ k i, i + k = h + m → i ≤ T.length → (dgt T k i 0).2 = (dgt T m h 0).2 → V x τ 0 2 [(0, pgM), (1, aI (nI h)), (2, aI (nI m)), (3, aI (nI i))] [] := by
    have fin : ∀ i, i = (dgt T m h 0).2 → V x τ 0 45 [(0, pgM), (1, aI (nI h)), (2, aI (nI m)), (3, aI (nI i))] [] := by
      intro i hi
      rw [← hi] at hB
      refine V_run hB (rt := some .int) (nL := 4) (mc := 0) rfl rfl rfl obX7_skipDigits_45 ?_
      dsimp only [bX7_skipDigits_45, ↓wpb, ↓wp1, ↓vI, ↓vL, ↓vD, ↓ldI, ↓ldL, ↓ldD, ↓ldR, ↓k1, ↓k2, ↓kI, ↓kL, ↓kD, ↓kII, ↓kLL, ↓kDD, ↓kR, ↓kIR, ↓kLR, ↓kIIR, ↓kLIR, ↓kDIR, ↓kRIR, ↓kNN, ↓kE, ↓br, ↓bn, ↓rtI, ↓gfv, ↓zchk, lput, ldel, lbad, alA, acat, isRf, dom, dS, dJ, isO, aTy, aLen, elAV, elR, Nat.reduceBEq, Nat.reduceAdd, Bool.or, Bool.and, Nat.add_zero, Nat.zero_add]
      try simp only [Nat.reduceLT, Nat.reduceLeDiff, Nat.reduceEqDiff, true_and, and_true, and_self, Nat.zero_le, Nat.le_refl, true_or, or_true, Bool.false_eq_true, not_false_eq_true, Nat.reduceAdd, Nat.lt_add_one, Nat.zero_lt_one, nI_add, pk_mul, ixL, vpL, ne_eq, reduceIte, wI_sN, wL_sM, sN_same, sN_K, sN_2, sM_1, sM_same, sM_K, sM_s, uI_at, uN_at, enc_at, uI_enc, uI_uI, upM_s, upM_n]
      exact ⟨rfl, rfl⟩
    intro k
    induction k with
    | zero =>
      intro i hi hil hR
      have hR : i = (dgt T m h 0).2 := hR
      by_cases hiT : i < T.length
      · refine V_run hB (rt := some .int) (nL := 4) (mc := 0) rfl rfl rfl (ops := [(2, .iload_n 3, 1, (3, 0, 0, 0, 0, 0), 0), (3, .aload_n 0, 1, (0, 0, 0, 0, 0, 0), 0), (4, .getfield 15, 3, (9, 1, 0, 0, 0, 0), 0), (7, .if_icmp .ge 38, 3, (45, 0, 0, 0, 0, 0), 0), (10, .iload_n 3, 1, (3, 0, 0, 0, 0, 0), 0), (11, .iload_n 1, 1, (1, 0, 0, 0, 0, 0), 0), (12, .iload_n 2, 1, (2, 0, 0, 0, 0, 0), 0), (13, .iadd, 1, (0, 0, 0, 0, 0, 0), 0), (14, .if_icmp .ge 31, 3, (45, 0, 0, 0, 0, 0), 0), (17, .aload_n 0, 1, (0, 0, 0, 0, 0, 0), 0), (18, .getfield 9, 3, (9, 0, 2, 26, 0, 0), 0)]) (by decide +kernel) ?_
        dsimp only [↓wpb, ↓wp1, ↓vI, ↓vL, ↓vD, ↓ldI, ↓ldL, ↓ldD, ↓ldR, ↓k1, ↓k2, ↓kI, ↓kL, ↓kD, ↓kII, ↓kLL, ↓kDD, ↓kR, ↓kIR, ↓kLR, ↓kIIR, ↓kLIR, ↓kDIR, ↓kRIR, ↓kNN, ↓kE, ↓br, ↓bn, ↓rtI, ↓gfv, ↓zchk, lput, ldel, lbad, alA, acat, isRf, dom, dS, dJ, isO, aTy, aLen, elAV, elR, Nat.reduceBEq, Nat.reduceAdd, Bool.or, Bool.and, Nat.add_zero, Nat.zero_add]
        try simp only [Nat.reduceLT, Nat.reduceLeDiff, Nat.reduceEqDiff, true_and, and_true, and_self, Nat.zero_le, Nat.le_refl, true_or, or_true, Bool.false_eq_true, not_false_eq_true, Nat.reduceAdd, Nat.lt_add_one, Nat.zero_lt_one, nI_add, pk_mul, ixL, vpL, ne_eq, reduceIte, wI_sN, wL_sM, sN_same, sN_K, sN_2, sM_1, sM_same, sM_K, sM_s, uI_at, uN_at, enc_at, uI_enc, uI_uI, upM_s, upM_n, g1]
        refine ⟨fun q => absurd q (nI_ge (by omega) (by omega)), fun _ => ⟨fun _ => fin i hR, fun q => absurd (nI_le (by omega) (by omega)) q⟩⟩
      · refine V_run hB (rt := some .int) (nL := 4) (mc := 0) rfl rfl rfl (ops := [(2, .iload_n 3, 1, (3, 0, 0, 0, 0, 0), 0), (3, .aload_n 0, 1, (0, 0, 0, 0, 0, 0), 0), (4, .getfield 15, 3, (9, 1, 0, 0, 0, 0), 0), (7, .if_icmp .ge 38, 3, (45, 0, 0, 0, 0, 0), 0)]) (by decide +kernel) ?_
        dsimp only [↓wpb, ↓wp1, ↓vI, ↓vL, ↓vD, ↓ldI, ↓ldL, ↓ldD, ↓ldR, ↓k1, ↓k2, ↓kI, ↓kL, ↓kD, ↓kII, ↓kLL, ↓kDD, ↓kR, ↓kIR, ↓kLR, ↓kIIR, ↓kLIR, ↓kDIR, ↓kRIR, ↓kNN, ↓kE, ↓br, ↓bn, ↓rtI, ↓gfv, ↓zchk, lput, ldel, lbad, alA, acat, isRf, dom, dS, dJ, isO, aTy, aLen, elAV, elR, Nat.reduceBEq, Nat.reduceAdd, Bool.or, Bool.and, Nat.add_zero, Nat.zero_add]
        try simp only [Nat.reduceLT, Nat.reduceLeDiff, Nat.reduceEqDiff, true_and, and_true, and_self, Nat.zero_le, Nat.le_refl, true_or, or_true, Bool.false_eq_true, not_false_eq_true, Nat.reduceAdd, Nat.lt_add_one, Nat.zero_lt_one, nI_add, pk_mul, ixL, vpL, ne_eq, reduceIte, wI_sN, wL_sM, sN_same, sN_K, sN_2, sM_1, sM_same, sM_K, sM_s, uI_at, uN_at, enc_at, uI_enc, uI_uI, upM_s, upM_n, g1]
        refine ⟨fun _ => fin i hR, fun q => absurd (nI_le (by omega) (by omega)) q⟩
    | succ k ih =>
      intro i hi hil hR
      by_cases hiT : i < T.length
      · have ec : T[i]? = some T[i] := List.getElem?_eq_getElem hiT
        have hcm := hch _ (List.getElem_mem hiT)
        have rc := hT.2 i _ ec
        rw [dgt_s, ec] at hR
        generalize T[i] = c at *
        have hR : (if 48 ≤ c ∧ c ≤ 57 then dgt T k (i + 1) (10 * 0 + c - 48) else (0, i)).2 = (dgt T m h 0).2 := hR
        have ix : (nI i).toNatClampNeg = i := ixL (by omega)
        have vx : vp_in (nI i) 60 = True := vpL (by omega) (by omega)
        refine V_run hB (rt := some .int) (nL := 4) (mc := 0) rfl rfl rfl obX7_skipDigits_2 ?_
        dsimp only [bX7_skipDigits_2, ↓wpb, ↓wp1, ↓vI, ↓vL, ↓vD, ↓ldI, ↓ldL, ↓ldD, ↓ldR, ↓k1, ↓k2, ↓kI, ↓kL, ↓kD, ↓kII, ↓kLL, ↓kDD, ↓kR, ↓kIR, ↓kLR, ↓kIIR, ↓kLIR, ↓kDIR, ↓kRIR, ↓kNN, ↓kE, ↓br, ↓bn, ↓rtI, ↓gfv, ↓zchk, lput, ldel, lbad, alA, acat, isRf, dom, dS, dJ, isO, aTy, aLen, elAV, elR, Nat.reduceBEq, Nat.reduceAdd, Bool.or, Bool.and, Nat.add_zero, Nat.zero_add]
        try simp only [Nat.reduceLT, Nat.reduceLeDiff, Nat.reduceEqDiff, true_and, and_true, and_self, Nat.zero_le, Nat.le_refl, true_or, or_true, Bool.false_eq_true, not_false_eq_true, Nat.reduceAdd, Nat.lt_add_one, Nat.zero_lt_one, nI_add, pk_mul, ixL, vpL, ne_eq, reduceIte, wI_sN, wL_sM, sN_same, sN_K, sN_2, sM_1, sM_same, sM_K, sM_s, uI_at, uN_at, enc_at, uI_enc, uI_uI, upM_s, upM_n, g1, ix, vx, rc]
        rw [nI_ltI (show c < 2147483648 by omega) (by omega), nI_ltI (show 57 < 2147483648 by omega) (show c < 2147483648 by omega)]
        refine ⟨fun q => absurd q (nI_ge (by omega) (by omega)), fun _ => ⟨fun q => absurd q (nI_ge (by omega) (by omega)), fun _ => ⟨fun q => ?_, fun q => ⟨fun q2 => ?_, fun q2 => ?_⟩⟩⟩⟩
        · rw [if_neg (by omega)] at hR
          exact fin i hR
        · rw [if_neg (by omega)] at hR
          exact fin i hR
        · rw [if_pos (by omega)] at hR
          exact ih (i + 1) (by omega) (by omega) ((dgt_e T k (i + 1) _ _).trans hR)
      · have hR2 : i = (dgt T m h 0).2 := by
          rw [dgt_s, List.getElem?_eq_none (by omega)] at hR
          exact hR
        refine V_run hB (rt := some .int) (nL := 4) (mc := 0) rfl rfl rfl (ops := [(2, .iload_n 3, 1, (3, 0, 0, 0, 0, 0), 0), (3, .aload_n 0, 1, (0, 0, 0, 0, 0, 0), 0), (4, .getfield 15, 3, (9, 1, 0, 0, 0, 0), 0), (7, .if_icmp .ge 38, 3, (45, 0, 0, 0, 0, 0), 0)]) (by decide +kernel) ?_
        dsimp only [↓wpb, ↓wp1, ↓vI, ↓vL, ↓vD, ↓ldI, ↓ldL, ↓ldD, ↓ldR, ↓k1, ↓k2, ↓kI, ↓kL, ↓kD, ↓kII, ↓kLL, ↓kDD, ↓kR, ↓kIR, ↓kLR, ↓kIIR, ↓kLIR, ↓kDIR, ↓kRIR, ↓kNN, ↓kE, ↓br, ↓bn, ↓rtI, ↓gfv, ↓zchk, lput, ldel, lbad, alA, acat, isRf, dom, dS, dJ, isO, aTy, aLen, elAV, elR, Nat.reduceBEq, Nat.reduceAdd, Bool.or, Bool.and, Nat.add_zero, Nat.zero_add]
        try simp only [Nat.reduceLT, Nat.reduceLeDiff, Nat.reduceEqDiff, true_and, and_true, and_self, Nat.zero_le, Nat.le_refl, true_or, or_true, Bool.false_eq_true, not_false_eq_true, Nat.reduceAdd, Nat.lt_add_one, Nat.zero_lt_one, nI_add, pk_mul, ixL, vpL, ne_eq, reduceIte, wI_sN, wL_sM, sN_same, sN_K, sN_2, sM_1, sM_same, sM_K, sM_s, uI_at, uN_at, enc_at, uI_enc, uI_uI, upM_s, upM_n, g1]
        refine ⟨fun _ => fin i hR2, fun q => absurd (nI_le (by omega) (by omega)) q⟩
  refine V_run hB (rt := some .int) (nL := 4) (mc := 0) rfl rfl rfl obX7_skipDigits_0 ?_
  dsimp only [bX7_skipDigits_0, ↓wpb, ↓wp1, ↓vI, ↓vL, ↓vD, ↓ldI, ↓ldL, ↓ldD, ↓ldR, ↓k1, ↓k2, ↓kI, ↓kL, ↓kD, ↓kII, ↓kLL, ↓kDD, ↓kR, ↓kIR, ↓kLR, ↓kIIR, ↓kLIR, ↓kDIR, ↓kRIR, ↓kNN, ↓kE, ↓br, ↓bn, ↓rtI, ↓gfv, ↓zchk, lput, ldel, lbad, alA, acat, isRf, dom, dS, dJ, isO, aTy, aLen, elAV, elR, Nat.reduceBEq, Nat.reduceAdd, Bool.or, Bool.and, Nat.add_zero, Nat.zero_add]
  try simp only [Nat.reduceLT, Nat.reduceLeDiff, Nat.reduceEqDiff, true_and, and_true, and_self, Nat.zero_le, Nat.le_refl, true_or, or_true, Bool.false_eq_true, not_false_eq_true, Nat.reduceAdd, Nat.lt_add_one, Nat.zero_lt_one, nI_add, pk_mul, ixL, vpL, ne_eq, reduceIte, wI_sN, wL_sM, sN_same, sN_K, sN_2, sM_1, sM_same, sM_K, sM_s, uI_at, uN_at, enc_at, uI_enc, uI_uI, upM_s, upM_n]
  exact head m h rfl hh rfl
theorem c_sign (hc : Ctx l G) (hT : TxR τ T) (hl : T.length ≤ 60) (hch : ∀ c ∈ T, c < 128) {c h : Nat} (hcc : c < 128) (hh : h ≤ T.length) : Sat l G iX7_matchSign [pgM, aI (nI c), aI (nI h)] τ (retI (nI (msg T c h)) τ) := by
  have g1 := hT.1
  refine Sat_of hc.1 hc.2 (by decide +kernel) (Nat.le_of_ble_eq_true rfl) (fun x hB hno => ?_)
  have t13 : c ≠ 35 → V x τ 0 13 [(0, pgM), (1, aI (nI c)), (2, aI (nI h))] [] := by
    intro h35
    have t26 : c ≠ 42 → V x τ 0 26 [(0, pgM), (1, aI (nI c)), (2, aI (nI h))] [] := by
      intro h42
      have em : msg T c h = if T[h]? = some c then h + 1 else h := by unfold msg; rw [if_neg h35, if_neg h42]
      rw [em] at hB
      have t50 : T[h]? ≠ some c → V x τ 0 50 [(0, pgM), (1, aI (nI c)), (2, aI (nI h))] [] := by
        intro hne
        rw [if_neg hne] at hB
        refine V_run hB (rt := some .int) (nL := 3) (mc := 0) rfl rfl rfl obX7_matchSign_50 ?_
        dsimp only [bX7_matchSign_50, ↓wpb, ↓wp1, ↓vI, ↓vL, ↓vD, ↓ldI, ↓ldL, ↓ldD, ↓ldR, ↓k1, ↓k2, ↓kI, ↓kL, ↓kD, ↓kII, ↓kLL, ↓kDD, ↓kR, ↓kIR, ↓kLR, ↓kIIR, ↓kLIR, ↓kDIR, ↓kRIR, ↓kNN, ↓kE, ↓br, ↓bn, ↓rtI, ↓gfv, ↓zchk, lput, ldel, lbad, alA, acat, isRf, dom, dS, dJ, isO, aTy, aLen, elAV, elR, Nat.reduceBEq, Nat.reduceAdd, Bool.or, Bool.and, Nat.add_zero, Nat.zero_add]
        try simp only [Nat.reduceLT, Nat.reduceLeDiff, Nat.reduceEqDiff, true_and, and_true, and_self, Nat.zero_le, Nat.le_refl, true_or, or_true, Bool.false_eq_true, not_false_eq_true, Nat.reduceAdd, Nat.lt_add_one, Nat.zero_lt_one, nI_add, pk_mul, ixL, vpL, ne_eq, reduceIte, wI_sN, wL_sM, sN_same, sN_K, sN_2, sM_1, sM_same, sM_K, sM_s, uI_at, uN_at, enc_at, uI_enc, uI_uI, upM_s, upM_n]
        exact ⟨rfl, rfl⟩
      by_cases hhT : h < T.length
      · have ec : T[h]? = some T[h] := List.getElem?_eq_getElem hhT
        have hcm := hch _ (List.getElem_mem hhT)
        have rc := hT.2 h _ ec
        rw [ec] at t50 hB
        generalize T[h] = d at *
        have ix : (nI h).toNatClampNeg = h := ixL (by omega)
        have vx : vp_in (nI h) 60 = True := vpL (by omega) (by omega)
        refine V_run hB (rt := some .int) (nL := 3) (mc := 0) rfl rfl rfl obX7_matchSign_26 ?_
        dsimp only [bX7_matchSign_26, ↓wpb, ↓wp1, ↓vI, ↓vL, ↓vD, ↓ldI, ↓ldL, ↓ldD, ↓ldR, ↓k1, ↓k2, ↓kI, ↓kL, ↓kD, ↓kII, ↓kLL, ↓kDD, ↓kR, ↓kIR, ↓kLR, ↓kIIR, ↓kLIR, ↓kDIR, ↓kRIR, ↓kNN, ↓kE, ↓br, ↓bn, ↓rtI, ↓gfv, ↓zchk, lput, ldel, lbad, alA, acat, isRf, dom, dS, dJ, isO, aTy, aLen, elAV, elR, Nat.reduceBEq, Nat.reduceAdd, Bool.or, Bool.and, Nat.add_zero, Nat.zero_add]
        try simp only [Nat.reduceLT, Nat.reduceLeDiff, Nat.reduceEqDiff, true_and, and_true, and_self, Nat.zero_le, Nat.le_refl, true_or, or_true, Bool.false_eq_true, not_false_eq_true, Nat.reduceAdd, Nat.lt_add_one, Nat.zero_lt_one, nI_add, pk_mul, ixL, vpL, ne_eq, reduceIte, wI_sN, wL_sM, sN_same, sN_K, sN_2, sM_1, sM_same, sM_K, sM_s, uI_at, uN_at, enc_at, uI_enc, uI_uI, upM_s, upM_n, g1, ix, vx, rc]
        rw [nI_eq (show d < 2147483648 by omega) (show c < 2147483648 by omega)]
        refine ⟨fun q => absurd q (nI_ge (by omega) (by omega)), fun _ => ⟨fun q => t50 (fun z => q (Option.some.inj z)), fun q => ?_⟩⟩
        rw [if_pos (by rw [q])] at hB
        refine V_run hB (rt := some .int) (nL := 3) (mc := 0) rfl rfl rfl obX7_matchSign_51 ?_
        dsimp only [bX7_matchSign_51, ↓wpb, ↓wp1, ↓vI, ↓vL, ↓vD, ↓ldI, ↓ldL, ↓ldD, ↓ldR, ↓k1, ↓k2, ↓kI, ↓kL, ↓kD, ↓kII, ↓kLL, ↓kDD, ↓kR, ↓kIR, ↓kLR, ↓kIIR, ↓kLIR, ↓kDIR, ↓kRIR, ↓kNN, ↓kE, ↓br, ↓bn, ↓rtI, ↓gfv, ↓zchk, lput, ldel, lbad, alA, acat, isRf, dom, dS, dJ, isO, aTy, aLen, elAV, elR, Nat.reduceBEq, Nat.reduceAdd, Bool.or, Bool.and, Nat.add_zero, Nat.zero_add]
        try simp only [Nat.reduceLT, Nat.reduceLeDiff, Nat.reduceEqDiff, true_and, and_true, and_self, Nat.zero_le, Nat.le_refl, true_or, or_true, Bool.false_eq_true, not_false_eq_true, Nat.reduceAdd, Nat.lt_add_one, Nat.zero_lt_one, nI_add, pk_mul, ixL, vpL, ne_eq, reduceIte, wI_sN, wL_sM, sN_same, sN_K, sN_2, sM_1, sM_same, sM_K, sM_s, uI_at, uN_at, enc_at, uI_enc, uI_uI, upM_s, upM_n]
        exact ⟨rfl, rfl⟩
      · have hn : T[h]? ≠ some c := by rw [List.getElem?_eq_none (by omega)]; intro z; cases z
        refine V_run hB (rt := some .int) (nL := 3) (mc := 0) rfl rfl rfl (ops := [(26, .iload_n 2, 1, (2, 0, 0, 0, 0, 0), 0), (27, .aload_n 0, 1, (0, 0, 0, 0, 0, 0), 0), (28, .getfield 15, 3, (9, 1, 0, 0, 0, 0), 0), (31, .if_icmp .ge 19, 3, (50, 0, 0, 0, 0, 0), 0)]) (by decide +kernel) ?_
        dsimp only [↓wpb, ↓wp1, ↓vI, ↓vL, ↓vD, ↓ldI, ↓ldL, ↓ldD, ↓ldR, ↓k1, ↓k2, ↓kI, ↓kL, ↓kD, ↓kII, ↓kLL, ↓kDD, ↓kR, ↓kIR, ↓kLR, ↓kIIR, ↓kLIR, ↓kDIR, ↓kRIR, ↓kNN, ↓kE, ↓br, ↓bn, ↓rtI, ↓gfv, ↓zchk, lput, ldel, lbad, alA, acat, isRf, dom, dS, dJ, isO, aTy, aLen, elAV, elR, Nat.reduceBEq, Nat.reduceAdd, Bool.or, Bool.and, Nat.add_zero, Nat.zero_add]
        try simp only [Nat.reduceLT, Nat.reduceLeDiff, Nat.reduceEqDiff, true_and, and_true, and_self, Nat.zero_le, Nat.le_refl, true_or, or_true, Bool.false_eq_true, not_false_eq_true, Nat.reduceAdd, Nat.lt_add_one, Nat.zero_lt_one, nI_add, pk_mul, ixL, vpL, ne_eq, reduceIte, wI_sN, wL_sM, sN_same, sN_K, sN_2, sM_1, sM_same, sM_K, sM_s, uI_at, uN_at, enc_at, uI_enc, uI_uI, upM_s, upM_n, g1]
        refine ⟨fun _ => t50 hn, fun q => absurd (nI_le (by omega) (by omega)) q⟩
    refine V_run hB (rt := some .int) (nL := 3) (mc := 0) rfl rfl rfl (ops := [(13, .iload_n 1, 1, (1, 0, 0, 0, 0, 0), 0), (14, .bipush 42, 2, (0, 0, 0, 0, 0, 0), nI 42), (16, .if_icmp .ne 10, 3, (26, 0, 0, 0, 0, 0), 0)]) (by decide +kernel) ?_
    dsimp only [↓wpb, ↓wp1, ↓vI, ↓vL, ↓vD, ↓ldI, ↓ldL, ↓ldD, ↓ldR, ↓k1, ↓k2, ↓kI, ↓kL, ↓kD, ↓kII, ↓kLL, ↓kDD, ↓kR, ↓kIR, ↓kLR, ↓kIIR, ↓kLIR, ↓kDIR, ↓kRIR, ↓kNN, ↓kE, ↓br, ↓bn, ↓rtI, ↓gfv, ↓zchk, lput, ldel, lbad, alA, acat, isRf, dom, dS, dJ, isO, aTy, aLen, elAV, elR, Nat.reduceBEq, Nat.reduceAdd, Bool.or, Bool.and, Nat.add_zero, Nat.zero_add]
    try simp only [Nat.reduceLT, Nat.reduceLeDiff, Nat.reduceEqDiff, true_and, and_true, and_self, Nat.zero_le, Nat.le_refl, true_or, or_true, Bool.false_eq_true, not_false_eq_true, Nat.reduceAdd, Nat.lt_add_one, Nat.zero_lt_one, nI_add, pk_mul, ixL, vpL, ne_eq, reduceIte, wI_sN, wL_sM, sN_same, sN_K, sN_2, sM_1, sM_same, sM_K, sM_s, uI_at, uN_at, enc_at, uI_enc, uI_uI, upM_s, upM_n]
    rw [nI_eq (show c < 2147483648 by omega) (by omega)]
    refine ⟨fun q => t26 q, fun q => ?_⟩
    have em : msg T c h = (dgt T 3 h 0).2 := by unfold msg; rw [if_neg h35, if_pos q]
    rw [em] at hB
    refine V_run hB (rt := some .int) (nL := 3) (mc := 0) rfl rfl rfl (ops := [(19, .aload_n 0, 1, (0, 0, 0, 0, 0, 0), 0), (20, .iload_n 2, 1, (2, 0, 0, 0, 0, 0), 0), (21, .iconst 3, 1, (0, 0, 0, 0, 0, 0), nI 3)]) (by decide +kernel) ?_
    dsimp only [↓wpb, ↓wp1, ↓vI, ↓vL, ↓vD, ↓ldI, ↓ldL, ↓ldD, ↓ldR, ↓k1, ↓k2, ↓kI, ↓kL, ↓kD, ↓kII, ↓kLL, ↓kDD, ↓kR, ↓kIR, ↓kLR, ↓kIIR, ↓kLIR, ↓kDIR, ↓kRIR, ↓kNN, ↓kE, ↓br, ↓bn, ↓rtI, ↓gfv, ↓zchk, lput, ldel, lbad, alA, acat, isRf, dom, dS, dJ, isO, aTy, aLen, elAV, elR, Nat.reduceBEq, Nat.reduceAdd, Bool.or, Bool.and, Nat.add_zero, Nat.zero_add]
    try simp only [Nat.reduceLT, Nat.reduceLeDiff, Nat.reduceEqDiff, true_and, and_true, and_self, Nat.zero_le, Nat.le_refl, true_or, or_true, Bool.false_eq_true, not_false_eq_true, Nat.reduceAdd, Nat.lt_add_one, Nat.zero_lt_one, nI_add, pk_mul, ixL, vpL, ne_eq, reduceIte, wI_sN, wL_sM, sN_same, sN_K, sN_2, sM_1, sM_same, sM_K, sM_s, uI_at, uN_at, enc_at, uI_enc, uI_uI, upM_s, upM_n]
    refine V_cV hB hno (c_skip hc hT hl hch hh (Nat.le_refl 3)) rfl (by decide +kernel) cvX7_77 (dom1 rfl) npX7_skipDigits ⟨by decide, by decide⟩ (Nat.le_of_ble_eq_true rfl) (n' := 0) (by decide) rfl ?_
    refine V_run hB (rt := some .int) (nL := 3) (mc := 0) rfl rfl rfl obX7_matchSign_25 ?_
    dsimp only [bX7_matchSign_25, ↓wpb, ↓wp1, ↓vI, ↓vL, ↓vD, ↓ldI, ↓ldL, ↓ldD, ↓ldR, ↓k1, ↓k2, ↓kI, ↓kL, ↓kD, ↓kII, ↓kLL, ↓kDD, ↓kR, ↓kIR, ↓kLR, ↓kIIR, ↓kLIR, ↓kDIR, ↓kRIR, ↓kNN, ↓kE, ↓br, ↓bn, ↓rtI, ↓gfv, ↓zchk, lput, ldel, lbad, alA, acat, isRf, dom, dS, dJ, isO, aTy, aLen, elAV, elR, Nat.reduceBEq, Nat.reduceAdd, Bool.or, Bool.and, Nat.add_zero, Nat.zero_add]
    try simp only [Nat.reduceLT, Nat.reduceLeDiff, Nat.reduceEqDiff, true_and, and_true, and_self, Nat.zero_le, Nat.le_refl, true_or, or_true, Bool.false_eq_true, not_false_eq_true, Nat.reduceAdd, Nat.lt_add_one, Nat.zero_lt_one, nI_add, pk_mul, ixL, vpL, ne_eq, reduceIte, wI_sN, wL_sM, sN_same, sN_K, sN_2, sM_1, sM_same, sM_K, sM_s, uI_at, uN_at, enc_at, uI_enc, uI_uI, upM_s, upM_n]
    exact ⟨rfl, rfl⟩
  refine V_run hB (rt := some .int) (nL := 3) (mc := 0) rfl rfl rfl (ops := [(0, .iload_n 1, 1, (1, 0, 0, 0, 0, 0), 0), (1, .bipush 35, 2, (0, 0, 0, 0, 0, 0), nI 35), (3, .if_icmp .ne 10, 3, (13, 0, 0, 0, 0, 0), 0)]) (by decide +kernel) ?_
  dsimp only [↓wpb, ↓wp1, ↓vI, ↓vL, ↓vD, ↓ldI, ↓ldL, ↓ldD, ↓ldR, ↓k1, ↓k2, ↓kI, ↓kL, ↓kD, ↓kII, ↓kLL, ↓kDD, ↓kR, ↓kIR, ↓kLR, ↓kIIR, ↓kLIR, ↓kDIR, ↓kRIR, ↓kNN, ↓kE, ↓br, ↓bn, ↓rtI, ↓gfv, ↓zchk, lput, ldel, lbad, alA, acat, isRf, dom, dS, dJ, isO, aTy, aLen, elAV, elR, Nat.reduceBEq, Nat.reduceAdd, Bool.or, Bool.and, Nat.add_zero, Nat.zero_add]
  try simp only [Nat.reduceLT, Nat.reduceLeDiff, Nat.reduceEqDiff, true_and, and_true, and_self, Nat.zero_le, Nat.le_refl, true_or, or_true, Bool.false_eq_true, not_false_eq_true, Nat.reduceAdd, Nat.lt_add_one, Nat.zero_lt_one, nI_add, pk_mul, ixL, vpL, ne_eq, reduceIte, wI_sN, wL_sM, sN_same, sN_K, sN_2, sM_1, sM_same, sM_K, sM_s, uI_at, uN_at, enc_at, uI_enc, uI_uI, upM_s, upM_n]
  rw [nI_eq (show c < 2147483648 by omega) (by omega)]
  refine ⟨fun q => t13 q, fun q => ?_⟩
  have em : msg T c h = (dgt T 1 h 0).2 := by unfold msg; rw [if_pos q]
  rw [em] at hB
  refine V_run hB (rt := some .int) (nL := 3) (mc := 0) rfl rfl rfl (ops := [(6, .aload_n 0, 1, (0, 0, 0, 0, 0, 0), 0), (7, .iload_n 2, 1, (2, 0, 0, 0, 0, 0), 0), (8, .iconst 1, 1, (0, 0, 0, 0, 0, 0), nI 1)]) (by decide +kernel) ?_
  dsimp only [↓wpb, ↓wp1, ↓vI, ↓vL, ↓vD, ↓ldI, ↓ldL, ↓ldD, ↓ldR, ↓k1, ↓k2, ↓kI, ↓kL, ↓kD, ↓kII, ↓kLL, ↓kDD, ↓kR, ↓kIR, ↓kLR, ↓kIIR, ↓kLIR, ↓kDIR, ↓kRIR, ↓kNN, ↓kE, ↓br, ↓bn, ↓rtI, ↓gfv, ↓zchk, lput, ldel, lbad, alA, acat, isRf, dom, dS, dJ, isO, aTy, aLen, elAV, elR, Nat.reduceBEq, Nat.reduceAdd, Bool.or, Bool.and, Nat.add_zero, Nat.zero_add]
  try simp only [Nat.reduceLT, Nat.reduceLeDiff, Nat.reduceEqDiff, true_and, and_true, and_self, Nat.zero_le, Nat.le_refl, true_or, or_true, Bool.false_eq_true, not_false_eq_true, Nat.reduceAdd, Nat.lt_add_one, Nat.zero_lt_one, nI_add, pk_mul, ixL, vpL, ne_eq, reduceIte, wI_sN, wL_sM, sN_same, sN_K, sN_2, sM_1, sM_same, sM_K, sM_s, uI_at, uN_at, enc_at, uI_enc, uI_uI, upM_s, upM_n]
  refine V_cV hB hno (c_skip hc hT hl hch hh (by omega : 1 ≤ 3)) rfl (by decide +kernel) cvX7_77 (dom1 rfl) npX7_skipDigits ⟨by decide, by decide⟩ (Nat.le_of_ble_eq_true rfl) (n' := 0) (by decide) rfl ?_
  refine V_run hB (rt := some .int) (nL := 3) (mc := 0) rfl rfl rfl obX7_matchSign_12 ?_
  dsimp only [bX7_matchSign_12, ↓wpb, ↓wp1, ↓vI, ↓vL, ↓vD, ↓ldI, ↓ldL, ↓ldD, ↓ldR, ↓k1, ↓k2, ↓kI, ↓kL, ↓kD, ↓kII, ↓kLL, ↓kDD, ↓kR, ↓kIR, ↓kLR, ↓kIIR, ↓kLIR, ↓kDIR, ↓kRIR, ↓kNN, ↓kE, ↓br, ↓bn, ↓rtI, ↓gfv, ↓zchk, lput, ldel, lbad, alA, acat, isRf, dom, dS, dJ, isO, aTy, aLen, elAV, elR, Nat.reduceBEq, Nat.reduceAdd, Bool.or, Bool.and, Nat.add_zero, Nat.zero_add]
  try simp only [Nat.reduceLT, Nat.reduceLeDiff, Nat.reduceEqDiff, true_and, and_true, and_self, Nat.zero_le, Nat.le_refl, true_or, or_true, Bool.false_eq_true, not_false_eq_true, Nat.reduceAdd, Nat.lt_add_one, Nat.zero_lt_one, nI_add, pk_mul, ixL, vpL, ne_eq, reduceIte, wI_sN, wL_sM, sN_same, sN_K, sN_2, sM_1, sM_same, sM_K, sM_s, uI_at, uN_at, enc_at, uI_enc, uI_uI, upM_s, upM_n]
  exact ⟨rfl, rfl⟩
theorem c_number (hc : Ctx l G) (hT : TxR τ T) (hl : T.length ≤ 60) (hch : ∀ c ∈ T, c < 128) {h m : Nat} (hh : h ≤ T.length) (hm : m ≤ 3) : Sat l G iX7_numberBetween [pgM, aI (nI h), aI (nI (dgt T m h 0).2)] τ (retI (nI (dgt T m h 0).1) τ) := by
  have hE := dgt_le T m h 0 hh
  refine Sat_of hc.1 hc.2 (by decide +kernel) (Nat.le_of_ble_eq_true rfl) (fun x hB hno => ?_)
  have head : ∀ k i n, i ≤ T.length → n < 10 ^ (3 - k) → k ≤ 3 → dgt T k i n = dgt T m h 0 → V x τ 0 5 [(0, pgM), (2, aI (nI (dgt T m h 0).2)), (3, aI (nI n)), (4, aI (nI i))] [] := by
    have fin : ∀ i n, (n, i) = dgt T m h 0 → V x τ 0 5 [(0, pgM), (2, aI (nI (dgt T m h 0).2)), (3, aI (nI n)), (4, aI (nI i))] [] := by
      intro i n e
      rw [← e] at hE hB ⊢
      refine V_run hB (rt := some .int) (nL := 5) (mc := 0) rfl rfl rfl (ops := [(5, .iload 4, 2, (4, 0, 0, 0, 0, 0), 0), (7, .iload_n 2, 1, (2, 0, 0, 0, 0, 0), 0), (8, .if_icmp .ge 25, 3, (33, 0, 0, 0, 0, 0), 0)]) (by decide +kernel) ?_
      dsimp only [↓wpb, ↓wp1, ↓vI, ↓vL, ↓vD, ↓ldI, ↓ldL, ↓ldD, ↓ldR, ↓k1, ↓k2, ↓kI, ↓kL, ↓kD, ↓kII, ↓kLL, ↓kDD, ↓kR, ↓kIR, ↓kLR, ↓kIIR, ↓kLIR, ↓kDIR, ↓kRIR, ↓kNN, ↓kE, ↓br, ↓bn, ↓rtI, ↓gfv, ↓zchk, lput, ldel, lbad, alA, acat, isRf, dom, dS, dJ, isO, aTy, aLen, elAV, elR, Nat.reduceBEq, Nat.reduceAdd, Bool.or, Bool.and, Nat.add_zero, Nat.zero_add]
      try simp only [Nat.reduceLT, Nat.reduceLeDiff, Nat.reduceEqDiff, true_and, and_true, and_self, Nat.zero_le, Nat.le_refl, true_or, or_true, Bool.false_eq_true, not_false_eq_true, Nat.reduceAdd, Nat.lt_add_one, Nat.zero_lt_one, nI_add, pk_mul, ixL, vpL, ne_eq, reduceIte, wI_sN, wL_sM, sN_same, sN_K, sN_2, sM_1, sM_same, sM_K, sM_s, uI_at, uN_at, enc_at, uI_enc, uI_uI, upM_s, upM_n]
      refine ⟨fun _ => ?_, fun q => absurd (Int32.le_refl _) q⟩
      refine V_run hB (rt := some .int) (nL := 5) (mc := 0) rfl rfl rfl obX7_numberBetween_33 ?_
      dsimp only [bX7_numberBetween_33, ↓wpb, ↓wp1, ↓vI, ↓vL, ↓vD, ↓ldI, ↓ldL, ↓ldD, ↓ldR, ↓k1, ↓k2, ↓kI, ↓kL, ↓kD, ↓kII, ↓kLL, ↓kDD, ↓kR, ↓kIR, ↓kLR, ↓kIIR, ↓kLIR, ↓kDIR, ↓kRIR, ↓kNN, ↓kE, ↓br, ↓bn, ↓rtI, ↓gfv, ↓zchk, lput, ldel, lbad, alA, acat, isRf, dom, dS, dJ, isO, aTy, aLen, elAV, elR, Nat.reduceBEq, Nat.reduceAdd, Bool.or, Bool.and, Nat.add_zero, Nat.zero_add]
      try simp only [Nat.reduceLT, Nat.reduceLeDiff, Nat.reduceEqDiff, true_and, and_true, and_self, Nat.zero_le, Nat.le_refl, true_or, or_true, Bool.false_eq_true, not_false_eq_true, Nat.reduceAdd, Nat.lt_add_one, Nat.zero_lt_one, nI_add, pk_mul, ixL, vpL, ne_eq, reduceIte, wI_sN, wL_sM, sN_same, sN_K, sN_2, sM_1, sM_same, sM_K, sM_s, uI_at, uN_at, enc_at, uI_enc, uI_uI, upM_s, upM_n]
      exact ⟨rfl, rfl⟩
    intro k
    induction k with
    | zero =>
      intro i n hi hn hk e
      exact fin i n e
    | succ k ih =>
      intro i n hi hn hk e
      rw [dgt_s] at e
      cases ec : T[i]? with
      | none =>
        rw [ec] at e
        exact fin i n e
      | some c =>
        rw [ec] at e
        have e : (if 48 ≤ c ∧ c ≤ 57 then dgt T k (i + 1) (10 * n + c - 48) else (n, i)) = dgt T m h 0 := e
        by_cases hcd : 48 ≤ c ∧ c ≤ 57
        · rw [if_pos hcd] at e
          have hiT := (List.getElem?_eq_some_iff.mp ec).1
          have rc := hT.2 i _ ec
          have hlt : i < (dgt T m h 0).2 := by
            have := (dgt_le T k (i + 1) (10 * n + c - 48) (by omega)).1
            rw [e] at this
            omega
          have hn2 : n < 100 := by
            have : 10 ^ (3 - (k + 1)) ≤ 10 ^ 2 := Nat.pow_le_pow_right (by omega) (by omega)
            omega
          have hn3 : 10 * n + c - 48 < 10 ^ (3 - k) := by
            rw [show 3 - k = (3 - (k + 1)) + 1 by omega, Nat.pow_succ]
            omega
          have es : nI c - nI 48 = nI (c - 48) := pk_sub (by omega)
          have e9 : 10 * n + c - 48 = n * 10 + (c - 48) := by omega
          have ih' := ih (i + 1) (10 * n + c - 48) (by omega) hn3 (by omega) e
          rw [e9] at ih'
          have ix : (nI i).toNatClampNeg = i := ixL (by omega)
          have vx : vp_in (nI i) 60 = True := vpL (by omega) (by omega)
          generalize dgt T m h 0 = D at *
          obtain ⟨N, E⟩ := D
          simp only at hlt hE ih' ⊢
          refine V_run hB (rt := some .int) (nL := 5) (mc := 0) rfl rfl rfl obX7_numberBetween_5 ?_
          dsimp only [bX7_numberBetween_5, ↓wpb, ↓wp1, ↓vI, ↓vL, ↓vD, ↓ldI, ↓ldL, ↓ldD, ↓ldR, ↓k1, ↓k2, ↓kI, ↓kL, ↓kD, ↓kII, ↓kLL, ↓kDD, ↓kR, ↓kIR, ↓kLR, ↓kIIR, ↓kLIR, ↓kDIR, ↓kRIR, ↓kNN, ↓kE, ↓br, ↓bn, ↓rtI, ↓gfv, ↓zchk, lput, ldel, lbad, alA, acat, isRf, dom, dS, dJ, isO, aTy, aLen, elAV, elR, Nat.reduceBEq, Nat.reduceAdd, Bool.or, Bool.and, Nat.add_zero, Nat.zero_add]
          try simp only [Nat.reduceLT, Nat.reduceLeDiff, Nat.reduceEqDiff, true_and, and_true, and_self, Nat.zero_le, Nat.le_refl, true_or, or_true, Bool.false_eq_true, not_false_eq_true, Nat.reduceAdd, Nat.lt_add_one, Nat.zero_lt_one, nI_add, pk_mul, ixL, vpL, ne_eq, reduceIte, wI_sN, wL_sM, sN_same, sN_K, sN_2, sM_1, sM_same, sM_K, sM_s, uI_at, uN_at, enc_at, uI_enc, uI_uI, upM_s, upM_n, ix, vx, rc, es]
          refine ⟨fun q => absurd q (nI_ge (by omega) (by omega)), fun _ => ?_⟩
          exact ih'
        · rw [if_neg hcd] at e
          exact fin i n e
  refine V_run hB (rt := some .int) (nL := 5) (mc := 0) rfl rfl rfl obX7_numberBetween_0 ?_
  dsimp only [bX7_numberBetween_0, ↓wpb, ↓wp1, ↓vI, ↓vL, ↓vD, ↓ldI, ↓ldL, ↓ldD, ↓ldR, ↓k1, ↓k2, ↓kI, ↓kL, ↓kD, ↓kII, ↓kLL, ↓kDD, ↓kR, ↓kIR, ↓kLR, ↓kIIR, ↓kLIR, ↓kDIR, ↓kRIR, ↓kNN, ↓kE, ↓br, ↓bn, ↓rtI, ↓gfv, ↓zchk, lput, ldel, lbad, alA, acat, isRf, dom, dS, dJ, isO, aTy, aLen, elAV, elR, Nat.reduceBEq, Nat.reduceAdd, Bool.or, Bool.and, Nat.add_zero, Nat.zero_add]
  try simp only [Nat.reduceLT, Nat.reduceLeDiff, Nat.reduceEqDiff, true_and, and_true, and_self, Nat.zero_le, Nat.le_refl, true_or, or_true, Bool.false_eq_true, not_false_eq_true, Nat.reduceAdd, Nat.lt_add_one, Nat.zero_lt_one, nI_add, pk_mul, ixL, vpL, ne_eq, reduceIte, wI_sN, wL_sM, sN_same, sN_K, sN_2, sM_1, sM_same, sM_K, sM_s, uI_at, uN_at, enc_at, uI_enc, uI_uI, upM_s, upM_n]
  refine V.sub (head m h 0 hh (Nat.pow_pos (by omega)) hm rfl) (List.forall_mem_cons.mpr ⟨rfl, List.forall_mem_cons.mpr ⟨rfl, List.forall_mem_cons.mpr ⟨rfl, List.forall_mem_cons.mpr ⟨rfl, fun _ h => absurd h List.not_mem_nil⟩⟩⟩⟩)
end B6
