/-! ===== the slip's writing ===== -/
/-- the line L, written over τ0 -/
def LnS (τ0 τ : Mem) (L : List Nat) : Prop := ∃ f, τ = sA (sA τ0 30 (uI (τ0.1 (30, 0, 0)) 19 (nI L.length))) 38 f ∧ ltr f L ∧ L.length ≤ 80
def LnV (τ0 : Mem) (L : List Nat) : AOut → Mem → Prop := fun o τ' => o = .inl none ∧ LnS τ0 τ' L
theorem ltr_app {f : Nat → Int32} {L : List Nat} {c : Nat} (h : ltr f L) : ltr (uI f L.length (nI c)) (L ++ [c]) := by
  intro j d hd
  simp only [uI]
  by_cases hj : j = L.length
  · subst hj
    rw [if_pos rfl]
    rw [List.getElem?_append_right (Nat.le_refl _), Nat.sub_self] at hd
    cases hd
    rfl
  · rw [if_neg hj]
    have hjl := (List.getElem?_eq_some_iff.mp hd).1
    rw [List.length_append] at hjl
    have hjl : j < L.length := by simp only [List.length_cons, List.length_nil] at hjl; omega
    rw [List.getElem?_append_left hjl] at hd
    exact h j d hd
section MK
variable {l : Launch} {G : GG}
theorem q_writes (hc : Ctx l G) {τ0 τ : Mem} {L : List Nat} (h : LnS τ0 τ L) (hl : L.length < 80) (c : Nat) : Sat l G iX11_writes [mM, aI (nI c)] τ (LnV τ0 (L ++ [c])) := by
  obtain ⟨f, rfl, hf, -⟩ := h
  have ix : (nI L.length).toNatClampNeg = L.length := ixL (by omega)
  have vx : vp_in (nI L.length) 80 = True := vpL (by omega) (by omega)
  refine Sat_of hc.1 hc.2 (by decide +kernel) (Nat.le_of_ble_eq_true rfl) (fun x hB hno => ?_)
  refine V_run hB (rt := none) (nL := 2) (mc := 0) rfl rfl rfl obX11_writes_0 ?_
  dsimp only [bX11_writes_0, ↓wpb, ↓wp1, ↓vI, ↓vL, ↓vD, ↓ldI, ↓ldL, ↓ldD, ↓ldR, ↓k1, ↓k2, ↓kI, ↓kL, ↓kD, ↓kII, ↓kLL, ↓kDD, ↓kR, ↓kIR, ↓kLR, ↓kIIR, ↓kLIR, ↓kDIR, ↓kRIR, ↓kNN, ↓kE, ↓br, ↓bn, ↓rtI, ↓gfv, ↓zchk, lput, ldel, lbad, alA, acat, isRf, dom, dS, dJ, isO, aTy, aLen, elAV, elR, Nat.reduceBEq, Nat.reduceAdd, Bool.or, Bool.and, Nat.add_zero, Nat.zero_add]
  try simp only [Nat.reduceLT, Nat.reduceLeDiff, Nat.reduceEqDiff, true_and, and_true, and_self, Nat.zero_le, Nat.le_refl, true_or, or_true, Bool.false_eq_true, not_false_eq_true, Nat.reduceAdd, Nat.lt_add_one, Nat.zero_lt_one, nI_add, pk_mul, ixL, vpL, ne_eq, reduceIte, wI_sA, sA_same, sA_ne, sA_sA, sA_comm, uI_at, uN_at, enc_at, uI_enc, uI_uI, itn1, itn2, itn3, itn4, itc, itc0, itc1, upM_s, upM_n, ix, vx]
  refine ⟨rfl, _, ?_, ltr_app hf, by simp only [List.length_append, List.length_cons, List.length_nil]; omega⟩
  rw [List.length_append, sA_comm (K := 38) (by decide), sA_sA]
  rfl
theorem q_writesThree (hc : Ctx l G) {τ0 τ : Mem} {L : List Nat} (h : LnS τ0 τ L) (hl : L.length + 3 ≤ 80) (c d e : Nat) : Sat l G iX11_writesThree [mM, aI (nI c), aI (nI d), aI (nI e)] τ (LnV τ0 (L ++ [c, d, e])) := by
  refine Sat_of hc.1 hc.2 (by decide +kernel) (Nat.le_of_ble_eq_true rfl) (fun x hB hno => ?_)
  refine V_run hB (rt := none) (nL := 4) (mc := 0) rfl rfl rfl obX11_writesThree_0 ?_
  dsimp only [bX11_writesThree_0, ↓wpb, ↓wp1, ↓vI, ↓vL, ↓vD, ↓ldI, ↓ldL, ↓ldD, ↓ldR, ↓k1, ↓k2, ↓kI, ↓kL, ↓kD, ↓kII, ↓kLL, ↓kDD, ↓kR, ↓kIR, ↓kLR, ↓kIIR, ↓kLIR, ↓kDIR, ↓kRIR, ↓kNN, ↓kE, ↓br, ↓bn, ↓rtI, ↓gfv, ↓zchk, lput, ldel, lbad, alA, acat, isRf, dom, dS, dJ, isO, aTy, aLen, elAV, elR, Nat.reduceBEq, Nat.reduceAdd, Bool.or, Bool.and, Nat.add_zero, Nat.zero_add]
  try simp only [Nat.reduceLT, Nat.reduceLeDiff, Nat.reduceEqDiff, true_and, and_true, and_self, Nat.zero_le, Nat.le_refl, true_or, or_true, Bool.false_eq_true, not_false_eq_true, Nat.reduceAdd, Nat.lt_add_one, Nat.zero_lt_one, nI_add, pk_mul, ixL, vpL, ne_eq, reduceIte, wI_sA, sA_same, sA_ne, sA_sA, sA_comm, uI_at, uN_at, enc_at, uI_enc, uI_uI, itn1, itn2, itn3, itn4, itc, itc0, itc1, upM_s, upM_n]
  refine V_callV hB hno (q_writes hc h (by omega) c) rfl (by decide +kernel) cvX11_175 (dom1 rfl) npX11_writes ⟨by decide, by decide⟩ (Nat.le_of_ble_eq_true rfl) (by decide) ?_ ?_
  rotate_left
  · intro E τ' hq; cases hq.1
  intro v τ' hq
  obtain ⟨e1, h1⟩ := hq
  cases e1
  show V x τ' 0 5 _ _
  refine V_run hB (rt := none) (nL := 4) (mc := 0) rfl rfl rfl obX11_writesThree_5 ?_
  dsimp only [bX11_writesThree_5, ↓wpb, ↓wp1, ↓vI, ↓vL, ↓vD, ↓ldI, ↓ldL, ↓ldD, ↓ldR, ↓k1, ↓k2, ↓kI, ↓kL, ↓kD, ↓kII, ↓kLL, ↓kDD, ↓kR, ↓kIR, ↓kLR, ↓kIIR, ↓kLIR, ↓kDIR, ↓kRIR, ↓kNN, ↓kE, ↓br, ↓bn, ↓rtI, ↓gfv, ↓zchk, lput, ldel, lbad, alA, acat, isRf, dom, dS, dJ, isO, aTy, aLen, elAV, elR, Nat.reduceBEq, Nat.reduceAdd, Bool.or, Bool.and, Nat.add_zero, Nat.zero_add]
  try simp only [Nat.reduceLT, Nat.reduceLeDiff, Nat.reduceEqDiff, true_and, and_true, and_self, Nat.zero_le, Nat.le_refl, true_or, or_true, Bool.false_eq_true, not_false_eq_true, Nat.reduceAdd, Nat.lt_add_one, Nat.zero_lt_one, nI_add, pk_mul, ixL, vpL, ne_eq, reduceIte, wI_sA, sA_same, sA_ne, sA_sA, sA_comm, uI_at, uN_at, enc_at, uI_enc, uI_uI, itn1, itn2, itn3, itn4, itc, itc0, itc1, upM_s, upM_n]
  refine V_callV hB hno (q_writes hc h1 (by simp only [List.length_append, List.length_cons, List.length_nil]; omega) d) rfl (by decide +kernel) cvX11_175 (dom1 rfl) npX11_writes ⟨by decide, by decide⟩ (Nat.le_of_ble_eq_true rfl) (by decide) ?_ ?_
  rotate_left
  · intro E τ' hq; cases hq.1
  intro v τ' hq
  obtain ⟨e1, h2⟩ := hq
  cases e1
  show V x τ' 0 10 _ _
  refine V_run hB (rt := none) (nL := 4) (mc := 0) rfl rfl rfl obX11_writesThree_10 ?_
  dsimp only [bX11_writesThree_10, ↓wpb, ↓wp1, ↓vI, ↓vL, ↓vD, ↓ldI, ↓ldL, ↓ldD, ↓ldR, ↓k1, ↓k2, ↓kI, ↓kL, ↓kD, ↓kII, ↓kLL, ↓kDD, ↓kR, ↓kIR, ↓kLR, ↓kIIR, ↓kLIR, ↓kDIR, ↓kRIR, ↓kNN, ↓kE, ↓br, ↓bn, ↓rtI, ↓gfv, ↓zchk, lput, ldel, lbad, alA, acat, isRf, dom, dS, dJ, isO, aTy, aLen, elAV, elR, Nat.reduceBEq, Nat.reduceAdd, Bool.or, Bool.and, Nat.add_zero, Nat.zero_add]
  try simp only [Nat.reduceLT, Nat.reduceLeDiff, Nat.reduceEqDiff, true_and, and_true, and_self, Nat.zero_le, Nat.le_refl, true_or, or_true, Bool.false_eq_true, not_false_eq_true, Nat.reduceAdd, Nat.lt_add_one, Nat.zero_lt_one, nI_add, pk_mul, ixL, vpL, ne_eq, reduceIte, wI_sA, sA_same, sA_ne, sA_sA, sA_comm, uI_at, uN_at, enc_at, uI_enc, uI_uI, itn1, itn2, itn3, itn4, itc, itc0, itc1, upM_s, upM_n]
  refine V_callV hB hno (q_writes hc h2 (by simp only [List.length_append, List.length_cons, List.length_nil]; omega) e) rfl (by decide +kernel) cvX11_175 (dom1 rfl) npX11_writes ⟨by decide, by decide⟩ (Nat.le_of_ble_eq_true rfl) (by decide) ?_ ?_
  rotate_left
  · intro E τ' hq; cases hq.1
  intro v τ' hq
  obtain ⟨e1, h3⟩ := hq
  cases e1
  show V x τ' 0 15 _ _
  refine V_run hB (rt := none) (nL := 4) (mc := 0) rfl rfl rfl obX11_writesThree_15 ?_
  dsimp only [bX11_writesThree_15, ↓wpb, ↓wp1, ↓vI, ↓vL, ↓vD, ↓ldI, ↓ldL, ↓ldD, ↓ldR, ↓k1, ↓k2, ↓kI, ↓kL, ↓kD, ↓kII, ↓kLL, ↓kDD, ↓kR, ↓kIR, ↓kLR, ↓kIIR, ↓kLIR, ↓kDIR, ↓kRIR, ↓kNN, ↓kE, ↓br, ↓bn, ↓rtI, ↓gfv, ↓zchk, lput, ldel, lbad, alA, acat, isRf, dom, dS, dJ, isO, aTy, aLen, elAV, elR, Nat.reduceBEq, Nat.reduceAdd, Bool.or, Bool.and, Nat.add_zero, Nat.zero_add]
  try simp only [Nat.reduceLT, Nat.reduceLeDiff, Nat.reduceEqDiff, true_and, and_true, and_self, Nat.zero_le, Nat.le_refl, true_or, or_true, Bool.false_eq_true, not_false_eq_true, Nat.reduceAdd, Nat.lt_add_one, Nat.zero_lt_one, nI_add, pk_mul, ixL, vpL, ne_eq, reduceIte, wI_sA, sA_same, sA_ne, sA_sA, sA_comm, uI_at, uN_at, enc_at, uI_enc, uI_uI, itn1, itn2, itn3, itn4, itc, itc0, itc1, upM_s, upM_n]
  rw [List.append_assoc, List.append_assoc] at h3
  exact ⟨rfl, h3⟩
end MK
