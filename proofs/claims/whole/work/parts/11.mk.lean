/-! ===== the slip's writing ===== -/
/-- the line L, written over τ0 -/
def LnS (τ0 τ : Mem) (L : List Nat) : Prop := ∃ f, τ = sA (sA τ0 30 (uI (τ0.1 (30, 0, 0)) 19 (nI L.length))) 38 f ∧ ltr f L ∧ L.length ≤ 80
def LnV (τ0 : Mem) (L : List Nat) : AOut → Mem → Prop := fun o τ' => o = .inl none ∧ LnS τ0 τ' L
theorem ltr_app {f : Nat → Int32} {L : List Nat} {c : Nat} (h : ltr f L) : ltr (uI f L.length (nI c)) (L ++ [c]) := by
  intro j d hd
  simp only [uI]
  by_cases hj : j = L.length
  · subst hj
    rw [if_pos rfl]
    rw [List.getElem?_append_right (Nat.le_refl _), Nat.sub_self] at hd
    cases hd
    rfl
  · rw [if_neg hj]
    have hjl := (List.getElem?_eq_some_iff.mp hd).1
    rw [List.length_append] at hjl
    have hjl : j < L.length := by simp only [List.length_cons, List.length_nil] at hjl; omega
    rw [List.getElem?_append_left hjl] at hd
    exact h j d hd
section MK
variable {l : Launch} {G : GG}
theorem q_writes (hc : Ctx l G) {τ0 τ : Mem} {L : List Nat} (h : LnS τ0 τ L) (hl : L.length < 80) (c : Nat) : Sat l G iX11_writes [mM, aI (nI c)] τ (LnV τ0 (L ++ [c])) := by
  obtain ⟨f, rfl, hf, -⟩ := h
  have ix : (nI L.length).toNatClampNeg = L.length := ixL (by omega)
  have vx : vp_in (nI L.length) 80 = True := vpL (by omega) (by omega)
  refine Sat_of hc.1 hc.2 (by decide +kernel) (Nat.le_of_ble_eq_true rfl) (fun x hB hno => ?_)
  refine V_run hB (rt := none) (nL := 2) (mc := 0) rfl rfl rfl obX11_writes_0 ?_
  dsimp only [bX11_writes_0, ↓wpb, ↓wp1, ↓vI, ↓vL, ↓vD, ↓ldI, ↓ldL, ↓ldD, ↓ldR, ↓k1, ↓k2, ↓kI, ↓kL, ↓kD, ↓kII, ↓kLL, ↓kDD, ↓kR, ↓kIR, ↓kLR, ↓kIIR, ↓kLIR, ↓kDIR, ↓kRIR, ↓kNN, ↓kE, ↓br, ↓bn, ↓rtI, ↓gfv, ↓zchk, lput, ldel, lbad, alA, acat, isRf, dom, dS, dJ, isO, aTy, aLen, elAV, elR, Nat.reduceBEq, Nat.reduceAdd, Bool.or, Bool.and, Nat.add_zero, Nat.zero_add]
  try simp only [Nat.reduceLT, Nat.reduceLeDiff, Nat.reduceEqDiff, true_and, and_true, and_self, Nat.zero_le, Nat.le_refl, true_or, or_true, Bool.false_eq_true, not_false_eq_true, Nat.reduceAdd, Nat.lt_add_one, Nat.zero_lt_one, nI_add, pk_mul, ixL, vpL, ne_eq, reduceIte, wI_sA, sA_same, sA_ne, sA_sA, sA_comm, uI_at, uN_at, enc_at, uI_enc, uI_uI, itn1, itn2, itn3, itn4, itc, itc0, itc1, upM_s, upM_n, ix, vx]
  refine ⟨rfl, _, ?_, ltr_app hf, by simp only [List.length_append, List.length_cons, List.length_nil]; omega⟩
  rw [List.length_append, sA_comm (K := 38) (by decide), sA_sA]
  rfl
theorem q_writesThree (hc : Ctx l G) {τ0 τ : Mem} {L : List Nat} (h : LnS τ0 τ L) (hl : L.length + 3 ≤ 80) (c d e : Nat) : Sat l G iX11_writesThree [mM, aI (nI c), aI (nI d), aI (nI e)] τ (LnV τ0 (L ++ [c, d, e])) := by
  refine Sat_of hc.1 hc.2 (by decide +kernel) (Nat.le_of_ble_eq_true rfl) (fun x hB hno => ?_)
  refine V_run hB (rt := none) (nL := 4) (mc := 0) rfl rfl rfl obX11_writesThree_0 ?_
  dsimp only [bX11_writesThree_0, ↓wpb, ↓wp1, ↓vI, ↓vL, ↓vD, ↓ldI, ↓ldL, ↓ldD, ↓ldR, ↓k1, ↓k2, ↓kI, ↓kL, ↓kD, ↓kII, ↓kLL, ↓kDD, ↓kR, ↓kIR, ↓kLR, ↓kIIR, ↓kLIR, ↓kDIR, ↓kRIR, ↓kNN, ↓kE, ↓br, ↓bn, ↓rtI, ↓gfv, ↓zchk, lput, ldel, lbad, alA, acat, isRf, dom, dS, dJ, isO, aTy, aLen, elAV, elR, Nat.reduceBEq, Nat.reduceAdd, Bool.or, Bool.and, Nat.add_zero, Nat.zero_add]
  try simp only [Nat.reduceLT, Nat.reduceLeDiff, Nat.reduceEqDiff, true_and, and_true, and_self, Nat.zero_le, Nat.le_refl, true_or, or_true, Bool.false_eq_true, not_false_eq_true, Nat.reduceAdd, Nat.lt_add_one, Nat.zero_lt_one, nI_add, pk_mul, ixL, vpL, ne_eq, reduceIte, wI_sA, sA_same, sA_ne, sA_sA, sA_comm, uI_at, uN_at, enc_at, uI_enc, uI_uI, itn1, itn2, itn3, itn4, itc, itc0, itc1, upM_s, upM_n]
  refine V_callV hB hno (q_writes hc h (by omega) c) rfl (by decide +kernel) cvX11_175 (dom1 rfl) npX11_writes ⟨by decide, by decide⟩ (Nat.le_of_ble_eq_true rfl) (by decide) ?_ ?_
  rotate_left
  · intro E τ' hq; cases hq.1
  intro v τ' hq
  obtain ⟨e1, h1⟩ := hq
  cases e1
  show V x τ' 0 5 _ _
  refine V_run hB (rt := none) (nL := 4) (mc := 0) rfl rfl rfl obX11_writesThree_5 ?_
  dsimp only [bX11_writesThree_5, ↓wpb, ↓wp1, ↓vI, ↓vL, ↓vD, ↓ldI, ↓ldL, ↓ldD, ↓ldR, ↓k1, ↓k2, ↓kI, ↓kL, ↓kD, ↓kII, ↓kLL, ↓kDD, ↓kR, ↓kIR, ↓kLR, ↓kIIR, ↓kLIR, ↓kDIR, ↓kRIR, ↓kNN, ↓kE, ↓br, ↓bn, ↓rtI, ↓gfv, ↓zchk, lput, ldel, lbad, alA, acat, isRf, dom, dS, dJ, isO, aTy, aLen, elAV, elR, Nat.reduceBEq, Nat.reduceAdd, Bool.or, Bool.and, Nat.add_zero, Nat.zero_add]
  try simp only [Nat.reduceLT, Nat.reduceLeDiff, Nat.reduceEqDiff, true_and, and_true, and_self, Nat.zero_le, Nat.le_refl, true_or, or_true, Bool.false_eq_true, not_false_eq_true, Nat.reduceAdd, Nat.lt_add_one, Nat.zero_lt_one, nI_add, pk_mul, ixL, vpL, ne_eq, reduceIte, wI_sA, sA_same, sA_ne, sA_sA, sA_comm, uI_at, uN_at, enc_at, uI_enc, uI_uI, itn1, itn2, itn3, itn4, itc, itc0, itc1, upM_s, upM_n]
  refine V_callV hB hno (q_writes hc h1 (by simp only [List.length_append, List.length_cons, List.length_nil]; omega) d) rfl (by decide +kernel) cvX11_175 (dom1 rfl) npX11_writes ⟨by decide, by decide⟩ (Nat.le_of_ble_eq_true rfl) (by decide) ?_ ?_
  rotate_left
  · intro E τ' hq; cases hq.1
  intro v τ' hq
  obtain ⟨e1, h2⟩ := hq
  cases e1
  show V x τ' 0 10 _ _
  refine V_run hB (rt := none) (nL := 4) (mc := 0) rfl rfl rfl obX11_writesThree_10 ?_
  dsimp only [bX11_writesThree_10, ↓wpb, ↓wp1, ↓vI, ↓vL, ↓vD, ↓ldI, ↓ldL, ↓ldD, ↓ldR, ↓k1, ↓k2, ↓kI, ↓kL, ↓kD, ↓kII, ↓kLL, ↓kDD, ↓kR, ↓kIR, ↓kLR, ↓kIIR, ↓kLIR, ↓kDIR, ↓kRIR, ↓kNN, ↓kE, ↓br, ↓bn, ↓rtI, ↓gfv, ↓zchk, lput, ldel, lbad, alA, acat, isRf, dom, dS, dJ, isO, aTy, aLen, elAV, elR, Nat.reduceBEq, Nat.reduceAdd, Bool.or, Bool.and, Nat.add_zero, Nat.zero_add]
  try simp only [Nat.reduceLT, Nat.reduceLeDiff, Nat.reduceEqDiff, true_and, and_true, and_self, Nat.zero_le, Nat.le_refl, true_or, or_true, Bool.false_eq_true, not_false_eq_true, Nat.reduceAdd, Nat.lt_add_one, Nat.zero_lt_one, nI_add, pk_mul, ixL, vpL, ne_eq, reduceIte, wI_sA, sA_same, sA_ne, sA_sA, sA_comm, uI_at, uN_at, enc_at, uI_enc, uI_uI, itn1, itn2, itn3, itn4, itc, itc0, itc1, upM_s, upM_n]
  refine V_callV hB hno (q_writes hc h2 (by simp only [List.length_append, List.length_cons, List.length_nil]; omega) e) rfl (by decide +kernel) cvX11_175 (dom1 rfl) npX11_writes ⟨by decide, by decide⟩ (Nat.le_of_ble_eq_true rfl) (by decide) ?_ ?_
  rotate_left
  · intro E τ' hq; cases hq.1
  intro v τ' hq
  obtain ⟨e1, h3⟩ := hq
  cases e1
  show V x τ' 0 15 _ _
  refine V_run hB (rt := none) (nL := 4) (mc := 0) rfl rfl rfl obX11_writesThree_15 ?_
  dsimp only [bX11_writesThree_15, ↓wpb, ↓wp1, ↓vI, ↓vL, ↓vD, ↓ldI, ↓ldL, ↓ldD, ↓ldR, ↓k1, ↓k2, ↓kI, ↓kL, ↓kD, ↓kII, ↓kLL, ↓kDD, ↓kR, ↓kIR, ↓kLR, ↓kIIR, ↓kLIR, ↓kDIR, ↓kRIR, ↓kNN, ↓kE, ↓br, ↓bn, ↓rtI, ↓gfv, ↓zchk, lput, ldel, lbad, alA, acat, isRf, dom, dS, dJ, isO, aTy, aLen, elAV, elR, Nat.reduceBEq, Nat.reduceAdd, Bool.or, Bool.and, Nat.add_zero, Nat.zero_add]
  try simp only [Nat.reduceLT, Nat.reduceLeDiff, Nat.reduceEqDiff, true_and, and_true, and_self, Nat.zero_le, Nat.le_refl, true_or, or_true, Bool.false_eq_true, not_false_eq_true, Nat.reduceAdd, Nat.lt_add_one, Nat.zero_lt_one, nI_add, pk_mul, ixL, vpL, ne_eq, reduceIte, wI_sA, sA_same, sA_ne, sA_sA, sA_comm, uI_at, uN_at, enc_at, uI_enc, uI_uI, itn1, itn2, itn3, itn4, itc, itc0, itc1, upM_s, upM_n]
  rw [List.append_assoc, List.append_assoc] at h3
  exact ⟨rfl, h3⟩
def dgL (v : Nat) : List Nat := (List.range (sb_dg v)).map (sb_dec v)
theorem dg5 {v : Nat} (h : v < 100000) : sb_dg v ≤ 5 := by
  unfold sb_dg
  repeat' split
  all_goals omega
theorem dg_top {v m : Nat} (h : v < 100000) (hm : m + 1 ≤ sb_dg v) : v / 10 ^ m < 10 ↔ m + 1 = sb_dg v := by
  have h5 := dg5 h
  rcases (by omega : m = 0 ∨ m = 1 ∨ m = 2 ∨ m = 3 ∨ m = 4) with rfl | rfl | rfl | rfl | rfl <;> unfold sb_dg at * <;> simp only [Nat.reducePow] at * <;> (repeat' split at hm) <;> (repeat' split) <;> omega
theorem q_writesNumber (hc : Ctx l G) {τ0 τ : Mem} {L : List Nat} (h : LnS τ0 τ L) {v : Nat} (hv : v < 100000) (hl : L.length + 5 ≤ 80) : Sat l G iX11_writesNumber [mM, aI (nI v)] τ (LnV τ0 (L ++ dgL v)) := by
  have h5 := dg5 hv
  have h1 := (sb_dg_in v).1
  refine Sat_of hc.1 hc.2 (by decide +kernel) (Nat.le_of_ble_eq_true rfl) (fun x hB hno => ?_)
  have p10 : ∀ w, w ≤ 4 → 1 ≤ 10 ^ w ∧ 10 ^ w ≤ 10000 := by decide
  have h18 : ∀ w k, k + w = sb_dg v → ∀ τ', LnS τ0 τ' (L ++ (List.range k).map (sb_dec v)) → V x τ' 0 18 [(0, mM), (1, aI (nI v)), (2, aI (nI (10 ^ w / 10)))] [] := by
    intro w
    induction w with
    | zero =>
      intro k hk τ' hs
      have hk : k = sb_dg v := by omega
      subst hk
      refine V_run hB (rt := none) (nL := 3) (mc := 0) rfl rfl rfl obX11_writesNumber_18 ?_
      dsimp only [bX11_writesNumber_18, ↓wpb, ↓wp1, ↓vI, ↓vL, ↓vD, ↓ldI, ↓ldL, ↓ldD, ↓ldR, ↓k1, ↓k2, ↓kI, ↓kL, ↓kD, ↓kII, ↓kLL, ↓kDD, ↓kR, ↓kIR, ↓kLR, ↓kIIR, ↓kLIR, ↓kDIR, ↓kRIR, ↓kNN, ↓kE, ↓br, ↓bn, ↓rtI, ↓gfv, ↓zchk, lput, ldel, lbad, alA, acat, isRf, dom, dS, dJ, isO, aTy, aLen, elAV, elR, Nat.reduceBEq, Nat.reduceAdd, Bool.or, Bool.and, Nat.add_zero, Nat.zero_add]
      try simp only [Nat.reduceLT, Nat.reduceLeDiff, Nat.reduceEqDiff, true_and, and_true, and_self, Nat.zero_le, Nat.le_refl, true_or, or_true, Bool.false_eq_true, not_false_eq_true, Nat.reduceAdd, Nat.lt_add_one, Nat.zero_lt_one, nI_add, pk_mul, ixL, vpL, ne_eq, reduceIte, wI_sA, sA_same, sA_ne, sA_sA, sA_comm, uI_at, uN_at, enc_at, uI_enc, uI_uI, itn1, itn2, itn3, itn4, itc, itc0, itc1, upM_s, upM_n]
      refine ⟨fun _ => ?_, fun h => absurd (by decide) h⟩
      refine V_run hB (rt := none) (nL := 3) (mc := 0) rfl rfl rfl obX11_writesNumber_43 ?_
      dsimp only [bX11_writesNumber_43, ↓wpb, ↓wp1, ↓vI, ↓vL, ↓vD, ↓ldI, ↓ldL, ↓ldD, ↓ldR, ↓k1, ↓k2, ↓kI, ↓kL, ↓kD, ↓kII, ↓kLL, ↓kDD, ↓kR, ↓kIR, ↓kLR, ↓kIIR, ↓kLIR, ↓kDIR, ↓kRIR, ↓kNN, ↓kE, ↓br, ↓bn, ↓rtI, ↓gfv, ↓zchk, lput, ldel, lbad, alA, acat, isRf, dom, dS, dJ, isO, aTy, aLen, elAV, elR, Nat.reduceBEq, Nat.reduceAdd, Bool.or, Bool.and, Nat.add_zero, Nat.zero_add]
      try simp only [Nat.reduceLT, Nat.reduceLeDiff, Nat.reduceEqDiff, true_and, and_true, and_self, Nat.zero_le, Nat.le_refl, true_or, or_true, Bool.false_eq_true, not_false_eq_true, Nat.reduceAdd, Nat.lt_add_one, Nat.zero_lt_one, nI_add, pk_mul, ixL, vpL, ne_eq, reduceIte, wI_sA, sA_same, sA_ne, sA_sA, sA_comm, uI_at, uN_at, enc_at, uI_enc, uI_uI, itn1, itn2, itn3, itn4, itc, itc0, itc1, upM_s, upM_n]
      exact ⟨rfl, hs⟩
    | succ w ih =>
      intro k hk τ' hs
      have hp := p10 w (by omega)
      have e0 : 10 ^ (w + 1) / 10 = 10 ^ w := by rw [Nat.pow_succ]; omega
      rw [e0]
      have e1 : nI v / nI (10 ^ w) = nI (v / 10 ^ w) := pk_div (by omega) (by omega) (by omega)
      have hlt : v / 10 ^ w < 100000 := Nat.lt_of_le_of_lt (Nat.div_le_self _ _) hv
      have e2 : nI (v / 10 ^ w) - nI (v / 10 ^ w) / nI 10 * nI 10 = nI (v / 10 ^ w % 10) := pk_rem (by omega) (by omega) (by omega)
      have e3 : nI (10 ^ w) / nI 10 = nI (10 ^ w / 10) := pk_div (by omega) (by omega) (by omega)
      refine V_run hB (rt := none) (nL := 3) (mc := 0) rfl rfl rfl obX11_writesNumber_18 ?_
      dsimp only [bX11_writesNumber_18, ↓wpb, ↓wp1, ↓vI, ↓vL, ↓vD, ↓ldI, ↓ldL, ↓ldD, ↓ldR, ↓k1, ↓k2, ↓kI, ↓kL, ↓kD, ↓kII, ↓kLL, ↓kDD, ↓kR, ↓kIR, ↓kLR, ↓kIIR, ↓kLIR, ↓kDIR, ↓kRIR, ↓kNN, ↓kE, ↓br, ↓bn, ↓rtI, ↓gfv, ↓zchk, lput, ldel, lbad, alA, acat, isRf, dom, dS, dJ, isO, aTy, aLen, elAV, elR, Nat.reduceBEq, Nat.reduceAdd, Bool.or, Bool.and, Nat.add_zero, Nat.zero_add]
      try simp only [Nat.reduceLT, Nat.reduceLeDiff, Nat.reduceEqDiff, true_and, and_true, and_self, Nat.zero_le, Nat.le_refl, true_or, or_true, Bool.false_eq_true, not_false_eq_true, Nat.reduceAdd, Nat.lt_add_one, Nat.zero_lt_one, nI_add, pk_mul, ixL, vpL, ne_eq, reduceIte, wI_sA, sA_same, sA_ne, sA_sA, sA_comm, uI_at, uN_at, enc_at, uI_enc, uI_uI, itn1, itn2, itn3, itn4, itc, itc0, itc1, upM_s, upM_n, e1, e2]
      refine ⟨fun h => absurd ((nI_leI (by omega) (by omega)).mp (show nI (10 ^ w) ≤ nI 0 from h)) (by omega), fun _ => ⟨fun h => absurd ((nI_eq (by omega) (by omega)).mp (show nI (10 ^ w) = nI 0 from h)) (by omega), by decide, ?_⟩⟩
      have ec : 48 + v / 10 ^ w % 10 = sb_dec v k := by
        unfold sb_dec
        rw [show sb_dg v - 1 - k = w from by omega]
      refine V_callV hB hno (q_writes hc hs (by rw [List.length_append, List.length_map, List.length_range]; omega) (48 + v / 10 ^ w % 10)) rfl (by decide +kernel) cvX11_175 (dom1 rfl) npX11_writes ⟨by decide, by decide⟩ (Nat.le_of_ble_eq_true rfl) (by decide) ?_ ?_
      rotate_left
      · intro E τ' hq; cases hq.1
      intro v' τ2 hq
      obtain ⟨e5, h5⟩ := hq
      cases e5
      show V x τ2 0 35 _ _
      refine V_run hB (rt := none) (nL := 3) (mc := 0) rfl rfl rfl obX11_writesNumber_35 ?_
      dsimp only [bX11_writesNumber_35, ↓wpb, ↓wp1, ↓vI, ↓vL, ↓vD, ↓ldI, ↓ldL, ↓ldD, ↓ldR, ↓k1, ↓k2, ↓kI, ↓kL, ↓kD, ↓kII, ↓kLL, ↓kDD, ↓kR, ↓kIR, ↓kLR, ↓kIIR, ↓kLIR, ↓kDIR, ↓kRIR, ↓kNN, ↓kE, ↓br, ↓bn, ↓rtI, ↓gfv, ↓zchk, lput, ldel, lbad, alA, acat, isRf, dom, dS, dJ, isO, aTy, aLen, elAV, elR, Nat.reduceBEq, Nat.reduceAdd, Bool.or, Bool.and, Nat.add_zero, Nat.zero_add]
      try simp only [Nat.reduceLT, Nat.reduceLeDiff, Nat.reduceEqDiff, true_and, and_true, and_self, Nat.zero_le, Nat.le_refl, true_or, or_true, Bool.false_eq_true, not_false_eq_true, Nat.reduceAdd, Nat.lt_add_one, Nat.zero_lt_one, nI_add, pk_mul, ixL, vpL, ne_eq, reduceIte, wI_sA, sA_same, sA_ne, sA_sA, sA_comm, uI_at, uN_at, enc_at, uI_enc, uI_uI, itn1, itn2, itn3, itn4, itc, itc0, itc1, upM_s, upM_n, e3]
      refine ⟨by decide, ?_⟩
      refine ih (k + 1) (by omega) τ2 ?_
      rw [List.range_succ, List.map_append, ← List.append_assoc, List.map_cons, List.map_nil, ← ec]
      exact h5
  have h2 : ∀ w m, m + 1 + w = sb_dg v → V x τ 0 2 [(0, mM), (1, aI (nI v)), (2, aI (nI (10 ^ m)))] [] := by
    intro w
    induction w with
    | zero =>
      intro m hm
      have hp := p10 m (by omega)
      have e1 : nI v / nI (10 ^ m) = nI (v / 10 ^ m) := pk_div (by omega) (by omega) (by omega)
      have hlt : v / 10 ^ m < 100000 := Nat.lt_of_le_of_lt (Nat.div_le_self _ _) hv
      have ht := (dg_top hv (m := m) (by omega)).mpr (by omega)
      refine V_run hB (rt := none) (nL := 3) (mc := 0) rfl rfl rfl obX11_writesNumber_2 ?_
      dsimp only [bX11_writesNumber_2, ↓wpb, ↓wp1, ↓vI, ↓vL, ↓vD, ↓ldI, ↓ldL, ↓ldD, ↓ldR, ↓k1, ↓k2, ↓kI, ↓kL, ↓kD, ↓kII, ↓kLL, ↓kDD, ↓kR, ↓kIR, ↓kLR, ↓kIIR, ↓kLIR, ↓kDIR, ↓kRIR, ↓kNN, ↓kE, ↓br, ↓bn, ↓rtI, ↓gfv, ↓zchk, lput, ldel, lbad, alA, acat, isRf, dom, dS, dJ, isO, aTy, aLen, elAV, elR, Nat.reduceBEq, Nat.reduceAdd, Bool.or, Bool.and, Nat.add_zero, Nat.zero_add]
      try simp only [Nat.reduceLT, Nat.reduceLeDiff, Nat.reduceEqDiff, true_and, and_true, and_self, Nat.zero_le, Nat.le_refl, true_or, or_true, Bool.false_eq_true, not_false_eq_true, Nat.reduceAdd, Nat.lt_add_one, Nat.zero_lt_one, nI_add, pk_mul, ixL, vpL, ne_eq, reduceIte, wI_sA, sA_same, sA_ne, sA_sA, sA_comm, uI_at, uN_at, enc_at, uI_enc, uI_uI, itn1, itn2, itn3, itn4, itc, itc0, itc1, upM_s, upM_n, e1]
      refine ⟨fun h => absurd ((nI_eq (by omega) (by omega)).mp (show nI (10 ^ m) = nI 0 from h)) (by omega), fun _ => ?_, fun h => absurd ((nI_ltI (by omega) (by omega)).mpr ht) h⟩
      have h9 := h18 (m + 1) 0 (by omega) τ (by rw [List.range_zero, List.map_nil, List.append_nil]; exact h)
      rw [show 10 ^ (m + 1) / 10 = 10 ^ m from by rw [Nat.pow_succ]; omega] at h9
      exact h9
    | succ w ih =>
      intro m hm
      have hp := p10 m (by omega)
      have e1 : nI v / nI (10 ^ m) = nI (v / 10 ^ m) := pk_div (by omega) (by omega) (by omega)
      have hlt : v / 10 ^ m < 100000 := Nat.lt_of_le_of_lt (Nat.div_le_self _ _) hv
      have ht : ¬ v / 10 ^ m < 10 := fun q => by have := (dg_top hv (m := m) (by omega)).mp q; omega
      refine V_run hB (rt := none) (nL := 3) (mc := 0) rfl rfl rfl obX11_writesNumber_2 ?_
      dsimp only [bX11_writesNumber_2, ↓wpb, ↓wp1, ↓vI, ↓vL, ↓vD, ↓ldI, ↓ldL, ↓ldD, ↓ldR, ↓k1, ↓k2, ↓kI, ↓kL, ↓kD, ↓kII, ↓kLL, ↓kDD, ↓kR, ↓kIR, ↓kLR, ↓kIIR, ↓kLIR, ↓kDIR, ↓kRIR, ↓kNN, ↓kE, ↓br, ↓bn, ↓rtI, ↓gfv, ↓zchk, lput, ldel, lbad, alA, acat, isRf, dom, dS, dJ, isO, aTy, aLen, elAV, elR, Nat.reduceBEq, Nat.reduceAdd, Bool.or, Bool.and, Nat.add_zero, Nat.zero_add]
      try simp only [Nat.reduceLT, Nat.reduceLeDiff, Nat.reduceEqDiff, true_and, and_true, and_self, Nat.zero_le, Nat.le_refl, true_or, or_true, Bool.false_eq_true, not_false_eq_true, Nat.reduceAdd, Nat.lt_add_one, Nat.zero_lt_one, nI_add, pk_mul, ixL, vpL, ne_eq, reduceIte, wI_sA, sA_same, sA_ne, sA_sA, sA_comm, uI_at, uN_at, enc_at, uI_enc, uI_uI, itn1, itn2, itn3, itn4, itc, itc0, itc1, upM_s, upM_n, e1]
      refine ⟨fun h => absurd ((nI_eq (by omega) (by omega)).mp (show nI (10 ^ m) = nI 0 from h)) (by omega), fun h => absurd ((nI_ltI (by omega) (by omega)).mp h) ht, fun _ => ?_⟩
      exact ih (m + 1) (by omega)
  refine V_run hB (rt := none) (nL := 3) (mc := 0) rfl rfl rfl obX11_writesNumber_0 ?_
  dsimp only [bX11_writesNumber_0, ↓wpb, ↓wp1, ↓vI, ↓vL, ↓vD, ↓ldI, ↓ldL, ↓ldD, ↓ldR, ↓k1, ↓k2, ↓kI, ↓kL, ↓kD, ↓kII, ↓kLL, ↓kDD, ↓kR, ↓kIR, ↓kLR, ↓kIIR, ↓kLIR, ↓kDIR, ↓kRIR, ↓kNN, ↓kE, ↓br, ↓bn, ↓rtI, ↓gfv, ↓zchk, lput, ldel, lbad, alA, acat, isRf, dom, dS, dJ, isO, aTy, aLen, elAV, elR, Nat.reduceBEq, Nat.reduceAdd, Bool.or, Bool.and, Nat.add_zero, Nat.zero_add]
  try simp only [Nat.reduceLT, Nat.reduceLeDiff, Nat.reduceEqDiff, true_and, and_true, and_self, Nat.zero_le, Nat.le_refl, true_or, or_true, Bool.false_eq_true, not_false_eq_true, Nat.reduceAdd, Nat.lt_add_one, Nat.zero_lt_one, nI_add, pk_mul, ixL, vpL, ne_eq, reduceIte, wI_sA, sA_same, sA_ne, sA_sA, sA_comm, uI_at, uN_at, enc_at, uI_enc, uI_uI, itn1, itn2, itn3, itn4, itc, itc0, itc1, upM_s, upM_n]
  exact h2 (sb_dg v - 1) 0 (by omega)
end MK
