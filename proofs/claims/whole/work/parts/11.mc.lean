/-! ===== the reference's operations, each whole ===== -/
theorem MS_of {τ : Mem} {c n : Nat} {σ : Sg} (h : MW τ c σ) (hI : IV n σ.1) (hn : n ≤ 1000) : MS τ σ.1 := ⟨h.1, hI.1.1, fun k => by have := hI.bd hn k; omega⟩
theorem op_MW {τ : Mem} {c : Nat} {σ : Sg} (h : MW τ 0 σ) (a' : Nat → Nat) : MW (opM τ c a') c (a', σ.2) := by
  refine ⟨?_, ?_, (h.2.2.s30 _ (Or.inl rfl)).sX _ (by omega)⟩
  · unfold opM; rw [sA_same]
  · unfold opM; rw [sA_ne (by decide), sA_same]; rfl
theorem op_32 {τ : Mem} {c : Nat} {a' : Nat → Nat} : (opM τ c a').1 (32, 0, 0) = τ.1 (32, 0, 0) := by
  unfold opM; rw [sA_ne (by decide), sA_ne (by decide)]
theorem op_Oth {τ τ1 : Mem} (h : Oth τ τ1) (c : Nat) (a' : Nat → Nat) : Oth τ (opM τ1 c a') := (h.sA _ (by decide) (by decide)).sA _ (by decide) (by decide)
theorem sPl_c (a : Nat → Nat) (p0 p1 p2 : Int32) : (sPl a p0 p1 p2).1 < 1000 := by
  unfold sPl
  split
  · split
    · show 2 < 1000; decide
    · split
      · show 3 < 1000; decide
      · show 0 < 1000; decide
  · show 1 < 1000; decide
theorem sRed_c (a : Nat → Nat) (o : Option Nat) : (sRed a o).1 < 1000 := by
  cases o
  · show 1 < 1000; decide
  · show 0 < 1000; decide
theorem sExt_c (a : Nat → Nat) (o : Option Nat) (d : Int32) : (sExt a o d).1 < 1000 := by
  cases o
  · show 1 < 1000; decide
  · unfold sExt
    simp only
    split
    · show 0 < 1000; decide
    · show 2 < 1000; decide
theorem sPas_c (a : Nat → Nat) (p : Int32) : (sPas a p).1 < 1000 := by
  unfold sPas
  split
  · show 0 < 1000; decide
  · show 1 < 1000; decide
theorem sPri_c (a : Nat → Nat) (p : Int32) : (sPri a p).1 < 1000 := by
  unfold sPri
  split
  · show 0 < 1000; decide
  · show 1 < 1000; decide
theorem sRat_c (a : Nat → Nat) (w p : Int32) : (sRat a w p).1 < 1000 := by
  unfold sRat
  split
  · show 0 < 1000; decide
  · show 1 < 1000; decide
theorem sBid_c (a : Nat → Nat) (o : Option Nat) (y c : Int32) : (sBid a o y c).1 < 1000 := by
  cases o
  · show 1 < 1000; decide
  · unfold sBid
    simp only
    split
    · show 0 < 1000; decide
    · show 2 < 1000; decide
theorem sSel_c (a : Nat → Nat) (o : Option Nat) : (sSel a o).1 < 1000 := by
  cases o with
  | none => show 1 < 1000; decide
  | some i =>
    unfold sSel
    simp only
    split
    · show 2 < 1000; decide
    · show 0 < 1000; decide
theorem sEve_c (a : Nat → Nat) : (sEve a).1 < 1000 := by
  unfold sEve
  split
  · show 1 < 1000; decide
  · show 0 < 1000; decide
section MC
variable {l : Launch} {G : GG}
theorem q_pledge (hc : Ctx l G) {τ : Mem} {c0 n : Nat} {σ : Sg} (h : MW τ c0 σ) (hI : IV n σ.1) (hn : n ≤ 1000) (p0 p1 p2 : Int32) : Sat l G iX11_pledge [mM, aI p0, aI p1, aI p2] τ (Ans τ (opS σ (sPl σ.1 p0 p1 p2))) := by
  have hM := Beg_MW h
  have hS := MS_of hM hI hn
  have hI2 := IV_sPl hI p0 p1 p2
  refine Sat_of hc.1 hc.2 (by decide +kernel) (Nat.le_of_ble_eq_true rfl) (fun x hB hno => ?_)
  refine V_run hB (rt := some .int) (nL := 4) (mc := 0) rfl rfl rfl obX11_pledge_0 ?_
  dsimp only [bX11_pledge_0, ↓wpb, ↓wp1, ↓vI, ↓vL, ↓vD, ↓ldI, ↓ldL, ↓ldD, ↓ldR, ↓k1, ↓k2, ↓kI, ↓kL, ↓kD, ↓kII, ↓kLL, ↓kDD, ↓kR, ↓kIR, ↓kLR, ↓kIIR, ↓kLIR, ↓kDIR, ↓kRIR, ↓kNN, ↓kE, ↓br, ↓bn, ↓rtI, ↓gfv, ↓zchk, lput, ldel, lbad, alA, acat, isRf, dom, dS, dJ, isO, aTy, aLen, elAV, elR, Nat.reduceBEq, Nat.reduceAdd, Bool.or, Bool.and, Nat.add_zero, Nat.zero_add]
  try simp only [Nat.reduceLT, Nat.reduceLeDiff, Nat.reduceEqDiff, true_and, and_true, and_self, Nat.zero_le, Nat.le_refl, true_or, or_true, Bool.false_eq_true, not_false_eq_true, Nat.reduceAdd, Nat.lt_add_one, Nat.zero_lt_one, nI_add, pk_mul, ixL, vpL, ne_eq, reduceIte, wI_sA, sA_same, sA_ne, sA_sA, sA_comm, uI_at, uN_at, enc_at, uI_enc, uI_uI, itn1, itn2, itn3, itn4, itc, itc0, itc1, upM_s, upM_n]
  refine V_cVv hB hno (q_begins2 hc τ σ) rfl (by decide +kernel) cvX11_79 (dom1 rfl) npX11_begins ⟨by decide, by decide⟩ (Nat.le_of_ble_eq_true rfl) (n' := 0) (by decide) rfl ?_
  refine V_run hB (rt := some .int) (nL := 4) (mc := 0) rfl rfl rfl obX11_pledge_4 ?_
  dsimp only [bX11_pledge_4, ↓wpb, ↓wp1, ↓vI, ↓vL, ↓vD, ↓ldI, ↓ldL, ↓ldD, ↓ldR, ↓k1, ↓k2, ↓kI, ↓kL, ↓kD, ↓kII, ↓kLL, ↓kDD, ↓kR, ↓kIR, ↓kLR, ↓kIIR, ↓kLIR, ↓kDIR, ↓kRIR, ↓kNN, ↓kE, ↓br, ↓bn, ↓rtI, ↓gfv, ↓zchk, lput, ldel, lbad, alA, acat, isRf, dom, dS, dJ, isO, aTy, aLen, elAV, elR, Nat.reduceBEq, Nat.reduceAdd, Bool.or, Bool.and, Nat.add_zero, Nat.zero_add]
  try simp only [Nat.reduceLT, Nat.reduceLeDiff, Nat.reduceEqDiff, true_and, and_true, and_self, Nat.zero_le, Nat.le_refl, true_or, or_true, Bool.false_eq_true, not_false_eq_true, Nat.reduceAdd, Nat.lt_add_one, Nat.zero_lt_one, nI_add, pk_mul, ixL, vpL, ne_eq, reduceIte, wI_sA, sA_same, sA_ne, sA_sA, sA_comm, uI_at, uN_at, enc_at, uI_enc, uI_uI, itn1, itn2, itn3, itn4, itc, itc0, itc1, upM_s, upM_n]
  refine V_cV hB hno (q_pledges hc hS hM.2.1 hI.2.2.1.2 p0 p1 p2) rfl (by decide +kernel) cvX11_82 (dom1 rfl) npX11_pledges ⟨by decide, by decide⟩ (Nat.le_of_ble_eq_true rfl) (n' := 0) (by decide) rfl ?_
  refine V_callV hB hno (q_ends2 hc (op_MW hM _) (fun k hk => by rw [op_32]; exact Beg_32 h k hk) hI.2.1 hI2.2.1 (sPl_c _ _ _ _)) rfl (by decide +kernel) cvX11_86 (dom1 rfl) npX11_ends ⟨by decide, by decide⟩ (Nat.le_of_ble_eq_true rfl) (by decide) ?_ ?_
  · intro v τ' hq
    obtain ⟨e1, h1, h2⟩ := hq
    cases e1
    refine V_run hB (rt := some .int) (nL := 4) (mc := 0) rfl rfl rfl obX11_pledge_15 ?_
    dsimp only [bX11_pledge_15, ↓wpb, ↓wp1, ↓vI, ↓vL, ↓vD, ↓ldI, ↓ldL, ↓ldD, ↓ldR, ↓k1, ↓k2, ↓kI, ↓kL, ↓kD, ↓kII, ↓kLL, ↓kDD, ↓kR, ↓kIR, ↓kLR, ↓kIIR, ↓kLIR, ↓kDIR, ↓kRIR, ↓kNN, ↓kE, ↓br, ↓bn, ↓rtI, ↓gfv, ↓zchk, lput, ldel, lbad, alA, acat, isRf, dom, dS, dJ, isO, aTy, aLen, elAV, elR, Nat.reduceBEq, Nat.reduceAdd, Bool.or, Bool.and, Nat.add_zero, Nat.zero_add]
    try simp only [Nat.reduceLT, Nat.reduceLeDiff, Nat.reduceEqDiff, true_and, and_true, and_self, Nat.zero_le, Nat.le_refl, true_or, or_true, Bool.false_eq_true, not_false_eq_true, Nat.reduceAdd, Nat.lt_add_one, Nat.zero_lt_one, nI_add, pk_mul, ixL, vpL, ne_eq, reduceIte, wI_sA, sA_same, sA_ne, sA_sA, sA_comm, uI_at, uN_at, enc_at, uI_enc, uI_uI, itn1, itn2, itn3, itn4, itc, itc0, itc1, upM_s, upM_n]
    exact ⟨by decide, rfl, h1, (op_Oth (Beg_Oth τ σ) _ _).trans h2⟩
  · intro E τ' hq; cases hq.1
theorem q_redeem (hc : Ctx l G) {τ : Mem} {c0 n : Nat} {σ : Sg} (h : MW τ c0 σ) (hI : IV n σ.1) (hn : n ≤ 1000) (t : Int32) : Sat l G iX11_redeem [mM, aI t] τ (Ans τ (opS σ (sRed σ.1 (findO σ.1 t false)))) := by
  have hM := Beg_MW h
  have hS := MS_of hM hI hn
  have hI2 := IV_sRed hI (o := findO σ.1 t false) (fun i hi => findO_lt hi)
  refine Sat_of hc.1 hc.2 (by decide +kernel) (Nat.le_of_ble_eq_true rfl) (fun x hB hno => ?_)
  refine V_run hB (rt := some .int) (nL := 2) (mc := 0) rfl rfl rfl obX11_redeem_0 ?_
  dsimp only [bX11_redeem_0, ↓wpb, ↓wp1, ↓vI, ↓vL, ↓vD, ↓ldI, ↓ldL, ↓ldD, ↓ldR, ↓k1, ↓k2, ↓kI, ↓kL, ↓kD, ↓kII, ↓kLL, ↓kDD, ↓kR, ↓kIR, ↓kLR, ↓kIIR, ↓kLIR, ↓kDIR, ↓kRIR, ↓kNN, ↓kE, ↓br, ↓bn, ↓rtI, ↓gfv, ↓zchk, lput, ldel, lbad, alA, acat, isRf, dom, dS, dJ, isO, aTy, aLen, elAV, elR, Nat.reduceBEq, Nat.reduceAdd, Bool.or, Bool.and, Nat.add_zero, Nat.zero_add]
  try simp only [Nat.reduceLT, Nat.reduceLeDiff, Nat.reduceEqDiff, true_and, and_true, and_self, Nat.zero_le, Nat.le_refl, true_or, or_true, Bool.false_eq_true, not_false_eq_true, Nat.reduceAdd, Nat.lt_add_one, Nat.zero_lt_one, nI_add, pk_mul, ixL, vpL, ne_eq, reduceIte, wI_sA, sA_same, sA_ne, sA_sA, sA_comm, uI_at, uN_at, enc_at, uI_enc, uI_uI, itn1, itn2, itn3, itn4, itc, itc0, itc1, upM_s, upM_n]
  refine V_cVv hB hno (q_begins2 hc τ σ) rfl (by decide +kernel) cvX11_79 (dom1 rfl) npX11_begins ⟨by decide, by decide⟩ (Nat.le_of_ble_eq_true rfl) (n' := 0) (by decide) rfl ?_
  refine V_run hB (rt := some .int) (nL := 2) (mc := 0) rfl rfl rfl obX11_redeem_4 ?_
  dsimp only [bX11_redeem_4, ↓wpb, ↓wp1, ↓vI, ↓vL, ↓vD, ↓ldI, ↓ldL, ↓ldD, ↓ldR, ↓k1, ↓k2, ↓kI, ↓kL, ↓kD, ↓kII, ↓kLL, ↓kDD, ↓kR, ↓kIR, ↓kLR, ↓kIIR, ↓kLIR, ↓kDIR, ↓kRIR, ↓kNN, ↓kE, ↓br, ↓bn, ↓rtI, ↓gfv, ↓zchk, lput, ldel, lbad, alA, acat, isRf, dom, dS, dJ, isO, aTy, aLen, elAV, elR, Nat.reduceBEq, Nat.reduceAdd, Bool.or, Bool.and, Nat.add_zero, Nat.zero_add]
  try simp only [Nat.reduceLT, Nat.reduceLeDiff, Nat.reduceEqDiff, true_and, and_true, and_self, Nat.zero_le, Nat.le_refl, true_or, or_true, Bool.false_eq_true, not_false_eq_true, Nat.reduceAdd, Nat.lt_add_one, Nat.zero_lt_one, nI_add, pk_mul, ixL, vpL, ne_eq, reduceIte, wI_sA, sA_same, sA_ne, sA_sA, sA_comm, uI_at, uN_at, enc_at, uI_enc, uI_uI, itn1, itn2, itn3, itn4, itc, itc0, itc1, upM_s, upM_n]
  refine V_cV hB hno (q_findOf hc hS t false) rfl (by decide +kernel) cvX11_99 (dom1 rfl) npX11_findOf ⟨by decide, by decide⟩ (Nat.le_of_ble_eq_true rfl) (n' := 0) (by decide) rfl ?_
  refine V_cV hB hno (q_redeems hc hS hM.2.1 (fun i hi => ⟨(findO_lt hi).1, hI.okD (e := 0) (findO_lt hi).1 (findO_lt hi).2 (by omega)⟩) (fun i hi => by have h1 := hI.dbt (findO_lt hi).1 (findO_lt hi).2; have h2 := hI.bd hn 2; have h3 := hI.bd hn 5; have h4 := hI.bd hn (16 + 12 * i + 3); unfold it; omega)) rfl (by decide +kernel) cvX11_103 (dom1 rfl) npX11_redeems ⟨by decide, by decide⟩ (Nat.le_of_ble_eq_true rfl) (n' := 0) (by decide) rfl ?_
  refine V_callV hB hno (q_ends2 hc (op_MW hM _) (fun k hk => by rw [op_32]; exact Beg_32 h k hk) hI.2.1 hI2.2.1 (sRed_c _ _)) rfl (by decide +kernel) cvX11_86 (dom1 rfl) npX11_ends ⟨by decide, by decide⟩ (Nat.le_of_ble_eq_true rfl) (by decide) ?_ ?_
  · intro v τ' hq
    obtain ⟨e1, h1, h2⟩ := hq
    cases e1
    refine V_run hB (rt := some .int) (nL := 2) (mc := 0) rfl rfl rfl obX11_redeem_18 ?_
    dsimp only [bX11_redeem_18, ↓wpb, ↓wp1, ↓vI, ↓vL, ↓vD, ↓ldI, ↓ldL, ↓ldD, ↓ldR, ↓k1, ↓k2, ↓kI, ↓kL, ↓kD, ↓kII, ↓kLL, ↓kDD, ↓kR, ↓kIR, ↓kLR, ↓kIIR, ↓kLIR, ↓kDIR, ↓kRIR, ↓kNN, ↓kE, ↓br, ↓bn, ↓rtI, ↓gfv, ↓zchk, lput, ldel, lbad, alA, acat, isRf, dom, dS, dJ, isO, aTy, aLen, elAV, elR, Nat.reduceBEq, Nat.reduceAdd, Bool.or, Bool.and, Nat.add_zero, Nat.zero_add]
    try simp only [Nat.reduceLT, Nat.reduceLeDiff, Nat.reduceEqDiff, true_and, and_true, and_self, Nat.zero_le, Nat.le_refl, true_or, or_true, Bool.false_eq_true, not_false_eq_true, Nat.reduceAdd, Nat.lt_add_one, Nat.zero_lt_one, nI_add, pk_mul, ixL, vpL, ne_eq, reduceIte, wI_sA, sA_same, sA_ne, sA_sA, sA_comm, uI_at, uN_at, enc_at, uI_enc, uI_uI, itn1, itn2, itn3, itn4, itc, itc0, itc1, upM_s, upM_n]
    exact ⟨by decide, rfl, h1, (op_Oth (Beg_Oth τ σ) _ _).trans h2⟩
  · intro E τ' hq; cases hq.1
theorem q_extend (hc : Ctx l G) {τ : Mem} {c0 n : Nat} {σ : Sg} (h : MW τ c0 σ) (hI : IV n σ.1) (hn : n ≤ 1000) (t d : Int32) : Sat l G iX11_extend [mM, aI t, aI d] τ (Ans τ (opS σ (sExt σ.1 (findO σ.1 t false) d))) := by
  have hM := Beg_MW h
  have hS := MS_of hM hI hn
  have hI2 := IV_sExt hI (o := findO σ.1 t false) d (fun i hi => findO_lt hi)
  refine Sat_of hc.1 hc.2 (by decide +kernel) (Nat.le_of_ble_eq_true rfl) (fun x hB hno => ?_)
  refine V_run hB (rt := some .int) (nL := 3) (mc := 0) rfl rfl rfl obX11_extend_0 ?_
  dsimp only [bX11_extend_0, ↓wpb, ↓wp1, ↓vI, ↓vL, ↓vD, ↓ldI, ↓ldL, ↓ldD, ↓ldR, ↓k1, ↓k2, ↓kI, ↓kL, ↓kD, ↓kII, ↓kLL, ↓kDD, ↓kR, ↓kIR, ↓kLR, ↓kIIR, ↓kLIR, ↓kDIR, ↓kRIR, ↓kNN, ↓kE, ↓br, ↓bn, ↓rtI, ↓gfv, ↓zchk, lput, ldel, lbad, alA, acat, isRf, dom, dS, dJ, isO, aTy, aLen, elAV, elR, Nat.reduceBEq, Nat.reduceAdd, Bool.or, Bool.and, Nat.add_zero, Nat.zero_add]
  try simp only [Nat.reduceLT, Nat.reduceLeDiff, Nat.reduceEqDiff, true_and, and_true, and_self, Nat.zero_le, Nat.le_refl, true_or, or_true, Bool.false_eq_true, not_false_eq_true, Nat.reduceAdd, Nat.lt_add_one, Nat.zero_lt_one, nI_add, pk_mul, ixL, vpL, ne_eq, reduceIte, wI_sA, sA_same, sA_ne, sA_sA, sA_comm, uI_at, uN_at, enc_at, uI_enc, uI_uI, itn1, itn2, itn3, itn4, itc, itc0, itc1, upM_s, upM_n]
  refine V_cVv hB hno (q_begins2 hc τ σ) rfl (by decide +kernel) cvX11_79 (dom1 rfl) npX11_begins ⟨by decide, by decide⟩ (Nat.le_of_ble_eq_true rfl) (n' := 0) (by decide) rfl ?_
  refine V_run hB (rt := some .int) (nL := 3) (mc := 0) rfl rfl rfl obX11_extend_4 ?_
  dsimp only [bX11_extend_4, ↓wpb, ↓wp1, ↓vI, ↓vL, ↓vD, ↓ldI, ↓ldL, ↓ldD, ↓ldR, ↓k1, ↓k2, ↓kI, ↓kL, ↓kD, ↓kII, ↓kLL, ↓kDD, ↓kR, ↓kIR, ↓kLR, ↓kIIR, ↓kLIR, ↓kDIR, ↓kRIR, ↓kNN, ↓kE, ↓br, ↓bn, ↓rtI, ↓gfv, ↓zchk, lput, ldel, lbad, alA, acat, isRf, dom, dS, dJ, isO, aTy, aLen, elAV, elR, Nat.reduceBEq, Nat.reduceAdd, Bool.or, Bool.and, Nat.add_zero, Nat.zero_add]
  try simp only [Nat.reduceLT, Nat.reduceLeDiff, Nat.reduceEqDiff, true_and, and_true, and_self, Nat.zero_le, Nat.le_refl, true_or, or_true, Bool.false_eq_true, not_false_eq_true, Nat.reduceAdd, Nat.lt_add_one, Nat.zero_lt_one, nI_add, pk_mul, ixL, vpL, ne_eq, reduceIte, wI_sA, sA_same, sA_ne, sA_sA, sA_comm, uI_at, uN_at, enc_at, uI_enc, uI_uI, itn1, itn2, itn3, itn4, itc, itc0, itc1, upM_s, upM_n]
  refine V_cV hB hno (q_findOf hc hS t false) rfl (by decide +kernel) cvX11_99 (dom1 rfl) npX11_findOf ⟨by decide, by decide⟩ (Nat.le_of_ble_eq_true rfl) (n' := 0) (by decide) rfl ?_
  refine V_run hB (rt := some .int) (nL := 3) (mc := 0) rfl rfl rfl obX11_extend_12 ?_
  dsimp only [bX11_extend_12, ↓wpb, ↓wp1, ↓vI, ↓vL, ↓vD, ↓ldI, ↓ldL, ↓ldD, ↓ldR, ↓k1, ↓k2, ↓kI, ↓kL, ↓kD, ↓kII, ↓kLL, ↓kDD, ↓kR, ↓kIR, ↓kLR, ↓kIIR, ↓kLIR, ↓kDIR, ↓kRIR, ↓kNN, ↓kE, ↓br, ↓bn, ↓rtI, ↓gfv, ↓zchk, lput, ldel, lbad, alA, acat, isRf, dom, dS, dJ, isO, aTy, aLen, elAV, elR, Nat.reduceBEq, Nat.reduceAdd, Bool.or, Bool.and, Nat.add_zero, Nat.zero_add]
  try simp only [Nat.reduceLT, Nat.reduceLeDiff, Nat.reduceEqDiff, true_and, and_true, and_self, Nat.zero_le, Nat.le_refl, true_or, or_true, Bool.false_eq_true, not_false_eq_true, Nat.reduceAdd, Nat.lt_add_one, Nat.zero_lt_one, nI_add, pk_mul, ixL, vpL, ne_eq, reduceIte, wI_sA, sA_same, sA_ne, sA_sA, sA_comm, uI_at, uN_at, enc_at, uI_enc, uI_uI, itn1, itn2, itn3, itn4, itc, itc0, itc1, upM_s, upM_n]
  refine V_cV hB hno (q_extends hc hS hM.2.1 d (fun i hi => ⟨(findO_lt hi).1, hI.okD (e := 0) (findO_lt hi).1 (findO_lt hi).2 (by omega)⟩)) rfl (by decide +kernel) cvX11_106 (dom1 rfl) npX11_extends1 ⟨by decide, by decide⟩ (Nat.le_of_ble_eq_true rfl) (n' := 0) (by decide) rfl ?_
  refine V_callV hB hno (q_ends2 hc (op_MW hM _) (fun k hk => by rw [op_32]; exact Beg_32 h k hk) hI.2.1 hI2.2.1 (sExt_c _ _ _)) rfl (by decide +kernel) cvX11_86 (dom1 rfl) npX11_ends ⟨by decide, by decide⟩ (Nat.le_of_ble_eq_true rfl) (by decide) ?_ ?_
  · intro v τ' hq
    obtain ⟨e1, h1, h2⟩ := hq
    cases e1
    refine V_run hB (rt := some .int) (nL := 3) (mc := 0) rfl rfl rfl obX11_extend_19 ?_
    dsimp only [bX11_extend_19, ↓wpb, ↓wp1, ↓vI, ↓vL, ↓vD, ↓ldI, ↓ldL, ↓ldD, ↓ldR, ↓k1, ↓k2, ↓kI, ↓kL, ↓kD, ↓kII, ↓kLL, ↓kDD, ↓kR, ↓kIR, ↓kLR, ↓kIIR, ↓kLIR, ↓kDIR, ↓kRIR, ↓kNN, ↓kE, ↓br, ↓bn, ↓rtI, ↓gfv, ↓zchk, lput, ldel, lbad, alA, acat, isRf, dom, dS, dJ, isO, aTy, aLen, elAV, elR, Nat.reduceBEq, Nat.reduceAdd, Bool.or, Bool.and, Nat.add_zero, Nat.zero_add]
    try simp only [Nat.reduceLT, Nat.reduceLeDiff, Nat.reduceEqDiff, true_and, and_true, and_self, Nat.zero_le, Nat.le_refl, true_or, or_true, Bool.false_eq_true, not_false_eq_true, Nat.reduceAdd, Nat.lt_add_one, Nat.zero_lt_one, nI_add, pk_mul, ixL, vpL, ne_eq, reduceIte, wI_sA, sA_same, sA_ne, sA_sA, sA_comm, uI_at, uN_at, enc_at, uI_enc, uI_uI, itn1, itn2, itn3, itn4, itc, itc0, itc1, upM_s, upM_n]
    exact ⟨by decide, rfl, h1, (op_Oth (Beg_Oth τ σ) _ _).trans h2⟩
  · intro E τ' hq; cases hq.1
theorem q_passDays (hc : Ctx l G) {τ : Mem} {c0 n : Nat} {σ : Sg} (h : MW τ c0 σ) (hI : IV n σ.1) (hn : n ≤ 1000) (p : Int32) : Sat l G iX11_passDays [mM, aI p] τ (Ans τ (opS σ (sPas σ.1 p))) := by
  have hM := Beg_MW h
  have hS := MS_of hM hI hn
  have hI2 := IV_sPas hI p
  refine Sat_of hc.1 hc.2 (by decide +kernel) (Nat.le_of_ble_eq_true rfl) (fun x hB hno => ?_)
  refine V_run hB (rt := some .int) (nL := 2) (mc := 0) rfl rfl rfl obX11_passDays_0 ?_
  dsimp only [bX11_passDays_0, ↓wpb, ↓wp1, ↓vI, ↓vL, ↓vD, ↓ldI, ↓ldL, ↓ldD, ↓ldR, ↓k1, ↓k2, ↓kI, ↓kL, ↓kD, ↓kII, ↓kLL, ↓kDD, ↓kR, ↓kIR, ↓kLR, ↓kIIR, ↓kLIR, ↓kDIR, ↓kRIR, ↓kNN, ↓kE, ↓br, ↓bn, ↓rtI, ↓gfv, ↓zchk, lput, ldel, lbad, alA, acat, isRf, dom, dS, dJ, isO, aTy, aLen, elAV, elR, Nat.reduceBEq, Nat.reduceAdd, Bool.or, Bool.and, Nat.add_zero, Nat.zero_add]
  try simp only [Nat.reduceLT, Nat.reduceLeDiff, Nat.reduceEqDiff, true_and, and_true, and_self, Nat.zero_le, Nat.le_refl, true_or, or_true, Bool.false_eq_true, not_false_eq_true, Nat.reduceAdd, Nat.lt_add_one, Nat.zero_lt_one, nI_add, pk_mul, ixL, vpL, ne_eq, reduceIte, wI_sA, sA_same, sA_ne, sA_sA, sA_comm, uI_at, uN_at, enc_at, uI_enc, uI_uI, itn1, itn2, itn3, itn4, itc, itc0, itc1, upM_s, upM_n]
  refine V_cVv hB hno (q_begins2 hc τ σ) rfl (by decide +kernel) cvX11_79 (dom1 rfl) npX11_begins ⟨by decide, by decide⟩ (Nat.le_of_ble_eq_true rfl) (n' := 0) (by decide) rfl ?_
  refine V_run hB (rt := some .int) (nL := 2) (mc := 0) rfl rfl rfl obX11_passDays_4 ?_
  dsimp only [bX11_passDays_4, ↓wpb, ↓wp1, ↓vI, ↓vL, ↓vD, ↓ldI, ↓ldL, ↓ldD, ↓ldR, ↓k1, ↓k2, ↓kI, ↓kL, ↓kD, ↓kII, ↓kLL, ↓kDD, ↓kR, ↓kIR, ↓kLR, ↓kIIR, ↓kLIR, ↓kDIR, ↓kRIR, ↓kNN, ↓kE, ↓br, ↓bn, ↓rtI, ↓gfv, ↓zchk, lput, ldel, lbad, alA, acat, isRf, dom, dS, dJ, isO, aTy, aLen, elAV, elR, Nat.reduceBEq, Nat.reduceAdd, Bool.or, Bool.and, Nat.add_zero, Nat.zero_add]
  try simp only [Nat.reduceLT, Nat.reduceLeDiff, Nat.reduceEqDiff, true_and, and_true, and_self, Nat.zero_le, Nat.le_refl, true_or, or_true, Bool.false_eq_true, not_false_eq_true, Nat.reduceAdd, Nat.lt_add_one, Nat.zero_lt_one, nI_add, pk_mul, ixL, vpL, ne_eq, reduceIte, wI_sA, sA_same, sA_ne, sA_sA, sA_comm, uI_at, uN_at, enc_at, uI_enc, uI_uI, itn1, itn2, itn3, itn4, itc, itc0, itc1, upM_s, upM_n]
  refine V_cV hB hno (q_passes hc hS hM.2.1 hI.min (fun k => by have := hI.bd hn k; omega) p) rfl (by decide +kernel) cvX11_109 (dom1 rfl) npX11_passes ⟨by decide, by decide⟩ (Nat.le_of_ble_eq_true rfl) (n' := 0) (by decide) rfl ?_
  refine V_callV hB hno (q_ends2 hc (op_MW hM _) (fun k hk => by rw [op_32]; exact Beg_32 h k hk) hI.2.1 hI2.2.1 (sPas_c _ _)) rfl (by decide +kernel) cvX11_86 (dom1 rfl) npX11_ends ⟨by decide, by decide⟩ (Nat.le_of_ble_eq_true rfl) (by decide) ?_ ?_
  · intro v τ' hq
    obtain ⟨e1, h1, h2⟩ := hq
    cases e1
    refine V_run hB (rt := some .int) (nL := 2) (mc := 0) rfl rfl rfl obX11_passDays_13 ?_
    dsimp only [bX11_passDays_13, ↓wpb, ↓wp1, ↓vI, ↓vL, ↓vD, ↓ldI, ↓ldL, ↓ldD, ↓ldR, ↓k1, ↓k2, ↓kI, ↓kL, ↓kD, ↓kII, ↓kLL, ↓kDD, ↓kR, ↓kIR, ↓kLR, ↓kIIR, ↓kLIR, ↓kDIR, ↓kRIR, ↓kNN, ↓kE, ↓br, ↓bn, ↓rtI, ↓gfv, ↓zchk, lput, ldel, lbad, alA, acat, isRf, dom, dS, dJ, isO, aTy, aLen, elAV, elR, Nat.reduceBEq, Nat.reduceAdd, Bool.or, Bool.and, Nat.add_zero, Nat.zero_add]
    try simp only [Nat.reduceLT, Nat.reduceLeDiff, Nat.reduceEqDiff, true_and, and_true, and_self, Nat.zero_le, Nat.le_refl, true_or, or_true, Bool.false_eq_true, not_false_eq_true, Nat.reduceAdd, Nat.lt_add_one, Nat.zero_lt_one, nI_add, pk_mul, ixL, vpL, ne_eq, reduceIte, wI_sA, sA_same, sA_ne, sA_sA, sA_comm, uI_at, uN_at, enc_at, uI_enc, uI_uI, itn1, itn2, itn3, itn4, itc, itc0, itc1, upM_s, upM_n]
    exact ⟨by decide, rfl, h1, (op_Oth (Beg_Oth τ σ) _ _).trans h2⟩
  · intro E τ' hq; cases hq.1
theorem q_setPrice (hc : Ctx l G) {τ : Mem} {c0 n : Nat} {σ : Sg} (h : MW τ c0 σ) (hI : IV n σ.1) (hn : n ≤ 1000) (p : Int32) : Sat l G iX11_setPrice [mM, aI p] τ (Ans τ (opS σ (sPri σ.1 p))) := by
  have hM := Beg_MW h
  have hS := MS_of hM hI hn
  have hI2 := IV_sPri hI p
  refine Sat_of hc.1 hc.2 (by decide +kernel) (Nat.le_of_ble_eq_true rfl) (fun x hB hno => ?_)
  refine V_run hB (rt := some .int) (nL := 2) (mc := 0) rfl rfl rfl obX11_setPrice_0 ?_
  dsimp only [bX11_setPrice_0, ↓wpb, ↓wp1, ↓vI, ↓vL, ↓vD, ↓ldI, ↓ldL, ↓ldD, ↓ldR, ↓k1, ↓k2, ↓kI, ↓kL, ↓kD, ↓kII, ↓kLL, ↓kDD, ↓kR, ↓kIR, ↓kLR, ↓kIIR, ↓kLIR, ↓kDIR, ↓kRIR, ↓kNN, ↓kE, ↓br, ↓bn, ↓rtI, ↓gfv, ↓zchk, lput, ldel, lbad, alA, acat, isRf, dom, dS, dJ, isO, aTy, aLen, elAV, elR, Nat.reduceBEq, Nat.reduceAdd, Bool.or, Bool.and, Nat.add_zero, Nat.zero_add]
  try simp only [Nat.reduceLT, Nat.reduceLeDiff, Nat.reduceEqDiff, true_and, and_true, and_self, Nat.zero_le, Nat.le_refl, true_or, or_true, Bool.false_eq_true, not_false_eq_true, Nat.reduceAdd, Nat.lt_add_one, Nat.zero_lt_one, nI_add, pk_mul, ixL, vpL, ne_eq, reduceIte, wI_sA, sA_same, sA_ne, sA_sA, sA_comm, uI_at, uN_at, enc_at, uI_enc, uI_uI, itn1, itn2, itn3, itn4, itc, itc0, itc1, upM_s, upM_n]
  refine V_cVv hB hno (q_begins2 hc τ σ) rfl (by decide +kernel) cvX11_79 (dom1 rfl) npX11_begins ⟨by decide, by decide⟩ (Nat.le_of_ble_eq_true rfl) (n' := 0) (by decide) rfl ?_
  refine V_run hB (rt := some .int) (nL := 2) (mc := 0) rfl rfl rfl obX11_setPrice_4 ?_
  dsimp only [bX11_setPrice_4, ↓wpb, ↓wp1, ↓vI, ↓vL, ↓vD, ↓ldI, ↓ldL, ↓ldD, ↓ldR, ↓k1, ↓k2, ↓kI, ↓kL, ↓kD, ↓kII, ↓kLL, ↓kDD, ↓kR, ↓kIR, ↓kLR, ↓kIIR, ↓kLIR, ↓kDIR, ↓kRIR, ↓kNN, ↓kE, ↓br, ↓bn, ↓rtI, ↓gfv, ↓zchk, lput, ldel, lbad, alA, acat, isRf, dom, dS, dJ, isO, aTy, aLen, elAV, elR, Nat.reduceBEq, Nat.reduceAdd, Bool.or, Bool.and, Nat.add_zero, Nat.zero_add]
  try simp only [Nat.reduceLT, Nat.reduceLeDiff, Nat.reduceEqDiff, true_and, and_true, and_self, Nat.zero_le, Nat.le_refl, true_or, or_true, Bool.false_eq_true, not_false_eq_true, Nat.reduceAdd, Nat.lt_add_one, Nat.zero_lt_one, nI_add, pk_mul, ixL, vpL, ne_eq, reduceIte, wI_sA, sA_same, sA_ne, sA_sA, sA_comm, uI_at, uN_at, enc_at, uI_enc, uI_uI, itn1, itn2, itn3, itn4, itc, itc0, itc1, upM_s, upM_n]
  refine V_cV hB hno (q_prices hc hS hM.2.1 p) rfl (by decide +kernel) cvX11_112 (dom1 rfl) npX11_prices ⟨by decide, by decide⟩ (Nat.le_of_ble_eq_true rfl) (n' := 0) (by decide) rfl ?_
  refine V_callV hB hno (q_ends2 hc (op_MW hM _) (fun k hk => by rw [op_32]; exact Beg_32 h k hk) hI.2.1 hI2.2.1 (sPri_c _ _)) rfl (by decide +kernel) cvX11_86 (dom1 rfl) npX11_ends ⟨by decide, by decide⟩ (Nat.le_of_ble_eq_true rfl) (by decide) ?_ ?_
  · intro v τ' hq
    obtain ⟨e1, h1, h2⟩ := hq
    cases e1
    refine V_run hB (rt := some .int) (nL := 2) (mc := 0) rfl rfl rfl obX11_setPrice_13 ?_
    dsimp only [bX11_setPrice_13, ↓wpb, ↓wp1, ↓vI, ↓vL, ↓vD, ↓ldI, ↓ldL, ↓ldD, ↓ldR, ↓k1, ↓k2, ↓kI, ↓kL, ↓kD, ↓kII, ↓kLL, ↓kDD, ↓kR, ↓kIR, ↓kLR, ↓kIIR, ↓kLIR, ↓kDIR, ↓kRIR, ↓kNN, ↓kE, ↓br, ↓bn, ↓rtI, ↓gfv, ↓zchk, lput, ldel, lbad, alA, acat, isRf, dom, dS, dJ, isO, aTy, aLen, elAV, elR, Nat.reduceBEq, Nat.reduceAdd, Bool.or, Bool.and, Nat.add_zero, Nat.zero_add]
    try simp only [Nat.reduceLT, Nat.reduceLeDiff, Nat.reduceEqDiff, true_and, and_true, and_self, Nat.zero_le, Nat.le_refl, true_or, or_true, Bool.false_eq_true, not_false_eq_true, Nat.reduceAdd, Nat.lt_add_one, Nat.zero_lt_one, nI_add, pk_mul, ixL, vpL, ne_eq, reduceIte, wI_sA, sA_same, sA_ne, sA_sA, sA_comm, uI_at, uN_at, enc_at, uI_enc, uI_uI, itn1, itn2, itn3, itn4, itc, itc0, itc1, upM_s, upM_n]
    exact ⟨by decide, rfl, h1, (op_Oth (Beg_Oth τ σ) _ _).trans h2⟩
  · intro E τ' hq; cases hq.1
theorem q_setRate (hc : Ctx l G) {τ : Mem} {c0 n : Nat} {σ : Sg} (h : MW τ c0 σ) (hI : IV n σ.1) (hn : n ≤ 1000) (w p : Int32) : Sat l G iX11_setRate [mM, aI w, aI p] τ (Ans τ (opS σ (sRat σ.1 w p))) := by
  have hM := Beg_MW h
  have hS := MS_of hM hI hn
  have hI2 := IV_sRat hI w p
  refine Sat_of hc.1 hc.2 (by decide +kernel) (Nat.le_of_ble_eq_true rfl) (fun x hB hno => ?_)
  refine V_run hB (rt := some .int) (nL := 3) (mc := 0) rfl rfl rfl obX11_setRate_0 ?_
  dsimp only [bX11_setRate_0, ↓wpb, ↓wp1, ↓vI, ↓vL, ↓vD, ↓ldI, ↓ldL, ↓ldD, ↓ldR, ↓k1, ↓k2, ↓kI, ↓kL, ↓kD, ↓kII, ↓kLL, ↓kDD, ↓kR, ↓kIR, ↓kLR, ↓kIIR, ↓kLIR, ↓kDIR, ↓kRIR, ↓kNN, ↓kE, ↓br, ↓bn, ↓rtI, ↓gfv, ↓zchk, lput, ldel, lbad, alA, acat, isRf, dom, dS, dJ, isO, aTy, aLen, elAV, elR, Nat.reduceBEq, Nat.reduceAdd, Bool.or, Bool.and, Nat.add_zero, Nat.zero_add]
  try simp only [Nat.reduceLT, Nat.reduceLeDiff, Nat.reduceEqDiff, true_and, and_true, and_self, Nat.zero_le, Nat.le_refl, true_or, or_true, Bool.false_eq_true, not_false_eq_true, Nat.reduceAdd, Nat.lt_add_one, Nat.zero_lt_one, nI_add, pk_mul, ixL, vpL, ne_eq, reduceIte, wI_sA, sA_same, sA_ne, sA_sA, sA_comm, uI_at, uN_at, enc_at, uI_enc, uI_uI, itn1, itn2, itn3, itn4, itc, itc0, itc1, upM_s, upM_n]
  refine V_cVv hB hno (q_begins2 hc τ σ) rfl (by decide +kernel) cvX11_79 (dom1 rfl) npX11_begins ⟨by decide, by decide⟩ (Nat.le_of_ble_eq_true rfl) (n' := 0) (by decide) rfl ?_
  refine V_run hB (rt := some .int) (nL := 3) (mc := 0) rfl rfl rfl obX11_setRate_4 ?_
  dsimp only [bX11_setRate_4, ↓wpb, ↓wp1, ↓vI, ↓vL, ↓vD, ↓ldI, ↓ldL, ↓ldD, ↓ldR, ↓k1, ↓k2, ↓kI, ↓kL, ↓kD, ↓kII, ↓kLL, ↓kDD, ↓kR, ↓kIR, ↓kLR, ↓kIIR, ↓kLIR, ↓kDIR, ↓kRIR, ↓kNN, ↓kE, ↓br, ↓bn, ↓rtI, ↓gfv, ↓zchk, lput, ldel, lbad, alA, acat, isRf, dom, dS, dJ, isO, aTy, aLen, elAV, elR, Nat.reduceBEq, Nat.reduceAdd, Bool.or, Bool.and, Nat.add_zero, Nat.zero_add]
  try simp only [Nat.reduceLT, Nat.reduceLeDiff, Nat.reduceEqDiff, true_and, and_true, and_self, Nat.zero_le, Nat.le_refl, true_or, or_true, Bool.false_eq_true, not_false_eq_true, Nat.reduceAdd, Nat.lt_add_one, Nat.zero_lt_one, nI_add, pk_mul, ixL, vpL, ne_eq, reduceIte, wI_sA, sA_same, sA_ne, sA_sA, sA_comm, uI_at, uN_at, enc_at, uI_enc, uI_uI, itn1, itn2, itn3, itn4, itc, itc0, itc1, upM_s, upM_n]
  refine V_cV hB hno (q_rates hc hS hM.2.1 w p) rfl (by decide +kernel) cvX11_115 (dom1 rfl) npX11_rates ⟨by decide, by decide⟩ (Nat.le_of_ble_eq_true rfl) (n' := 0) (by decide) rfl ?_
  refine V_callV hB hno (q_ends2 hc (op_MW hM _) (fun k hk => by rw [op_32]; exact Beg_32 h k hk) hI.2.1 hI2.2.1 (sRat_c _ _ _)) rfl (by decide +kernel) cvX11_86 (dom1 rfl) npX11_ends ⟨by decide, by decide⟩ (Nat.le_of_ble_eq_true rfl) (by decide) ?_ ?_
  · intro v τ' hq
    obtain ⟨e1, h1, h2⟩ := hq
    cases e1
    refine V_run hB (rt := some .int) (nL := 3) (mc := 0) rfl rfl rfl obX11_setRate_14 ?_
    dsimp only [bX11_setRate_14, ↓wpb, ↓wp1, ↓vI, ↓vL, ↓vD, ↓ldI, ↓ldL, ↓ldD, ↓ldR, ↓k1, ↓k2, ↓kI, ↓kL, ↓kD, ↓kII, ↓kLL, ↓kDD, ↓kR, ↓kIR, ↓kLR, ↓kIIR, ↓kLIR, ↓kDIR, ↓kRIR, ↓kNN, ↓kE, ↓br, ↓bn, ↓rtI, ↓gfv, ↓zchk, lput, ldel, lbad, alA, acat, isRf, dom, dS, dJ, isO, aTy, aLen, elAV, elR, Nat.reduceBEq, Nat.reduceAdd, Bool.or, Bool.and, Nat.add_zero, Nat.zero_add]
    try simp only [Nat.reduceLT, Nat.reduceLeDiff, Nat.reduceEqDiff, true_and, and_true, and_self, Nat.zero_le, Nat.le_refl, true_or, or_true, Bool.false_eq_true, not_false_eq_true, Nat.reduceAdd, Nat.lt_add_one, Nat.zero_lt_one, nI_add, pk_mul, ixL, vpL, ne_eq, reduceIte, wI_sA, sA_same, sA_ne, sA_sA, sA_comm, uI_at, uN_at, enc_at, uI_enc, uI_uI, itn1, itn2, itn3, itn4, itc, itc0, itc1, upM_s, upM_n]
    exact ⟨by decide, rfl, h1, (op_Oth (Beg_Oth τ σ) _ _).trans h2⟩
  · intro E τ' hq; cases hq.1
theorem q_bid (hc : Ctx l G) {τ : Mem} {c0 n : Nat} {σ : Sg} (h : MW τ c0 σ) (hI : IV n σ.1) (hn : n ≤ 1000) (t y p : Int32) : Sat l G iX11_bid [mM, aI t, aI y, aI p] τ (Ans τ (opS σ (sBid σ.1 (findO σ.1 t true) y p))) := by
  have hM := Beg_MW h
  have hS := MS_of hM hI hn
  have hI2 := IV_sBid hI (o := findO σ.1 t true) y p (fun i hi => findO_lt hi)
  refine Sat_of hc.1 hc.2 (by decide +kernel) (Nat.le_of_ble_eq_true rfl) (fun x hB hno => ?_)
  refine V_run hB (rt := some .int) (nL := 4) (mc := 0) rfl rfl rfl obX11_bid_0 ?_
  dsimp only [bX11_bid_0, ↓wpb, ↓wp1, ↓vI, ↓vL, ↓vD, ↓ldI, ↓ldL, ↓ldD, ↓ldR, ↓k1, ↓k2, ↓kI, ↓kL, ↓kD, ↓kII, ↓kLL, ↓kDD, ↓kR, ↓kIR, ↓kLR, ↓kIIR, ↓kLIR, ↓kDIR, ↓kRIR, ↓kNN, ↓kE, ↓br, ↓bn, ↓rtI, ↓gfv, ↓zchk, lput, ldel, lbad, alA, acat, isRf, dom, dS, dJ, isO, aTy, aLen, elAV, elR, Nat.reduceBEq, Nat.reduceAdd, Bool.or, Bool.and, Nat.add_zero, Nat.zero_add]
  try simp only [Nat.reduceLT, Nat.reduceLeDiff, Nat.reduceEqDiff, true_and, and_true, and_self, Nat.zero_le, Nat.le_refl, true_or, or_true, Bool.false_eq_true, not_false_eq_true, Nat.reduceAdd, Nat.lt_add_one, Nat.zero_lt_one, nI_add, pk_mul, ixL, vpL, ne_eq, reduceIte, wI_sA, sA_same, sA_ne, sA_sA, sA_comm, uI_at, uN_at, enc_at, uI_enc, uI_uI, itn1, itn2, itn3, itn4, itc, itc0, itc1, upM_s, upM_n]
  refine V_cVv hB hno (q_begins2 hc τ σ) rfl (by decide +kernel) cvX11_79 (dom1 rfl) npX11_begins ⟨by decide, by decide⟩ (Nat.le_of_ble_eq_true rfl) (n' := 0) (by decide) rfl ?_
  refine V_run hB (rt := some .int) (nL := 4) (mc := 0) rfl rfl rfl obX11_bid_4 ?_
  dsimp only [bX11_bid_4, ↓wpb, ↓wp1, ↓vI, ↓vL, ↓vD, ↓ldI, ↓ldL, ↓ldD, ↓ldR, ↓k1, ↓k2, ↓kI, ↓kL, ↓kD, ↓kII, ↓kLL, ↓kDD, ↓kR, ↓kIR, ↓kLR, ↓kIIR, ↓kLIR, ↓kDIR, ↓kRIR, ↓kNN, ↓kE, ↓br, ↓bn, ↓rtI, ↓gfv, ↓zchk, lput, ldel, lbad, alA, acat, isRf, dom, dS, dJ, isO, aTy, aLen, elAV, elR, Nat.reduceBEq, Nat.reduceAdd, Bool.or, Bool.and, Nat.add_zero, Nat.zero_add]
  try simp only [Nat.reduceLT, Nat.reduceLeDiff, Nat.reduceEqDiff, true_and, and_true, and_self, Nat.zero_le, Nat.le_refl, true_or, or_true, Bool.false_eq_true, not_false_eq_true, Nat.reduceAdd, Nat.lt_add_one, Nat.zero_lt_one, nI_add, pk_mul, ixL, vpL, ne_eq, reduceIte, wI_sA, sA_same, sA_ne, sA_sA, sA_comm, uI_at, uN_at, enc_at, uI_enc, uI_uI, itn1, itn2, itn3, itn4, itc, itc0, itc1, upM_s, upM_n]
  refine V_cV hB hno (q_findOf hc hS t true) rfl (by decide +kernel) cvX11_99 (dom1 rfl) npX11_findOf ⟨by decide, by decide⟩ (Nat.le_of_ble_eq_true rfl) (n' := 0) (by decide) rfl ?_
  refine V_run hB (rt := some .int) (nL := 4) (mc := 0) rfl rfl rfl obX11_bid_12 ?_
  dsimp only [bX11_bid_12, ↓wpb, ↓wp1, ↓vI, ↓vL, ↓vD, ↓ldI, ↓ldL, ↓ldD, ↓ldR, ↓k1, ↓k2, ↓kI, ↓kL, ↓kD, ↓kII, ↓kLL, ↓kDD, ↓kR, ↓kIR, ↓kLR, ↓kIIR, ↓kLIR, ↓kDIR, ↓kRIR, ↓kNN, ↓kE, ↓br, ↓bn, ↓rtI, ↓gfv, ↓zchk, lput, ldel, lbad, alA, acat, isRf, dom, dS, dJ, isO, aTy, aLen, elAV, elR, Nat.reduceBEq, Nat.reduceAdd, Bool.or, Bool.and, Nat.add_zero, Nat.zero_add]
  try simp only [Nat.reduceLT, Nat.reduceLeDiff, Nat.reduceEqDiff, true_and, and_true, and_self, Nat.zero_le, Nat.le_refl, true_or, or_true, Bool.false_eq_true, not_false_eq_true, Nat.reduceAdd, Nat.lt_add_one, Nat.zero_lt_one, nI_add, pk_mul, ixL, vpL, ne_eq, reduceIte, wI_sA, sA_same, sA_ne, sA_sA, sA_comm, uI_at, uN_at, enc_at, uI_enc, uI_uI, itn1, itn2, itn3, itn4, itc, itc0, itc1, upM_s, upM_n]
  refine V_cV hB hno (q_bids hc hS hM.2.1 y p (fun i hi => by have h0 := (findO_lt (t := t) (b := true) (a := σ.1) hi).1; have := hI.1.1; omega)) rfl (by decide +kernel) cvX11_140 (dom1 rfl) npX11_bids ⟨by decide, by decide⟩ (Nat.le_of_ble_eq_true rfl) (n' := 0) (by decide) rfl ?_
  refine V_callV hB hno (q_ends2 hc (op_MW hM _) (fun k hk => by rw [op_32]; exact Beg_32 h k hk) hI.2.1 hI2.2.1 (sBid_c _ _ _ _)) rfl (by decide +kernel) cvX11_86 (dom1 rfl) npX11_ends ⟨by decide, by decide⟩ (Nat.le_of_ble_eq_true rfl) (by decide) ?_ ?_
  · intro v τ' hq
    obtain ⟨e1, h1, h2⟩ := hq
    cases e1
    refine V_run hB (rt := some .int) (nL := 4) (mc := 0) rfl rfl rfl obX11_bid_20 ?_
    dsimp only [bX11_bid_20, ↓wpb, ↓wp1, ↓vI, ↓vL, ↓vD, ↓ldI, ↓ldL, ↓ldD, ↓ldR, ↓k1, ↓k2, ↓kI, ↓kL, ↓kD, ↓kII, ↓kLL, ↓kDD, ↓kR, ↓kIR, ↓kLR, ↓kIIR, ↓kLIR, ↓kDIR, ↓kRIR, ↓kNN, ↓kE, ↓br, ↓bn, ↓rtI, ↓gfv, ↓zchk, lput, ldel, lbad, alA, acat, isRf, dom, dS, dJ, isO, aTy, aLen, elAV, elR, Nat.reduceBEq, Nat.reduceAdd, Bool.or, Bool.and, Nat.add_zero, Nat.zero_add]
    try simp only [Nat.reduceLT, Nat.reduceLeDiff, Nat.reduceEqDiff, true_and, and_true, and_self, Nat.zero_le, Nat.le_refl, true_or, or_true, Bool.false_eq_true, not_false_eq_true, Nat.reduceAdd, Nat.lt_add_one, Nat.zero_lt_one, nI_add, pk_mul, ixL, vpL, ne_eq, reduceIte, wI_sA, sA_same, sA_ne, sA_sA, sA_comm, uI_at, uN_at, enc_at, uI_enc, uI_uI, itn1, itn2, itn3, itn4, itc, itc0, itc1, upM_s, upM_n]
    exact ⟨by decide, rfl, h1, (op_Oth (Beg_Oth τ σ) _ _).trans h2⟩
  · intro E τ' hq; cases hq.1
theorem q_sell (hc : Ctx l G) {τ : Mem} {c0 n : Nat} {σ : Sg} (h : MW τ c0 σ) (hI : IV n σ.1) (hn : n ≤ 1000) (t : Int32) : Sat l G iX11_sell [mM, aI t] τ (Ans τ (opS σ (sSel σ.1 (findO σ.1 t true)))) := by
  have hM := Beg_MW h
  have hS := MS_of hM hI hn
  have hI2 := IV_sSel hI (o := findO σ.1 t true) (fun i hi => (findO_lt hi).1)
  refine Sat_of hc.1 hc.2 (by decide +kernel) (Nat.le_of_ble_eq_true rfl) (fun x hB hno => ?_)
  refine V_run hB (rt := some .int) (nL := 2) (mc := 0) rfl rfl rfl obX11_sell_0 ?_
  dsimp only [bX11_sell_0, ↓wpb, ↓wp1, ↓vI, ↓vL, ↓vD, ↓ldI, ↓ldL, ↓ldD, ↓ldR, ↓k1, ↓k2, ↓kI, ↓kL, ↓kD, ↓kII, ↓kLL, ↓kDD, ↓kR, ↓kIR, ↓kLR, ↓kIIR, ↓kLIR, ↓kDIR, ↓kRIR, ↓kNN, ↓kE, ↓br, ↓bn, ↓rtI, ↓gfv, ↓zchk, lput, ldel, lbad, alA, acat, isRf, dom, dS, dJ, isO, aTy, aLen, elAV, elR, Nat.reduceBEq, Nat.reduceAdd, Bool.or, Bool.and, Nat.add_zero, Nat.zero_add]
  try simp only [Nat.reduceLT, Nat.reduceLeDiff, Nat.reduceEqDiff, true_and, and_true, and_self, Nat.zero_le, Nat.le_refl, true_or, or_true, Bool.false_eq_true, not_false_eq_true, Nat.reduceAdd, Nat.lt_add_one, Nat.zero_lt_one, nI_add, pk_mul, ixL, vpL, ne_eq, reduceIte, wI_sA, sA_same, sA_ne, sA_sA, sA_comm, uI_at, uN_at, enc_at, uI_enc, uI_uI, itn1, itn2, itn3, itn4, itc, itc0, itc1, upM_s, upM_n]
  refine V_cVv hB hno (q_begins2 hc τ σ) rfl (by decide +kernel) cvX11_79 (dom1 rfl) npX11_begins ⟨by decide, by decide⟩ (Nat.le_of_ble_eq_true rfl) (n' := 0) (by decide) rfl ?_
  refine V_run hB (rt := some .int) (nL := 2) (mc := 0) rfl rfl rfl obX11_sell_4 ?_
  dsimp only [bX11_sell_4, ↓wpb, ↓wp1, ↓vI, ↓vL, ↓vD, ↓ldI, ↓ldL, ↓ldD, ↓ldR, ↓k1, ↓k2, ↓kI, ↓kL, ↓kD, ↓kII, ↓kLL, ↓kDD, ↓kR, ↓kIR, ↓kLR, ↓kIIR, ↓kLIR, ↓kDIR, ↓kRIR, ↓kNN, ↓kE, ↓br, ↓bn, ↓rtI, ↓gfv, ↓zchk, lput, ldel, lbad, alA, acat, isRf, dom, dS, dJ, isO, aTy, aLen, elAV, elR, Nat.reduceBEq, Nat.reduceAdd, Bool.or, Bool.and, Nat.add_zero, Nat.zero_add]
  try simp only [Nat.reduceLT, Nat.reduceLeDiff, Nat.reduceEqDiff, true_and, and_true, and_self, Nat.zero_le, Nat.le_refl, true_or, or_true, Bool.false_eq_true, not_false_eq_true, Nat.reduceAdd, Nat.lt_add_one, Nat.zero_lt_one, nI_add, pk_mul, ixL, vpL, ne_eq, reduceIte, wI_sA, sA_same, sA_ne, sA_sA, sA_comm, uI_at, uN_at, enc_at, uI_enc, uI_uI, itn1, itn2, itn3, itn4, itc, itc0, itc1, upM_s, upM_n]
  refine V_cV hB hno (q_findOf hc hS t true) rfl (by decide +kernel) cvX11_99 (dom1 rfl) npX11_findOf ⟨by decide, by decide⟩ (Nat.le_of_ble_eq_true rfl) (n' := 0) (by decide) rfl ?_
  refine V_cV hB hno (q_sells hc hS hM.2.1 (fun i hi => ⟨(findO_lt hi).1, fun c hc => by have := hI.bd hn 2; omega⟩) (fun i y hi hy => by have h0 := (findO_lt hi).1; have hm := hI.1.1; have h1 := paid_le hI (y := y) (show i < 10 by omega); have h2 := hI.bd hn 2; have h3 := hI.bd hn 7; have h4 := hI.min i (by omega); omega)) rfl (by decide +kernel) cvX11_153 (dom1 rfl) npX11_sells ⟨by decide, by decide⟩ (Nat.le_of_ble_eq_true rfl) (n' := 0) (by decide) rfl ?_
  refine V_callV hB hno (q_ends2 hc (op_MW hM _) (fun k hk => by rw [op_32]; exact Beg_32 h k hk) hI.2.1 hI2.2.1 (sSel_c _ _)) rfl (by decide +kernel) cvX11_86 (dom1 rfl) npX11_ends ⟨by decide, by decide⟩ (Nat.le_of_ble_eq_true rfl) (by decide) ?_ ?_
  · intro v τ' hq
    obtain ⟨e1, h1, h2⟩ := hq
    cases e1
    refine V_run hB (rt := some .int) (nL := 2) (mc := 0) rfl rfl rfl obX11_sell_18 ?_
    dsimp only [bX11_sell_18, ↓wpb, ↓wp1, ↓vI, ↓vL, ↓vD, ↓ldI, ↓ldL, ↓ldD, ↓ldR, ↓k1, ↓k2, ↓kI, ↓kL, ↓kD, ↓kII, ↓kLL, ↓kDD, ↓kR, ↓kIR, ↓kLR, ↓kIIR, ↓kLIR, ↓kDIR, ↓kRIR, ↓kNN, ↓kE, ↓br, ↓bn, ↓rtI, ↓gfv, ↓zchk, lput, ldel, lbad, alA, acat, isRf, dom, dS, dJ, isO, aTy, aLen, elAV, elR, Nat.reduceBEq, Nat.reduceAdd, Bool.or, Bool.and, Nat.add_zero, Nat.zero_add]
    try simp only [Nat.reduceLT, Nat.reduceLeDiff, Nat.reduceEqDiff, true_and, and_true, and_self, Nat.zero_le, Nat.le_refl, true_or, or_true, Bool.false_eq_true, not_false_eq_true, Nat.reduceAdd, Nat.lt_add_one, Nat.zero_lt_one, nI_add, pk_mul, ixL, vpL, ne_eq, reduceIte, wI_sA, sA_same, sA_ne, sA_sA, sA_comm, uI_at, uN_at, enc_at, uI_enc, uI_uI, itn1, itn2, itn3, itn4, itc, itc0, itc1, upM_s, upM_n]
    exact ⟨by decide, rfl, h1, (op_Oth (Beg_Oth τ σ) _ _).trans h2⟩
  · intro E τ' hq; cases hq.1
theorem q_sellEvening (hc : Ctx l G) {τ : Mem} {c0 n : Nat} {σ : Sg} (h : MW τ c0 σ) (hI : IV n σ.1) (hn : n ≤ 1000) : Sat l G iX11_sellEvening [mM] τ (Ans τ (opS σ (sEve σ.1))) := by
  have hM := Beg_MW h
  have hS := MS_of hM hI hn
  have hI2 := IV_sEve hI hn
  refine Sat_of hc.1 hc.2 (by decide +kernel) (Nat.le_of_ble_eq_true rfl) (fun x hB hno => ?_)
  refine V_run hB (rt := some .int) (nL := 1) (mc := 0) rfl rfl rfl obX11_sellEvening_0 ?_
  dsimp only [bX11_sellEvening_0, ↓wpb, ↓wp1, ↓vI, ↓vL, ↓vD, ↓ldI, ↓ldL, ↓ldD, ↓ldR, ↓k1, ↓k2, ↓kI, ↓kL, ↓kD, ↓kII, ↓kLL, ↓kDD, ↓kR, ↓kIR, ↓kLR, ↓kIIR, ↓kLIR, ↓kDIR, ↓kRIR, ↓kNN, ↓kE, ↓br, ↓bn, ↓rtI, ↓gfv, ↓zchk, lput, ldel, lbad, alA, acat, isRf, dom, dS, dJ, isO, aTy, aLen, elAV, elR, Nat.reduceBEq, Nat.reduceAdd, Bool.or, Bool.and, Nat.add_zero, Nat.zero_add]
  try simp only [Nat.reduceLT, Nat.reduceLeDiff, Nat.reduceEqDiff, true_and, and_true, and_self, Nat.zero_le, Nat.le_refl, true_or, or_true, Bool.false_eq_true, not_false_eq_true, Nat.reduceAdd, Nat.lt_add_one, Nat.zero_lt_one, nI_add, pk_mul, ixL, vpL, ne_eq, reduceIte, wI_sA, sA_same, sA_ne, sA_sA, sA_comm, uI_at, uN_at, enc_at, uI_enc, uI_uI, itn1, itn2, itn3, itn4, itc, itc0, itc1, upM_s, upM_n]
  refine V_cVv hB hno (q_begins2 hc τ σ) rfl (by decide +kernel) cvX11_79 (dom1 rfl) npX11_begins ⟨by decide, by decide⟩ (Nat.le_of_ble_eq_true rfl) (n' := 0) (by decide) rfl ?_
  refine V_run hB (rt := some .int) (nL := 1) (mc := 0) rfl rfl rfl obX11_sellEvening_4 ?_
  dsimp only [bX11_sellEvening_4, ↓wpb, ↓wp1, ↓vI, ↓vL, ↓vD, ↓ldI, ↓ldL, ↓ldD, ↓ldR, ↓k1, ↓k2, ↓kI, ↓kL, ↓kD, ↓kII, ↓kLL, ↓kDD, ↓kR, ↓kIR, ↓kLR, ↓kIIR, ↓kLIR, ↓kDIR, ↓kRIR, ↓kNN, ↓kE, ↓br, ↓bn, ↓rtI, ↓gfv, ↓zchk, lput, ldel, lbad, alA, acat, isRf, dom, dS, dJ, isO, aTy, aLen, elAV, elR, Nat.reduceBEq, Nat.reduceAdd, Bool.or, Bool.and, Nat.add_zero, Nat.zero_add]
  try simp only [Nat.reduceLT, Nat.reduceLeDiff, Nat.reduceEqDiff, true_and, and_true, and_self, Nat.zero_le, Nat.le_refl, true_or, or_true, Bool.false_eq_true, not_false_eq_true, Nat.reduceAdd, Nat.lt_add_one, Nat.zero_lt_one, nI_add, pk_mul, ixL, vpL, ne_eq, reduceIte, wI_sA, sA_same, sA_ne, sA_sA, sA_comm, uI_at, uN_at, enc_at, uI_enc, uI_uI, itn1, itn2, itn3, itn4, itc, itc0, itc1, upM_s, upM_n]
  refine V_callV hB hno (q_sellsAll hc hS hM.2.1 hI.bidOk hI.min (fun k => by have := hI.bd hn k; omega)) rfl (by decide +kernel) cvX11_165 (dom1 rfl) npX11_sellsAll ⟨by decide, by decide⟩ (Nat.le_of_ble_eq_true rfl) (by decide) ?_ ?_
  rotate_left
  · intro E τ' hq; cases hq.1
  intro v τ' hq
  obtain ⟨e1, r, q, rfl⟩ := hq
  cases e1
  have hM2 : MW (sA (sA (opM (Beg τ σ) (sEve σ.1).1 (sEve σ.1).2.2) 35 r) 36 q) (sEve σ.1).1 ((sEve σ.1).2.2, σ.2) := by
    have h9 := op_MW (c := (sEve σ.1).1) hM (sEve σ.1).2.2
    refine ⟨?_, ?_, (h9.2.2.sX _ (by omega)).sX _ (by omega)⟩
    · rw [sA_ne (by decide), sA_ne (by decide)]; exact h9.1
    · rw [sA_ne (by decide), sA_ne (by decide)]; exact h9.2.1
  refine V_callV hB hno (q_ends2 hc hM2 (fun k hk => by rw [sA_ne (by decide), sA_ne (by decide), op_32]; exact Beg_32 h k hk) hI.2.1 hI2.2.1 (sEve_c _)) rfl (by decide +kernel) cvX11_86 (dom1 rfl) npX11_ends ⟨by decide, by decide⟩ (Nat.le_of_ble_eq_true rfl) (by decide) ?_ ?_
  · intro v τ' hq
    obtain ⟨e1, h1, h2⟩ := hq
    cases e1
    refine V_run hB (rt := some .int) (nL := 1) (mc := 0) rfl rfl rfl obX11_sellEvening_12 ?_
    dsimp only [bX11_sellEvening_12, ↓wpb, ↓wp1, ↓vI, ↓vL, ↓vD, ↓ldI, ↓ldL, ↓ldD, ↓ldR, ↓k1, ↓k2, ↓kI, ↓kL, ↓kD, ↓kII, ↓kLL, ↓kDD, ↓kR, ↓kIR, ↓kLR, ↓kIIR, ↓kLIR, ↓kDIR, ↓kRIR, ↓kNN, ↓kE, ↓br, ↓bn, ↓rtI, ↓gfv, ↓zchk, lput, ldel, lbad, alA, acat, isRf, dom, dS, dJ, isO, aTy, aLen, elAV, elR, Nat.reduceBEq, Nat.reduceAdd, Bool.or, Bool.and, Nat.add_zero, Nat.zero_add]
    try simp only [Nat.reduceLT, Nat.reduceLeDiff, Nat.reduceEqDiff, true_and, and_true, and_self, Nat.zero_le, Nat.le_refl, true_or, or_true, Bool.false_eq_true, not_false_eq_true, Nat.reduceAdd, Nat.lt_add_one, Nat.zero_lt_one, nI_add, pk_mul, ixL, vpL, ne_eq, reduceIte, wI_sA, sA_same, sA_ne, sA_sA, sA_comm, uI_at, uN_at, enc_at, uI_enc, uI_uI, itn1, itn2, itn3, itn4, itc, itc0, itc1, upM_s, upM_n]
    exact ⟨by decide, rfl, h1, (((op_Oth (Beg_Oth τ σ) _ _).sA _ (by decide) (by decide)).sA _ (by decide) (by decide)).trans h2⟩
  · intro E τ' hq; cases hq.1
end MC
