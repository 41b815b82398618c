/-! ===== the slip ===== -/
def bidsL (a : Nat → Nat) (i : Nat) : Nat → List Nat
  | 0 => []
  | b + 1 => bidsL a i b ++ (if it a i (7 + b) = 0 then [] else [32, 48 + b, 58] ++ dgL (it a i (7 + b)))
def slipL (a : Nat → Nat) (i : Nat) : List Nat :=
  [35] ++ dgL (it a i 0) ++ [32] ++ dgL (it a i 3) ++ [109, 105, 110] ++ [32] ++ dgL (it a i 4) ++ [99] ++ [32] ++
  (if isLot a i = true then [108, 111, 116] ++ bidsL a i 5 else [98, 121, 32] ++ dgL (it a i 6) ++ (if it a i 6 = a 0 then [63] else []))
def sSlp (σ : Sg) (t : Int32) : Nat × Nat × Sg := match find σ.1 t with
  | none => (1, 0, σ)
  | some i => (0, (slipL σ.1 i).length, (σ.1, σ.2.1, σ.2.2.1, σ.2.2.2.1, σ.2.2.2.2.1, slipL σ.1 i))
theorem fnd_t {a : Nat → Nat} {t : Int32} : ∀ {k i j : Nat}, fnd a t i k = some j → nI (it a j 0) = t
  | 0, i, j, h => by simp [fnd] at h
  | k + 1, i, j, h => by
    unfold fnd at h
    split at h
    · rename_i hq; cases h; exact hq
    · exact fnd_t h
theorem dgL_len (v : Nat) : (dgL v).length = sb_dg v := by unfold dgL; rw [List.length_map, List.length_range]
theorem bidsL_len {a : Nat → Nat} {i : Nat} (h : ∀ b, b < 5 → it a i (7 + b) ≤ 999) : ∀ b, b ≤ 5 → (bidsL a i b).length ≤ 6 * b
  | 0, _ => Nat.le_refl _
  | b + 1, hb => by
    have h1 := bidsL_len h b (by omega)
    have h2 := h b (by omega)
    unfold bidsL
    rw [List.length_append]
    split
    · simp only [List.length_nil]; omega
    · rw [List.length_append, dgL_len]
      simp only [List.length_cons, List.length_nil]
      have : sb_dg (it a i (7 + b)) ≤ 3 := by
        unfold sb_dg
        repeat' split
        all_goals omega
      omega
theorem LnS.MS {τ0 τ : Mem} {L : List Nat} {a : Nat → Nat} (h : LnS τ0 τ L) (hS : MS τ0 a) : MS τ a := by
  obtain ⟨f, rfl, -, -⟩ := h
  exact ⟨by rw [sA_ne (by decide), sA_ne (by decide)]; exact hS.1, hS.2⟩
theorem LnS.f19 {τ0 τ : Mem} {L : List Nat} (h : LnS τ0 τ L) : τ.1 (30, 0, 0) 19 = nI L.length := by
  obtain ⟨f, rfl, -, -⟩ := h
  rw [sA_ne (by decide), sA_same]
  rfl
theorem LnS.row31 {τ0 τ : Mem} {L : List Nat} (h : LnS τ0 τ L) : τ.1 (31, 0, 0) = τ0.1 (31, 0, 0) := by
  obtain ⟨f, rfl, -, -⟩ := h
  rw [sA_ne (by decide), sA_ne (by decide)]
theorem LnS.MW {τ0 τ : Mem} {L : List Nat} {c : Nat} {σ : Sg} (h : LnS τ0 τ L) (hM : MW τ0 c σ) : MW τ c (σ.1, σ.2.1, σ.2.2.1, σ.2.2.2.1, σ.2.2.2.2.1, L) := by
  obtain ⟨f, rfl, hf, hl⟩ := h
  obtain ⟨g1, g2, g3, g4, g5, g6, g7, g8, g9⟩ := hM
  refine ⟨?_, ?_, ⟨g3.1, g3.2.1, hl⟩, ?_, ?_, ?_, ?_, ?_, ?_⟩
  · simp only [sA_same, sA_ne, ne_eq, Nat.reduceEqDiff, not_false_eq_true, not_true_eq_false]; exact g1
  · simp only [sA_same, sA_ne, ne_eq, Nat.reduceEqDiff, not_false_eq_true, not_true_eq_false]; exact g2
  · simp only [sA_same, sA_ne, ne_eq, Nat.reduceEqDiff, not_false_eq_true, not_true_eq_false]; exact ⟨g4.1, g4.2.1, g4.2.2.1, g4.2.2.2.1, g4.2.2.2.2.1, rfl⟩
  · simp only [sA_same, sA_ne, ne_eq, Nat.reduceEqDiff, not_false_eq_true, not_true_eq_false]; exact g5
  · intro s hs k hk
    simp only [sA_same, sA_ne, ne_eq, Nat.reduceEqDiff, not_false_eq_true, not_true_eq_false]
    exact g6 s hs k hk
  · simp only [sA_same, sA_ne, ne_eq, Nat.reduceEqDiff, not_false_eq_true, not_true_eq_false]; exact g7
  · simp only [sA_same, sA_ne, ne_eq, Nat.reduceEqDiff, not_false_eq_true, not_true_eq_false]; exact hf
  · simp only [sA_same, sA_ne, ne_eq, Nat.reduceEqDiff, not_false_eq_true, not_true_eq_false]; exact g9
theorem LnS.Oth {τ0 τ τ1 : Mem} {L : List Nat} (h : LnS τ0 τ L) (hO : Oth τ1 τ0) : Oth τ1 τ := by
  obtain ⟨f, rfl, -, -⟩ := h
  exact (hO.sA _ (by decide) (by decide)).sA _ (by decide) (by decide)
section ML
variable {l : Launch} {G : GG} {τ : Mem} {c0 n : Nat} {σ : Sg}
theorem q_writeSlip (hc : Ctx l G) (h : MW τ c0 σ) (hI : IV n σ.1) (hn : n ≤ 1000) (t : Int32) : Sat l G iX11_writeSlip [mM, aI t] τ (Ans τ (sSlp σ t)) := by
  have hS := MS_of h hI hn
  have hm := hI.1.1
  refine Sat_of hc.1 hc.2 (by decide +kernel) (Nat.le_of_ble_eq_true rfl) (fun x hB hno => ?_)
  refine V_run hB (rt := some .int) (nL := 4) (mc := 0) rfl rfl rfl obX11_writeSlip_0 ?_
  dsimp only [bX11_writeSlip_0, ↓wpb, ↓wp1, ↓vI, ↓vL, ↓vD, ↓ldI, ↓ldL, ↓ldD, ↓ldR, ↓k1, ↓k2, ↓kI, ↓kL, ↓kD, ↓kII, ↓kLL, ↓kDD, ↓kR, ↓kIR, ↓kLR, ↓kIIR, ↓kLIR, ↓kDIR, ↓kRIR, ↓kNN, ↓kE, ↓br, ↓bn, ↓rtI, ↓gfv, ↓zchk, lput, ldel, lbad, alA, acat, isRf, dom, dS, dJ, isO, aTy, aLen, elAV, elR, Nat.reduceBEq, Nat.reduceAdd, Bool.or, Bool.and, Nat.add_zero, Nat.zero_add]
  try simp only [Nat.reduceLT, Nat.reduceLeDiff, Nat.reduceEqDiff, true_and, and_true, and_self, Nat.zero_le, Nat.le_refl, true_or, or_true, Bool.false_eq_true, not_false_eq_true, Nat.reduceAdd, Nat.lt_add_one, Nat.zero_lt_one, nI_add, pk_mul, ixL, vpL, ne_eq, reduceIte, wI_sA, sA_same, sA_ne, sA_sA, sA_comm, uI_at, uN_at, enc_at, uI_enc, uI_uI, itn1, itn2, itn3, itn4, itc, itc0, itc1, upM_s, upM_n]
  refine V_cV hB hno (q_find hc hS t) rfl (by decide +kernel) cvX11_64 (dom1 rfl) npX11_find ⟨by decide, by decide⟩ (Nat.le_of_ble_eq_true rfl) (n' := 0) (by decide) rfl ?_
  cases ho : find σ.1 t with
  | none =>
    have e : sSlp σ t = (1, 0, σ) := by unfold sSlp; rw [ho]
    rw [e] at hB
    rw [oI_none]
    refine V_run hB (rt := some .int) (nL := 4) (mc := 0) rfl rfl rfl obX11_writeSlip_5 ?_
    dsimp only [bX11_writeSlip_5, ↓wpb, ↓wp1, ↓vI, ↓vL, ↓vD, ↓ldI, ↓ldL, ↓ldD, ↓ldR, ↓k1, ↓k2, ↓kI, ↓kL, ↓kD, ↓kII, ↓kLL, ↓kDD, ↓kR, ↓kIR, ↓kLR, ↓kIIR, ↓kLIR, ↓kDIR, ↓kRIR, ↓kNN, ↓kE, ↓br, ↓bn, ↓rtI, ↓gfv, ↓zchk, lput, ldel, lbad, alA, acat, isRf, dom, dS, dJ, isO, aTy, aLen, elAV, elR, Nat.reduceBEq, Nat.reduceAdd, Bool.or, Bool.and, Nat.add_zero, Nat.zero_add]
    try simp only [Nat.reduceLT, Nat.reduceLeDiff, Nat.reduceEqDiff, true_and, and_true, and_self, Nat.zero_le, Nat.le_refl, true_or, or_true, Bool.false_eq_true, not_false_eq_true, Nat.reduceAdd, Nat.lt_add_one, Nat.zero_lt_one, nI_add, pk_mul, ixL, vpL, ne_eq, reduceIte, wI_sA, sA_same, sA_ne, sA_sA, sA_comm, uI_at, uN_at, enc_at, uI_enc, uI_uI, itn1, itn2, itn3, itn4, itc, itc0, itc1, upM_s, upM_n]
    refine ⟨fun h => absurd h (by decide), fun _ => ?_⟩
    refine V_cV hB hno (q_fail hc _ _) rfl (by decide +kernel) cvX11_76 (dom1 rfl) npX11_fail ⟨by decide, by decide⟩ (Nat.le_of_ble_eq_true rfl) (n' := 0) (by decide) rfl ?_
    refine V_run hB (rt := some .int) (nL := 4) (mc := 0) rfl rfl rfl obX11_writeSlip_15 ?_
    dsimp only [bX11_writeSlip_15, ↓wpb, ↓wp1, ↓vI, ↓vL, ↓vD, ↓ldI, ↓ldL, ↓ldD, ↓ldR, ↓k1, ↓k2, ↓kI, ↓kL, ↓kD, ↓kII, ↓kLL, ↓kDD, ↓kR, ↓kIR, ↓kLR, ↓kIIR, ↓kLIR, ↓kDIR, ↓kRIR, ↓kNN, ↓kE, ↓br, ↓bn, ↓rtI, ↓gfv, ↓zchk, lput, ldel, lbad, alA, acat, isRf, dom, dS, dJ, isO, aTy, aLen, elAV, elR, Nat.reduceBEq, Nat.reduceAdd, Bool.or, Bool.and, Nat.add_zero, Nat.zero_add]
    try simp only [Nat.reduceLT, Nat.reduceLeDiff, Nat.reduceEqDiff, true_and, and_true, and_self, Nat.zero_le, Nat.le_refl, true_or, or_true, Bool.false_eq_true, not_false_eq_true, Nat.reduceAdd, Nat.lt_add_one, Nat.zero_lt_one, nI_add, pk_mul, ixL, vpL, ne_eq, reduceIte, wI_sA, sA_same, sA_ne, sA_sA, sA_comm, uI_at, uN_at, enc_at, uI_enc, uI_uI, itn1, itn2, itn3, itn4, itc, itc0, itc1, upM_s, upM_n]
    exact Ans_t h
  | some i =>
    have hi4 := find_lt ho
    have hi : i < 10 := by omega
    have e : sSlp σ t = (0, (slipL σ.1 i).length, (σ.1, σ.2.1, σ.2.2.1, σ.2.2.2.1, σ.2.2.2.2.1, slipL σ.1 i)) := by unfold sSlp; rw [ho]
    rw [e] at hB
    have ht : nI (it σ.1 i 0) = t := fnd_t ho
    subst ht
    have b0 := (hI.1.2.2.1 i hi4).1
    have b00 := hI.2.2.2.2.2.2.1
    have b3 := hI.min i hi
    have b4 := (hI.1.2.1 i hi).2.2.2.1
    have b5 := (hI.1.2.1 i hi).2.2.2.2.1
    have b6 := (hI.1.2.1 i hi).2.2.2.2.2.1
    have b7 := (hI.1.2.1 i hi).2.2.2.2.2.2.1
    have bd := hI.2.2.2.2.1
    have d0 := dg5 (show it σ.1 i 0 < 100000 by omega)
    have d3 := dg5 (show it σ.1 i 3 < 100000 by omega)
    have d4 := dg5 (show it σ.1 i 4 < 100000 by omega)
    have d6 := dg5 (show it σ.1 i 6 < 100000 by omega)
    rw [← dgL_len] at d0 d3 d4 d6
    have hb5' := bidsL_len b7
    rw [oI_some]
    refine V_run hB (rt := some .int) (nL := 4) (mc := 0) rfl rfl rfl obX11_writeSlip_5 ?_
    dsimp only [bX11_writeSlip_5, ↓wpb, ↓wp1, ↓vI, ↓vL, ↓vD, ↓ldI, ↓ldL, ↓ldD, ↓ldR, ↓k1, ↓k2, ↓kI, ↓kL, ↓kD, ↓kII, ↓kLL, ↓kDD, ↓kR, ↓kIR, ↓kLR, ↓kIIR, ↓kLIR, ↓kDIR, ↓kRIR, ↓kNN, ↓kE, ↓br, ↓bn, ↓rtI, ↓gfv, ↓zchk, lput, ldel, lbad, alA, acat, isRf, dom, dS, dJ, isO, aTy, aLen, elAV, elR, Nat.reduceBEq, Nat.reduceAdd, Bool.or, Bool.and, Nat.add_zero, Nat.zero_add]
    try simp only [Nat.reduceLT, Nat.reduceLeDiff, Nat.reduceEqDiff, true_and, and_true, and_self, Nat.zero_le, Nat.le_refl, true_or, or_true, Bool.false_eq_true, not_false_eq_true, Nat.reduceAdd, Nat.lt_add_one, Nat.zero_lt_one, nI_add, pk_mul, ixL, vpL, ne_eq, reduceIte, wI_sA, sA_same, sA_ne, sA_sA, sA_comm, uI_at, uN_at, enc_at, uI_enc, uI_uI, itn1, itn2, itn3, itn4, itc, itc0, itc1, upM_s, upM_n]
    refine ⟨fun _ => ?_, fun h => absurd (nI_pos' (by omega)) h⟩
    refine V_run hB (rt := some .int) (nL := 4) (mc := 0) rfl rfl rfl obX11_writeSlip_16 ?_
    dsimp only [bX11_writeSlip_16, ↓wpb, ↓wp1, ↓vI, ↓vL, ↓vD, ↓ldI, ↓ldL, ↓ldD, ↓ldR, ↓k1, ↓k2, ↓kI, ↓kL, ↓kD, ↓kII, ↓kLL, ↓kDD, ↓kR, ↓kIR, ↓kLR, ↓kIIR, ↓kLIR, ↓kDIR, ↓kRIR, ↓kNN, ↓kE, ↓br, ↓bn, ↓rtI, ↓gfv, ↓zchk, lput, ldel, lbad, alA, acat, isRf, dom, dS, dJ, isO, aTy, aLen, elAV, elR, Nat.reduceBEq, Nat.reduceAdd, Bool.or, Bool.and, Nat.add_zero, Nat.zero_add]
    try simp only [Nat.reduceLT, Nat.reduceLeDiff, Nat.reduceEqDiff, true_and, and_true, and_self, Nat.zero_le, Nat.le_refl, true_or, or_true, Bool.false_eq_true, not_false_eq_true, Nat.reduceAdd, Nat.lt_add_one, Nat.zero_lt_one, nI_add, pk_mul, ixL, vpL, ne_eq, reduceIte, wI_sA, sA_same, sA_ne, sA_sA, sA_comm, uI_at, uN_at, enc_at, uI_enc, uI_uI, itn1, itn2, itn3, itn4, itc, itc0, itc1, upM_s, upM_n]
    obtain ⟨t0, ht0⟩ : ∃ t0, t0 = sA τ 30 (uI (uI (τ.1 (30, 0, 0)) 0 (nI 0)) 19 (nI 0)) := ⟨_, rfl⟩
    rw [← ht0]
    have hM0 : MW t0 0 (σ.1, σ.2.1, σ.2.2.1, σ.2.2.2.1, σ.2.2.2.2.1, []) := by
      obtain ⟨g1, g2, g3, g4, g5, g6, g7, g8, g9⟩ := h
      subst ht0
      refine ⟨?_, ?_, ⟨g3.1, g3.2.1, Nat.zero_le _⟩, ?_, ?_, ?_, ?_, ?_, ?_⟩
      · simp only [sA_same, sA_ne, ne_eq, Nat.reduceEqDiff, not_false_eq_true, not_true_eq_false]; exact g1
      · simp only [sA_same, sA_ne, ne_eq, Nat.reduceEqDiff, not_false_eq_true, not_true_eq_false]; rfl
      · simp only [sA_same, sA_ne, ne_eq, Nat.reduceEqDiff, not_false_eq_true, not_true_eq_false]; exact ⟨g4.1, g4.2.1, g4.2.2.1, g4.2.2.2.1, g4.2.2.2.2.1, rfl⟩
      · simp only [sA_same, sA_ne, ne_eq, Nat.reduceEqDiff, not_false_eq_true, not_true_eq_false]; exact g5
      · intro s hs k hk
        simp only [sA_same, sA_ne, ne_eq, Nat.reduceEqDiff, not_false_eq_true, not_true_eq_false]
        exact g6 s hs k hk
      · simp only [sA_same, sA_ne, ne_eq, Nat.reduceEqDiff, not_false_eq_true, not_true_eq_false]; exact g7
      · intro j c hj
        exact nomatch hj
      · simp only [sA_same, sA_ne, ne_eq, Nat.reduceEqDiff, not_false_eq_true, not_true_eq_false]; exact g9
    have hO0 : Oth τ t0 := by rw [ht0]; exact (Oth.refl τ).sA _ (by decide) (by decide)
    have hS0 : MS t0 σ.1 := ⟨hM0.1, hS.2⟩
    have hk0 : LnS t0 t0 [] := ⟨t0.1 (38, 0, 0), by rw [sA_id (K := 30) (uI_id hM0.2.2.2.1.2.2.2.2.2).symm, sA_id rfl], (fun j c hj => nomatch hj), Nat.zero_le _⟩
    have o3 := ixI (c := 3) hi (by omega)
    have p3 := vpI (c := 3) hi (by omega)
    have o4 := ixI (c := 4) hi (by omega)
    have p4 := vpI (c := 4) hi (by omega)
    have o6 := ixI (c := 6) hi (by omega)
    have p6 := vpI (c := 6) hi (by omega)
    have fin158 : ∀ t' LL, LnS t0 t' LL → LL = slipL σ.1 i → V x t' 0 158 [(0, mM), (1, aI (nI (it σ.1 i 0))), (2, aI (nI i))] [] := by
      intro t' LL hk hL
      subst hL
      refine V_run hB (rt := some .int) (nL := 4) (mc := 0) rfl rfl rfl obX11_writeSlip_158 ?_
      dsimp only [bX11_writeSlip_158, ↓wpb, ↓wp1, ↓vI, ↓vL, ↓vD, ↓ldI, ↓ldL, ↓ldD, ↓ldR, ↓k1, ↓k2, ↓kI, ↓kL, ↓kD, ↓kII, ↓kLL, ↓kDD, ↓kR, ↓kIR, ↓kLR, ↓kIIR, ↓kLIR, ↓kDIR, ↓kRIR, ↓kNN, ↓kE, ↓br, ↓bn, ↓rtI, ↓gfv, ↓zchk, lput, ldel, lbad, alA, acat, isRf, dom, dS, dJ, isO, aTy, aLen, elAV, elR, Nat.reduceBEq, Nat.reduceAdd, Bool.or, Bool.and, Nat.add_zero, Nat.zero_add]
      try simp only [Nat.reduceLT, Nat.reduceLeDiff, Nat.reduceEqDiff, true_and, and_true, and_self, Nat.zero_le, Nat.le_refl, true_or, or_true, Bool.false_eq_true, not_false_eq_true, Nat.reduceAdd, Nat.lt_add_one, Nat.zero_lt_one, nI_add, pk_mul, ixL, vpL, ne_eq, reduceIte, wI_sA, sA_same, sA_ne, sA_sA, sA_comm, uI_at, uN_at, enc_at, uI_enc, uI_uI, itn1, itn2, itn3, itn4, itc, itc0, itc1, upM_s, upM_n, hk.f19]
      exact ⟨rfl, LnS.MW (σ := (σ.1, σ.2.1, σ.2.2.1, σ.2.2.2.1, σ.2.2.2.2.1, [])) hk hM0, hk.Oth hO0⟩
    have fin220 : ∀ t' LL, LnS t0 t' LL → LL = slipL σ.1 i → ∀ al, (∀ z ∈ [(0, mM)], lk al z.1 = some z.2) → V x t' 0 220 al [] := by
      intro t' LL hk hL al hal
      subst hL
      refine V.sub ?_ hal
      refine V_run hB (rt := some .int) (nL := 4) (mc := 0) rfl rfl rfl obX11_writeSlip_220 ?_
      dsimp only [bX11_writeSlip_220, ↓wpb, ↓wp1, ↓vI, ↓vL, ↓vD, ↓ldI, ↓ldL, ↓ldD, ↓ldR, ↓k1, ↓k2, ↓kI, ↓kL, ↓kD, ↓kII, ↓kLL, ↓kDD, ↓kR, ↓kIR, ↓kLR, ↓kIIR, ↓kLIR, ↓kDIR, ↓kRIR, ↓kNN, ↓kE, ↓br, ↓bn, ↓rtI, ↓gfv, ↓zchk, lput, ldel, lbad, alA, acat, isRf, dom, dS, dJ, isO, aTy, aLen, elAV, elR, Nat.reduceBEq, Nat.reduceAdd, Bool.or, Bool.and, Nat.add_zero, Nat.zero_add]
      try simp only [Nat.reduceLT, Nat.reduceLeDiff, Nat.reduceEqDiff, true_and, and_true, and_self, Nat.zero_le, Nat.le_refl, true_or, or_true, Bool.false_eq_true, not_false_eq_true, Nat.reduceAdd, Nat.lt_add_one, Nat.zero_lt_one, nI_add, pk_mul, ixL, vpL, ne_eq, reduceIte, wI_sA, sA_same, sA_ne, sA_sA, sA_comm, uI_at, uN_at, enc_at, uI_enc, uI_uI, itn1, itn2, itn3, itn4, itc, itc0, itc1, upM_s, upM_n, hk.f19]
      exact ⟨rfl, LnS.MW (σ := (σ.1, σ.2.1, σ.2.2.1, σ.2.2.2.1, σ.2.2.2.2.1, [])) hk hM0, hk.Oth hO0⟩
    refine V_callV hB hno (q_writes hc hk0 (by simp only [List.length_append, List.length_cons, List.length_nil]; omega) 35) rfl (by decide +kernel) cvX11_175 (dom1 rfl) npX11_writes ⟨by decide, by decide⟩ (Nat.le_of_ble_eq_true rfl) (by decide) ?_ ?_
    rotate_left
    · intro E τ' hq; cases hq.1
    intro v0 t1 hq
    obtain ⟨e1, hk1⟩ := hq
    cases e1
    show V x t1 0 32 _ []
    have hv1 : t1.1 (31, 0, 0) = enc σ.1 := hk1.row31.trans hM0.1
    refine V_run hB (rt := some .int) (nL := 4) (mc := 0) rfl rfl rfl obX11_writeSlip_32 ?_
    dsimp only [bX11_writeSlip_32, ↓wpb, ↓wp1, ↓vI, ↓vL, ↓vD, ↓ldI, ↓ldL, ↓ldD, ↓ldR, ↓k1, ↓k2, ↓kI, ↓kL, ↓kD, ↓kII, ↓kLL, ↓kDD, ↓kR, ↓kIR, ↓kLR, ↓kIIR, ↓kLIR, ↓kDIR, ↓kRIR, ↓kNN, ↓kE, ↓br, ↓bn, ↓rtI, ↓gfv, ↓zchk, lput, ldel, lbad, alA, acat, isRf, dom, dS, dJ, isO, aTy, aLen, elAV, elR, Nat.reduceBEq, Nat.reduceAdd, Bool.or, Bool.and, Nat.add_zero, Nat.zero_add]
    try simp only [Nat.reduceLT, Nat.reduceLeDiff, Nat.reduceEqDiff, true_and, and_true, and_self, Nat.zero_le, Nat.le_refl, true_or, or_true, Bool.false_eq_true, not_false_eq_true, Nat.reduceAdd, Nat.lt_add_one, Nat.zero_lt_one, nI_add, pk_mul, ixL, vpL, ne_eq, reduceIte, wI_sA, sA_same, sA_ne, sA_sA, sA_comm, uI_at, uN_at, enc_at, uI_enc, uI_uI, itn1, itn2, itn3, itn4, itc, itc0, itc1, upM_s, upM_n]
    refine V_callV hB hno (q_writesNumber hc hk1 (v := it σ.1 i 0) (by omega) (by simp only [List.length_append, List.length_cons, List.length_nil]; omega)) rfl (by decide +kernel) cvX11_178 (dom1 rfl) npX11_writesNumber ⟨by decide, by decide⟩ (Nat.le_of_ble_eq_true rfl) (by decide) ?_ ?_
    rotate_left
    · intro E τ' hq; cases hq.1
    intro v1 t2 hq
    obtain ⟨e1, hk2⟩ := hq
    cases e1
    show V x t2 0 37 _ []
    have hv2 : t2.1 (31, 0, 0) = enc σ.1 := hk2.row31.trans hM0.1
    refine V_run hB (rt := some .int) (nL := 4) (mc := 0) rfl rfl rfl obX11_writeSlip_37 ?_
    dsimp only [bX11_writeSlip_37, ↓wpb, ↓wp1, ↓vI, ↓vL, ↓vD, ↓ldI, ↓ldL, ↓ldD, ↓ldR, ↓k1, ↓k2, ↓kI, ↓kL, ↓kD, ↓kII, ↓kLL, ↓kDD, ↓kR, ↓kIR, ↓kLR, ↓kIIR, ↓kLIR, ↓kDIR, ↓kRIR, ↓kNN, ↓kE, ↓br, ↓bn, ↓rtI, ↓gfv, ↓zchk, lput, ldel, lbad, alA, acat, isRf, dom, dS, dJ, isO, aTy, aLen, elAV, elR, Nat.reduceBEq, Nat.reduceAdd, Bool.or, Bool.and, Nat.add_zero, Nat.zero_add]
    try simp only [Nat.reduceLT, Nat.reduceLeDiff, Nat.reduceEqDiff, true_and, and_true, and_self, Nat.zero_le, Nat.le_refl, true_or, or_true, Bool.false_eq_true, not_false_eq_true, Nat.reduceAdd, Nat.lt_add_one, Nat.zero_lt_one, nI_add, pk_mul, ixL, vpL, ne_eq, reduceIte, wI_sA, sA_same, sA_ne, sA_sA, sA_comm, uI_at, uN_at, enc_at, uI_enc, uI_uI, itn1, itn2, itn3, itn4, itc, itc0, itc1, upM_s, upM_n]
    refine V_callV hB hno (q_writes hc hk2 (by simp only [List.length_append, List.length_cons, List.length_nil]; omega) 32) rfl (by decide +kernel) cvX11_175 (dom1 rfl) npX11_writes ⟨by decide, by decide⟩ (Nat.le_of_ble_eq_true rfl) (by decide) ?_ ?_
    rotate_left
    · intro E τ' hq; cases hq.1
    intro v2 t3 hq
    obtain ⟨e1, hk3⟩ := hq
    cases e1
    show V x t3 0 43 _ []
    have hv3 : t3.1 (31, 0, 0) = enc σ.1 := hk3.row31.trans hM0.1
    refine V_run hB (rt := some .int) (nL := 4) (mc := 0) rfl rfl rfl obX11_writeSlip_43 ?_
    dsimp only [bX11_writeSlip_43, ↓wpb, ↓wp1, ↓vI, ↓vL, ↓vD, ↓ldI, ↓ldL, ↓ldD, ↓ldR, ↓k1, ↓k2, ↓kI, ↓kL, ↓kD, ↓kII, ↓kLL, ↓kDD, ↓kR, ↓kIR, ↓kLR, ↓kIIR, ↓kLIR, ↓kDIR, ↓kRIR, ↓kNN, ↓kE, ↓br, ↓bn, ↓rtI, ↓gfv, ↓zchk, lput, ldel, lbad, alA, acat, isRf, dom, dS, dJ, isO, aTy, aLen, elAV, elR, Nat.reduceBEq, Nat.reduceAdd, Bool.or, Bool.and, Nat.add_zero, Nat.zero_add]
    try simp only [Nat.reduceLT, Nat.reduceLeDiff, Nat.reduceEqDiff, true_and, and_true, and_self, Nat.zero_le, Nat.le_refl, true_or, or_true, Bool.false_eq_true, not_false_eq_true, Nat.reduceAdd, Nat.lt_add_one, Nat.zero_lt_one, nI_add, pk_mul, ixL, vpL, ne_eq, reduceIte, wI_sA, sA_same, sA_ne, sA_sA, sA_comm, uI_at, uN_at, enc_at, uI_enc, uI_uI, itn1, itn2, itn3, itn4, itc, itc0, itc1, upM_s, upM_n]
    refine V_cS hB hno (q_ofN hc _ _ _) rfl (by decide +kernel) csX11_60 npX11_of ⟨by decide, by decide⟩ (Nat.le_of_ble_eq_true rfl) (n' := 0) (by decide) rfl ?_
    refine V_run hB (rt := some .int) (nL := 4) (mc := 0) rfl rfl rfl obX11_writeSlip_53 ?_
    dsimp only [bX11_writeSlip_53, ↓wpb, ↓wp1, ↓vI, ↓vL, ↓vD, ↓ldI, ↓ldL, ↓ldD, ↓ldR, ↓k1, ↓k2, ↓kI, ↓kL, ↓kD, ↓kII, ↓kLL, ↓kDD, ↓kR, ↓kIR, ↓kLR, ↓kIIR, ↓kLIR, ↓kDIR, ↓kRIR, ↓kNN, ↓kE, ↓br, ↓bn, ↓rtI, ↓gfv, ↓zchk, lput, ldel, lbad, alA, acat, isRf, dom, dS, dJ, isO, aTy, aLen, elAV, elR, Nat.reduceBEq, Nat.reduceAdd, Bool.or, Bool.and, Nat.add_zero, Nat.zero_add]
    try simp only [Nat.reduceLT, Nat.reduceLeDiff, Nat.reduceEqDiff, true_and, and_true, and_self, Nat.zero_le, Nat.le_refl, true_or, or_true, Bool.false_eq_true, not_false_eq_true, Nat.reduceAdd, Nat.lt_add_one, Nat.zero_lt_one, nI_add, pk_mul, ixL, vpL, ne_eq, reduceIte, wI_sA, sA_same, sA_ne, sA_sA, sA_comm, uI_at, uN_at, enc_at, uI_enc, uI_uI, itn1, itn2, itn3, itn4, itc, itc0, itc1, upM_s, upM_n, hv3, o3, p3]
    refine V_callV hB hno (q_writesNumber hc hk3 (v := it σ.1 i 3) (by omega) (by simp only [List.length_append, List.length_cons, List.length_nil]; omega)) rfl (by decide +kernel) cvX11_178 (dom1 rfl) npX11_writesNumber ⟨by decide, by decide⟩ (Nat.le_of_ble_eq_true rfl) (by decide) ?_ ?_
    rotate_left
    · intro E τ' hq; cases hq.1
    intro v3 t4 hq
    obtain ⟨e1, hk4⟩ := hq
    cases e1
    show V x t4 0 57 _ []
    have hv4 : t4.1 (31, 0, 0) = enc σ.1 := hk4.row31.trans hM0.1
    refine V_run hB (rt := some .int) (nL := 4) (mc := 0) rfl rfl rfl obX11_writeSlip_57 ?_
    dsimp only [bX11_writeSlip_57, ↓wpb, ↓wp1, ↓vI, ↓vL, ↓vD, ↓ldI, ↓ldL, ↓ldD, ↓ldR, ↓k1, ↓k2, ↓kI, ↓kL, ↓kD, ↓kII, ↓kLL, ↓kDD, ↓kR, ↓kIR, ↓kLR, ↓kIIR, ↓kLIR, ↓kDIR, ↓kRIR, ↓kNN, ↓kE, ↓br, ↓bn, ↓rtI, ↓gfv, ↓zchk, lput, ldel, lbad, alA, acat, isRf, dom, dS, dJ, isO, aTy, aLen, elAV, elR, Nat.reduceBEq, Nat.reduceAdd, Bool.or, Bool.and, Nat.add_zero, Nat.zero_add]
    try simp only [Nat.reduceLT, Nat.reduceLeDiff, Nat.reduceEqDiff, true_and, and_true, and_self, Nat.zero_le, Nat.le_refl, true_or, or_true, Bool.false_eq_true, not_false_eq_true, Nat.reduceAdd, Nat.lt_add_one, Nat.zero_lt_one, nI_add, pk_mul, ixL, vpL, ne_eq, reduceIte, wI_sA, sA_same, sA_ne, sA_sA, sA_comm, uI_at, uN_at, enc_at, uI_enc, uI_uI, itn1, itn2, itn3, itn4, itc, itc0, itc1, upM_s, upM_n]
    refine V_callV hB hno (q_writesThree hc hk4 (by simp only [List.length_append, List.length_cons, List.length_nil]; omega) 109 105 110) rfl (by decide +kernel) cvX11_181 (dom1 rfl) npX11_writesThree ⟨by decide, by decide⟩ (Nat.le_of_ble_eq_true rfl) (by decide) ?_ ?_
    rotate_left
    · intro E τ' hq; cases hq.1
    intro v4 t5 hq
    obtain ⟨e1, hk5⟩ := hq
    cases e1
    show V x t5 0 67 _ []
    have hv5 : t5.1 (31, 0, 0) = enc σ.1 := hk5.row31.trans hM0.1
    refine V_run hB (rt := some .int) (nL := 4) (mc := 0) rfl rfl rfl obX11_writeSlip_67 ?_
    dsimp only [bX11_writeSlip_67, ↓wpb, ↓wp1, ↓vI, ↓vL, ↓vD, ↓ldI, ↓ldL, ↓ldD, ↓ldR, ↓k1, ↓k2, ↓kI, ↓kL, ↓kD, ↓kII, ↓kLL, ↓kDD, ↓kR, ↓kIR, ↓kLR, ↓kIIR, ↓kLIR, ↓kDIR, ↓kRIR, ↓kNN, ↓kE, ↓br, ↓bn, ↓rtI, ↓gfv, ↓zchk, lput, ldel, lbad, alA, acat, isRf, dom, dS, dJ, isO, aTy, aLen, elAV, elR, Nat.reduceBEq, Nat.reduceAdd, Bool.or, Bool.and, Nat.add_zero, Nat.zero_add]
    try simp only [Nat.reduceLT, Nat.reduceLeDiff, Nat.reduceEqDiff, true_and, and_true, and_self, Nat.zero_le, Nat.le_refl, true_or, or_true, Bool.false_eq_true, not_false_eq_true, Nat.reduceAdd, Nat.lt_add_one, Nat.zero_lt_one, nI_add, pk_mul, ixL, vpL, ne_eq, reduceIte, wI_sA, sA_same, sA_ne, sA_sA, sA_comm, uI_at, uN_at, enc_at, uI_enc, uI_uI, itn1, itn2, itn3, itn4, itc, itc0, itc1, upM_s, upM_n]
    refine V_callV hB hno (q_writes hc hk5 (by simp only [List.length_append, List.length_cons, List.length_nil]; omega) 32) rfl (by decide +kernel) cvX11_175 (dom1 rfl) npX11_writes ⟨by decide, by decide⟩ (Nat.le_of_ble_eq_true rfl) (by decide) ?_ ?_
    rotate_left
    · intro E τ' hq; cases hq.1
    intro v5 t6 hq
    obtain ⟨e1, hk6⟩ := hq
    cases e1
    show V x t6 0 73 _ []
    have hv6 : t6.1 (31, 0, 0) = enc σ.1 := hk6.row31.trans hM0.1
    refine V_run hB (rt := some .int) (nL := 4) (mc := 0) rfl rfl rfl obX11_writeSlip_73 ?_
    dsimp only [bX11_writeSlip_73, ↓wpb, ↓wp1, ↓vI, ↓vL, ↓vD, ↓ldI, ↓ldL, ↓ldD, ↓ldR, ↓k1, ↓k2, ↓kI, ↓kL, ↓kD, ↓kII, ↓kLL, ↓kDD, ↓kR, ↓kIR, ↓kLR, ↓kIIR, ↓kLIR, ↓kDIR, ↓kRIR, ↓kNN, ↓kE, ↓br, ↓bn, ↓rtI, ↓gfv, ↓zchk, lput, ldel, lbad, alA, acat, isRf, dom, dS, dJ, isO, aTy, aLen, elAV, elR, Nat.reduceBEq, Nat.reduceAdd, Bool.or, Bool.and, Nat.add_zero, Nat.zero_add]
    try simp only [Nat.reduceLT, Nat.reduceLeDiff, Nat.reduceEqDiff, true_and, and_true, and_self, Nat.zero_le, Nat.le_refl, true_or, or_true, Bool.false_eq_true, not_false_eq_true, Nat.reduceAdd, Nat.lt_add_one, Nat.zero_lt_one, nI_add, pk_mul, ixL, vpL, ne_eq, reduceIte, wI_sA, sA_same, sA_ne, sA_sA, sA_comm, uI_at, uN_at, enc_at, uI_enc, uI_uI, itn1, itn2, itn3, itn4, itc, itc0, itc1, upM_s, upM_n]
    refine V_cS hB hno (q_ofN hc _ _ _) rfl (by decide +kernel) csX11_60 npX11_of ⟨by decide, by decide⟩ (Nat.le_of_ble_eq_true rfl) (n' := 0) (by decide) rfl ?_
    refine V_run hB (rt := some .int) (nL := 4) (mc := 0) rfl rfl rfl obX11_writeSlip_83 ?_
    dsimp only [bX11_writeSlip_83, ↓wpb, ↓wp1, ↓vI, ↓vL, ↓vD, ↓ldI, ↓ldL, ↓ldD, ↓ldR, ↓k1, ↓k2, ↓kI, ↓kL, ↓kD, ↓kII, ↓kLL, ↓kDD, ↓kR, ↓kIR, ↓kLR, ↓kIIR, ↓kLIR, ↓kDIR, ↓kRIR, ↓kNN, ↓kE, ↓br, ↓bn, ↓rtI, ↓gfv, ↓zchk, lput, ldel, lbad, alA, acat, isRf, dom, dS, dJ, isO, aTy, aLen, elAV, elR, Nat.reduceBEq, Nat.reduceAdd, Bool.or, Bool.and, Nat.add_zero, Nat.zero_add]
    try simp only [Nat.reduceLT, Nat.reduceLeDiff, Nat.reduceEqDiff, true_and, and_true, and_self, Nat.zero_le, Nat.le_refl, true_or, or_true, Bool.false_eq_true, not_false_eq_true, Nat.reduceAdd, Nat.lt_add_one, Nat.zero_lt_one, nI_add, pk_mul, ixL, vpL, ne_eq, reduceIte, wI_sA, sA_same, sA_ne, sA_sA, sA_comm, uI_at, uN_at, enc_at, uI_enc, uI_uI, itn1, itn2, itn3, itn4, itc, itc0, itc1, upM_s, upM_n, hv6, o4, p4]
    refine V_callV hB hno (q_writesNumber hc hk6 (v := it σ.1 i 4) (by omega) (by simp only [List.length_append, List.length_cons, List.length_nil]; omega)) rfl (by decide +kernel) cvX11_178 (dom1 rfl) npX11_writesNumber ⟨by decide, by decide⟩ (Nat.le_of_ble_eq_true rfl) (by decide) ?_ ?_
    rotate_left
    · intro E τ' hq; cases hq.1
    intro v6 t7 hq
    obtain ⟨e1, hk7⟩ := hq
    cases e1
    show V x t7 0 87 _ []
    have hv7 : t7.1 (31, 0, 0) = enc σ.1 := hk7.row31.trans hM0.1
    refine V_run hB (rt := some .int) (nL := 4) (mc := 0) rfl rfl rfl obX11_writeSlip_87 ?_
    dsimp only [bX11_writeSlip_87, ↓wpb, ↓wp1, ↓vI, ↓vL, ↓vD, ↓ldI, ↓ldL, ↓ldD, ↓ldR, ↓k1, ↓k2, ↓kI, ↓kL, ↓kD, ↓kII, ↓kLL, ↓kDD, ↓kR, ↓kIR, ↓kLR, ↓kIIR, ↓kLIR, ↓kDIR, ↓kRIR, ↓kNN, ↓kE, ↓br, ↓bn, ↓rtI, ↓gfv, ↓zchk, lput, ldel, lbad, alA, acat, isRf, dom, dS, dJ, isO, aTy, aLen, elAV, elR, Nat.reduceBEq, Nat.reduceAdd, Bool.or, Bool.and, Nat.add_zero, Nat.zero_add]
    try simp only [Nat.reduceLT, Nat.reduceLeDiff, Nat.reduceEqDiff, true_and, and_true, and_self, Nat.zero_le, Nat.le_refl, true_or, or_true, Bool.false_eq_true, not_false_eq_true, Nat.reduceAdd, Nat.lt_add_one, Nat.zero_lt_one, nI_add, pk_mul, ixL, vpL, ne_eq, reduceIte, wI_sA, sA_same, sA_ne, sA_sA, sA_comm, uI_at, uN_at, enc_at, uI_enc, uI_uI, itn1, itn2, itn3, itn4, itc, itc0, itc1, upM_s, upM_n]
    refine V_callV hB hno (q_writes hc hk7 (by simp only [List.length_append, List.length_cons, List.length_nil]; omega) 99) rfl (by decide +kernel) cvX11_175 (dom1 rfl) npX11_writes ⟨by decide, by decide⟩ (Nat.le_of_ble_eq_true rfl) (by decide) ?_ ?_
    rotate_left
    · intro E τ' hq; cases hq.1
    intro v7 t8 hq
    obtain ⟨e1, hk8⟩ := hq
    cases e1
    show V x t8 0 93 _ []
    have hv8 : t8.1 (31, 0, 0) = enc σ.1 := hk8.row31.trans hM0.1
    refine V_run hB (rt := some .int) (nL := 4) (mc := 0) rfl rfl rfl obX11_writeSlip_93 ?_
    dsimp only [bX11_writeSlip_93, ↓wpb, ↓wp1, ↓vI, ↓vL, ↓vD, ↓ldI, ↓ldL, ↓ldD, ↓ldR, ↓k1, ↓k2, ↓kI, ↓kL, ↓kD, ↓kII, ↓kLL, ↓kDD, ↓kR, ↓kIR, ↓kLR, ↓kIIR, ↓kLIR, ↓kDIR, ↓kRIR, ↓kNN, ↓kE, ↓br, ↓bn, ↓rtI, ↓gfv, ↓zchk, lput, ldel, lbad, alA, acat, isRf, dom, dS, dJ, isO, aTy, aLen, elAV, elR, Nat.reduceBEq, Nat.reduceAdd, Bool.or, Bool.and, Nat.add_zero, Nat.zero_add]
    try simp only [Nat.reduceLT, Nat.reduceLeDiff, Nat.reduceEqDiff, true_and, and_true, and_self, Nat.zero_le, Nat.le_refl, true_or, or_true, Bool.false_eq_true, not_false_eq_true, Nat.reduceAdd, Nat.lt_add_one, Nat.zero_lt_one, nI_add, pk_mul, ixL, vpL, ne_eq, reduceIte, wI_sA, sA_same, sA_ne, sA_sA, sA_comm, uI_at, uN_at, enc_at, uI_enc, uI_uI, itn1, itn2, itn3, itn4, itc, itc0, itc1, upM_s, upM_n]
    refine V_callV hB hno (q_writes hc hk8 (by simp only [List.length_append, List.length_cons, List.length_nil]; omega) 32) rfl (by decide +kernel) cvX11_175 (dom1 rfl) npX11_writes ⟨by decide, by decide⟩ (Nat.le_of_ble_eq_true rfl) (by decide) ?_ ?_
    rotate_left
    · intro E τ' hq; cases hq.1
    intro v8 t9 hq
    obtain ⟨e1, hk9⟩ := hq
    cases e1
    show V x t9 0 99 _ []
    have hv9 : t9.1 (31, 0, 0) = enc σ.1 := hk9.row31.trans hM0.1
    refine V_run hB (rt := some .int) (nL := 4) (mc := 0) rfl rfl rfl obX11_writeSlip_99 ?_
    dsimp only [bX11_writeSlip_99, ↓wpb, ↓wp1, ↓vI, ↓vL, ↓vD, ↓ldI, ↓ldL, ↓ldD, ↓ldR, ↓k1, ↓k2, ↓kI, ↓kL, ↓kD, ↓kII, ↓kLL, ↓kDD, ↓kR, ↓kIR, ↓kLR, ↓kIIR, ↓kLIR, ↓kDIR, ↓kRIR, ↓kNN, ↓kE, ↓br, ↓bn, ↓rtI, ↓gfv, ↓zchk, lput, ldel, lbad, alA, acat, isRf, dom, dS, dJ, isO, aTy, aLen, elAV, elR, Nat.reduceBEq, Nat.reduceAdd, Bool.or, Bool.and, Nat.add_zero, Nat.zero_add]
    try simp only [Nat.reduceLT, Nat.reduceLeDiff, Nat.reduceEqDiff, true_and, and_true, and_self, Nat.zero_le, Nat.le_refl, true_or, or_true, Bool.false_eq_true, not_false_eq_true, Nat.reduceAdd, Nat.lt_add_one, Nat.zero_lt_one, nI_add, pk_mul, ixL, vpL, ne_eq, reduceIte, wI_sA, sA_same, sA_ne, sA_sA, sA_comm, uI_at, uN_at, enc_at, uI_enc, uI_uI, itn1, itn2, itn3, itn4, itc, itc0, itc1, upM_s, upM_n]
    refine V_cV hB hno (q_isLot hc (hk9.MS hS0) hi) rfl (by decide +kernel) cvX11_68 (dom1 rfl) npX11_isLot ⟨by decide, by decide⟩ (Nat.le_of_ble_eq_true rfl) (n' := 0) (by decide) rfl ?_
    refine V_run hB (rt := some .int) (nL := 4) (mc := 0) rfl rfl rfl obX11_writeSlip_104 ?_
    dsimp only [bX11_writeSlip_104, ↓wpb, ↓wp1, ↓vI, ↓vL, ↓vD, ↓ldI, ↓ldL, ↓ldD, ↓ldR, ↓k1, ↓k2, ↓kI, ↓kL, ↓kD, ↓kII, ↓kLL, ↓kDD, ↓kR, ↓kIR, ↓kLR, ↓kIIR, ↓kLIR, ↓kDIR, ↓kRIR, ↓kNN, ↓kE, ↓br, ↓bn, ↓rtI, ↓gfv, ↓zchk, lput, ldel, lbad, alA, acat, isRf, dom, dS, dJ, isO, aTy, aLen, elAV, elR, Nat.reduceBEq, Nat.reduceAdd, Bool.or, Bool.and, Nat.add_zero, Nat.zero_add]
    try simp only [Nat.reduceLT, Nat.reduceLeDiff, Nat.reduceEqDiff, true_and, and_true, and_self, Nat.zero_le, Nat.le_refl, true_or, or_true, Bool.false_eq_true, not_false_eq_true, Nat.reduceAdd, Nat.lt_add_one, Nat.zero_lt_one, nI_add, pk_mul, ixL, vpL, ne_eq, reduceIte, wI_sA, sA_same, sA_ne, sA_sA, sA_comm, uI_at, uN_at, enc_at, uI_enc, uI_uI, itn1, itn2, itn3, itn4, itc, itc0, itc1, upM_s, upM_n, bN_0]
    refine ⟨fun hq => ?_, fun hq => ?_⟩
    · have hq : isLot σ.1 i = true := by simpa using hq
      refine V_run hB (rt := some .int) (nL := 4) (mc := 0) rfl rfl rfl obX11_writeSlip_163 ?_
      dsimp only [bX11_writeSlip_163, ↓wpb, ↓wp1, ↓vI, ↓vL, ↓vD, ↓ldI, ↓ldL, ↓ldD, ↓ldR, ↓k1, ↓k2, ↓kI, ↓kL, ↓kD, ↓kII, ↓kLL, ↓kDD, ↓kR, ↓kIR, ↓kLR, ↓kIIR, ↓kLIR, ↓kDIR, ↓kRIR, ↓kNN, ↓kE, ↓br, ↓bn, ↓rtI, ↓gfv, ↓zchk, lput, ldel, lbad, alA, acat, isRf, dom, dS, dJ, isO, aTy, aLen, elAV, elR, Nat.reduceBEq, Nat.reduceAdd, Bool.or, Bool.and, Nat.add_zero, Nat.zero_add]
      try simp only [Nat.reduceLT, Nat.reduceLeDiff, Nat.reduceEqDiff, true_and, and_true, and_self, Nat.zero_le, Nat.le_refl, true_or, or_true, Bool.false_eq_true, not_false_eq_true, Nat.reduceAdd, Nat.lt_add_one, Nat.zero_lt_one, nI_add, pk_mul, ixL, vpL, ne_eq, reduceIte, wI_sA, sA_same, sA_ne, sA_sA, sA_comm, uI_at, uN_at, enc_at, uI_enc, uI_uI, itn1, itn2, itn3, itn4, itc, itc0, itc1, upM_s, upM_n]
      refine V_callV hB hno (q_writesThree hc hk9 (by simp only [List.length_append, List.length_cons, List.length_nil]; omega) 108 111 116) rfl (by decide +kernel) cvX11_181 (dom1 rfl) npX11_writesThree ⟨by decide, by decide⟩ (Nat.le_of_ble_eq_true rfl) (by decide) ?_ ?_
      rotate_left
      · intro E τ' hq; cases hq.1
      intro v9 t10 hq
      obtain ⟨e1, hk10⟩ := hq
      cases e1
      show V x t10 0 173 _ []
      have hv10 : t10.1 (31, 0, 0) = enc σ.1 := hk10.row31.trans hM0.1
      refine V_run hB (rt := some .int) (nL := 4) (mc := 0) rfl rfl rfl obX11_writeSlip_173 ?_
      dsimp only [bX11_writeSlip_173, ↓wpb, ↓wp1, ↓vI, ↓vL, ↓vD, ↓ldI, ↓ldL, ↓ldD, ↓ldR, ↓k1, ↓k2, ↓kI, ↓kL, ↓kD, ↓kII, ↓kLL, ↓kDD, ↓kR, ↓kIR, ↓kLR, ↓kIIR, ↓kLIR, ↓kDIR, ↓kRIR, ↓kNN, ↓kE, ↓br, ↓bn, ↓rtI, ↓gfv, ↓zchk, lput, ldel, lbad, alA, acat, isRf, dom, dS, dJ, isO, aTy, aLen, elAV, elR, Nat.reduceBEq, Nat.reduceAdd, Bool.or, Bool.and, Nat.add_zero, Nat.zero_add]
      try simp only [Nat.reduceLT, Nat.reduceLeDiff, Nat.reduceEqDiff, true_and, and_true, and_self, Nat.zero_le, Nat.le_refl, true_or, or_true, Bool.false_eq_true, not_false_eq_true, Nat.reduceAdd, Nat.lt_add_one, Nat.zero_lt_one, nI_add, pk_mul, ixL, vpL, ne_eq, reduceIte, wI_sA, sA_same, sA_ne, sA_sA, sA_comm, uI_at, uN_at, enc_at, uI_enc, uI_uI, itn1, itn2, itn3, itn4, itc, itc0, itc1, upM_s, upM_n]
      have hsl : slipL σ.1 i = [35] ++ dgL (it σ.1 i 0) ++ [32] ++ dgL (it σ.1 i 3) ++ [109, 105, 110] ++ [32] ++ dgL (it σ.1 i 4) ++ [99] ++ [32] ++ ([108, 111, 116] ++ bidsL σ.1 i 5) := by unfold slipL; rw [hq]; rfl
      have h175 : ∀ w b, b + w = 5 → ∀ t', LnS t0 t' ([] ++ [35] ++ dgL (it σ.1 i 0) ++ [32] ++ dgL (it σ.1 i 3) ++ [109, 105, 110] ++ [32] ++ dgL (it σ.1 i 4) ++ [99] ++ [32] ++ [108, 111, 116] ++ bidsL σ.1 i b) → V x t' 0 175 [(0, mM), (1, aI (nI (it σ.1 i 0))), (2, aI (nI i)), (3, aI (nI b))] [] := by
        intro w
        induction w with
        | zero =>
          intro b hb t' hk
          have hb : b = 5 := by omega
          subst hb
          refine V_run hB (rt := some .int) (nL := 4) (mc := 0) rfl rfl rfl obX11_writeSlip_175 ?_
          dsimp only [bX11_writeSlip_175, ↓wpb, ↓wp1, ↓vI, ↓vL, ↓vD, ↓ldI, ↓ldL, ↓ldD, ↓ldR, ↓k1, ↓k2, ↓kI, ↓kL, ↓kD, ↓kII, ↓kLL, ↓kDD, ↓kR, ↓kIR, ↓kLR, ↓kIIR, ↓kLIR, ↓kDIR, ↓kRIR, ↓kNN, ↓kE, ↓br, ↓bn, ↓rtI, ↓gfv, ↓zchk, lput, ldel, lbad, alA, acat, isRf, dom, dS, dJ, isO, aTy, aLen, elAV, elR, Nat.reduceBEq, Nat.reduceAdd, Bool.or, Bool.and, Nat.add_zero, Nat.zero_add]
          try simp only [Nat.reduceLT, Nat.reduceLeDiff, Nat.reduceEqDiff, true_and, and_true, and_self, Nat.zero_le, Nat.le_refl, true_or, or_true, Bool.false_eq_true, not_false_eq_true, Nat.reduceAdd, Nat.lt_add_one, Nat.zero_lt_one, nI_add, pk_mul, ixL, vpL, ne_eq, reduceIte, wI_sA, sA_same, sA_ne, sA_sA, sA_comm, uI_at, uN_at, enc_at, uI_enc, uI_uI, itn1, itn2, itn3, itn4, itc, itc0, itc1, upM_s, upM_n]
          refine ⟨fun _ => ?_, fun h => absurd (nI_le (by omega) (by omega)) h⟩
          exact fin220 _ _ hk (by rw [hsl]; simp only [List.append_assoc, List.nil_append]) _ (List.forall_mem_cons.mpr ⟨rfl, fun _ h => absurd h List.not_mem_nil⟩)
        | succ w ih =>
          intro b hb t' hk
          have hb5 : b < 5 := by omega
          have hbl := hb5' b (by omega)
          have hbu : bidsL σ.1 i (b + 1) = bidsL σ.1 i b ++ (if it σ.1 i (7 + b) = 0 then [] else [32, 48 + b, 58] ++ dgL (it σ.1 i (7 + b))) := rfl
          have ih' := ih (b + 1) (by omega)
          rw [hbu] at ih'
          have h9 := b7 b hb5
          have hdd := dg5 (show it σ.1 i (7 + b) < 100000 by omega)
          rw [← dgL_len] at hdd
          refine V_run hB (rt := some .int) (nL := 4) (mc := 0) rfl rfl rfl obX11_writeSlip_175 ?_
          dsimp only [bX11_writeSlip_175, ↓wpb, ↓wp1, ↓vI, ↓vL, ↓vD, ↓ldI, ↓ldL, ↓ldD, ↓ldR, ↓k1, ↓k2, ↓kI, ↓kL, ↓kD, ↓kII, ↓kLL, ↓kDD, ↓kR, ↓kIR, ↓kLR, ↓kIIR, ↓kLIR, ↓kDIR, ↓kRIR, ↓kNN, ↓kE, ↓br, ↓bn, ↓rtI, ↓gfv, ↓zchk, lput, ldel, lbad, alA, acat, isRf, dom, dS, dJ, isO, aTy, aLen, elAV, elR, Nat.reduceBEq, Nat.reduceAdd, Bool.or, Bool.and, Nat.add_zero, Nat.zero_add]
          try simp only [Nat.reduceLT, Nat.reduceLeDiff, Nat.reduceEqDiff, true_and, and_true, and_self, Nat.zero_le, Nat.le_refl, true_or, or_true, Bool.false_eq_true, not_false_eq_true, Nat.reduceAdd, Nat.lt_add_one, Nat.zero_lt_one, nI_add, pk_mul, ixL, vpL, ne_eq, reduceIte, wI_sA, sA_same, sA_ne, sA_sA, sA_comm, uI_at, uN_at, enc_at, uI_enc, uI_uI, itn1, itn2, itn3, itn4, itc, itc0, itc1, upM_s, upM_n]
          refine ⟨fun h => absurd h (nI_ge (by omega) (by omega)), fun _ => ?_⟩
          refine V_cV hB hno (q_offer hc (hk.MS hS0) hi hb5) rfl (by decide +kernel) cvX11_137 (dom1 rfl) npX11_offer ⟨by decide, by decide⟩ (Nat.le_of_ble_eq_true rfl) (n' := 0) (by decide) rfl ?_
          refine V_run hB (rt := some .int) (nL := 4) (mc := 0) rfl rfl rfl obX11_writeSlip_186 ?_
          dsimp only [bX11_writeSlip_186, ↓wpb, ↓wp1, ↓vI, ↓vL, ↓vD, ↓ldI, ↓ldL, ↓ldD, ↓ldR, ↓k1, ↓k2, ↓kI, ↓kL, ↓kD, ↓kII, ↓kLL, ↓kDD, ↓kR, ↓kIR, ↓kLR, ↓kIIR, ↓kLIR, ↓kDIR, ↓kRIR, ↓kNN, ↓kE, ↓br, ↓bn, ↓rtI, ↓gfv, ↓zchk, lput, ldel, lbad, alA, acat, isRf, dom, dS, dJ, isO, aTy, aLen, elAV, elR, Nat.reduceBEq, Nat.reduceAdd, Bool.or, Bool.and, Nat.add_zero, Nat.zero_add]
          try simp only [Nat.reduceLT, Nat.reduceLeDiff, Nat.reduceEqDiff, true_and, and_true, and_self, Nat.zero_le, Nat.le_refl, true_or, or_true, Bool.false_eq_true, not_false_eq_true, Nat.reduceAdd, Nat.lt_add_one, Nat.zero_lt_one, nI_add, pk_mul, ixL, vpL, ne_eq, reduceIte, wI_sA, sA_same, sA_ne, sA_sA, sA_comm, uI_at, uN_at, enc_at, uI_enc, uI_uI, itn1, itn2, itn3, itn4, itc, itc0, itc1, upM_s, upM_n]
          refine ⟨fun hz => ?_, fun hz => ?_⟩
          · have hz0 : it σ.1 i (7 + b) ≠ 0 := fun q => hz (by rw [q]; rfl)
            rw [if_neg hz0] at ih'
            refine V_run hB (rt := some .int) (nL := 4) (mc := 0) rfl rfl rfl obX11_writeSlip_192 ?_
            dsimp only [bX11_writeSlip_192, ↓wpb, ↓wp1, ↓vI, ↓vL, ↓vD, ↓ldI, ↓ldL, ↓ldD, ↓ldR, ↓k1, ↓k2, ↓kI, ↓kL, ↓kD, ↓kII, ↓kLL, ↓kDD, ↓kR, ↓kIR, ↓kLR, ↓kIIR, ↓kLIR, ↓kDIR, ↓kRIR, ↓kNN, ↓kE, ↓br, ↓bn, ↓rtI, ↓gfv, ↓zchk, lput, ldel, lbad, alA, acat, isRf, dom, dS, dJ, isO, aTy, aLen, elAV, elR, Nat.reduceBEq, Nat.reduceAdd, Bool.or, Bool.and, Nat.add_zero, Nat.zero_add]
            try simp only [Nat.reduceLT, Nat.reduceLeDiff, Nat.reduceEqDiff, true_and, and_true, and_self, Nat.zero_le, Nat.le_refl, true_or, or_true, Bool.false_eq_true, not_false_eq_true, Nat.reduceAdd, Nat.lt_add_one, Nat.zero_lt_one, nI_add, pk_mul, ixL, vpL, ne_eq, reduceIte, wI_sA, sA_same, sA_ne, sA_sA, sA_comm, uI_at, uN_at, enc_at, uI_enc, uI_uI, itn1, itn2, itn3, itn4, itc, itc0, itc1, upM_s, upM_n]
            refine V_callV hB hno (q_writesThree hc hk (by simp only [List.length_append, List.length_cons, List.length_nil]; omega) 32 (48 + b) 58) rfl (by decide +kernel) cvX11_181 (dom1 rfl) npX11_writesThree ⟨by decide, by decide⟩ (Nat.le_of_ble_eq_true rfl) (by decide) ?_ ?_
            rotate_left
            · intro E τ' hq; cases hq.1
            intro v3 t3 hq
            obtain ⟨e1, k3⟩ := hq
            cases e1
            show V x t3 0 204 _ []
            refine V_run hB (rt := some .int) (nL := 4) (mc := 0) rfl rfl rfl obX11_writeSlip_204 ?_
            dsimp only [bX11_writeSlip_204, ↓wpb, ↓wp1, ↓vI, ↓vL, ↓vD, ↓ldI, ↓ldL, ↓ldD, ↓ldR, ↓k1, ↓k2, ↓kI, ↓kL, ↓kD, ↓kII, ↓kLL, ↓kDD, ↓kR, ↓kIR, ↓kLR, ↓kIIR, ↓kLIR, ↓kDIR, ↓kRIR, ↓kNN, ↓kE, ↓br, ↓bn, ↓rtI, ↓gfv, ↓zchk, lput, ldel, lbad, alA, acat, isRf, dom, dS, dJ, isO, aTy, aLen, elAV, elR, Nat.reduceBEq, Nat.reduceAdd, Bool.or, Bool.and, Nat.add_zero, Nat.zero_add]
            try simp only [Nat.reduceLT, Nat.reduceLeDiff, Nat.reduceEqDiff, true_and, and_true, and_self, Nat.zero_le, Nat.le_refl, true_or, or_true, Bool.false_eq_true, not_false_eq_true, Nat.reduceAdd, Nat.lt_add_one, Nat.zero_lt_one, nI_add, pk_mul, ixL, vpL, ne_eq, reduceIte, wI_sA, sA_same, sA_ne, sA_sA, sA_comm, uI_at, uN_at, enc_at, uI_enc, uI_uI, itn1, itn2, itn3, itn4, itc, itc0, itc1, upM_s, upM_n]
            refine V_cV hB hno (q_offer hc (k3.MS hS0) hi hb5) rfl (by decide +kernel) cvX11_137 (dom1 rfl) npX11_offer ⟨by decide, by decide⟩ (Nat.le_of_ble_eq_true rfl) (n' := 0) (by decide) rfl ?_
            refine V_callV hB hno (q_writesNumber hc k3 (v := it σ.1 i (7 + b)) (by omega) (by simp only [List.length_append, List.length_cons, List.length_nil]; omega)) rfl (by decide +kernel) cvX11_178 (dom1 rfl) npX11_writesNumber ⟨by decide, by decide⟩ (Nat.le_of_ble_eq_true rfl) (by decide) ?_ ?_
            rotate_left
            · intro E τ' hq; cases hq.1
            intro v4 t4 hq
            obtain ⟨e1, k4⟩ := hq
            cases e1
            show V x t4 0 214 _ []
            refine V_run hB (rt := some .int) (nL := 4) (mc := 0) rfl rfl rfl obX11_writeSlip_214 ?_
            dsimp only [bX11_writeSlip_214, ↓wpb, ↓wp1, ↓vI, ↓vL, ↓vD, ↓ldI, ↓ldL, ↓ldD, ↓ldR, ↓k1, ↓k2, ↓kI, ↓kL, ↓kD, ↓kII, ↓kLL, ↓kDD, ↓kR, ↓kIR, ↓kLR, ↓kIIR, ↓kLIR, ↓kDIR, ↓kRIR, ↓kNN, ↓kE, ↓br, ↓bn, ↓rtI, ↓gfv, ↓zchk, lput, ldel, lbad, alA, acat, isRf, dom, dS, dJ, isO, aTy, aLen, elAV, elR, Nat.reduceBEq, Nat.reduceAdd, Bool.or, Bool.and, Nat.add_zero, Nat.zero_add]
            try simp only [Nat.reduceLT, Nat.reduceLeDiff, Nat.reduceEqDiff, true_and, and_true, and_self, Nat.zero_le, Nat.le_refl, true_or, or_true, Bool.false_eq_true, not_false_eq_true, Nat.reduceAdd, Nat.lt_add_one, Nat.zero_lt_one, nI_add, pk_mul, ixL, vpL, ne_eq, reduceIte, wI_sA, sA_same, sA_ne, sA_sA, sA_comm, uI_at, uN_at, enc_at, uI_enc, uI_uI, itn1, itn2, itn3, itn4, itc, itc0, itc1, upM_s, upM_n]
            refine ih' _ ?_
            simp only [List.append_assoc] at k4 ⊢
            exact k4
          · have hz0 : it σ.1 i (7 + b) = 0 := (nI_eq (by omega) (by omega)).mp (show nI (it σ.1 i (7 + b)) = nI 0 from hz)
            rw [if_pos hz0, List.append_nil] at ih'
            refine V_run hB (rt := some .int) (nL := 4) (mc := 0) rfl rfl rfl obX11_writeSlip_214 ?_
            dsimp only [bX11_writeSlip_214, ↓wpb, ↓wp1, ↓vI, ↓vL, ↓vD, ↓ldI, ↓ldL, ↓ldD, ↓ldR, ↓k1, ↓k2, ↓kI, ↓kL, ↓kD, ↓kII, ↓kLL, ↓kDD, ↓kR, ↓kIR, ↓kLR, ↓kIIR, ↓kLIR, ↓kDIR, ↓kRIR, ↓kNN, ↓kE, ↓br, ↓bn, ↓rtI, ↓gfv, ↓zchk, lput, ldel, lbad, alA, acat, isRf, dom, dS, dJ, isO, aTy, aLen, elAV, elR, Nat.reduceBEq, Nat.reduceAdd, Bool.or, Bool.and, Nat.add_zero, Nat.zero_add]
            try simp only [Nat.reduceLT, Nat.reduceLeDiff, Nat.reduceEqDiff, true_and, and_true, and_self, Nat.zero_le, Nat.le_refl, true_or, or_true, Bool.false_eq_true, not_false_eq_true, Nat.reduceAdd, Nat.lt_add_one, Nat.zero_lt_one, nI_add, pk_mul, ixL, vpL, ne_eq, reduceIte, wI_sA, sA_same, sA_ne, sA_sA, sA_comm, uI_at, uN_at, enc_at, uI_enc, uI_uI, itn1, itn2, itn3, itn4, itc, itc0, itc1, upM_s, upM_n]
            exact ih' _ hk
      exact h175 5 0 (by omega) _ (by rw [show bidsL σ.1 i 0 = [] from rfl, List.append_nil]; exact hk10)
    · have hsl : slipL σ.1 i = [35] ++ dgL (it σ.1 i 0) ++ [32] ++ dgL (it σ.1 i 3) ++ [109, 105, 110] ++ [32] ++ dgL (it σ.1 i 4) ++ [99] ++ [32] ++ ([98, 121, 32] ++ dgL (it σ.1 i 6) ++ (if it σ.1 i 6 = σ.1 0 then [63] else [])) := by unfold slipL; rw [hq]; rfl
      refine V_callV hB hno (q_writesThree hc hk9 (by simp only [List.length_append, List.length_cons, List.length_nil]; omega) 98 121 32) rfl (by decide +kernel) cvX11_181 (dom1 rfl) npX11_writesThree ⟨by decide, by decide⟩ (Nat.le_of_ble_eq_true rfl) (by decide) ?_ ?_
      rotate_left
      · intro E τ' hq; cases hq.1
      intro v9 t10 hq
      obtain ⟨e1, hk10⟩ := hq
      cases e1
      show V x t10 0 117 _ []
      have hv10 : t10.1 (31, 0, 0) = enc σ.1 := hk10.row31.trans hM0.1
      refine V_run hB (rt := some .int) (nL := 4) (mc := 0) rfl rfl rfl obX11_writeSlip_117 ?_
      dsimp only [bX11_writeSlip_117, ↓wpb, ↓wp1, ↓vI, ↓vL, ↓vD, ↓ldI, ↓ldL, ↓ldD, ↓ldR, ↓k1, ↓k2, ↓kI, ↓kL, ↓kD, ↓kII, ↓kLL, ↓kDD, ↓kR, ↓kIR, ↓kLR, ↓kIIR, ↓kLIR, ↓kDIR, ↓kRIR, ↓kNN, ↓kE, ↓br, ↓bn, ↓rtI, ↓gfv, ↓zchk, lput, ldel, lbad, alA, acat, isRf, dom, dS, dJ, isO, aTy, aLen, elAV, elR, Nat.reduceBEq, Nat.reduceAdd, Bool.or, Bool.and, Nat.add_zero, Nat.zero_add]
      try simp only [Nat.reduceLT, Nat.reduceLeDiff, Nat.reduceEqDiff, true_and, and_true, and_self, Nat.zero_le, Nat.le_refl, true_or, or_true, Bool.false_eq_true, not_false_eq_true, Nat.reduceAdd, Nat.lt_add_one, Nat.zero_lt_one, nI_add, pk_mul, ixL, vpL, ne_eq, reduceIte, wI_sA, sA_same, sA_ne, sA_sA, sA_comm, uI_at, uN_at, enc_at, uI_enc, uI_uI, itn1, itn2, itn3, itn4, itc, itc0, itc1, upM_s, upM_n]
      refine V_cS hB hno (q_ofN hc _ _ _) rfl (by decide +kernel) csX11_60 npX11_of ⟨by decide, by decide⟩ (Nat.le_of_ble_eq_true rfl) (n' := 0) (by decide) rfl ?_
      refine V_run hB (rt := some .int) (nL := 4) (mc := 0) rfl rfl rfl obX11_writeSlip_128 ?_
      dsimp only [bX11_writeSlip_128, ↓wpb, ↓wp1, ↓vI, ↓vL, ↓vD, ↓ldI, ↓ldL, ↓ldD, ↓ldR, ↓k1, ↓k2, ↓kI, ↓kL, ↓kD, ↓kII, ↓kLL, ↓kDD, ↓kR, ↓kIR, ↓kLR, ↓kIIR, ↓kLIR, ↓kDIR, ↓kRIR, ↓kNN, ↓kE, ↓br, ↓bn, ↓rtI, ↓gfv, ↓zchk, lput, ldel, lbad, alA, acat, isRf, dom, dS, dJ, isO, aTy, aLen, elAV, elR, Nat.reduceBEq, Nat.reduceAdd, Bool.or, Bool.and, Nat.add_zero, Nat.zero_add]
      try simp only [Nat.reduceLT, Nat.reduceLeDiff, Nat.reduceEqDiff, true_and, and_true, and_self, Nat.zero_le, Nat.le_refl, true_or, or_true, Bool.false_eq_true, not_false_eq_true, Nat.reduceAdd, Nat.lt_add_one, Nat.zero_lt_one, nI_add, pk_mul, ixL, vpL, ne_eq, reduceIte, wI_sA, sA_same, sA_ne, sA_sA, sA_comm, uI_at, uN_at, enc_at, uI_enc, uI_uI, itn1, itn2, itn3, itn4, itc, itc0, itc1, upM_s, upM_n, hv10, o6, p6]
      refine V_callV hB hno (q_writesNumber hc hk10 (v := it σ.1 i 6) (by omega) (by simp only [List.length_append, List.length_cons, List.length_nil]; omega)) rfl (by decide +kernel) cvX11_178 (dom1 rfl) npX11_writesNumber ⟨by decide, by decide⟩ (Nat.le_of_ble_eq_true rfl) (by decide) ?_ ?_
      rotate_left
      · intro E τ' hq; cases hq.1
      intro v10 t11 hq
      obtain ⟨e1, hk11⟩ := hq
      cases e1
      show V x t11 0 132 _ []
      have hv11 : t11.1 (31, 0, 0) = enc σ.1 := hk11.row31.trans hM0.1
      refine V_run hB (rt := some .int) (nL := 4) (mc := 0) rfl rfl rfl obX11_writeSlip_132 ?_
      dsimp only [bX11_writeSlip_132, ↓wpb, ↓wp1, ↓vI, ↓vL, ↓vD, ↓ldI, ↓ldL, ↓ldD, ↓ldR, ↓k1, ↓k2, ↓kI, ↓kL, ↓kD, ↓kII, ↓kLL, ↓kDD, ↓kR, ↓kIR, ↓kLR, ↓kIIR, ↓kLIR, ↓kDIR, ↓kRIR, ↓kNN, ↓kE, ↓br, ↓bn, ↓rtI, ↓gfv, ↓zchk, lput, ldel, lbad, alA, acat, isRf, dom, dS, dJ, isO, aTy, aLen, elAV, elR, Nat.reduceBEq, Nat.reduceAdd, Bool.or, Bool.and, Nat.add_zero, Nat.zero_add]
      try simp only [Nat.reduceLT, Nat.reduceLeDiff, Nat.reduceEqDiff, true_and, and_true, and_self, Nat.zero_le, Nat.le_refl, true_or, or_true, Bool.false_eq_true, not_false_eq_true, Nat.reduceAdd, Nat.lt_add_one, Nat.zero_lt_one, nI_add, pk_mul, ixL, vpL, ne_eq, reduceIte, wI_sA, sA_same, sA_ne, sA_sA, sA_comm, uI_at, uN_at, enc_at, uI_enc, uI_uI, itn1, itn2, itn3, itn4, itc, itc0, itc1, upM_s, upM_n]
      refine V_cS hB hno (q_ofN hc _ _ _) rfl (by decide +kernel) csX11_60 npX11_of ⟨by decide, by decide⟩ (Nat.le_of_ble_eq_true rfl) (n' := 0) (by decide) rfl ?_
      refine V_run hB (rt := some .int) (nL := 4) (mc := 0) rfl rfl rfl obX11_writeSlip_142 ?_
      dsimp only [bX11_writeSlip_142, ↓wpb, ↓wp1, ↓vI, ↓vL, ↓vD, ↓ldI, ↓ldL, ↓ldD, ↓ldR, ↓k1, ↓k2, ↓kI, ↓kL, ↓kD, ↓kII, ↓kLL, ↓kDD, ↓kR, ↓kIR, ↓kLR, ↓kIIR, ↓kLIR, ↓kDIR, ↓kRIR, ↓kNN, ↓kE, ↓br, ↓bn, ↓rtI, ↓gfv, ↓zchk, lput, ldel, lbad, alA, acat, isRf, dom, dS, dJ, isO, aTy, aLen, elAV, elR, Nat.reduceBEq, Nat.reduceAdd, Bool.or, Bool.and, Nat.add_zero, Nat.zero_add]
      try simp only [Nat.reduceLT, Nat.reduceLeDiff, Nat.reduceEqDiff, true_and, and_true, and_self, Nat.zero_le, Nat.le_refl, true_or, or_true, Bool.false_eq_true, not_false_eq_true, Nat.reduceAdd, Nat.lt_add_one, Nat.zero_lt_one, nI_add, pk_mul, ixL, vpL, ne_eq, reduceIte, wI_sA, sA_same, sA_ne, sA_sA, sA_comm, uI_at, uN_at, enc_at, uI_enc, uI_uI, itn1, itn2, itn3, itn4, itc, itc0, itc1, upM_s, upM_n, hv11, o6, p6]
      refine ⟨fun hne => ?_, fun he => ?_⟩
      · rw [if_neg (show ¬ it σ.1 i 6 = σ.1 0 from fun q => hne (congrArg nI q))] at hsl
        exact fin158 _ _ hk11 (by rw [hsl]; simp only [List.append_assoc, List.nil_append, List.append_nil])
      · have he := (nI_eq (show it σ.1 i 6 < 2147483648 by omega) (by omega)).mp he
        rw [if_pos he] at hsl
        refine V_callV hB hno (q_writes hc hk11 (by simp only [List.length_append, List.length_cons, List.length_nil]; omega) 63) rfl (by decide +kernel) cvX11_175 (dom1 rfl) npX11_writes ⟨by decide, by decide⟩ (Nat.le_of_ble_eq_true rfl) (by decide) ?_ ?_
        rotate_left
        · intro E τ' hq; cases hq.1
        intro v11 t12 hq
        obtain ⟨e1, hk12⟩ := hq
        cases e1
        show V x t12 0 158 _ []
        have hv12 : t12.1 (31, 0, 0) = enc σ.1 := hk12.row31.trans hM0.1
        exact fin158 _ _ hk12 (by rw [hsl]; simp only [List.append_assoc, List.nil_append, List.append_nil])
end ML
