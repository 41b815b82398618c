/-! ===== the class: an evening sold ===== -/
def seN (nm : Nm) : Prop := shN 0 nm ∨ evN nm
theorem gt_mg {a : Nat → Nat} {i u : Nat} : ∀ {k b q : Nat}, gt a i u b k = some q → mg a i q u = true
  | 0, b, q, h => by cases h
  | k + 1, b, q, h => by
    unfold gt at h
    split at h
    · rename_i e; cases h; exact e.1
    · exact gt_mg h
section E3
variable {l : Launch} {G : GG} {τ : Mem} {a π : Nat → Nat} {n : Nat}
theorem c_sellEve (hc : Ctx l G) (hS : ShP τ 0 a π) (hV : IV n a) (hn : n ≤ 1000) : Sat l G iX9_sellLotsOf [shM, evM] τ (OpC [ISE] seN τ (sEve a)) := by
  have h10 := hV.1.1
  have hbd := hV.bidOk
  have hlt := hV.lt hn
  refine Sat_of hc.1 hc.2 (by decide +kernel) (Nat.le_of_ble_eq_true rfl) (fun x hB hno => ?_)
  refine V_run hB (rt := some .int) (nL := 5) (mc := 1) rfl rfl rfl obX9_sellLotsOf_0 ?_
  dsimp only [bX9_sellLotsOf_0, ↓wpb, ↓wp1, ↓vI, ↓vL, ↓vD, ↓ldI, ↓ldL, ↓ldD, ↓ldR, ↓k1, ↓k2, ↓kI, ↓kL, ↓kD, ↓kII, ↓kLL, ↓kDD, ↓kR, ↓kIR, ↓kLR, ↓kIIR, ↓kLIR, ↓kDIR, ↓kRIR, ↓kNN, ↓kE, ↓br, ↓bn, ↓rtI, ↓gfv, ↓zchk, lput, ldel, lbad, alA, acat, isRf, dom, dS, dJ, isO, aTy, aLen, elAV, elR, Nat.reduceBEq, Nat.reduceAdd, Bool.or, Bool.and, Nat.add_zero, Nat.zero_add]
  try simp only [Nat.reduceLT, Nat.reduceLeDiff, Nat.reduceEqDiff, true_and, and_true, and_self, Nat.zero_le, Nat.le_refl, true_or, or_true, Bool.false_eq_true, not_false_eq_true, Nat.reduceAdd, Nat.lt_add_one, Nat.zero_lt_one, nI_add, pk_mul, ixL, vpL, ne_eq, reduceIte, wI_sN, wL_sM, sN_same, sN_K, sN_2, sM_1, sM_same, sM_K, sM_s, uI_at, uN_at, enc_at, uI_enc, uI_uI, upM_s, upM_n]
  refine V_callV hB hno (c_plan hc hS hV hn) rfl (by decide +kernel) cvX9_179 (dom1 rfl) npX4_plan ⟨by decide, by decide⟩ (Nat.le_of_ble_eq_true rfl) (by decide) ?_ ?_
  rotate_left
  · intro E τ' hq; cases hq.1
  intro v t0 hq
  obtain ⟨e1, hm0, hY0⟩ := hq
  cases e1
  show V x t0 0 5 _ [aI (nI (bR a (a 4) 0))]
  have hbR := bR_all hbd h10 (Nat.le_refl (a 4)) 0
  refine V_run hB (rt := some .int) (nL := 5) (mc := 1) rfl rfl rfl obX9_sellLotsOf_5 ?_
  dsimp only [bX9_sellLotsOf_5, ↓wpb, ↓wp1, ↓vI, ↓vL, ↓vD, ↓ldI, ↓ldL, ↓ldD, ↓ldR, ↓k1, ↓k2, ↓kI, ↓kL, ↓kD, ↓kII, ↓kLL, ↓kDD, ↓kR, ↓kIR, ↓kLR, ↓kIIR, ↓kLIR, ↓kDIR, ↓kRIR, ↓kNN, ↓kE, ↓br, ↓bn, ↓rtI, ↓gfv, ↓zchk, lput, ldel, lbad, alA, acat, isRf, dom, dS, dJ, isO, aTy, aLen, elAV, elR, Nat.reduceBEq, Nat.reduceAdd, Bool.or, Bool.and, Nat.add_zero, Nat.zero_add]
  try simp only [Nat.reduceLT, Nat.reduceLeDiff, Nat.reduceEqDiff, true_and, and_true, and_self, Nat.zero_le, Nat.le_refl, true_or, or_true, Bool.false_eq_true, not_false_eq_true, Nat.reduceAdd, Nat.lt_add_one, Nat.zero_lt_one, nI_add, pk_mul, ixL, vpL, ne_eq, reduceIte, wI_sN, wL_sM, sN_same, sN_K, sN_2, sM_1, sM_same, sM_K, sM_s, uI_at, uN_at, enc_at, uI_enc, uI_uI, upM_s, upM_n]
  refine ⟨fun q => ?_, fun q => ?_⟩
  · have q : bR a (a 4) 0 ≠ 0 := fun z => q (by rw [z]; rfl)
    have e : sEve a = (0, bR a (a 4) 0, sD a (a 4)) := if_neg q
    rw [e] at hB
    have g5 := (hS.ev hm0).1.2.2
    have es := dI_sub (a 4)
    have loop : ∀ k t al, k ≤ a 4 → ShR t 0 (sD a (a 4 - k)) → ByR t a → Same seN τ t → (∀ z ∈ [(0, shM), (1, evM), (2, aI (nI (bR a (a 4) 0))), (3, aI (dI k))], lk al z.1 = some z.2) → V x t 0 27 al [] := by
      intro k
      induction k with
      | zero =>
        intro t al hk hR hY hm hal
        refine V.sub ?_ hal
        refine V_run hB (rt := some .int) (nL := 5) (mc := 1) rfl rfl rfl obX9_sellLotsOf_27 ?_
        dsimp only [bX9_sellLotsOf_27, ↓wpb, ↓wp1, ↓vI, ↓vL, ↓vD, ↓ldI, ↓ldL, ↓ldD, ↓ldR, ↓k1, ↓k2, ↓kI, ↓kL, ↓kD, ↓kII, ↓kLL, ↓kDD, ↓kR, ↓kIR, ↓kLR, ↓kIIR, ↓kLIR, ↓kDIR, ↓kRIR, ↓kNN, ↓kE, ↓br, ↓bn, ↓rtI, ↓gfv, ↓zchk, lput, ldel, lbad, alA, acat, isRf, dom, dS, dJ, isO, aTy, aLen, elAV, elR, Nat.reduceBEq, Nat.reduceAdd, Bool.or, Bool.and, Nat.add_zero, Nat.zero_add]
        try simp only [Nat.reduceLT, Nat.reduceLeDiff, Nat.reduceEqDiff, true_and, and_true, and_self, Nat.zero_le, Nat.le_refl, true_or, or_true, Bool.false_eq_true, not_false_eq_true, Nat.reduceAdd, Nat.lt_add_one, Nat.zero_lt_one, nI_add, pk_mul, ixL, vpL, ne_eq, reduceIte, wI_sN, wL_sM, sN_same, sN_K, sN_2, sM_1, sM_same, sM_K, sM_s, uI_at, uN_at, enc_at, uI_enc, uI_uI, upM_s, upM_n]
        refine ⟨fun _ => ?_, fun q => absurd (by decide) q⟩
        refine V_run hB (rt := some .int) (nL := 5) (mc := 1) rfl rfl rfl obX9_sellLotsOf_83 ?_
        dsimp only [bX9_sellLotsOf_83, ↓wpb, ↓wp1, ↓vI, ↓vL, ↓vD, ↓ldI, ↓ldL, ↓ldD, ↓ldR, ↓k1, ↓k2, ↓kI, ↓kL, ↓kD, ↓kII, ↓kLL, ↓kDD, ↓kR, ↓kIR, ↓kLR, ↓kIIR, ↓kLIR, ↓kDIR, ↓kRIR, ↓kNN, ↓kE, ↓br, ↓bn, ↓rtI, ↓gfv, ↓zchk, lput, ldel, lbad, alA, acat, isRf, dom, dS, dJ, isO, aTy, aLen, elAV, elR, Nat.reduceBEq, Nat.reduceAdd, Bool.or, Bool.and, Nat.add_zero, Nat.zero_add]
        try simp only [Nat.reduceLT, Nat.reduceLeDiff, Nat.reduceEqDiff, true_and, and_true, and_self, Nat.zero_le, Nat.le_refl, true_or, or_true, Bool.false_eq_true, not_false_eq_true, Nat.reduceAdd, Nat.lt_add_one, Nat.zero_lt_one, nI_add, pk_mul, ixL, vpL, ne_eq, reduceIte, wI_sN, wL_sM, sN_same, sN_K, sN_2, sM_1, sM_same, sM_K, sM_s, uI_at, uN_at, enc_at, uI_enc, uI_uI, upM_s, upM_n]
        exact ⟨rfl, hR, hm⟩
      | succ k ih =>
        intro t al hk hR hY hm hal
        refine V.sub ?_ hal
        rw [show dI (k + 1) = nI k from rfl]
        obtain ⟨c1, c2, c3, c4, c5, c6, c7⟩ := sD_bd hbd hV.min h10 (M := 1073741823) (fun j _ => by have := hlt j; omega) (a 4 - (k + 1)) (by omega)
        have hsd : a 4 - k = (a 4 - (k + 1)) + 1 := by omega
        have hki : a 4 - (a 4 - (k + 1) + 1) = k := by omega
        have hU : sD a (a 4 - k) = match gk a k with
            | none => sD a (a 4 - (k + 1))
            | some b => soldA (sD a (a 4 - (k + 1))) k (it (sD a (a 4 - (k + 1))) k (7 + b)) := by
          rw [hsd]
          show (match gk a (a 4 - (a 4 - (k + 1) + 1)) with | none => _ | some b => _) = _
          rw [hki]
        refine V_run hB (rt := some .int) (nL := 5) (mc := 1) rfl rfl rfl obX9_sellLotsOf_27 ?_
        dsimp only [bX9_sellLotsOf_27, ↓wpb, ↓wp1, ↓vI, ↓vL, ↓vD, ↓ldI, ↓ldL, ↓ldD, ↓ldR, ↓k1, ↓k2, ↓kI, ↓kL, ↓kD, ↓kII, ↓kLL, ↓kDD, ↓kR, ↓kIR, ↓kLR, ↓kIIR, ↓kLIR, ↓kDIR, ↓kRIR, ↓kNN, ↓kE, ↓br, ↓bn, ↓rtI, ↓gfv, ↓zchk, lput, ldel, lbad, alA, acat, isRf, dom, dS, dJ, isO, aTy, aLen, elAV, elR, Nat.reduceBEq, Nat.reduceAdd, Bool.or, Bool.and, Nat.add_zero, Nat.zero_add]
        try simp only [Nat.reduceLT, Nat.reduceLeDiff, Nat.reduceEqDiff, true_and, and_true, and_self, Nat.zero_le, Nat.le_refl, true_or, or_true, Bool.false_eq_true, not_false_eq_true, Nat.reduceAdd, Nat.lt_add_one, Nat.zero_lt_one, nI_add, pk_mul, ixL, vpL, ne_eq, reduceIte, wI_sN, wL_sM, sN_same, sN_K, sN_2, sM_1, sM_same, sM_K, sM_s, uI_at, uN_at, enc_at, uI_enc, uI_uI, upM_s, upM_n]
        refine ⟨fun q => absurd q (nI_pos (by omega)), fun _ => ?_⟩
        refine V_cV hB hno (c_buyerAt hc hY h10 (i := k) (by omega)) rfl (by decide +kernel) cvX9_187 (dom1 rfl) npX4_buyerAt ⟨by decide, by decide⟩ (Nat.le_of_ble_eq_true rfl) (n' := 0) (by decide) rfl ?_
        cases hg : gk a k with
        | none =>
          rw [hg] at hU
          refine V_run hB (rt := some .int) (nL := 5) (mc := 1) rfl rfl rfl obX9_sellLotsOf_36 ?_
          dsimp only [bX9_sellLotsOf_36, ↓wpb, ↓wp1, ↓vI, ↓vL, ↓vD, ↓ldI, ↓ldL, ↓ldD, ↓ldR, ↓k1, ↓k2, ↓kI, ↓kL, ↓kD, ↓kII, ↓kLL, ↓kDD, ↓kR, ↓kIR, ↓kLR, ↓kIIR, ↓kLIR, ↓kDIR, ↓kRIR, ↓kNN, ↓kE, ↓br, ↓bn, ↓rtI, ↓gfv, ↓zchk, lput, ldel, lbad, alA, acat, isRf, dom, dS, dJ, isO, aTy, aLen, elAV, elR, Nat.reduceBEq, Nat.reduceAdd, Bool.or, Bool.and, Nat.add_zero, Nat.zero_add]
          try simp only [Nat.reduceLT, Nat.reduceLeDiff, Nat.reduceEqDiff, true_and, and_true, and_self, Nat.zero_le, Nat.le_refl, true_or, or_true, Bool.false_eq_true, not_false_eq_true, Nat.reduceAdd, Nat.lt_add_one, Nat.zero_lt_one, nI_add, pk_mul, ixL, vpL, ne_eq, reduceIte, wI_sN, wL_sM, sN_same, sN_K, sN_2, sM_1, sM_same, sM_K, sM_s, uI_at, uN_at, enc_at, uI_enc, uI_uI, upM_s, upM_n]
          refine ⟨fun _ => ?_, fun q => absurd rfl q⟩
          refine V_run hB (rt := some .int) (nL := 5) (mc := 1) rfl rfl rfl obX9_sellLotsOf_77 ?_
          dsimp only [bX9_sellLotsOf_77, ↓wpb, ↓wp1, ↓vI, ↓vL, ↓vD, ↓ldI, ↓ldL, ↓ldD, ↓ldR, ↓k1, ↓k2, ↓kI, ↓kL, ↓kD, ↓kII, ↓kLL, ↓kDD, ↓kR, ↓kIR, ↓kLR, ↓kIIR, ↓kLIR, ↓kDIR, ↓kRIR, ↓kNN, ↓kE, ↓br, ↓bn, ↓rtI, ↓gfv, ↓zchk, lput, ldel, lbad, alA, acat, isRf, dom, dS, dJ, isO, aTy, aLen, elAV, elR, Nat.reduceBEq, Nat.reduceAdd, Bool.or, Bool.and, Nat.add_zero, Nat.zero_add]
          try simp only [Nat.reduceLT, Nat.reduceLeDiff, Nat.reduceEqDiff, true_and, and_true, and_self, Nat.zero_le, Nat.le_refl, true_or, or_true, Bool.false_eq_true, not_false_eq_true, Nat.reduceAdd, Nat.lt_add_one, Nat.zero_lt_one, nI_add, pk_mul, ixL, vpL, ne_eq, reduceIte, wI_sN, wL_sM, sN_same, sN_K, sN_2, sM_1, sM_same, sM_K, sM_s, uI_at, uN_at, enc_at, uI_enc, uI_uI, upM_s, upM_n]
          rw [dI_dec]
          exact ih t _ (by omega) (by rw [hU]; exact hR) hY hm (List.forall_mem_cons.mpr ⟨rfl, List.forall_mem_cons.mpr ⟨rfl, List.forall_mem_cons.mpr ⟨rfl, List.forall_mem_cons.mpr ⟨rfl, fun _ h => absurd h List.not_mem_nil⟩⟩⟩⟩)
        | some b =>
          rw [hg] at hU
          have hb5 := gk_lt hg
          have hmg : mg a k b (uA a k) = true := gt_mg hg
          have hlot : it a k 1 = 1 := by
            have h1 : isLot a k = true := by
              unfold mg at hmg
              simp only [Bool.and_eq_true] at hmg
              exact hmg.1.1.1
            unfold isLot at h1
            exact beq_iff_eq.mp h1
          have hks : k < (sD a (a 4 - (k + 1))) 4 := by omega
          have hl2 : it (sD a (a 4 - (k + 1))) k 1 = 1 := by rw [c3 k (by omega) 1 (by omega)]; exact hlot
          have h10s : (sD a (a 4 - (k + 1))) 4 ≤ 10 := by omega
          generalize sD a (a 4 - (k + 1)) = s at *
          obtain ⟨π, hS⟩ := hR
          have ix : (nI k).toNatClampNeg = k := ixL (by omega)
          have vx : vp_in (nI k) 10 = True := vpL (by omega) (by omega)
          obtain ⟨hp, rp⟩ := hS.2.2.2.1 k (by omega)
          have ip : (nI (π k)).toNatClampNeg = π k := ixL (by omega)
          obtain ⟨⟨f0, f1, f2, f3, f4, f5, f6⟩, fb⟩ := hS.2.2.2.2.2 k (by omega)
          have ixb : (nI b).toNatClampNeg = b := ixL (by omega)
          have vxb : vp_in (nI b) 5 = True := vpL (by omega) (by omega)
          have rb := fb hl2 b hb5
          rw [oI_some]
          refine V_run hB (rt := some .int) (nL := 5) (mc := 1) rfl rfl rfl obX9_sellLotsOf_36 ?_
          dsimp only [bX9_sellLotsOf_36, ↓wpb, ↓wp1, ↓vI, ↓vL, ↓vD, ↓ldI, ↓ldL, ↓ldD, ↓ldR, ↓k1, ↓k2, ↓kI, ↓kL, ↓kD, ↓kII, ↓kLL, ↓kDD, ↓kR, ↓kIR, ↓kLR, ↓kIIR, ↓kLIR, ↓kDIR, ↓kRIR, ↓kNN, ↓kE, ↓br, ↓bn, ↓rtI, ↓gfv, ↓zchk, lput, ldel, lbad, alA, acat, isRf, dom, dS, dJ, isO, aTy, aLen, elAV, elR, Nat.reduceBEq, Nat.reduceAdd, Bool.or, Bool.and, Nat.add_zero, Nat.zero_add]
          try simp only [Nat.reduceLT, Nat.reduceLeDiff, Nat.reduceEqDiff, true_and, and_true, and_self, Nat.zero_le, Nat.le_refl, true_or, or_true, Bool.false_eq_true, not_false_eq_true, Nat.reduceAdd, Nat.lt_add_one, Nat.zero_lt_one, nI_add, pk_mul, ixL, vpL, ne_eq, reduceIte, wI_sN, wL_sM, sN_same, sN_K, sN_2, sM_1, sM_same, sM_K, sM_s, uI_at, uN_at, enc_at, uI_enc, uI_uI, upM_s, upM_n, ix, vx, hp, rp, ip, f0, f1, f2, f3, f4, f5, f6, ixb, vxb, rb]
          refine ⟨fun q => absurd q (nI_n1 (by omega)), fun _ => ?_⟩
          refine V_callV hB hno (c_enterSale hc hS.2.2.1 (a' := uN (uN s 2 (s 2 + it s k (7 + b))) 7 (s 7 + it s k 3)) (d := it s k (7 + b)) (m := it s k 3) rfl rfl rfl rfl rfl) rfl (by decide +kernel) cvX9_176 (dom1 rfl) npX1_enterSale ⟨by decide, by decide⟩ (Nat.le_of_ble_eq_true rfl) (by decide) ?_ ?_
          rotate_left
          · intro E τ' hq; cases hq.1
          intro v1 t1 hq
          obtain ⟨e1, hm1, hA1⟩ := hq
          cases e1
          show V x t1 0 72 _ []
          have hS1 := hS.ac hA1 hm1 (fun k k2 k5 k6 k7 k8 => by simp only [uN]; rw [if_neg k7, if_neg k2])
          refine V_run hB (rt := some .int) (nL := 5) (mc := 1) rfl rfl rfl obX9_sellLotsOf_72 ?_
          dsimp only [bX9_sellLotsOf_72, ↓wpb, ↓wp1, ↓vI, ↓vL, ↓vD, ↓ldI, ↓ldL, ↓ldD, ↓ldR, ↓k1, ↓k2, ↓kI, ↓kL, ↓kD, ↓kII, ↓kLL, ↓kDD, ↓kR, ↓kIR, ↓kLR, ↓kIIR, ↓kLIR, ↓kDIR, ↓kRIR, ↓kNN, ↓kE, ↓br, ↓bn, ↓rtI, ↓gfv, ↓zchk, lput, ldel, lbad, alA, acat, isRf, dom, dS, dJ, isO, aTy, aLen, elAV, elR, Nat.reduceBEq, Nat.reduceAdd, Bool.or, Bool.and, Nat.add_zero, Nat.zero_add]
          try simp only [Nat.reduceLT, Nat.reduceLeDiff, Nat.reduceEqDiff, true_and, and_true, and_self, Nat.zero_le, Nat.le_refl, true_or, or_true, Bool.false_eq_true, not_false_eq_true, Nat.reduceAdd, Nat.lt_add_one, Nat.zero_lt_one, nI_add, pk_mul, ixL, vpL, ne_eq, reduceIte, wI_sN, wL_sM, sN_same, sN_K, sN_2, sM_1, sM_same, sM_K, sM_s, uI_at, uN_at, enc_at, uI_enc, uI_uI, upM_s, upM_n]
          refine V_callV hB hno (c_removeAt hc hS1 h10s (i := k) hks) rfl (by decide +kernel) cvX9_128 (dom1 rfl) npX9_removeAt ⟨by decide, by decide⟩ (Nat.le_of_ble_eq_true rfl) (by decide) ?_ ?_
          rotate_left
          · intro E τ' hq; cases hq.1
          intro v2 t2 hq
          obtain ⟨e2, hR2, hm2⟩ := hq
          cases e2
          show V x t2 0 77 _ []
          refine V_run hB (rt := some .int) (nL := 5) (mc := 1) rfl rfl rfl obX9_sellLotsOf_77 ?_
          dsimp only [bX9_sellLotsOf_77, ↓wpb, ↓wp1, ↓vI, ↓vL, ↓vD, ↓ldI, ↓ldL, ↓ldD, ↓ldR, ↓k1, ↓k2, ↓kI, ↓kL, ↓kD, ↓kII, ↓kLL, ↓kDD, ↓kR, ↓kIR, ↓kLR, ↓kIIR, ↓kLIR, ↓kDIR, ↓kRIR, ↓kNN, ↓kE, ↓br, ↓bn, ↓rtI, ↓gfv, ↓zchk, lput, ldel, lbad, alA, acat, isRf, dom, dS, dJ, isO, aTy, aLen, elAV, elR, Nat.reduceBEq, Nat.reduceAdd, Bool.or, Bool.and, Nat.add_zero, Nat.zero_add]
          try simp only [Nat.reduceLT, Nat.reduceLeDiff, Nat.reduceEqDiff, true_and, and_true, and_self, Nat.zero_le, Nat.le_refl, true_or, or_true, Bool.false_eq_true, not_false_eq_true, Nat.reduceAdd, Nat.lt_add_one, Nat.zero_lt_one, nI_add, pk_mul, ixL, vpL, ne_eq, reduceIte, wI_sN, wL_sM, sN_same, sN_K, sN_2, sM_1, sM_same, sM_K, sM_s, uI_at, uN_at, enc_at, uI_enc, uI_uI, upM_s, upM_n]
          rw [dI_dec]
          have n1 : ∀ K, K = 7 ∨ K = 24 → t2.1 (K, 0, 0) = t.1 (K, 0, 0) := fun K hK => ((hm2.2 (K, 0, 0) (by rintro (z | z) <;> injection z with z1 z2 <;> omega)).1).trans (hm1.2 (K, 0, 0) (fun z => by injection z with z1 z2; omega)).1
          refine ih t2 _ (by omega) (by rw [hU]; exact hR2) ⟨by rw [n1 7 (Or.inl rfl)]; exact hY.1, fun j hj => by rw [n1 24 (Or.inr rfl)]; exact hY.2 j hj⟩ ?_ (List.forall_mem_cons.mpr ⟨rfl, List.forall_mem_cons.mpr ⟨rfl, List.forall_mem_cons.mpr ⟨rfl, List.forall_mem_cons.mpr ⟨rfl, fun _ h => absurd h List.not_mem_nil⟩⟩⟩⟩)
          exact (hm.trans (hm1.sh4.mono (fun _ q => Or.inl q))).trans (hm2.mono (fun nm q => by rcases q with rfl | rfl <;> exact Or.inl ⟨by decide, rfl⟩))
    refine V_run hB (rt := some .int) (nL := 5) (mc := 1) rfl rfl rfl obX9_sellLotsOf_20 ?_
    dsimp only [bX9_sellLotsOf_20, ↓wpb, ↓wp1, ↓vI, ↓vL, ↓vD, ↓ldI, ↓ldL, ↓ldD, ↓ldR, ↓k1, ↓k2, ↓kI, ↓kL, ↓kD, ↓kII, ↓kLL, ↓kDD, ↓kR, ↓kIR, ↓kLR, ↓kIIR, ↓kLIR, ↓kDIR, ↓kRIR, ↓kNN, ↓kE, ↓br, ↓bn, ↓rtI, ↓gfv, ↓zchk, lput, ldel, lbad, alA, acat, isRf, dom, dS, dJ, isO, aTy, aLen, elAV, elR, Nat.reduceBEq, Nat.reduceAdd, Bool.or, Bool.and, Nat.add_zero, Nat.zero_add]
    try simp only [Nat.reduceLT, Nat.reduceLeDiff, Nat.reduceEqDiff, true_and, and_true, and_self, Nat.zero_le, Nat.le_refl, true_or, or_true, Bool.false_eq_true, not_false_eq_true, Nat.reduceAdd, Nat.lt_add_one, Nat.zero_lt_one, nI_add, pk_mul, ixL, vpL, ne_eq, reduceIte, wI_sN, wL_sM, sN_same, sN_K, sN_2, sM_1, sM_same, sM_K, sM_s, uI_at, uN_at, enc_at, uI_enc, uI_uI, upM_s, upM_n, g5, es]
    exact loop (a 4) t0 _ (Nat.le_refl _) ⟨π, by rw [Nat.sub_self]; exact hS.ev hm0⟩ hY0 (hm0.mono (fun _ q => Or.inr q)) (List.forall_mem_cons.mpr ⟨rfl, List.forall_mem_cons.mpr ⟨rfl, List.forall_mem_cons.mpr ⟨rfl, List.forall_mem_cons.mpr ⟨rfl, fun _ h => absurd h List.not_mem_nil⟩⟩⟩⟩)
  · have q : bR a (a 4) 0 = 0 := (nI_eq (by omega) (by omega)).mp (show nI _ = nI 0 from q)
    have e : sEve a = (1, 0, a) := if_pos q
    rw [e] at hB
    refine V_throw hB hno thX9_185_89 ⟨by decide +kernel, by decide +kernel, by decide +kernel, by decide +kernel, by decide +kernel⟩ (by decide) (Nat.le_of_ble_eq_true rfl) ?_
    exact ⟨rfl, ⟨π, hS.ev hm0⟩, hm0.mono (fun _ q => Or.inr q)⟩
end E3
