/-! ===== the class: the shop written ===== -/
def exL (L : List String) (c : Nat) : String := L.getD (c - 1) ""
def shN (s : Nat) (nm : Nm) : Prop := (nm.1 = 2 ∨ nm.1 = 3 ∨ nm.1 = 4 ∨ nm.1 = 5 ∨ nm.1 = 10 ∨ nm.1 = 11 ∨ nm.1 = 12) ∧ nm.2.1 = s
theorem shN5 (s j : Nat) : shN s (5, s, j) := ⟨Or.inr (Or.inr (Or.inr (Or.inl rfl))), rfl⟩
theorem shN12 (s j : Nat) : shN s (12, s, j) := ⟨Or.inr (Or.inr (Or.inr (Or.inr (Or.inr (Or.inr rfl))))), rfl⟩
/-- an operation of the class: what it answers or throws, the shop behind it -/
def OpC (L : List String) (P : Nm → Prop) (τ : Mem) (r : Nat × Nat × (Nat → Nat)) : AOut → Mem → Prop := fun o τ' => o = (if r.1 = 0 then .inl (some (aI (nI r.2.1))) else .inr (exL L r.1)) ∧ ShR τ' 0 r.2.2 ∧ Same P τ τ'
theorem CaR.of {τ τ' : Mem} {s : Nat} {a a' : Nat → Nat} (h : CaR τ s a) (m3 : τ'.1 (3, s, 0) = τ.1 (3, s, 0)) (m11 : τ'.1 (11, s, 0) = τ.1 (11, s, 0)) (e0 : a' 0 = a 0) (e9 : ∀ w, w < 7 → a' (9 + w) = a (9 + w)) : CaR τ' s a' := by
  refine ⟨by rw [m3, e0]; exact h.1, fun w hw => by rw [m11, e9 w hw]; exact h.2 w hw⟩
theorem AcR.of {τ τ' : Mem} {s : Nat} {a a' : Nat → Nat} (h : AcR τ s a) (m1 : τ'.1 (4, s, 0) = τ.1 (4, s, 0)) (m2 : τ'.2.1 (4, s, 0) = τ.2.1 (4, s, 0)) (e2 : a' 2 = a 2) (e5 : a' 5 = a 5) (e6 : a' 6 = a 6) (e7 : a' 7 = a 7) (e8 : a' 8 = a 8) : AcR τ' s a' := by
  unfold AcR
  rw [m1, m2, e2, e5, e6, e7, e8]
  exact h
theorem I1.of {f b f' b' : Nat → Int32} {t t' : Nat → Nat} (h : I1 f b t) (ef : f' = f) (eb : b' = b) (e : ∀ c, c < 12 → t' c = t c) : I1 f' b' t' := by
  subst ef eb
  obtain ⟨⟨h0, h1, h2, h3, h4, h5, h6⟩, hb⟩ := h
  refine ⟨⟨?_, ?_, ?_, ?_, ?_, ?_, ?_⟩, fun q c hc => ?_⟩
  · rw [e 0 (by omega)]; exact h0
  · rw [e 2 (by omega)]; exact h1
  · rw [e 3 (by omega)]; exact h2
  · rw [e 4 (by omega)]; exact h3
  · rw [e 5 (by omega)]; exact h4
  · rw [e 6 (by omega)]; exact h5
  · rw [e 1 (by omega)]; exact h6
  · rw [e 1 (by omega)] at q
    rw [e _ (by omega)]
    exact hb q c hc
theorem ItP.of {τ τ' : Mem} {s : Nat} {a a' π : Nat → Nat} (h : ItP τ s a π) (m10 : τ'.1 (10, s, 0) = τ.1 (10, s, 0)) (h4 : a' 4 ≤ a 4) (m5 : ∀ i, i < a 4 → τ'.1 (5, s, π i) = τ.1 (5, s, π i)) (m12 : ∀ i, i < a 4 → τ'.1 (12, s, π i) = τ.1 (12, s, π i)) (e : ∀ i, i < a 4 → ∀ c, c < 12 → it a' i c = it a i c) : ItP τ' s a' π :=
  ⟨fun i hi => by rw [m10]; exact h.1 i hi, h.2.1, fun i hi => (h.2.2 i (by omega)).of (m5 i (by omega)) (m12 i (by omega)) (e i (by omega))⟩
/-- accounts alone have changed -/
theorem ShP.ac {τ τ' : Mem} {a a' π : Nat → Nat} (h : ShP τ 0 a π) (hA : AcR τ' 0 a') (hm : Same (fun nm => nm = (4, 0, 0)) τ τ') (e : ∀ k, k ≠ 2 → k ≠ 5 → k ≠ 6 → k ≠ 7 → k ≠ 8 → a' k = a k) : ShP τ' 0 a' π := by
  have hn : ∀ K s j, K ≠ 4 → τ'.1 (K, s, j) = τ.1 (K, s, j) := fun K s j hk => (hm.2 (K, s, j) (fun z => hk (by injection z))).1
  refine ⟨?_, h.2.1.of (hn _ _ _ (by decide)) (hn _ _ _ (by decide)) (e 0 (by decide) (by decide) (by decide) (by decide) (by decide)) (fun w hw => e _ (by omega) (by omega) (by omega) (by omega) (by omega)), hA, h.2.2.2.of (hn _ _ _ (by decide)) (Nat.le_of_eq (e 4 (by decide) (by decide) (by decide) (by decide) (by decide))) (fun i _ => hn _ _ _ (by decide)) (fun i _ => hn _ _ _ (by decide)) (fun i _ c _ => ?_)⟩
  · rw [hn _ _ _ (by decide), e 1 (by decide) (by decide) (by decide) (by decide) (by decide), e 3 (by decide) (by decide) (by decide) (by decide) (by decide), e 4 (by decide) (by decide) (by decide) (by decide) (by decide)]
    exact h.1
  · unfold it
    exact e _ (by omega) (by omega) (by omega) (by omega) (by omega)
theorem Same.sh4 {τ τ' : Mem} (h : Same (fun nm => nm = (4, 0, 0)) τ τ') : Same (shN 0) τ τ' := h.mono (fun nm q => by subst q; exact ⟨by decide, rfl⟩)
theorem find_congr {a a' : Nat → Nat} (h4 : a' 4 = a 4) (h : ∀ i, it a' i 0 = it a i 0) (t : Int32) : find a' t = find a t := by
  have e : ∀ k i, fnd a' t i k = fnd a t i k := by
    intro k
    induction k with
    | zero => intro i; rfl
    | succ k ih => intro i; unfold fnd; rw [h, ih]
  unfold find
  rw [h4, e]
theorem findO_find {a : Nat → Nat} {t : Int32} {b : Bool} {i : Nat} (h : findO a t b = some i) : find a t = some i := by
  unfold findO at h
  split at h
  · rename_i j hj
    split at h
    · cases h; exact hj
    · cases h
  · cases h
section C4
variable {l : Launch} {G : GG} {τ : Mem} {a π : Nat → Nat} {n : Nat}
/-- places, one of them moved behind the others -/
def mvP (π : Nat → Nat) (m i j : Nat) : Nat := if i ≤ j ∧ j + 1 < m then π (j + 1) else if j + 1 = m then π i else π j
theorem c_removeAt (hc : Ctx l G) (hS : ShP τ 0 a π) (h10 : a 4 ≤ 10) {i : Nat} (hi : i < a 4) : Sat l G iX9_removeAt [shM, aI (nI i)] τ (voidP (fun τ' => ShR τ' 0 (goesA a i) ∧ Same (fun nm => nm = (2, 0, 0) ∨ nm = (10, 0, 0)) τ τ')) := by
  obtain ⟨⟨g2, g3, g5⟩, hca, hac, ⟨hpi, hinj, hit⟩⟩ := hS
  have row : ∀ k, k < 10 → τ.1 (10, 0, 0) k = nI (π k) ∧ π k < 10 := fun k hk => ⟨(hpi k hk).2, (hpi k hk).1⟩
  have es : nI (a 4) - nI 1 = nI (a 4 - 1) := pk_sub (by omega)
  have ixi : (nI i).toNatClampNeg = i := ixL (by omega)
  have vxi : vp_in (nI i) 10 = True := vpL (by omega) (by omega)
  have rpi := (row i (by omega)).1
  have hpi0 := (row i (by omega)).2
  have ipi : (nI (π i)).toNatClampNeg = π i := ixL (by omega)
  have ixm : (nI (a 4 - 1)).toNatClampNeg = a 4 - 1 := ixL (by omega)
  have vxm : vp_in (nI (a 4 - 1)) 10 = True := vpL (by omega) (by omega)
  refine Sat_of hc.1 hc.2 (by decide +kernel) (Nat.le_of_ble_eq_true rfl) (fun x hB hno => ?_)
  have loop : ∀ w k R, k + w = a 4 - 1 → i ≤ k → (∀ j, j < 10 → R j = nI (if i ≤ j ∧ j < k then π (j + 1) else π j)) → V x (sN (sN τ (2, 0, 0) (uI (τ.1 (2, 0, 0)) 5 (nI (a 4 - 1)))) (10, 0, 0) R) 0 32 [(0, shM), (1, aI (nI i)), (2, .inr (5, 0, π i)), (3, aI (nI k))] [] := by
    intro w
    induction w with
    | zero =>
      intro k R hk hik hR
      have hk : k = a 4 - 1 := by omega
      subst hk
      refine V_run hB (rt := none) (nL := 4) (mc := 0) rfl rfl rfl obX9_removeAt_32 ?_
      dsimp only [bX9_removeAt_32, ↓wpb, ↓wp1, ↓vI, ↓vL, ↓vD, ↓ldI, ↓ldL, ↓ldD, ↓ldR, ↓k1, ↓k2, ↓kI, ↓kL, ↓kD, ↓kII, ↓kLL, ↓kDD, ↓kR, ↓kIR, ↓kLR, ↓kIIR, ↓kLIR, ↓kDIR, ↓kRIR, ↓kNN, ↓kE, ↓br, ↓bn, ↓rtI, ↓gfv, ↓zchk, lput, ldel, lbad, alA, acat, isRf, dom, dS, dJ, isO, aTy, aLen, elAV, elR, Nat.reduceBEq, Nat.reduceAdd, Bool.or, Bool.and, Nat.add_zero, Nat.zero_add]
      try simp only [Nat.reduceLT, Nat.reduceLeDiff, Nat.reduceEqDiff, true_and, and_true, and_self, Nat.zero_le, Nat.le_refl, true_or, or_true, Bool.false_eq_true, not_false_eq_true, Nat.reduceAdd, Nat.lt_add_one, Nat.zero_lt_one, nI_add, pk_mul, ixL, vpL, ne_eq, reduceIte, wI_sN, wL_sM, sN_same, sN_K, sN_2, sM_1, sM_same, sM_K, sM_s, uI_at, uN_at, enc_at, uI_enc, uI_uI, upM_s, upM_n, uI_at]
      refine ⟨fun _ => ?_, fun q => absurd (nI_le (by omega) (by omega)) q⟩
      refine V_run hB (rt := none) (nL := 4) (mc := 0) rfl rfl rfl obX9_removeAt_60 ?_
      dsimp only [bX9_removeAt_60, ↓wpb, ↓wp1, ↓vI, ↓vL, ↓vD, ↓ldI, ↓ldL, ↓ldD, ↓ldR, ↓k1, ↓k2, ↓kI, ↓kL, ↓kD, ↓kII, ↓kLL, ↓kDD, ↓kR, ↓kIR, ↓kLR, ↓kIIR, ↓kLIR, ↓kDIR, ↓kRIR, ↓kNN, ↓kE, ↓br, ↓bn, ↓rtI, ↓gfv, ↓zchk, lput, ldel, lbad, alA, acat, isRf, dom, dS, dJ, isO, aTy, aLen, elAV, elR, Nat.reduceBEq, Nat.reduceAdd, Bool.or, Bool.and, Nat.add_zero, Nat.zero_add]
      try simp only [Nat.reduceLT, Nat.reduceLeDiff, Nat.reduceEqDiff, true_and, and_true, and_self, Nat.zero_le, Nat.le_refl, true_or, or_true, Bool.false_eq_true, not_false_eq_true, Nat.reduceAdd, Nat.lt_add_one, Nat.zero_lt_one, nI_add, pk_mul, ixL, vpL, ne_eq, reduceIte, wI_sN, wL_sM, sN_same, sN_K, sN_2, sM_1, sM_same, sM_K, sM_s, uI_at, uN_at, enc_at, uI_enc, uI_uI, upM_s, upM_n, uI_at, ixm, vxm, hpi0, sN_sN]
      refine ⟨rfl, ⟨mvP π (a 4) i, ?_, ?_, ?_, ?_⟩, ?_⟩
      · refine ⟨?_, ?_, ?_⟩
        · simp only [sN_K, sN_same, ne_eq, Nat.reduceEqDiff, not_false_eq_true, uI, if_false]; rw [g2, goesA_lo (by omega) (by omega)]
        · simp only [sN_K, sN_same, ne_eq, Nat.reduceEqDiff, not_false_eq_true, uI, if_false]; rw [g3, goesA_lo (by omega) (by omega)]
        · simp only [sN_K, sN_same, ne_eq, Nat.reduceEqDiff, not_false_eq_true, uI, if_true]; rfl
      · exact hca.of (by simp only [sN_K, ne_eq, Nat.reduceEqDiff, not_false_eq_true]) (by simp only [sN_K, ne_eq, Nat.reduceEqDiff, not_false_eq_true]) (goesA_lo (by omega) (by omega)) (fun w hw => goesA_lo (by omega) (by omega))
      · exact hac.of (by simp only [sN_K, ne_eq, Nat.reduceEqDiff, not_false_eq_true]) rfl (goesA_lo (by omega) (by omega)) (goesA_lo (by omega) (by omega)) (goesA_lo (by omega) (by omega)) (goesA_lo (by omega) (by omega)) (goesA_lo (by omega) (by omega))
      · have hmv : ∀ j, j < 10 → mvP π (a 4) i j < 10 := by
          intro j hj
          unfold mvP
          split
          · exact (row _ (by omega)).2
          · split
            · exact hpi0
            · exact (row _ (by omega)).2
        refine ⟨fun j hj => ⟨hmv j hj, ?_⟩, ?_, ?_⟩
        · rw [sN_same]
          simp only [uI]
          by_cases hj1 : j = a 4 - 1
          · rw [if_pos hj1]
            unfold mvP
            rw [if_neg (by omega), if_pos (by omega)]
          · rw [if_neg hj1, hR j hj]
            unfold mvP
            by_cases h1 : i ≤ j ∧ j < a 4 - 1
            · rw [if_pos h1, if_pos (by omega)]
            · rw [if_neg h1, if_neg (by omega), if_neg (by omega)]
        · intro j k hj hk e
          unfold mvP at e
          by_cases h1 : i ≤ j ∧ j + 1 < a 4
          · rw [if_pos h1] at e
            by_cases h2 : i ≤ k ∧ k + 1 < a 4
            · rw [if_pos h2] at e
              have := hinj _ _ (by omega) (by omega) e
              omega
            · rw [if_neg h2] at e
              by_cases h3 : k + 1 = a 4
              · rw [if_pos h3] at e
                have := hinj _ _ (by omega) (by omega) e
                omega
              · rw [if_neg h3] at e
                have := hinj _ _ (by omega) (by omega) e
                omega
          · rw [if_neg h1] at e
            by_cases h4 : j + 1 = a 4
            · rw [if_pos h4] at e
              by_cases h2 : i ≤ k ∧ k + 1 < a 4
              · rw [if_pos h2] at e
                have := hinj _ _ (by omega) (by omega) e
                omega
              · rw [if_neg h2] at e
                by_cases h3 : k + 1 = a 4
                · omega
                · rw [if_neg h3] at e
                  have := hinj _ _ (by omega) (by omega) e
                  omega
            · rw [if_neg h4] at e
              by_cases h2 : i ≤ k ∧ k + 1 < a 4
              · rw [if_pos h2] at e
                have := hinj _ _ (by omega) (by omega) e
                omega
              · rw [if_neg h2] at e
                by_cases h3 : k + 1 = a 4
                · rw [if_pos h3] at e
                  have := hinj _ _ (by omega) (by omega) e
                  omega
                · rw [if_neg h3] at e
                  exact hinj _ _ hj hk e
        · intro j hj
          have hj : j < a 4 - 1 := hj
          unfold mvP
          by_cases h1 : i ≤ j
          · rw [if_pos (by omega)]
            refine (hit (j + 1) (by omega)).of ?_ ?_ (fun c hcc => ?_)
            · simp only [sN_K, ne_eq, Nat.reduceEqDiff, not_false_eq_true]
            · simp only [sN_K, ne_eq, Nat.reduceEqDiff, not_false_eq_true]
            · rw [it_goes (by omega) (by omega) hcc, if_neg (by omega), if_pos (by omega)]
          · rw [if_neg (by omega), if_neg (by omega)]
            refine (hit j (by omega)).of ?_ ?_ (fun c hcc => ?_)
            · simp only [sN_K, ne_eq, Nat.reduceEqDiff, not_false_eq_true]
            · simp only [sN_K, ne_eq, Nat.reduceEqDiff, not_false_eq_true]
            · rw [it_goes (by omega) (by omega) hcc, if_pos (by omega)]
      · repeat' first | exact Same.refl _ _ | refine Same.sN ?_ _ (Or.inl rfl) | refine Same.sN ?_ _ (Or.inr rfl)
    | succ w ih =>
      intro k R hk hik hR
      have ix : (nI k).toNatClampNeg = k := ixL (by omega)
      have vx : vp_in (nI k) 10 = True := vpL (by omega) (by omega)
      have ix1 : (nI (k + 1)).toNatClampNeg = k + 1 := ixL (by omega)
      have vx1 : vp_in (nI (k + 1)) 10 = True := vpL (by omega) (by omega)
      have r1 := hR (k + 1) (by omega)
      rw [if_neg (by omega)] at r1
      have hp1 := (row (k + 1) (by omega)).2
      have ip1 : (nI (π (k + 1))).toNatClampNeg = π (k + 1) := ixL (by omega)
      refine V_run hB (rt := none) (nL := 4) (mc := 0) rfl rfl rfl obX9_removeAt_32 ?_
      dsimp only [bX9_removeAt_32, ↓wpb, ↓wp1, ↓vI, ↓vL, ↓vD, ↓ldI, ↓ldL, ↓ldD, ↓ldR, ↓k1, ↓k2, ↓kI, ↓kL, ↓kD, ↓kII, ↓kLL, ↓kDD, ↓kR, ↓kIR, ↓kLR, ↓kIIR, ↓kLIR, ↓kDIR, ↓kRIR, ↓kNN, ↓kE, ↓br, ↓bn, ↓rtI, ↓gfv, ↓zchk, lput, ldel, lbad, alA, acat, isRf, dom, dS, dJ, isO, aTy, aLen, elAV, elR, Nat.reduceBEq, Nat.reduceAdd, Bool.or, Bool.and, Nat.add_zero, Nat.zero_add]
      try simp only [Nat.reduceLT, Nat.reduceLeDiff, Nat.reduceEqDiff, true_and, and_true, and_self, Nat.zero_le, Nat.le_refl, true_or, or_true, Bool.false_eq_true, not_false_eq_true, Nat.reduceAdd, Nat.lt_add_one, Nat.zero_lt_one, nI_add, pk_mul, ixL, vpL, ne_eq, reduceIte, wI_sN, wL_sM, sN_same, sN_K, sN_2, sM_1, sM_same, sM_K, sM_s, uI_at, uN_at, enc_at, uI_enc, uI_uI, upM_s, upM_n, uI_at, ix, vx, ix1, vx1, r1, hp1, ip1, sN_sN]
      refine ⟨fun q => absurd q (nI_ge (by omega) (by omega)), fun _ => ?_⟩
      refine ih (k + 1) _ (by omega) (by omega) (fun j hj => ?_)
      simp only [uI]
      by_cases h : j = k
      · subst h
        rw [if_pos rfl, if_pos (by omega)]
      · rw [if_neg h, hR j hj]
        by_cases h1 : i ≤ j ∧ j < k
        · rw [if_pos h1, if_pos (by omega)]
        · rw [if_neg h1, if_neg (by omega)]
  refine V_run hB (rt := none) (nL := 4) (mc := 0) rfl rfl rfl obX9_removeAt_0 ?_
  dsimp only [bX9_removeAt_0, ↓wpb, ↓wp1, ↓vI, ↓vL, ↓vD, ↓ldI, ↓ldL, ↓ldD, ↓ldR, ↓k1, ↓k2, ↓kI, ↓kL, ↓kD, ↓kII, ↓kLL, ↓kDD, ↓kR, ↓kIR, ↓kLR, ↓kIIR, ↓kLIR, ↓kDIR, ↓kRIR, ↓kNN, ↓kE, ↓br, ↓bn, ↓rtI, ↓gfv, ↓zchk, lput, ldel, lbad, alA, acat, isRf, dom, dS, dJ, isO, aTy, aLen, elAV, elR, Nat.reduceBEq, Nat.reduceAdd, Bool.or, Bool.and, Nat.add_zero, Nat.zero_add]
  try simp only [Nat.reduceLT, Nat.reduceLeDiff, Nat.reduceEqDiff, true_and, and_true, and_self, Nat.zero_le, Nat.le_refl, true_or, or_true, Bool.false_eq_true, not_false_eq_true, Nat.reduceAdd, Nat.lt_add_one, Nat.zero_lt_one, nI_add, pk_mul, ixL, vpL, ne_eq, reduceIte, wI_sN, wL_sM, sN_same, sN_K, sN_2, sM_1, sM_same, sM_K, sM_s, uI_at, uN_at, enc_at, uI_enc, uI_uI, upM_s, upM_n, g5]
  refine ⟨fun q => absurd q (nI_pos (by omega)), fun _ => ⟨fun _ => ?_, fun q => absurd (nI_lt hi (by omega)) q⟩⟩
  refine V_run hB (rt := none) (nL := 4) (mc := 0) rfl rfl rfl obX9_removeAt_13 ?_
  dsimp only [bX9_removeAt_13, ↓wpb, ↓wp1, ↓vI, ↓vL, ↓vD, ↓ldI, ↓ldL, ↓ldD, ↓ldR, ↓k1, ↓k2, ↓kI, ↓kL, ↓kD, ↓kII, ↓kLL, ↓kDD, ↓kR, ↓kIR, ↓kLR, ↓kIIR, ↓kLIR, ↓kDIR, ↓kRIR, ↓kNN, ↓kE, ↓br, ↓bn, ↓rtI, ↓gfv, ↓zchk, lput, ldel, lbad, alA, acat, isRf, dom, dS, dJ, isO, aTy, aLen, elAV, elR, Nat.reduceBEq, Nat.reduceAdd, Bool.or, Bool.and, Nat.add_zero, Nat.zero_add]
  try simp only [Nat.reduceLT, Nat.reduceLeDiff, Nat.reduceEqDiff, true_and, and_true, and_self, Nat.zero_le, Nat.le_refl, true_or, or_true, Bool.false_eq_true, not_false_eq_true, Nat.reduceAdd, Nat.lt_add_one, Nat.zero_lt_one, nI_add, pk_mul, ixL, vpL, ne_eq, reduceIte, wI_sN, wL_sM, sN_same, sN_K, sN_2, sM_1, sM_same, sM_K, sM_s, uI_at, uN_at, enc_at, uI_enc, uI_uI, upM_s, upM_n, g5, es, ixi, vxi, rpi, hpi0, ipi]
  have h := loop (a 4 - 1 - i) i (τ.1 (10, 0, 0)) (by omega) (Nat.le_refl _) (fun j hj => by rw [if_neg (by omega)]; exact (row j hj).1)
  rw [sN_id (nm := (10, 0, 0)) (sN_K (by decide))] at h
  exact h
theorem c_redeem (hc : Ctx l G) (hS : ShP τ 0 a π) (hV : IV n a) (hn : n ≤ 1000) (t : Int32) : Sat l G iX9_redeemPledge [shM, aI t] τ (OpC [NSE] (shN 0) τ (sRed a (findO a t false))) := by
  have h10 := hV.1.1
  refine Sat_of hc.1 hc.2 (by decide +kernel) (Nat.le_of_ble_eq_true rfl) (fun x hB hno => ?_)
  refine V_run hB (rt := some .int) (nL := 4) (mc := 1) rfl rfl rfl obX9_redeemPledge_0 ?_
  dsimp only [bX9_redeemPledge_0, ↓wpb, ↓wp1, ↓vI, ↓vL, ↓vD, ↓ldI, ↓ldL, ↓ldD, ↓ldR, ↓k1, ↓k2, ↓kI, ↓kL, ↓kD, ↓kII, ↓kLL, ↓kDD, ↓kR, ↓kIR, ↓kLR, ↓kIIR, ↓kLIR, ↓kDIR, ↓kRIR, ↓kNN, ↓kE, ↓br, ↓bn, ↓rtI, ↓gfv, ↓zchk, lput, ldel, lbad, alA, acat, isRf, dom, dS, dJ, isO, aTy, aLen, elAV, elR, Nat.reduceBEq, Nat.reduceAdd, Bool.or, Bool.and, Nat.add_zero, Nat.zero_add]
  try simp only [Nat.reduceLT, Nat.reduceLeDiff, Nat.reduceEqDiff, true_and, and_true, and_self, Nat.zero_le, Nat.le_refl, true_or, or_true, Bool.false_eq_true, not_false_eq_true, Nat.reduceAdd, Nat.lt_add_one, Nat.zero_lt_one, nI_add, pk_mul, ixL, vpL, ne_eq, reduceIte, wI_sN, wL_sM, sN_same, sN_K, sN_2, sM_1, sM_same, sM_K, sM_s, uI_at, uN_at, enc_at, uI_enc, uI_uI, upM_s, upM_n]
  refine V_callV hB hno (c_requirePledge hc hS hV t) rfl (by decide +kernel) cvX9_117 (dom1 rfl) npX9_requirePledge ⟨by decide, by decide⟩ (Nat.le_of_ble_eq_true rfl) (by decide) ?_ ?_
  rotate_left
  · intro E τ' hq
    cases ho : findO a t false with
    | none =>
      rw [ho] at hq
      obtain ⟨e1, rfl⟩ := hq
      cases e1
      exact ⟨rfl, ⟨π, hS⟩, Same.refl _ _⟩
    | some i => rw [ho] at hq; cases hq.1
  intro v τ' hq
  cases ho : findO a t false with
  | none => rw [ho] at hq; cases hq.1
  | some i =>
    obtain ⟨hi, hl⟩ := findO_lt ho
    rw [ho] at hq hB
    obtain ⟨e1, rfl⟩ := hq
    cases e1
    show V x τ' 1 5 _ [.inr (5, 0, π i)]
    have hok := hV.okD (e := 0) hi hl (by omega)
    have hd := hV.dbt hi hl
    have ix : (nI i).toNatClampNeg = i := ixL (by omega)
    have vx : vp_in (nI i) 10 = True := vpL (by omega) (by omega)
    obtain ⟨hp, rp⟩ := hS.2.2.2.1 i (by omega)
    have ip : (nI (π i)).toNatClampNeg = π i := ixL (by omega)
    obtain ⟨⟨f0, f1, f2, f3, f4, f5, f6⟩, fb⟩ := hS.2.2.2.2.2 i (by omega)
    refine V_run hB (rt := some .int) (nL := 4) (mc := 1) rfl rfl rfl obX9_redeemPledge_5 ?_
    dsimp only [bX9_redeemPledge_5, ↓wpb, ↓wp1, ↓vI, ↓vL, ↓vD, ↓ldI, ↓ldL, ↓ldD, ↓ldR, ↓k1, ↓k2, ↓kI, ↓kL, ↓kD, ↓kII, ↓kLL, ↓kDD, ↓kR, ↓kIR, ↓kLR, ↓kIIR, ↓kLIR, ↓kDIR, ↓kRIR, ↓kNN, ↓kE, ↓br, ↓bn, ↓rtI, ↓gfv, ↓zchk, lput, ldel, lbad, alA, acat, isRf, dom, dS, dJ, isO, aTy, aLen, elAV, elR, Nat.reduceBEq, Nat.reduceAdd, Bool.or, Bool.and, Nat.add_zero, Nat.zero_add]
    try simp only [Nat.reduceLT, Nat.reduceLeDiff, Nat.reduceEqDiff, true_and, and_true, and_self, Nat.zero_le, Nat.le_refl, true_or, or_true, Bool.false_eq_true, not_false_eq_true, Nat.reduceAdd, Nat.lt_add_one, Nat.zero_lt_one, nI_add, pk_mul, ixL, vpL, ne_eq, reduceIte, wI_sN, wL_sM, sN_same, sN_K, sN_2, sM_1, sM_same, sM_K, sM_s, uI_at, uN_at, enc_at, uI_enc, uI_uI, upM_s, upM_n, ix, vx, hp, rp, ip, f0, f1, f2, f3, f4, f5, f6]
    refine V_cV hB hno (c_interest hc hS hV hn (i := i) (d := 0) hi (by omega) hok) rfl (by decide +kernel) cvX9_121 (dom1 rfl) npX9_interestByDays ⟨by decide, by decide⟩ (Nat.le_of_ble_eq_true rfl) (n' := 1) (by decide) rfl ?_
    refine V_run hB (rt := some .int) (nL := 4) (mc := 1) rfl rfl rfl obX9_redeemPledge_16 ?_
    dsimp only [bX9_redeemPledge_16, ↓wpb, ↓wp1, ↓vI, ↓vL, ↓vD, ↓ldI, ↓ldL, ↓ldD, ↓ldR, ↓k1, ↓k2, ↓kI, ↓kL, ↓kD, ↓kII, ↓kLL, ↓kDD, ↓kR, ↓kIR, ↓kLR, ↓kIIR, ↓kLIR, ↓kDIR, ↓kRIR, ↓kNN, ↓kE, ↓br, ↓bn, ↓rtI, ↓gfv, ↓zchk, lput, ldel, lbad, alA, acat, isRf, dom, dS, dJ, isO, aTy, aLen, elAV, elR, Nat.reduceBEq, Nat.reduceAdd, Bool.or, Bool.and, Nat.add_zero, Nat.zero_add]
    try simp only [Nat.reduceLT, Nat.reduceLeDiff, Nat.reduceEqDiff, true_and, and_true, and_self, Nat.zero_le, Nat.le_refl, true_or, or_true, Bool.false_eq_true, not_false_eq_true, Nat.reduceAdd, Nat.lt_add_one, Nat.zero_lt_one, nI_add, pk_mul, ixL, vpL, ne_eq, reduceIte, wI_sN, wL_sM, sN_same, sN_K, sN_2, sM_1, sM_same, sM_K, sM_s, uI_at, uN_at, enc_at, uI_enc, uI_uI, upM_s, upM_n, ix, vx, hp, rp, ip, f0, f1, f2, f3, f4, f5, f6]
    refine V_callV hB hno (c_enterRedemption hc hS.2.2.1 (a' := uN (uN a 2 (a 2 + debt a i)) 5 (a 5 + it a i 3)) (d := debt a i) (m := it a i 3) rfl rfl rfl rfl rfl) rfl (by decide +kernel) cvX9_125 (dom1 rfl) npX1_enterRedemption ⟨by decide, by decide⟩ (Nat.le_of_ble_eq_true rfl) (by decide) ?_ ?_
    rotate_left
    · intro E τ' hq; cases hq.1
    intro v1 t1 hq
    obtain ⟨e1, hm1, hA1⟩ := hq
    cases e1
    show V x t1 1 30 _ _
    have hS1 := hS.ac hA1 hm1 (fun k k2 k5 k6 k7 k8 => by simp only [uN]; rw [if_neg k5, if_neg k2])
    have hf : find (uN (uN a 2 (a 2 + debt a i)) 5 (a 5 + it a i 3)) t = some i := by
      refine Eq.trans (find_congr (a := a) (a' := uN (uN a 2 (a 2 + debt a i)) 5 (a 5 + it a i 3)) rfl (fun j => ?_) t) (findO_find ho)
      rw [it_lo (by omega), it_lo (by omega)]
    refine V_run hB (rt := some .int) (nL := 4) (mc := 1) rfl rfl rfl obX9_redeemPledge_30 ?_
    dsimp only [bX9_redeemPledge_30, ↓wpb, ↓wp1, ↓vI, ↓vL, ↓vD, ↓ldI, ↓ldL, ↓ldD, ↓ldR, ↓k1, ↓k2, ↓kI, ↓kL, ↓kD, ↓kII, ↓kLL, ↓kDD, ↓kR, ↓kIR, ↓kLR, ↓kIIR, ↓kLIR, ↓kDIR, ↓kRIR, ↓kNN, ↓kE, ↓br, ↓bn, ↓rtI, ↓gfv, ↓zchk, lput, ldel, lbad, alA, acat, isRf, dom, dS, dJ, isO, aTy, aLen, elAV, elR, Nat.reduceBEq, Nat.reduceAdd, Bool.or, Bool.and, Nat.add_zero, Nat.zero_add]
    try simp only [Nat.reduceLT, Nat.reduceLeDiff, Nat.reduceEqDiff, true_and, and_true, and_self, Nat.zero_le, Nat.le_refl, true_or, or_true, Bool.false_eq_true, not_false_eq_true, Nat.reduceAdd, Nat.lt_add_one, Nat.zero_lt_one, nI_add, pk_mul, ixL, vpL, ne_eq, reduceIte, wI_sN, wL_sM, sN_same, sN_K, sN_2, sM_1, sM_same, sM_K, sM_s, uI_at, uN_at, enc_at, uI_enc, uI_uI, upM_s, upM_n]
    refine V_cV hB hno (c_indexOf hc hS1 h10 t) rfl (by decide +kernel) cvX9_55 (dom1 rfl) npX9_indexOf ⟨by decide, by decide⟩ (Nat.le_of_ble_eq_true rfl) (n' := 1) (by decide) rfl ?_
    rw [hf, oI_some]
    refine V_callV hB hno (c_removeAt hc hS1 h10 (i := i) hi) rfl (by decide +kernel) cvX9_128 (dom1 rfl) npX9_removeAt ⟨by decide, by decide⟩ (Nat.le_of_ble_eq_true rfl) (by decide) ?_ ?_
    rotate_left
    · intro E τ' hq; cases hq.1
    intro v2 t2 hq
    obtain ⟨e2, hR2, hm2⟩ := hq
    cases e2
    show V x t2 1 39 _ _
    refine V_run hB (rt := some .int) (nL := 4) (mc := 1) rfl rfl rfl obX9_redeemPledge_39 ?_
    dsimp only [bX9_redeemPledge_39, ↓wpb, ↓wp1, ↓vI, ↓vL, ↓vD, ↓ldI, ↓ldL, ↓ldD, ↓ldR, ↓k1, ↓k2, ↓kI, ↓kL, ↓kD, ↓kII, ↓kLL, ↓kDD, ↓kR, ↓kIR, ↓kLR, ↓kIIR, ↓kLIR, ↓kDIR, ↓kRIR, ↓kNN, ↓kE, ↓br, ↓bn, ↓rtI, ↓gfv, ↓zchk, lput, ldel, lbad, alA, acat, isRf, dom, dS, dJ, isO, aTy, aLen, elAV, elR, Nat.reduceBEq, Nat.reduceAdd, Bool.or, Bool.and, Nat.add_zero, Nat.zero_add]
    try simp only [Nat.reduceLT, Nat.reduceLeDiff, Nat.reduceEqDiff, true_and, and_true, and_self, Nat.zero_le, Nat.le_refl, true_or, or_true, Bool.false_eq_true, not_false_eq_true, Nat.reduceAdd, Nat.lt_add_one, Nat.zero_lt_one, nI_add, pk_mul, ixL, vpL, ne_eq, reduceIte, wI_sN, wL_sM, sN_same, sN_K, sN_2, sM_1, sM_same, sM_K, sM_s, uI_at, uN_at, enc_at, uI_enc, uI_uI, upM_s, upM_n]
    exact ⟨rfl, hR2, hm1.sh4.trans (hm2.mono (fun nm q => by rcases q with rfl | rfl <;> exact ⟨by decide, rfl⟩))⟩
theorem c_extend (hc : Ctx l G) (hS : ShP τ 0 a π) (hV : IV n a) (hn : n ≤ 1000) (t d : Int32) : Sat l G iX9_extendPledge [shM, aI t, aI d] τ (OpC [NSE, IAE] (shN 0) τ (sExt a (findO a t false) d)) := by
  have h10 := hV.1.1
  have hz := inR_1 (p := d) (lo := 1) (h := 60)
  refine Sat_of hc.1 hc.2 (by decide +kernel) (Nat.le_of_ble_eq_true rfl) (fun x hB hno => ?_)
  refine V_run hB (rt := some .int) (nL := 5) (mc := 2) rfl rfl rfl obX9_extendPledge_0 ?_
  dsimp only [bX9_extendPledge_0, ↓wpb, ↓wp1, ↓vI, ↓vL, ↓vD, ↓ldI, ↓ldL, ↓ldD, ↓ldR, ↓k1, ↓k2, ↓kI, ↓kL, ↓kD, ↓kII, ↓kLL, ↓kDD, ↓kR, ↓kIR, ↓kLR, ↓kIIR, ↓kLIR, ↓kDIR, ↓kRIR, ↓kNN, ↓kE, ↓br, ↓bn, ↓rtI, ↓gfv, ↓zchk, lput, ldel, lbad, alA, acat, isRf, dom, dS, dJ, isO, aTy, aLen, elAV, elR, Nat.reduceBEq, Nat.reduceAdd, Bool.or, Bool.and, Nat.add_zero, Nat.zero_add]
  try simp only [Nat.reduceLT, Nat.reduceLeDiff, Nat.reduceEqDiff, true_and, and_true, and_self, Nat.zero_le, Nat.le_refl, true_or, or_true, Bool.false_eq_true, not_false_eq_true, Nat.reduceAdd, Nat.lt_add_one, Nat.zero_lt_one, nI_add, pk_mul, ixL, vpL, ne_eq, reduceIte, wI_sN, wL_sM, sN_same, sN_K, sN_2, sM_1, sM_same, sM_K, sM_s, uI_at, uN_at, enc_at, uI_enc, uI_uI, upM_s, upM_n]
  refine V_callV hB hno (c_requirePledge hc hS hV t) rfl (by decide +kernel) cvX9_117 (dom1 rfl) npX9_requirePledge ⟨by decide, by decide⟩ (Nat.le_of_ble_eq_true rfl) (by decide) ?_ ?_
  rotate_left
  · intro E τ' hq
    cases ho : findO a t false with
    | none =>
      rw [ho] at hq
      obtain ⟨e1, rfl⟩ := hq
      cases e1
      exact ⟨rfl, ⟨π, hS⟩, Same.refl _ _⟩
    | some i => rw [ho] at hq; cases hq.1
  intro v τ' hq
  cases ho : findO a t false with
  | none => rw [ho] at hq; cases hq.1
  | some i =>
    obtain ⟨hi, hl⟩ := findO_lt ho
    rw [ho] at hq hB
    obtain ⟨e1, rfl⟩ := hq
    cases e1
    show V x τ' 1 5 _ [.inr (5, 0, π i)]
    have hok := hV.okD (e := 0) hi hl (by omega)
    have e17 : ¬ inR d 1 60 = true → V x τ' 1 17 [(0, shM), (1, aI t), (2, aI d), (3, .inr (5, 0, π i))] [] := by
      intro hq
      have e : sExt a (some i) d = (2, 0, a) := by unfold sExt; simp only; rw [if_neg hq]
      rw [e] at hB
      refine V_throw hB hno thX9_132_84 ⟨by decide +kernel, by decide +kernel, by decide +kernel, by decide +kernel, by decide +kernel⟩ (by decide) (Nat.le_of_ble_eq_true rfl) ?_
      exact ⟨rfl, ⟨π, hS⟩, Same.refl _ _⟩
    refine V_run hB (rt := some .int) (nL := 5) (mc := 2) rfl rfl rfl obX9_extendPledge_5 ?_
    dsimp only [bX9_extendPledge_5, ↓wpb, ↓wp1, ↓vI, ↓vL, ↓vD, ↓ldI, ↓ldL, ↓ldD, ↓ldR, ↓k1, ↓k2, ↓kI, ↓kL, ↓kD, ↓kII, ↓kLL, ↓kDD, ↓kR, ↓kIR, ↓kLR, ↓kIIR, ↓kLIR, ↓kDIR, ↓kRIR, ↓kNN, ↓kE, ↓br, ↓bn, ↓rtI, ↓gfv, ↓zchk, lput, ldel, lbad, alA, acat, isRf, dom, dS, dJ, isO, aTy, aLen, elAV, elR, Nat.reduceBEq, Nat.reduceAdd, Bool.or, Bool.and, Nat.add_zero, Nat.zero_add]
    try simp only [Nat.reduceLT, Nat.reduceLeDiff, Nat.reduceEqDiff, true_and, and_true, and_self, Nat.zero_le, Nat.le_refl, true_or, or_true, Bool.false_eq_true, not_false_eq_true, Nat.reduceAdd, Nat.lt_add_one, Nat.zero_lt_one, nI_add, pk_mul, ixL, vpL, ne_eq, reduceIte, wI_sN, wL_sM, sN_same, sN_K, sN_2, sM_1, sM_same, sM_K, sM_s, uI_at, uN_at, enc_at, uI_enc, uI_uI, upM_s, upM_n]
    refine ⟨fun q => e17 (fun z => (hz.mp z).1 q), fun q1 => ⟨fun q2 => ?_, fun q2 => e17 (fun z => q2 (hz.mp z).2)⟩⟩
    have hr := hz.mpr ⟨q1, q2⟩
    have e : sExt a (some i) d = (0, intr a i (a 0), uN (uN (uN a 2 (a 2 + intr a i (a 0))) (16 + 12 * i + 5) (a 0)) (16 + 12 * i + 6) (a 0 + d.toNatClampNeg)) := by unfold sExt; simp only; rw [if_pos hr]
    rw [e] at hB
    obtain ⟨D, rfl, D1, D2⟩ := inR_N hr (by omega) (by omega)
    rw [ixL (show D < 2147483648 by omega)] at hB
    have gd := hS.2.1.1
    have ix : (nI i).toNatClampNeg = i := ixL (by omega)
    have vx : vp_in (nI i) 10 = True := vpL (by omega) (by omega)
    obtain ⟨hp, rp⟩ := hS.2.2.2.1 i (by omega)
    have ip : (nI (π i)).toNatClampNeg = π i := ixL (by omega)
    obtain ⟨⟨f0, f1, f2, f3, f4, f5, f6⟩, fb⟩ := hS.2.2.2.2.2 i (by omega)
    refine V_run hB (rt := some .int) (nL := 5) (mc := 2) rfl rfl rfl obX9_extendPledge_27 ?_
    dsimp only [bX9_extendPledge_27, ↓wpb, ↓wp1, ↓vI, ↓vL, ↓vD, ↓ldI, ↓ldL, ↓ldD, ↓ldR, ↓k1, ↓k2, ↓kI, ↓kL, ↓kD, ↓kII, ↓kLL, ↓kDD, ↓kR, ↓kIR, ↓kLR, ↓kIIR, ↓kLIR, ↓kDIR, ↓kRIR, ↓kNN, ↓kE, ↓br, ↓bn, ↓rtI, ↓gfv, ↓zchk, lput, ldel, lbad, alA, acat, isRf, dom, dS, dJ, isO, aTy, aLen, elAV, elR, Nat.reduceBEq, Nat.reduceAdd, Bool.or, Bool.and, Nat.add_zero, Nat.zero_add]
    try simp only [Nat.reduceLT, Nat.reduceLeDiff, Nat.reduceEqDiff, true_and, and_true, and_self, Nat.zero_le, Nat.le_refl, true_or, or_true, Bool.false_eq_true, not_false_eq_true, Nat.reduceAdd, Nat.lt_add_one, Nat.zero_lt_one, nI_add, pk_mul, ixL, vpL, ne_eq, reduceIte, wI_sN, wL_sM, sN_same, sN_K, sN_2, sM_1, sM_same, sM_K, sM_s, uI_at, uN_at, enc_at, uI_enc, uI_uI, upM_s, upM_n]
    refine V_cV hB hno (c_interest hc hS hV hn (i := i) (d := 0) hi (by omega) hok) rfl (by decide +kernel) cvX9_121 (dom1 rfl) npX9_interestByDays ⟨by decide, by decide⟩ (Nat.le_of_ble_eq_true rfl) (n' := 1) (by decide) rfl ?_
    refine V_run hB (rt := some .int) (nL := 5) (mc := 2) rfl rfl rfl obX9_extendPledge_33 ?_
    dsimp only [bX9_extendPledge_33, ↓wpb, ↓wp1, ↓vI, ↓vL, ↓vD, ↓ldI, ↓ldL, ↓ldD, ↓ldR, ↓k1, ↓k2, ↓kI, ↓kL, ↓kD, ↓kII, ↓kLL, ↓kDD, ↓kR, ↓kIR, ↓kLR, ↓kIIR, ↓kLIR, ↓kDIR, ↓kRIR, ↓kNN, ↓kE, ↓br, ↓bn, ↓rtI, ↓gfv, ↓zchk, lput, ldel, lbad, alA, acat, isRf, dom, dS, dJ, isO, aTy, aLen, elAV, elR, Nat.reduceBEq, Nat.reduceAdd, Bool.or, Bool.and, Nat.add_zero, Nat.zero_add]
    try simp only [Nat.reduceLT, Nat.reduceLeDiff, Nat.reduceEqDiff, true_and, and_true, and_self, Nat.zero_le, Nat.le_refl, true_or, or_true, Bool.false_eq_true, not_false_eq_true, Nat.reduceAdd, Nat.lt_add_one, Nat.zero_lt_one, nI_add, pk_mul, ixL, vpL, ne_eq, reduceIte, wI_sN, wL_sM, sN_same, sN_K, sN_2, sM_1, sM_same, sM_K, sM_s, uI_at, uN_at, enc_at, uI_enc, uI_uI, upM_s, upM_n]
    refine V_callV hB hno (c_enterExtension hc hS.2.2.1 (a' := uN a 2 (a 2 + intr a i (a 0))) (d := intr a i (a 0)) rfl rfl rfl rfl rfl) rfl (by decide +kernel) cvX9_134 (dom1 rfl) npX1_enterExtension ⟨by decide, by decide⟩ (Nat.le_of_ble_eq_true rfl) (by decide) ?_ ?_
    rotate_left
    · intro E τ' hq; cases hq.1
    intro v1 t1 hq
    obtain ⟨e1, hm1, hA1⟩ := hq
    cases e1
    show V x t1 1 44 _ _
    have hS1 := hS.ac hA1 hm1 (fun k k2 k5 k6 k7 k8 => by simp only [uN]; rw [if_neg k2])
    have gd1 : t1.1 (3, 0, 0) 0 = nI (a 0) := hS1.2.1.1
    refine V_run hB (rt := some .int) (nL := 5) (mc := 2) rfl rfl rfl obX9_extendPledge_44 ?_
    dsimp only [bX9_extendPledge_44, ↓wpb, ↓wp1, ↓vI, ↓vL, ↓vD, ↓ldI, ↓ldL, ↓ldD, ↓ldR, ↓k1, ↓k2, ↓kI, ↓kL, ↓kD, ↓kII, ↓kLL, ↓kDD, ↓kR, ↓kIR, ↓kLR, ↓kIIR, ↓kLIR, ↓kDIR, ↓kRIR, ↓kNN, ↓kE, ↓br, ↓bn, ↓rtI, ↓gfv, ↓zchk, lput, ldel, lbad, alA, acat, isRf, dom, dS, dJ, isO, aTy, aLen, elAV, elR, Nat.reduceBEq, Nat.reduceAdd, Bool.or, Bool.and, Nat.add_zero, Nat.zero_add]
    try simp only [Nat.reduceLT, Nat.reduceLeDiff, Nat.reduceEqDiff, true_and, and_true, and_self, Nat.zero_le, Nat.le_refl, true_or, or_true, Bool.false_eq_true, not_false_eq_true, Nat.reduceAdd, Nat.lt_add_one, Nat.zero_lt_one, nI_add, pk_mul, ixL, vpL, ne_eq, reduceIte, wI_sN, wL_sM, sN_same, sN_K, sN_2, sM_1, sM_same, sM_K, sM_s, uI_at, uN_at, enc_at, uI_enc, uI_uI, upM_s, upM_n, hp, gd1, sN_sN]
    obtain ⟨⟨x2, x3, x5⟩, xca, xac, xit⟩ := hS1
    have hne : ∀ j, j < a 4 → j ≠ i → π j ≠ π i := fun j hj hji e => hji (hS.2.2.2.2.1 j i (by omega) (by omega) e)
    refine ⟨rfl, ⟨π, ⟨?_, ?_, ?_⟩, ?_, ?_, ?_⟩, ?_⟩
    · rw [sN_K (by decide)]; exact x2
    · rw [sN_K (by decide)]; exact x3
    · rw [sN_K (by decide)]; exact x5
    · refine xca.of (sN_K (by decide)) (sN_K (by decide)) ?_ (fun w hw => ?_)
      · simp only [uN]; rw [if_neg (by omega), if_neg (by omega)]
      · simp only [uN]; rw [if_neg (by omega), if_neg (by omega)]
    · refine xac.of (sN_K (by decide)) rfl ?_ ?_ ?_ ?_ ?_ <;> (simp only [uN]; rw [if_neg (by omega), if_neg (by omega)])
    · obtain ⟨y1, y2, y3⟩ := xit
      refine ⟨fun j hj => by rw [sN_K (by decide)]; exact y1 j hj, y2, fun j hj => ?_⟩
      have hj4 : j < a 4 := by
        have e4 : (uN (uN (uN a 2 (a 2 + intr a i (a 0))) (16 + 12 * i + 5) (a 0)) (16 + 12 * i + 6) (a 0 + D)) 4 = a 4 := by simp only [uN]; rw [if_neg (by omega), if_neg (by omega), if_neg (by omega)]
        exact Nat.lt_of_lt_of_eq hj e4
      by_cases hji : j = i
      · subst hji
        obtain ⟨⟨z0, z1, z2, z3, z4, z5, z6⟩, zb⟩ := y3 j hj4
        rw [sN_same, sN_K (by decide)]
        have E : ∀ c, c < 12 → it (uN (uN (uN a 2 (a 2 + intr a j (a 0))) (16 + 12 * j + 5) (a 0)) (16 + 12 * j + 6) (a 0 + D)) j c = if c = 6 then a 0 + D else if c = 5 then a 0 else it a j c := by
          intro c hcc
          rw [it_hi (by omega) hcc, it_hi (by omega) hcc, it_lo (by omega)]
          simp only [true_and]
        have F : ∀ c, c < 12 → it (uN a 2 (a 2 + intr a j (a 0))) j c = it a j c := fun c _ => it_lo (by omega)
        refine ⟨⟨?_, ?_, ?_, ?_, ?_, ?_, ?_⟩, fun q c hcc => ?_⟩
        · simp only [uI, Nat.reduceEqDiff, if_false]; rw [z0, E _ (by omega), F _ (by omega)]; rfl
        · simp only [uI, Nat.reduceEqDiff, if_false]; rw [z1, E _ (by omega), F _ (by omega)]; rfl
        · simp only [uI, Nat.reduceEqDiff, if_false]; rw [z2, E _ (by omega), F _ (by omega)]; rfl
        · simp only [uI, Nat.reduceEqDiff, if_false]; rw [z3, E _ (by omega), F _ (by omega)]; rfl
        · simp only [uI, Nat.reduceEqDiff, if_false, if_true]; rw [E _ (by omega)]; rfl
        · simp only [uI, Nat.reduceEqDiff, if_false, if_true]; rw [E _ (by omega)]; rfl
        · simp only [uI, Nat.reduceEqDiff, if_false]; rw [z6, E _ (by omega), F _ (by omega)]; rfl
        · rw [E _ (by omega), if_neg (by omega), if_neg (by omega)] at q
          rw [E _ (by omega), if_neg (by omega), if_neg (by omega), ← F _ (by omega)]
          exact zb ((F 1 (by omega)).trans q) c hcc
      · refine (y3 j hj4).of (sN_ne (fun z => ?_)) (sN_K (by decide)) (fun c hcc => ?_)
        · injection z with z1 z2; injection z2 with z3 z4; exact hne j hj4 hji z4
        · rw [it_hi (by omega) hcc, it_hi (by omega) hcc, if_neg (fun z => hji z.1), if_neg (fun z => hji z.1)]
    · exact hm1.sh4.sN _ (shN5 0 _)
theorem c_price1 (hc : Ctx l G) (hS : ShP τ 0 a π) (p : Int32) : Sat l G iX9_changePrice [shM, aI p] τ (OpC [IAE] (shN 0) τ (sPri a p)) := by
  have hz := inR_1 (p := p) (lo := 1) (h := 9)
  obtain ⟨⟨g2, g3, g5⟩, hca, hac, hit⟩ := hS
  refine Sat_of hc.1 hc.2 (by decide +kernel) (Nat.le_of_ble_eq_true rfl) (fun x hB hno => ?_)
  have e11 : ¬ inR p 1 9 = true → V x τ 0 11 [(0, shM), (1, aI p)] [] := by
    intro hq
    have e : sPri a p = (1, 0, a) := if_neg hq
    rw [e] at hB
    refine V_throw hB hno thX9_154_84 ⟨by decide +kernel, by decide +kernel, by decide +kernel, by decide +kernel, by decide +kernel⟩ (by decide) (Nat.le_of_ble_eq_true rfl) ?_
    exact ⟨rfl, ⟨π, ⟨g2, g3, g5⟩, hca, hac, hit⟩, Same.refl _ _⟩
  refine V_run hB (rt := some .int) (nL := 3) (mc := 1) rfl rfl rfl obX9_changePrice_0 ?_
  dsimp only [bX9_changePrice_0, ↓wpb, ↓wp1, ↓vI, ↓vL, ↓vD, ↓ldI, ↓ldL, ↓ldD, ↓ldR, ↓k1, ↓k2, ↓kI, ↓kL, ↓kD, ↓kII, ↓kLL, ↓kDD, ↓kR, ↓kIR, ↓kLR, ↓kIIR, ↓kLIR, ↓kDIR, ↓kRIR, ↓kNN, ↓kE, ↓br, ↓bn, ↓rtI, ↓gfv, ↓zchk, lput, ldel, lbad, alA, acat, isRf, dom, dS, dJ, isO, aTy, aLen, elAV, elR, Nat.reduceBEq, Nat.reduceAdd, Bool.or, Bool.and, Nat.add_zero, Nat.zero_add]
  try simp only [Nat.reduceLT, Nat.reduceLeDiff, Nat.reduceEqDiff, true_and, and_true, and_self, Nat.zero_le, Nat.le_refl, true_or, or_true, Bool.false_eq_true, not_false_eq_true, Nat.reduceAdd, Nat.lt_add_one, Nat.zero_lt_one, nI_add, pk_mul, ixL, vpL, ne_eq, reduceIte, wI_sN, wL_sM, sN_same, sN_K, sN_2, sM_1, sM_same, sM_K, sM_s, uI_at, uN_at, enc_at, uI_enc, uI_uI, upM_s, upM_n]
  refine ⟨fun q => e11 (fun z => (hz.mp z).1 q), fun q1 => ⟨fun q2 => ?_, fun q2 => e11 (fun z => q2 (hz.mp z).2)⟩⟩
  have hr := hz.mpr ⟨q1, q2⟩
  have e : sPri a p = (0, a 1, uN a 1 p.toNatClampNeg) := if_pos hr
  rw [e] at hB
  obtain ⟨D, rfl, D1, D2⟩ := inR_N hr (by omega) (by omega)
  rw [ixL (show D < 2147483648 by omega)] at hB
  refine V_run hB (rt := some .int) (nL := 3) (mc := 1) rfl rfl rfl obX9_changePrice_21 ?_
  dsimp only [bX9_changePrice_21, ↓wpb, ↓wp1, ↓vI, ↓vL, ↓vD, ↓ldI, ↓ldL, ↓ldD, ↓ldR, ↓k1, ↓k2, ↓kI, ↓kL, ↓kD, ↓kII, ↓kLL, ↓kDD, ↓kR, ↓kIR, ↓kLR, ↓kIIR, ↓kLIR, ↓kDIR, ↓kRIR, ↓kNN, ↓kE, ↓br, ↓bn, ↓rtI, ↓gfv, ↓zchk, lput, ldel, lbad, alA, acat, isRf, dom, dS, dJ, isO, aTy, aLen, elAV, elR, Nat.reduceBEq, Nat.reduceAdd, Bool.or, Bool.and, Nat.add_zero, Nat.zero_add]
  try simp only [Nat.reduceLT, Nat.reduceLeDiff, Nat.reduceEqDiff, true_and, and_true, and_self, Nat.zero_le, Nat.le_refl, true_or, or_true, Bool.false_eq_true, not_false_eq_true, Nat.reduceAdd, Nat.lt_add_one, Nat.zero_lt_one, nI_add, pk_mul, ixL, vpL, ne_eq, reduceIte, wI_sN, wL_sM, sN_same, sN_K, sN_2, sM_1, sM_same, sM_K, sM_s, uI_at, uN_at, enc_at, uI_enc, uI_uI, upM_s, upM_n, g2]
  refine ⟨rfl, ⟨π, ⟨?_, ?_, ?_⟩, ?_, ?_, ?_⟩, (Same.refl _ _).sN _ ⟨by decide, rfl⟩⟩
  · rw [sN_same]; rfl
  · rw [sN_same]; exact g3
  · rw [sN_same]; exact g5
  · exact hca.of (sN_K (by decide)) (sN_K (by decide)) rfl (fun w hw => by simp only [uN]; rw [if_neg (by omega)])
  · exact hac.of (sN_K (by decide)) rfl rfl rfl rfl rfl rfl
  · exact hit.of (sN_K (by decide)) (Nat.le_refl _) (fun i _ => sN_K (by decide)) (fun i _ => sN_K (by decide)) (fun i _ c _ => it_lo (by omega))
theorem c_bid (hc : Ctx l G) (hS : ShP τ 0 a π) (hV : IV n a) (t y p : Int32) : Sat l G iX9_placeBid [shM, aI t, aI y, aI p] τ (OpC [NSE, IAE] (shN 0) τ (sBid a (findO a t true) y p)) := by
  have h10 := hV.1.1
  have hz0 := inR_0 (p := y) (h := 4) (by omega)
  have hz1 := inR_1 (p := p) (lo := 1) (h := 999)
  refine Sat_of hc.1 hc.2 (by decide +kernel) (Nat.le_of_ble_eq_true rfl) (fun x hB hno => ?_)
  refine V_run hB (rt := some .int) (nL := 6) (mc := 2) rfl rfl rfl obX9_placeBid_0 ?_
  dsimp only [bX9_placeBid_0, ↓wpb, ↓wp1, ↓vI, ↓vL, ↓vD, ↓ldI, ↓ldL, ↓ldD, ↓ldR, ↓k1, ↓k2, ↓kI, ↓kL, ↓kD, ↓kII, ↓kLL, ↓kDD, ↓kR, ↓kIR, ↓kLR, ↓kIIR, ↓kLIR, ↓kDIR, ↓kRIR, ↓kNN, ↓kE, ↓br, ↓bn, ↓rtI, ↓gfv, ↓zchk, lput, ldel, lbad, alA, acat, isRf, dom, dS, dJ, isO, aTy, aLen, elAV, elR, Nat.reduceBEq, Nat.reduceAdd, Bool.or, Bool.and, Nat.add_zero, Nat.zero_add]
  try simp only [Nat.reduceLT, Nat.reduceLeDiff, Nat.reduceEqDiff, true_and, and_true, and_self, Nat.zero_le, Nat.le_refl, true_or, or_true, Bool.false_eq_true, not_false_eq_true, Nat.reduceAdd, Nat.lt_add_one, Nat.zero_lt_one, nI_add, pk_mul, ixL, vpL, ne_eq, reduceIte, wI_sN, wL_sM, sN_same, sN_K, sN_2, sM_1, sM_same, sM_K, sM_s, uI_at, uN_at, enc_at, uI_enc, uI_uI, upM_s, upM_n]
  refine V_callV hB hno (c_requireLot hc hS hV t) rfl (by decide +kernel) cvX9_163 (dom1 rfl) npX9_requireLot ⟨by decide, by decide⟩ (Nat.le_of_ble_eq_true rfl) (by decide) ?_ ?_
  rotate_left
  · intro E τ' hq
    cases ho : findO a t true with
    | none =>
      rw [ho] at hq
      obtain ⟨e1, rfl⟩ := hq
      cases e1
      exact ⟨rfl, ⟨π, hS⟩, Same.refl _ _⟩
    | some i => rw [ho] at hq; cases hq.1
  intro v τ' hq
  cases ho : findO a t true with
  | none => rw [ho] at hq; cases hq.1
  | some i =>
    obtain ⟨hi, hl⟩ := findO_lt ho
    rw [ho] at hq hB
    obtain ⟨e1, rfl⟩ := hq
    cases e1
    show V x τ' 1 5 _ [.inr (5, 0, π i)]
    have e28 : ¬ (inR y 0 4 = true ∧ inR p 1 999 = true) → V x τ' 1 28 [(0, shM), (1, aI t), (2, aI y), (3, aI p), (4, .inr (5, 0, π i))] [] := by
      intro hq
      have e : sBid a (some i) y p = (2, 0, a) := by unfold sBid; simp only; rw [if_neg hq]
      rw [e] at hB
      refine V_throw hB hno thX9_166_84 ⟨by decide +kernel, by decide +kernel, by decide +kernel, by decide +kernel, by decide +kernel⟩ (by decide) (Nat.le_of_ble_eq_true rfl) ?_
      exact ⟨rfl, ⟨π, hS⟩, Same.refl _ _⟩
    refine V_run hB (rt := some .int) (nL := 6) (mc := 2) rfl rfl rfl obX9_placeBid_5 ?_
    dsimp only [bX9_placeBid_5, ↓wpb, ↓wp1, ↓vI, ↓vL, ↓vD, ↓ldI, ↓ldL, ↓ldD, ↓ldR, ↓k1, ↓k2, ↓kI, ↓kL, ↓kD, ↓kII, ↓kLL, ↓kDD, ↓kR, ↓kIR, ↓kLR, ↓kIIR, ↓kLIR, ↓kDIR, ↓kRIR, ↓kNN, ↓kE, ↓br, ↓bn, ↓rtI, ↓gfv, ↓zchk, lput, ldel, lbad, alA, acat, isRf, dom, dS, dJ, isO, aTy, aLen, elAV, elR, Nat.reduceBEq, Nat.reduceAdd, Bool.or, Bool.and, Nat.add_zero, Nat.zero_add]
    try simp only [Nat.reduceLT, Nat.reduceLeDiff, Nat.reduceEqDiff, true_and, and_true, and_self, Nat.zero_le, Nat.le_refl, true_or, or_true, Bool.false_eq_true, not_false_eq_true, Nat.reduceAdd, Nat.lt_add_one, Nat.zero_lt_one, nI_add, pk_mul, ixL, vpL, ne_eq, reduceIte, wI_sN, wL_sM, sN_same, sN_K, sN_2, sM_1, sM_same, sM_K, sM_s, uI_at, uN_at, enc_at, uI_enc, uI_uI, upM_s, upM_n]
    refine ⟨fun q => e28 (fun z => (hz0.mp z.1).1 q), fun q1 => ⟨fun q => e28 (fun z => (hz0.mp z.1).2 q), fun q2 => ⟨fun q => e28 (fun z => (hz1.mp z.2).1 q), fun q3 => ⟨fun q4 => ?_, fun q => e28 (fun z => q (hz1.mp z.2).2)⟩⟩⟩⟩
    have hr0 := hz0.mpr ⟨q1, q2⟩
    have hr1 := hz1.mpr ⟨q3, q4⟩
    have e : sBid a (some i) y p = (0, it a i (7 + y.toNatClampNeg), uN a (16 + 12 * i + (7 + y.toNatClampNeg)) p.toNatClampNeg) := by unfold sBid; simp only; rw [if_pos ⟨hr0, hr1⟩]
    rw [e] at hB
    obtain ⟨Y, rfl, -, Y2⟩ := inR_N hr0 (by omega) (by omega)
    obtain ⟨P, rfl, P1, P2⟩ := inR_N hr1 (by omega) (by omega)
    have ixy : (nI Y).toNatClampNeg = Y := ixL (by omega)
    have vxy : vp_in (nI Y) 5 = True := vpL (by omega) (by omega)
    rw [ixy, ixL (show P < 2147483648 by omega)] at hB
    have ix : (nI i).toNatClampNeg = i := ixL (by omega)
    have vx : vp_in (nI i) 10 = True := vpL (by omega) (by omega)
    obtain ⟨hp, rp⟩ := hS.2.2.2.1 i (by omega)
    have ip : (nI (π i)).toNatClampNeg = π i := ixL (by omega)
    obtain ⟨⟨f0, f1, f2, f3, f4, f5, f6⟩, fb⟩ := hS.2.2.2.2.2 i (by omega)
    have hl1 : it a i 1 = 1 := by unfold isLot at hl; exact beq_iff_eq.mp hl
    have rb := fb hl1 Y (by omega)
    refine V_run hB (rt := some .int) (nL := 6) (mc := 2) rfl rfl rfl obX9_placeBid_38 ?_
    dsimp only [bX9_placeBid_38, ↓wpb, ↓wp1, ↓vI, ↓vL, ↓vD, ↓ldI, ↓ldL, ↓ldD, ↓ldR, ↓k1, ↓k2, ↓kI, ↓kL, ↓kD, ↓kII, ↓kLL, ↓kDD, ↓kR, ↓kIR, ↓kLR, ↓kIIR, ↓kLIR, ↓kDIR, ↓kRIR, ↓kNN, ↓kE, ↓br, ↓bn, ↓rtI, ↓gfv, ↓zchk, lput, ldel, lbad, alA, acat, isRf, dom, dS, dJ, isO, aTy, aLen, elAV, elR, Nat.reduceBEq, Nat.reduceAdd, Bool.or, Bool.and, Nat.add_zero, Nat.zero_add]
    try simp only [Nat.reduceLT, Nat.reduceLeDiff, Nat.reduceEqDiff, true_and, and_true, and_self, Nat.zero_le, Nat.le_refl, true_or, or_true, Bool.false_eq_true, not_false_eq_true, Nat.reduceAdd, Nat.lt_add_one, Nat.zero_lt_one, nI_add, pk_mul, ixL, vpL, ne_eq, reduceIte, wI_sN, wL_sM, sN_same, sN_K, sN_2, sM_1, sM_same, sM_K, sM_s, uI_at, uN_at, enc_at, uI_enc, uI_uI, upM_s, upM_n, hp, ixy, vxy, rb]
    obtain ⟨⟨x2, x3, x5⟩, xca, xac, ⟨y1, y2, y3⟩⟩ := hS
    have hne : ∀ j, j < a 4 → j ≠ i → π j ≠ π i := fun j hj hji e => hji (y2 j i (by omega) (by omega) e)
    refine ⟨rfl, ⟨π, ⟨?_, ?_, ?_⟩, ?_, ?_, ?_⟩, (Same.refl _ _).sN _ (shN12 0 _)⟩
    · rw [sN_K (by decide), x2]; simp only [uN]; rw [if_neg (by omega)]
    · rw [sN_K (by decide), x3]; simp only [uN]; rw [if_neg (by omega)]
    · rw [sN_K (by decide), x5]; simp only [uN]; rw [if_neg (by omega)]
    · exact xca.of (sN_K (by decide)) (sN_K (by decide)) (by simp only [uN]; rw [if_neg (by omega)]) (fun w hw => by simp only [uN]; rw [if_neg (by omega)])
    · refine xac.of (sN_K (by decide)) rfl ?_ ?_ ?_ ?_ ?_ <;> (simp only [uN]; rw [if_neg (by omega)])
    · refine ⟨fun j hj => by rw [sN_K (by decide)]; exact y1 j hj, y2, fun j hj => ?_⟩
      have hj4 : j < a 4 := by
        have e4 : (uN a (16 + 12 * i + (7 + Y)) P) 4 = a 4 := by simp only [uN]; rw [if_neg (by omega)]
        exact Nat.lt_of_lt_of_eq hj e4
      by_cases hji : j = i
      · subst hji
        obtain ⟨⟨z0, z1, z2, z3, z4, z5, z6⟩, zb⟩ := y3 j hj4
        rw [sN_same, sN_K (by decide)]
        have E : ∀ c, c < 12 → it (uN a (16 + 12 * j + (7 + Y)) P) j c = if c = 7 + Y then P else it a j c := by
          intro c hcc
          rw [it_hi (by omega) hcc]
          simp only [true_and]
        refine ⟨⟨?_, ?_, ?_, ?_, ?_, ?_, ?_⟩, fun q c hcc => ?_⟩
        · rw [z0, E _ (by omega), if_neg (by omega)]
        · rw [z1, E _ (by omega), if_neg (by omega)]
        · rw [z2, E _ (by omega), if_neg (by omega)]
        · rw [z3, E _ (by omega), if_neg (by omega)]
        · rw [z4, E _ (by omega), if_neg (by omega)]
        · rw [z5, E _ (by omega), if_neg (by omega)]
        · rw [z6, E _ (by omega), if_neg (by omega)]
        · rw [E _ (by omega)]
          simp only [uI]
          by_cases hcy : c = Y
          · rw [if_pos hcy, if_pos (by omega)]
          · rw [if_neg hcy, if_neg (by omega)]
            exact zb hl1 c hcc
      · refine (y3 j hj4).of (sN_K (by decide)) (sN_ne (fun z => ?_)) (fun c hcc => ?_)
        · injection z with z1 z2; injection z2 with z3 z4; exact hne j hj4 hji z4
        · rw [it_hi (by omega) hcc, if_neg (fun z => hji z.1)]
theorem c_sell (hc : Ctx l G) (hS : ShP τ 0 a π) (hV : IV n a) (hn : n ≤ 1000) (t : Int32) : Sat l G iX9_sellLot [shM, aI t] τ (OpC [NSE, ISE] (shN 0) τ (sSel a (findO a t true))) := by
  have h10 := hV.1.1
  refine Sat_of hc.1 hc.2 (by decide +kernel) (Nat.le_of_ble_eq_true rfl) (fun x hB hno => ?_)
  refine V_run hB (rt := some .int) (nL := 5) (mc := 2) rfl rfl rfl obX9_sellLot_0 ?_
  dsimp only [bX9_sellLot_0, ↓wpb, ↓wp1, ↓vI, ↓vL, ↓vD, ↓ldI, ↓ldL, ↓ldD, ↓ldR, ↓k1, ↓k2, ↓kI, ↓kL, ↓kD, ↓kII, ↓kLL, ↓kDD, ↓kR, ↓kIR, ↓kLR, ↓kIIR, ↓kLIR, ↓kDIR, ↓kRIR, ↓kNN, ↓kE, ↓br, ↓bn, ↓rtI, ↓gfv, ↓zchk, lput, ldel, lbad, alA, acat, isRf, dom, dS, dJ, isO, aTy, aLen, elAV, elR, Nat.reduceBEq, Nat.reduceAdd, Bool.or, Bool.and, Nat.add_zero, Nat.zero_add]
  try simp only [Nat.reduceLT, Nat.reduceLeDiff, Nat.reduceEqDiff, true_and, and_true, and_self, Nat.zero_le, Nat.le_refl, true_or, or_true, Bool.false_eq_true, not_false_eq_true, Nat.reduceAdd, Nat.lt_add_one, Nat.zero_lt_one, nI_add, pk_mul, ixL, vpL, ne_eq, reduceIte, wI_sN, wL_sM, sN_same, sN_K, sN_2, sM_1, sM_same, sM_K, sM_s, uI_at, uN_at, enc_at, uI_enc, uI_uI, upM_s, upM_n]
  refine V_callV hB hno (c_requireLot hc hS hV t) rfl (by decide +kernel) cvX9_163 (dom1 rfl) npX9_requireLot ⟨by decide, by decide⟩ (Nat.le_of_ble_eq_true rfl) (by decide) ?_ ?_
  rotate_left
  · intro E τ' hq
    cases ho : findO a t true with
    | none =>
      rw [ho] at hq
      obtain ⟨e1, rfl⟩ := hq
      cases e1
      exact ⟨rfl, ⟨π, hS⟩, Same.refl _ _⟩
    | some i => rw [ho] at hq; cases hq.1
  intro v τ' hq
  cases ho : findO a t true with
  | none => rw [ho] at hq; cases hq.1
  | some i =>
    obtain ⟨hi, hl⟩ := findO_lt ho
    rw [ho] at hq hB
    obtain ⟨e1, rfl⟩ := hq
    cases e1
    show V x τ' 1 5 _ [.inr (5, 0, π i)]
    have ix : (nI i).toNatClampNeg = i := ixL (by omega)
    have vx : vp_in (nI i) 10 = True := vpL (by omega) (by omega)
    obtain ⟨hp, rp⟩ := hS.2.2.2.1 i (by omega)
    have ip : (nI (π i)).toNatClampNeg = π i := ixL (by omega)
    obtain ⟨⟨f0, f1, f2, f3, f4, f5, f6⟩, fb⟩ := hS.2.2.2.2.2 i (by omega)
    have hl1 : it a i 1 = 1 := by unfold isLot at hl; exact beq_iff_eq.mp hl
    have rb := fb hl1
    have hlt : ∀ k, it a i k < 2147483648 := fun k => by have := hV.lt hn (16 + 12 * i + k); unfold it; omega
    refine V_run hB (rt := some .int) (nL := 5) (mc := 2) rfl rfl rfl obX9_sellLot_5 ?_
    dsimp only [bX9_sellLot_5, ↓wpb, ↓wp1, ↓vI, ↓vL, ↓vD, ↓ldI, ↓ldL, ↓ldD, ↓ldR, ↓k1, ↓k2, ↓kI, ↓kL, ↓kD, ↓kII, ↓kLL, ↓kDD, ↓kR, ↓kIR, ↓kLR, ↓kIIR, ↓kLIR, ↓kDIR, ↓kRIR, ↓kNN, ↓kE, ↓br, ↓bn, ↓rtI, ↓gfv, ↓zchk, lput, ldel, lbad, alA, acat, isRf, dom, dS, dJ, isO, aTy, aLen, elAV, elR, Nat.reduceBEq, Nat.reduceAdd, Bool.or, Bool.and, Nat.add_zero, Nat.zero_add]
    try simp only [Nat.reduceLT, Nat.reduceLeDiff, Nat.reduceEqDiff, true_and, and_true, and_self, Nat.zero_le, Nat.le_refl, true_or, or_true, Bool.false_eq_true, not_false_eq_true, Nat.reduceAdd, Nat.lt_add_one, Nat.zero_lt_one, nI_add, pk_mul, ixL, vpL, ne_eq, reduceIte, wI_sN, wL_sM, sN_same, sN_K, sN_2, sM_1, sM_same, sM_K, sM_s, uI_at, uN_at, enc_at, uI_enc, uI_uI, upM_s, upM_n]
    refine V_cV hB hno (c_buyer hc (a := a) (i := i) hp f3 rb hlt) rfl (by decide +kernel) cvX9_168 ⟨(by decide : (0 : Nat) < 11), hp⟩ npX6_buyerAlone ⟨by decide, by decide⟩ (Nat.le_of_ble_eq_true rfl) (n' := 1) (by decide) rfl ?_
    cases hb : buyer a i with
    | none =>
      have e : sSel a (some i) = (2, 0, a) := by unfold sSel; simp only; rw [hb]
      rw [e] at hB
      refine V_run hB (rt := some .int) (nL := 5) (mc := 2) rfl rfl rfl obX9_sellLot_10 ?_
      dsimp only [bX9_sellLot_10, ↓wpb, ↓wp1, ↓vI, ↓vL, ↓vD, ↓ldI, ↓ldL, ↓ldD, ↓ldR, ↓k1, ↓k2, ↓kI, ↓kL, ↓kD, ↓kII, ↓kLL, ↓kDD, ↓kR, ↓kIR, ↓kLR, ↓kIIR, ↓kLIR, ↓kDIR, ↓kRIR, ↓kNN, ↓kE, ↓br, ↓bn, ↓rtI, ↓gfv, ↓zchk, lput, ldel, lbad, alA, acat, isRf, dom, dS, dJ, isO, aTy, aLen, elAV, elR, Nat.reduceBEq, Nat.reduceAdd, Bool.or, Bool.and, Nat.add_zero, Nat.zero_add]
      try simp only [Nat.reduceLT, Nat.reduceLeDiff, Nat.reduceEqDiff, true_and, and_true, and_self, Nat.zero_le, Nat.le_refl, true_or, or_true, Bool.false_eq_true, not_false_eq_true, Nat.reduceAdd, Nat.lt_add_one, Nat.zero_lt_one, nI_add, pk_mul, ixL, vpL, ne_eq, reduceIte, wI_sN, wL_sM, sN_same, sN_K, sN_2, sM_1, sM_same, sM_K, sM_s, uI_at, uN_at, enc_at, uI_enc, uI_uI, upM_s, upM_n]
      refine ⟨fun q => absurd rfl q, fun _ => ?_⟩
      refine V_throw hB hno thX9_171_89 ⟨by decide +kernel, by decide +kernel, by decide +kernel, by decide +kernel, by decide +kernel⟩ (by decide) (Nat.le_of_ble_eq_true rfl) ?_
      exact ⟨rfl, ⟨π, hS⟩, Same.refl _ _⟩
    | some y =>
      have e : sSel a (some i) = (0, paid a i y, soldA a i (paid a i y)) := by unfold sSel; simp only; rw [hb]
      rw [e] at hB
      have hy := buyU_lt hb
      rw [oI_some]
      refine V_run hB (rt := some .int) (nL := 5) (mc := 2) rfl rfl rfl obX9_sellLot_10 ?_
      dsimp only [bX9_sellLot_10, ↓wpb, ↓wp1, ↓vI, ↓vL, ↓vD, ↓ldI, ↓ldL, ↓ldD, ↓ldR, ↓k1, ↓k2, ↓kI, ↓kL, ↓kD, ↓kII, ↓kLL, ↓kDD, ↓kR, ↓kIR, ↓kLR, ↓kIIR, ↓kLIR, ↓kDIR, ↓kRIR, ↓kNN, ↓kE, ↓br, ↓bn, ↓rtI, ↓gfv, ↓zchk, lput, ldel, lbad, alA, acat, isRf, dom, dS, dJ, isO, aTy, aLen, elAV, elR, Nat.reduceBEq, Nat.reduceAdd, Bool.or, Bool.and, Nat.add_zero, Nat.zero_add]
      try simp only [Nat.reduceLT, Nat.reduceLeDiff, Nat.reduceEqDiff, true_and, and_true, and_self, Nat.zero_le, Nat.le_refl, true_or, or_true, Bool.false_eq_true, not_false_eq_true, Nat.reduceAdd, Nat.lt_add_one, Nat.zero_lt_one, nI_add, pk_mul, ixL, vpL, ne_eq, reduceIte, wI_sN, wL_sM, sN_same, sN_K, sN_2, sM_1, sM_same, sM_K, sM_s, uI_at, uN_at, enc_at, uI_enc, uI_uI, upM_s, upM_n]
      refine ⟨fun _ => ?_, fun q => absurd q (nI_n1 (by omega))⟩
      refine V_run hB (rt := some .int) (nL := 5) (mc := 2) rfl rfl rfl obX9_sellLot_26 ?_
      dsimp only [bX9_sellLot_26, ↓wpb, ↓wp1, ↓vI, ↓vL, ↓vD, ↓ldI, ↓ldL, ↓ldD, ↓ldR, ↓k1, ↓k2, ↓kI, ↓kL, ↓kD, ↓kII, ↓kLL, ↓kDD, ↓kR, ↓kIR, ↓kLR, ↓kIIR, ↓kLIR, ↓kDIR, ↓kRIR, ↓kNN, ↓kE, ↓br, ↓bn, ↓rtI, ↓gfv, ↓zchk, lput, ldel, lbad, alA, acat, isRf, dom, dS, dJ, isO, aTy, aLen, elAV, elR, Nat.reduceBEq, Nat.reduceAdd, Bool.or, Bool.and, Nat.add_zero, Nat.zero_add]
      try simp only [Nat.reduceLT, Nat.reduceLeDiff, Nat.reduceEqDiff, true_and, and_true, and_self, Nat.zero_le, Nat.le_refl, true_or, or_true, Bool.false_eq_true, not_false_eq_true, Nat.reduceAdd, Nat.lt_add_one, Nat.zero_lt_one, nI_add, pk_mul, ixL, vpL, ne_eq, reduceIte, wI_sN, wL_sM, sN_same, sN_K, sN_2, sM_1, sM_same, sM_K, sM_s, uI_at, uN_at, enc_at, uI_enc, uI_uI, upM_s, upM_n]
      refine V_cV hB hno (c_price hc (a := a) (i := i) hp hy f3 rb (hV.lt hn)) rfl (by decide +kernel) cvX9_173 ⟨(by decide : (0 : Nat) < 11), hp⟩ npX6_priceAlone ⟨by decide, by decide⟩ (Nat.le_of_ble_eq_true rfl) (n' := 1) (by decide) rfl ?_
      refine V_run hB (rt := some .int) (nL := 5) (mc := 2) rfl rfl rfl obX9_sellLot_31 ?_
      dsimp only [bX9_sellLot_31, ↓wpb, ↓wp1, ↓vI, ↓vL, ↓vD, ↓ldI, ↓ldL, ↓ldD, ↓ldR, ↓k1, ↓k2, ↓kI, ↓kL, ↓kD, ↓kII, ↓kLL, ↓kDD, ↓kR, ↓kIR, ↓kLR, ↓kIIR, ↓kLIR, ↓kDIR, ↓kRIR, ↓kNN, ↓kE, ↓br, ↓bn, ↓rtI, ↓gfv, ↓zchk, lput, ldel, lbad, alA, acat, isRf, dom, dS, dJ, isO, aTy, aLen, elAV, elR, Nat.reduceBEq, Nat.reduceAdd, Bool.or, Bool.and, Nat.add_zero, Nat.zero_add]
      try simp only [Nat.reduceLT, Nat.reduceLeDiff, Nat.reduceEqDiff, true_and, and_true, and_self, Nat.zero_le, Nat.le_refl, true_or, or_true, Bool.false_eq_true, not_false_eq_true, Nat.reduceAdd, Nat.lt_add_one, Nat.zero_lt_one, nI_add, pk_mul, ixL, vpL, ne_eq, reduceIte, wI_sN, wL_sM, sN_same, sN_K, sN_2, sM_1, sM_same, sM_K, sM_s, uI_at, uN_at, enc_at, uI_enc, uI_uI, upM_s, upM_n, ix, vx, hp, rp, ip, f0, f1, f2, f3, f4, f5, f6]
      refine V_callV hB hno (c_enterSale hc hS.2.2.1 (a' := uN (uN a 2 (a 2 + paid a i y)) 7 (a 7 + it a i 3)) (d := paid a i y) (m := it a i 3) rfl rfl rfl rfl rfl) rfl (by decide +kernel) cvX9_176 (dom1 rfl) npX1_enterSale ⟨by decide, by decide⟩ (Nat.le_of_ble_eq_true rfl) (by decide) ?_ ?_
      rotate_left
      · intro E τ' hq; cases hq.1
      intro v1 t1 hq
      obtain ⟨e1, hm1, hA1⟩ := hq
      cases e1
      show V x t1 1 46 _ _
      have hS1 := hS.ac hA1 hm1 (fun k k2 k5 k6 k7 k8 => by simp only [uN]; rw [if_neg k7, if_neg k2])
      have hf : find (uN (uN a 2 (a 2 + paid a i y)) 7 (a 7 + it a i 3)) t = some i := by
        refine Eq.trans (find_congr (a := a) (a' := uN (uN a 2 (a 2 + paid a i y)) 7 (a 7 + it a i 3)) rfl (fun j => ?_) t) (findO_find ho)
        rw [it_lo (by omega), it_lo (by omega)]
      refine V_run hB (rt := some .int) (nL := 5) (mc := 2) rfl rfl rfl obX9_sellLot_46 ?_
      dsimp only [bX9_sellLot_46, ↓wpb, ↓wp1, ↓vI, ↓vL, ↓vD, ↓ldI, ↓ldL, ↓ldD, ↓ldR, ↓k1, ↓k2, ↓kI, ↓kL, ↓kD, ↓kII, ↓kLL, ↓kDD, ↓kR, ↓kIR, ↓kLR, ↓kIIR, ↓kLIR, ↓kDIR, ↓kRIR, ↓kNN, ↓kE, ↓br, ↓bn, ↓rtI, ↓gfv, ↓zchk, lput, ldel, lbad, alA, acat, isRf, dom, dS, dJ, isO, aTy, aLen, elAV, elR, Nat.reduceBEq, Nat.reduceAdd, Bool.or, Bool.and, Nat.add_zero, Nat.zero_add]
      try simp only [Nat.reduceLT, Nat.reduceLeDiff, Nat.reduceEqDiff, true_and, and_true, and_self, Nat.zero_le, Nat.le_refl, true_or, or_true, Bool.false_eq_true, not_false_eq_true, Nat.reduceAdd, Nat.lt_add_one, Nat.zero_lt_one, nI_add, pk_mul, ixL, vpL, ne_eq, reduceIte, wI_sN, wL_sM, sN_same, sN_K, sN_2, sM_1, sM_same, sM_K, sM_s, uI_at, uN_at, enc_at, uI_enc, uI_uI, upM_s, upM_n]
      refine V_cV hB hno (c_indexOf hc hS1 h10 t) rfl (by decide +kernel) cvX9_55 (dom1 rfl) npX9_indexOf ⟨by decide, by decide⟩ (Nat.le_of_ble_eq_true rfl) (n' := 1) (by decide) rfl ?_
      rw [hf, oI_some]
      refine V_callV hB hno (c_removeAt hc hS1 h10 (i := i) hi) rfl (by decide +kernel) cvX9_128 (dom1 rfl) npX9_removeAt ⟨by decide, by decide⟩ (Nat.le_of_ble_eq_true rfl) (by decide) ?_ ?_
      rotate_left
      · intro E τ' hq; cases hq.1
      intro v2 t2 hq
      obtain ⟨e2, hR2, hm2⟩ := hq
      cases e2
      show V x t2 1 55 _ _
      refine V_run hB (rt := some .int) (nL := 5) (mc := 2) rfl rfl rfl obX9_sellLot_55 ?_
      dsimp only [bX9_sellLot_55, ↓wpb, ↓wp1, ↓vI, ↓vL, ↓vD, ↓ldI, ↓ldL, ↓ldD, ↓ldR, ↓k1, ↓k2, ↓kI, ↓kL, ↓kD, ↓kII, ↓kLL, ↓kDD, ↓kR, ↓kIR, ↓kLR, ↓kIIR, ↓kLIR, ↓kDIR, ↓kRIR, ↓kNN, ↓kE, ↓br, ↓bn, ↓rtI, ↓gfv, ↓zchk, lput, ldel, lbad, alA, acat, isRf, dom, dS, dJ, isO, aTy, aLen, elAV, elR, Nat.reduceBEq, Nat.reduceAdd, Bool.or, Bool.and, Nat.add_zero, Nat.zero_add]
      try simp only [Nat.reduceLT, Nat.reduceLeDiff, Nat.reduceEqDiff, true_and, and_true, and_self, Nat.zero_le, Nat.le_refl, true_or, or_true, Bool.false_eq_true, not_false_eq_true, Nat.reduceAdd, Nat.lt_add_one, Nat.zero_lt_one, nI_add, pk_mul, ixL, vpL, ne_eq, reduceIte, wI_sN, wL_sM, sN_same, sN_K, sN_2, sM_1, sM_same, sM_K, sM_s, uI_at, uN_at, enc_at, uI_enc, uI_uI, upM_s, upM_n]
      exact ⟨rfl, hR2, hm1.sh4.trans (hm2.mono (fun nm q => by rcases q with rfl | rfl <;> exact ⟨by decide, rfl⟩))⟩
end C4
