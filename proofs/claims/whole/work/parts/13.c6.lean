/-! ===== the class: a shop copied; the history ===== -/
/-- the order of a shop's items -/
def PmR (τ : Mem) (s : Nat) (π : Nat → Nat) : Prop := (∀ i, i < 10 → π i < 10 ∧ τ.1 (10, s, 0) i = nI (π i)) ∧ ∀ i j, i < 10 → j < 10 → π i = π j → i = j
theorem ShP.pm {τ : Mem} {s : Nat} {a π : Nat → Nat} (h : ShP τ s a π) : PmR τ s π := ⟨h.2.2.2.1, h.2.2.2.2.1⟩
theorem PmR.same {P : Nm → Prop} {τ τ' : Mem} {s : Nat} {π : Nat → Nat} (h : PmR τ s π) (hm : Same P τ τ') (hP : ¬ P (10, s, 0)) : PmR τ' s π := ⟨fun i hi => by rw [(hm.2 _ hP).1]; exact h.1 i hi, h.2⟩
theorem ShP.same {P : Nm → Prop} {τ τ' : Mem} {s : Nat} {a π : Nat → Nat} (h : ShP τ s a π) (hm : Same P τ τ') (hP : ∀ K j, (K = 2 ∨ K = 3 ∨ K = 4 ∨ K = 5 ∨ K = 10 ∨ K = 11 ∨ K = 12) → ¬ P (K, s, j)) : ShP τ' s a π := by
  have n2 := (hm.2 (2, s, 0) (hP 2 0 (by omega))).1
  have n3 := (hm.2 (3, s, 0) (hP 3 0 (by omega))).1
  have n4 := hm.2 (4, s, 0) (hP 4 0 (by omega))
  have n10 := (hm.2 (10, s, 0) (hP 10 0 (by omega))).1
  have n11 := (hm.2 (11, s, 0) (hP 11 0 (by omega))).1
  refine ⟨by rw [n2]; exact h.1, h.2.1.of n3 n11 rfl (fun _ _ => rfl), h.2.2.1.of n4.1 n4.2 rfl rfl rfl rfl rfl, h.2.2.2.of n10 (Nat.le_refl _) (fun i _ => (hm.2 _ (hP 5 _ (by omega))).1) (fun i _ => (hm.2 _ (hP 12 _ (by omega))).1) (fun _ _ _ _ => rfl)⟩
theorem ShR.same {P : Nm → Prop} {τ τ' : Mem} {s : Nat} {a : Nat → Nat} (h : ShR τ s a) (hm : Same P τ τ') (hP : ∀ K j, (K = 2 ∨ K = 3 ∨ K = 4 ∨ K = 5 ∨ K = 10 ∨ K = 11 ∨ K = 12) → ¬ P (K, s, j)) : ShR τ' s a := by
  obtain ⟨π, h⟩ := h
  exact ⟨π, h.same hm hP⟩
section C6
variable {l : Launch} {G : GG} {τ : Mem} {a π π' : Nat → Nat}
theorem c_shCopy (hc : Ctx l G) {s s' : Nat} (hs : s < 11) (hs' : s' < 11) (hne : s' ≠ s) (hS : ShP τ s' a π') (hT : PmR τ s π) (h10 : a 4 ≤ 10) (h1 : ∀ i, i < 10 → it a i 1 ≤ 1) : Sat l G iX9_copyFrom [.inr (2, s, 0), .inr (2, s', 0)] τ (voidP (fun τ' => ShP τ' s a π ∧ Same (shN s) τ τ')) := by
  have no : ∀ K j, (K = 2 ∨ K = 3 ∨ K = 4 ∨ K = 5 ∨ K = 10 ∨ K = 11 ∨ K = 12) → ¬ shN s (K, s', j) := fun K j _ q => hne q.2
  have n2 : ∀ (t : Mem) f, (sN t (2, s, 0) f).1 (2, s', 0) = t.1 (2, s', 0) := fun t f => sN_ne (fun e => hne (by injection e with e1 e2; injection e2 with e3 e4))
  refine Sat_of hc.1 hc.2 (by decide +kernel) (Nat.le_of_ble_eq_true rfl) (fun x hB hno => ?_)
  refine V_run hB (rt := none) (nL := 3) (mc := 0) rfl rfl rfl obX9_copyFrom_0 ?_
  dsimp only [bX9_copyFrom_0, ↓wpb, ↓wp1, ↓vI, ↓vL, ↓vD, ↓ldI, ↓ldL, ↓ldD, ↓ldR, ↓k1, ↓k2, ↓kI, ↓kL, ↓kD, ↓kII, ↓kLL, ↓kDD, ↓kR, ↓kIR, ↓kLR, ↓kIIR, ↓kLIR, ↓kDIR, ↓kRIR, ↓kNN, ↓kE, ↓br, ↓bn, ↓rtI, ↓gfv, ↓zchk, lput, ldel, lbad, alA, acat, isRf, dom, dS, dJ, isO, aTy, aLen, elAV, elR, Nat.reduceBEq, Nat.reduceAdd, Bool.or, Bool.and, Nat.add_zero, Nat.zero_add]
  try simp only [Nat.reduceLT, Nat.reduceLeDiff, Nat.reduceEqDiff, true_and, and_true, and_self, Nat.zero_le, Nat.le_refl, true_or, or_true, Bool.false_eq_true, not_false_eq_true, Nat.reduceAdd, Nat.lt_add_one, Nat.zero_lt_one, nI_add, pk_mul, ixL, vpL, ne_eq, reduceIte, wI_sN, wL_sM, sN_same, sN_K, sN_2, sM_1, sM_same, sM_K, sM_s, uI_at, uN_at, enc_at, uI_enc, uI_uI, upM_s, upM_n, hs, hs']
  refine V_cVv hB hno (c_caCopy hc τ hs hs') rfl (by decide +kernel) cvX9_42 ⟨hs, (by decide : (0 : Nat) < 1)⟩ npX2_copyFrom ⟨by decide, by decide⟩ (Nat.le_of_ble_eq_true rfl) (n' := 0) (by decide) rfl ?_
  have m1 : Same (shN s) τ (sN (sN τ (3, s, 0) (uI (τ.1 (3, s, 0)) 0 (τ.1 (3, s', 0) 0))) (11, s, 0) (va_cpy (τ.1 (11, s', 0)) (τ.1 (11, s, 0)) 0 0 7)) := ((Same.refl _ _).sN _ ⟨Or.inr (Or.inl rfl), rfl⟩).sN _ ⟨Or.inr (Or.inr (Or.inr (Or.inr (Or.inr (Or.inl rfl))))), rfl⟩
  have ca1 : CaR (sN (sN τ (3, s, 0) (uI (τ.1 (3, s, 0)) 0 (τ.1 (3, s', 0) 0))) (11, s, 0) (va_cpy (τ.1 (11, s', 0)) (τ.1 (11, s, 0)) 0 0 7)) s a := by
    refine ⟨?_, fun w hw => ?_⟩
    · rw [sN_K (by decide), sN_same]; exact hS.2.1.1
    · rw [sN_same, cpy_in hw]; exact hS.2.1.2 w hw
  have p1 : PmR (sN (sN τ (3, s, 0) (uI (τ.1 (3, s, 0)) 0 (τ.1 (3, s', 0) 0))) (11, s, 0) (va_cpy (τ.1 (11, s', 0)) (τ.1 (11, s, 0)) 0 0 7)) s π := ⟨fun i hi => by rw [sN_K (by decide), sN_K (by decide)]; exact hT.1 i hi, hT.2⟩
  generalize sN (sN τ (3, s, 0) (uI (τ.1 (3, s, 0)) 0 (τ.1 (3, s', 0) 0))) (11, s, 0) (va_cpy (τ.1 (11, s', 0)) (τ.1 (11, s, 0)) 0 0 7) = t1 at *
  have S1 := hS.same m1 no
  refine V_run hB (rt := none) (nL := 3) (mc := 0) rfl rfl rfl obX9_copyFrom_11 ?_
  dsimp only [bX9_copyFrom_11, ↓wpb, ↓wp1, ↓vI, ↓vL, ↓vD, ↓ldI, ↓ldL, ↓ldD, ↓ldR, ↓k1, ↓k2, ↓kI, ↓kL, ↓kD, ↓kII, ↓kLL, ↓kDD, ↓kR, ↓kIR, ↓kLR, ↓kIIR, ↓kLIR, ↓kDIR, ↓kRIR, ↓kNN, ↓kE, ↓br, ↓bn, ↓rtI, ↓gfv, ↓zchk, lput, ldel, lbad, alA, acat, isRf, dom, dS, dJ, isO, aTy, aLen, elAV, elR, Nat.reduceBEq, Nat.reduceAdd, Bool.or, Bool.and, Nat.add_zero, Nat.zero_add]
  try simp only [Nat.reduceLT, Nat.reduceLeDiff, Nat.reduceEqDiff, true_and, and_true, and_self, Nat.zero_le, Nat.le_refl, true_or, or_true, Bool.false_eq_true, not_false_eq_true, Nat.reduceAdd, Nat.lt_add_one, Nat.zero_lt_one, nI_add, pk_mul, ixL, vpL, ne_eq, reduceIte, wI_sN, wL_sM, sN_same, sN_K, sN_2, sM_1, sM_same, sM_K, sM_s, uI_at, uN_at, enc_at, uI_enc, uI_uI, upM_s, upM_n, hs, hs']
  refine V_callV hB hno (c_acCopy hc t1 hs hs' hne) rfl (by decide +kernel) cvX9_46 ⟨hs, (by decide : (0 : Nat) < 1)⟩ npX1_copyFrom ⟨by decide, by decide⟩ (Nat.le_of_ble_eq_true rfl) (by decide) ?_ ?_
  rotate_left
  · intro E τ' hq; cases hq.1
  intro v2 t2 hq
  obtain ⟨e2, m2, h2, h2l⟩ := hq
  cases e2
  show V x t2 0 22 _ _
  have n2' : ∀ K j, K ≠ 4 → t2.1 (K, s, j) = t1.1 (K, s, j) := fun K j hk => (m2.2 (K, s, j) (fun z => hk (by injection z))).1
  have m2' := m1.trans (m2.mono (Q := shN s) (fun nm q => by subst q; exact ⟨Or.inr (Or.inr (Or.inl rfl)), rfl⟩))
  have S2 := hS.same m2' no
  have ca2 : CaR t2 s a := ca1.of (n2' 3 0 (by decide)) (n2' 11 0 (by decide)) rfl (fun _ _ => rfl)
  have ac2 : AcR t2 s a := by
    obtain ⟨⟨a0, a6, a7, a8⟩, a5, as⟩ := S1.2.2.1
    refine ⟨⟨?_, ?_, ?_, ?_⟩, ?_, ?_⟩
    · rw [h2 0 (by decide) (by decide)]; exact a0
    · rw [h2 6 (by decide) (by decide)]; exact a6
    · rw [h2 7 (by decide) (by decide)]; exact a7
    · rw [h2 8 (by decide) (by decide)]; exact a8
    · rw [h2l]; exact a5
    · rw [h2 1 (by decide) (by decide), h2 2 (by decide) (by decide), h2 3 (by decide) (by decide), h2 4 (by decide) (by decide)]; exact as
  have p2 : PmR t2 s π := ⟨fun i hi => by rw [n2' 10 0 (by decide)]; exact p1.1 i hi, p1.2⟩
  obtain ⟨g2, g3, g5⟩ := S2.1
  have loop : ∀ w i t, i + w = a 4 → Same (shN s) τ t → (t.1 (2, s, 0) 2 = nI (a 1) ∧ t.1 (2, s, 0) 3 = nI (a 3) ∧ t.1 (2, s, 0) 5 = nI (a 4)) → CaR t s a → AcR t s a → PmR t s π → (∀ j, j < i → I1 (t.1 (5, s, π j)) (t.1 (12, s, π j)) (it a j)) → V x t 0 48 [(0, .inr (2, s, 0)), (1, .inr (2, s', 0)), (2, aI (nI i))] [] := by
    intro w
    induction w with
    | zero =>
      intro i t hi hm g hca hac hp hQ
      have hi : i = a 4 := by omega
      subst hi
      refine V_run hB (rt := none) (nL := 3) (mc := 0) rfl rfl rfl obX9_copyFrom_48 ?_
      dsimp only [bX9_copyFrom_48, ↓wpb, ↓wp1, ↓vI, ↓vL, ↓vD, ↓ldI, ↓ldL, ↓ldD, ↓ldR, ↓k1, ↓k2, ↓kI, ↓kL, ↓kD, ↓kII, ↓kLL, ↓kDD, ↓kR, ↓kIR, ↓kLR, ↓kIIR, ↓kLIR, ↓kDIR, ↓kRIR, ↓kNN, ↓kE, ↓br, ↓bn, ↓rtI, ↓gfv, ↓zchk, lput, ldel, lbad, alA, acat, isRf, dom, dS, dJ, isO, aTy, aLen, elAV, elR, Nat.reduceBEq, Nat.reduceAdd, Bool.or, Bool.and, Nat.add_zero, Nat.zero_add]
      try simp only [Nat.reduceLT, Nat.reduceLeDiff, Nat.reduceEqDiff, true_and, and_true, and_self, Nat.zero_le, Nat.le_refl, true_or, or_true, Bool.false_eq_true, not_false_eq_true, Nat.reduceAdd, Nat.lt_add_one, Nat.zero_lt_one, nI_add, pk_mul, ixL, vpL, ne_eq, reduceIte, wI_sN, wL_sM, sN_same, sN_K, sN_2, sM_1, sM_same, sM_K, sM_s, uI_at, uN_at, enc_at, uI_enc, uI_uI, upM_s, upM_n, hs, hs', g.2.2]
      refine ⟨fun _ => ?_, fun q => absurd (nI_le (by omega) (by omega)) q⟩
      refine V_run hB (rt := none) (nL := 3) (mc := 0) rfl rfl rfl obX9_copyFrom_77 ?_
      dsimp only [bX9_copyFrom_77, ↓wpb, ↓wp1, ↓vI, ↓vL, ↓vD, ↓ldI, ↓ldL, ↓ldD, ↓ldR, ↓k1, ↓k2, ↓kI, ↓kL, ↓kD, ↓kII, ↓kLL, ↓kDD, ↓kR, ↓kIR, ↓kLR, ↓kIIR, ↓kLIR, ↓kDIR, ↓kRIR, ↓kNN, ↓kE, ↓br, ↓bn, ↓rtI, ↓gfv, ↓zchk, lput, ldel, lbad, alA, acat, isRf, dom, dS, dJ, isO, aTy, aLen, elAV, elR, Nat.reduceBEq, Nat.reduceAdd, Bool.or, Bool.and, Nat.add_zero, Nat.zero_add]
      try simp only [Nat.reduceLT, Nat.reduceLeDiff, Nat.reduceEqDiff, true_and, and_true, and_self, Nat.zero_le, Nat.le_refl, true_or, or_true, Bool.false_eq_true, not_false_eq_true, Nat.reduceAdd, Nat.lt_add_one, Nat.zero_lt_one, nI_add, pk_mul, ixL, vpL, ne_eq, reduceIte, wI_sN, wL_sM, sN_same, sN_K, sN_2, sM_1, sM_same, sM_K, sM_s, uI_at, uN_at, enc_at, uI_enc, uI_uI, upM_s, upM_n]
      exact ⟨rfl, ⟨g, hca, hac, hp.1, hp.2, hQ⟩, hm⟩
    | succ w ih =>
      intro i t hi hm g hca hac hp hQ
      have ix : (nI i).toNatClampNeg = i := ixL (by omega)
      have vx : vp_in (nI i) 10 = True := vpL (by omega) (by omega)
      have S := hS.same hm no
      obtain ⟨q1, r1⟩ := hp.1 i (by omega)
      have ip1 : (nI (π i)).toNatClampNeg = π i := ixL (by omega)
      obtain ⟨q2, r2⟩ := S.2.2.2.1 i (by omega)
      have ip2 : (nI (π' i)).toNatClampNeg = π' i := ixL (by omega)
      have hI := S.2.2.2.2.2 i (by omega)
      refine V_run hB (rt := none) (nL := 3) (mc := 0) rfl rfl rfl obX9_copyFrom_48 ?_
      dsimp only [bX9_copyFrom_48, ↓wpb, ↓wp1, ↓vI, ↓vL, ↓vD, ↓ldI, ↓ldL, ↓ldD, ↓ldR, ↓k1, ↓k2, ↓kI, ↓kL, ↓kD, ↓kII, ↓kLL, ↓kDD, ↓kR, ↓kIR, ↓kLR, ↓kIIR, ↓kLIR, ↓kDIR, ↓kRIR, ↓kNN, ↓kE, ↓br, ↓bn, ↓rtI, ↓gfv, ↓zchk, lput, ldel, lbad, alA, acat, isRf, dom, dS, dJ, isO, aTy, aLen, elAV, elR, Nat.reduceBEq, Nat.reduceAdd, Bool.or, Bool.and, Nat.add_zero, Nat.zero_add]
      try simp only [Nat.reduceLT, Nat.reduceLeDiff, Nat.reduceEqDiff, true_and, and_true, and_self, Nat.zero_le, Nat.le_refl, true_or, or_true, Bool.false_eq_true, not_false_eq_true, Nat.reduceAdd, Nat.lt_add_one, Nat.zero_lt_one, nI_add, pk_mul, ixL, vpL, ne_eq, reduceIte, wI_sN, wL_sM, sN_same, sN_K, sN_2, sM_1, sM_same, sM_K, sM_s, uI_at, uN_at, enc_at, uI_enc, uI_uI, upM_s, upM_n, hs, hs', g.2.2, ix, vx, q1, r1, ip1, q2, r2, ip2]
      refine ⟨fun q => absurd q (nI_ge (by omega) (by omega)), fun _ => ?_⟩
      have hfl : t.1 (5, s', π' i) 6 = 0 ∨ t.1 (5, s', π' i) 6 = 1 := by
        rw [hI.1.2.2.2.2.2.2]
        have := h1 i (by omega)
        rcases (by omega : it a i 1 = 0 ∨ it a i 1 = 1) with z | z <;> rw [z]
        · exact Or.inl rfl
        · exact Or.inr rfl
      refine V_callV hB hno (c_itCopy hc t hs hs' q1 q2 hne hfl) rfl (by decide +kernel) cvX9_49 ⟨hs, q1⟩ npX6_copyFrom ⟨by decide, by decide⟩ (Nat.le_of_ble_eq_true rfl) (by decide) ?_ ?_
      rotate_left
      · intro E τ' hq; cases hq.1
      intro v3 t3 hq
      obtain ⟨e3, m3, h5, h12⟩ := hq
      cases e3
      show V x t3 0 71 _ _
      have n3 : ∀ K j, K ≠ 5 → K ≠ 12 → t3.1 (K, s, j) = t.1 (K, s, j) ∧ t3.2.1 (K, s, j) = t.2.1 (K, s, j) := fun K j k1 k2 => m3.2 (K, s, j) (by rintro (z | z) <;> injection z with z1 z2; exact k1 z1; exact k2 z1)
      have n3i : ∀ j, j ≠ π i → t3.1 (5, s, j) = t.1 (5, s, j) ∧ t3.1 (12, s, j) = t.1 (12, s, j) := fun j hj => ⟨(m3.2 (5, s, j) (by
        rintro (z | z)
        · injection z with z1 z2; injection z2 with z3 z4; exact hj z4
        · injection z with z1 z2; cases z1)).1, (m3.2 (12, s, j) (by
        rintro (z | z)
        · injection z with z1 z2; cases z1
        · injection z with z1 z2; injection z2 with z3 z4; exact hj z4)).1⟩
      refine V_run hB (rt := none) (nL := 3) (mc := 0) rfl rfl rfl obX9_copyFrom_71 ?_
      dsimp only [bX9_copyFrom_71, ↓wpb, ↓wp1, ↓vI, ↓vL, ↓vD, ↓ldI, ↓ldL, ↓ldD, ↓ldR, ↓k1, ↓k2, ↓kI, ↓kL, ↓kD, ↓kII, ↓kLL, ↓kDD, ↓kR, ↓kIR, ↓kLR, ↓kIIR, ↓kLIR, ↓kDIR, ↓kRIR, ↓kNN, ↓kE, ↓br, ↓bn, ↓rtI, ↓gfv, ↓zchk, lput, ldel, lbad, alA, acat, isRf, dom, dS, dJ, isO, aTy, aLen, elAV, elR, Nat.reduceBEq, Nat.reduceAdd, Bool.or, Bool.and, Nat.add_zero, Nat.zero_add]
      try simp only [Nat.reduceLT, Nat.reduceLeDiff, Nat.reduceEqDiff, true_and, and_true, and_self, Nat.zero_le, Nat.le_refl, true_or, or_true, Bool.false_eq_true, not_false_eq_true, Nat.reduceAdd, Nat.lt_add_one, Nat.zero_lt_one, nI_add, pk_mul, ixL, vpL, ne_eq, reduceIte, wI_sN, wL_sM, sN_same, sN_K, sN_2, sM_1, sM_same, sM_K, sM_s, uI_at, uN_at, enc_at, uI_enc, uI_uI, upM_s, upM_n]
      refine ih (i + 1) t3 (by omega) (hm.trans (m3.mono (fun nm q => by
        rcases q with rfl | rfl
        · exact shN5 s _
        · exact shN12 s _))) ?_ ?_ ?_ ?_ ?_
      · rw [(n3 2 0 (by decide) (by decide)).1]; exact g
      · exact hca.of (n3 3 0 (by decide) (by decide)).1 (n3 11 0 (by decide) (by decide)).1 rfl (fun _ _ => rfl)
      · exact hac.of (n3 4 0 (by decide) (by decide)).1 (n3 4 0 (by decide) (by decide)).2 rfl rfl rfl rfl rfl
      · exact ⟨fun j hj => by rw [(n3 10 0 (by decide) (by decide)).1]; exact hp.1 j hj, hp.2⟩
      · intro j hj
        by_cases hji : j = i
        · subst hji
          exact hI.cp h5 h12
        · have hne2 : π j ≠ π i := fun z => hji (hp.2 j i (by omega) (by omega) z)
          exact (hQ j (by omega)).of (n3i _ hne2).1 (n3i _ hne2).2 (fun _ _ => rfl)
  refine V_run hB (rt := none) (nL := 3) (mc := 0) rfl rfl rfl (ops := [(22, .aload_n 0, 1, (0, 0, 0, 0, 0, 0), 0), (23, .aload_n 1, 1, (1, 0, 0, 0, 0, 0), 0), (24, .getfield 25, 3, (2, 2, 0, 0, 0, 0), 0), (27, .putfield 25, 3, (2, 2, 0, 0, 0, 0), 0)]) (by decide +kernel) ?_
  dsimp only [↓wpb, ↓wp1, ↓vI, ↓vL, ↓vD, ↓ldI, ↓ldL, ↓ldD, ↓ldR, ↓k1, ↓k2, ↓kI, ↓kL, ↓kD, ↓kII, ↓kLL, ↓kDD, ↓kR, ↓kIR, ↓kLR, ↓kIIR, ↓kLIR, ↓kDIR, ↓kRIR, ↓kNN, ↓kE, ↓br, ↓bn, ↓rtI, ↓gfv, ↓zchk, lput, ldel, lbad, alA, acat, isRf, dom, dS, dJ, isO, aTy, aLen, elAV, elR, Nat.reduceBEq, Nat.reduceAdd, Bool.or, Bool.and, Nat.add_zero, Nat.zero_add]
  try simp only [Nat.reduceLT, Nat.reduceLeDiff, Nat.reduceEqDiff, true_and, and_true, and_self, Nat.zero_le, Nat.le_refl, true_or, or_true, Bool.false_eq_true, not_false_eq_true, Nat.reduceAdd, Nat.lt_add_one, Nat.zero_lt_one, nI_add, pk_mul, ixL, vpL, ne_eq, reduceIte, wI_sN, wL_sM, sN_same, sN_K, sN_2, sM_1, sM_same, sM_K, sM_s, uI_at, uN_at, enc_at, uI_enc, uI_uI, upM_s, upM_n, hs, hs', n2, g2, g3, g5, uI_at, sN_sN]
  refine V_run hB (rt := none) (nL := 3) (mc := 0) rfl rfl rfl (ops := [(30, .aload_n 0, 1, (0, 0, 0, 0, 0, 0), 0), (31, .aload_n 1, 1, (1, 0, 0, 0, 0, 0), 0), (32, .getfield 29, 3, (2, 3, 0, 0, 0, 0), 0), (35, .putfield 29, 3, (2, 3, 0, 0, 0, 0), 0)]) (by decide +kernel) ?_
  dsimp only [↓wpb, ↓wp1, ↓vI, ↓vL, ↓vD, ↓ldI, ↓ldL, ↓ldD, ↓ldR, ↓k1, ↓k2, ↓kI, ↓kL, ↓kD, ↓kII, ↓kLL, ↓kDD, ↓kR, ↓kIR, ↓kLR, ↓kIIR, ↓kLIR, ↓kDIR, ↓kRIR, ↓kNN, ↓kE, ↓br, ↓bn, ↓rtI, ↓gfv, ↓zchk, lput, ldel, lbad, alA, acat, isRf, dom, dS, dJ, isO, aTy, aLen, elAV, elR, Nat.reduceBEq, Nat.reduceAdd, Bool.or, Bool.and, Nat.add_zero, Nat.zero_add]
  try simp only [Nat.reduceLT, Nat.reduceLeDiff, Nat.reduceEqDiff, true_and, and_true, and_self, Nat.zero_le, Nat.le_refl, true_or, or_true, Bool.false_eq_true, not_false_eq_true, Nat.reduceAdd, Nat.lt_add_one, Nat.zero_lt_one, nI_add, pk_mul, ixL, vpL, ne_eq, reduceIte, wI_sN, wL_sM, sN_same, sN_K, sN_2, sM_1, sM_same, sM_K, sM_s, uI_at, uN_at, enc_at, uI_enc, uI_uI, upM_s, upM_n, hs, hs', n2, g2, g3, g5, uI_at, sN_sN]
  refine V_run hB (rt := none) (nL := 3) (mc := 0) rfl rfl rfl (ops := [(38, .aload_n 0, 1, (0, 0, 0, 0, 0, 0), 0), (39, .aload_n 1, 1, (1, 0, 0, 0, 0, 0), 0), (40, .getfield 38, 3, (2, 5, 0, 0, 0, 0), 0), (43, .putfield 38, 3, (2, 5, 0, 0, 0, 0), 0), (46, .iconst 0, 1, (0, 0, 0, 0, 0, 0), nI 0), (47, .istore_n 2, 1, (2, 0, 0, 0, 0, 0), 0)]) (by decide +kernel) ?_
  dsimp only [↓wpb, ↓wp1, ↓vI, ↓vL, ↓vD, ↓ldI, ↓ldL, ↓ldD, ↓ldR, ↓k1, ↓k2, ↓kI, ↓kL, ↓kD, ↓kII, ↓kLL, ↓kDD, ↓kR, ↓kIR, ↓kLR, ↓kIIR, ↓kLIR, ↓kDIR, ↓kRIR, ↓kNN, ↓kE, ↓br, ↓bn, ↓rtI, ↓gfv, ↓zchk, lput, ldel, lbad, alA, acat, isRf, dom, dS, dJ, isO, aTy, aLen, elAV, elR, Nat.reduceBEq, Nat.reduceAdd, Bool.or, Bool.and, Nat.add_zero, Nat.zero_add]
  try simp only [Nat.reduceLT, Nat.reduceLeDiff, Nat.reduceEqDiff, true_and, and_true, and_self, Nat.zero_le, Nat.le_refl, true_or, or_true, Bool.false_eq_true, not_false_eq_true, Nat.reduceAdd, Nat.lt_add_one, Nat.zero_lt_one, nI_add, pk_mul, ixL, vpL, ne_eq, reduceIte, wI_sN, wL_sM, sN_same, sN_K, sN_2, sM_1, sM_same, sM_K, sM_s, uI_at, uN_at, enc_at, uI_enc, uI_uI, upM_s, upM_n, hs, hs', n2, g2, g3, g5, uI_at, sN_sN]
  refine loop (a 4) 0 _ (by omega) (m2'.sN _ ⟨Or.inl rfl, rfl⟩) ?_ ?_ ?_ ?_ (fun j hj => absurd hj (Nat.not_lt_zero _))
  · rw [sN_same]
    exact ⟨rfl, rfl, rfl⟩
  · exact ca2.of (sN_K (by decide)) (sN_K (by decide)) rfl (fun _ _ => rfl)
  · exact ac2.of (sN_K (by decide)) rfl rfl rfl rfl rfl rfl
  · exact ⟨fun i hi => by rw [sN_K (by decide)]; exact p2.1 i hi, p2.2⟩
end C6
/-! ===== the history ===== -/
abbrev hiM : AV := .inr (8, 0, 0)
/-- the states behind: the place of the next, the states of the past, newest first -/
def HiP (τ : Mem) (ps : List (Nat → Nat)) (p : Nat) : Prop := (p < 9 ∧ τ.1 (8, 0, 0) 1 = nI p ∧ τ.1 (8, 0, 0) 2 = nI ps.length ∧ ps.length ≤ 8) ∧ (∀ s, 2 ≤ s → s < 11 → ∃ π, PmR τ s π) ∧ ∀ j b, ps[j]? = some b → ShR τ (2 + (p + 8 - j) % 9) b
def HiR (τ : Mem) (ps : List (Nat → Nat)) : Prop := ∃ p, HiP τ ps p
/-- the cells of a shop -/
def hiN (nm : Nm) : Prop := nm = (8, 0, 0)
theorem HiP.same {P : Nm → Prop} {τ τ' : Mem} {ps : List (Nat → Nat)} {p : Nat} (h : HiP τ ps p) (hm : Same P τ τ') (h8 : ¬ P (8, 0, 0)) (hP : ∀ K s j, 2 ≤ s → s ≠ 2 + p → (K = 2 ∨ K = 3 ∨ K = 4 ∨ K = 5 ∨ K = 10 ∨ K = 11 ∨ K = 12) → ¬ P (K, s, j)) (hp : ∃ π, PmR τ' (2 + p) π) : HiP τ' ps p := by
  obtain ⟨⟨h1, h2, h3, h4⟩, h5, h6⟩ := h
  refine ⟨⟨h1, by rw [(hm.2 _ h8).1]; exact h2, by rw [(hm.2 _ h8).1]; exact h3, h4⟩, fun s s1 s2 => ?_, fun j b hj => ?_⟩
  · by_cases hs : s = 2 + p
    · subst hs; exact hp
    · obtain ⟨π, hπ⟩ := h5 s s1 s2
      exact ⟨π, hπ.same hm (hP 10 s 0 s1 hs (by omega))⟩
  · have hj8 := (List.getElem?_eq_some_iff.mp hj).1
    exact (h6 j b hj).same hm (fun K jj hK => hP K _ jj (by omega) (by omega) hK)
section C7
variable {l : Launch} {G : GG} {τ : Mem} {a π : Nat → Nat} {ps : List (Nat → Nat)} {p : Nat}
theorem c_prepare (hc : Ctx l G) (hS : ShP τ 0 a π) (hH : HiP τ ps p) (h10 : a 4 ≤ 10) (h1 : ∀ i, i < 10 → it a i 1 ≤ 1) : Sat l G iX5_prepare [hiM, shM] τ (voidP (fun τ' => ShR τ' (2 + p) a ∧ ShP τ' 0 a π ∧ HiP τ' ps p ∧ Same (shN (2 + p)) τ τ')) := by
  obtain ⟨p1, p2, p3, p4⟩ := hH.1
  obtain ⟨π2, hT⟩ := hH.2.1 (2 + p) (by omega) (by omega)
  have ix : (nI p).toNatClampNeg = p := ixL (by omega)
  have vx : vp_in (nI p) 9 = True := vpL (by omega) (by omega)
  have ep : p + 2 = 2 + p := Nat.add_comm _ _
  refine Sat_of hc.1 hc.2 (by decide +kernel) (Nat.le_of_ble_eq_true rfl) (fun x hB hno => ?_)
  refine V_run hB (rt := none) (nL := 2) (mc := 0) rfl rfl rfl obX5_prepare_0 ?_
  dsimp only [bX5_prepare_0, ↓wpb, ↓wp1, ↓vI, ↓vL, ↓vD, ↓ldI, ↓ldL, ↓ldD, ↓ldR, ↓k1, ↓k2, ↓kI, ↓kL, ↓kD, ↓kII, ↓kLL, ↓kDD, ↓kR, ↓kIR, ↓kLR, ↓kIIR, ↓kLIR, ↓kDIR, ↓kRIR, ↓kNN, ↓kE, ↓br, ↓bn, ↓rtI, ↓gfv, ↓zchk, lput, ldel, lbad, alA, acat, isRf, dom, dS, dJ, isO, aTy, aLen, elAV, elR, Nat.reduceBEq, Nat.reduceAdd, Bool.or, Bool.and, Nat.add_zero, Nat.zero_add]
  try simp only [Nat.reduceLT, Nat.reduceLeDiff, Nat.reduceEqDiff, true_and, and_true, and_self, Nat.zero_le, Nat.le_refl, true_or, or_true, Bool.false_eq_true, not_false_eq_true, Nat.reduceAdd, Nat.lt_add_one, Nat.zero_lt_one, nI_add, pk_mul, ixL, vpL, ne_eq, reduceIte, wI_sN, wL_sM, sN_same, sN_K, sN_2, sM_1, sM_same, sM_K, sM_s, uI_at, uN_at, enc_at, uI_enc, uI_uI, upM_s, upM_n, p2, ix, vx, ep]
  refine V_callV hB hno (c_shCopy hc (s := 2 + p) (s' := 0) (by omega) (by omega) (by omega) hS hT h10 h1) rfl (by decide +kernel) cvX5_25 ⟨(show 2 + p < 11 by omega), (by decide : (0 : Nat) < 1)⟩ npX9_copyFrom ⟨by decide, by decide⟩ (Nat.le_of_ble_eq_true rfl) (by decide) ?_ ?_
  rotate_left
  · intro E τ' hq; cases hq.1
  intro v t hq
  obtain ⟨e1, hSt, hm⟩ := hq
  cases e1
  show V x t 0 13 _ _
  refine V_run hB (rt := none) (nL := 2) (mc := 0) rfl rfl rfl obX5_prepare_13 ?_
  dsimp only [bX5_prepare_13, ↓wpb, ↓wp1, ↓vI, ↓vL, ↓vD, ↓ldI, ↓ldL, ↓ldD, ↓ldR, ↓k1, ↓k2, ↓kI, ↓kL, ↓kD, ↓kII, ↓kLL, ↓kDD, ↓kR, ↓kIR, ↓kLR, ↓kIIR, ↓kLIR, ↓kDIR, ↓kRIR, ↓kNN, ↓kE, ↓br, ↓bn, ↓rtI, ↓gfv, ↓zchk, lput, ldel, lbad, alA, acat, isRf, dom, dS, dJ, isO, aTy, aLen, elAV, elR, Nat.reduceBEq, Nat.reduceAdd, Bool.or, Bool.and, Nat.add_zero, Nat.zero_add]
  try simp only [Nat.reduceLT, Nat.reduceLeDiff, Nat.reduceEqDiff, true_and, and_true, and_self, Nat.zero_le, Nat.le_refl, true_or, or_true, Bool.false_eq_true, not_false_eq_true, Nat.reduceAdd, Nat.lt_add_one, Nat.zero_lt_one, nI_add, pk_mul, ixL, vpL, ne_eq, reduceIte, wI_sN, wL_sM, sN_same, sN_K, sN_2, sM_1, sM_same, sM_K, sM_s, uI_at, uN_at, enc_at, uI_enc, uI_uI, upM_s, upM_n]
  refine ⟨rfl, ⟨π2, hSt⟩, hS.same hm (fun K j _ q => by have := q.2; simp only at this; omega), hH.same hm (fun q => by have := q.1; simp only at this; omega) (fun K s j _ hs _ q => hs q.2) ⟨π2, hSt.pm⟩, hm⟩
theorem pushH (b : Nat → Nat) {ps : List (Nat → Nat)} (h : ps.length ≤ 8) : (pushL b ps).length = min (ps.length + 1) 8 := by
  rw [pushL_len b h]
  unfold pushN
  split <;> omega
theorem c_keep (hc : Ctx l G) {b : Nat → Nat} (hH : HiP τ ps p) (hS : ShR τ (2 + p) b) : Sat l G iX5_keepPrepared [hiM] τ (voidP (fun τ' => HiR τ' (pushL b ps) ∧ Same hiN τ τ')) := by
  obtain ⟨⟨p1, p2, p3, p4⟩, hT, hps⟩ := hH
  have er : nI (p + 1) - nI (p + 1) / nI 9 * nI 9 = nI ((p + 1) % 9) := pk_rem (by omega) (by omega) (by omega)
  refine Sat_of hc.1 hc.2 (by decide +kernel) (Nat.le_of_ble_eq_true rfl) (fun x hB hno => ?_)
  refine V_run hB (rt := none) (nL := 1) (mc := 0) rfl rfl rfl obX5_keepPrepared_0 ?_
  dsimp only [bX5_keepPrepared_0, ↓wpb, ↓wp1, ↓vI, ↓vL, ↓vD, ↓ldI, ↓ldL, ↓ldD, ↓ldR, ↓k1, ↓k2, ↓kI, ↓kL, ↓kD, ↓kII, ↓kLL, ↓kDD, ↓kR, ↓kIR, ↓kLR, ↓kIIR, ↓kLIR, ↓kDIR, ↓kRIR, ↓kNN, ↓kE, ↓br, ↓bn, ↓rtI, ↓gfv, ↓zchk, lput, ldel, lbad, alA, acat, isRf, dom, dS, dJ, isO, aTy, aLen, elAV, elR, Nat.reduceBEq, Nat.reduceAdd, Bool.or, Bool.and, Nat.add_zero, Nat.zero_add]
  try simp only [Nat.reduceLT, Nat.reduceLeDiff, Nat.reduceEqDiff, true_and, and_true, and_self, Nat.zero_le, Nat.le_refl, true_or, or_true, Bool.false_eq_true, not_false_eq_true, Nat.reduceAdd, Nat.lt_add_one, Nat.zero_lt_one, nI_add, pk_mul, ixL, vpL, ne_eq, reduceIte, wI_sN, wL_sM, sN_same, sN_K, sN_2, sM_1, sM_same, sM_K, sM_s, uI_at, uN_at, enc_at, uI_enc, uI_uI, upM_s, upM_n, p2, p3, er, uI_at]
  refine ⟨by decide, ?_⟩
  refine V_cS hB hno (q_min hc _ (a := ps.length + 1) (b := 8) (by omega) (by omega)) rfl (by decide +kernel) csX5_29 npJ9_min_7cf53 ⟨by decide, by decide⟩ (Nat.le_of_ble_eq_true rfl) (n' := 0) (by decide) rfl ?_
  refine V_run hB (rt := none) (nL := 1) (mc := 0) rfl rfl rfl obX5_keepPrepared_25 ?_
  dsimp only [bX5_keepPrepared_25, ↓wpb, ↓wp1, ↓vI, ↓vL, ↓vD, ↓ldI, ↓ldL, ↓ldD, ↓ldR, ↓k1, ↓k2, ↓kI, ↓kL, ↓kD, ↓kII, ↓kLL, ↓kDD, ↓kR, ↓kIR, ↓kLR, ↓kIIR, ↓kLIR, ↓kDIR, ↓kRIR, ↓kNN, ↓kE, ↓br, ↓bn, ↓rtI, ↓gfv, ↓zchk, lput, ldel, lbad, alA, acat, isRf, dom, dS, dJ, isO, aTy, aLen, elAV, elR, Nat.reduceBEq, Nat.reduceAdd, Bool.or, Bool.and, Nat.add_zero, Nat.zero_add]
  try simp only [Nat.reduceLT, Nat.reduceLeDiff, Nat.reduceEqDiff, true_and, and_true, and_self, Nat.zero_le, Nat.le_refl, true_or, or_true, Bool.false_eq_true, not_false_eq_true, Nat.reduceAdd, Nat.lt_add_one, Nat.zero_lt_one, nI_add, pk_mul, ixL, vpL, ne_eq, reduceIte, wI_sN, wL_sM, sN_same, sN_K, sN_2, sM_1, sM_same, sM_K, sM_s, uI_at, uN_at, enc_at, uI_enc, uI_uI, upM_s, upM_n, sN_sN]
  rw [← pushH b p4]
  have hm : ∀ F, Same hiN τ (sN τ (8, 0, 0) F) := fun F => (Same.refl hiN τ).sN F rfl
  refine ⟨rfl, ⟨(p + 1) % 9, ⟨by omega, ?_, ?_, pushL_le _ _⟩, fun s s1 s2 => ?_, fun j c hj => ?_⟩, hm _⟩
  · rw [sN_same]; rfl
  · rw [sN_same]; rfl
  · obtain ⟨π, hπ⟩ := hT s s1 s2
    exact ⟨π, hπ.same (hm _) (fun q => by injection q with q1 q2; cases q1)⟩
  · have hS1 : ShR (sN τ (8, 0, 0) (uI (uI (τ.1 (8, 0, 0)) 1 (nI ((p + 1) % 9))) 2 (nI (pushL b ps).length))) (2 + (((p + 1) % 9) + 8 - j) % 9) c := by
      have hno : ∀ s K j, (K = 2 ∨ K = 3 ∨ K = 4 ∨ K = 5 ∨ K = 10 ∨ K = 11 ∨ K = 12) → ¬ hiN (K, s, j) := fun s K j hK q => by injection q with q1 q2; omega
      cases j with
      | zero =>
        have hj : b = c := by simpa [pushL] using hj
        subst hj
        rw [show ((p + 1) % 9 + 8 - 0) % 9 = p by omega]
        exact hS.same (hm _) (hno _)
      | succ j =>
        have hj : (ps.take 7)[j]? = some c := by simpa [pushL] using hj
        have hj7 : j < 7 ∧ j < ps.length := by
          have := (List.getElem?_eq_some_iff.mp hj).1
          rw [List.length_take] at this
          omega
        have hj2 : ps[j]? = some c := by rw [List.getElem?_take] at hj; rwa [if_pos hj7.1] at hj
        rw [show ((p + 1) % 9 + 8 - (j + 1)) % 9 = (p + 8 - j) % 9 by omega]
        exact (hps j c hj2).same (hm _) (hno _)
    exact hS1
theorem c_bring (hc : Ctx l G) {b : Nat → Nat} (hT : ∃ π, PmR τ 0 π) (hH : HiP τ ps p) (hS : ShR τ (2 + p) b) (h10 : b 4 ≤ 10) (h1 : ∀ i, i < 10 → it b i 1 ≤ 1) : Sat l G iX5_bringPreparedTo [hiM, shM] τ (voidP (fun τ' => ShR τ' 0 b ∧ Same (shN 0) τ τ')) := by
  obtain ⟨p1, p2, p3, p4⟩ := hH.1
  obtain ⟨π0, hT⟩ := hT
  obtain ⟨π2, hS⟩ := hS
  have ix : (nI p).toNatClampNeg = p := ixL (by omega)
  have vx : vp_in (nI p) 9 = True := vpL (by omega) (by omega)
  have ep : p + 2 = 2 + p := Nat.add_comm _ _
  refine Sat_of hc.1 hc.2 (by decide +kernel) (Nat.le_of_ble_eq_true rfl) (fun x hB hno => ?_)
  refine V_run hB (rt := none) (nL := 2) (mc := 0) rfl rfl rfl obX5_bringPreparedTo_0 ?_
  dsimp only [bX5_bringPreparedTo_0, ↓wpb, ↓wp1, ↓vI, ↓vL, ↓vD, ↓ldI, ↓ldL, ↓ldD, ↓ldR, ↓k1, ↓k2, ↓kI, ↓kL, ↓kD, ↓kII, ↓kLL, ↓kDD, ↓kR, ↓kIR, ↓kLR, ↓kIIR, ↓kLIR, ↓kDIR, ↓kRIR, ↓kNN, ↓kE, ↓br, ↓bn, ↓rtI, ↓gfv, ↓zchk, lput, ldel, lbad, alA, acat, isRf, dom, dS, dJ, isO, aTy, aLen, elAV, elR, Nat.reduceBEq, Nat.reduceAdd, Bool.or, Bool.and, Nat.add_zero, Nat.zero_add]
  try simp only [Nat.reduceLT, Nat.reduceLeDiff, Nat.reduceEqDiff, true_and, and_true, and_self, Nat.zero_le, Nat.le_refl, true_or, or_true, Bool.false_eq_true, not_false_eq_true, Nat.reduceAdd, Nat.lt_add_one, Nat.zero_lt_one, nI_add, pk_mul, ixL, vpL, ne_eq, reduceIte, wI_sN, wL_sM, sN_same, sN_K, sN_2, sM_1, sM_same, sM_K, sM_s, uI_at, uN_at, enc_at, uI_enc, uI_uI, upM_s, upM_n, p2, ix, vx, ep]
  refine V_callV hB hno (c_shCopy hc (s := 0) (s' := 2 + p) (by omega) (by omega) (by omega) hS hT h10 h1) rfl (by decide +kernel) cvX5_25 (dom1 rfl) npX9_copyFrom ⟨by decide, by decide⟩ (Nat.le_of_ble_eq_true rfl) (by decide) ?_ ?_
  rotate_left
  · intro E τ' hq; cases hq.1
  intro v t hq
  obtain ⟨e1, hSt, hm⟩ := hq
  cases e1
  show V x t 0 13 _ _
  refine V_run hB (rt := none) (nL := 2) (mc := 0) rfl rfl rfl obX5_bringPreparedTo_13 ?_
  dsimp only [bX5_bringPreparedTo_13, ↓wpb, ↓wp1, ↓vI, ↓vL, ↓vD, ↓ldI, ↓ldL, ↓ldD, ↓ldR, ↓k1, ↓k2, ↓kI, ↓kL, ↓kD, ↓kII, ↓kLL, ↓kDD, ↓kR, ↓kIR, ↓kLR, ↓kIIR, ↓kLIR, ↓kDIR, ↓kRIR, ↓kNN, ↓kE, ↓br, ↓bn, ↓rtI, ↓gfv, ↓zchk, lput, ldel, lbad, alA, acat, isRf, dom, dS, dJ, isO, aTy, aLen, elAV, elR, Nat.reduceBEq, Nat.reduceAdd, Bool.or, Bool.and, Nat.add_zero, Nat.zero_add]
  try simp only [Nat.reduceLT, Nat.reduceLeDiff, Nat.reduceEqDiff, true_and, and_true, and_self, Nat.zero_le, Nat.le_refl, true_or, or_true, Bool.false_eq_true, not_false_eq_true, Nat.reduceAdd, Nat.lt_add_one, Nat.zero_lt_one, nI_add, pk_mul, ixL, vpL, ne_eq, reduceIte, wI_sN, wL_sM, sN_same, sN_K, sN_2, sM_1, sM_same, sM_K, sM_s, uI_at, uN_at, enc_at, uI_enc, uI_uI, upM_s, upM_n]
  exact ⟨rfl, ⟨π0, hSt⟩, hm⟩
theorem c_back (hc : Ctx l G) {b : Nat → Nat} (hT : ∃ π, PmR τ 0 π) (hH : HiP τ (b :: ps) p) (h10 : b 4 ≤ 10) (h1 : ∀ i, i < 10 → it b i 1 ≤ 1) : Sat l G iX5_stepBack [hiM, shM] τ (voidP (fun τ' => ShR τ' 0 b ∧ HiR τ' ps ∧ Same (fun nm => shN 0 nm ∨ hiN nm) τ τ')) := by
  obtain ⟨⟨p1, p2, p3, p4⟩, hT2, hps⟩ := hH
  obtain ⟨π0, hT⟩ := hT
  obtain ⟨π2, hS⟩ := hps 0 b rfl
  have er : nI (p + 8) - nI (p + 8) / nI 9 * nI 9 = nI ((p + 8) % 9) := pk_rem (by omega) (by omega) (by omega)
  rw [List.length_cons] at p3 p4
  have es : nI (ps.length + 1) - nI 1 = nI ps.length := pk_sub (by omega)
  have hp9 : (p + 8) % 9 < 9 := by omega
  have ix : (nI ((p + 8) % 9)).toNatClampNeg = (p + 8) % 9 := ixL (by omega)
  have vx : vp_in (nI ((p + 8) % 9)) 9 = True := vpL (by omega) (by omega)
  have ep : (p + 8) % 9 + 2 = 2 + (p + 8) % 9 := Nat.add_comm _ _
  rw [Nat.sub_zero] at hS
  refine Sat_of hc.1 hc.2 (by decide +kernel) (Nat.le_of_ble_eq_true rfl) (fun x hB hno => ?_)
  refine V_run hB (rt := none) (nL := 2) (mc := 0) rfl rfl rfl obX5_stepBack_0 ?_
  dsimp only [bX5_stepBack_0, ↓wpb, ↓wp1, ↓vI, ↓vL, ↓vD, ↓ldI, ↓ldL, ↓ldD, ↓ldR, ↓k1, ↓k2, ↓kI, ↓kL, ↓kD, ↓kII, ↓kLL, ↓kDD, ↓kR, ↓kIR, ↓kLR, ↓kIIR, ↓kLIR, ↓kDIR, ↓kRIR, ↓kNN, ↓kE, ↓br, ↓bn, ↓rtI, ↓gfv, ↓zchk, lput, ldel, lbad, alA, acat, isRf, dom, dS, dJ, isO, aTy, aLen, elAV, elR, Nat.reduceBEq, Nat.reduceAdd, Bool.or, Bool.and, Nat.add_zero, Nat.zero_add]
  try simp only [Nat.reduceLT, Nat.reduceLeDiff, Nat.reduceEqDiff, true_and, and_true, and_self, Nat.zero_le, Nat.le_refl, true_or, or_true, Bool.false_eq_true, not_false_eq_true, Nat.reduceAdd, Nat.lt_add_one, Nat.zero_lt_one, nI_add, pk_mul, ixL, vpL, ne_eq, reduceIte, wI_sN, wL_sM, sN_same, sN_K, sN_2, sM_1, sM_same, sM_K, sM_s, uI_at, uN_at, enc_at, uI_enc, uI_uI, upM_s, upM_n, p2, p3, er, es, uI_at, ix, vx, ep, sN_sN]
  refine ⟨fun q => absurd q (nI_nle (by omega) (by omega)), fun _ => ⟨by decide, ?_⟩⟩
  have hm : ∀ F, Same hiN τ (sN τ (8, 0, 0) F) := fun F => (Same.refl hiN τ).sN F rfl
  have hnS : ∀ s K j, (K = 2 ∨ K = 3 ∨ K = 4 ∨ K = 5 ∨ K = 10 ∨ K = 11 ∨ K = 12) → ¬ hiN (K, s, j) := fun s K j hK q => by injection q with q1 q2; omega
  have r1 : (sN τ (8, 0, 0) (uI (uI (τ.1 (8, 0, 0)) 1 (nI ((p + 8) % 9))) 2 (nI ps.length))).1 (8, 0, 0) 1 = nI ((p + 8) % 9) := by rw [sN_same]; rfl
  have r2 : (sN τ (8, 0, 0) (uI (uI (τ.1 (8, 0, 0)) 1 (nI ((p + 8) % 9))) 2 (nI ps.length))).1 (8, 0, 0) 2 = nI ps.length := by rw [sN_same]; rfl
  have hm1 := hm (uI (uI (τ.1 (8, 0, 0)) 1 (nI ((p + 8) % 9))) 2 (nI ps.length))
  generalize sN τ (8, 0, 0) (uI (uI (τ.1 (8, 0, 0)) 1 (nI ((p + 8) % 9))) 2 (nI ps.length)) = t1 at *
  refine V_callV hB hno (c_shCopy hc (s := 0) (s' := 2 + (p + 8) % 9) (by omega) (by omega) (by omega) (hS.same hm1 (hnS _)) (hT.same hm1 (fun q => by injection q with q1 q2; cases q1)) h10 h1) rfl (by decide +kernel) cvX5_25 (dom1 rfl) npX9_copyFrom ⟨by decide, by decide⟩ (Nat.le_of_ble_eq_true rfl) (by decide) ?_ ?_
  rotate_left
  · intro E τ' hq; cases hq.1
  intro v t hq
  obtain ⟨e1, hSt, hm2⟩ := hq
  cases e1
  show V x t 0 44 _ _
  refine V_run hB (rt := none) (nL := 2) (mc := 0) rfl rfl rfl obX5_stepBack_44 ?_
  dsimp only [bX5_stepBack_44, ↓wpb, ↓wp1, ↓vI, ↓vL, ↓vD, ↓ldI, ↓ldL, ↓ldD, ↓ldR, ↓k1, ↓k2, ↓kI, ↓kL, ↓kD, ↓kII, ↓kLL, ↓kDD, ↓kR, ↓kIR, ↓kLR, ↓kIIR, ↓kLIR, ↓kDIR, ↓kRIR, ↓kNN, ↓kE, ↓br, ↓bn, ↓rtI, ↓gfv, ↓zchk, lput, ldel, lbad, alA, acat, isRf, dom, dS, dJ, isO, aTy, aLen, elAV, elR, Nat.reduceBEq, Nat.reduceAdd, Bool.or, Bool.and, Nat.add_zero, Nat.zero_add]
  try simp only [Nat.reduceLT, Nat.reduceLeDiff, Nat.reduceEqDiff, true_and, and_true, and_self, Nat.zero_le, Nat.le_refl, true_or, or_true, Bool.false_eq_true, not_false_eq_true, Nat.reduceAdd, Nat.lt_add_one, Nat.zero_lt_one, nI_add, pk_mul, ixL, vpL, ne_eq, reduceIte, wI_sN, wL_sM, sN_same, sN_K, sN_2, sM_1, sM_same, sM_K, sM_s, uI_at, uN_at, enc_at, uI_enc, uI_uI, upM_s, upM_n]
  have hno2 : ∀ s, 2 ≤ s → ∀ K j, ¬ shN 0 (K, s, j) := fun s hs K j q => by have := q.2; simp only at this; omega
  have n8 : ¬ shN 0 (8, 0, 0) := fun q => by have := q.1; simp only at this; omega
  refine ⟨rfl, ⟨π0, hSt⟩, ⟨(p + 8) % 9, ⟨hp9, ?_, ?_, by omega⟩, fun s s1 s2 => ?_, fun j c hj => ?_⟩, (hm1.mono (fun _ q => Or.inr q)).trans (hm2.mono (fun _ q => Or.inl q))⟩
  · rw [(hm2.2 _ n8).1]; exact r1
  · rw [(hm2.2 _ n8).1]; exact r2
  · obtain ⟨π, hπ⟩ := hT2 s s1 s2
    exact ⟨π, (hπ.same hm1 (fun q => by injection q with q1 q2; cases q1)).same hm2 (hno2 s s1 _ _)⟩
  · have hj8 := (List.getElem?_eq_some_iff.mp hj).1
    have h := hps (j + 1) c hj
    rw [show (p + 8 - (j + 1)) % 9 = ((p + 8) % 9 + 8 - j) % 9 by omega] at h
    exact (h.same hm1 (hnS _)).same hm2 (fun K jj _ => hno2 _ (by omega) K jj)
theorem c_forget (hc : Ctx l G) (hH : HiP τ ps p) : Sat l G iX5_forget [hiM] τ (voidP (fun τ' => HiR τ' [] ∧ Same hiN τ τ')) := by
  obtain ⟨⟨p1, p2, p3, p4⟩, hT2, hps⟩ := hH
  refine Sat_of hc.1 hc.2 (by decide +kernel) (Nat.le_of_ble_eq_true rfl) (fun x hB hno => ?_)
  refine V_run hB (rt := none) (nL := 1) (mc := 0) rfl rfl rfl obX5_forget_0 ?_
  dsimp only [bX5_forget_0, ↓wpb, ↓wp1, ↓vI, ↓vL, ↓vD, ↓ldI, ↓ldL, ↓ldD, ↓ldR, ↓k1, ↓k2, ↓kI, ↓kL, ↓kD, ↓kII, ↓kLL, ↓kDD, ↓kR, ↓kIR, ↓kLR, ↓kIIR, ↓kLIR, ↓kDIR, ↓kRIR, ↓kNN, ↓kE, ↓br, ↓bn, ↓rtI, ↓gfv, ↓zchk, lput, ldel, lbad, alA, acat, isRf, dom, dS, dJ, isO, aTy, aLen, elAV, elR, Nat.reduceBEq, Nat.reduceAdd, Bool.or, Bool.and, Nat.add_zero, Nat.zero_add]
  try simp only [Nat.reduceLT, Nat.reduceLeDiff, Nat.reduceEqDiff, true_and, and_true, and_self, Nat.zero_le, Nat.le_refl, true_or, or_true, Bool.false_eq_true, not_false_eq_true, Nat.reduceAdd, Nat.lt_add_one, Nat.zero_lt_one, nI_add, pk_mul, ixL, vpL, ne_eq, reduceIte, wI_sN, wL_sM, sN_same, sN_K, sN_2, sM_1, sM_same, sM_K, sM_s, uI_at, uN_at, enc_at, uI_enc, uI_uI, upM_s, upM_n]
  have hm : ∀ F, Same hiN τ (sN τ (8, 0, 0) F) := fun F => (Same.refl hiN τ).sN F rfl
  refine ⟨rfl, ⟨p, ⟨p1, ?_, ?_, Nat.zero_le _⟩, fun s s1 s2 => ?_, fun j c hj => (nomatch hj)⟩, hm _⟩
  · rw [sN_same]; exact p2
  · rw [sN_same]; rfl
  · obtain ⟨π, hπ⟩ := hT2 s s1 s2
    exact ⟨π, hπ.same (hm _) (fun q => by injection q with q1 q2; cases q1)⟩
end C7
