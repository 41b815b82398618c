/-! ===== the class: pledging, days, copies ===== -/
theorem I1.cp {f b f' b' : Nat → Int32} {t : Nat → Nat} (h : I1 f b t) (ef : ∀ k, k < 7 → f' k = f k) (eb : ∀ k, k < 5 → b' k = b k) : I1 f' b' t := by
  obtain ⟨⟨h0, h1, h2, h3, h4, h5, h6⟩, hb⟩ := h
  refine ⟨⟨?_, ?_, ?_, ?_, ?_, ?_, ?_⟩, fun q c hc => by rw [eb c hc]; exact hb q c hc⟩
  · rw [ef 0 (by omega)]; exact h0
  · rw [ef 1 (by omega)]; exact h1
  · rw [ef 2 (by omega)]; exact h2
  · rw [ef 3 (by omega)]; exact h3
  · rw [ef 4 (by omega)]; exact h4
  · rw [ef 5 (by omega)]; exact h5
  · rw [ef 6 (by omega)]; exact h6
section C5
variable {l : Launch} {G : GG} {τ : Mem} {a π : Nat → Nat} {n : Nat}
theorem c_take (hc : Ctx l G) (hS : ShP τ 0 a π) (hV : IV n a) (hn : n ≤ 1000) (p0 p1 p2 : Int32) : Sat l G iX9_takePledge [shM, aI p0, aI p1, aI p2] τ (OpC [IAE, ISE, UOE] (shN 0) τ (sPl a p0 p1 p2)) := by
  have h10 := hV.1.1
  have hb := hV.bd hn
  have b2 := hb 2
  have hz0 := inR_0 (p := p0) (h := 5) (by omega)
  have hz1 := inR_1 (p := p1) (lo := 1) (h := 240)
  have hz2 := inR_1 (p := p2) (lo := 1) (h := 60)
  have hp9 := hV.2.2.1.2
  have b8 := hV.2.2.2.2.2.2.2.2.2
  obtain ⟨⟨g2, g3, g5⟩, hca, hac, ⟨hpi, hinj, hit⟩⟩ := hS
  have hS : ShP τ 0 a π := ⟨⟨g2, g3, g5⟩, hca, hac, ⟨hpi, hinj, hit⟩⟩
  refine Sat_of hc.1 hc.2 (by decide +kernel) (Nat.le_of_ble_eq_true rfl) (fun x hB hno => ?_)
  have e33 : ¬ (inR p0 0 5 = true ∧ inR p1 1 240 = true ∧ inR p2 1 60 = true) → V x τ 0 33 [(0, shM), (1, aI p0), (2, aI p1), (3, aI p2)] [] := by
    intro hq
    have e : sPl a p0 p1 p2 = (1, 0, a) := if_neg hq
    rw [e] at hB
    refine V_throw hB hno thX9_82_84 ⟨by decide +kernel, by decide +kernel, by decide +kernel, by decide +kernel, by decide +kernel⟩ (by decide) (Nat.le_of_ble_eq_true rfl) ?_
    exact ⟨rfl, ⟨π, hS⟩, Same.refl _ _⟩
  refine V_run hB (rt := some .int) (nL := 6) (mc := 1) rfl rfl rfl (ops := [(0, .iload_n 1, 1, (1, 0, 0, 0, 0, 0), 0), (1, .ifCond .lt 32, 3, (33, 0, 0, 0, 0, 0), 0), (4, .iload_n 1, 1, (1, 0, 0, 0, 0, 0), 0), (5, .bipush 6, 2, (0, 0, 0, 0, 0, 0), nI 6), (7, .if_icmp .ge 26, 3, (33, 0, 0, 0, 0, 0), 0), (10, .iload_n 2, 1, (2, 0, 0, 0, 0, 0), 0), (11, .iconst 1, 1, (0, 0, 0, 0, 0, 0), nI 1), (12, .if_icmp .lt 21, 3, (33, 0, 0, 0, 0, 0), 0), (15, .iload_n 2, 1, (2, 0, 0, 0, 0, 0), 0), (16, .sipush 240, 3, (0, 0, 0, 0, 0, 0), nI 240), (19, .if_icmp .gt 14, 3, (33, 0, 0, 0, 0, 0), 0), (22, .iload_n 3, 1, (3, 0, 0, 0, 0, 0), 0), (23, .iconst 1, 1, (0, 0, 0, 0, 0, 0), nI 1), (24, .if_icmp .lt 9, 3, (33, 0, 0, 0, 0, 0), 0), (27, .iload_n 3, 1, (3, 0, 0, 0, 0, 0), 0), (28, .bipush 60, 2, (0, 0, 0, 0, 0, 0), nI 60), (30, .if_icmp .le 13, 3, (43, 0, 0, 0, 0, 0), 0)]) (by decide +kernel) ?_
  dsimp only [↓wpb, ↓wp1, ↓vI, ↓vL, ↓vD, ↓ldI, ↓ldL, ↓ldD, ↓ldR, ↓k1, ↓k2, ↓kI, ↓kL, ↓kD, ↓kII, ↓kLL, ↓kDD, ↓kR, ↓kIR, ↓kLR, ↓kIIR, ↓kLIR, ↓kDIR, ↓kRIR, ↓kNN, ↓kE, ↓br, ↓bn, ↓rtI, ↓gfv, ↓zchk, lput, ldel, lbad, alA, acat, isRf, dom, dS, dJ, isO, aTy, aLen, elAV, elR, Nat.reduceBEq, Nat.reduceAdd, Bool.or, Bool.and, Nat.add_zero, Nat.zero_add]
  try simp only [Nat.reduceLT, Nat.reduceLeDiff, Nat.reduceEqDiff, true_and, and_true, and_self, Nat.zero_le, Nat.le_refl, true_or, or_true, Bool.false_eq_true, not_false_eq_true, Nat.reduceAdd, Nat.lt_add_one, Nat.zero_lt_one, nI_add, pk_mul, ixL, vpL, ne_eq, reduceIte, wI_sN, wL_sM, sN_same, sN_K, sN_2, sM_1, sM_same, sM_K, sM_s, uI_at, uN_at, enc_at, uI_enc, uI_uI, upM_s, upM_n]
  refine ⟨fun q => e33 (fun z => (hz0.mp z.1).1 q), fun q1 => ⟨fun q => e33 (fun z => (hz0.mp z.1).2 q), fun q2 => ⟨fun q => e33 (fun z => (hz1.mp z.2.1).1 q), fun q3 => ⟨fun q => e33 (fun z => Int32.not_le.mpr q (hz1.mp z.2.1).2), fun q4 => ⟨fun q => e33 (fun z => (hz2.mp z.2.2).1 q), fun q5 => ⟨fun q6 => ?_, fun q => e33 (fun z => q (hz2.mp z.2.2).2)⟩⟩⟩⟩⟩⟩
  have hr0 := hz0.mpr ⟨q1, q2⟩
  have hr1 := hz1.mpr ⟨q3, Int32.not_lt.mp q4⟩
  have hr2 := hz2.mpr ⟨q5, q6⟩
  obtain ⟨C, rfl, -, C2⟩ := inR_N hr0 (by omega) (by omega)
  obtain ⟨M, rfl, M1, M2⟩ := inR_N hr1 (by omega) (by omega)
  obtain ⟨T, rfl, T1, T2⟩ := inR_N hr2 (by omega) (by omega)
  have e : sPl a (nI C) (nI M) (nI T) = (if a 4 = 10 then (2, 0, a) else if a 2 < M * a 1 then (3, 0, a) else (0, a 3, plA a C M T)) := by
    unfold sPl
    rw [if_pos ⟨hr0, hr1, hr2⟩, ixL (show C < 2147483648 by omega), ixL (show M < 2147483648 by omega), ixL (show T < 2147483648 by omega)]
  rw [e] at hB
  have hML : M * a 1 ≤ 2160 := Nat.le_trans (Nat.mul_le_mul M2 hp9) (by omega)
  refine V_run hB (rt := some .int) (nL := 6) (mc := 1) rfl rfl rfl obX9_takePledge_43 ?_
  dsimp only [bX9_takePledge_43, ↓wpb, ↓wp1, ↓vI, ↓vL, ↓vD, ↓ldI, ↓ldL, ↓ldD, ↓ldR, ↓k1, ↓k2, ↓kI, ↓kL, ↓kD, ↓kII, ↓kLL, ↓kDD, ↓kR, ↓kIR, ↓kLR, ↓kIIR, ↓kLIR, ↓kDIR, ↓kRIR, ↓kNN, ↓kE, ↓br, ↓bn, ↓rtI, ↓gfv, ↓zchk, lput, ldel, lbad, alA, acat, isRf, dom, dS, dJ, isO, aTy, aLen, elAV, elR, Nat.reduceBEq, Nat.reduceAdd, Bool.or, Bool.and, Nat.add_zero, Nat.zero_add]
  try simp only [Nat.reduceLT, Nat.reduceLeDiff, Nat.reduceEqDiff, true_and, and_true, and_self, Nat.zero_le, Nat.le_refl, true_or, or_true, Bool.false_eq_true, not_false_eq_true, Nat.reduceAdd, Nat.lt_add_one, Nat.zero_lt_one, nI_add, pk_mul, ixL, vpL, ne_eq, reduceIte, wI_sN, wL_sM, sN_same, sN_K, sN_2, sM_1, sM_same, sM_K, sM_s, uI_at, uN_at, enc_at, uI_enc, uI_uI, upM_s, upM_n, g5]
  refine ⟨fun q => ?_, fun q => ?_⟩
  · rw [nI_ltI (by omega) (by omega)] at q
    rw [if_neg (by omega)] at hB
    refine V_run hB (rt := some .int) (nL := 6) (mc := 1) rfl rfl rfl obX9_takePledge_62 ?_
    dsimp only [bX9_takePledge_62, ↓wpb, ↓wp1, ↓vI, ↓vL, ↓vD, ↓ldI, ↓ldL, ↓ldD, ↓ldR, ↓k1, ↓k2, ↓kI, ↓kL, ↓kD, ↓kII, ↓kLL, ↓kDD, ↓kR, ↓kIR, ↓kLR, ↓kIIR, ↓kLIR, ↓kDIR, ↓kRIR, ↓kNN, ↓kE, ↓br, ↓bn, ↓rtI, ↓gfv, ↓zchk, lput, ldel, lbad, alA, acat, isRf, dom, dS, dJ, isO, aTy, aLen, elAV, elR, Nat.reduceBEq, Nat.reduceAdd, Bool.or, Bool.and, Nat.add_zero, Nat.zero_add]
    try simp only [Nat.reduceLT, Nat.reduceLeDiff, Nat.reduceEqDiff, true_and, and_true, and_self, Nat.zero_le, Nat.le_refl, true_or, or_true, Bool.false_eq_true, not_false_eq_true, Nat.reduceAdd, Nat.lt_add_one, Nat.zero_lt_one, nI_add, pk_mul, ixL, vpL, ne_eq, reduceIte, wI_sN, wL_sM, sN_same, sN_K, sN_2, sM_1, sM_same, sM_K, sM_s, uI_at, uN_at, enc_at, uI_enc, uI_uI, upM_s, upM_n, g2, hac.1.1]
    refine ⟨fun q => ?_, fun q => ?_⟩
    · rw [nI_leI (by omega) (by omega)] at q
      rw [if_neg (by omega)] at hB
      have ix : (nI (a 4)).toNatClampNeg = a 4 := ixL (by omega)
      have vx : vp_in (nI (a 4)) 10 = True := vpL (by omega) (by omega)
      obtain ⟨hp, rp⟩ := hpi (a 4) (by omega)
      have ip : (nI (π (a 4))).toNatClampNeg = π (a 4) := ixL (by omega)
      have gd := hca.1
      have k190 : ∀ t1, Same (fun nm => nm = (2, 0, 0) ∨ nm = (5, 0, π (a 4))) τ t1 → (t1.1 (2, 0, 0) 2 = nI (a 1) ∧ t1.1 (2, 0, 0) 3 = nI (a 3 + 1) ∧ t1.1 (2, 0, 0) 5 = nI (a 4 + 1)) →
          (t1.1 (5, 0, π (a 4)) 0 = nI (a 3) ∧ t1.1 (5, 0, π (a 4)) 1 = nI C ∧ t1.1 (5, 0, π (a 4)) 2 = nI M ∧ t1.1 (5, 0, π (a 4)) 3 = nI (M * a 1) ∧ t1.1 (5, 0, π (a 4)) 4 = nI (a 0) ∧ t1.1 (5, 0, π (a 4)) 5 = nI (a 0 + T) ∧ t1.1 (5, 0, π (a 4)) 6 = nI 0) →
          V x t1 0 190 [(0, shM), (1, aI (nI C)), (2, aI (nI M)), (3, aI (nI T)), (4, aI (nI (M * a 1))), (5, .inr (5, 0, π (a 4)))] [aI (nI M), aI (nI (M * a 1)), .inr (4, 0, 0)] := by
        intro t1 hm1 h2 h5
        have n4 := hm1.2 (4, 0, 0) (by rintro (z | z) <;> injection z with z1 z2 <;> cases z1)
        have n3 := (hm1.2 (3, 0, 0) (by rintro (z | z) <;> injection z with z1 z2 <;> cases z1)).1
        have n11 := (hm1.2 (11, 0, 0) (by rintro (z | z) <;> injection z with z1 z2 <;> cases z1)).1
        have n10 := (hm1.2 (10, 0, 0) (by rintro (z | z) <;> injection z with z1 z2 <;> cases z1)).1
        have n12 := fun j => (hm1.2 (12, 0, j) (by rintro (z | z) <;> injection z with z1 z2 <;> cases z1)).1
        have n5 := fun j (hj : j ≠ π (a 4)) => (hm1.2 (5, 0, j) (by
          rintro (z | z)
          · injection z with z1 z2; cases z1
          · injection z with z1 z2; injection z2 with z3 z4; exact hj z4)).1
        have lo : ∀ k, k < 16 → plA a C M T k = if k = 3 then a 3 + 1 else if k = 4 then a 4 + 1 else if k = 8 then a 8 + M else if k = 2 then a 2 - M * a 1 else a k := fun k hk => plA_lo hk
        refine V_callV hB hno (c_enterPledge hc (a' := plA a C M T) (hac.of n4.1 n4.2 rfl rfl rfl rfl rfl) (L := M * a 1) (m := M) (by omega) (by omega) (by omega) (by rw [lo 2 (by omega)]; rfl) (by rw [lo 5 (by omega)]; rfl) (by rw [lo 6 (by omega)]; rfl) (by rw [lo 7 (by omega)]; rfl) (by rw [lo 8 (by omega)]; rfl)) rfl (by decide +kernel) cvX9_113 (dom1 rfl) npX1_enterPledge ⟨by decide, by decide⟩ (Nat.le_of_ble_eq_true rfl) (by decide) ?_ ?_
        rotate_left
        · intro E τ' hq; cases hq.1
        intro v1 t2 hq
        obtain ⟨e1, hm2, hA2⟩ := hq
        cases e1
        show V x t2 0 193 _ _
        have q4 : ∀ K s j, K ≠ 4 → t2.1 (K, s, j) = t1.1 (K, s, j) := fun K s j hk => (hm2.2 (K, s, j) (fun z => hk (by injection z))).1
        refine V_run hB (rt := some .int) (nL := 6) (mc := 1) rfl rfl rfl obX9_takePledge_193 ?_
        dsimp only [bX9_takePledge_193, ↓wpb, ↓wp1, ↓vI, ↓vL, ↓vD, ↓ldI, ↓ldL, ↓ldD, ↓ldR, ↓k1, ↓k2, ↓kI, ↓kL, ↓kD, ↓kII, ↓kLL, ↓kDD, ↓kR, ↓kIR, ↓kLR, ↓kIIR, ↓kLIR, ↓kDIR, ↓kRIR, ↓kNN, ↓kE, ↓br, ↓bn, ↓rtI, ↓gfv, ↓zchk, lput, ldel, lbad, alA, acat, isRf, dom, dS, dJ, isO, aTy, aLen, elAV, elR, Nat.reduceBEq, Nat.reduceAdd, Bool.or, Bool.and, Nat.add_zero, Nat.zero_add]
        try simp only [Nat.reduceLT, Nat.reduceLeDiff, Nat.reduceEqDiff, true_and, and_true, and_self, Nat.zero_le, Nat.le_refl, true_or, or_true, Bool.false_eq_true, not_false_eq_true, Nat.reduceAdd, Nat.lt_add_one, Nat.zero_lt_one, nI_add, pk_mul, ixL, vpL, ne_eq, reduceIte, wI_sN, wL_sM, sN_same, sN_K, sN_2, sM_1, sM_same, sM_K, sM_s, uI_at, uN_at, enc_at, uI_enc, uI_uI, upM_s, upM_n, hp, q4, h5.1]
        refine ⟨rfl, (⟨π, ⟨?_, ?_, ?_⟩, ?_, hA2, ?_, hinj, ?_⟩ : ShR t2 0 (plA a C M T)), ?_⟩
        · rw [q4 _ _ _ (by decide), h2.1, lo 1 (by omega)]; rfl
        · rw [q4 _ _ _ (by decide), h2.2.1, lo 3 (by omega)]; rfl
        · rw [q4 _ _ _ (by decide), h2.2.2, lo 4 (by omega)]; rfl
        · refine hca.of ((q4 _ _ _ (by decide)).trans n3) ((q4 _ _ _ (by decide)).trans n11) (by rw [lo 0 (by omega)]; rfl) (fun w hw => ?_)
          rw [lo _ (by omega), if_neg (by omega), if_neg (by omega), if_neg (by omega), if_neg (by omega)]
        · intro i hi
          rw [q4 _ _ _ (by decide), n10]
          exact hpi i hi
        · intro i hi
          have hi : i < a 4 + 1 := by have hi2 : i < plA a C M T 4 := hi; rw [lo 4 (by omega)] at hi2; exact hi2
          by_cases hia : i = a 4
          · subst hia
            have E : ∀ c, c < 12 → it (plA a C M T) (a 4) c = if c = 0 then a 3 else if c = 2 then C else if c = 3 then M else if c = 4 then M * a 1 else if c = 5 then a 0 else if c = 6 then a 0 + T else 0 := fun c hcc => by rw [plA_it hcc, if_pos rfl]
            obtain ⟨y0, y1, y2, y3, y4, y5, y6⟩ := h5
            rw [q4 _ _ _ (by decide), q4 _ _ _ (by decide)]
            refine ⟨⟨?_, ?_, ?_, ?_, ?_, ?_, ?_⟩, fun q => ?_⟩
            · rw [y0, E _ (by omega)]; rfl
            · rw [y1, E _ (by omega)]; rfl
            · rw [y2, E _ (by omega)]; rfl
            · rw [y3, E _ (by omega)]; rfl
            · rw [y4, E _ (by omega)]; rfl
            · rw [y5, E _ (by omega)]; rfl
            · rw [y6, E _ (by omega)]; rfl
            · rw [E _ (by omega)] at q; cases q
          · refine (hit i (by omega)).of ?_ ?_ (fun c hcc => by rw [plA_it hcc, if_neg hia])
            · rw [q4 _ _ _ (by decide), n5 _ (fun z => hia (hinj _ _ (by omega) (by omega) z))]
            · rw [q4 _ _ _ (by decide), n12]
        · exact (hm1.mono (fun nm q => by
            rcases q with rfl | rfl
            · exact ⟨by decide, rfl⟩
            · exact shN5 0 _)).trans hm2.sh4
      refine V_run hB (rt := some .int) (nL := 6) (mc := 1) rfl rfl rfl (ops := [(92, .aload_n 0, 1, (0, 0, 0, 0, 0, 0), 0), (93, .getfield 34, 3, (2, 4, 2, 10, 0, 0), 0), (96, .aload_n 0, 1, (0, 0, 0, 0, 0, 0), 0), (97, .getfield 38, 3, (2, 5, 0, 0, 0, 0), 0), (100, .aaload, 1, (0, 0, 0, 0, 0, 0), 0), (101, .astore 5, 2, (5, 0, 0, 0, 0, 0), 0), (103, .aload_n 0, 1, (0, 0, 0, 0, 0, 0), 0), (104, .dup, 1, (0, 0, 0, 0, 0, 0), 0), (105, .getfield 38, 3, (2, 5, 0, 0, 0, 0), 0), (108, .iconst 1, 1, (0, 0, 0, 0, 0, 0), nI 1), (109, .iadd, 1, (0, 0, 0, 0, 0, 0), 0), (110, .putfield 38, 3, (2, 5, 0, 0, 0, 0), 0)]) (by decide +kernel) ?_
      dsimp only [↓wpb, ↓wp1, ↓vI, ↓vL, ↓vD, ↓ldI, ↓ldL, ↓ldD, ↓ldR, ↓k1, ↓k2, ↓kI, ↓kL, ↓kD, ↓kII, ↓kLL, ↓kDD, ↓kR, ↓kIR, ↓kLR, ↓kIIR, ↓kLIR, ↓kDIR, ↓kRIR, ↓kNN, ↓kE, ↓br, ↓bn, ↓rtI, ↓gfv, ↓zchk, lput, ldel, lbad, alA, acat, isRf, dom, dS, dJ, isO, aTy, aLen, elAV, elR, Nat.reduceBEq, Nat.reduceAdd, Bool.or, Bool.and, Nat.add_zero, Nat.zero_add]
      try simp only [Nat.reduceLT, Nat.reduceLeDiff, Nat.reduceEqDiff, true_and, and_true, and_self, Nat.zero_le, Nat.le_refl, true_or, or_true, Bool.false_eq_true, not_false_eq_true, Nat.reduceAdd, Nat.lt_add_one, Nat.zero_lt_one, nI_add, pk_mul, ixL, vpL, ne_eq, reduceIte, wI_sN, wL_sM, sN_same, sN_K, sN_2, sM_1, sM_same, sM_K, sM_s, uI_at, uN_at, enc_at, uI_enc, uI_uI, upM_s, upM_n, g5, g3, ix, vx, hp, rp, ip, gd, uI_at, sN_sN]
      refine V_run hB (rt := some .int) (nL := 6) (mc := 1) rfl rfl rfl (ops := [(113, .aload 5, 2, (5, 0, 0, 0, 0, 0), 0), (115, .aload_n 0, 1, (0, 0, 0, 0, 0, 0), 0), (116, .getfield 29, 3, (2, 3, 0, 0, 0, 0), 0), (119, .putfield 52, 3, (5, 0, 0, 0, 0, 0), 0), (122, .aload_n 0, 1, (0, 0, 0, 0, 0, 0), 0), (123, .dup, 1, (0, 0, 0, 0, 0, 0), 0), (124, .getfield 29, 3, (2, 3, 0, 0, 0, 0), 0), (127, .iconst 1, 1, (0, 0, 0, 0, 0, 0), nI 1), (128, .iadd, 1, (0, 0, 0, 0, 0, 0), 0), (129, .putfield 29, 3, (2, 3, 0, 0, 0, 0), 0)]) (by decide +kernel) ?_
      dsimp only [↓wpb, ↓wp1, ↓vI, ↓vL, ↓vD, ↓ldI, ↓ldL, ↓ldD, ↓ldR, ↓k1, ↓k2, ↓kI, ↓kL, ↓kD, ↓kII, ↓kLL, ↓kDD, ↓kR, ↓kIR, ↓kLR, ↓kIIR, ↓kLIR, ↓kDIR, ↓kRIR, ↓kNN, ↓kE, ↓br, ↓bn, ↓rtI, ↓gfv, ↓zchk, lput, ldel, lbad, alA, acat, isRf, dom, dS, dJ, isO, aTy, aLen, elAV, elR, Nat.reduceBEq, Nat.reduceAdd, Bool.or, Bool.and, Nat.add_zero, Nat.zero_add]
      try simp only [Nat.reduceLT, Nat.reduceLeDiff, Nat.reduceEqDiff, true_and, and_true, and_self, Nat.zero_le, Nat.le_refl, true_or, or_true, Bool.false_eq_true, not_false_eq_true, Nat.reduceAdd, Nat.lt_add_one, Nat.zero_lt_one, nI_add, pk_mul, ixL, vpL, ne_eq, reduceIte, wI_sN, wL_sM, sN_same, sN_K, sN_2, sM_1, sM_same, sM_K, sM_s, uI_at, uN_at, enc_at, uI_enc, uI_uI, upM_s, upM_n, g5, g3, ix, vx, hp, rp, ip, gd, uI_at, sN_sN]
      refine V_run hB (rt := some .int) (nL := 6) (mc := 1) rfl rfl rfl (ops := [(132, .aload 5, 2, (5, 0, 0, 0, 0, 0), 0), (134, .iload_n 1, 1, (1, 0, 0, 0, 0, 0), 0), (135, .putfield 98, 3, (5, 1, 0, 0, 0, 0), 0), (138, .aload 5, 2, (5, 0, 0, 0, 0, 0), 0), (140, .iload_n 2, 1, (2, 0, 0, 0, 0, 0), 0), (141, .putfield 101, 3, (5, 2, 0, 0, 0, 0), 0)]) (by decide +kernel) ?_
      dsimp only [↓wpb, ↓wp1, ↓vI, ↓vL, ↓vD, ↓ldI, ↓ldL, ↓ldD, ↓ldR, ↓k1, ↓k2, ↓kI, ↓kL, ↓kD, ↓kII, ↓kLL, ↓kDD, ↓kR, ↓kIR, ↓kLR, ↓kIIR, ↓kLIR, ↓kDIR, ↓kRIR, ↓kNN, ↓kE, ↓br, ↓bn, ↓rtI, ↓gfv, ↓zchk, lput, ldel, lbad, alA, acat, isRf, dom, dS, dJ, isO, aTy, aLen, elAV, elR, Nat.reduceBEq, Nat.reduceAdd, Bool.or, Bool.and, Nat.add_zero, Nat.zero_add]
      try simp only [Nat.reduceLT, Nat.reduceLeDiff, Nat.reduceEqDiff, true_and, and_true, and_self, Nat.zero_le, Nat.le_refl, true_or, or_true, Bool.false_eq_true, not_false_eq_true, Nat.reduceAdd, Nat.lt_add_one, Nat.zero_lt_one, nI_add, pk_mul, ixL, vpL, ne_eq, reduceIte, wI_sN, wL_sM, sN_same, sN_K, sN_2, sM_1, sM_same, sM_K, sM_s, uI_at, uN_at, enc_at, uI_enc, uI_uI, upM_s, upM_n, g5, g3, ix, vx, hp, rp, ip, gd, uI_at, sN_sN]
      refine V_run hB (rt := some .int) (nL := 6) (mc := 1) rfl rfl rfl (ops := [(144, .aload 5, 2, (5, 0, 0, 0, 0, 0), 0), (146, .iload 4, 2, (4, 0, 0, 0, 0, 0), 0), (148, .putfield 104, 3, (5, 3, 0, 0, 0, 0), 0), (151, .aload 5, 2, (5, 0, 0, 0, 0, 0), 0), (153, .aload_n 0, 1, (0, 0, 0, 0, 0, 0), 0), (154, .getfield 12, 3, (2, 0, 2, 3, 0, 0), 0), (157, .getfield 107, 3, (3, 0, 0, 0, 0, 0), 0), (160, .putfield 110, 3, (5, 4, 0, 0, 0, 0), 0)]) (by decide +kernel) ?_
      dsimp only [↓wpb, ↓wp1, ↓vI, ↓vL, ↓vD, ↓ldI, ↓ldL, ↓ldD, ↓ldR, ↓k1, ↓k2, ↓kI, ↓kL, ↓kD, ↓kII, ↓kLL, ↓kDD, ↓kR, ↓kIR, ↓kLR, ↓kIIR, ↓kLIR, ↓kDIR, ↓kRIR, ↓kNN, ↓kE, ↓br, ↓bn, ↓rtI, ↓gfv, ↓zchk, lput, ldel, lbad, alA, acat, isRf, dom, dS, dJ, isO, aTy, aLen, elAV, elR, Nat.reduceBEq, Nat.reduceAdd, Bool.or, Bool.and, Nat.add_zero, Nat.zero_add]
      try simp only [Nat.reduceLT, Nat.reduceLeDiff, Nat.reduceEqDiff, true_and, and_true, and_self, Nat.zero_le, Nat.le_refl, true_or, or_true, Bool.false_eq_true, not_false_eq_true, Nat.reduceAdd, Nat.lt_add_one, Nat.zero_lt_one, nI_add, pk_mul, ixL, vpL, ne_eq, reduceIte, wI_sN, wL_sM, sN_same, sN_K, sN_2, sM_1, sM_same, sM_K, sM_s, uI_at, uN_at, enc_at, uI_enc, uI_uI, upM_s, upM_n, g5, g3, ix, vx, hp, rp, ip, gd, uI_at, sN_sN]
      refine V_run hB (rt := some .int) (nL := 6) (mc := 1) rfl rfl rfl (ops := [(163, .aload 5, 2, (5, 0, 0, 0, 0, 0), 0), (165, .aload_n 0, 1, (0, 0, 0, 0, 0, 0), 0), (166, .getfield 12, 3, (2, 0, 2, 3, 0, 0), 0), (169, .getfield 107, 3, (3, 0, 0, 0, 0, 0), 0), (172, .iload_n 3, 1, (3, 0, 0, 0, 0, 0), 0), (173, .iadd, 1, (0, 0, 0, 0, 0, 0), 0), (174, .putfield 77, 3, (5, 5, 0, 0, 0, 0), 0)]) (by decide +kernel) ?_
      dsimp only [↓wpb, ↓wp1, ↓vI, ↓vL, ↓vD, ↓ldI, ↓ldL, ↓ldD, ↓ldR, ↓k1, ↓k2, ↓kI, ↓kL, ↓kD, ↓kII, ↓kLL, ↓kDD, ↓kR, ↓kIR, ↓kLR, ↓kIIR, ↓kLIR, ↓kDIR, ↓kRIR, ↓kNN, ↓kE, ↓br, ↓bn, ↓rtI, ↓gfv, ↓zchk, lput, ldel, lbad, alA, acat, isRf, dom, dS, dJ, isO, aTy, aLen, elAV, elR, Nat.reduceBEq, Nat.reduceAdd, Bool.or, Bool.and, Nat.add_zero, Nat.zero_add]
      try simp only [Nat.reduceLT, Nat.reduceLeDiff, Nat.reduceEqDiff, true_and, and_true, and_self, Nat.zero_le, Nat.le_refl, true_or, or_true, Bool.false_eq_true, not_false_eq_true, Nat.reduceAdd, Nat.lt_add_one, Nat.zero_lt_one, nI_add, pk_mul, ixL, vpL, ne_eq, reduceIte, wI_sN, wL_sM, sN_same, sN_K, sN_2, sM_1, sM_same, sM_K, sM_s, uI_at, uN_at, enc_at, uI_enc, uI_uI, upM_s, upM_n, g5, g3, ix, vx, hp, rp, ip, gd, uI_at, sN_sN]
      refine V_run hB (rt := some .int) (nL := 6) (mc := 1) rfl rfl rfl (ops := [(177, .aload 5, 2, (5, 0, 0, 0, 0, 0), 0), (179, .iconst 0, 1, (0, 0, 0, 0, 0, 0), nI 0), (180, .putfield 66, 3, (5, 6, 3, 0, 0, 0), 0), (183, .aload_n 0, 1, (0, 0, 0, 0, 0, 0), 0), (184, .getfield 21, 3, (2, 1, 2, 4, 0, 0), 0), (187, .iload 4, 2, (4, 0, 0, 0, 0, 0), 0), (189, .iload_n 2, 1, (2, 0, 0, 0, 0, 0), 0)]) (by decide +kernel) ?_
      dsimp only [↓wpb, ↓wp1, ↓vI, ↓vL, ↓vD, ↓ldI, ↓ldL, ↓ldD, ↓ldR, ↓k1, ↓k2, ↓kI, ↓kL, ↓kD, ↓kII, ↓kLL, ↓kDD, ↓kR, ↓kIR, ↓kLR, ↓kIIR, ↓kLIR, ↓kDIR, ↓kRIR, ↓kNN, ↓kE, ↓br, ↓bn, ↓rtI, ↓gfv, ↓zchk, lput, ldel, lbad, alA, acat, isRf, dom, dS, dJ, isO, aTy, aLen, elAV, elR, Nat.reduceBEq, Nat.reduceAdd, Bool.or, Bool.and, Nat.add_zero, Nat.zero_add]
      try simp only [Nat.reduceLT, Nat.reduceLeDiff, Nat.reduceEqDiff, true_and, and_true, and_self, Nat.zero_le, Nat.le_refl, true_or, or_true, Bool.false_eq_true, not_false_eq_true, Nat.reduceAdd, Nat.lt_add_one, Nat.zero_lt_one, nI_add, pk_mul, ixL, vpL, ne_eq, reduceIte, wI_sN, wL_sM, sN_same, sN_K, sN_2, sM_1, sM_same, sM_K, sM_s, uI_at, uN_at, enc_at, uI_enc, uI_uI, upM_s, upM_n, g5, g3, ix, vx, hp, rp, ip, gd, uI_at, sN_sN]
      refine ⟨by decide, ?_⟩
      refine k190 _ ?_ ?_ ?_
      · repeat' first | exact Same.refl _ _ | refine Same.sN ?_ _ (Or.inl rfl) | refine Same.sN ?_ _ (Or.inr rfl)
      · refine ⟨?_, ?_, ?_⟩ <;> simp only [sN_K, sN_same, ne_eq, Nat.reduceEqDiff, not_false_eq_true, uI, if_false, if_true]
        exact g2
      · refine ⟨?_, ?_, ?_, ?_, ?_, ?_, ?_⟩ <;> simp only [sN_K, sN_same, ne_eq, Nat.reduceEqDiff, not_false_eq_true, uI, if_false, if_true]
    · rw [nI_leI (by omega) (by omega)] at q
      rw [if_pos (by omega)] at hB
      refine V_throw hB hno thX9_95_97 ⟨by decide +kernel, by decide +kernel, by decide +kernel, by decide +kernel, by decide +kernel⟩ (by decide) (Nat.le_of_ble_eq_true rfl) ?_
      exact ⟨rfl, ⟨π, hS⟩, Same.refl _ _⟩
  · rw [nI_ltI (by omega) (by omega)] at q
    rw [if_pos (by omega)] at hB
    refine V_throw hB hno thX9_87_89 ⟨by decide +kernel, by decide +kernel, by decide +kernel, by decide +kernel, by decide +kernel⟩ (by decide) (Nat.le_of_ble_eq_true rfl) ?_
    exact ⟨rfl, ⟨π, hS⟩, Same.refl _ _⟩
theorem c_forfeit (hc : Ctx l G) {b : Nat → Nat} (hS : ShP τ 0 b π) (hV : ITS (b 0) (b 3) (b 4) (it b) ∨ ITS (b 0 - 1) (b 3) (b 4) (it b)) (hbd : ∀ k, b k < 1073000000) : Sat l G iX9_forfeitOverdue [shM] τ (intP (nI (fA b (b 4)).2) (fun τ' => ShP τ' 0 (fA b (b 4)).1 π ∧ Same (shN 0) τ τ')) := by
  have h10 : b 4 ≤ 10 := by rcases hV with h | h <;> exact h.1
  have hB1 : ∀ i, i < 10 → it b i 1 ≤ 1 ∧ it b i 3 ≤ 240 ∧ (it b i 1 = 0 → ∀ c, c < 5 → it b i (7 + c) = 0) := by
    intro i hi
    rcases hV with h | h
    · have := h.2.1 i hi; exact ⟨this.1, this.2.2.1, this.2.2.2.2.2.2.2⟩
    · have := h.2.1 i hi; exact ⟨this.1, this.2.2.1, this.2.2.2.2.2.2.2⟩
  have hfb := fun k => fA_bd (a := b) (fun j hj => (hB1 j hj).2.1) k
  refine Sat_of hc.1 hc.2 (by decide +kernel) (Nat.le_of_ble_eq_true rfl) (fun x hB hno => ?_)
  have loop : ∀ w k t al, k + w = b 4 → ShP t 0 (fA b k).1 π → Same (shN 0) τ t → (∀ z ∈ [(0, shM), (1, aI (nI (fA b k).2)), (2, aI (nI k))], lk al z.1 = some z.2) → V x t 0 4 al [] := by
    intro w
    induction w with
    | zero =>
      intro k t al hk hS hm hal
      refine V.sub ?_ hal
      have hk : k = b 4 := by omega
      subst hk
      have g5 := hS.1.2.2
      rw [(hfb (b 4) h10).1] at g5
      refine V_run hB (rt := some .int) (nL := 3) (mc := 0) rfl rfl rfl obX9_forfeitOverdue_4 ?_
      dsimp only [bX9_forfeitOverdue_4, ↓wpb, ↓wp1, ↓vI, ↓vL, ↓vD, ↓ldI, ↓ldL, ↓ldD, ↓ldR, ↓k1, ↓k2, ↓kI, ↓kL, ↓kD, ↓kII, ↓kLL, ↓kDD, ↓kR, ↓kIR, ↓kLR, ↓kIIR, ↓kLIR, ↓kDIR, ↓kRIR, ↓kNN, ↓kE, ↓br, ↓bn, ↓rtI, ↓gfv, ↓zchk, lput, ldel, lbad, alA, acat, isRf, dom, dS, dJ, isO, aTy, aLen, elAV, elR, Nat.reduceBEq, Nat.reduceAdd, Bool.or, Bool.and, Nat.add_zero, Nat.zero_add]
      try simp only [Nat.reduceLT, Nat.reduceLeDiff, Nat.reduceEqDiff, true_and, and_true, and_self, Nat.zero_le, Nat.le_refl, true_or, or_true, Bool.false_eq_true, not_false_eq_true, Nat.reduceAdd, Nat.lt_add_one, Nat.zero_lt_one, nI_add, pk_mul, ixL, vpL, ne_eq, reduceIte, wI_sN, wL_sM, sN_same, sN_K, sN_2, sM_1, sM_same, sM_K, sM_s, uI_at, uN_at, enc_at, uI_enc, uI_uI, upM_s, upM_n, g5]
      refine ⟨fun _ => ?_, fun q => absurd (nI_le (by omega) (by omega)) q⟩
      refine V_run hB (rt := some .int) (nL := 3) (mc := 0) rfl rfl rfl obX9_forfeitOverdue_96 ?_
      dsimp only [bX9_forfeitOverdue_96, ↓wpb, ↓wp1, ↓vI, ↓vL, ↓vD, ↓ldI, ↓ldL, ↓ldD, ↓ldR, ↓k1, ↓k2, ↓kI, ↓kL, ↓kD, ↓kII, ↓kLL, ↓kDD, ↓kR, ↓kIR, ↓kLR, ↓kIIR, ↓kLIR, ↓kDIR, ↓kRIR, ↓kNN, ↓kE, ↓br, ↓bn, ↓rtI, ↓gfv, ↓zchk, lput, ldel, lbad, alA, acat, isRf, dom, dS, dJ, isO, aTy, aLen, elAV, elR, Nat.reduceBEq, Nat.reduceAdd, Bool.or, Bool.and, Nat.add_zero, Nat.zero_add]
      try simp only [Nat.reduceLT, Nat.reduceLeDiff, Nat.reduceEqDiff, true_and, and_true, and_self, Nat.zero_le, Nat.le_refl, true_or, or_true, Bool.false_eq_true, not_false_eq_true, Nat.reduceAdd, Nat.lt_add_one, Nat.zero_lt_one, nI_add, pk_mul, ixL, vpL, ne_eq, reduceIte, wI_sN, wL_sM, sN_same, sN_K, sN_2, sM_1, sM_same, sM_K, sM_s, uI_at, uN_at, enc_at, uI_enc, uI_uI, upM_s, upM_n]
      exact ⟨rfl, hS, hm⟩
    | succ w ih =>
      intro k t al hk hS hm hal
      refine V.sub ?_ hal
      obtain ⟨y4, y0, y3, y6, yk, y2⟩ := hfb k (by omega)
      obtain ⟨z1, z2, z3⟩ := fA_it b k (by omega)
      have hu : fA b (k + 1) = if isLot (fA b k).1 k = true ∨ (fA b k).1 0 ≤ it (fA b k).1 k 6 then fA b k else (uN (uN (fA b k).1 (16 + 12 * k + 1) 1) 6 ((fA b k).1 6 + it (fA b k).1 k 3), (fA b k).2 + 1) := rfl
      have ih' := fun t => ih (k + 1) t
      rw [hu] at ih'
      have hk10 : k < 10 := by omega
      have w1 : it (fA b k).1 k 1 = it b k 1 := by rw [z3 k (by omega) 1 (by omega), if_neg (by omega)]
      have w6 : it (fA b k).1 k 6 = it b k 6 := by rw [z3 k (by omega) 6 (by omega), if_neg (by omega)]
      have w3 : it (fA b k).1 k 3 = it b k 3 := by rw [z3 k (by omega) 3 (by omega), if_neg (by omega)]
      have w7 : ∀ c, c < 5 → it (fA b k).1 k (7 + c) = it b k (7 + c) := fun c hc => by rw [z3 k (by omega) (7 + c) (by omega), if_neg (by omega)]
      have g5 := hS.1.2.2
      have gd := hS.2.1.1
      have ga := hS.2.2.1.1.2.2.1
      rw [y4] at g5
      have hb0 := hbd 0
      have hb6 : it b k 6 < 1073000000 := hbd _
      have hsi : k < (fA b k).1 4 := by omega
      generalize fA b k = F at *
      obtain ⟨f, N⟩ := F
      simp only at *
      have ix : (nI k).toNatClampNeg = k := ixL (by omega)
      have vx : vp_in (nI k) 10 = True := vpL (by omega) (by omega)
      obtain ⟨hp, rp⟩ := hS.2.2.2.1 k (by omega)
      have ip : (nI (π k)).toNatClampNeg = π k := ixL (by omega)
      obtain ⟨⟨f0, f1, f2, f3, f4, f5, f6⟩, fb⟩ := hS.2.2.2.2.2 k hsi
      have k90 : isLot f k = true ∨ f 0 ≤ it f k 6 → V x t 0 90 [(0, shM), (1, aI (nI N)), (2, aI (nI k))] [] := by
        intro hq
        rw [if_pos hq] at ih'
        refine V_run hB (rt := some .int) (nL := 3) (mc := 0) rfl rfl rfl obX9_forfeitOverdue_90 ?_
        dsimp only [bX9_forfeitOverdue_90, ↓wpb, ↓wp1, ↓vI, ↓vL, ↓vD, ↓ldI, ↓ldL, ↓ldD, ↓ldR, ↓k1, ↓k2, ↓kI, ↓kL, ↓kD, ↓kII, ↓kLL, ↓kDD, ↓kR, ↓kIR, ↓kLR, ↓kIIR, ↓kLIR, ↓kDIR, ↓kRIR, ↓kNN, ↓kE, ↓br, ↓bn, ↓rtI, ↓gfv, ↓zchk, lput, ldel, lbad, alA, acat, isRf, dom, dS, dJ, isO, aTy, aLen, elAV, elR, Nat.reduceBEq, Nat.reduceAdd, Bool.or, Bool.and, Nat.add_zero, Nat.zero_add]
        try simp only [Nat.reduceLT, Nat.reduceLeDiff, Nat.reduceEqDiff, true_and, and_true, and_self, Nat.zero_le, Nat.le_refl, true_or, or_true, Bool.false_eq_true, not_false_eq_true, Nat.reduceAdd, Nat.lt_add_one, Nat.zero_lt_one, nI_add, pk_mul, ixL, vpL, ne_eq, reduceIte, wI_sN, wL_sM, sN_same, sN_K, sN_2, sM_1, sM_same, sM_K, sM_s, uI_at, uN_at, enc_at, uI_enc, uI_uI, upM_s, upM_n]
        exact ih' t _ (by omega) hS hm (List.forall_mem_cons.mpr ⟨rfl, List.forall_mem_cons.mpr ⟨rfl, List.forall_mem_cons.mpr ⟨rfl, fun _ h => absurd h List.not_mem_nil⟩⟩⟩)
      have hl01 : it f k 1 ≤ 1 := by rw [w1]; exact (hB1 k hk10).1
      refine V_run hB (rt := some .int) (nL := 3) (mc := 0) rfl rfl rfl obX9_forfeitOverdue_4 ?_
      dsimp only [bX9_forfeitOverdue_4, ↓wpb, ↓wp1, ↓vI, ↓vL, ↓vD, ↓ldI, ↓ldL, ↓ldD, ↓ldR, ↓k1, ↓k2, ↓kI, ↓kL, ↓kD, ↓kII, ↓kLL, ↓kDD, ↓kR, ↓kIR, ↓kLR, ↓kIIR, ↓kLIR, ↓kDIR, ↓kRIR, ↓kNN, ↓kE, ↓br, ↓bn, ↓rtI, ↓gfv, ↓zchk, lput, ldel, lbad, alA, acat, isRf, dom, dS, dJ, isO, aTy, aLen, elAV, elR, Nat.reduceBEq, Nat.reduceAdd, Bool.or, Bool.and, Nat.add_zero, Nat.zero_add]
      try simp only [Nat.reduceLT, Nat.reduceLeDiff, Nat.reduceEqDiff, true_and, and_true, and_self, Nat.zero_le, Nat.le_refl, true_or, or_true, Bool.false_eq_true, not_false_eq_true, Nat.reduceAdd, Nat.lt_add_one, Nat.zero_lt_one, nI_add, pk_mul, ixL, vpL, ne_eq, reduceIte, wI_sN, wL_sM, sN_same, sN_K, sN_2, sM_1, sM_same, sM_K, sM_s, uI_at, uN_at, enc_at, uI_enc, uI_uI, upM_s, upM_n, g5, ix, vx, hp, rp, ip, f0, f1, f2, f3, f4, f5, f6, gd, lot_0 hl01]
      rw [nI_leI (a := f 0) (b := it f k 6) (by omega) (by omega)]
      refine ⟨fun q => absurd q (nI_ge (by omega) (by omega)), fun _ => ⟨fun q => k90 (Or.inl (by simpa using q)), fun q1 => ⟨fun q => k90 (Or.inr q), fun q2 => ?_⟩⟩⟩
      have hcnd : ¬ (isLot f k = true ∨ f 0 ≤ it f k 6) := fun z => z.elim (fun z => by rw [q1] at z; cases z) q2
      rw [if_neg hcnd] at ih'
      have hlk : it f k 1 = 0 := by
        have : it f k 1 ≠ 1 := fun z => by unfold isLot at q1; rw [z] at q1; cases q1
        omega
      have hz7 := (hB1 k hk10).2.2 (by rw [← w1]; exact hlk)
      refine ⟨by decide, ?_⟩
      refine V_cSv hB hno (q_fill hc _ (K := 12) (s := 0) (j := π k) (N := 5) (by decide) hp rfl rfl rfl (by omega) (nI 0)) rfl (by decide +kernel) csX9_145 npJ7_fill_53178 ⟨by decide, by decide⟩ (Nat.le_of_ble_eq_true rfl) (n' := 0) (by decide) rfl ?_
      have k66 : ∀ t1, Same (fun nm => nm = (5, 0, π k) ∨ nm = (12, 0, π k)) t t1 → (∀ c, c ≠ 6 → t1.1 (5, 0, π k) c = t.1 (5, 0, π k) c) → t1.1 (5, 0, π k) 6 = nI 1 → (∀ c, c < 5 → t1.1 (12, 0, π k) c = nI 0) → V x t1 0 66 [(0, shM), (1, aI (nI N)), (2, aI (nI k))] [] := by
        intro t1 hm1 h5 h6 h12
        have nK : ∀ K s j, K ≠ 5 → K ≠ 12 → t1.1 (K, s, j) = t.1 (K, s, j) ∧ t1.2.1 (K, s, j) = t.2.1 (K, s, j) := fun K s j h1 h2 => hm1.2 (K, s, j) (by rintro (z | z) <;> injection z with z1 z2; exact h1 z1; exact h2 z1)
        have n5 := fun j (hj : j ≠ π k) => (hm1.2 (5, 0, j) (by
          rintro (z | z)
          · injection z with z1 z2; injection z2 with z3 z4; exact hj z4
          · injection z with z1 z2; cases z1)).1
        have n12 := fun j (hj : j ≠ π k) => (hm1.2 (12, 0, j) (by
          rintro (z | z)
          · injection z with z1 z2; cases z1
          · injection z with z1 z2; injection z2 with z3 z4; exact hj z4)).1
        have rp1 := rp
        rw [← (nK 10 0 0 (by decide) (by decide)).1] at rp1
        have ga1 := ga
        rw [← (nK 4 0 0 (by decide) (by decide)).1] at ga1
        have f21 := (h5 2 (by decide)).trans f2
        refine V_run hB (rt := some .int) (nL := 3) (mc := 0) rfl rfl rfl obX9_forfeitOverdue_66 ?_
        dsimp only [bX9_forfeitOverdue_66, ↓wpb, ↓wp1, ↓vI, ↓vL, ↓vD, ↓ldI, ↓ldL, ↓ldD, ↓ldR, ↓k1, ↓k2, ↓kI, ↓kL, ↓kD, ↓kII, ↓kLL, ↓kDD, ↓kR, ↓kIR, ↓kLR, ↓kIIR, ↓kLIR, ↓kDIR, ↓kRIR, ↓kNN, ↓kE, ↓br, ↓bn, ↓rtI, ↓gfv, ↓zchk, lput, ldel, lbad, alA, acat, isRf, dom, dS, dJ, isO, aTy, aLen, elAV, elR, Nat.reduceBEq, Nat.reduceAdd, Bool.or, Bool.and, Nat.add_zero, Nat.zero_add]
        try simp only [Nat.reduceLT, Nat.reduceLeDiff, Nat.reduceEqDiff, true_and, and_true, and_self, Nat.zero_le, Nat.le_refl, true_or, or_true, Bool.false_eq_true, not_false_eq_true, Nat.reduceAdd, Nat.lt_add_one, Nat.zero_lt_one, nI_add, pk_mul, ixL, vpL, ne_eq, reduceIte, wI_sN, wL_sM, sN_same, sN_K, sN_2, sM_1, sM_same, sM_K, sM_s, uI_at, uN_at, enc_at, uI_enc, uI_uI, upM_s, upM_n, ix, vx, hp, rp1, ip, f21, ga1]
        refine ih' _ _ (by omega) ?_ ?_ (List.forall_mem_cons.mpr ⟨rfl, List.forall_mem_cons.mpr ⟨rfl, List.forall_mem_cons.mpr ⟨rfl, fun _ h => absurd h List.not_mem_nil⟩⟩⟩)
        · obtain ⟨⟨s2, s3, s5⟩, sca, sac, spi, sinj, sit⟩ := hS
          have lo : ∀ c, c < 16 → c ≠ 6 → (uN (uN f (16 + 12 * k + 1) 1) 6 (f 6 + it f k 3)) c = f c := fun c hcc h6 => by simp only [uN]; rw [if_neg h6, if_neg (by omega)]
          have Q4 : ∀ K s j (F : Nat → Int32), K ≠ 4 → (sN t1 (4, 0, 0) F).1 (K, s, j) = t1.1 (K, s, j) := fun K s j F hk => sN_K hk
          show ShP _ 0 (uN (uN f (16 + 12 * k + 1) 1) 6 (f 6 + it f k 3)) π
          refine ⟨⟨?_, ?_, ?_⟩, ?_, ?_, ?_, sinj, ?_⟩
          · rw [Q4 _ _ _ _ (by decide), (nK 2 0 0 (by decide) (by decide)).1, lo 1 (by omega) (by omega)]; exact s2
          · rw [Q4 _ _ _ _ (by decide), (nK 2 0 0 (by decide) (by decide)).1, lo 3 (by omega) (by omega)]; exact s3
          · rw [Q4 _ _ _ _ (by decide), (nK 2 0 0 (by decide) (by decide)).1, lo 4 (by omega) (by omega)]; exact s5
          · exact sca.of (by rw [Q4 _ _ _ _ (by decide), (nK 3 0 0 (by decide) (by decide)).1]) (by rw [Q4 _ _ _ _ (by decide), (nK 11 0 0 (by decide) (by decide)).1]) (lo 0 (by omega) (by omega)) (fun w hw => lo _ (by omega) (by omega))
          · have sac1 := sac.of (nK 4 0 0 (by decide) (by decide)).1 (nK 4 0 0 (by decide) (by decide)).2 (a' := f) rfl rfl rfl rfl rfl
            obtain ⟨⟨A0, A6, A7, A8⟩, A5, As⟩ := sac1
            refine ⟨⟨?_, ?_, ?_, ?_⟩, ?_, ?_⟩
            · rw [sN_same, lo 2 (by omega) (by omega)]; exact A0
            · rw [sN_same, lo 5 (by omega) (by omega)]; exact A6
            · rw [sN_same]; rfl
            · rw [sN_same, lo 7 (by omega) (by omega)]; exact A8
            · rw [sN_2, lo 8 (by omega) (by omega)]; exact A5
            · rw [sN_same, lo 2 (by omega) (by omega)]; exact As
          · intro i hi
            rw [Q4 _ _ _ _ (by decide), (nK 10 0 0 (by decide) (by decide)).1]
            exact spi i hi
          · intro i hi
            have hi : i < f 4 := by rw [lo 4 (by omega) (by omega)] at hi; exact hi
            rw [Q4 _ _ _ _ (by decide), Q4 _ _ _ _ (by decide)]
            by_cases hik : i = k
            · subst hik
              have E : ∀ c, c < 12 → it (uN (uN f (16 + 12 * i + 1) 1) 6 (f 6 + it f i 3)) i c = if c = 1 then 1 else it f i c := fun c hcc => by
                rw [it_lo (by omega), it_hi (by omega) hcc]
                simp only [true_and]
              refine ⟨⟨?_, ?_, ?_, ?_, ?_, ?_, ?_⟩, fun q c hcc => ?_⟩
              · rw [h5 0 (by decide), f0, E _ (by omega), if_neg (by omega)]
              · rw [h5 1 (by decide), f1, E _ (by omega), if_neg (by omega)]
              · rw [h5 2 (by decide), f2, E _ (by omega), if_neg (by omega)]
              · rw [h5 3 (by decide), f3, E _ (by omega), if_neg (by omega)]
              · rw [h5 4 (by decide), f4, E _ (by omega), if_neg (by omega)]
              · rw [h5 5 (by decide), f5, E _ (by omega), if_neg (by omega)]
              · rw [h6, E _ (by omega), if_pos rfl]
              · rw [h12 c hcc, E _ (by omega), if_neg (by omega), w7 c hcc, hz7 c hcc]
            · refine (sit i hi).of (n5 _ (fun z => hik (sinj _ _ (by omega) (by omega) z))) (n12 _ (fun z => hik (sinj _ _ (by omega) (by omega) z))) (fun c hcc => ?_)
              rw [it_lo (by omega), it_hi (by omega) hcc, if_neg (fun z => hik z.1)]
        · exact (hm.trans (hm1.mono (fun nm q => by
          rcases q with rfl | rfl
          · exact shN5 0 _
          · exact shN12 0 _))).sN _ ⟨by decide, rfl⟩
      refine k66 _ ?_ ?_ ?_ ?_
      · repeat' first | exact Same.refl _ _ | refine Same.sN ?_ _ (Or.inl rfl) | refine Same.sN ?_ _ (Or.inr rfl)
      · intro c hcc
        rw [sN_K (by decide), sN_same]
        simp only [uI]
        rw [if_neg hcc]
      · rw [sN_K (by decide), sN_same]; rfl
      · intro c hcc
        rw [sN_same]
        unfold flR
        rw [if_pos ⟨Nat.zero_le _, hcc⟩]
  refine V_run hB (rt := some .int) (nL := 3) (mc := 0) rfl rfl rfl obX9_forfeitOverdue_0 ?_
  dsimp only [bX9_forfeitOverdue_0, ↓wpb, ↓wp1, ↓vI, ↓vL, ↓vD, ↓ldI, ↓ldL, ↓ldD, ↓ldR, ↓k1, ↓k2, ↓kI, ↓kL, ↓kD, ↓kII, ↓kLL, ↓kDD, ↓kR, ↓kIR, ↓kLR, ↓kIIR, ↓kLIR, ↓kDIR, ↓kRIR, ↓kNN, ↓kE, ↓br, ↓bn, ↓rtI, ↓gfv, ↓zchk, lput, ldel, lbad, alA, acat, isRf, dom, dS, dJ, isO, aTy, aLen, elAV, elR, Nat.reduceBEq, Nat.reduceAdd, Bool.or, Bool.and, Nat.add_zero, Nat.zero_add]
  try simp only [Nat.reduceLT, Nat.reduceLeDiff, Nat.reduceEqDiff, true_and, and_true, and_self, Nat.zero_le, Nat.le_refl, true_or, or_true, Bool.false_eq_true, not_false_eq_true, Nat.reduceAdd, Nat.lt_add_one, Nat.zero_lt_one, nI_add, pk_mul, ixL, vpL, ne_eq, reduceIte, wI_sN, wL_sM, sN_same, sN_K, sN_2, sM_1, sM_same, sM_K, sM_s, uI_at, uN_at, enc_at, uI_enc, uI_uI, upM_s, upM_n]
  exact loop (b 4) 0 τ _ (by omega) hS (Same.refl _ _) (List.forall_mem_cons.mpr ⟨rfl, List.forall_mem_cons.mpr ⟨rfl, List.forall_mem_cons.mpr ⟨rfl, fun _ h => absurd h List.not_mem_nil⟩⟩⟩)
theorem c_days (hc : Ctx l G) (hS : ShP τ 0 a π) (hV : IV n a) (hn : n ≤ 1000) (p : Int32) : Sat l G iX9_letDaysPass [shM, aI p] τ (OpC [IAE] (shN 0) τ (sPas a p)) := by
  have h10 := hV.1.1
  have hz := inR_1 (p := p) (lo := 1) (h := 90)
  have hbA := fun d => pA_bd (a := a) hV.min h10 d
  have hIA := fun d => IV_pA hV d
  refine Sat_of hc.1 hc.2 (by decide +kernel) (Nat.le_of_ble_eq_true rfl) (fun x hB hno => ?_)
  have e11 : ¬ inR p 1 90 = true → V x τ 0 11 [(0, shM), (1, aI p)] [] := by
    intro hq
    have e : sPas a p = (1, 0, a) := if_neg hq
    rw [e] at hB
    refine V_throw hB hno thX9_132_84 ⟨by decide +kernel, by decide +kernel, by decide +kernel, by decide +kernel, by decide +kernel⟩ (by decide) (Nat.le_of_ble_eq_true rfl) ?_
    exact ⟨rfl, ⟨π, hS⟩, Same.refl _ _⟩
  refine V_run hB (rt := some .int) (nL := 4) (mc := 1) rfl rfl rfl (ops := [(0, .iload_n 1, 1, (1, 0, 0, 0, 0, 0), 0), (1, .iconst 1, 1, (0, 0, 0, 0, 0, 0), nI 1), (2, .if_icmp .lt 9, 3, (11, 0, 0, 0, 0, 0), 0), (5, .iload_n 1, 1, (1, 0, 0, 0, 0, 0), 0), (6, .bipush 90, 2, (0, 0, 0, 0, 0, 0), nI 90), (8, .if_icmp .le 13, 3, (21, 0, 0, 0, 0, 0), 0)]) (by decide +kernel) ?_
  dsimp only [↓wpb, ↓wp1, ↓vI, ↓vL, ↓vD, ↓ldI, ↓ldL, ↓ldD, ↓ldR, ↓k1, ↓k2, ↓kI, ↓kL, ↓kD, ↓kII, ↓kLL, ↓kDD, ↓kR, ↓kIR, ↓kLR, ↓kIIR, ↓kLIR, ↓kDIR, ↓kRIR, ↓kNN, ↓kE, ↓br, ↓bn, ↓rtI, ↓gfv, ↓zchk, lput, ldel, lbad, alA, acat, isRf, dom, dS, dJ, isO, aTy, aLen, elAV, elR, Nat.reduceBEq, Nat.reduceAdd, Bool.or, Bool.and, Nat.add_zero, Nat.zero_add]
  try simp only [Nat.reduceLT, Nat.reduceLeDiff, Nat.reduceEqDiff, true_and, and_true, and_self, Nat.zero_le, Nat.le_refl, true_or, or_true, Bool.false_eq_true, not_false_eq_true, Nat.reduceAdd, Nat.lt_add_one, Nat.zero_lt_one, nI_add, pk_mul, ixL, vpL, ne_eq, reduceIte, wI_sN, wL_sM, sN_same, sN_K, sN_2, sM_1, sM_same, sM_K, sM_s, uI_at, uN_at, enc_at, uI_enc, uI_uI, upM_s, upM_n]
  refine ⟨fun q => e11 (fun z => (hz.mp z).1 q), fun q1 => ⟨fun q2 => ?_, fun q2 => e11 (fun z => q2 (hz.mp z).2)⟩⟩
  have hr := hz.mpr ⟨q1, q2⟩
  obtain ⟨D, rfl, D1, D2⟩ := inR_N hr (by omega) (by omega)
  have e : sPas a (nI D) = (0, (pA a D).2, (pA a D).1) := by unfold sPas; rw [if_pos hr, ixL (by omega)]
  rw [e] at hB
  have loop : ∀ w d t, d + w = D → ShP t 0 (pA a d).1 π → Same (shN 0) τ t → V x t 0 25 [(0, shM), (1, aI (nI D)), (2, aI (nI (pA a d).2)), (3, aI (nI d))] [] := by
    intro w
    induction w with
    | zero =>
      intro d t hd hS hm
      have hd : d = D := by omega
      subst hd
      refine V_run hB (rt := some .int) (nL := 4) (mc := 1) rfl rfl rfl obX9_letDaysPass_25 ?_
      dsimp only [bX9_letDaysPass_25, ↓wpb, ↓wp1, ↓vI, ↓vL, ↓vD, ↓ldI, ↓ldL, ↓ldD, ↓ldR, ↓k1, ↓k2, ↓kI, ↓kL, ↓kD, ↓kII, ↓kLL, ↓kDD, ↓kR, ↓kIR, ↓kLR, ↓kIIR, ↓kLIR, ↓kDIR, ↓kRIR, ↓kNN, ↓kE, ↓br, ↓bn, ↓rtI, ↓gfv, ↓zchk, lput, ldel, lbad, alA, acat, isRf, dom, dS, dJ, isO, aTy, aLen, elAV, elR, Nat.reduceBEq, Nat.reduceAdd, Bool.or, Bool.and, Nat.add_zero, Nat.zero_add]
      try simp only [Nat.reduceLT, Nat.reduceLeDiff, Nat.reduceEqDiff, true_and, and_true, and_self, Nat.zero_le, Nat.le_refl, true_or, or_true, Bool.false_eq_true, not_false_eq_true, Nat.reduceAdd, Nat.lt_add_one, Nat.zero_lt_one, nI_add, pk_mul, ixL, vpL, ne_eq, reduceIte, wI_sN, wL_sM, sN_same, sN_K, sN_2, sM_1, sM_same, sM_K, sM_s, uI_at, uN_at, enc_at, uI_enc, uI_uI, upM_s, upM_n]
      refine ⟨fun _ => ?_, fun q => absurd (nI_le (by omega) (by omega)) q⟩
      refine V_run hB (rt := some .int) (nL := 4) (mc := 1) rfl rfl rfl obX9_letDaysPass_56 ?_
      dsimp only [bX9_letDaysPass_56, ↓wpb, ↓wp1, ↓vI, ↓vL, ↓vD, ↓ldI, ↓ldL, ↓ldD, ↓ldR, ↓k1, ↓k2, ↓kI, ↓kL, ↓kD, ↓kII, ↓kLL, ↓kDD, ↓kR, ↓kIR, ↓kLR, ↓kIIR, ↓kLIR, ↓kDIR, ↓kRIR, ↓kNN, ↓kE, ↓br, ↓bn, ↓rtI, ↓gfv, ↓zchk, lput, ldel, lbad, alA, acat, isRf, dom, dS, dJ, isO, aTy, aLen, elAV, elR, Nat.reduceBEq, Nat.reduceAdd, Bool.or, Bool.and, Nat.add_zero, Nat.zero_add]
      try simp only [Nat.reduceLT, Nat.reduceLeDiff, Nat.reduceEqDiff, true_and, and_true, and_self, Nat.zero_le, Nat.le_refl, true_or, or_true, Bool.false_eq_true, not_false_eq_true, Nat.reduceAdd, Nat.lt_add_one, Nat.zero_lt_one, nI_add, pk_mul, ixL, vpL, ne_eq, reduceIte, wI_sN, wL_sM, sN_same, sN_K, sN_2, sM_1, sM_same, sM_K, sM_s, uI_at, uN_at, enc_at, uI_enc, uI_uI, upM_s, upM_n]
      exact ⟨rfl, ⟨π, hS⟩, hm⟩
    | succ w ih =>
      intro d t hd hS hm
      have hu : pA a (d + 1) = ((fA (uN (pA a d).1 0 ((pA a d).1 0 + 1)) (a 4)).1, (pA a d).2 + (fA (uN (pA a d).1 0 ((pA a d).1 0 + 1)) (a 4)).2) := rfl
      have ih' := fun t => ih (d + 1) t (by omega)
      rw [hu] at ih'
      obtain ⟨b4, b0, b3, b6, bk, b2⟩ := hbA d
      obtain ⟨i1, i2, i3⟩ := hIA d
      have hb := hV.bd hn
      have hb0 := hb 0
      have hb6 := hb 6
      generalize pA a d = F at *
      obtain ⟨f, N⟩ := F
      simp only at *
      have gd := hS.2.1.1
      refine V_run hB (rt := some .int) (nL := 4) (mc := 1) rfl rfl rfl obX9_letDaysPass_25 ?_
      dsimp only [bX9_letDaysPass_25, ↓wpb, ↓wp1, ↓vI, ↓vL, ↓vD, ↓ldI, ↓ldL, ↓ldD, ↓ldR, ↓k1, ↓k2, ↓kI, ↓kL, ↓kD, ↓kII, ↓kLL, ↓kDD, ↓kR, ↓kIR, ↓kLR, ↓kIIR, ↓kLIR, ↓kDIR, ↓kRIR, ↓kNN, ↓kE, ↓br, ↓bn, ↓rtI, ↓gfv, ↓zchk, lput, ldel, lbad, alA, acat, isRf, dom, dS, dJ, isO, aTy, aLen, elAV, elR, Nat.reduceBEq, Nat.reduceAdd, Bool.or, Bool.and, Nat.add_zero, Nat.zero_add]
      try simp only [Nat.reduceLT, Nat.reduceLeDiff, Nat.reduceEqDiff, true_and, and_true, and_self, Nat.zero_le, Nat.le_refl, true_or, or_true, Bool.false_eq_true, not_false_eq_true, Nat.reduceAdd, Nat.lt_add_one, Nat.zero_lt_one, nI_add, pk_mul, ixL, vpL, ne_eq, reduceIte, wI_sN, wL_sM, sN_same, sN_K, sN_2, sM_1, sM_same, sM_K, sM_s, uI_at, uN_at, enc_at, uI_enc, uI_uI, upM_s, upM_n, gd]
      refine ⟨fun q => absurd q (nI_ge (by omega) (by omega)), fun _ => ?_⟩
      have hS1 : ShP (sN t (3, 0, 0) (uI (t.1 (3, 0, 0)) 0 (nI (f 0 + 1)))) 0 (uN f 0 (f 0 + 1)) π := by
        obtain ⟨⟨s2, s3, s5⟩, sca, sac, spi, sinj, sit⟩ := hS
        refine ⟨⟨?_, ?_, ?_⟩, ⟨?_, fun w hw => ?_⟩, sac.of (sN_K (by decide)) rfl rfl rfl rfl rfl rfl, ?_, sinj, fun i hi => ?_⟩
        · rw [sN_K (by decide)]; exact s2
        · rw [sN_K (by decide)]; exact s3
        · rw [sN_K (by decide)]; exact s5
        · rw [sN_same]; rfl
        · rw [sN_K (by decide)]
          simp only [uN]
          rw [if_neg (by omega)]
          exact sca.2 w hw
        · intro i hi; rw [sN_K (by decide)]; exact spi i hi
        · exact (sit i hi).of (sN_K (by decide)) (sN_K (by decide)) (fun c hcc => it_lo (by omega))
      have e4 : (uN f 0 (f 0 + 1)) 4 = a 4 := by simp only [uN]; rw [if_neg (by omega)]; exact b4
      have hI1 : ITS (f 0 + 1 - 1) ((uN f 0 (f 0 + 1)) 3) ((uN f 0 (f 0 + 1)) 4) (it (uN f 0 (f 0 + 1))) := by
        rw [Nat.add_sub_cancel]
        exact ITS.of i1 (fun i hi c hcc => it_lo (by omega))
      have hbd1 : ∀ k, (uN f 0 (f 0 + 1)) k < 1073000000 := fun k => by
        simp only [uN]
        split
        · omega
        · rename_i h0
          by_cases h6 : k = 6
          · subst h6; omega
          · have := bk k h6 h0
            have := hb k
            omega
      refine V_callV hB hno (c_forfeit hc hS1 (Or.inr hI1) hbd1) rfl (by decide +kernel) cvX9_137 (dom1 rfl) npX9_forfeitOverdue ⟨by decide, by decide⟩ (Nat.le_of_ble_eq_true rfl) (by decide) ?_ ?_
      rotate_left
      · intro E τ' hq; cases hq.1
      intro v1 t2 hq
      obtain ⟨e1, hS2, hm2⟩ := hq
      cases e1
      show V x t2 0 48 _ [aI (nI (fA (uN f 0 (f 0 + 1)) (uN f 0 (f 0 + 1) 4)).2), aI (nI N)]
      rw [e4] at hS2 ⊢
      refine V_run hB (rt := some .int) (nL := 4) (mc := 1) rfl rfl rfl obX9_letDaysPass_48 ?_
      dsimp only [bX9_letDaysPass_48, ↓wpb, ↓wp1, ↓vI, ↓vL, ↓vD, ↓ldI, ↓ldL, ↓ldD, ↓ldR, ↓k1, ↓k2, ↓kI, ↓kL, ↓kD, ↓kII, ↓kLL, ↓kDD, ↓kR, ↓kIR, ↓kLR, ↓kIIR, ↓kLIR, ↓kDIR, ↓kRIR, ↓kNN, ↓kE, ↓br, ↓bn, ↓rtI, ↓gfv, ↓zchk, lput, ldel, lbad, alA, acat, isRf, dom, dS, dJ, isO, aTy, aLen, elAV, elR, Nat.reduceBEq, Nat.reduceAdd, Bool.or, Bool.and, Nat.add_zero, Nat.zero_add]
      try simp only [Nat.reduceLT, Nat.reduceLeDiff, Nat.reduceEqDiff, true_and, and_true, and_self, Nat.zero_le, Nat.le_refl, true_or, or_true, Bool.false_eq_true, not_false_eq_true, Nat.reduceAdd, Nat.lt_add_one, Nat.zero_lt_one, nI_add, pk_mul, ixL, vpL, ne_eq, reduceIte, wI_sN, wL_sM, sN_same, sN_K, sN_2, sM_1, sM_same, sM_K, sM_s, uI_at, uN_at, enc_at, uI_enc, uI_uI, upM_s, upM_n]
      exact ih' t2 hS2 ((hm.sN _ ⟨by decide, rfl⟩).trans hm2)
  refine V_run hB (rt := some .int) (nL := 4) (mc := 1) rfl rfl rfl obX9_letDaysPass_21 ?_
  dsimp only [bX9_letDaysPass_21, ↓wpb, ↓wp1, ↓vI, ↓vL, ↓vD, ↓ldI, ↓ldL, ↓ldD, ↓ldR, ↓k1, ↓k2, ↓kI, ↓kL, ↓kD, ↓kII, ↓kLL, ↓kDD, ↓kR, ↓kIR, ↓kLR, ↓kIIR, ↓kLIR, ↓kDIR, ↓kRIR, ↓kNN, ↓kE, ↓br, ↓bn, ↓rtI, ↓gfv, ↓zchk, lput, ldel, lbad, alA, acat, isRf, dom, dS, dJ, isO, aTy, aLen, elAV, elR, Nat.reduceBEq, Nat.reduceAdd, Bool.or, Bool.and, Nat.add_zero, Nat.zero_add]
  try simp only [Nat.reduceLT, Nat.reduceLeDiff, Nat.reduceEqDiff, true_and, and_true, and_self, Nat.zero_le, Nat.le_refl, true_or, or_true, Bool.false_eq_true, not_false_eq_true, Nat.reduceAdd, Nat.lt_add_one, Nat.zero_lt_one, nI_add, pk_mul, ixL, vpL, ne_eq, reduceIte, wI_sN, wL_sM, sN_same, sN_K, sN_2, sM_1, sM_same, sM_K, sM_s, uI_at, uN_at, enc_at, uI_enc, uI_uI, upM_s, upM_n]
  exact loop D 0 τ (by omega) hS (Same.refl _ _)
end C5
