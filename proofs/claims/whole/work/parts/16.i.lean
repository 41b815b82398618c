/-! ===== the class: a text executed ===== -/
/-- the call of succeeds, in execute (a method with handlers: its walk is a row of its own) -/
def SucH (l : Launch) (G : GG) : Prop := ∀ (x : Cx) (Φ : AOut → Mem → Prop), Bd x l G iX10_execute Φ → NoH x → ∀ (τ : Mem) (a π : Nat → Nat) (n k w j : Nat) (al : Al) (r : List AV), ShP τ 0 a π → IV n a → n ≤ 1000 → w < 9 → j < 9 → k + 12 ≤ 300 → acats r ≤ 2 →
  (∀ t, ShR t 0 (runS a w (τ.1 (29, 0, j) 0) (τ.1 (29, 0, j) 1) (τ.1 (29, 0, j) 2)).2.2 → Same seN τ t → V x t (k + 12) 87 al (aI (nI (if (runS a w (τ.1 (29, 0, j) 0) (τ.1 (29, 0, j) 1) (τ.1 (29, 0, j) 2)).1 = 0 then 1 else 0)) :: r)) → V x τ k 84 al (.inr (29, 0, j) :: .inr (60, w, 0) :: moM :: r)
theorem rn_cons (a : Nat → Nat) (m : Cmd) (L : List Cmd) : rn a (m :: L) = if (doS a m).1 = 0 then ((rn (doS a m).2.2 L).1, (rn (doS a m).2.2 L).2.1 + 1, (rn (doS a m).2.2 L).2.2) else ((doS a m).1, 1, (doS a m).2.2) := rfl
theorem TN_pg : TN pgN := by
  rintro nm (h | h | h)
  · exact Or.inl h
  · exact Or.inr (Or.inr (Or.inl h))
  · exact Or.inr (Or.inr (Or.inr h))
theorem cmdR_9 {T : List Nat} {h : Nat} : (cmdR T h).2.1.1 < 9 := by
  unfold cmdR
  split
  · show 0 < 9; omega
  · rename_i w q e
    exact wdR_lt e
theorem pgR_9 {T : List Nat} : ∀ f h, ∀ m ∈ (pgR T f h).2.1, m.1 < 9
  | 0, h, m, hm => by cases hm
  | f + 1, h, m, hm => by
    rw [pgR_s] at hm
    by_cases h1 : (cmdR T h).1 = true
    · rw [if_pos h1] at hm; cases hm
    · rw [if_neg h1] at hm
      by_cases h2 : T.length ≤ (cmdR T h).2.2
      · rw [if_pos h2] at hm
        rcases List.mem_cons.mp hm with rfl | z
        · exact cmdR_9
        · cases z
      · rw [if_neg h2] at hm
        by_cases h3 : T[(cmdR T h).2.2]? = some 59
        · rw [if_pos h3] at hm
          rcases List.mem_cons.mp hm with rfl | z
          · exact cmdR_9
          · exact pgR_9 f _ m z
        · rw [if_neg h3] at hm; cases hm
theorem pgR_8 {T : List Nat} (hl : T.length ≤ 60) : ∀ f h, h ≤ T.length → 7 * (pgR T f h).2.1.length ≤ T.length + 1 - h
  | 0, h, hh => Nat.zero_le _
  | f + 1, h, hh => by
    rw [pgR_s]
    by_cases h1 : (cmdR T h).1 = true
    · rw [if_pos h1]; exact Nat.zero_le _
    · rw [if_neg h1]
      have h4 := cmdR_len (bool_f h1)
      have h5 := cmdR_T (T := T) hh
      by_cases h2 : T.length ≤ (cmdR T h).2.2
      · rw [if_pos h2]; show 7 * 1 ≤ _; omega
      · rw [if_neg h2]
        by_cases h3 : T[(cmdR T h).2.2]? = some 59
        · rw [if_pos h3]
          have := pgR_8 hl f ((cmdR T h).2.2 + 1) (by omega)
          show 7 * ((pgR T f ((cmdR T h).2.2 + 1)).2.1.length + 1) ≤ _
          omega
        · rw [if_neg h3]; exact Nat.zero_le _
section C8
variable {l : Launch} {G : GG} {τ : Mem} {n : Nat} {σ : Sg}
theorem RW.ef {τ τ' : Mem} {ρ : Option (Nat → Nat) × (Option Nat × Option Nat) × List Nat × List Nat} {e f : Option Nat} (h : RW τ ρ) (hm : Same (fun nm => nm = (1, 0, 0)) τ τ') (h2 : τ'.1 (1, 0, 0) 2 = τ.1 (1, 0, 0) 2) (h8 : τ'.1 (1, 0, 0) 8 = oI e) (h9 : τ'.1 (1, 0, 0) 9 = oI f) : RW τ' (ρ.1, (e, f), ρ.2.2) := by
  obtain ⟨⟨⟨π, hπ⟩, s2, s3⟩, -, h3, h4⟩ := h
  have n1 : ∀ K s j, K ≠ 1 → ¬ ((K, s, j) = ((1, 0, 0) : Nm)) := fun K s j hK z => by injection z with z1 z2; exact hK z1
  refine ⟨⟨⟨π, hπ.same hm (n1 _ _ _ (by decide))⟩, h2.trans s2, fun s e => (s3 s e).same hm (fun K j hK => n1 K 1 j (by omega))⟩, ⟨h8, h9⟩, ?_, ?_⟩
  · exact h3.of (by rw [(hm.2 _ (n1 9 0 0 (by decide))).1]) (hm.2 _ (n1 26 0 0 (by decide))).1
  · unfold SlR; rw [hm.1]; exact h4
theorem x_execute (hc : CtxE l G) (hQ : SucH l G) (h : CW τ σ) (hV : IV n σ.1) (hn : n + 100 ≤ 1000) (hl : σ.2.2.2.2.1.length ≤ 60) (hch : ∀ c ∈ σ.2.2.2.2.1, c < 128) : Sat l G iX10_execute [moM] τ (XOp [IAE, ISE] τ (sExe σ)) := by
  obtain ⟨a, ps, sn, ⟨eA, fA⟩, T, ln⟩ := σ
  have hl : T.length ≤ 60 := hl
  have hch : ∀ c ∈ T, c < 128 := hch
  have hV : IV n a := hV
  have hT : TxR τ T := h.2.2.2.2.1
  have h9 := pgR_9 (T := T) (T.length + 1) 0
  have h8 := pgR_8 hl (T.length + 1) 0 (Nat.zero_le _)
  have esx : sExe (a, ps, sn, (eA, fA), T, ln) = if (pgR T (T.length + 1) 0).1 = true then (1, 0, (a, ps, sn, (some (pgR T (T.length + 1) 0).2.2, fA), [], ln)) else if (rn a (pgR T (T.length + 1) 0).2.1).1 = 0 then (0, (rn a (pgR T (T.length + 1) 0).2.1).2.1, ((rn a (pgR T (T.length + 1) 0).2.1).2.2, pushL a ps, sn, (eA, fA), [], ln)) else (2, 0, (a, ps, sn, (eA, some ((rn a (pgR T (T.length + 1) 0).2.1).2.1 - 1)), [], ln)) := rfl
  rw [esx]
  refine Sat_of hc.1.1 hc.1.2 (by decide +kernel) (Nat.le_of_ble_eq_true rfl) (fun x hB hno => ?_)
  refine V_run hB (rt := some .int) (nL := 3) (mc := 300) rfl rfl rfl obX10_execute_0 ?_
  dsimp only [bX10_execute_0, ↓wpb, ↓wp1, ↓vI, ↓vL, ↓vD, ↓ldI, ↓ldL, ↓ldD, ↓ldR, ↓k1, ↓k2, ↓kI, ↓kL, ↓kD, ↓kII, ↓kLL, ↓kDD, ↓kR, ↓kIR, ↓kLR, ↓kIIR, ↓kLIR, ↓kDIR, ↓kRIR, ↓kNN, ↓kE, ↓br, ↓bn, ↓rtI, ↓gfv, ↓zchk, lput, ldel, lbad, alA, acat, isRf, dom, dS, dJ, isO, aTy, aLen, elAV, elR, Nat.reduceBEq, Nat.reduceAdd, Bool.or, Bool.and, Nat.add_zero, Nat.zero_add]
  try simp only [Nat.reduceLT, Nat.reduceLeDiff, Nat.reduceEqDiff, true_and, and_true, and_self, Nat.zero_le, Nat.le_refl, true_or, or_true, Bool.false_eq_true, not_false_eq_true, Nat.reduceAdd, Nat.lt_add_one, Nat.zero_lt_one, nI_add, pk_mul, ixL, vpL, ne_eq, reduceIte, wI_sN, wL_sM, sN_same, sN_K, sN_2, sM_1, sM_same, sM_K, sM_s, uI_at, uN_at, enc_at, uI_enc, uI_uI, upM_s, upM_n]
  refine V_callV hB hno (c_parse hc hT hl hch) rfl (by decide +kernel) cvX10_334 (dom1 rfl) npX7_parse ⟨by decide, by decide⟩ (Nat.le_of_ble_eq_true rfl) (by decide) ?_ ?_
  rotate_left
  · intro E τ' hq; cases hq.1
  intro v t1 hq
  obtain ⟨e, p1, p2, p3, hm1⟩ := hq
  cases e
  generalize pgR T (T.length + 1) 0 = P at *
  obtain ⟨wr, cs, pe⟩ := P
  simp only at p1 p2 h9 h8
  show V x t1 0 7 _ [aI (nI (bN (!wr)))]
  refine V_run hB (rt := some .int) (nL := 3) (mc := 300) rfl rfl rfl obX10_execute_7 ?_
  dsimp only [bX10_execute_7, ↓wpb, ↓wp1, ↓vI, ↓vL, ↓vD, ↓ldI, ↓ldL, ↓ldD, ↓ldR, ↓k1, ↓k2, ↓kI, ↓kL, ↓kD, ↓kII, ↓kLL, ↓kDD, ↓kR, ↓kIR, ↓kLR, ↓kIIR, ↓kLIR, ↓kDIR, ↓kRIR, ↓kNN, ↓kE, ↓br, ↓bn, ↓rtI, ↓gfv, ↓zchk, lput, ldel, lbad, alA, acat, isRf, dom, dS, dJ, isO, aTy, aLen, elAV, elR, Nat.reduceBEq, Nat.reduceAdd, Bool.or, Bool.and, Nat.add_zero, Nat.zero_add]
  try simp only [Nat.reduceLT, Nat.reduceLeDiff, Nat.reduceEqDiff, true_and, and_true, and_self, Nat.zero_le, Nat.le_refl, true_or, or_true, Bool.false_eq_true, not_false_eq_true, Nat.reduceAdd, Nat.lt_add_one, Nat.zero_lt_one, nI_add, pk_mul, ixL, vpL, ne_eq, reduceIte, wI_sN, wL_sM, sN_same, sN_K, sN_2, sM_1, sM_same, sM_K, sM_s, uI_at, uN_at, enc_at, uI_enc, uI_uI, upM_s, upM_n]
  refine V_callV hB hno (c_empty hc.1) rfl (by decide +kernel) cvX10_337 (dom1 rfl) npX7_empty ⟨by decide, by decide⟩ (Nat.le_of_ble_eq_true rfl) (by decide) ?_ ?_
  rotate_left
  · intro E τ' hq; cases hq.1
  intro v t2 hq
  obtain ⟨e, hT2, hm2, hk2⟩ := hq
  cases e
  show V x t2 0 15 _ []
  have hm12 : Same pgN τ t2 := hm1.trans (hm2.mono (fun nm q => by subst q; exact Or.inl rfl))
  have hCW : CW t2 (a, ps, sn, (eA, fA), [], ln) := h.tx hm12 TN_pg hT2
  have hO2 : OthC τ t2 := OthC.tn hm12 TN_pg
  cases wr with
  | true =>
    have f5 : t2.1 (9, 0, 0) 5 = nI pe := (hk2 5 (by decide)).trans (p1 rfl)
    rw [if_pos rfl] at hB
    refine V_run hB (rt := some .int) (nL := 3) (mc := 300) rfl rfl rfl (ops := [(15, .iload_n 1, 1, (1, 0, 0, 0, 0, 0), 0), (16, .ifCond .ne 25, 3, (41, 0, 0, 0, 0, 0), 0), (19, .aload_n 0, 1, (0, 0, 0, 0, 0, 0), 0), (20, .aload_n 0, 1, (0, 0, 0, 0, 0, 0), 0), (21, .getfield 47, 3, (1, 6, 2, 9, 0, 0), 0), (24, .getfield 340, 3, (9, 5, 0, 0, 0, 0), 0), (27, .putfield 58, 3, (1, 8, 0, 0, 0, 0), 0)]) (by decide +kernel) ?_
    dsimp only [↓wpb, ↓wp1, ↓vI, ↓vL, ↓vD, ↓ldI, ↓ldL, ↓ldD, ↓ldR, ↓k1, ↓k2, ↓kI, ↓kL, ↓kD, ↓kII, ↓kLL, ↓kDD, ↓kR, ↓kIR, ↓kLR, ↓kIIR, ↓kLIR, ↓kDIR, ↓kRIR, ↓kNN, ↓kE, ↓br, ↓bn, ↓rtI, ↓gfv, ↓zchk, lput, ldel, lbad, alA, acat, isRf, dom, dS, dJ, isO, aTy, aLen, elAV, elR, Nat.reduceBEq, Nat.reduceAdd, Bool.or, Bool.and, Nat.add_zero, Nat.zero_add]
    try simp only [Nat.reduceLT, Nat.reduceLeDiff, Nat.reduceEqDiff, true_and, and_true, and_self, Nat.zero_le, Nat.le_refl, true_or, or_true, Bool.false_eq_true, not_false_eq_true, Nat.reduceAdd, Nat.lt_add_one, Nat.zero_lt_one, nI_add, pk_mul, ixL, vpL, ne_eq, reduceIte, wI_sN, wL_sM, sN_same, sN_K, sN_2, sM_1, sM_same, sM_K, sM_s, uI_at, uN_at, enc_at, uI_enc, uI_uI, upM_s, upM_n, f5]
    refine ⟨fun q => absurd rfl q, fun _ => ?_⟩
    refine V_throwW hB hno thX10_343_109 ⟨by decide +kernel, by decide +kernel, by decide +kernel, by decide +kernel, by decide +kernel⟩ (by decide) (Nat.le_of_ble_eq_true rfl) ?_
    have hm3 : Same (fun nm => nm = (1, 0, 0)) t2 (sN t2 (1, 0, 0) (uI (t2.1 (1, 0, 0)) 8 (nI pe))) := (Same.refl _ _).sN _ rfl
    obtain ⟨c1, ⟨p, c2⟩, c3⟩ := hCW
    have n1 : ∀ K s j, K ≠ 1 → ¬ ((K, s, j) = ((1, 0, 0) : Nm)) := fun K s j hK z => by injection z with z1 z2; exact hK z1
    refine ⟨rfl, ⟨c1.same hm3 (fun K j hK => n1 K 0 j (by omega)), ⟨p, c2.same hm3 (n1 8 0 0 (by decide)) (fun K s j _ _ hK => n1 K s j (by omega)) ?_⟩, c3.ef hm3 ?_ ?_ ?_⟩, hO2.trans (fun nm h30 => (hm3.2 nm (fun z => by subst z; simp only at h30; omega)).1)⟩
    · obtain ⟨π2, hπ2⟩ := c2.2.1 (2 + p) (by omega) (by have := c2.1.1; omega)
      exact ⟨π2, hπ2.same hm3 (n1 10 _ 0 (by decide))⟩
    · rw [sN_same]; rfl
    · rw [sN_same]; rfl
    · rw [sN_same]; exact c3.2.1.2
  | false =>
    rw [if_neg (show ¬ ((false, cs, pe) : Bool × List Cmd × Nat).1 = true from Bool.false_ne_true)] at hB
    have hC0 := p2 rfl
    have hC2 : CmR t2 cs := by
      refine ⟨(hk2 4 (by decide)).trans hC0.1, fun j m hj => ?_⟩
      rw [(hm2.2 _ (fun z => by injection z with z1 z2; cases z1)).1, (hm2.2 _ (fun z => by injection z with z1 z2; cases z1)).1]
      exact hC0.2 j m hj
    obtain ⟨⟨π, hS2⟩, ⟨p, hH2⟩, hR2⟩ := hCW
    refine V_run hB (rt := some .int) (nL := 3) (mc := 300) rfl rfl rfl (ops := [(15, .iload_n 1, 1, (1, 0, 0, 0, 0, 0), 0), (16, .ifCond .ne 25, 3, (41, 0, 0, 0, 0, 0), 0), (19, .aload_n 0, 1, (0, 0, 0, 0, 0, 0), 0), (20, .aload_n 0, 1, (0, 0, 0, 0, 0, 0), 0), (21, .getfield 47, 3, (1, 6, 2, 9, 0, 0), 0), (24, .getfield 340, 3, (9, 5, 0, 0, 0, 0), 0), (27, .putfield 58, 3, (1, 8, 0, 0, 0, 0), 0)]) (by decide +kernel) ?_
    dsimp only [↓wpb, ↓wp1, ↓vI, ↓vL, ↓vD, ↓ldI, ↓ldL, ↓ldD, ↓ldR, ↓k1, ↓k2, ↓kI, ↓kL, ↓kD, ↓kII, ↓kLL, ↓kDD, ↓kR, ↓kIR, ↓kLR, ↓kIIR, ↓kLIR, ↓kDIR, ↓kRIR, ↓kNN, ↓kE, ↓br, ↓bn, ↓rtI, ↓gfv, ↓zchk, lput, ldel, lbad, alA, acat, isRf, dom, dS, dJ, isO, aTy, aLen, elAV, elR, Nat.reduceBEq, Nat.reduceAdd, Bool.or, Bool.and, Nat.add_zero, Nat.zero_add]
    try simp only [Nat.reduceLT, Nat.reduceLeDiff, Nat.reduceEqDiff, true_and, and_true, and_self, Nat.zero_le, Nat.le_refl, true_or, or_true, Bool.false_eq_true, not_false_eq_true, Nat.reduceAdd, Nat.lt_add_one, Nat.zero_lt_one, nI_add, pk_mul, ixL, vpL, ne_eq, reduceIte, wI_sN, wL_sM, sN_same, sN_K, sN_2, sM_1, sM_same, sM_K, sM_s, uI_at, uN_at, enc_at, uI_enc, uI_uI, upM_s, upM_n]
    refine ⟨fun _ => ?_, fun q => absurd q (by decide)⟩
    refine V_run hB (rt := some .int) (nL := 3) (mc := 300) rfl rfl rfl obX10_execute_41 ?_
    dsimp only [bX10_execute_41, ↓wpb, ↓wp1, ↓vI, ↓vL, ↓vD, ↓ldI, ↓ldL, ↓ldD, ↓ldR, ↓k1, ↓k2, ↓kI, ↓kL, ↓kD, ↓kII, ↓kLL, ↓kDD, ↓kR, ↓kIR, ↓kLR, ↓kIIR, ↓kLIR, ↓kDIR, ↓kRIR, ↓kNN, ↓kE, ↓br, ↓bn, ↓rtI, ↓gfv, ↓zchk, lput, ldel, lbad, alA, acat, isRf, dom, dS, dJ, isO, aTy, aLen, elAV, elR, Nat.reduceBEq, Nat.reduceAdd, Bool.or, Bool.and, Nat.add_zero, Nat.zero_add]
    try simp only [Nat.reduceLT, Nat.reduceLeDiff, Nat.reduceEqDiff, true_and, and_true, and_self, Nat.zero_le, Nat.le_refl, true_or, or_true, Bool.false_eq_true, not_false_eq_true, Nat.reduceAdd, Nat.lt_add_one, Nat.zero_lt_one, nI_add, pk_mul, ixL, vpL, ne_eq, reduceIte, wI_sN, wL_sM, sN_same, sN_K, sN_2, sM_1, sM_same, sM_K, sM_s, uI_at, uN_at, enc_at, uI_enc, uI_uI, upM_s, upM_n]
    refine V_callV hB hno (c_prepare hc.1 hS2 hH2 hV.1.1 hV.one) rfl (by decide +kernel) cvX10_65 (dom1 rfl) npX5_prepare ⟨by decide, by decide⟩ (Nat.le_of_ble_eq_true rfl) (by decide) ?_ ?_
    rotate_left
    · intro E τ' hq; cases hq.1
    intro v t3 hq
    obtain ⟨e, hSp, hS3, hH3, hm3⟩ := hq
    cases e
    show V x t3 0 52 _ []
    have hQ3 : QN (shN (2 + p)) := QN_sh (by omega)
    have hR3 := hR2.same hm3 hQ3
    have hC3 : CmR t3 cs := hC2.same hm3 (fun nm z => by rintro (y | y | y) <;> have := z.1 <;> omega)
    have hlen : cs.length ≤ 8 := by omega
    have noP : ∀ nm, seN nm → ¬ pgN nm := by
      rintro nm (z | z) (y | y | y)
      · have := z.1; omega
      · have := z.1; omega
      · have := z.1; omega
      · unfold evN at z; omega
      · unfold evN at z; omega
      · unfold evN at z; omega
    have loop : ∀ L i b t al, (∃ done, cs = done ++ L ∧ done.length = i) → ShR t 0 b → IV (n + i) b → Same seN t3 t → (rn b L).1 = (rn a cs).1 → i + (rn b L).2.1 = (rn a cs).2.1 → (rn b L).2.2 = (rn a cs).2.2 → (∀ z ∈ [(0, moM), (2, aI (nI i))], lk al z.1 = some z.2) → V x t (12 * i) 54 al [] := by
      intro L
      induction L with
      | nil =>
        intro i b t al hd hR hI hm r1 r2 r3 hal
        refine V.sub ?_ hal
        obtain ⟨done, hd1, hd2⟩ := hd
        have hil : cs.length = i := by rw [hd1, List.append_nil]; exact hd2
        have hCt : CmR t cs := hC3.same hm noP
        have g4 := hCt.1
        rw [hil] at g4
        refine V.widen (show 12 * i ≤ 200 by omega) ?_
        have r1 : (rn a cs).1 = 0 := r1.symm
        have r2 : (rn a cs).2.1 = i := r2.symm
        have r3 : (rn a cs).2.2 = b := r3.symm
        simp only at hB
        rw [if_pos r1, r2, r3] at hB
        refine V_run hB (rt := some .int) (nL := 3) (mc := 300) rfl rfl rfl (ops := [(54, .iload_n 2, 1, (2, 0, 0, 0, 0, 0), 0), (55, .aload_n 0, 1, (0, 0, 0, 0, 0, 0), 0), (56, .getfield 47, 3, (1, 6, 2, 9, 0, 0), 0), (59, .getfield 345, 3, (9, 4, 0, 0, 0, 0), 0), (62, .if_icmp .ge 34, 3, (96, 0, 0, 0, 0, 0), 0)]) (by decide +kernel) ?_
        dsimp only [↓wpb, ↓wp1, ↓vI, ↓vL, ↓vD, ↓ldI, ↓ldL, ↓ldD, ↓ldR, ↓k1, ↓k2, ↓kI, ↓kL, ↓kD, ↓kII, ↓kLL, ↓kDD, ↓kR, ↓kIR, ↓kLR, ↓kIIR, ↓kLIR, ↓kDIR, ↓kRIR, ↓kNN, ↓kE, ↓br, ↓bn, ↓rtI, ↓gfv, ↓zchk, lput, ldel, lbad, alA, acat, isRf, dom, dS, dJ, isO, aTy, aLen, elAV, elR, Nat.reduceBEq, Nat.reduceAdd, Bool.or, Bool.and, Nat.add_zero, Nat.zero_add]
        try simp only [Nat.reduceLT, Nat.reduceLeDiff, Nat.reduceEqDiff, true_and, and_true, and_self, Nat.zero_le, Nat.le_refl, true_or, or_true, Bool.false_eq_true, not_false_eq_true, Nat.reduceAdd, Nat.lt_add_one, Nat.zero_lt_one, nI_add, pk_mul, ixL, vpL, ne_eq, reduceIte, wI_sN, wL_sM, sN_same, sN_K, sN_2, sM_1, sM_same, sM_K, sM_s, uI_at, uN_at, enc_at, uI_enc, uI_uI, upM_s, upM_n, g4]
        refine ⟨fun _ => ?_, fun q => absurd (Int32.le_refl _) q⟩
        refine V_run hB (rt := some .int) (nL := 3) (mc := 300) rfl rfl rfl (ops := [(96, .iload_n 2, 1, (2, 0, 0, 0, 0, 0), 0), (97, .aload_n 0, 1, (0, 0, 0, 0, 0, 0), 0), (98, .getfield 47, 3, (1, 6, 2, 9, 0, 0), 0), (101, .getfield 345, 3, (9, 4, 0, 0, 0, 0), 0), (104, .if_icmp .ge 30, 3, (134, 0, 0, 0, 0, 0), 0)]) (by decide +kernel) ?_
        dsimp only [↓wpb, ↓wp1, ↓vI, ↓vL, ↓vD, ↓ldI, ↓ldL, ↓ldD, ↓ldR, ↓k1, ↓k2, ↓kI, ↓kL, ↓kD, ↓kII, ↓kLL, ↓kDD, ↓kR, ↓kIR, ↓kLR, ↓kIIR, ↓kLIR, ↓kDIR, ↓kRIR, ↓kNN, ↓kE, ↓br, ↓bn, ↓rtI, ↓gfv, ↓zchk, lput, ldel, lbad, alA, acat, isRf, dom, dS, dJ, isO, aTy, aLen, elAV, elR, Nat.reduceBEq, Nat.reduceAdd, Bool.or, Bool.and, Nat.add_zero, Nat.zero_add]
        try simp only [Nat.reduceLT, Nat.reduceLeDiff, Nat.reduceEqDiff, true_and, and_true, and_self, Nat.zero_le, Nat.le_refl, true_or, or_true, Bool.false_eq_true, not_false_eq_true, Nat.reduceAdd, Nat.lt_add_one, Nat.zero_lt_one, nI_add, pk_mul, ixL, vpL, ne_eq, reduceIte, wI_sN, wL_sM, sN_same, sN_K, sN_2, sM_1, sM_same, sM_K, sM_s, uI_at, uN_at, enc_at, uI_enc, uI_uI, upM_s, upM_n, g4]
        refine ⟨fun _ => ?_, fun q => absurd (Int32.le_refl _) q⟩
        refine V_run hB (rt := some .int) (nL := 3) (mc := 300) rfl rfl rfl obX10_execute_134 ?_
        dsimp only [bX10_execute_134, ↓wpb, ↓wp1, ↓vI, ↓vL, ↓vD, ↓ldI, ↓ldL, ↓ldD, ↓ldR, ↓k1, ↓k2, ↓kI, ↓kL, ↓kD, ↓kII, ↓kLL, ↓kDD, ↓kR, ↓kIR, ↓kLR, ↓kIIR, ↓kLIR, ↓kDIR, ↓kRIR, ↓kNN, ↓kE, ↓br, ↓bn, ↓rtI, ↓gfv, ↓zchk, lput, ldel, lbad, alA, acat, isRf, dom, dS, dJ, isO, aTy, aLen, elAV, elR, Nat.reduceBEq, Nat.reduceAdd, Bool.or, Bool.and, Nat.add_zero, Nat.zero_add]
        try simp only [Nat.reduceLT, Nat.reduceLeDiff, Nat.reduceEqDiff, true_and, and_true, and_self, Nat.zero_le, Nat.le_refl, true_or, or_true, Bool.false_eq_true, not_false_eq_true, Nat.reduceAdd, Nat.lt_add_one, Nat.zero_lt_one, nI_add, pk_mul, ixL, vpL, ne_eq, reduceIte, wI_sN, wL_sM, sN_same, sN_K, sN_2, sM_1, sM_same, sM_K, sM_s, uI_at, uN_at, enc_at, uI_enc, uI_uI, upM_s, upM_n]
        refine V_callV hB hno (c_keep hc.1 (hH3.sh hm seN_8) (hSp.same hm (fun K j hK z => by have := (seN_8 _ z).2 hK; simp only at this; omega))) rfl (by decide +kernel) cvX10_73 (dom1 rfl) npX5_keepPrepared ⟨by decide, by decide⟩ (Nat.le_of_ble_eq_true rfl) (by decide) ?_ ?_
        rotate_left
        · intro E τ' hq; cases hq.1
        intro v t4 hq
        obtain ⟨e, hH4, hm4⟩ := hq
        cases e
        show V x t4 200 141 _ []
        have g44 : t4.1 (9, 0, 0) 4 = nI i := by rw [(hm4.2 _ (fun z => by injection z with z1 z2; cases z1)).1]; exact g4
        refine V_run hB (rt := some .int) (nL := 3) (mc := 300) rfl rfl rfl obX10_execute_141 ?_
        dsimp only [bX10_execute_141, ↓wpb, ↓wp1, ↓vI, ↓vL, ↓vD, ↓ldI, ↓ldL, ↓ldD, ↓ldR, ↓k1, ↓k2, ↓kI, ↓kL, ↓kD, ↓kII, ↓kLL, ↓kDD, ↓kR, ↓kIR, ↓kLR, ↓kIIR, ↓kLIR, ↓kDIR, ↓kRIR, ↓kNN, ↓kE, ↓br, ↓bn, ↓rtI, ↓gfv, ↓zchk, lput, ldel, lbad, alA, acat, isRf, dom, dS, dJ, isO, aTy, aLen, elAV, elR, Nat.reduceBEq, Nat.reduceAdd, Bool.or, Bool.and, Nat.add_zero, Nat.zero_add]
        try simp only [Nat.reduceLT, Nat.reduceLeDiff, Nat.reduceEqDiff, true_and, and_true, and_self, Nat.zero_le, Nat.le_refl, true_or, or_true, Bool.false_eq_true, not_false_eq_true, Nat.reduceAdd, Nat.lt_add_one, Nat.zero_lt_one, nI_add, pk_mul, ixL, vpL, ne_eq, reduceIte, wI_sN, wL_sM, sN_same, sN_K, sN_2, sM_1, sM_same, sM_K, sM_s, uI_at, uN_at, enc_at, uI_enc, uI_uI, upM_s, upM_n, g44]
        exact ⟨rfl, ⟨hR.same hm4 (fun K j hK z => by injection z with z1 z2; omega), hH4, (hR3.same hm QN_se).same hm4 QN_hi⟩, ((hO2.trans (OthC.of hm3 hQ3)).trans (OthC.of hm QN_se)).trans (OthC.of hm4 QN_hi)⟩
      | cons m L ih =>
        intro i b t al hd hR hI hm r1 r2 r3 hal
        refine V.sub ?_ hal
        obtain ⟨done, hd1, hd2⟩ := hd
        have hil : cs.length = i + (L.length + 1) := by rw [hd1, List.length_append, hd2]; rfl
        have hcm : cs[i]? = some m := by rw [hd1, List.getElem?_append_right (by omega), hd2, Nat.sub_self]; rfl
        have hCt : CmR t cs := hC3.same hm noP
        have g4 := hCt.1
        obtain ⟨x27, x29⟩ := hCt.2 i m hcm
        have hm9 : m.1 < 9 := h9 m (by rw [hd1]; exact List.mem_append_right _ List.mem_cons_self)
        obtain ⟨w, p', q', z'⟩ := m
        simp only at x27 hm9
        have hk0 : (nI (w + 1) = 0) = False := eq_false (fun z => absurd ((nI_eq (by omega) (by omega)).mp (show nI (w + 1) = nI 0 from z)) (by omega))
        have hk1 : (nI (w + 1)).toNatClampNeg = w + 1 := ixL (by omega)
        have ix : (nI i).toNatClampNeg = i := ixL (by omega)
        have vx : vp_in (nI i) 9 = True := vpL (by omega) (by omega)
        have ed : doS b (w, p', q', z') = runS b w (t.1 (29, 0, i) 0) (t.1 (29, 0, i) 1) (t.1 (29, 0, i) 2) := doS_run hm9 (fun j c hj => ⟨fun e => by subst e; exact x29 _ c hj, fun e => by subst e; exact x29 _ c hj, fun e => by subst e; exact x29 _ c hj⟩)
        have hI1 := IV_doS hI (by omega) (w, p', q', z')
        rw [rn_cons, ed] at r1 r2 r3
        rw [ed] at hI1
        refine V_run hB (rt := some .int) (nL := 3) (mc := 300) rfl rfl rfl (ops := [(54, .iload_n 2, 1, (2, 0, 0, 0, 0, 0), 0), (55, .aload_n 0, 1, (0, 0, 0, 0, 0, 0), 0), (56, .getfield 47, 3, (1, 6, 2, 9, 0, 0), 0), (59, .getfield 345, 3, (9, 4, 0, 0, 0, 0), 0), (62, .if_icmp .ge 34, 3, (96, 0, 0, 0, 0, 0), 0)]) (by decide +kernel) ?_
        dsimp only [↓wpb, ↓wp1, ↓vI, ↓vL, ↓vD, ↓ldI, ↓ldL, ↓ldD, ↓ldR, ↓k1, ↓k2, ↓kI, ↓kL, ↓kD, ↓kII, ↓kLL, ↓kDD, ↓kR, ↓kIR, ↓kLR, ↓kIIR, ↓kLIR, ↓kDIR, ↓kRIR, ↓kNN, ↓kE, ↓br, ↓bn, ↓rtI, ↓gfv, ↓zchk, lput, ldel, lbad, alA, acat, isRf, dom, dS, dJ, isO, aTy, aLen, elAV, elR, Nat.reduceBEq, Nat.reduceAdd, Bool.or, Bool.and, Nat.add_zero, Nat.zero_add]
        try simp only [Nat.reduceLT, Nat.reduceLeDiff, Nat.reduceEqDiff, true_and, and_true, and_self, Nat.zero_le, Nat.le_refl, true_or, or_true, Bool.false_eq_true, not_false_eq_true, Nat.reduceAdd, Nat.lt_add_one, Nat.zero_lt_one, nI_add, pk_mul, ixL, vpL, ne_eq, reduceIte, wI_sN, wL_sM, sN_same, sN_K, sN_2, sM_1, sM_same, sM_K, sM_s, uI_at, uN_at, enc_at, uI_enc, uI_uI, upM_s, upM_n, g4]
        refine ⟨fun q => absurd q (nI_ge (by omega) (by omega)), fun _ => ?_⟩
        refine V_run hB (rt := some .int) (nL := 3) (mc := 300) rfl rfl rfl (ops := [(65, .aload_n 0, 1, (0, 0, 0, 0, 0, 0), 0), (66, .aload_n 0, 1, (0, 0, 0, 0, 0, 0), 0), (67, .getfield 47, 3, (1, 6, 2, 9, 0, 0), 0), (70, .getfield 348, 3, (9, 2, 2, 27, 0, 0), 0), (73, .iload_n 2, 1, (2, 0, 0, 0, 0, 0), 0), (74, .aaload, 1, (0, 0, 0, 0, 0, 0), 0), (75, .aload_n 0, 1, (0, 0, 0, 0, 0, 0), 0), (76, .getfield 47, 3, (1, 6, 2, 9, 0, 0), 0), (79, .getfield 352, 3, (9, 3, 2, 28, 0, 0), 0), (82, .iload_n 2, 1, (2, 0, 0, 0, 0, 0), 0), (83, .aaload, 1, (0, 0, 0, 0, 0, 0), 0)]) (by decide +kernel) ?_
        dsimp only [↓wpb, ↓wp1, ↓vI, ↓vL, ↓vD, ↓ldI, ↓ldL, ↓ldD, ↓ldR, ↓k1, ↓k2, ↓kI, ↓kL, ↓kD, ↓kII, ↓kLL, ↓kDD, ↓kR, ↓kIR, ↓kLR, ↓kIIR, ↓kLIR, ↓kDIR, ↓kRIR, ↓kNN, ↓kE, ↓br, ↓bn, ↓rtI, ↓gfv, ↓zchk, lput, ldel, lbad, alA, acat, isRf, dom, dS, dJ, isO, aTy, aLen, elAV, elR, Nat.reduceBEq, Nat.reduceAdd, Bool.or, Bool.and, Nat.add_zero, Nat.zero_add]
        try simp only [Nat.reduceLT, Nat.reduceLeDiff, Nat.reduceEqDiff, true_and, and_true, and_self, Nat.zero_le, Nat.le_refl, true_or, or_true, Bool.false_eq_true, not_false_eq_true, Nat.reduceAdd, Nat.lt_add_one, Nat.zero_lt_one, nI_add, pk_mul, ixL, vpL, ne_eq, reduceIte, wI_sN, wL_sM, sN_same, sN_K, sN_2, sM_1, sM_same, sM_K, sM_s, uI_at, uN_at, enc_at, uI_enc, uI_uI, upM_s, upM_n, ix, vx, x27, hk0, hk1, Nat.add_sub_cancel]
        obtain ⟨π', hSt⟩ := hR
        refine hQ x _ hB hno t b π' (n + i) (12 * i) w i _ [] hSt hI (by omega) hm9 (by omega) (by omega) (by decide) (fun t5 hR5 hm5 => ?_)
        have hmm := hm.trans hm5
        generalize runS b w (t.1 (29, 0, i) 0) (t.1 (29, 0, i) 1) (t.1 (29, 0, i) 2) = R at *
        by_cases hr : R.1 = 0
        · rw [if_pos hr] at r1 r2 r3 ⊢
          refine V_run hB (rt := some .int) (nL := 3) (mc := 300) rfl rfl rfl (ops := [(87, .ifCond .eq 9, 3, (96, 0, 0, 0, 0, 0), 0), (90, .iinc 2 1, 3, (2, 0, 0, 0, 0, 0), nI 1), (93, .goto (-39), 3, (54, 0, 0, 0, 0, 0), 0)]) (by decide +kernel) ?_
          dsimp only [↓wpb, ↓wp1, ↓vI, ↓vL, ↓vD, ↓ldI, ↓ldL, ↓ldD, ↓ldR, ↓k1, ↓k2, ↓kI, ↓kL, ↓kD, ↓kII, ↓kLL, ↓kDD, ↓kR, ↓kIR, ↓kLR, ↓kIIR, ↓kLIR, ↓kDIR, ↓kRIR, ↓kNN, ↓kE, ↓br, ↓bn, ↓rtI, ↓gfv, ↓zchk, lput, ldel, lbad, alA, acat, isRf, dom, dS, dJ, isO, aTy, aLen, elAV, elR, Nat.reduceBEq, Nat.reduceAdd, Bool.or, Bool.and, Nat.add_zero, Nat.zero_add]
          try simp only [Nat.reduceLT, Nat.reduceLeDiff, Nat.reduceEqDiff, true_and, and_true, and_self, Nat.zero_le, Nat.le_refl, true_or, or_true, Bool.false_eq_true, not_false_eq_true, Nat.reduceAdd, Nat.lt_add_one, Nat.zero_lt_one, nI_add, pk_mul, ixL, vpL, ne_eq, reduceIte, wI_sN, wL_sM, sN_same, sN_K, sN_2, sM_1, sM_same, sM_K, sM_s, uI_at, uN_at, enc_at, uI_enc, uI_uI, upM_s, upM_n]
          refine ⟨fun q => absurd q (by decide), fun _ => ?_⟩
          rw [show 12 * i + 12 = 12 * (i + 1) by omega]
          refine ih (i + 1) R.2.2 t5 _ ⟨done ++ [(w, p', q', z')], by rw [hd1, List.append_assoc]; rfl, by rw [List.length_append, hd2]; rfl⟩ hR5 (by rw [show n + (i + 1) = n + i + 1 by omega]; exact hI1) hmm r1 (by rw [← r2]; show i + 1 + _ = i + (_ + 1); omega) r3 (List.forall_mem_cons.mpr ⟨rfl, List.forall_mem_cons.mpr ⟨rfl, fun _ h => absurd h List.not_mem_nil⟩⟩)
        · rw [if_neg hr] at r1 r2 r3 ⊢
          have g45 : t5.1 (9, 0, 0) 4 = nI cs.length := (hC3.same hmm noP).1
          refine V.widen (show 12 * i + 12 ≤ 200 by omega) ?_
          have r1 : (rn a cs).1 = R.1 := r1.symm
          have r2 : (rn a cs).2.1 = i + 1 := r2.symm
          simp only at hB
          rw [if_neg (show ¬ (rn a cs).1 = 0 by rw [r1]; exact hr), r2, Nat.add_sub_cancel] at hB
          refine V_run hB (rt := some .int) (nL := 3) (mc := 300) rfl rfl rfl (ops := [(87, .ifCond .eq 9, 3, (96, 0, 0, 0, 0, 0), 0)]) (by decide +kernel) ?_
          dsimp only [↓wpb, ↓wp1, ↓vI, ↓vL, ↓vD, ↓ldI, ↓ldL, ↓ldD, ↓ldR, ↓k1, ↓k2, ↓kI, ↓kL, ↓kD, ↓kII, ↓kLL, ↓kDD, ↓kR, ↓kIR, ↓kLR, ↓kIIR, ↓kLIR, ↓kDIR, ↓kRIR, ↓kNN, ↓kE, ↓br, ↓bn, ↓rtI, ↓gfv, ↓zchk, lput, ldel, lbad, alA, acat, isRf, dom, dS, dJ, isO, aTy, aLen, elAV, elR, Nat.reduceBEq, Nat.reduceAdd, Bool.or, Bool.and, Nat.add_zero, Nat.zero_add]
          try simp only [Nat.reduceLT, Nat.reduceLeDiff, Nat.reduceEqDiff, true_and, and_true, and_self, Nat.zero_le, Nat.le_refl, true_or, or_true, Bool.false_eq_true, not_false_eq_true, Nat.reduceAdd, Nat.lt_add_one, Nat.zero_lt_one, nI_add, pk_mul, ixL, vpL, ne_eq, reduceIte, wI_sN, wL_sM, sN_same, sN_K, sN_2, sM_1, sM_same, sM_K, sM_s, uI_at, uN_at, enc_at, uI_enc, uI_uI, upM_s, upM_n]
          refine ⟨fun _ => ?_, fun q => absurd rfl q⟩
          refine V_run hB (rt := some .int) (nL := 3) (mc := 300) rfl rfl rfl (ops := [(96, .iload_n 2, 1, (2, 0, 0, 0, 0, 0), 0), (97, .aload_n 0, 1, (0, 0, 0, 0, 0, 0), 0), (98, .getfield 47, 3, (1, 6, 2, 9, 0, 0), 0), (101, .getfield 345, 3, (9, 4, 0, 0, 0, 0), 0), (104, .if_icmp .ge 30, 3, (134, 0, 0, 0, 0, 0), 0)]) (by decide +kernel) ?_
          dsimp only [↓wpb, ↓wp1, ↓vI, ↓vL, ↓vD, ↓ldI, ↓ldL, ↓ldD, ↓ldR, ↓k1, ↓k2, ↓kI, ↓kL, ↓kD, ↓kII, ↓kLL, ↓kDD, ↓kR, ↓kIR, ↓kLR, ↓kIIR, ↓kLIR, ↓kDIR, ↓kRIR, ↓kNN, ↓kE, ↓br, ↓bn, ↓rtI, ↓gfv, ↓zchk, lput, ldel, lbad, alA, acat, isRf, dom, dS, dJ, isO, aTy, aLen, elAV, elR, Nat.reduceBEq, Nat.reduceAdd, Bool.or, Bool.and, Nat.add_zero, Nat.zero_add]
          try simp only [Nat.reduceLT, Nat.reduceLeDiff, Nat.reduceEqDiff, true_and, and_true, and_self, Nat.zero_le, Nat.le_refl, true_or, or_true, Bool.false_eq_true, not_false_eq_true, Nat.reduceAdd, Nat.lt_add_one, Nat.zero_lt_one, nI_add, pk_mul, ixL, vpL, ne_eq, reduceIte, wI_sN, wL_sM, sN_same, sN_K, sN_2, sM_1, sM_same, sM_K, sM_s, uI_at, uN_at, enc_at, uI_enc, uI_uI, upM_s, upM_n, g45]
          refine ⟨fun q => absurd q (nI_ge (by omega) (by omega)), fun _ => ?_⟩
          refine V_run hB (rt := some .int) (nL := 3) (mc := 300) rfl rfl rfl (ops := [(107, .aload_n 0, 1, (0, 0, 0, 0, 0, 0), 0), (108, .getfield 26, 3, (1, 3, 2, 8, 0, 0), 0), (111, .aload_n 0, 1, (0, 0, 0, 0, 0, 0), 0), (112, .getfield 12, 3, (1, 0, 2, 2, 0, 0), 0)]) (by decide +kernel) ?_
          dsimp only [↓wpb, ↓wp1, ↓vI, ↓vL, ↓vD, ↓ldI, ↓ldL, ↓ldD, ↓ldR, ↓k1, ↓k2, ↓kI, ↓kL, ↓kD, ↓kII, ↓kLL, ↓kDD, ↓kR, ↓kIR, ↓kLR, ↓kIIR, ↓kLIR, ↓kDIR, ↓kRIR, ↓kNN, ↓kE, ↓br, ↓bn, ↓rtI, ↓gfv, ↓zchk, lput, ldel, lbad, alA, acat, isRf, dom, dS, dJ, isO, aTy, aLen, elAV, elR, Nat.reduceBEq, Nat.reduceAdd, Bool.or, Bool.and, Nat.add_zero, Nat.zero_add]
          try simp only [Nat.reduceLT, Nat.reduceLeDiff, Nat.reduceEqDiff, true_and, and_true, and_self, Nat.zero_le, Nat.le_refl, true_or, or_true, Bool.false_eq_true, not_false_eq_true, Nat.reduceAdd, Nat.lt_add_one, Nat.zero_lt_one, nI_add, pk_mul, ixL, vpL, ne_eq, reduceIte, wI_sN, wL_sM, sN_same, sN_K, sN_2, sM_1, sM_same, sM_K, sM_s, uI_at, uN_at, enc_at, uI_enc, uI_uI, upM_s, upM_n]
          obtain ⟨π5, hS5⟩ := hR5
          refine V_callV hB hno (c_bring hc.1 ⟨π5, hS5.pm⟩ (hH3.sh hmm seN_8) (hSp.same hmm (fun K j hK z => by have := (seN_8 _ z).2 hK; simp only at this; omega)) hV.1.1 hV.one) rfl (by decide +kernel) cvX10_360 (dom1 rfl) npX5_bringPreparedTo ⟨by decide, by decide⟩ (Nat.le_of_ble_eq_true rfl) (by decide) ?_ ?_
          rotate_left
          · intro E τ' hq; cases hq.1
          intro v t6 hq
          obtain ⟨e, hS6, hm6⟩ := hq
          cases e
          show V x t6 200 118 _ []
          refine V_run hB (rt := some .int) (nL := 3) (mc := 300) rfl rfl rfl (ops := [(118, .aload_n 0, 1, (0, 0, 0, 0, 0, 0), 0), (119, .iload_n 2, 1, (2, 0, 0, 0, 0, 0), 0), (120, .putfield 62, 3, (1, 9, 0, 0, 0, 0), 0)]) (by decide +kernel) ?_
          dsimp only [↓wpb, ↓wp1, ↓vI, ↓vL, ↓vD, ↓ldI, ↓ldL, ↓ldD, ↓ldR, ↓k1, ↓k2, ↓kI, ↓kL, ↓kD, ↓kII, ↓kLL, ↓kDD, ↓kR, ↓kIR, ↓kLR, ↓kIIR, ↓kLIR, ↓kDIR, ↓kRIR, ↓kNN, ↓kE, ↓br, ↓bn, ↓rtI, ↓gfv, ↓zchk, lput, ldel, lbad, alA, acat, isRf, dom, dS, dJ, isO, aTy, aLen, elAV, elR, Nat.reduceBEq, Nat.reduceAdd, Bool.or, Bool.and, Nat.add_zero, Nat.zero_add]
          try simp only [Nat.reduceLT, Nat.reduceLeDiff, Nat.reduceEqDiff, true_and, and_true, and_self, Nat.zero_le, Nat.le_refl, true_or, or_true, Bool.false_eq_true, not_false_eq_true, Nat.reduceAdd, Nat.lt_add_one, Nat.zero_lt_one, nI_add, pk_mul, ixL, vpL, ne_eq, reduceIte, wI_sN, wL_sM, sN_same, sN_K, sN_2, sM_1, sM_same, sM_K, sM_s, uI_at, uN_at, enc_at, uI_enc, uI_uI, upM_s, upM_n]
          refine V_throwW hB hno thX10_363_329 ⟨by decide +kernel, by decide +kernel, by decide +kernel, by decide +kernel, by decide +kernel⟩ (by decide) (Nat.le_of_ble_eq_true rfl) ?_
          have hm7 : Same (fun nm => nm = (1, 0, 0)) t6 (sN t6 (1, 0, 0) (uI (t6.1 (1, 0, 0)) 9 (nI i))) := (Same.refl _ _).sN _ rfl
          have n1 : ∀ K s j, K ≠ 1 → ¬ ((K, s, j) = ((1, 0, 0) : Nm)) := fun K s j hK z => by injection z with z1 z2; exact hK z1
          have hR6 := (hR3.same hmm QN_se).same hm6 (QN_sh (by decide))
          have hH6 := (hH3.sh hmm seN_8).sh hm6 shN0_8
          refine ⟨rfl, ⟨hS6.same hm7 (fun K j hK => n1 K 0 j (by omega)), ⟨p, hH6.same hm7 (n1 8 0 0 (by decide)) (fun K s j _ _ hK => n1 K s j (by omega)) ?_⟩, hR6.ef hm7 ?_ ?_ ?_⟩, ((((hO2.trans (OthC.of hm3 hQ3)).trans (OthC.of hmm QN_se)).trans (OthC.of hm6 (QN_sh (by decide)))).trans (fun nm h30 => (hm7.2 nm (fun z => by subst z; simp only at h30; omega)).1))⟩
          · obtain ⟨π2, hπ2⟩ := hH6.2.1 (2 + p) (by omega) (by have := hH6.1.1; omega)
            exact ⟨π2, hπ2.same hm7 (n1 10 _ 0 (by decide))⟩
          · rw [sN_same]; rfl
          · rw [sN_same]; exact hR6.2.1.1
          · rw [sN_same]; rfl
    refine V_run hB (rt := some .int) (nL := 3) (mc := 300) rfl rfl rfl obX10_execute_52 ?_
    dsimp only [bX10_execute_52, ↓wpb, ↓wp1, ↓vI, ↓vL, ↓vD, ↓ldI, ↓ldL, ↓ldD, ↓ldR, ↓k1, ↓k2, ↓kI, ↓kL, ↓kD, ↓kII, ↓kLL, ↓kDD, ↓kR, ↓kIR, ↓kLR, ↓kIIR, ↓kLIR, ↓kDIR, ↓kRIR, ↓kNN, ↓kE, ↓br, ↓bn, ↓rtI, ↓gfv, ↓zchk, lput, ldel, lbad, alA, acat, isRf, dom, dS, dJ, isO, aTy, aLen, elAV, elR, Nat.reduceBEq, Nat.reduceAdd, Bool.or, Bool.and, Nat.add_zero, Nat.zero_add]
    try simp only [Nat.reduceLT, Nat.reduceLeDiff, Nat.reduceEqDiff, true_and, and_true, and_self, Nat.zero_le, Nat.le_refl, true_or, or_true, Bool.false_eq_true, not_false_eq_true, Nat.reduceAdd, Nat.lt_add_one, Nat.zero_lt_one, nI_add, pk_mul, ixL, vpL, ne_eq, reduceIte, wI_sN, wL_sM, sN_same, sN_K, sN_2, sM_1, sM_same, sM_K, sM_s, uI_at, uN_at, enc_at, uI_enc, uI_uI, upM_s, upM_n]
    exact loop cs 0 a t3 _ ⟨[], rfl, rfl⟩ ⟨π, hS3⟩ hV (Same.refl _ _) rfl (Nat.zero_add _) rfl (List.forall_mem_cons.mpr ⟨rfl, List.forall_mem_cons.mpr ⟨rfl, fun _ h => absurd h List.not_mem_nil⟩⟩)
end C8
