/-! ===== the class: a command run ===== -/
/-- the call of a command's ordinal, in run (its walk: a row of its own) -/
def OrdH (l : Launch) (G : GG) : Prop := ∀ (x : Cx) (Φ : AOut → Mem → Prop), Bd x l G iX10_run Φ → ∀ (τ : Mem) (al : Al) (w : Nat) (r : List AV), w < 9 → acats r ≤ 8 → V x τ 0 7 al (aI (nI w) :: r) → V x τ 0 4 al (.inr (60, w, 0) :: r)
/-- a command on the shop, by its kind and its numbers -/
def runS (a : Nat → Nat) (w : Nat) (p q z : Int32) : Nat × Nat × (Nat → Nat) := match w with
  | 0 => sPl a p q z
  | 1 => sRed a (findO a p false)
  | 2 => sExt a (findO a p false) q
  | 3 => sPas a p
  | 4 => sPri a p
  | 5 => sRat a p q
  | 6 => sBid a (findO a p true) q z
  | 7 => sSel a (findO a p true)
  | _ => sEve a
def runL (w : Nat) : List String := match w with
  | 0 => [IAE, ISE, UOE]
  | 1 => [NSE]
  | 2 => [NSE, IAE]
  | 3 => [IAE]
  | 4 => [IAE]
  | 5 => [IAE]
  | 6 => [NSE, IAE]
  | 7 => [NSE, ISE]
  | _ => [ISE]
def runP (L : List String) (τ : Mem) (r : Nat × Nat × (Nat → Nat)) : AOut → Mem → Prop := fun o τ' => o = (if r.1 = 0 then .inl none else .inr (exL L r.1)) ∧ ShR τ' 0 r.2.2 ∧ Same seN τ τ'
theorem doS_0e (a : Nat → Nat) (p q z : Nat) : doS a (0, p, q, z) = sPl a (nI p) (nI q) (nI z) := by rw [doS]
theorem runS_0e (a : Nat → Nat) (p q z : Int32) : runS a 0 p q z = sPl a p q z := by rw [runS]
theorem aL_0 (p q z : Nat) : argsL (0, p, q, z) = [p, q, z] := by simp [argsL]
theorem doS_1e (a : Nat → Nat) (p q z : Nat) : doS a (1, p, q, z) = sRed a (findO a (nI p) false) := by rw [doS]
theorem runS_1e (a : Nat → Nat) (p q z : Int32) : runS a 1 p q z = sRed a (findO a p false) := by rw [runS]
theorem aL_1 (p q z : Nat) : argsL (1, p, q, z) = [p] := by simp [argsL]
theorem doS_2e (a : Nat → Nat) (p q z : Nat) : doS a (2, p, q, z) = sExt a (findO a (nI p) false) (nI q) := by rw [doS]
theorem runS_2e (a : Nat → Nat) (p q z : Int32) : runS a 2 p q z = sExt a (findO a p false) q := by rw [runS]
theorem aL_2 (p q z : Nat) : argsL (2, p, q, z) = [p, q] := by simp [argsL]
theorem doS_3e (a : Nat → Nat) (p q z : Nat) : doS a (3, p, q, z) = sPas a (nI p) := by rw [doS]
theorem runS_3e (a : Nat → Nat) (p q z : Int32) : runS a 3 p q z = sPas a p := by rw [runS]
theorem aL_3 (p q z : Nat) : argsL (3, p, q, z) = [p] := by simp [argsL]
theorem doS_4e (a : Nat → Nat) (p q z : Nat) : doS a (4, p, q, z) = sPri a (nI p) := by rw [doS]
theorem runS_4e (a : Nat → Nat) (p q z : Int32) : runS a 4 p q z = sPri a p := by rw [runS]
theorem aL_4 (p q z : Nat) : argsL (4, p, q, z) = [p] := by simp [argsL]
theorem doS_5e (a : Nat → Nat) (p q z : Nat) : doS a (5, p, q, z) = sRat a (nI p) (nI q) := by rw [doS]
theorem runS_5e (a : Nat → Nat) (p q z : Int32) : runS a 5 p q z = sRat a p q := by rw [runS]
theorem aL_5 (p q z : Nat) : argsL (5, p, q, z) = [p, q] := by simp [argsL]
theorem doS_6e (a : Nat → Nat) (p q z : Nat) : doS a (6, p, q, z) = sBid a (findO a (nI p) true) (nI q) (nI z) := by rw [doS]
theorem runS_6e (a : Nat → Nat) (p q z : Int32) : runS a 6 p q z = sBid a (findO a p true) q z := by rw [runS]
theorem aL_6 (p q z : Nat) : argsL (6, p, q, z) = [p, q, z] := by simp [argsL]
theorem doS_7e (a : Nat → Nat) (p q z : Nat) : doS a (7, p, q, z) = sSel a (findO a (nI p) true) := by rw [doS]
theorem runS_7e (a : Nat → Nat) (p q z : Int32) : runS a 7 p q z = sSel a (findO a p true) := by rw [runS]
theorem aL_7 (p q z : Nat) : argsL (7, p, q, z) = [p] := by simp [argsL]
theorem doS_8e (a : Nat → Nat) (p q z : Nat) : doS a (8, p, q, z) = sEve a := doS_8 a p q z
theorem runS_8e (a : Nat → Nat) (p q z : Int32) : runS a 8 p q z = sEve a := by
  unfold runS
  split <;> first | rfl | omega
theorem aL_8 (p q z : Nat) : argsL (8, p, q, z) = [] := by simp [argsL]
theorem doS_run {a : Nat → Nat} {w p' q' z' : Nat} (hw : w < 9) {p q z : Int32} (hp : ∀ j c, (argsL (w, p', q', z'))[j]? = some c → (j = 0 → p = nI c) ∧ (j = 1 → q = nI c) ∧ (j = 2 → z = nI c)) : doS a (w, p', q', z') = runS a w p q z := by
  rcases (by omega : w = 0 ∨ w = 1 ∨ w = 2 ∨ w = 3 ∨ w = 4 ∨ w = 5 ∨ w = 6 ∨ w = 7 ∨ w = 8) with rfl | rfl | rfl | rfl | rfl | rfl | rfl | rfl | rfl
  · rw [aL_0] at hp
    have e0 : p = nI p' := (hp 0 p' rfl).1 rfl
    have e1 : q = nI q' := (hp 1 q' rfl).2.1 rfl
    have e2 : z = nI z' := (hp 2 z' rfl).2.2 rfl
    rw [doS_0e, runS_0e, e0, e1, e2]
  · rw [aL_1] at hp
    have e0 : p = nI p' := (hp 0 p' rfl).1 rfl
    rw [doS_1e, runS_1e, e0]
  · rw [aL_2] at hp
    have e0 : p = nI p' := (hp 0 p' rfl).1 rfl
    have e1 : q = nI q' := (hp 1 q' rfl).2.1 rfl
    rw [doS_2e, runS_2e, e0, e1]
  · rw [aL_3] at hp
    have e0 : p = nI p' := (hp 0 p' rfl).1 rfl
    rw [doS_3e, runS_3e, e0]
  · rw [aL_4] at hp
    have e0 : p = nI p' := (hp 0 p' rfl).1 rfl
    rw [doS_4e, runS_4e, e0]
  · rw [aL_5] at hp
    have e0 : p = nI p' := (hp 0 p' rfl).1 rfl
    have e1 : q = nI q' := (hp 1 q' rfl).2.1 rfl
    rw [doS_5e, runS_5e, e0, e1]
  · rw [aL_6] at hp
    have e0 : p = nI p' := (hp 0 p' rfl).1 rfl
    have e1 : q = nI q' := (hp 1 q' rfl).2.1 rfl
    have e2 : z = nI z' := (hp 2 z' rfl).2.2 rfl
    rw [doS_6e, runS_6e, e0, e1, e2]
  · rw [aL_7] at hp
    have e0 : p = nI p' := (hp 0 p' rfl).1 rfl
    rw [doS_7e, runS_7e, e0]
  · rw [aL_8] at hp
    rw [doS_8e, runS_8e]
section H7
variable {l : Launch} {G : GG} {τ : Mem} {a π : Nat → Nat} {n : Nat}
theorem c_run (hc : CtxE l G) (hQ : OrdH l G) (hS : ShP τ 0 a π) (hV : IV n a) (hn : n ≤ 1000) {w : Nat} (hw : w < 9) (p q z : Int32) : Sat l G iX10_run [moM, .inr (60, w, 0), aI p, aI q, aI z] τ (runP (runL w) τ (runS a w p q z)) := by
  refine Sat_of hc.1.1 hc.1.2 (by decide +kernel) (Nat.le_of_ble_eq_true rfl) (fun x hB hno => ?_)
  refine V_gets hB (v := .inr (64, 0, 0)) (fun U H h => (hc.2 U H h).2.2.2.1.1) (idx := 371) (TBg_at 1540 (by decide +kernel)) (by decide +kernel) ?_
  refine V_run hB (rt := none) (nL := 5) (mc := 12) rfl rfl rfl (ops := [(3, .aload_n 1, 1, (1, 0, 0, 0, 0, 0), 0)]) (by decide +kernel) ?_
  dsimp only [↓wpb, ↓wp1, ↓vI, ↓vL, ↓vD, ↓ldI, ↓ldL, ↓ldD, ↓ldR, ↓k1, ↓k2, ↓kI, ↓kL, ↓kD, ↓kII, ↓kLL, ↓kDD, ↓kR, ↓kIR, ↓kLR, ↓kIIR, ↓kLIR, ↓kDIR, ↓kRIR, ↓kNN, ↓kE, ↓br, ↓bn, ↓rtI, ↓gfv, ↓zchk, lput, ldel, lbad, alA, acat, isRf, dom, dS, dJ, isO, aTy, aLen, elAV, elR, Nat.reduceBEq, Nat.reduceAdd, Bool.or, Bool.and, Nat.add_zero, Nat.zero_add]
  try simp only [Nat.reduceLT, Nat.reduceLeDiff, Nat.reduceEqDiff, true_and, and_true, and_self, Nat.zero_le, Nat.le_refl, true_or, or_true, Bool.false_eq_true, not_false_eq_true, Nat.reduceAdd, Nat.lt_add_one, Nat.zero_lt_one, nI_add, pk_mul, ixL, vpL, ne_eq, reduceIte, wI_sN, wL_sM, sN_same, sN_K, sN_2, sM_1, sM_same, sM_K, sM_s, uI_at, uN_at, enc_at, uI_enc, uI_uI, upM_s, upM_n]
  refine hQ x _ hB _ _ w _ hw (by decide) ?_
  refine V_tia hB (f := fun j => nI (j + 1)) (fun U H h => (hc.2 U H h).2.2.2.1.2) hw (by omega) (by decide +kernel) ?_
  have no : ∀ {L : List String} {P : Nm → Prop} {r : Nat × Nat × (Nat → Nat)}, (∀ nm, P nm → seN nm) → ∀ E τ', OpC L P τ r (.inr E) τ' → runP L τ r (.inr E) τ' := by
    intro L P r hP E τ' hq
    obtain ⟨e, h1, h2⟩ := hq
    refine ⟨?_, h1, h2.mono hP⟩
    by_cases hr : r.1 = 0
    · rw [if_pos hr] at e; cases e
    · rw [if_neg hr] at e ⊢; exact e
  rcases (by omega : w = 0 ∨ w = 1 ∨ w = 2 ∨ w = 3 ∨ w = 4 ∨ w = 5 ∨ w = 6 ∨ w = 7 ∨ w = 8) with rfl | rfl | rfl | rfl | rfl | rfl | rfl | rfl | rfl
  · refine V_tabI hB (dflt := 174) (lo := 1) (hi := 9) (offs := #[52, 67, 79, 92, 104, 116, 132, 147, 159]) (len := 52) (off := 52) (tgt := 60) (by decide +kernel) (by decide) (by decide) (by decide) (by decide) ?_
    have hB : Bd x l G iX10_run (runP [IAE, ISE, UOE] τ (sPl a p q z)) := hB
    refine V_run hB (rt := none) (nL := 5) (mc := 12) rfl rfl rfl obX10_run_60 ?_
    dsimp only [bX10_run_60, ↓wpb, ↓wp1, ↓vI, ↓vL, ↓vD, ↓ldI, ↓ldL, ↓ldD, ↓ldR, ↓k1, ↓k2, ↓kI, ↓kL, ↓kD, ↓kII, ↓kLL, ↓kDD, ↓kR, ↓kIR, ↓kLR, ↓kIIR, ↓kLIR, ↓kDIR, ↓kRIR, ↓kNN, ↓kE, ↓br, ↓bn, ↓rtI, ↓gfv, ↓zchk, lput, ldel, lbad, alA, acat, isRf, dom, dS, dJ, isO, aTy, aLen, elAV, elR, Nat.reduceBEq, Nat.reduceAdd, Bool.or, Bool.and, Nat.add_zero, Nat.zero_add]
    try simp only [Nat.reduceLT, Nat.reduceLeDiff, Nat.reduceEqDiff, true_and, and_true, and_self, Nat.zero_le, Nat.le_refl, true_or, or_true, Bool.false_eq_true, not_false_eq_true, Nat.reduceAdd, Nat.lt_add_one, Nat.zero_lt_one, nI_add, pk_mul, ixL, vpL, ne_eq, reduceIte, wI_sN, wL_sM, sN_same, sN_K, sN_2, sM_1, sM_same, sM_K, sM_s, uI_at, uN_at, enc_at, uI_enc, uI_uI, upM_s, upM_n]
    refine V_callV hB hno (c_take hc.1 hS hV hn p q z) rfl (by decide +kernel) cvX10_69 (dom1 rfl) npX9_takePledge ⟨by decide, by decide⟩ (Nat.le_of_ble_eq_true rfl) (by decide) ?_ ?_
    rotate_left
    · intro E τ' hq
      exact no (fun _ h => Or.inl h) E τ' hq
    intro v t1 hq
    obtain ⟨e, h1, h2⟩ := hq
    by_cases hr : (sPl a p q z).1 = 0
    rotate_left
    · rw [if_neg hr] at e; cases e
    rw [if_pos hr] at e
    cases e
    show V x t1 1 71 _ [aI (nI (sPl a p q z).2.1)]
    generalize sPl a p q z = R at *
    refine V_run hB (rt := none) (nL := 5) (mc := 12) rfl rfl rfl obX10_run_71 ?_
    dsimp only [bX10_run_71, ↓wpb, ↓wp1, ↓vI, ↓vL, ↓vD, ↓ldI, ↓ldL, ↓ldD, ↓ldR, ↓k1, ↓k2, ↓kI, ↓kL, ↓kD, ↓kII, ↓kLL, ↓kDD, ↓kR, ↓kIR, ↓kLR, ↓kIIR, ↓kLIR, ↓kDIR, ↓kRIR, ↓kNN, ↓kE, ↓br, ↓bn, ↓rtI, ↓gfv, ↓zchk, lput, ldel, lbad, alA, acat, isRf, dom, dS, dJ, isO, aTy, aLen, elAV, elR, Nat.reduceBEq, Nat.reduceAdd, Bool.or, Bool.and, Nat.add_zero, Nat.zero_add]
    try simp only [Nat.reduceLT, Nat.reduceLeDiff, Nat.reduceEqDiff, true_and, and_true, and_self, Nat.zero_le, Nat.le_refl, true_or, or_true, Bool.false_eq_true, not_false_eq_true, Nat.reduceAdd, Nat.lt_add_one, Nat.zero_lt_one, nI_add, pk_mul, ixL, vpL, ne_eq, reduceIte, wI_sN, wL_sM, sN_same, sN_K, sN_2, sM_1, sM_same, sM_K, sM_s, uI_at, uN_at, enc_at, uI_enc, uI_uI, upM_s, upM_n]
    refine V_run hB (rt := none) (nL := 5) (mc := 12) rfl rfl rfl obX10_run_182 ?_
    dsimp only [bX10_run_182, ↓wpb, ↓wp1, ↓vI, ↓vL, ↓vD, ↓ldI, ↓ldL, ↓ldD, ↓ldR, ↓k1, ↓k2, ↓kI, ↓kL, ↓kD, ↓kII, ↓kLL, ↓kDD, ↓kR, ↓kIR, ↓kLR, ↓kIIR, ↓kLIR, ↓kDIR, ↓kRIR, ↓kNN, ↓kE, ↓br, ↓bn, ↓rtI, ↓gfv, ↓zchk, lput, ldel, lbad, alA, acat, isRf, dom, dS, dJ, isO, aTy, aLen, elAV, elR, Nat.reduceBEq, Nat.reduceAdd, Bool.or, Bool.and, Nat.add_zero, Nat.zero_add]
    try simp only [Nat.reduceLT, Nat.reduceLeDiff, Nat.reduceEqDiff, true_and, and_true, and_self, Nat.zero_le, Nat.le_refl, true_or, or_true, Bool.false_eq_true, not_false_eq_true, Nat.reduceAdd, Nat.lt_add_one, Nat.zero_lt_one, nI_add, pk_mul, ixL, vpL, ne_eq, reduceIte, wI_sN, wL_sM, sN_same, sN_K, sN_2, sM_1, sM_same, sM_K, sM_s, uI_at, uN_at, enc_at, uI_enc, uI_uI, upM_s, upM_n]
    refine ⟨?_, h1, h2.mono (fun _ h => Or.inl h)⟩
    rw [if_pos hr]
  · refine V_tabI hB (dflt := 174) (lo := 1) (hi := 9) (offs := #[52, 67, 79, 92, 104, 116, 132, 147, 159]) (len := 52) (off := 67) (tgt := 75) (by decide +kernel) (by decide) (by decide) (by decide) (by decide) ?_
    have hB : Bd x l G iX10_run (runP [NSE] τ (sRed a (findO a p false))) := hB
    refine V_run hB (rt := none) (nL := 5) (mc := 12) rfl rfl rfl obX10_run_75 ?_
    dsimp only [bX10_run_75, ↓wpb, ↓wp1, ↓vI, ↓vL, ↓vD, ↓ldI, ↓ldL, ↓ldD, ↓ldR, ↓k1, ↓k2, ↓kI, ↓kL, ↓kD, ↓kII, ↓kLL, ↓kDD, ↓kR, ↓kIR, ↓kLR, ↓kIIR, ↓kLIR, ↓kDIR, ↓kRIR, ↓kNN, ↓kE, ↓br, ↓bn, ↓rtI, ↓gfv, ↓zchk, lput, ldel, lbad, alA, acat, isRf, dom, dS, dJ, isO, aTy, aLen, elAV, elR, Nat.reduceBEq, Nat.reduceAdd, Bool.or, Bool.and, Nat.add_zero, Nat.zero_add]
    try simp only [Nat.reduceLT, Nat.reduceLeDiff, Nat.reduceEqDiff, true_and, and_true, and_self, Nat.zero_le, Nat.le_refl, true_or, or_true, Bool.false_eq_true, not_false_eq_true, Nat.reduceAdd, Nat.lt_add_one, Nat.zero_lt_one, nI_add, pk_mul, ixL, vpL, ne_eq, reduceIte, wI_sN, wL_sM, sN_same, sN_K, sN_2, sM_1, sM_same, sM_K, sM_s, uI_at, uN_at, enc_at, uI_enc, uI_uI, upM_s, upM_n]
    refine V_callV hB hno (c_redeem hc.1 hS hV hn p) rfl (by decide +kernel) cvX10_76 (dom1 rfl) npX9_redeemPledge ⟨by decide, by decide⟩ (Nat.le_of_ble_eq_true rfl) (by decide) ?_ ?_
    rotate_left
    · intro E τ' hq
      exact no (fun _ h => Or.inl h) E τ' hq
    intro v t1 hq
    obtain ⟨e, h1, h2⟩ := hq
    by_cases hr : (sRed a (findO a p false)).1 = 0
    rotate_left
    · rw [if_neg hr] at e; cases e
    rw [if_pos hr] at e
    cases e
    show V x t1 1 83 _ [aI (nI (sRed a (findO a p false)).2.1)]
    generalize sRed a (findO a p false) = R at *
    refine V_run hB (rt := none) (nL := 5) (mc := 12) rfl rfl rfl obX10_run_83 ?_
    dsimp only [bX10_run_83, ↓wpb, ↓wp1, ↓vI, ↓vL, ↓vD, ↓ldI, ↓ldL, ↓ldD, ↓ldR, ↓k1, ↓k2, ↓kI, ↓kL, ↓kD, ↓kII, ↓kLL, ↓kDD, ↓kR, ↓kIR, ↓kLR, ↓kIIR, ↓kLIR, ↓kDIR, ↓kRIR, ↓kNN, ↓kE, ↓br, ↓bn, ↓rtI, ↓gfv, ↓zchk, lput, ldel, lbad, alA, acat, isRf, dom, dS, dJ, isO, aTy, aLen, elAV, elR, Nat.reduceBEq, Nat.reduceAdd, Bool.or, Bool.and, Nat.add_zero, Nat.zero_add]
    try simp only [Nat.reduceLT, Nat.reduceLeDiff, Nat.reduceEqDiff, true_and, and_true, and_self, Nat.zero_le, Nat.le_refl, true_or, or_true, Bool.false_eq_true, not_false_eq_true, Nat.reduceAdd, Nat.lt_add_one, Nat.zero_lt_one, nI_add, pk_mul, ixL, vpL, ne_eq, reduceIte, wI_sN, wL_sM, sN_same, sN_K, sN_2, sM_1, sM_same, sM_K, sM_s, uI_at, uN_at, enc_at, uI_enc, uI_uI, upM_s, upM_n]
    refine V_run hB (rt := none) (nL := 5) (mc := 12) rfl rfl rfl obX10_run_182 ?_
    dsimp only [bX10_run_182, ↓wpb, ↓wp1, ↓vI, ↓vL, ↓vD, ↓ldI, ↓ldL, ↓ldD, ↓ldR, ↓k1, ↓k2, ↓kI, ↓kL, ↓kD, ↓kII, ↓kLL, ↓kDD, ↓kR, ↓kIR, ↓kLR, ↓kIIR, ↓kLIR, ↓kDIR, ↓kRIR, ↓kNN, ↓kE, ↓br, ↓bn, ↓rtI, ↓gfv, ↓zchk, lput, ldel, lbad, alA, acat, isRf, dom, dS, dJ, isO, aTy, aLen, elAV, elR, Nat.reduceBEq, Nat.reduceAdd, Bool.or, Bool.and, Nat.add_zero, Nat.zero_add]
    try simp only [Nat.reduceLT, Nat.reduceLeDiff, Nat.reduceEqDiff, true_and, and_true, and_self, Nat.zero_le, Nat.le_refl, true_or, or_true, Bool.false_eq_true, not_false_eq_true, Nat.reduceAdd, Nat.lt_add_one, Nat.zero_lt_one, nI_add, pk_mul, ixL, vpL, ne_eq, reduceIte, wI_sN, wL_sM, sN_same, sN_K, sN_2, sM_1, sM_same, sM_K, sM_s, uI_at, uN_at, enc_at, uI_enc, uI_uI, upM_s, upM_n]
    refine ⟨?_, h1, h2.mono (fun _ h => Or.inl h)⟩
    rw [if_pos hr]
  · refine V_tabI hB (dflt := 174) (lo := 1) (hi := 9) (offs := #[52, 67, 79, 92, 104, 116, 132, 147, 159]) (len := 52) (off := 79) (tgt := 87) (by decide +kernel) (by decide) (by decide) (by decide) (by decide) ?_
    have hB : Bd x l G iX10_run (runP [NSE, IAE] τ (sExt a (findO a p false) q)) := hB
    refine V_run hB (rt := none) (nL := 5) (mc := 12) rfl rfl rfl obX10_run_87 ?_
    dsimp only [bX10_run_87, ↓wpb, ↓wp1, ↓vI, ↓vL, ↓vD, ↓ldI, ↓ldL, ↓ldD, ↓ldR, ↓k1, ↓k2, ↓kI, ↓kL, ↓kD, ↓kII, ↓kLL, ↓kDD, ↓kR, ↓kIR, ↓kLR, ↓kIIR, ↓kLIR, ↓kDIR, ↓kRIR, ↓kNN, ↓kE, ↓br, ↓bn, ↓rtI, ↓gfv, ↓zchk, lput, ldel, lbad, alA, acat, isRf, dom, dS, dJ, isO, aTy, aLen, elAV, elR, Nat.reduceBEq, Nat.reduceAdd, Bool.or, Bool.and, Nat.add_zero, Nat.zero_add]
    try simp only [Nat.reduceLT, Nat.reduceLeDiff, Nat.reduceEqDiff, true_and, and_true, and_self, Nat.zero_le, Nat.le_refl, true_or, or_true, Bool.false_eq_true, not_false_eq_true, Nat.reduceAdd, Nat.lt_add_one, Nat.zero_lt_one, nI_add, pk_mul, ixL, vpL, ne_eq, reduceIte, wI_sN, wL_sM, sN_same, sN_K, sN_2, sM_1, sM_same, sM_K, sM_s, uI_at, uN_at, enc_at, uI_enc, uI_uI, upM_s, upM_n]
    refine V_callV hB hno (c_extend hc.1 hS hV hn p q) rfl (by decide +kernel) cvX10_80 (dom1 rfl) npX9_extendPledge ⟨by decide, by decide⟩ (Nat.le_of_ble_eq_true rfl) (by decide) ?_ ?_
    rotate_left
    · intro E τ' hq
      exact no (fun _ h => Or.inl h) E τ' hq
    intro v t1 hq
    obtain ⟨e, h1, h2⟩ := hq
    by_cases hr : (sExt a (findO a p false) q).1 = 0
    rotate_left
    · rw [if_neg hr] at e; cases e
    rw [if_pos hr] at e
    cases e
    show V x t1 2 96 _ [aI (nI (sExt a (findO a p false) q).2.1)]
    generalize sExt a (findO a p false) q = R at *
    refine V_run hB (rt := none) (nL := 5) (mc := 12) rfl rfl rfl obX10_run_96 ?_
    dsimp only [bX10_run_96, ↓wpb, ↓wp1, ↓vI, ↓vL, ↓vD, ↓ldI, ↓ldL, ↓ldD, ↓ldR, ↓k1, ↓k2, ↓kI, ↓kL, ↓kD, ↓kII, ↓kLL, ↓kDD, ↓kR, ↓kIR, ↓kLR, ↓kIIR, ↓kLIR, ↓kDIR, ↓kRIR, ↓kNN, ↓kE, ↓br, ↓bn, ↓rtI, ↓gfv, ↓zchk, lput, ldel, lbad, alA, acat, isRf, dom, dS, dJ, isO, aTy, aLen, elAV, elR, Nat.reduceBEq, Nat.reduceAdd, Bool.or, Bool.and, Nat.add_zero, Nat.zero_add]
    try simp only [Nat.reduceLT, Nat.reduceLeDiff, Nat.reduceEqDiff, true_and, and_true, and_self, Nat.zero_le, Nat.le_refl, true_or, or_true, Bool.false_eq_true, not_false_eq_true, Nat.reduceAdd, Nat.lt_add_one, Nat.zero_lt_one, nI_add, pk_mul, ixL, vpL, ne_eq, reduceIte, wI_sN, wL_sM, sN_same, sN_K, sN_2, sM_1, sM_same, sM_K, sM_s, uI_at, uN_at, enc_at, uI_enc, uI_uI, upM_s, upM_n]
    refine V_run hB (rt := none) (nL := 5) (mc := 12) rfl rfl rfl obX10_run_182 ?_
    dsimp only [bX10_run_182, ↓wpb, ↓wp1, ↓vI, ↓vL, ↓vD, ↓ldI, ↓ldL, ↓ldD, ↓ldR, ↓k1, ↓k2, ↓kI, ↓kL, ↓kD, ↓kII, ↓kLL, ↓kDD, ↓kR, ↓kIR, ↓kLR, ↓kIIR, ↓kLIR, ↓kDIR, ↓kRIR, ↓kNN, ↓kE, ↓br, ↓bn, ↓rtI, ↓gfv, ↓zchk, lput, ldel, lbad, alA, acat, isRf, dom, dS, dJ, isO, aTy, aLen, elAV, elR, Nat.reduceBEq, Nat.reduceAdd, Bool.or, Bool.and, Nat.add_zero, Nat.zero_add]
    try simp only [Nat.reduceLT, Nat.reduceLeDiff, Nat.reduceEqDiff, true_and, and_true, and_self, Nat.zero_le, Nat.le_refl, true_or, or_true, Bool.false_eq_true, not_false_eq_true, Nat.reduceAdd, Nat.lt_add_one, Nat.zero_lt_one, nI_add, pk_mul, ixL, vpL, ne_eq, reduceIte, wI_sN, wL_sM, sN_same, sN_K, sN_2, sM_1, sM_same, sM_K, sM_s, uI_at, uN_at, enc_at, uI_enc, uI_uI, upM_s, upM_n]
    refine ⟨?_, h1, h2.mono (fun _ h => Or.inl h)⟩
    rw [if_pos hr]
  · refine V_tabI hB (dflt := 174) (lo := 1) (hi := 9) (offs := #[52, 67, 79, 92, 104, 116, 132, 147, 159]) (len := 52) (off := 92) (tgt := 100) (by decide +kernel) (by decide) (by decide) (by decide) (by decide) ?_
    have hB : Bd x l G iX10_run (runP [IAE] τ (sPas a p)) := hB
    refine V_run hB (rt := none) (nL := 5) (mc := 12) rfl rfl rfl obX10_run_100 ?_
    dsimp only [bX10_run_100, ↓wpb, ↓wp1, ↓vI, ↓vL, ↓vD, ↓ldI, ↓ldL, ↓ldD, ↓ldR, ↓k1, ↓k2, ↓kI, ↓kL, ↓kD, ↓kII, ↓kLL, ↓kDD, ↓kR, ↓kIR, ↓kLR, ↓kIIR, ↓kLIR, ↓kDIR, ↓kRIR, ↓kNN, ↓kE, ↓br, ↓bn, ↓rtI, ↓gfv, ↓zchk, lput, ldel, lbad, alA, acat, isRf, dom, dS, dJ, isO, aTy, aLen, elAV, elR, Nat.reduceBEq, Nat.reduceAdd, Bool.or, Bool.and, Nat.add_zero, Nat.zero_add]
    try simp only [Nat.reduceLT, Nat.reduceLeDiff, Nat.reduceEqDiff, true_and, and_true, and_self, Nat.zero_le, Nat.le_refl, true_or, or_true, Bool.false_eq_true, not_false_eq_true, Nat.reduceAdd, Nat.lt_add_one, Nat.zero_lt_one, nI_add, pk_mul, ixL, vpL, ne_eq, reduceIte, wI_sN, wL_sM, sN_same, sN_K, sN_2, sM_1, sM_same, sM_K, sM_s, uI_at, uN_at, enc_at, uI_enc, uI_uI, upM_s, upM_n]
    refine V_callV hB hno (c_days hc.1 hS hV hn p) rfl (by decide +kernel) cvX10_84 (dom1 rfl) npX9_letDaysPass ⟨by decide, by decide⟩ (Nat.le_of_ble_eq_true rfl) (by decide) ?_ ?_
    rotate_left
    · intro E τ' hq
      exact no (fun _ h => Or.inl h) E τ' hq
    intro v t1 hq
    obtain ⟨e, h1, h2⟩ := hq
    by_cases hr : (sPas a p).1 = 0
    rotate_left
    · rw [if_neg hr] at e; cases e
    rw [if_pos hr] at e
    cases e
    show V x t1 1 108 _ [aI (nI (sPas a p).2.1)]
    generalize sPas a p = R at *
    refine V_run hB (rt := none) (nL := 5) (mc := 12) rfl rfl rfl obX10_run_108 ?_
    dsimp only [bX10_run_108, ↓wpb, ↓wp1, ↓vI, ↓vL, ↓vD, ↓ldI, ↓ldL, ↓ldD, ↓ldR, ↓k1, ↓k2, ↓kI, ↓kL, ↓kD, ↓kII, ↓kLL, ↓kDD, ↓kR, ↓kIR, ↓kLR, ↓kIIR, ↓kLIR, ↓kDIR, ↓kRIR, ↓kNN, ↓kE, ↓br, ↓bn, ↓rtI, ↓gfv, ↓zchk, lput, ldel, lbad, alA, acat, isRf, dom, dS, dJ, isO, aTy, aLen, elAV, elR, Nat.reduceBEq, Nat.reduceAdd, Bool.or, Bool.and, Nat.add_zero, Nat.zero_add]
    try simp only [Nat.reduceLT, Nat.reduceLeDiff, Nat.reduceEqDiff, true_and, and_true, and_self, Nat.zero_le, Nat.le_refl, true_or, or_true, Bool.false_eq_true, not_false_eq_true, Nat.reduceAdd, Nat.lt_add_one, Nat.zero_lt_one, nI_add, pk_mul, ixL, vpL, ne_eq, reduceIte, wI_sN, wL_sM, sN_same, sN_K, sN_2, sM_1, sM_same, sM_K, sM_s, uI_at, uN_at, enc_at, uI_enc, uI_uI, upM_s, upM_n]
    refine V_run hB (rt := none) (nL := 5) (mc := 12) rfl rfl rfl obX10_run_182 ?_
    dsimp only [bX10_run_182, ↓wpb, ↓wp1, ↓vI, ↓vL, ↓vD, ↓ldI, ↓ldL, ↓ldD, ↓ldR, ↓k1, ↓k2, ↓kI, ↓kL, ↓kD, ↓kII, ↓kLL, ↓kDD, ↓kR, ↓kIR, ↓kLR, ↓kIIR, ↓kLIR, ↓kDIR, ↓kRIR, ↓kNN, ↓kE, ↓br, ↓bn, ↓rtI, ↓gfv, ↓zchk, lput, ldel, lbad, alA, acat, isRf, dom, dS, dJ, isO, aTy, aLen, elAV, elR, Nat.reduceBEq, Nat.reduceAdd, Bool.or, Bool.and, Nat.add_zero, Nat.zero_add]
    try simp only [Nat.reduceLT, Nat.reduceLeDiff, Nat.reduceEqDiff, true_and, and_true, and_self, Nat.zero_le, Nat.le_refl, true_or, or_true, Bool.false_eq_true, not_false_eq_true, Nat.reduceAdd, Nat.lt_add_one, Nat.zero_lt_one, nI_add, pk_mul, ixL, vpL, ne_eq, reduceIte, wI_sN, wL_sM, sN_same, sN_K, sN_2, sM_1, sM_same, sM_K, sM_s, uI_at, uN_at, enc_at, uI_enc, uI_uI, upM_s, upM_n]
    refine ⟨?_, h1, h2.mono (fun _ h => Or.inl h)⟩
    rw [if_pos hr]
  · refine V_tabI hB (dflt := 174) (lo := 1) (hi := 9) (offs := #[52, 67, 79, 92, 104, 116, 132, 147, 159]) (len := 52) (off := 104) (tgt := 112) (by decide +kernel) (by decide) (by decide) (by decide) (by decide) ?_
    have hB : Bd x l G iX10_run (runP [IAE] τ (sPri a p)) := hB
    refine V_run hB (rt := none) (nL := 5) (mc := 12) rfl rfl rfl obX10_run_112 ?_
    dsimp only [bX10_run_112, ↓wpb, ↓wp1, ↓vI, ↓vL, ↓vD, ↓ldI, ↓ldL, ↓ldD, ↓ldR, ↓k1, ↓k2, ↓kI, ↓kL, ↓kD, ↓kII, ↓kLL, ↓kDD, ↓kR, ↓kIR, ↓kLR, ↓kIIR, ↓kLIR, ↓kDIR, ↓kRIR, ↓kNN, ↓kE, ↓br, ↓bn, ↓rtI, ↓gfv, ↓zchk, lput, ldel, lbad, alA, acat, isRf, dom, dS, dJ, isO, aTy, aLen, elAV, elR, Nat.reduceBEq, Nat.reduceAdd, Bool.or, Bool.and, Nat.add_zero, Nat.zero_add]
    try simp only [Nat.reduceLT, Nat.reduceLeDiff, Nat.reduceEqDiff, true_and, and_true, and_self, Nat.zero_le, Nat.le_refl, true_or, or_true, Bool.false_eq_true, not_false_eq_true, Nat.reduceAdd, Nat.lt_add_one, Nat.zero_lt_one, nI_add, pk_mul, ixL, vpL, ne_eq, reduceIte, wI_sN, wL_sM, sN_same, sN_K, sN_2, sM_1, sM_same, sM_K, sM_s, uI_at, uN_at, enc_at, uI_enc, uI_uI, upM_s, upM_n]
    refine V_callV hB hno (c_price1 hc.1 hS p) rfl (by decide +kernel) cvX10_87 (dom1 rfl) npX9_changePrice ⟨by decide, by decide⟩ (Nat.le_of_ble_eq_true rfl) (by decide) ?_ ?_
    rotate_left
    · intro E τ' hq
      exact no (fun _ h => Or.inl h) E τ' hq
    intro v t1 hq
    obtain ⟨e, h1, h2⟩ := hq
    by_cases hr : (sPri a p).1 = 0
    rotate_left
    · rw [if_neg hr] at e; cases e
    rw [if_pos hr] at e
    cases e
    show V x t1 1 120 _ [aI (nI (sPri a p).2.1)]
    generalize sPri a p = R at *
    refine V_run hB (rt := none) (nL := 5) (mc := 12) rfl rfl rfl obX10_run_120 ?_
    dsimp only [bX10_run_120, ↓wpb, ↓wp1, ↓vI, ↓vL, ↓vD, ↓ldI, ↓ldL, ↓ldD, ↓ldR, ↓k1, ↓k2, ↓kI, ↓kL, ↓kD, ↓kII, ↓kLL, ↓kDD, ↓kR, ↓kIR, ↓kLR, ↓kIIR, ↓kLIR, ↓kDIR, ↓kRIR, ↓kNN, ↓kE, ↓br, ↓bn, ↓rtI, ↓gfv, ↓zchk, lput, ldel, lbad, alA, acat, isRf, dom, dS, dJ, isO, aTy, aLen, elAV, elR, Nat.reduceBEq, Nat.reduceAdd, Bool.or, Bool.and, Nat.add_zero, Nat.zero_add]
    try simp only [Nat.reduceLT, Nat.reduceLeDiff, Nat.reduceEqDiff, true_and, and_true, and_self, Nat.zero_le, Nat.le_refl, true_or, or_true, Bool.false_eq_true, not_false_eq_true, Nat.reduceAdd, Nat.lt_add_one, Nat.zero_lt_one, nI_add, pk_mul, ixL, vpL, ne_eq, reduceIte, wI_sN, wL_sM, sN_same, sN_K, sN_2, sM_1, sM_same, sM_K, sM_s, uI_at, uN_at, enc_at, uI_enc, uI_uI, upM_s, upM_n]
    refine V_run hB (rt := none) (nL := 5) (mc := 12) rfl rfl rfl obX10_run_182 ?_
    dsimp only [bX10_run_182, ↓wpb, ↓wp1, ↓vI, ↓vL, ↓vD, ↓ldI, ↓ldL, ↓ldD, ↓ldR, ↓k1, ↓k2, ↓kI, ↓kL, ↓kD, ↓kII, ↓kLL, ↓kDD, ↓kR, ↓kIR, ↓kLR, ↓kIIR, ↓kLIR, ↓kDIR, ↓kRIR, ↓kNN, ↓kE, ↓br, ↓bn, ↓rtI, ↓gfv, ↓zchk, lput, ldel, lbad, alA, acat, isRf, dom, dS, dJ, isO, aTy, aLen, elAV, elR, Nat.reduceBEq, Nat.reduceAdd, Bool.or, Bool.and, Nat.add_zero, Nat.zero_add]
    try simp only [Nat.reduceLT, Nat.reduceLeDiff, Nat.reduceEqDiff, true_and, and_true, and_self, Nat.zero_le, Nat.le_refl, true_or, or_true, Bool.false_eq_true, not_false_eq_true, Nat.reduceAdd, Nat.lt_add_one, Nat.zero_lt_one, nI_add, pk_mul, ixL, vpL, ne_eq, reduceIte, wI_sN, wL_sM, sN_same, sN_K, sN_2, sM_1, sM_same, sM_K, sM_s, uI_at, uN_at, enc_at, uI_enc, uI_uI, upM_s, upM_n]
    refine ⟨?_, h1, h2.mono (fun _ h => Or.inl h)⟩
    rw [if_pos hr]
  · refine V_tabI hB (dflt := 174) (lo := 1) (hi := 9) (offs := #[52, 67, 79, 92, 104, 116, 132, 147, 159]) (len := 52) (off := 116) (tgt := 124) (by decide +kernel) (by decide) (by decide) (by decide) (by decide) ?_
    have hB : Bd x l G iX10_run (runP [IAE] τ (sRat a p q)) := hB
    refine V_run hB (rt := none) (nL := 5) (mc := 12) rfl rfl rfl obX10_run_124 ?_
    dsimp only [bX10_run_124, ↓wpb, ↓wp1, ↓vI, ↓vL, ↓vD, ↓ldI, ↓ldL, ↓ldD, ↓ldR, ↓k1, ↓k2, ↓kI, ↓kL, ↓kD, ↓kII, ↓kLL, ↓kDD, ↓kR, ↓kIR, ↓kLR, ↓kIIR, ↓kLIR, ↓kDIR, ↓kRIR, ↓kNN, ↓kE, ↓br, ↓bn, ↓rtI, ↓gfv, ↓zchk, lput, ldel, lbad, alA, acat, isRf, dom, dS, dJ, isO, aTy, aLen, elAV, elR, Nat.reduceBEq, Nat.reduceAdd, Bool.or, Bool.and, Nat.add_zero, Nat.zero_add]
    try simp only [Nat.reduceLT, Nat.reduceLeDiff, Nat.reduceEqDiff, true_and, and_true, and_self, Nat.zero_le, Nat.le_refl, true_or, or_true, Bool.false_eq_true, not_false_eq_true, Nat.reduceAdd, Nat.lt_add_one, Nat.zero_lt_one, nI_add, pk_mul, ixL, vpL, ne_eq, reduceIte, wI_sN, wL_sM, sN_same, sN_K, sN_2, sM_1, sM_same, sM_K, sM_s, uI_at, uN_at, enc_at, uI_enc, uI_uI, upM_s, upM_n]
    refine V_callV hB hno (c_rate hc.1 hS p q) rfl (by decide +kernel) cvX10_94 (dom1 rfl) npX2_changeRate ⟨by decide, by decide⟩ (Nat.le_of_ble_eq_true rfl) (by decide) ?_ ?_
    rotate_left
    · intro E τ' hq
      exact no (fun _ h => Or.inl h) E τ' hq
    intro v t1 hq
    obtain ⟨e, h1, h2⟩ := hq
    by_cases hr : (sRat a p q).1 = 0
    rotate_left
    · rw [if_neg hr] at e; cases e
    rw [if_pos hr] at e
    cases e
    show V x t1 1 136 _ [aI (nI (sRat a p q).2.1)]
    generalize sRat a p q = R at *
    refine V_run hB (rt := none) (nL := 5) (mc := 12) rfl rfl rfl obX10_run_136 ?_
    dsimp only [bX10_run_136, ↓wpb, ↓wp1, ↓vI, ↓vL, ↓vD, ↓ldI, ↓ldL, ↓ldD, ↓ldR, ↓k1, ↓k2, ↓kI, ↓kL, ↓kD, ↓kII, ↓kLL, ↓kDD, ↓kR, ↓kIR, ↓kLR, ↓kIIR, ↓kLIR, ↓kDIR, ↓kRIR, ↓kNN, ↓kE, ↓br, ↓bn, ↓rtI, ↓gfv, ↓zchk, lput, ldel, lbad, alA, acat, isRf, dom, dS, dJ, isO, aTy, aLen, elAV, elR, Nat.reduceBEq, Nat.reduceAdd, Bool.or, Bool.and, Nat.add_zero, Nat.zero_add]
    try simp only [Nat.reduceLT, Nat.reduceLeDiff, Nat.reduceEqDiff, true_and, and_true, and_self, Nat.zero_le, Nat.le_refl, true_or, or_true, Bool.false_eq_true, not_false_eq_true, Nat.reduceAdd, Nat.lt_add_one, Nat.zero_lt_one, nI_add, pk_mul, ixL, vpL, ne_eq, reduceIte, wI_sN, wL_sM, sN_same, sN_K, sN_2, sM_1, sM_same, sM_K, sM_s, uI_at, uN_at, enc_at, uI_enc, uI_uI, upM_s, upM_n]
    refine V_run hB (rt := none) (nL := 5) (mc := 12) rfl rfl rfl obX10_run_182 ?_
    dsimp only [bX10_run_182, ↓wpb, ↓wp1, ↓vI, ↓vL, ↓vD, ↓ldI, ↓ldL, ↓ldD, ↓ldR, ↓k1, ↓k2, ↓kI, ↓kL, ↓kD, ↓kII, ↓kLL, ↓kDD, ↓kR, ↓kIR, ↓kLR, ↓kIIR, ↓kLIR, ↓kDIR, ↓kRIR, ↓kNN, ↓kE, ↓br, ↓bn, ↓rtI, ↓gfv, ↓zchk, lput, ldel, lbad, alA, acat, isRf, dom, dS, dJ, isO, aTy, aLen, elAV, elR, Nat.reduceBEq, Nat.reduceAdd, Bool.or, Bool.and, Nat.add_zero, Nat.zero_add]
    try simp only [Nat.reduceLT, Nat.reduceLeDiff, Nat.reduceEqDiff, true_and, and_true, and_self, Nat.zero_le, Nat.le_refl, true_or, or_true, Bool.false_eq_true, not_false_eq_true, Nat.reduceAdd, Nat.lt_add_one, Nat.zero_lt_one, nI_add, pk_mul, ixL, vpL, ne_eq, reduceIte, wI_sN, wL_sM, sN_same, sN_K, sN_2, sM_1, sM_same, sM_K, sM_s, uI_at, uN_at, enc_at, uI_enc, uI_uI, upM_s, upM_n]
    refine ⟨?_, h1, h2.mono (fun _ h => Or.inl h)⟩
    rw [if_pos hr]
  · refine V_tabI hB (dflt := 174) (lo := 1) (hi := 9) (offs := #[52, 67, 79, 92, 104, 116, 132, 147, 159]) (len := 52) (off := 132) (tgt := 140) (by decide +kernel) (by decide) (by decide) (by decide) (by decide) ?_
    have hB : Bd x l G iX10_run (runP [NSE, IAE] τ (sBid a (findO a p true) q z)) := hB
    refine V_run hB (rt := none) (nL := 5) (mc := 12) rfl rfl rfl obX10_run_140 ?_
    dsimp only [bX10_run_140, ↓wpb, ↓wp1, ↓vI, ↓vL, ↓vD, ↓ldI, ↓ldL, ↓ldD, ↓ldR, ↓k1, ↓k2, ↓kI, ↓kL, ↓kD, ↓kII, ↓kLL, ↓kDD, ↓kR, ↓kIR, ↓kLR, ↓kIIR, ↓kLIR, ↓kDIR, ↓kRIR, ↓kNN, ↓kE, ↓br, ↓bn, ↓rtI, ↓gfv, ↓zchk, lput, ldel, lbad, alA, acat, isRf, dom, dS, dJ, isO, aTy, aLen, elAV, elR, Nat.reduceBEq, Nat.reduceAdd, Bool.or, Bool.and, Nat.add_zero, Nat.zero_add]
    try simp only [Nat.reduceLT, Nat.reduceLeDiff, Nat.reduceEqDiff, true_and, and_true, and_self, Nat.zero_le, Nat.le_refl, true_or, or_true, Bool.false_eq_true, not_false_eq_true, Nat.reduceAdd, Nat.lt_add_one, Nat.zero_lt_one, nI_add, pk_mul, ixL, vpL, ne_eq, reduceIte, wI_sN, wL_sM, sN_same, sN_K, sN_2, sM_1, sM_same, sM_K, sM_s, uI_at, uN_at, enc_at, uI_enc, uI_uI, upM_s, upM_n]
    refine V_callV hB hno (c_bid hc.1 hS hV p q z) rfl (by decide +kernel) cvX10_210 (dom1 rfl) npX9_placeBid ⟨by decide, by decide⟩ (Nat.le_of_ble_eq_true rfl) (by decide) ?_ ?_
    rotate_left
    · intro E τ' hq
      exact no (fun _ h => Or.inl h) E τ' hq
    intro v t1 hq
    obtain ⟨e, h1, h2⟩ := hq
    by_cases hr : (sBid a (findO a p true) q z).1 = 0
    rotate_left
    · rw [if_neg hr] at e; cases e
    rw [if_pos hr] at e
    cases e
    show V x t1 2 151 _ [aI (nI (sBid a (findO a p true) q z).2.1)]
    generalize sBid a (findO a p true) q z = R at *
    refine V_run hB (rt := none) (nL := 5) (mc := 12) rfl rfl rfl obX10_run_151 ?_
    dsimp only [bX10_run_151, ↓wpb, ↓wp1, ↓vI, ↓vL, ↓vD, ↓ldI, ↓ldL, ↓ldD, ↓ldR, ↓k1, ↓k2, ↓kI, ↓kL, ↓kD, ↓kII, ↓kLL, ↓kDD, ↓kR, ↓kIR, ↓kLR, ↓kIIR, ↓kLIR, ↓kDIR, ↓kRIR, ↓kNN, ↓kE, ↓br, ↓bn, ↓rtI, ↓gfv, ↓zchk, lput, ldel, lbad, alA, acat, isRf, dom, dS, dJ, isO, aTy, aLen, elAV, elR, Nat.reduceBEq, Nat.reduceAdd, Bool.or, Bool.and, Nat.add_zero, Nat.zero_add]
    try simp only [Nat.reduceLT, Nat.reduceLeDiff, Nat.reduceEqDiff, true_and, and_true, and_self, Nat.zero_le, Nat.le_refl, true_or, or_true, Bool.false_eq_true, not_false_eq_true, Nat.reduceAdd, Nat.lt_add_one, Nat.zero_lt_one, nI_add, pk_mul, ixL, vpL, ne_eq, reduceIte, wI_sN, wL_sM, sN_same, sN_K, sN_2, sM_1, sM_same, sM_K, sM_s, uI_at, uN_at, enc_at, uI_enc, uI_uI, upM_s, upM_n]
    refine V_run hB (rt := none) (nL := 5) (mc := 12) rfl rfl rfl obX10_run_182 ?_
    dsimp only [bX10_run_182, ↓wpb, ↓wp1, ↓vI, ↓vL, ↓vD, ↓ldI, ↓ldL, ↓ldD, ↓ldR, ↓k1, ↓k2, ↓kI, ↓kL, ↓kD, ↓kII, ↓kLL, ↓kDD, ↓kR, ↓kIR, ↓kLR, ↓kIIR, ↓kLIR, ↓kDIR, ↓kRIR, ↓kNN, ↓kE, ↓br, ↓bn, ↓rtI, ↓gfv, ↓zchk, lput, ldel, lbad, alA, acat, isRf, dom, dS, dJ, isO, aTy, aLen, elAV, elR, Nat.reduceBEq, Nat.reduceAdd, Bool.or, Bool.and, Nat.add_zero, Nat.zero_add]
    try simp only [Nat.reduceLT, Nat.reduceLeDiff, Nat.reduceEqDiff, true_and, and_true, and_self, Nat.zero_le, Nat.le_refl, true_or, or_true, Bool.false_eq_true, not_false_eq_true, Nat.reduceAdd, Nat.lt_add_one, Nat.zero_lt_one, nI_add, pk_mul, ixL, vpL, ne_eq, reduceIte, wI_sN, wL_sM, sN_same, sN_K, sN_2, sM_1, sM_same, sM_K, sM_s, uI_at, uN_at, enc_at, uI_enc, uI_uI, upM_s, upM_n]
    refine ⟨?_, h1, h2.mono (fun _ h => Or.inl h)⟩
    rw [if_pos hr]
  · refine V_tabI hB (dflt := 174) (lo := 1) (hi := 9) (offs := #[52, 67, 79, 92, 104, 116, 132, 147, 159]) (len := 52) (off := 147) (tgt := 155) (by decide +kernel) (by decide) (by decide) (by decide) (by decide) ?_
    have hB : Bd x l G iX10_run (runP [NSE, ISE] τ (sSel a (findO a p true))) := hB
    refine V_run hB (rt := none) (nL := 5) (mc := 12) rfl rfl rfl obX10_run_155 ?_
    dsimp only [bX10_run_155, ↓wpb, ↓wp1, ↓vI, ↓vL, ↓vD, ↓ldI, ↓ldL, ↓ldD, ↓ldR, ↓k1, ↓k2, ↓kI, ↓kL, ↓kD, ↓kII, ↓kLL, ↓kDD, ↓kR, ↓kIR, ↓kLR, ↓kIIR, ↓kLIR, ↓kDIR, ↓kRIR, ↓kNN, ↓kE, ↓br, ↓bn, ↓rtI, ↓gfv, ↓zchk, lput, ldel, lbad, alA, acat, isRf, dom, dS, dJ, isO, aTy, aLen, elAV, elR, Nat.reduceBEq, Nat.reduceAdd, Bool.or, Bool.and, Nat.add_zero, Nat.zero_add]
    try simp only [Nat.reduceLT, Nat.reduceLeDiff, Nat.reduceEqDiff, true_and, and_true, and_self, Nat.zero_le, Nat.le_refl, true_or, or_true, Bool.false_eq_true, not_false_eq_true, Nat.reduceAdd, Nat.lt_add_one, Nat.zero_lt_one, nI_add, pk_mul, ixL, vpL, ne_eq, reduceIte, wI_sN, wL_sM, sN_same, sN_K, sN_2, sM_1, sM_same, sM_K, sM_s, uI_at, uN_at, enc_at, uI_enc, uI_uI, upM_s, upM_n]
    refine V_callV hB hno (c_sell hc.1 hS hV hn p) rfl (by decide +kernel) cvX10_213 (dom1 rfl) npX9_sellLot ⟨by decide, by decide⟩ (Nat.le_of_ble_eq_true rfl) (by decide) ?_ ?_
    rotate_left
    · intro E τ' hq
      exact no (fun _ h => Or.inl h) E τ' hq
    intro v t1 hq
    obtain ⟨e, h1, h2⟩ := hq
    by_cases hr : (sSel a (findO a p true)).1 = 0
    rotate_left
    · rw [if_neg hr] at e; cases e
    rw [if_pos hr] at e
    cases e
    show V x t1 2 163 _ [aI (nI (sSel a (findO a p true)).2.1)]
    generalize sSel a (findO a p true) = R at *
    refine V_run hB (rt := none) (nL := 5) (mc := 12) rfl rfl rfl obX10_run_163 ?_
    dsimp only [bX10_run_163, ↓wpb, ↓wp1, ↓vI, ↓vL, ↓vD, ↓ldI, ↓ldL, ↓ldD, ↓ldR, ↓k1, ↓k2, ↓kI, ↓kL, ↓kD, ↓kII, ↓kLL, ↓kDD, ↓kR, ↓kIR, ↓kLR, ↓kIIR, ↓kLIR, ↓kDIR, ↓kRIR, ↓kNN, ↓kE, ↓br, ↓bn, ↓rtI, ↓gfv, ↓zchk, lput, ldel, lbad, alA, acat, isRf, dom, dS, dJ, isO, aTy, aLen, elAV, elR, Nat.reduceBEq, Nat.reduceAdd, Bool.or, Bool.and, Nat.add_zero, Nat.zero_add]
    try simp only [Nat.reduceLT, Nat.reduceLeDiff, Nat.reduceEqDiff, true_and, and_true, and_self, Nat.zero_le, Nat.le_refl, true_or, or_true, Bool.false_eq_true, not_false_eq_true, Nat.reduceAdd, Nat.lt_add_one, Nat.zero_lt_one, nI_add, pk_mul, ixL, vpL, ne_eq, reduceIte, wI_sN, wL_sM, sN_same, sN_K, sN_2, sM_1, sM_same, sM_K, sM_s, uI_at, uN_at, enc_at, uI_enc, uI_uI, upM_s, upM_n]
    refine V_run hB (rt := none) (nL := 5) (mc := 12) rfl rfl rfl obX10_run_182 ?_
    dsimp only [bX10_run_182, ↓wpb, ↓wp1, ↓vI, ↓vL, ↓vD, ↓ldI, ↓ldL, ↓ldD, ↓ldR, ↓k1, ↓k2, ↓kI, ↓kL, ↓kD, ↓kII, ↓kLL, ↓kDD, ↓kR, ↓kIR, ↓kLR, ↓kIIR, ↓kLIR, ↓kDIR, ↓kRIR, ↓kNN, ↓kE, ↓br, ↓bn, ↓rtI, ↓gfv, ↓zchk, lput, ldel, lbad, alA, acat, isRf, dom, dS, dJ, isO, aTy, aLen, elAV, elR, Nat.reduceBEq, Nat.reduceAdd, Bool.or, Bool.and, Nat.add_zero, Nat.zero_add]
    try simp only [Nat.reduceLT, Nat.reduceLeDiff, Nat.reduceEqDiff, true_and, and_true, and_self, Nat.zero_le, Nat.le_refl, true_or, or_true, Bool.false_eq_true, not_false_eq_true, Nat.reduceAdd, Nat.lt_add_one, Nat.zero_lt_one, nI_add, pk_mul, ixL, vpL, ne_eq, reduceIte, wI_sN, wL_sM, sN_same, sN_K, sN_2, sM_1, sM_same, sM_K, sM_s, uI_at, uN_at, enc_at, uI_enc, uI_uI, upM_s, upM_n]
    refine ⟨?_, h1, h2.mono (fun _ h => Or.inl h)⟩
    rw [if_pos hr]
  · refine V_tabI hB (dflt := 174) (lo := 1) (hi := 9) (offs := #[52, 67, 79, 92, 104, 116, 132, 147, 159]) (len := 52) (off := 159) (tgt := 167) (by decide +kernel) (by decide) (by decide) (by decide) (by decide) ?_
    have hB : Bd x l G iX10_run (runP [ISE] τ (sEve a)) := hB
    refine V_run hB (rt := none) (nL := 5) (mc := 12) rfl rfl rfl obX10_run_167 ?_
    dsimp only [bX10_run_167, ↓wpb, ↓wp1, ↓vI, ↓vL, ↓vD, ↓ldI, ↓ldL, ↓ldD, ↓ldR, ↓k1, ↓k2, ↓kI, ↓kL, ↓kD, ↓kII, ↓kLL, ↓kDD, ↓kR, ↓kIR, ↓kLR, ↓kIIR, ↓kLIR, ↓kDIR, ↓kRIR, ↓kNN, ↓kE, ↓br, ↓bn, ↓rtI, ↓gfv, ↓zchk, lput, ldel, lbad, alA, acat, isRf, dom, dS, dJ, isO, aTy, aLen, elAV, elR, Nat.reduceBEq, Nat.reduceAdd, Bool.or, Bool.and, Nat.add_zero, Nat.zero_add]
    try simp only [Nat.reduceLT, Nat.reduceLeDiff, Nat.reduceEqDiff, true_and, and_true, and_self, Nat.zero_le, Nat.le_refl, true_or, or_true, Bool.false_eq_true, not_false_eq_true, Nat.reduceAdd, Nat.lt_add_one, Nat.zero_lt_one, nI_add, pk_mul, ixL, vpL, ne_eq, reduceIte, wI_sN, wL_sM, sN_same, sN_K, sN_2, sM_1, sM_same, sM_K, sM_s, uI_at, uN_at, enc_at, uI_enc, uI_uI, upM_s, upM_n]
    refine V_callV hB hno (c_sellEve hc.1 hS hV hn) rfl (by decide +kernel) cvX10_216 (dom1 rfl) npX9_sellLotsOf ⟨by decide, by decide⟩ (Nat.le_of_ble_eq_true rfl) (by decide) ?_ ?_
    rotate_left
    · intro E τ' hq
      exact no (fun _ h => h) E τ' hq
    intro v t1 hq
    obtain ⟨e, h1, h2⟩ := hq
    by_cases hr : (sEve a).1 = 0
    rotate_left
    · rw [if_neg hr] at e; cases e
    rw [if_pos hr] at e
    cases e
    show V x t1 1 178 _ [aI (nI (sEve a).2.1)]
    generalize sEve a = R at *
    refine V_run hB (rt := none) (nL := 5) (mc := 12) rfl rfl rfl obX10_run_178 ?_
    dsimp only [bX10_run_178, ↓wpb, ↓wp1, ↓vI, ↓vL, ↓vD, ↓ldI, ↓ldL, ↓ldD, ↓ldR, ↓k1, ↓k2, ↓kI, ↓kL, ↓kD, ↓kII, ↓kLL, ↓kDD, ↓kR, ↓kIR, ↓kLR, ↓kIIR, ↓kLIR, ↓kDIR, ↓kRIR, ↓kNN, ↓kE, ↓br, ↓bn, ↓rtI, ↓gfv, ↓zchk, lput, ldel, lbad, alA, acat, isRf, dom, dS, dJ, isO, aTy, aLen, elAV, elR, Nat.reduceBEq, Nat.reduceAdd, Bool.or, Bool.and, Nat.add_zero, Nat.zero_add]
    try simp only [Nat.reduceLT, Nat.reduceLeDiff, Nat.reduceEqDiff, true_and, and_true, and_self, Nat.zero_le, Nat.le_refl, true_or, or_true, Bool.false_eq_true, not_false_eq_true, Nat.reduceAdd, Nat.lt_add_one, Nat.zero_lt_one, nI_add, pk_mul, ixL, vpL, ne_eq, reduceIte, wI_sN, wL_sM, sN_same, sN_K, sN_2, sM_1, sM_same, sM_K, sM_s, uI_at, uN_at, enc_at, uI_enc, uI_uI, upM_s, upM_n]
    refine V_run hB (rt := none) (nL := 5) (mc := 12) rfl rfl rfl obX10_run_182 ?_
    dsimp only [bX10_run_182, ↓wpb, ↓wp1, ↓vI, ↓vL, ↓vD, ↓ldI, ↓ldL, ↓ldD, ↓ldR, ↓k1, ↓k2, ↓kI, ↓kL, ↓kD, ↓kII, ↓kLL, ↓kDD, ↓kR, ↓kIR, ↓kLR, ↓kIIR, ↓kLIR, ↓kDIR, ↓kRIR, ↓kNN, ↓kE, ↓br, ↓bn, ↓rtI, ↓gfv, ↓zchk, lput, ldel, lbad, alA, acat, isRf, dom, dS, dJ, isO, aTy, aLen, elAV, elR, Nat.reduceBEq, Nat.reduceAdd, Bool.or, Bool.and, Nat.add_zero, Nat.zero_add]
    try simp only [Nat.reduceLT, Nat.reduceLeDiff, Nat.reduceEqDiff, true_and, and_true, and_self, Nat.zero_le, Nat.le_refl, true_or, or_true, Bool.false_eq_true, not_false_eq_true, Nat.reduceAdd, Nat.lt_add_one, Nat.zero_lt_one, nI_add, pk_mul, ixL, vpL, ne_eq, reduceIte, wI_sN, wL_sM, sN_same, sN_K, sN_2, sM_1, sM_same, sM_K, sM_s, uI_at, uN_at, enc_at, uI_enc, uI_uI, upM_s, upM_n]
    refine ⟨?_, h1, h2.mono (fun _ h => h)⟩
    rw [if_pos hr]
end H7
