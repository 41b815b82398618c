/-! ===== the slip: the class's own methods ===== -/
section OW
variable {l : Launch} {G : GG} {τ : Mem}
theorem V_ldcw {x : Cx} {y : MI} {Φ : AOut → Mem → Prop} {n pc k : Nat} {al : Al} {r : List AV} (hB : Bd x l G y Φ) (hS : SlF G) (hk : k < 3) (hy : y.1.cls = RX10) (hd : decode y.2.1 pc = .ok (.ldc_w (slK k), 3)) (kk : V x τ n (pc + 3) al (.inr (65, k, 0) :: r)) : V x τ n pc al r := by
  obtain ⟨hg, rfl, rfl, rfl, rfl⟩ := hB
  obtain ⟨l, G, p, e, s, m, args, below, meth, c, y, Φ⟩ := x
  obtain ⟨hx, hb, hown, hts, hml, hlk, hret, hstt, hG, hX⟩ := hg
  intro H locs ls hW hS2 hL T hT X
  obtain ⟨h1, h2⟩ := ((hS _ _ hX).2.2.1 k hk).1
  obtain ⟨t, a1, b1⟩ := kk H locs ls hW hS2 hL T hT X
  have hown : s.vm.findClass RX10 = some m.cls := by rw [← hy]; exact hown
  exact ⟨t, X.ldcStringW hx hown (show (Cond.stringRef RX10 (slK k) (slX k)).before args s = true from h1) (show (Term.string RX10 (slK k)).eval args s none [] s = some (.ref (G.2.1 (65, k, 0))) from h2) (g := F0 m pc ls (r.map (conc G))) rfl (by rw [hb]; exact hd) t a1, b1⟩
/-- the slip holds a text -/
def SlS (τ τ' : Mem) (L : List Nat) : Prop := ∃ v c tt, τ' = sbU τ v c L.length tt ∧ ∀ j c, L[j]? = some c → tt j = c
theorem SlS.e {τ' : Mem} {L : List Nat} (h : SlS τ τ' L) : τ'.1 = τ.1 := by obtain ⟨v, c, tt, rfl, -⟩ := h; rfl
theorem SlS.e2 {τ' : Mem} {L : List Nat} (h : SlS τ τ' L) : τ'.2.1 = τ.2.1 := by obtain ⟨v, c, tt, rfl, -⟩ := h; rfl
theorem SlS.n {τ' : Mem} {L : List Nat} (h : SlS τ τ' L) : τ'.2.2.2.2.1 = L.length := by obtain ⟨v, c, tt, rfl, -⟩ := h; rfl
theorem SlS.tr {τ1 τ2 : Mem} {L1 L2 : List Nat} (h : SlS τ τ1 L1) (h2 : SlS τ1 τ2 L2) : SlS τ τ2 L2 := by
  obtain ⟨v, c, tt, rfl, -⟩ := h
  obtain ⟨v2, c2, t2, rfl, h3⟩ := h2
  exact ⟨v2, c2, t2, rfl, h3⟩
theorem SlS.rf {τ1 : Mem} {L : List Nat} (h : SlS τ τ1 L) : SlS τ1 τ1 L := by
  obtain ⟨v, c, tt, rfl, h3⟩ := h
  exact ⟨v, c, tt, rfl, h3⟩
theorem SlS.app {τ1 τ2 : Mem} {L ts : List Nat} (h : SlS τ τ1 L) (ha : SbA τ1 ts τ2) : SlS τ τ2 (L ++ ts) := by
  obtain ⟨v, c, tt, rfl, h3⟩ := h
  obtain ⟨v2, c2, t2, rfl, h4, h5⟩ := ha
  refine ⟨v2, c2, t2, by rw [List.length_append]; rfl, fun j c hj => ?_⟩
  have h4 : ∀ j, j < L.length → t2 j = tt j := h4
  have h5 : ∀ j c, ts[j]? = some c → t2 (L.length + j) = c := h5
  by_cases hl : j < L.length
  · rw [List.getElem?_append_left hl] at hj
    exact (h4 j hl).trans (h3 j c hj)
  · rw [List.getElem?_append_right (by omega)] at hj
    have := h5 _ _ hj
    rwa [show L.length + (j - L.length) = j by omega] at this
def SlO (τ : Mem) (L : List Nat) : AOut → Mem → Prop := fun o τ' => o = .inl none ∧ SlS τ τ' L
theorem CTX {hc : CtxE l G} : Ctx l G := hc.1
variable {a π : Nat → Nat}
theorem x_dueDay (hc : CtxE l G) (hSf : SlF G) (hS : ShP τ 0 a π) {i : Nat} (h10 : a 4 ≤ 10) (hi : i < a 4) {L : List Nat} (hL : SlS τ τ L) (hl : L.length + 12 ≤ 99) (hd : it a i 6 < 100000) (ha0 : a 0 < 100000) :
    Sat l G iX10_appendDueDay [moM, .inr (5, 0, π i)] τ (SlO τ (L ++ ([32, 98, 121, 32] ++ dgL (it a i 6) ++ (if it a i 6 = a 0 then [63] else [])))) := by
  have d6 := dg5 hd
  have hc0 := hc.1
  refine Sat_of hc0.1 hc0.2 (by decide +kernel) (Nat.le_of_ble_eq_true rfl) (fun x hB hno => ?_)
  have ix : (nI i).toNatClampNeg = i := ixL (by omega)
  have vx : vp_in (nI i) 10 = True := vpL (by omega) (by omega)
  obtain ⟨hp, rp⟩ := hS.2.2.2.1 i (by omega)
  have ip : (nI (π i)).toNatClampNeg = π i := ixL (by omega)
  obtain ⟨⟨f0, f1, f2, f3, f4, f5, f6⟩, fb⟩ := hS.2.2.2.2.2 i (by omega)
  refine V_run hB (rt := none) (nL := 2) (mc := 60) rfl rfl rfl (ops := [(0, .aload_n 0, 1, (0, 0, 0, 0, 0, 0), 0), (1, .getfield 54, 3, (1, 7, 2, 50, 0, 0), 0)]) (by decide +kernel) ?_
  dsimp only [↓wpb, ↓wp1, ↓vI, ↓vL, ↓vD, ↓ldI, ↓ldL, ↓ldD, ↓ldR, ↓k1, ↓k2, ↓kI, ↓kL, ↓kD, ↓kII, ↓kLL, ↓kDD, ↓kR, ↓kIR, ↓kLR, ↓kIIR, ↓kLIR, ↓kDIR, ↓kRIR, ↓kNN, ↓kE, ↓br, ↓bn, ↓rtI, ↓gfv, ↓zchk, lput, ldel, lbad, alA, acat, isRf, dom, dS, dJ, isO, aTy, aLen, elAV, elR, Nat.reduceBEq, Nat.reduceAdd, Bool.or, Bool.and, Nat.add_zero, Nat.zero_add]
  try simp only [Nat.reduceLT, Nat.reduceLeDiff, Nat.reduceEqDiff, true_and, and_true, and_self, Nat.zero_le, Nat.le_refl, true_or, or_true, Bool.false_eq_true, not_false_eq_true, Nat.reduceAdd, Nat.lt_add_one, Nat.zero_lt_one, nI_add, pk_mul, ixL, vpL, ne_eq, reduceIte, wI_sN, wL_sM, sN_same, sN_K, sN_2, sM_1, sM_same, sM_K, sM_s, uI_at, uN_at, enc_at, uI_enc, uI_uI, upM_s, upM_n]
  refine V_ldcw hB hSf (k := 1) (by decide) rfl (by decide +kernel) ?_
  refine V_callSB hB hno (p_appS hc hSf (k := 1) (by decide) (by rw [hL.n]; show L.length + 4 ≤ 99; omega)) rfl rfl (by decide +kernel) ck5X10_295 npJ4_append_15ec4 ⟨by decide, by decide⟩ (Nat.le_of_ble_eq_true rfl) (by decide) (fun w t1 hh => ?_) (fun E τ' hh => by cases hh.1)
  obtain ⟨e, hh⟩ := hh
  cases e
  have h1 := hL.app hh
  have e1 := h1.e
  show V x t1 20 10 _ [sbM]
  refine V_run hB (rt := none) (nL := 2) (mc := 60) rfl rfl rfl (ops := [(10, .aload_n 1, 1, (1, 0, 0, 0, 0, 0), 0), (11, .getfield 163, 3, (5, 5, 0, 0, 0, 0), 0)]) (by decide +kernel) ?_
  dsimp only [↓wpb, ↓wp1, ↓vI, ↓vL, ↓vD, ↓ldI, ↓ldL, ↓ldD, ↓ldR, ↓k1, ↓k2, ↓kI, ↓kL, ↓kD, ↓kII, ↓kLL, ↓kDD, ↓kR, ↓kIR, ↓kLR, ↓kIIR, ↓kLIR, ↓kDIR, ↓kRIR, ↓kNN, ↓kE, ↓br, ↓bn, ↓rtI, ↓gfv, ↓zchk, lput, ldel, lbad, alA, acat, isRf, dom, dS, dJ, isO, aTy, aLen, elAV, elR, Nat.reduceBEq, Nat.reduceAdd, Bool.or, Bool.and, Nat.add_zero, Nat.zero_add]
  try simp only [Nat.reduceLT, Nat.reduceLeDiff, Nat.reduceEqDiff, true_and, and_true, and_self, Nat.zero_le, Nat.le_refl, true_or, or_true, Bool.false_eq_true, not_false_eq_true, Nat.reduceAdd, Nat.lt_add_one, Nat.zero_lt_one, nI_add, pk_mul, ixL, vpL, ne_eq, reduceIte, wI_sN, wL_sM, sN_same, sN_K, sN_2, sM_1, sM_same, sM_K, sM_s, uI_at, uN_at, enc_at, uI_enc, uI_uI, upM_s, upM_n, e1, ix, vx, hp, rp, ip, f0, f1, f2, f3, f4, f5, f6]
  refine V_callSB hB hno (p_appI hc hSf hd (by rw [h1.n, List.length_append]; show L.length + 4 + _ ≤ 99; omega)) rfl rfl (by decide +kernel) ck5X10_290 npJ4_append_bf812 ⟨by decide, by decide⟩ (Nat.le_of_ble_eq_true rfl) (by decide) (fun w t2 hh => ?_) (fun E τ' hh => by cases hh.1)
  obtain ⟨e, hh⟩ := hh
  cases e
  have h2 := h1.app hh
  have e2 := h2.e
  have ec : τ.1 (3, 0, 0) 0 = nI (a 0) := hS.2.1.1
  show V x t2 40 17 _ [sbM]
  refine V_run hB (rt := none) (nL := 2) (mc := 60) rfl rfl rfl (ops := [(17, .pop, 1, (0, 0, 0, 0, 0, 0), 0), (18, .aload_n 1, 1, (1, 0, 0, 0, 0, 0), 0), (19, .getfield 163, 3, (5, 5, 0, 0, 0, 0), 0), (22, .aload_n 0, 1, (0, 0, 0, 0, 0, 0), 0), (23, .getfield 12, 3, (1, 0, 2, 2, 0, 0), 0), (26, .getfield 90, 3, (2, 0, 2, 3, 0, 0), 0), (29, .getfield 99, 3, (3, 0, 0, 0, 0, 0), 0), (32, .if_icmp .ne 13, 3, (45, 0, 0, 0, 0, 0), 0)]) (by decide +kernel) ?_
  dsimp only [↓wpb, ↓wp1, ↓vI, ↓vL, ↓vD, ↓ldI, ↓ldL, ↓ldD, ↓ldR, ↓k1, ↓k2, ↓kI, ↓kL, ↓kD, ↓kII, ↓kLL, ↓kDD, ↓kR, ↓kIR, ↓kLR, ↓kIIR, ↓kLIR, ↓kDIR, ↓kRIR, ↓kNN, ↓kE, ↓br, ↓bn, ↓rtI, ↓gfv, ↓zchk, lput, ldel, lbad, alA, acat, isRf, dom, dS, dJ, isO, aTy, aLen, elAV, elR, Nat.reduceBEq, Nat.reduceAdd, Bool.or, Bool.and, Nat.add_zero, Nat.zero_add]
  try simp only [Nat.reduceLT, Nat.reduceLeDiff, Nat.reduceEqDiff, true_and, and_true, and_self, Nat.zero_le, Nat.le_refl, true_or, or_true, Bool.false_eq_true, not_false_eq_true, Nat.reduceAdd, Nat.lt_add_one, Nat.zero_lt_one, nI_add, pk_mul, ixL, vpL, ne_eq, reduceIte, wI_sN, wL_sM, sN_same, sN_K, sN_2, sM_1, sM_same, sM_K, sM_s, uI_at, uN_at, enc_at, uI_enc, uI_uI, upM_s, upM_n, e2, ec, ix, vx, hp, rp, ip, f0, f1, f2, f3, f4, f5, f6]
  refine ⟨fun q => ?_, fun q => ?_⟩
  · have hne : ¬ it a i 6 = a 0 := fun z => q (by rw [z])
    rw [if_neg hne] at hB
    refine V_run hB (rt := none) (nL := 2) (mc := 60) rfl rfl rfl (ops := [(45, .return_, 1, (0, 0, 0, 0, 0, 0), 0)]) (by decide +kernel) ?_
    dsimp only [↓wpb, ↓wp1, ↓vI, ↓vL, ↓vD, ↓ldI, ↓ldL, ↓ldD, ↓ldR, ↓k1, ↓k2, ↓kI, ↓kL, ↓kD, ↓kII, ↓kLL, ↓kDD, ↓kR, ↓kIR, ↓kLR, ↓kIIR, ↓kLIR, ↓kDIR, ↓kRIR, ↓kNN, ↓kE, ↓br, ↓bn, ↓rtI, ↓gfv, ↓zchk, lput, ldel, lbad, alA, acat, isRf, dom, dS, dJ, isO, aTy, aLen, elAV, elR, Nat.reduceBEq, Nat.reduceAdd, Bool.or, Bool.and, Nat.add_zero, Nat.zero_add]
    try simp only [Nat.reduceLT, Nat.reduceLeDiff, Nat.reduceEqDiff, true_and, and_true, and_self, Nat.zero_le, Nat.le_refl, true_or, or_true, Bool.false_eq_true, not_false_eq_true, Nat.reduceAdd, Nat.lt_add_one, Nat.zero_lt_one, nI_add, pk_mul, ixL, vpL, ne_eq, reduceIte, wI_sN, wL_sM, sN_same, sN_K, sN_2, sM_1, sM_same, sM_K, sM_s, uI_at, uN_at, enc_at, uI_enc, uI_uI, upM_s, upM_n]
    refine ⟨rfl, ?_⟩
    rw [List.append_nil, ← List.append_assoc]
    exact h2
  · have heq : it a i 6 = a 0 := (nI_eq (by omega) (by omega)).mp q
    rw [if_pos heq] at hB
    refine V_run hB (rt := none) (nL := 2) (mc := 60) rfl rfl rfl (ops := [(35, .aload_n 0, 1, (0, 0, 0, 0, 0, 0), 0), (36, .getfield 54, 3, (1, 7, 2, 50, 0, 0), 0), (39, .bipush 63, 2, (0, 0, 0, 0, 0, 0), nI 63)]) (by decide +kernel) ?_
    dsimp only [↓wpb, ↓wp1, ↓vI, ↓vL, ↓vD, ↓ldI, ↓ldL, ↓ldD, ↓ldR, ↓k1, ↓k2, ↓kI, ↓kL, ↓kD, ↓kII, ↓kLL, ↓kDD, ↓kR, ↓kIR, ↓kLR, ↓kIIR, ↓kLIR, ↓kDIR, ↓kRIR, ↓kNN, ↓kE, ↓br, ↓bn, ↓rtI, ↓gfv, ↓zchk, lput, ldel, lbad, alA, acat, isRf, dom, dS, dJ, isO, aTy, aLen, elAV, elR, Nat.reduceBEq, Nat.reduceAdd, Bool.or, Bool.and, Nat.add_zero, Nat.zero_add]
    try simp only [Nat.reduceLT, Nat.reduceLeDiff, Nat.reduceEqDiff, true_and, and_true, and_self, Nat.zero_le, Nat.le_refl, true_or, or_true, Bool.false_eq_true, not_false_eq_true, Nat.reduceAdd, Nat.lt_add_one, Nat.zero_lt_one, nI_add, pk_mul, ixL, vpL, ne_eq, reduceIte, wI_sN, wL_sM, sN_same, sN_K, sN_2, sM_1, sM_same, sM_K, sM_s, uI_at, uN_at, enc_at, uI_enc, uI_uI, upM_s, upM_n]
    refine V_callSB hB hno (p_appC hc hSf (c := 63) (by decide) (by rw [h2.n, List.length_append, List.length_append, dgL_len5]; show L.length + 4 + _ + 1 ≤ 99; omega)) rfl rfl (by decide +kernel) ck5X10_286 npJ4_append_cf468 ⟨by decide, by decide⟩ (Nat.le_of_ble_eq_true rfl) (by decide) (fun w t3 hh => ?_) (fun E τ' hh => by cases hh.1)
    obtain ⟨e, hh⟩ := hh
    cases e
    have h3 := h2.app hh
    show V x t3 60 44 _ [sbM]
    refine V_run hB (rt := none) (nL := 2) (mc := 60) rfl rfl rfl (ops := [(44, .pop, 1, (0, 0, 0, 0, 0, 0), 0), (45, .return_, 1, (0, 0, 0, 0, 0, 0), 0)]) (by decide +kernel) ?_
    dsimp only [↓wpb, ↓wp1, ↓vI, ↓vL, ↓vD, ↓ldI, ↓ldL, ↓ldD, ↓ldR, ↓k1, ↓k2, ↓kI, ↓kL, ↓kD, ↓kII, ↓kLL, ↓kDD, ↓kR, ↓kIR, ↓kLR, ↓kIIR, ↓kLIR, ↓kDIR, ↓kRIR, ↓kNN, ↓kE, ↓br, ↓bn, ↓rtI, ↓gfv, ↓zchk, lput, ldel, lbad, alA, acat, isRf, dom, dS, dJ, isO, aTy, aLen, elAV, elR, Nat.reduceBEq, Nat.reduceAdd, Bool.or, Bool.and, Nat.add_zero, Nat.zero_add]
    try simp only [Nat.reduceLT, Nat.reduceLeDiff, Nat.reduceEqDiff, true_and, and_true, and_self, Nat.zero_le, Nat.le_refl, true_or, or_true, Bool.false_eq_true, not_false_eq_true, Nat.reduceAdd, Nat.lt_add_one, Nat.zero_lt_one, nI_add, pk_mul, ixL, vpL, ne_eq, reduceIte, wI_sN, wL_sM, sN_same, sN_K, sN_2, sM_1, sM_same, sM_K, sM_s, uI_at, uN_at, enc_at, uI_enc, uI_uI, upM_s, upM_n]
    refine ⟨rfl, ?_⟩
    rw [← List.append_assoc, ← List.append_assoc]
    exact h3
theorem dgL1 : ∀ b, b < 5 → dgL b = [48 + b] := by decide +kernel
theorem x_bids (hc : CtxE l G) (hSf : SlF G) (hS : ShP τ 0 a π) {i : Nat} (h10 : a 4 ≤ 10) (hi : i < a 4) (hlot : it a i 1 = 1) (hb9 : ∀ b, b < 5 → it a i (7 + b) ≤ 999) {L : List Nat} (hL : SlS τ τ L) (hl : L.length + 40 ≤ 99) :
    Sat l G iX10_appendBids [moM, .inr (5, 0, π i)] τ (SlO τ (L ++ ([32, 108, 111, 116] ++ bidsL a i 5))) := by
  have hc0 := hc.1
  refine Sat_of hc0.1 hc0.2 (by decide +kernel) (Nat.le_of_ble_eq_true rfl) (fun x hB hno => ?_)
  have ix : (nI i).toNatClampNeg = i := ixL (by omega)
  have vx : vp_in (nI i) 10 = True := vpL (by omega) (by omega)
  obtain ⟨hp, rp⟩ := hS.2.2.2.1 i (by omega)
  have ip : (nI (π i)).toNatClampNeg = π i := ixL (by omega)
  obtain ⟨⟨f0, f1, f2, f3, f4, f5, f6⟩, fb⟩ := hS.2.2.2.2.2 i (by omega)
  have fb := fb hlot
  have loop : ∀ m b t1 al, b + m = 5 → SlS τ t1 (L ++ ([32, 108, 111, 116] ++ bidsL a i b)) → (∀ z ∈ ([(0, moM), (1, .inr (5, 0, π i)), (2, aI (nI b))] : Al), lk al z.1 = some z.2) → V x t1 (20 + 80 * b) 13 al [] := by
    intro m
    induction m with
    | zero =>
      intro b t1 al hbm h1 hal
      obtain rfl : b = 5 := by omega
      refine V.sub ?_ hal
      refine V_run hB (rt := none) (nL := 3) (mc := 450) rfl rfl rfl (ops := [(13, .iload_n 2, 1, (2, 0, 0, 0, 0, 0), 0), (14, .iconst 5, 1, (0, 0, 0, 0, 0, 0), nI 5), (15, .if_icmp .ge 46, 3, (61, 0, 0, 0, 0, 0), 0)]) (by decide +kernel) ?_
      dsimp only [↓wpb, ↓wp1, ↓vI, ↓vL, ↓vD, ↓ldI, ↓ldL, ↓ldD, ↓ldR, ↓k1, ↓k2, ↓kI, ↓kL, ↓kD, ↓kII, ↓kLL, ↓kDD, ↓kR, ↓kIR, ↓kLR, ↓kIIR, ↓kLIR, ↓kDIR, ↓kRIR, ↓kNN, ↓kE, ↓br, ↓bn, ↓rtI, ↓gfv, ↓zchk, lput, ldel, lbad, alA, acat, isRf, dom, dS, dJ, isO, aTy, aLen, elAV, elR, Nat.reduceBEq, Nat.reduceAdd, Bool.or, Bool.and, Nat.add_zero, Nat.zero_add]
      try simp only [Nat.reduceLT, Nat.reduceLeDiff, Nat.reduceEqDiff, true_and, and_true, and_self, Nat.zero_le, Nat.le_refl, true_or, or_true, Bool.false_eq_true, not_false_eq_true, Nat.reduceAdd, Nat.lt_add_one, Nat.zero_lt_one, nI_add, pk_mul, ixL, vpL, ne_eq, reduceIte, wI_sN, wL_sM, sN_same, sN_K, sN_2, sM_1, sM_same, sM_K, sM_s, uI_at, uN_at, enc_at, uI_enc, uI_uI, upM_s, upM_n]
      refine ⟨fun _ => ?_, fun q => absurd (Int32.le_refl _) q⟩
      refine V_run hB (rt := none) (nL := 3) (mc := 450) rfl rfl rfl (ops := [(61, .return_, 1, (0, 0, 0, 0, 0, 0), 0)]) (by decide +kernel) ?_
      dsimp only [↓wpb, ↓wp1, ↓vI, ↓vL, ↓vD, ↓ldI, ↓ldL, ↓ldD, ↓ldR, ↓k1, ↓k2, ↓kI, ↓kL, ↓kD, ↓kII, ↓kLL, ↓kDD, ↓kR, ↓kIR, ↓kLR, ↓kIIR, ↓kLIR, ↓kDIR, ↓kRIR, ↓kNN, ↓kE, ↓br, ↓bn, ↓rtI, ↓gfv, ↓zchk, lput, ldel, lbad, alA, acat, isRf, dom, dS, dJ, isO, aTy, aLen, elAV, elR, Nat.reduceBEq, Nat.reduceAdd, Bool.or, Bool.and, Nat.add_zero, Nat.zero_add]
      try simp only [Nat.reduceLT, Nat.reduceLeDiff, Nat.reduceEqDiff, true_and, and_true, and_self, Nat.zero_le, Nat.le_refl, true_or, or_true, Bool.false_eq_true, not_false_eq_true, Nat.reduceAdd, Nat.lt_add_one, Nat.zero_lt_one, nI_add, pk_mul, ixL, vpL, ne_eq, reduceIte, wI_sN, wL_sM, sN_same, sN_K, sN_2, sM_1, sM_same, sM_K, sM_s, uI_at, uN_at, enc_at, uI_enc, uI_uI, upM_s, upM_n]
      exact ⟨by decide, rfl, h1⟩
    | succ m ih =>
      intro b t1 al hbm h1 hal
      have hb5 : b < 5 := by omega
      have e1 := h1.e
      have hlen : (L ++ ([32, 108, 111, 116] ++ bidsL a i b)).length ≤ L.length + 4 + 6 * b := by
        have := bidsL_len hb9 b (by omega)
        rw [List.length_append, List.length_append]
        show L.length + (4 + _) ≤ _
        omega
      have hz := hb9 b hb5
      have ev := fb b hb5
      have ib : (nI b).toNatClampNeg = b := ixL (by omega)
      have vb : vp_in (nI b) 5 = True := vpL (by omega) (by omega)
      refine V.sub ?_ hal
      refine V_run hB (rt := none) (nL := 3) (mc := 450) rfl rfl rfl (ops := [(13, .iload_n 2, 1, (2, 0, 0, 0, 0, 0), 0), (14, .iconst 5, 1, (0, 0, 0, 0, 0, 0), nI 5), (15, .if_icmp .ge 46, 3, (61, 0, 0, 0, 0, 0), 0)]) (by decide +kernel) ?_
      dsimp only [↓wpb, ↓wp1, ↓vI, ↓vL, ↓vD, ↓ldI, ↓ldL, ↓ldD, ↓ldR, ↓k1, ↓k2, ↓kI, ↓kL, ↓kD, ↓kII, ↓kLL, ↓kDD, ↓kR, ↓kIR, ↓kLR, ↓kIIR, ↓kLIR, ↓kDIR, ↓kRIR, ↓kNN, ↓kE, ↓br, ↓bn, ↓rtI, ↓gfv, ↓zchk, lput, ldel, lbad, alA, acat, isRf, dom, dS, dJ, isO, aTy, aLen, elAV, elR, Nat.reduceBEq, Nat.reduceAdd, Bool.or, Bool.and, Nat.add_zero, Nat.zero_add]
      try simp only [Nat.reduceLT, Nat.reduceLeDiff, Nat.reduceEqDiff, true_and, and_true, and_self, Nat.zero_le, Nat.le_refl, true_or, or_true, Bool.false_eq_true, not_false_eq_true, Nat.reduceAdd, Nat.lt_add_one, Nat.zero_lt_one, nI_add, pk_mul, ixL, vpL, ne_eq, reduceIte, wI_sN, wL_sM, sN_same, sN_K, sN_2, sM_1, sM_same, sM_K, sM_s, uI_at, uN_at, enc_at, uI_enc, uI_uI, upM_s, upM_n]
      refine ⟨fun q => absurd ((nI_leI (by omega) (by omega)).mp q) (by omega), fun _ => ?_⟩
      refine V_run hB (rt := none) (nL := 3) (mc := 450) rfl rfl rfl (ops := [(18, .aload_n 1, 1, (1, 0, 0, 0, 0, 0), 0), (19, .getfield 227, 3, (5, 7, 2, 12, 0, 0), 0), (22, .iload_n 2, 1, (2, 0, 0, 0, 0, 0), 0), (23, .iaload, 1, (0, 0, 0, 0, 0, 0), 0), (24, .ifCond .le 31, 3, (55, 0, 0, 0, 0, 0), 0)]) (by decide +kernel) ?_
      dsimp only [↓wpb, ↓wp1, ↓vI, ↓vL, ↓vD, ↓ldI, ↓ldL, ↓ldD, ↓ldR, ↓k1, ↓k2, ↓kI, ↓kL, ↓kD, ↓kII, ↓kLL, ↓kDD, ↓kR, ↓kIR, ↓kLR, ↓kIIR, ↓kLIR, ↓kDIR, ↓kRIR, ↓kNN, ↓kE, ↓br, ↓bn, ↓rtI, ↓gfv, ↓zchk, lput, ldel, lbad, alA, acat, isRf, dom, dS, dJ, isO, aTy, aLen, elAV, elR, Nat.reduceBEq, Nat.reduceAdd, Bool.or, Bool.and, Nat.add_zero, Nat.zero_add]
      try simp only [Nat.reduceLT, Nat.reduceLeDiff, Nat.reduceEqDiff, true_and, and_true, and_self, Nat.zero_le, Nat.le_refl, true_or, or_true, Bool.false_eq_true, not_false_eq_true, Nat.reduceAdd, Nat.lt_add_one, Nat.zero_lt_one, nI_add, pk_mul, ixL, vpL, ne_eq, reduceIte, wI_sN, wL_sM, sN_same, sN_K, sN_2, sM_1, sM_same, sM_K, sM_s, uI_at, uN_at, enc_at, uI_enc, uI_uI, upM_s, upM_n, e1, ib, vb, ev, ix, vx, hp, rp, ip, f0, f1, f2, f3, f4, f5, f6]
      refine ⟨fun q => ?_, fun q => ?_⟩
      · have h0 : it a i (7 + b) = 0 := by
          have := (nI_leI (a := it a i (7 + b)) (b := 0) (by omega) (by decide)).mp q
          omega
        refine V_run hB (rt := none) (nL := 3) (mc := 450) rfl rfl rfl (ops := [(55, .iinc 2 1, 3, (2, 0, 0, 0, 0, 0), nI 1), (58, .goto (-45), 3, (13, 0, 0, 0, 0, 0), 0)]) (by decide +kernel) ?_
        dsimp only [↓wpb, ↓wp1, ↓vI, ↓vL, ↓vD, ↓ldI, ↓ldL, ↓ldD, ↓ldR, ↓k1, ↓k2, ↓kI, ↓kL, ↓kD, ↓kII, ↓kLL, ↓kDD, ↓kR, ↓kIR, ↓kLR, ↓kIIR, ↓kLIR, ↓kDIR, ↓kRIR, ↓kNN, ↓kE, ↓br, ↓bn, ↓rtI, ↓gfv, ↓zchk, lput, ldel, lbad, alA, acat, isRf, dom, dS, dJ, isO, aTy, aLen, elAV, elR, Nat.reduceBEq, Nat.reduceAdd, Bool.or, Bool.and, Nat.add_zero, Nat.zero_add]
        try simp only [Nat.reduceLT, Nat.reduceLeDiff, Nat.reduceEqDiff, true_and, and_true, and_self, Nat.zero_le, Nat.le_refl, true_or, or_true, Bool.false_eq_true, not_false_eq_true, Nat.reduceAdd, Nat.lt_add_one, Nat.zero_lt_one, nI_add, pk_mul, ixL, vpL, ne_eq, reduceIte, wI_sN, wL_sM, sN_same, sN_K, sN_2, sM_1, sM_same, sM_K, sM_s, uI_at, uN_at, enc_at, uI_enc, uI_uI, upM_s, upM_n]
        refine V.widen (show 20 + 80 * b ≤ 20 + 80 * (b + 1) by omega) (ih (b + 1) t1 _ (by omega) ?_ (List.forall_mem_cons.mpr ⟨rfl, List.forall_mem_cons.mpr ⟨rfl, List.forall_mem_cons.mpr ⟨rfl, fun _ h => absurd h List.not_mem_nil⟩⟩⟩))
        show SlS τ t1 (L ++ ([32, 108, 111, 116] ++ (bidsL a i b ++ (if it a i (7 + b) = 0 then [] else [32, 48 + b, 58] ++ dgL (it a i (7 + b))))))
        rw [if_pos h0, List.append_nil]
        exact h1
      · have h0 : ¬ it a i (7 + b) = 0 := fun z => q (by rw [z]; exact Int32.le_refl _)
        have dz := dg5 (show it a i (7 + b) < 100000 by omega)
        have dz3 : sb_dg (it a i (7 + b)) ≤ 3 := by
          unfold sb_dg
          (repeat' split) <;> omega
        refine V_run hB (rt := none) (nL := 3) (mc := 450) rfl rfl rfl (ops := [(27, .aload_n 0, 1, (0, 0, 0, 0, 0, 0), 0), (28, .getfield 54, 3, (1, 7, 2, 50, 0, 0), 0), (31, .bipush 32, 2, (0, 0, 0, 0, 0, 0), nI 32)]) (by decide +kernel) ?_
        dsimp only [↓wpb, ↓wp1, ↓vI, ↓vL, ↓vD, ↓ldI, ↓ldL, ↓ldD, ↓ldR, ↓k1, ↓k2, ↓kI, ↓kL, ↓kD, ↓kII, ↓kLL, ↓kDD, ↓kR, ↓kIR, ↓kLR, ↓kIIR, ↓kLIR, ↓kDIR, ↓kRIR, ↓kNN, ↓kE, ↓br, ↓bn, ↓rtI, ↓gfv, ↓zchk, lput, ldel, lbad, alA, acat, isRf, dom, dS, dJ, isO, aTy, aLen, elAV, elR, Nat.reduceBEq, Nat.reduceAdd, Bool.or, Bool.and, Nat.add_zero, Nat.zero_add]
        try simp only [Nat.reduceLT, Nat.reduceLeDiff, Nat.reduceEqDiff, true_and, and_true, and_self, Nat.zero_le, Nat.le_refl, true_or, or_true, Bool.false_eq_true, not_false_eq_true, Nat.reduceAdd, Nat.lt_add_one, Nat.zero_lt_one, nI_add, pk_mul, ixL, vpL, ne_eq, reduceIte, wI_sN, wL_sM, sN_same, sN_K, sN_2, sM_1, sM_same, sM_K, sM_s, uI_at, uN_at, enc_at, uI_enc, uI_uI, upM_s, upM_n]
        refine V_callSB hB hno (p_appC hc hSf (c := 32) (by decide) (by rw [h1.n]; omega)) rfl rfl (by decide +kernel) ck5X10_286 npJ4_append_cf468 ⟨by decide, by decide⟩ (Nat.le_of_ble_eq_true rfl) (show 20 + 80 * b + 20 ≤ 450 by omega) (fun w t2 hh => ?_) (fun E τ' hh => by cases hh.1)
        obtain ⟨e, hh⟩ := hh
        cases e
        have h2 := h1.app hh
        have e2 := h2.e
        show V x t2 (20 + 80 * b + 20) 36 _ [sbM]
        refine V_run hB (rt := none) (nL := 3) (mc := 450) rfl rfl rfl (ops := [(36, .iload_n 2, 1, (2, 0, 0, 0, 0, 0), 0)]) (by decide +kernel) ?_
        dsimp only [↓wpb, ↓wp1, ↓vI, ↓vL, ↓vD, ↓ldI, ↓ldL, ↓ldD, ↓ldR, ↓k1, ↓k2, ↓kI, ↓kL, ↓kD, ↓kII, ↓kLL, ↓kDD, ↓kR, ↓kIR, ↓kLR, ↓kIIR, ↓kLIR, ↓kDIR, ↓kRIR, ↓kNN, ↓kE, ↓br, ↓bn, ↓rtI, ↓gfv, ↓zchk, lput, ldel, lbad, alA, acat, isRf, dom, dS, dJ, isO, aTy, aLen, elAV, elR, Nat.reduceBEq, Nat.reduceAdd, Bool.or, Bool.and, Nat.add_zero, Nat.zero_add]
        try simp only [Nat.reduceLT, Nat.reduceLeDiff, Nat.reduceEqDiff, true_and, and_true, and_self, Nat.zero_le, Nat.le_refl, true_or, or_true, Bool.false_eq_true, not_false_eq_true, Nat.reduceAdd, Nat.lt_add_one, Nat.zero_lt_one, nI_add, pk_mul, ixL, vpL, ne_eq, reduceIte, wI_sN, wL_sM, sN_same, sN_K, sN_2, sM_1, sM_same, sM_K, sM_s, uI_at, uN_at, enc_at, uI_enc, uI_uI, upM_s, upM_n]
        refine V_callSB hB hno (p_appI hc hSf (w := b) (by omega) (by rw [h2.n, List.length_append, show sb_dg b = 1 from if_pos (by omega)]; show _ + 1 + 1 ≤ 99; omega)) rfl rfl (by decide +kernel) ck5X10_290 npJ4_append_bf812 ⟨by decide, by decide⟩ (Nat.le_of_ble_eq_true rfl) (show 20 + 80 * b + 20 + 20 ≤ 450 by omega) (fun w t3 hh => ?_) (fun E τ' hh => by cases hh.1)
        obtain ⟨e, hh⟩ := hh
        cases e
        have h3 := h2.app hh
        rw [dgL1 b hb5] at h3
        show V x t3 (20 + 80 * b + 20 + 20) 40 _ [sbM]
        refine V_run hB (rt := none) (nL := 3) (mc := 450) rfl rfl rfl (ops := [(40, .bipush 58, 2, (0, 0, 0, 0, 0, 0), nI 58)]) (by decide +kernel) ?_
        dsimp only [↓wpb, ↓wp1, ↓vI, ↓vL, ↓vD, ↓ldI, ↓ldL, ↓ldD, ↓ldR, ↓k1, ↓k2, ↓kI, ↓kL, ↓kD, ↓kII, ↓kLL, ↓kDD, ↓kR, ↓kIR, ↓kLR, ↓kIIR, ↓kLIR, ↓kDIR, ↓kRIR, ↓kNN, ↓kE, ↓br, ↓bn, ↓rtI, ↓gfv, ↓zchk, lput, ldel, lbad, alA, acat, isRf, dom, dS, dJ, isO, aTy, aLen, elAV, elR, Nat.reduceBEq, Nat.reduceAdd, Bool.or, Bool.and, Nat.add_zero, Nat.zero_add]
        try simp only [Nat.reduceLT, Nat.reduceLeDiff, Nat.reduceEqDiff, true_and, and_true, and_self, Nat.zero_le, Nat.le_refl, true_or, or_true, Bool.false_eq_true, not_false_eq_true, Nat.reduceAdd, Nat.lt_add_one, Nat.zero_lt_one, nI_add, pk_mul, ixL, vpL, ne_eq, reduceIte, wI_sN, wL_sM, sN_same, sN_K, sN_2, sM_1, sM_same, sM_K, sM_s, uI_at, uN_at, enc_at, uI_enc, uI_uI, upM_s, upM_n]
        refine V_callSB hB hno (p_appC hc hSf (c := 58) (by decide) (by rw [h3.n, List.length_append, List.length_append]; show _ + 1 + 1 + 1 ≤ 99; omega)) rfl rfl (by decide +kernel) ck5X10_286 npJ4_append_cf468 ⟨by decide, by decide⟩ (Nat.le_of_ble_eq_true rfl) (show 20 + 80 * b + 20 + 20 + 20 ≤ 450 by omega) (fun w t4 hh => ?_) (fun E τ' hh => by cases hh.1)
        obtain ⟨e, hh⟩ := hh
        cases e
        have h4 := h3.app hh
        have e4 := h4.e
        show V x t4 (20 + 80 * b + 20 + 20 + 20) 45 _ [sbM]
        refine V_run hB (rt := none) (nL := 3) (mc := 450) rfl rfl rfl (ops := [(45, .aload_n 1, 1, (1, 0, 0, 0, 0, 0), 0), (46, .getfield 227, 3, (5, 7, 2, 12, 0, 0), 0), (49, .iload_n 2, 1, (2, 0, 0, 0, 0, 0), 0), (50, .iaload, 1, (0, 0, 0, 0, 0, 0), 0)]) (by decide +kernel) ?_
        dsimp only [↓wpb, ↓wp1, ↓vI, ↓vL, ↓vD, ↓ldI, ↓ldL, ↓ldD, ↓ldR, ↓k1, ↓k2, ↓kI, ↓kL, ↓kD, ↓kII, ↓kLL, ↓kDD, ↓kR, ↓kIR, ↓kLR, ↓kIIR, ↓kLIR, ↓kDIR, ↓kRIR, ↓kNN, ↓kE, ↓br, ↓bn, ↓rtI, ↓gfv, ↓zchk, lput, ldel, lbad, alA, acat, isRf, dom, dS, dJ, isO, aTy, aLen, elAV, elR, Nat.reduceBEq, Nat.reduceAdd, Bool.or, Bool.and, Nat.add_zero, Nat.zero_add]
        try simp only [Nat.reduceLT, Nat.reduceLeDiff, Nat.reduceEqDiff, true_and, and_true, and_self, Nat.zero_le, Nat.le_refl, true_or, or_true, Bool.false_eq_true, not_false_eq_true, Nat.reduceAdd, Nat.lt_add_one, Nat.zero_lt_one, nI_add, pk_mul, ixL, vpL, ne_eq, reduceIte, wI_sN, wL_sM, sN_same, sN_K, sN_2, sM_1, sM_same, sM_K, sM_s, uI_at, uN_at, enc_at, uI_enc, uI_uI, upM_s, upM_n, e4, ib, vb, ev, ix, vx, hp, rp, ip, f0, f1, f2, f3, f4, f5, f6]
        refine V_callSB hB hno (p_appI hc hSf (w := it a i (7 + b)) (by omega) (by rw [h4.n, List.length_append, List.length_append, List.length_append]; show _ + 1 + 1 + 1 + _ ≤ 99; omega)) rfl rfl (by decide +kernel) ck5X10_290 npJ4_append_bf812 ⟨by decide, by decide⟩ (Nat.le_of_ble_eq_true rfl) (show 20 + 80 * b + 20 + 20 + 20 + 20 ≤ 450 by omega) (fun w t5 hh => ?_) (fun E τ' hh => by cases hh.1)
        obtain ⟨e, hh⟩ := hh
        cases e
        have h5 := h4.app hh
        show V x t5 (20 + 80 * b + 20 + 20 + 20 + 20) 54 _ [sbM]
        refine V_run hB (rt := none) (nL := 3) (mc := 450) rfl rfl rfl (ops := [(54, .pop, 1, (0, 0, 0, 0, 0, 0), 0), (55, .iinc 2 1, 3, (2, 0, 0, 0, 0, 0), nI 1), (58, .goto (-45), 3, (13, 0, 0, 0, 0, 0), 0)]) (by decide +kernel) ?_
        dsimp only [↓wpb, ↓wp1, ↓vI, ↓vL, ↓vD, ↓ldI, ↓ldL, ↓ldD, ↓ldR, ↓k1, ↓k2, ↓kI, ↓kL, ↓kD, ↓kII, ↓kLL, ↓kDD, ↓kR, ↓kIR, ↓kLR, ↓kIIR, ↓kLIR, ↓kDIR, ↓kRIR, ↓kNN, ↓kE, ↓br, ↓bn, ↓rtI, ↓gfv, ↓zchk, lput, ldel, lbad, alA, acat, isRf, dom, dS, dJ, isO, aTy, aLen, elAV, elR, Nat.reduceBEq, Nat.reduceAdd, Bool.or, Bool.and, Nat.add_zero, Nat.zero_add]
        try simp only [Nat.reduceLT, Nat.reduceLeDiff, Nat.reduceEqDiff, true_and, and_true, and_self, Nat.zero_le, Nat.le_refl, true_or, or_true, Bool.false_eq_true, not_false_eq_true, Nat.reduceAdd, Nat.lt_add_one, Nat.zero_lt_one, nI_add, pk_mul, ixL, vpL, ne_eq, reduceIte, wI_sN, wL_sM, sN_same, sN_K, sN_2, sM_1, sM_same, sM_K, sM_s, uI_at, uN_at, enc_at, uI_enc, uI_uI, upM_s, upM_n]
        refine V.widen (show 20 + 80 * b + 20 + 20 + 20 + 20 ≤ 20 + 80 * (b + 1) by omega) (ih (b + 1) t5 _ (by omega) ?_ (List.forall_mem_cons.mpr ⟨rfl, List.forall_mem_cons.mpr ⟨rfl, List.forall_mem_cons.mpr ⟨rfl, fun _ h => absurd h List.not_mem_nil⟩⟩⟩))
        show SlS τ t5 (L ++ ([32, 108, 111, 116] ++ (bidsL a i b ++ (if it a i (7 + b) = 0 then [] else [32, 48 + b, 58] ++ dgL (it a i (7 + b))))))
        rw [if_neg h0]
        have hh : L ++ ([32, 108, 111, 116] ++ (bidsL a i b ++ ([32, 48 + b, 58] ++ dgL (it a i (7 + b))))) = L ++ ([32, 108, 111, 116] ++ bidsL a i b) ++ [32] ++ [48 + b] ++ [58] ++ dgL (it a i (7 + b)) := by simp only [List.append_assoc, List.cons_append, List.nil_append]
        rw [hh]
        exact h5
  refine V_run hB (rt := none) (nL := 3) (mc := 450) rfl rfl rfl (ops := [(0, .aload_n 0, 1, (0, 0, 0, 0, 0, 0), 0), (1, .getfield 54, 3, (1, 7, 2, 50, 0, 0), 0)]) (by decide +kernel) ?_
  dsimp only [↓wpb, ↓wp1, ↓vI, ↓vL, ↓vD, ↓ldI, ↓ldL, ↓ldD, ↓ldR, ↓k1, ↓k2, ↓kI, ↓kL, ↓kD, ↓kII, ↓kLL, ↓kDD, ↓kR, ↓kIR, ↓kLR, ↓kIIR, ↓kLIR, ↓kDIR, ↓kRIR, ↓kNN, ↓kE, ↓br, ↓bn, ↓rtI, ↓gfv, ↓zchk, lput, ldel, lbad, alA, acat, isRf, dom, dS, dJ, isO, aTy, aLen, elAV, elR, Nat.reduceBEq, Nat.reduceAdd, Bool.or, Bool.and, Nat.add_zero, Nat.zero_add]
  try simp only [Nat.reduceLT, Nat.reduceLeDiff, Nat.reduceEqDiff, true_and, and_true, and_self, Nat.zero_le, Nat.le_refl, true_or, or_true, Bool.false_eq_true, not_false_eq_true, Nat.reduceAdd, Nat.lt_add_one, Nat.zero_lt_one, nI_add, pk_mul, ixL, vpL, ne_eq, reduceIte, wI_sN, wL_sM, sN_same, sN_K, sN_2, sM_1, sM_same, sM_K, sM_s, uI_at, uN_at, enc_at, uI_enc, uI_uI, upM_s, upM_n]
  refine V_ldcw hB hSf (k := 2) (by decide) rfl (by decide +kernel) ?_
  refine V_callSB hB hno (p_appS hc hSf (k := 2) (by decide) (by rw [hL.n]; show L.length + 4 ≤ 99; omega)) rfl rfl (by decide +kernel) ck5X10_295 npJ4_append_15ec4 ⟨by decide, by decide⟩ (Nat.le_of_ble_eq_true rfl) (by decide) (fun w t1 hh => ?_) (fun E τ' hh => by cases hh.1)
  obtain ⟨e, hh⟩ := hh
  cases e
  have h1 := hL.app hh
  show V x t1 20 10 _ [sbM]
  refine V_run hB (rt := none) (nL := 3) (mc := 450) rfl rfl rfl (ops := [(10, .pop, 1, (0, 0, 0, 0, 0, 0), 0), (11, .iconst 0, 1, (0, 0, 0, 0, 0, 0), nI 0), (12, .istore_n 2, 1, (2, 0, 0, 0, 0, 0), 0)]) (by decide +kernel) ?_
  dsimp only [↓wpb, ↓wp1, ↓vI, ↓vL, ↓vD, ↓ldI, ↓ldL, ↓ldD, ↓ldR, ↓k1, ↓k2, ↓kI, ↓kL, ↓kD, ↓kII, ↓kLL, ↓kDD, ↓kR, ↓kIR, ↓kLR, ↓kIIR, ↓kLIR, ↓kDIR, ↓kRIR, ↓kNN, ↓kE, ↓br, ↓bn, ↓rtI, ↓gfv, ↓zchk, lput, ldel, lbad, alA, acat, isRf, dom, dS, dJ, isO, aTy, aLen, elAV, elR, Nat.reduceBEq, Nat.reduceAdd, Bool.or, Bool.and, Nat.add_zero, Nat.zero_add]
  try simp only [Nat.reduceLT, Nat.reduceLeDiff, Nat.reduceEqDiff, true_and, and_true, and_self, Nat.zero_le, Nat.le_refl, true_or, or_true, Bool.false_eq_true, not_false_eq_true, Nat.reduceAdd, Nat.lt_add_one, Nat.zero_lt_one, nI_add, pk_mul, ixL, vpL, ne_eq, reduceIte, wI_sN, wL_sM, sN_same, sN_K, sN_2, sM_1, sM_same, sM_K, sM_s, uI_at, uN_at, enc_at, uI_enc, uI_uI, upM_s, upM_n]
  exact loop 5 0 t1 _ (Nat.zero_add 5) h1 (List.forall_mem_cons.mpr ⟨rfl, List.forall_mem_cons.mpr ⟨rfl, List.forall_mem_cons.mpr ⟨rfl, fun _ h => absurd h List.not_mem_nil⟩⟩⟩)
end OW
