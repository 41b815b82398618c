/-! ===== the slip: room made ===== -/
section EN
variable {l : Launch} {G : GG} {τ : Mem}
theorem V_grow {x : Cx} {Φ : AOut → Mem → Prop} {n q : Nat} {al : Al} (hB : Bd x l G iJ5_ensureCapacityInternal_d00df Φ) (hq : τ.2.2.2.1 < q) (hq2 : q ≤ 200) (hn : n = 0)
    (kk : ∀ v, V x (sbU τ v q τ.2.2.2.2.1 (fun j => if j < τ.2.2.2.1 then τ.2.2.2.2.2 j else 0)) 20 38 al []) : V x τ n 32 al [aI (nI q), .inl (.ref τ.2.2.1), sbM] := by
  subst hn
  obtain ⟨hg, rfl, rfl, ey, rfl⟩ := hB
  obtain ⟨l, G, p, e, s, m, args, below, meth, c, y, Φ⟩ := x
  obtain rfl : y = iJ5_ensureCapacityInternal_d00df := ey
  obtain ⟨hx, hb, hown, hts, hml, hlk, hret, hstt, hG, hX⟩ := hg
  intro H locs ls hW hS hL
  obtain ⟨ml, a, h1, h2, h3, h4, h5, h6, h7, h8, h9⟩ := id hW.2.2.1
  have hM := n_copyOf (l := l) hG (v := τ.2.2.1) (N := τ.2.2.2.1) (q := q) (a := a) h6 hq hq2 h4
  have hgi : GoodIn TBg (Cond.code yJ7_copyOf_9075b cJ7_copyOf_9075b 3 (some (.array .byte)) :: TBg) := fun w h => TBg_good w ((List.mem_cons.mp h).elim (fun q => by rw [q]; exact (TBg_at 1019 (by decide +kernel))) id)
  have hr := va_runS (p := p) (e := e) (R := rmI iJ5_ensureCapacityInternal_d00df) (below := below) (meth := meth) (locs := locs) (cells := 0) (slots := 10 * 0) (g := F0 m 32 ls [.int (nI q), .ref τ.2.2.1, .ref (G.2.1 (50, 0, 0))]) (index := 108) (rest := [.ref (G.2.1 (50, 0, 0))]) (H := H) (As := [.ref τ.2.2.1, .int (nI q)]) (n := 2) ⟨hx, hb, hml, hown, hts⟩ hM ⟨callB_of 2 hts hgi rfl rfl rfl (hts _ (TBg_at 65 (by decide +kernel))) (hts _ (TBg_at 1017 (by decide +kernel))) ⟨by decide +kernel, by decide +kernel, by decide +kernel⟩ ⟨by decide, by decide⟩, hts _ (TBg_at 1018 (by decide +kernel))⟩ ⟨KBlind hG, fun U hU hWU => ⟨rfl, va_K.moved hWU.alike hW.1, hG.2.2.2.2.1 _ _ _ hWU (by rw [hU]; exact hW.2.2.2.1), by rw [hU]; exact hW.2.2.2.2, by rw [hU]; exact h2⟩⟩ rfl rfl hL.1 rfl (Nat.le_of_ble_eq_true rfl) (show decode cJ5_ensureCapacityInternal_d00df 32 = .ok (.invokestatic 108, 3) by decide +kernel) ⟨by decide, by decide⟩
  intro T hT X
  obtain ⟨v, st₀, t, T', L, h0, X', hL9, e1, e2, ⟨⟨hv, hz1, ho1, hc1⟩, hF⟩, stp⟩ := hr T hT X
  cases hv
  obtain ⟨k1, k2, k3⟩ := vx_keep h0 e1 hS (fun _ _ h => h) (fun _ h => h) hL9 hF
  rw [h0] at hz1 ho1 hc1
  rw [← e1] at hz1 ho1 hc1
  have hsl : G.2.1 (50, 0, 0) < H.size := va_at.lt h1
  have hK := hW.1
  have hfin : W p l e (rmI iJ5_ensureCapacityInternal_d00df) s m args below meth c T'.heap (locs ++ L) 20 200 (vx_MQ below (Qn G Φ) (Xn G Φ) args s 20 (10 * 20) (AA G)) (F0 m 35 ls [.ref H.size, .ref (G.2.1 (50, 0, 0))]) := by
    refine sb_putW (k := 0) (idx := 15) hx hb hown hts hK (by decide +kernel) ⟨RJ4, TJ4, 4, tyJ4, (.array .byte), rfl, by decide, (TBg_at 372 (by decide +kernel)), lay_J4, tyJ4_ok, nmJ4, rfl, rfl, rfl, rfl⟩ rfl (va_at.kept h1 (ho1 _ hsl)) (Nat.le_of_ble_eq_true rfl) hG.2.2.2.1 k3 (fun H1 locs1 c1 z1 o1 hS1 => ?_)
    refine kk H.size H1 locs1 ls (World.sb hG hW ⟨ml, va_cpy a (fun _ => 0) 0 0 τ.2.2.2.1, c1, va_at.kept hc1 (o1 _ (show H.size ≠ G.2.1 (50, 0, 0) by omega)), fun j hj => ?_, sb_fitC h4 sb_fit0, show τ.2.2.2.2.1 ≤ q by omega, hq2, hW.2.2.2.2, show H.size ≠ _ by omega, fun nm hd => ?_⟩ (by omega) (fun nm hd => ?_) (fun q0 hq0 hA => ?_)) hS1 hL
    · show (if j < τ.2.2.2.1 then τ.2.2.2.2.2 j else 0) < 256 ∧ va_cpy a (fun _ => 0) 0 0 τ.2.2.2.1 j = sb_b (if j < τ.2.2.2.1 then τ.2.2.2.2.2 j else 0)
      by_cases hj2 : j < τ.2.2.2.1
      · rw [if_pos hj2, sb_cpy0 hj2]
        exact h3 j hj2
      · rw [if_neg hj2, pk_cpy_out (by omega)]
        exact ⟨by decide, by decide⟩
    · have := va_at.lt (hW.2.1 nm hd)
      show G.2.1 nm ≠ H.size
      omega
    · exact (o1 _ (hG.2.2.1 nm hd)).trans (ho1 _ (va_at.lt (hW.2.1 nm hd)))
    · exact (o1 _ (fun z => hA (by rw [z]; exact hG.2.2.2.1))).trans (ho1 _ hq0)
  obtain ⟨t2, a1, b1⟩ := hfin T' rfl X'
  exact ⟨t2, stp t2 (by rw [h0]; exact a1), b1⟩
/-- room made, the text kept -/
def EnR (τ : Mem) (q : Nat) : AOut → Mem → Prop := fun o τ' => o = .inl none ∧ ∃ v c tt, τ' = sbU τ v c τ.2.2.2.2.1 tt ∧ q ≤ c ∧ τ.2.2.2.1 ≤ c ∧ c ≤ 200 ∧ ∀ j, j < τ.2.2.2.1 → tt j = τ.2.2.2.2.2 j
theorem p_ensure (hc : CtxE l G) (hS : SlF G) {q : Nat} (hq2 : q ≤ 99) : Sat l G iJ5_ensureCapacityInternal_d00df [sbM, aI (nI q)] τ (EnR τ q) := by
  refine Sat_ofF hc.1.1 hc.1.2 (by decide +kernel) (Nat.le_of_ble_eq_true rfl) (fun x hB hno => ?_)
  refine V_sbi (fun hn hcap ht => ?_)
  refine V_run hB (rt := none) (nL := 3) (mc := 20) rfl rfl rfl (ops := [(0, .aload_n 0, 1, (0, 0, 0, 0, 0, 0), 0)]) (by decide +kernel) ?_
  dsimp only [↓wpb, ↓wp1, ↓vI, ↓vL, ↓vD, ↓ldI, ↓ldL, ↓ldD, ↓ldR, ↓k1, ↓k2, ↓kI, ↓kL, ↓kD, ↓kII, ↓kLL, ↓kDD, ↓kR, ↓kIR, ↓kLR, ↓kIIR, ↓kLIR, ↓kDIR, ↓kRIR, ↓kNN, ↓kE, ↓br, ↓bn, ↓rtI, ↓gfv, ↓zchk, lput, ldel, lbad, alA, acat, isRf, dom, dS, dJ, isO, aTy, aLen, elAV, elR, Nat.reduceBEq, Nat.reduceAdd, Bool.or, Bool.and, Nat.add_zero, Nat.zero_add]
  try simp only [Nat.reduceLT, Nat.reduceLeDiff, Nat.reduceEqDiff, true_and, and_true, and_self, Nat.zero_le, Nat.le_refl, true_or, or_true, Bool.false_eq_true, not_false_eq_true, Nat.reduceAdd, Nat.lt_add_one, Nat.zero_lt_one, nI_add, pk_mul, ixL, vpL, ne_eq, reduceIte, wI_sN, wL_sM, sN_same, sN_K, sN_2, sM_1, sM_same, sM_K, sM_s, uI_at, uN_at, enc_at, uI_enc, uI_uI, upM_s, upM_n]
  refine V_sbg hB (k := 0) (v := .inl (.ref τ.2.2.1)) (Or.inl ⟨rfl, rfl⟩) (idx := 15) (TBg_at 372 (by decide +kernel)) (by decide +kernel) ?_
  refine V_sblen hB (by decide +kernel) ?_
  refine V_run hB (rt := none) (nL := 3) (mc := 20) rfl rfl rfl (ops := [(5, .aload_n 0, 1, (0, 0, 0, 0, 0, 0), 0)]) (by decide +kernel) ?_
  dsimp only [↓wpb, ↓wp1, ↓vI, ↓vL, ↓vD, ↓ldI, ↓ldL, ↓ldD, ↓ldR, ↓k1, ↓k2, ↓kI, ↓kL, ↓kD, ↓kII, ↓kLL, ↓kDD, ↓kR, ↓kIR, ↓kLR, ↓kIIR, ↓kLIR, ↓kDIR, ↓kRIR, ↓kNN, ↓kE, ↓br, ↓bn, ↓rtI, ↓gfv, ↓zchk, lput, ldel, lbad, alA, acat, isRf, dom, dS, dJ, isO, aTy, aLen, elAV, elR, Nat.reduceBEq, Nat.reduceAdd, Bool.or, Bool.and, Nat.add_zero, Nat.zero_add]
  try simp only [Nat.reduceLT, Nat.reduceLeDiff, Nat.reduceEqDiff, true_and, and_true, and_self, Nat.zero_le, Nat.le_refl, true_or, or_true, Bool.false_eq_true, not_false_eq_true, Nat.reduceAdd, Nat.lt_add_one, Nat.zero_lt_one, nI_add, pk_mul, ixL, vpL, ne_eq, reduceIte, wI_sN, wL_sM, sN_same, sN_K, sN_2, sM_1, sM_same, sM_K, sM_s, uI_at, uN_at, enc_at, uI_enc, uI_uI, upM_s, upM_n]
  refine V_sbg hB (k := 1) (v := aI 0) (Or.inr (Or.inl ⟨rfl, rfl⟩)) (idx := 22) (TBg_at 373 (by decide +kernel)) (by decide +kernel) ?_
  refine V_run hB (rt := none) (nL := 3) (mc := 20) rfl rfl rfl (ops := [(9, .ishr, 1, (0, 0, 0, 0, 0, 0), 0), (10, .istore_n 2, 1, (2, 0, 0, 0, 0, 0), 0), (11, .iload_n 1, 1, (1, 0, 0, 0, 0, 0), 0), (12, .iload_n 2, 1, (2, 0, 0, 0, 0, 0), 0), (13, .isub, 1, (0, 0, 0, 0, 0, 0), 0), (14, .ifCond .le 24, 3, (38, 0, 0, 0, 0, 0), 0)]) (by decide +kernel) ?_
  dsimp only [↓wpb, ↓wp1, ↓vI, ↓vL, ↓vD, ↓ldI, ↓ldL, ↓ldD, ↓ldR, ↓k1, ↓k2, ↓kI, ↓kL, ↓kD, ↓kII, ↓kLL, ↓kDD, ↓kR, ↓kIR, ↓kLR, ↓kIIR, ↓kLIR, ↓kDIR, ↓kRIR, ↓kNN, ↓kE, ↓br, ↓bn, ↓rtI, ↓gfv, ↓zchk, lput, ldel, lbad, alA, acat, isRf, dom, dS, dJ, isO, aTy, aLen, elAV, elR, Nat.reduceBEq, Nat.reduceAdd, Bool.or, Bool.and, Nat.add_zero, Nat.zero_add]
  try simp only [Nat.reduceLT, Nat.reduceLeDiff, Nat.reduceEqDiff, true_and, and_true, and_self, Nat.zero_le, Nat.le_refl, true_or, or_true, Bool.false_eq_true, not_false_eq_true, Nat.reduceAdd, Nat.lt_add_one, Nat.zero_lt_one, nI_add, pk_mul, ixL, vpL, ne_eq, reduceIte, wI_sN, wL_sM, sN_same, sN_K, sN_2, sM_1, sM_same, sM_K, sM_s, uI_at, uN_at, enc_at, uI_enc, uI_uI, upM_s, upM_n, sb_shr0]
  have e1 : (nI q - nI τ.2.2.2.1).toInt = (q : Int) - τ.2.2.2.1 := pk_sub_toInt (by omega) (by omega)
  refine ⟨fun z => ?_, fun z => ?_⟩
  · rw [Int32.le_iff_toInt_le, e1] at z
    have z : (q : Int) - τ.2.2.2.1 ≤ 0 := z
    refine V_run hB (rt := none) (nL := 3) (mc := 20) rfl rfl rfl (ops := [(38, .return_, 1, (0, 0, 0, 0, 0, 0), 0)]) (by decide +kernel) ?_
    dsimp only [↓wpb, ↓wp1, ↓vI, ↓vL, ↓vD, ↓ldI, ↓ldL, ↓ldD, ↓ldR, ↓k1, ↓k2, ↓kI, ↓kL, ↓kD, ↓kII, ↓kLL, ↓kDD, ↓kR, ↓kIR, ↓kLR, ↓kIIR, ↓kLIR, ↓kDIR, ↓kRIR, ↓kNN, ↓kE, ↓br, ↓bn, ↓rtI, ↓gfv, ↓zchk, lput, ldel, lbad, alA, acat, isRf, dom, dS, dJ, isO, aTy, aLen, elAV, elR, Nat.reduceBEq, Nat.reduceAdd, Bool.or, Bool.and, Nat.add_zero, Nat.zero_add]
    try simp only [Nat.reduceLT, Nat.reduceLeDiff, Nat.reduceEqDiff, true_and, and_true, and_self, Nat.zero_le, Nat.le_refl, true_or, or_true, Bool.false_eq_true, not_false_eq_true, Nat.reduceAdd, Nat.lt_add_one, Nat.zero_lt_one, nI_add, pk_mul, ixL, vpL, ne_eq, reduceIte, wI_sN, wL_sM, sN_same, sN_K, sN_2, sM_1, sM_same, sM_K, sM_s, uI_at, uN_at, enc_at, uI_enc, uI_uI, upM_s, upM_n]
    exact ⟨rfl, τ.2.2.1, τ.2.2.2.1, τ.2.2.2.2.2, rfl, by omega, Nat.le_refl _, hcap, fun _ _ => rfl⟩
  · rw [Int32.le_iff_toInt_le, e1] at z
    have z : ¬ (q : Int) - τ.2.2.2.1 ≤ 0 := z
    have hqm : τ.2.2.2.1 < q := by omega
    have hcap2 : sb_cap q τ.2.2.2.1 ≤ 200 := by
      unfold sb_cap
      split
      · omega
      · split <;> omega
    have hge := sb_cap_ge q τ.2.2.2.1
    refine V_run hB (rt := none) (nL := 3) (mc := 20) rfl rfl rfl (ops := [(17, .aload_n 0, 1, (0, 0, 0, 0, 0, 0), 0), (18, .aload_n 0, 1, (0, 0, 0, 0, 0, 0), 0)]) (by decide +kernel) ?_
    dsimp only [↓wpb, ↓wp1, ↓vI, ↓vL, ↓vD, ↓ldI, ↓ldL, ↓ldD, ↓ldR, ↓k1, ↓k2, ↓kI, ↓kL, ↓kD, ↓kII, ↓kLL, ↓kDD, ↓kR, ↓kIR, ↓kLR, ↓kIIR, ↓kLIR, ↓kDIR, ↓kRIR, ↓kNN, ↓kE, ↓br, ↓bn, ↓rtI, ↓gfv, ↓zchk, lput, ldel, lbad, alA, acat, isRf, dom, dS, dJ, isO, aTy, aLen, elAV, elR, Nat.reduceBEq, Nat.reduceAdd, Bool.or, Bool.and, Nat.add_zero, Nat.zero_add]
    try simp only [Nat.reduceLT, Nat.reduceLeDiff, Nat.reduceEqDiff, true_and, and_true, and_self, Nat.zero_le, Nat.le_refl, true_or, or_true, Bool.false_eq_true, not_false_eq_true, Nat.reduceAdd, Nat.lt_add_one, Nat.zero_lt_one, nI_add, pk_mul, ixL, vpL, ne_eq, reduceIte, wI_sN, wL_sM, sN_same, sN_K, sN_2, sM_1, sM_same, sM_K, sM_s, uI_at, uN_at, enc_at, uI_enc, uI_uI, upM_s, upM_n]
    refine V_sbg hB (k := 0) (v := .inl (.ref τ.2.2.1)) (Or.inl ⟨rfl, rfl⟩) (idx := 15) (TBg_at 372 (by decide +kernel)) (by decide +kernel) ?_
    refine V_run hB (rt := none) (nL := 3) (mc := 20) rfl rfl rfl (ops := [(22, .aload_n 0, 1, (0, 0, 0, 0, 0, 0), 0), (23, .iload_n 1, 1, (1, 0, 0, 0, 0, 0), 0)]) (by decide +kernel) ?_
    dsimp only [↓wpb, ↓wp1, ↓vI, ↓vL, ↓vD, ↓ldI, ↓ldL, ↓ldD, ↓ldR, ↓k1, ↓k2, ↓kI, ↓kL, ↓kD, ↓kII, ↓kLL, ↓kDD, ↓kR, ↓kIR, ↓kLR, ↓kIIR, ↓kLIR, ↓kDIR, ↓kRIR, ↓kNN, ↓kE, ↓br, ↓bn, ↓rtI, ↓gfv, ↓zchk, lput, ldel, lbad, alA, acat, isRf, dom, dS, dJ, isO, aTy, aLen, elAV, elR, Nat.reduceBEq, Nat.reduceAdd, Bool.or, Bool.and, Nat.add_zero, Nat.zero_add]
    try simp only [Nat.reduceLT, Nat.reduceLeDiff, Nat.reduceEqDiff, true_and, and_true, and_self, Nat.zero_le, Nat.le_refl, true_or, or_true, Bool.false_eq_true, not_false_eq_true, Nat.reduceAdd, Nat.lt_add_one, Nat.zero_lt_one, nI_add, pk_mul, ixL, vpL, ne_eq, reduceIte, wI_sN, wL_sM, sN_same, sN_K, sN_2, sM_1, sM_same, sM_K, sM_s, uI_at, uN_at, enc_at, uI_enc, uI_uI, upM_s, upM_n]
    refine V_callU hB hno hS (p_newCapacity hc hS hqm hq2) rfl (by decide +kernel) cu5J5_104 npJ5_newCapacity_0f7a4 ⟨by decide, by decide⟩ (Nat.le_of_ble_eq_true rfl) (by decide) (fun v τ' hh => ?_) (fun E τ' hh => by cases hh.1)
    obtain ⟨e, rfl⟩ := hh
    cases e
    show V x τ' 0 27 _ [aI (nI (sb_cap q τ'.2.2.2.1)), .inl (.ref τ'.2.2.1), sbM]
    refine V_run hB (rt := none) (nL := 3) (mc := 20) rfl rfl rfl (ops := [(27, .aload_n 0, 1, (0, 0, 0, 0, 0, 0), 0)]) (by decide +kernel) ?_
    dsimp only [↓wpb, ↓wp1, ↓vI, ↓vL, ↓vD, ↓ldI, ↓ldL, ↓ldD, ↓ldR, ↓k1, ↓k2, ↓kI, ↓kL, ↓kD, ↓kII, ↓kLL, ↓kDD, ↓kR, ↓kIR, ↓kLR, ↓kIIR, ↓kLIR, ↓kDIR, ↓kRIR, ↓kNN, ↓kE, ↓br, ↓bn, ↓rtI, ↓gfv, ↓zchk, lput, ldel, lbad, alA, acat, isRf, dom, dS, dJ, isO, aTy, aLen, elAV, elR, Nat.reduceBEq, Nat.reduceAdd, Bool.or, Bool.and, Nat.add_zero, Nat.zero_add]
    try simp only [Nat.reduceLT, Nat.reduceLeDiff, Nat.reduceEqDiff, true_and, and_true, and_self, Nat.zero_le, Nat.le_refl, true_or, or_true, Bool.false_eq_true, not_false_eq_true, Nat.reduceAdd, Nat.lt_add_one, Nat.zero_lt_one, nI_add, pk_mul, ixL, vpL, ne_eq, reduceIte, wI_sN, wL_sM, sN_same, sN_K, sN_2, sM_1, sM_same, sM_K, sM_s, uI_at, uN_at, enc_at, uI_enc, uI_uI, upM_s, upM_n]
    refine V_sbg hB (k := 1) (v := aI 0) (Or.inr (Or.inl ⟨rfl, rfl⟩)) (idx := 22) (TBg_at 373 (by decide +kernel)) (by decide +kernel) ?_
    refine V_run hB (rt := none) (nL := 3) (mc := 20) rfl rfl rfl (ops := [(31, .ishl, 1, (0, 0, 0, 0, 0, 0), 0)]) (by decide +kernel) ?_
    dsimp only [↓wpb, ↓wp1, ↓vI, ↓vL, ↓vD, ↓ldI, ↓ldL, ↓ldD, ↓ldR, ↓k1, ↓k2, ↓kI, ↓kL, ↓kD, ↓kII, ↓kLL, ↓kDD, ↓kR, ↓kIR, ↓kLR, ↓kIIR, ↓kLIR, ↓kDIR, ↓kRIR, ↓kNN, ↓kE, ↓br, ↓bn, ↓rtI, ↓gfv, ↓zchk, lput, ldel, lbad, alA, acat, isRf, dom, dS, dJ, isO, aTy, aLen, elAV, elR, Nat.reduceBEq, Nat.reduceAdd, Bool.or, Bool.and, Nat.add_zero, Nat.zero_add]
    try simp only [Nat.reduceLT, Nat.reduceLeDiff, Nat.reduceEqDiff, true_and, and_true, and_self, Nat.zero_le, Nat.le_refl, true_or, or_true, Bool.false_eq_true, not_false_eq_true, Nat.reduceAdd, Nat.lt_add_one, Nat.zero_lt_one, nI_add, pk_mul, ixL, vpL, ne_eq, reduceIte, wI_sN, wL_sM, sN_same, sN_K, sN_2, sM_1, sM_same, sM_K, sM_s, uI_at, uN_at, enc_at, uI_enc, uI_uI, upM_s, upM_n, sb_shl0]
    refine V_grow hB (by omega) hcap2 rfl (fun v => ?_)
    refine V_run hB (rt := none) (nL := 3) (mc := 20) rfl rfl rfl (ops := [(38, .return_, 1, (0, 0, 0, 0, 0, 0), 0)]) (by decide +kernel) ?_
    dsimp only [↓wpb, ↓wp1, ↓vI, ↓vL, ↓vD, ↓ldI, ↓ldL, ↓ldD, ↓ldR, ↓k1, ↓k2, ↓kI, ↓kL, ↓kD, ↓kII, ↓kLL, ↓kDD, ↓kR, ↓kIR, ↓kLR, ↓kIIR, ↓kLIR, ↓kDIR, ↓kRIR, ↓kNN, ↓kE, ↓br, ↓bn, ↓rtI, ↓gfv, ↓zchk, lput, ldel, lbad, alA, acat, isRf, dom, dS, dJ, isO, aTy, aLen, elAV, elR, Nat.reduceBEq, Nat.reduceAdd, Bool.or, Bool.and, Nat.add_zero, Nat.zero_add]
    try simp only [Nat.reduceLT, Nat.reduceLeDiff, Nat.reduceEqDiff, true_and, and_true, and_self, Nat.zero_le, Nat.le_refl, true_or, or_true, Bool.false_eq_true, not_false_eq_true, Nat.reduceAdd, Nat.lt_add_one, Nat.zero_lt_one, nI_add, pk_mul, ixL, vpL, ne_eq, reduceIte, wI_sN, wL_sM, sN_same, sN_K, sN_2, sM_1, sM_same, sM_K, sM_s, uI_at, uN_at, enc_at, uI_enc, uI_uI, upM_s, upM_n]
    exact ⟨rfl, v, sb_cap q τ'.2.2.2.1, _, rfl, hge, by omega, hcap2, fun j hj => if_pos hj⟩
end EN
