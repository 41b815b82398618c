/-! ===== the law: its other cases, its loop ===== -/
theorem and63 (a : Int32) : ∃ w, w < 64 ∧ a &&& nI 63 = nI w := by
  refine ⟨(a.toBitVec &&& 63#32).toNat, ?_, ?_⟩
  · have h : (a.toBitVec &&& 63#32).toNat ≤ 63 := by
      rw [BitVec.toNat_and]
      exact Nat.and_le_right
    omega
  · apply Int32.toBitVec_inj.mp
    show a.toBitVec &&& 63#32 = BitVec.ofNat 32 _
    apply BitVec.eq_of_toNat_eq
    rw [BitVec.toNat_ofNat]
    exact (Nat.mod_eq_of_lt (BitVec.isLt _)).symm
theorem sMea_le (a : Nat → Nat) : (sMea a).1 ≤ 1 := by
  unfold sMea
  split
  all_goals simp
def OFS : Array Int := #[224, 304, 360, 428, 484, 540, 608, 621, 634, 690, 703, 716, 729, 785, 841, 897, 953, 1009, 1065, 1121, 1177, 1245, 1258, 1326, 1394, 1450, 1494, 1574, 1630, 1674, 1687, 1743, 1811, 1867, 1923, 1936, 1949, 2005, 2018, 2031, 2044, 2058, 2123, 2136, 2192, 2248, 2306, 2350, 2394, 2438, 2482, 2495]
section LD
variable {x : Cx} {l : Launch} {G : GG} {Φ : AOut → Mem → Prop} {τ : Mem} {σ : Sg} {c i N : Nat} {f : Nat → Int32}
theorem g_pledgedMinutes (hc0 : LCx x l G Φ f N) (hi : i + 4 ≤ N) (hcc : c ≤ 512) (hLI : LI c τ σ) (hk : ∀ τ' σ', LI (c + 1) τ' σ' → V x τ' (1000 * (c + 1)) 28 (LK (i + 4)) []) : V x τ (1000 * c) 2088 (LK i) [] := by
  obtain ⟨hcw, hmw, hsi⟩ := hLI
  obtain ⟨n, hn, hV, hps, hsn, hZ, hb, hT, hln⟩ := hsi.get (by omega)
  obtain ⟨hB, hcE, hNc, hF, hN, hSl⟩ := id hc0
  have hg := hB.1
  obtain ⟨-, -, -, e3, -⟩ := id hB
  obtain ⟨c0, hmw⟩ := hmw
  refine s_aload_n (f := 1) (i := 1) hg (by rw [e3]; exact (by decide +kernel : decode cL_law 2088 = .ok (.aload_n 1, 1))) rfl rfl rfl ?_
  refine V_callVN hB (y_pledgedMinutes hcE.1 hcw) (r := []) rfl (by decide +kernel) cvL_284 (dom1 rfl) npX10_pledgedMinutes ⟨by decide, by decide⟩ (by decide) (by show 1000 * c + 0 ≤ 603072; omega) (fun v τ1 hq => ?_) (fun E τ1 hq => by cases hq.1)
  obtain ⟨e, h1, h2⟩ := hq
  cases e
  have h := hmw.oth h2
  show V x τ1 (1000 * c) 2092 _ [.inl (.long (nI (σ.1 8)).toInt64)]
  refine s_aload_n (f := 2) (i := 2) hg (by rw [e3]; exact (by decide +kernel : decode cL_law 2092 = .ok (.aload_n 2, 1))) rfl rfl rfl ?_
  refine V_callVN hB (q_pledgedMinutes hcE.1 h hV (by omega)) (r := [.inl (.long (nI (σ.1 8)).toInt64)]) rfl (by decide +kernel) cvL_288 (dom1 rfl) npX11_pledgedMinutes ⟨by decide, by decide⟩ (Nat.le_of_ble_eq_true rfl) (by show 1000 * c + 0 ≤ 603072; omega) (fun v τ2 hq => ?_) (fun E τ2 hq => by cases hq.1)
  obtain ⟨e, hm2, ho2⟩ := hq
  cases e
  show V x τ2 (1000 * c) 2096 _ [.inl (.long (nI (σ.1 8)).toInt64), .inl (.long (nI (σ.1 8)).toInt64)]
  refine V_run hB (rt := some .boolean) (nL := 9) (mc := 603072) rfl rfl rfl (ops := [(2096, .lcmp, 1, (0, 0, 0, 0, 0, 0), 0), (2097, .ifCond .eq 486, 3, (2583, 0, 0, 0, 0, 0), 0)]) (by decide +kernel) ?_
  dsimp only [↓wpb, ↓wp1, ↓vI, ↓vL, ↓vD, ↓ldI, ↓ldL, ↓ldD, ↓ldR, ↓k1, ↓k2, ↓kI, ↓kL, ↓kD, ↓kII, ↓kLL, ↓kDD, ↓kR, ↓kIR, ↓kLR, ↓kIIR, ↓kLIR, ↓kDIR, ↓kRIR, ↓kNN, ↓kE, ↓br, ↓bn, ↓rtI, ↓gfv, ↓zchk, lput, ldel, lbad, alA, acat, isRf, dom, dS, dJ, isO, aTy, aLen, elAV, elR, Nat.reduceBEq, Nat.reduceAdd, Bool.or, Bool.and, Nat.add_zero, Nat.zero_add]
  try simp only [Nat.reduceLT, Nat.reduceLeDiff, Nat.reduceEqDiff, true_and, and_true, and_self, Nat.zero_le, Nat.le_refl, true_or, or_true, Bool.false_eq_true, not_false_eq_true, Nat.reduceAdd, Nat.lt_add_one, Nat.zero_lt_one, nI_add, pk_mul, ixL, vpL, ne_eq, reduceIte, wI_sN, wL_sM, sN_same, sN_K, sN_2, sM_1, sM_same, sM_K, sM_s, uI_at, uN_at, enc_at, uI_enc, uI_uI, upM_s, upM_n]
  refine ⟨fun _ => ?_, fun q => absurd (cmp_0.mpr rfl) q⟩
  refine law_next hB (i := i) ?_ (V.widen (by omega) (hk τ2 σ ⟨h1.mod ho2, ⟨_, hm2⟩, hsi.mono (by omega)⟩))
  unfold LK
  exact List.forall_mem_cons.mpr ⟨rfl, List.forall_mem_cons.mpr ⟨rfl, List.forall_mem_cons.mpr ⟨rfl, List.forall_mem_cons.mpr ⟨rfl, List.forall_mem_cons.mpr ⟨rfl, List.forall_mem_cons.mpr ⟨rfl, fun _ h => absurd h List.not_mem_nil⟩⟩⟩⟩⟩⟩
theorem g_meanLoan (hc0 : LCx x l G Φ f N) (hi : i + 4 ≤ N) (hcc : c ≤ 512) (hLI : LI c τ σ) (hk : ∀ τ' σ', LI (c + 1) τ' σ' → V x τ' (1000 * (c + 1)) 28 (LK (i + 4)) []) : V x τ (1000 * c) 2102 (LK i) [] := by
  obtain ⟨hcw, hmw, hsi⟩ := hLI
  obtain ⟨n, hn, hV, hps, hsn, hZ, hb, hT, hln⟩ := hsi.get (by omega)
  obtain ⟨hB, hcE, hNc, hF, hN, hSl⟩ := id hc0
  have hg := hB.1
  obtain ⟨-, -, -, e3, -⟩ := id hB
  obtain ⟨c0, hmw⟩ := hmw
  have hle := sMea_le σ.1
  have hX := w_meanLoan hcE hNc (σ := σ) (d := sMea σ.1) (y_meanLoan hcE.1 hcw hV) hle
  have hMo := fun τ1 (h : MW τ1 c0 σ) => q_meanLoan hcE.1 h hV (show n ≤ 1000 by omega)
  generalize sMea σ.1 = d at *
  unfold LK
  refine V_run hB (rt := some .boolean) (nL := 9) (mc := 603072) rfl rfl rfl (ops := [(2102, .aload_n 1, 1, (1, 0, 0, 0, 0, 0), 0), (2103, .aload 4, 2, (4, 0, 0, 0, 0, 0), 0)]) (by decide +kernel) ?_
  dsimp only [↓wpb, ↓wp1, ↓vI, ↓vL, ↓vD, ↓ldI, ↓ldL, ↓ldD, ↓ldR, ↓k1, ↓k2, ↓kI, ↓kL, ↓kD, ↓kII, ↓kLL, ↓kDD, ↓kR, ↓kIR, ↓kLR, ↓kIIR, ↓kLIR, ↓kDIR, ↓kRIR, ↓kNN, ↓kE, ↓br, ↓bn, ↓rtI, ↓gfv, ↓zchk, lput, ldel, lbad, alA, acat, isRf, dom, dS, dJ, isO, aTy, aLen, elAV, elR, Nat.reduceBEq, Nat.reduceAdd, Bool.or, Bool.and, Nat.add_zero, Nat.zero_add]
  try simp only [Nat.reduceLT, Nat.reduceLeDiff, Nat.reduceEqDiff, true_and, and_true, and_self, Nat.zero_le, Nat.le_refl, true_or, or_true, Bool.false_eq_true, not_false_eq_true, Nat.reduceAdd, Nat.lt_add_one, Nat.zero_lt_one, nI_add, pk_mul, ixL, vpL, ne_eq, reduceIte, wI_sN, wL_sM, sN_same, sN_K, sN_2, sM_1, sM_same, sM_K, sM_s, uI_at, uN_at, enc_at, uI_enc, uI_uI, upM_s, upM_n]
  refine V_callSXN hB hX (r := []) rfl (by decide +kernel) csxL_289 npL_meanLoan ⟨by decide, by decide⟩ (by decide) (by show 1000 * c + 1 ≤ 603072; omega) (fun v τ1 hq => ?_) (fun E τ1 hq => by cases hq.1)
  obtain ⟨e, h1, h2, h3⟩ := hq
  cases e
  have h := hmw.oth h2
  show V x τ1 (1000 * c + 1) 2108 _ [aI (nI d.1)]
  refine V_run hB (rt := some .boolean) (nL := 9) (mc := 603072) rfl rfl rfl (ops := [(2108, .istore 6, 2, (6, 0, 0, 0, 0, 0), 0), (2110, .aload_n 2, 1, (2, 0, 0, 0, 0, 0), 0)]) (by decide +kernel) ?_
  dsimp only [↓wpb, ↓wp1, ↓vI, ↓vL, ↓vD, ↓ldI, ↓ldL, ↓ldD, ↓ldR, ↓k1, ↓k2, ↓kI, ↓kL, ↓kD, ↓kII, ↓kLL, ↓kDD, ↓kR, ↓kIR, ↓kLR, ↓kIIR, ↓kLIR, ↓kDIR, ↓kRIR, ↓kNN, ↓kE, ↓br, ↓bn, ↓rtI, ↓gfv, ↓zchk, lput, ldel, lbad, alA, acat, isRf, dom, dS, dJ, isO, aTy, aLen, elAV, elR, Nat.reduceBEq, Nat.reduceAdd, Bool.or, Bool.and, Nat.add_zero, Nat.zero_add]
  try simp only [Nat.reduceLT, Nat.reduceLeDiff, Nat.reduceEqDiff, true_and, and_true, and_self, Nat.zero_le, Nat.le_refl, true_or, or_true, Bool.false_eq_true, not_false_eq_true, Nat.reduceAdd, Nat.lt_add_one, Nat.zero_lt_one, nI_add, pk_mul, ixL, vpL, ne_eq, reduceIte, wI_sN, wL_sM, sN_same, sN_K, sN_2, sM_1, sM_same, sM_K, sM_s, uI_at, uN_at, enc_at, uI_enc, uI_uI, upM_s, upM_n]
  refine V_callVN hB (hMo τ1 h) (r := []) rfl (by decide +kernel) cvL_292 (dom1 rfl) npX11_meanLoan ⟨by decide, by decide⟩ (by decide) (by show 1000 * c + 1 + 0 ≤ 603072; omega) (fun v τ2 hq => ?_) (fun E τ2 hq => by cases hq.1)
  obtain ⟨e, hm2, ho2⟩ := hq
  cases e
  show V x τ2 (1000 * c + 1) 2114 _ [.inl (.double d.2)]
  refine V_run hB (rt := some .boolean) (nL := 9) (mc := 603072) rfl rfl rfl (ops := [(2114, .dstore 7, 2, (7, 0, 0, 0, 0, 0), 0), (2116, .aload_n 2, 1, (2, 0, 0, 0, 0, 0), 0)]) (by decide +kernel) ?_
  dsimp only [↓wpb, ↓wp1, ↓vI, ↓vL, ↓vD, ↓ldI, ↓ldL, ↓ldD, ↓ldR, ↓k1, ↓k2, ↓kI, ↓kL, ↓kD, ↓kII, ↓kLL, ↓kDD, ↓kR, ↓kIR, ↓kLR, ↓kIIR, ↓kLIR, ↓kDIR, ↓kRIR, ↓kNN, ↓kE, ↓br, ↓bn, ↓rtI, ↓gfv, ↓zchk, lput, ldel, lbad, alA, acat, isRf, dom, dS, dJ, isO, aTy, aLen, elAV, elR, Nat.reduceBEq, Nat.reduceAdd, Bool.or, Bool.and, Nat.add_zero, Nat.zero_add]
  try simp only [Nat.reduceLT, Nat.reduceLeDiff, Nat.reduceEqDiff, true_and, and_true, and_self, Nat.zero_le, Nat.le_refl, true_or, or_true, Bool.false_eq_true, not_false_eq_true, Nat.reduceAdd, Nat.lt_add_one, Nat.zero_lt_one, nI_add, pk_mul, ixL, vpL, ne_eq, reduceIte, wI_sN, wL_sM, sN_same, sN_K, sN_2, sM_1, sM_same, sM_K, sM_s, uI_at, uN_at, enc_at, uI_enc, uI_uI, upM_s, upM_n]
  refine V_callVN hB (q_thrown hcE.1 τ2) (r := []) rfl (by decide +kernel) cvL_149 (dom1 rfl) npX11_thrown ⟨by decide, by decide⟩ (by decide) (by show 1000 * c + 1 + 0 ≤ 603072; omega) (fun v τ3 hq => ?_) (fun E τ3 hq => by cases hq.1)
  obtain ⟨e, rfl⟩ := hq
  cases e
  show V x τ3 (1000 * c + 1) 2120 _ [aI (τ3.1 (30, 0, 0) 0)]
  rw [hm2.2.1]
  have hend : ∀ al, (∀ z ∈ LK i, lk al z.1 = some z.2) → V x τ3 (1000 * c + 1) 2164 al [] := by
    intro al hal
    refine V.sub ?_ hal
    unfold LK
    refine V_run hB (rt := some .boolean) (nL := 9) (mc := 603072) rfl rfl rfl (ops := [(2164, .goto 419, 3, (2583, 0, 0, 0, 0, 0), 0)]) (by decide +kernel) ?_
    dsimp only [↓wpb, ↓wp1, ↓vI, ↓vL, ↓vD, ↓ldI, ↓ldL, ↓ldD, ↓ldR, ↓k1, ↓k2, ↓kI, ↓kL, ↓kD, ↓kII, ↓kLL, ↓kDD, ↓kR, ↓kIR, ↓kLR, ↓kIIR, ↓kLIR, ↓kDIR, ↓kRIR, ↓kNN, ↓kE, ↓br, ↓bn, ↓rtI, ↓gfv, ↓zchk, lput, ldel, lbad, alA, acat, isRf, dom, dS, dJ, isO, aTy, aLen, elAV, elR, Nat.reduceBEq, Nat.reduceAdd, Bool.or, Bool.and, Nat.add_zero, Nat.zero_add]
    try simp only [Nat.reduceLT, Nat.reduceLeDiff, Nat.reduceEqDiff, true_and, and_true, and_self, Nat.zero_le, Nat.le_refl, true_or, or_true, Bool.false_eq_true, not_false_eq_true, Nat.reduceAdd, Nat.lt_add_one, Nat.zero_lt_one, nI_add, pk_mul, ixL, vpL, ne_eq, reduceIte, wI_sN, wL_sM, sN_same, sN_K, sN_2, sM_1, sM_same, sM_K, sM_s, uI_at, uN_at, enc_at, uI_enc, uI_uI, upM_s, upM_n]
    refine law_next hB (i := i) ?_ (V.widen (by omega) (hk τ3 σ ⟨h1.mod ho2, ⟨_, hm2⟩, hsi.mono (by omega)⟩))
    unfold LK
    exact List.forall_mem_cons.mpr ⟨rfl, List.forall_mem_cons.mpr ⟨rfl, List.forall_mem_cons.mpr ⟨rfl, List.forall_mem_cons.mpr ⟨rfl, List.forall_mem_cons.mpr ⟨rfl, List.forall_mem_cons.mpr ⟨rfl, fun _ h => absurd h List.not_mem_nil⟩⟩⟩⟩⟩⟩
  refine V_run hB (rt := some .boolean) (nL := 9) (mc := 603072) rfl rfl rfl (ops := [(2120, .iload 6, 2, (6, 0, 0, 0, 0, 0), 0), (2122, .if_icmp .eq 5, 3, (2127, 0, 0, 0, 0, 0), 0)]) (by decide +kernel) ?_
  dsimp only [↓wpb, ↓wp1, ↓vI, ↓vL, ↓vD, ↓ldI, ↓ldL, ↓ldD, ↓ldR, ↓k1, ↓k2, ↓kI, ↓kL, ↓kD, ↓kII, ↓kLL, ↓kDD, ↓kR, ↓kIR, ↓kLR, ↓kIIR, ↓kLIR, ↓kDIR, ↓kRIR, ↓kNN, ↓kE, ↓br, ↓bn, ↓rtI, ↓gfv, ↓zchk, lput, ldel, lbad, alA, acat, isRf, dom, dS, dJ, isO, aTy, aLen, elAV, elR, Nat.reduceBEq, Nat.reduceAdd, Bool.or, Bool.and, Nat.add_zero, Nat.zero_add]
  try simp only [Nat.reduceLT, Nat.reduceLeDiff, Nat.reduceEqDiff, true_and, and_true, and_self, Nat.zero_le, Nat.le_refl, true_or, or_true, Bool.false_eq_true, not_false_eq_true, Nat.reduceAdd, Nat.lt_add_one, Nat.zero_lt_one, nI_add, pk_mul, ixL, vpL, ne_eq, reduceIte, wI_sN, wL_sM, sN_same, sN_K, sN_2, sM_1, sM_same, sM_K, sM_s, uI_at, uN_at, enc_at, uI_enc, uI_uI, upM_s, upM_n]
  refine ⟨fun _ => ?_, fun q => absurd trivial q⟩
  refine V_run hB (rt := some .boolean) (nL := 9) (mc := 603072) rfl rfl rfl (ops := [(2127, .iload 6, 2, (6, 0, 0, 0, 0, 0), 0), (2129, .ifCond .ne 35, 3, (2164, 0, 0, 0, 0, 0), 0)]) (by decide +kernel) ?_
  dsimp only [↓wpb, ↓wp1, ↓vI, ↓vL, ↓vD, ↓ldI, ↓ldL, ↓ldD, ↓ldR, ↓k1, ↓k2, ↓kI, ↓kL, ↓kD, ↓kII, ↓kLL, ↓kDD, ↓kR, ↓kIR, ↓kLR, ↓kIIR, ↓kLIR, ↓kDIR, ↓kRIR, ↓kNN, ↓kE, ↓br, ↓bn, ↓rtI, ↓gfv, ↓zchk, lput, ldel, lbad, alA, acat, isRf, dom, dS, dJ, isO, aTy, aLen, elAV, elR, Nat.reduceBEq, Nat.reduceAdd, Bool.or, Bool.and, Nat.add_zero, Nat.zero_add]
  try simp only [Nat.reduceLT, Nat.reduceLeDiff, Nat.reduceEqDiff, true_and, and_true, and_self, Nat.zero_le, Nat.le_refl, true_or, or_true, Bool.false_eq_true, not_false_eq_true, Nat.reduceAdd, Nat.lt_add_one, Nat.zero_lt_one, nI_add, pk_mul, ixL, vpL, ne_eq, reduceIte, wI_sN, wL_sM, sN_same, sN_K, sN_2, sM_1, sM_same, sM_K, sM_s, uI_at, uN_at, enc_at, uI_enc, uI_uI, upM_s, upM_n]
  refine ⟨fun _ => hend _ (by unfold LK; exact List.forall_mem_cons.mpr ⟨rfl, List.forall_mem_cons.mpr ⟨rfl, List.forall_mem_cons.mpr ⟨rfl, List.forall_mem_cons.mpr ⟨rfl, List.forall_mem_cons.mpr ⟨rfl, List.forall_mem_cons.mpr ⟨rfl, fun _ h => absurd h List.not_mem_nil⟩⟩⟩⟩⟩⟩), fun hz => ?_⟩
  have hz0 : d.1 = 0 := (nI_eq (by omega) (by omega)).mp (show nI d.1 = nI 0 from hz)
  have hv : (τ3.2.1 (43, 0, 0) 0).toUInt64 = d.2 := by
    rw [show τ3.2.1 = τ1.2.1 by rw [ho2.1], h3 hz0]
    rfl
  refine V_run hB (rt := some .boolean) (nL := 9) (mc := 603072) rfl rfl rfl (ops := [(2132, .aload 4, 2, (4, 0, 0, 0, 0, 0), 0), (2134, .iconst 0, 1, (0, 0, 0, 0, 0, 0), nI 0), (2135, .daload, 1, (0, 0, 0, 0, 0, 0), 0), (2136, .dload 7, 2, (7, 0, 0, 0, 0, 0), 0), (2138, .dcmp .l, 1, (0, 0, 0, 0, 0, 0), 0), (2139, .ifCond .eq 25, 3, (2164, 0, 0, 0, 0, 0), 0)]) (by decide +kernel) ?_
  dsimp only [↓wpb, ↓wp1, ↓vI, ↓vL, ↓vD, ↓ldI, ↓ldL, ↓ldD, ↓ldR, ↓k1, ↓k2, ↓kI, ↓kL, ↓kD, ↓kII, ↓kLL, ↓kDD, ↓kR, ↓kIR, ↓kLR, ↓kIIR, ↓kLIR, ↓kDIR, ↓kRIR, ↓kNN, ↓kE, ↓br, ↓bn, ↓rtI, ↓gfv, ↓zchk, lput, ldel, lbad, alA, acat, isRf, dom, dS, dJ, isO, aTy, aLen, elAV, elR, Nat.reduceBEq, Nat.reduceAdd, Bool.or, Bool.and, Nat.add_zero, Nat.zero_add]
  try simp only [Nat.reduceLT, Nat.reduceLeDiff, Nat.reduceEqDiff, true_and, and_true, and_self, Nat.zero_le, Nat.le_refl, true_or, or_true, Bool.false_eq_true, not_false_eq_true, Nat.reduceAdd, Nat.lt_add_one, Nat.zero_lt_one, nI_add, pk_mul, ixL, vpL, ne_eq, reduceIte, wI_sN, wL_sM, sN_same, sN_K, sN_2, sM_1, sM_same, sM_K, sM_s, uI_at, uN_at, enc_at, uI_enc, uI_uI, upM_s, upM_n, hv]
  refine ⟨fun _ => hend _ (by unfold LK; exact List.forall_mem_cons.mpr ⟨rfl, List.forall_mem_cons.mpr ⟨rfl, List.forall_mem_cons.mpr ⟨rfl, List.forall_mem_cons.mpr ⟨rfl, List.forall_mem_cons.mpr ⟨rfl, List.forall_mem_cons.mpr ⟨rfl, fun _ h => absurd h List.not_mem_nil⟩⟩⟩⟩⟩⟩), fun hne => ?_⟩
  refine V_run hB (rt := some .boolean) (nL := 9) (mc := 603072) rfl rfl rfl (ops := [(2142, .aload 4, 2, (4, 0, 0, 0, 0, 0), 0), (2144, .iconst 0, 1, (0, 0, 0, 0, 0, 0), nI 0), (2145, .daload, 1, (0, 0, 0, 0, 0, 0), 0), (2146, .aload 4, 2, (4, 0, 0, 0, 0, 0), 0), (2148, .iconst 0, 1, (0, 0, 0, 0, 0, 0), nI 0), (2149, .daload, 1, (0, 0, 0, 0, 0, 0), 0), (2150, .dcmp .l, 1, (0, 0, 0, 0, 0, 0), 0), (2151, .ifCond .eq 11, 3, (2162, 0, 0, 0, 0, 0), 0)]) (by decide +kernel) ?_
  dsimp only [↓wpb, ↓wp1, ↓vI, ↓vL, ↓vD, ↓ldI, ↓ldL, ↓ldD, ↓ldR, ↓k1, ↓k2, ↓kI, ↓kL, ↓kD, ↓kII, ↓kLL, ↓kDD, ↓kR, ↓kIR, ↓kLR, ↓kIIR, ↓kLIR, ↓kDIR, ↓kRIR, ↓kNN, ↓kE, ↓br, ↓bn, ↓rtI, ↓gfv, ↓zchk, lput, ldel, lbad, alA, acat, isRf, dom, dS, dJ, isO, aTy, aLen, elAV, elR, Nat.reduceBEq, Nat.reduceAdd, Bool.or, Bool.and, Nat.add_zero, Nat.zero_add]
  try simp only [Nat.reduceLT, Nat.reduceLeDiff, Nat.reduceEqDiff, true_and, and_true, and_self, Nat.zero_le, Nat.le_refl, true_or, or_true, Bool.false_eq_true, not_false_eq_true, Nat.reduceAdd, Nat.lt_add_one, Nat.zero_lt_one, nI_add, pk_mul, ixL, vpL, ne_eq, reduceIte, wI_sN, wL_sM, sN_same, sN_K, sN_2, sM_1, sM_same, sM_K, sM_s, uI_at, uN_at, enc_at, uI_enc, uI_uI, upM_s, upM_n, hv]
  refine ⟨fun q => absurd q hne, fun _ => ?_⟩
  refine V_run hB (rt := some .boolean) (nL := 9) (mc := 603072) rfl rfl rfl (ops := [(2154, .dload 7, 2, (7, 0, 0, 0, 0, 0), 0), (2156, .dload 7, 2, (7, 0, 0, 0, 0, 0), 0), (2158, .dcmp .l, 1, (0, 0, 0, 0, 0, 0), 0), (2159, .ifCond .ne 5, 3, (2164, 0, 0, 0, 0, 0), 0)]) (by decide +kernel) ?_
  dsimp only [↓wpb, ↓wp1, ↓vI, ↓vL, ↓vD, ↓ldI, ↓ldL, ↓ldD, ↓ldR, ↓k1, ↓k2, ↓kI, ↓kL, ↓kD, ↓kII, ↓kLL, ↓kDD, ↓kR, ↓kIR, ↓kLR, ↓kIIR, ↓kLIR, ↓kDIR, ↓kRIR, ↓kNN, ↓kE, ↓br, ↓bn, ↓rtI, ↓gfv, ↓zchk, lput, ldel, lbad, alA, acat, isRf, dom, dS, dJ, isO, aTy, aLen, elAV, elR, Nat.reduceBEq, Nat.reduceAdd, Bool.or, Bool.and, Nat.add_zero, Nat.zero_add]
  try simp only [Nat.reduceLT, Nat.reduceLeDiff, Nat.reduceEqDiff, true_and, and_true, and_self, Nat.zero_le, Nat.le_refl, true_or, or_true, Bool.false_eq_true, not_false_eq_true, Nat.reduceAdd, Nat.lt_add_one, Nat.zero_lt_one, nI_add, pk_mul, ixL, vpL, ne_eq, reduceIte, wI_sN, wL_sM, sN_same, sN_K, sN_2, sM_1, sM_same, sM_K, sM_s, uI_at, uN_at, enc_at, uI_enc, uI_uI, upM_s, upM_n]
  exact ⟨fun _ => hend _ (by unfold LK; exact List.forall_mem_cons.mpr ⟨rfl, List.forall_mem_cons.mpr ⟨rfl, List.forall_mem_cons.mpr ⟨rfl, List.forall_mem_cons.mpr ⟨rfl, List.forall_mem_cons.mpr ⟨rfl, List.forall_mem_cons.mpr ⟨rfl, fun _ h => absurd h List.not_mem_nil⟩⟩⟩⟩⟩⟩), fun q => absurd q hne⟩
/-- the loop's end -/
theorem lexit (hB : Bd x l G iL_law Φ) (hF : ScF G f N) (hN : N ≤ 2048) (hΦ : ∀ τ, Φ (.inl (some (aI (nI 1)))) τ) (hi : N < i + 4) (hc : c ≤ 600 ∧ i ≤ 2048) : V x τ (1000 * c) 28 (LK i) [] := by
  unfold LK
  refine V_run hB (rt := some .boolean) (nL := 9) (mc := 603072) rfl rfl rfl (ops := [(28, .iload 5, 2, (5, 0, 0, 0, 0, 0), 0), (30, .aload_n 0, 1, (0, 0, 0, 0, 0, 0), 0)]) (by decide +kernel) ?_
  dsimp only [↓wpb, ↓wp1, ↓vI, ↓vL, ↓vD, ↓ldI, ↓ldL, ↓ldD, ↓ldR, ↓k1, ↓k2, ↓kI, ↓kL, ↓kD, ↓kII, ↓kLL, ↓kDD, ↓kR, ↓kIR, ↓kLR, ↓kIIR, ↓kLIR, ↓kDIR, ↓kRIR, ↓kNN, ↓kE, ↓br, ↓bn, ↓rtI, ↓gfv, ↓zchk, lput, ldel, lbad, alA, acat, isRf, dom, dS, dJ, isO, aTy, aLen, elAV, elR, Nat.reduceBEq, Nat.reduceAdd, Bool.or, Bool.and, Nat.add_zero, Nat.zero_add]
  try simp only [Nat.reduceLT, Nat.reduceLeDiff, Nat.reduceEqDiff, true_and, and_true, and_self, Nat.zero_le, Nat.le_refl, true_or, or_true, Bool.false_eq_true, not_false_eq_true, Nat.reduceAdd, Nat.lt_add_one, Nat.zero_lt_one, nI_add, pk_mul, ixL, vpL, ne_eq, reduceIte, wI_sN, wL_sM, sN_same, sN_K, sN_2, sM_1, sM_same, sM_K, sM_s, uI_at, uN_at, enc_at, uI_enc, uI_uI, upM_s, upM_n]
  refine V_tlen hB (N := N) hF (by decide +kernel) ?_
  refine V_run hB (rt := some .boolean) (nL := 9) (mc := 603072) rfl rfl rfl (ops := [(32, .iconst 4, 1, (0, 0, 0, 0, 0, 0), nI 4), (33, .isub, 1, (0, 0, 0, 0, 0, 0), 0), (34, .if_icmp .gt 2555, 3, (2589, 0, 0, 0, 0, 0), 0)]) (by decide +kernel) ?_
  dsimp only [↓wpb, ↓wp1, ↓vI, ↓vL, ↓vD, ↓ldI, ↓ldL, ↓ldD, ↓ldR, ↓k1, ↓k2, ↓kI, ↓kL, ↓kD, ↓kII, ↓kLL, ↓kDD, ↓kR, ↓kIR, ↓kLR, ↓kIIR, ↓kLIR, ↓kDIR, ↓kRIR, ↓kNN, ↓kE, ↓br, ↓bn, ↓rtI, ↓gfv, ↓zchk, lput, ldel, lbad, alA, acat, isRf, dom, dS, dJ, isO, aTy, aLen, elAV, elR, Nat.reduceBEq, Nat.reduceAdd, Bool.or, Bool.and, Nat.add_zero, Nat.zero_add]
  try simp only [Nat.reduceLT, Nat.reduceLeDiff, Nat.reduceEqDiff, true_and, and_true, and_self, Nat.zero_le, Nat.le_refl, true_or, or_true, Bool.false_eq_true, not_false_eq_true, Nat.reduceAdd, Nat.lt_add_one, Nat.zero_lt_one, nI_add, pk_mul, ixL, vpL, ne_eq, reduceIte, wI_sN, wL_sM, sN_same, sN_K, sN_2, sM_1, sM_same, sM_K, sM_s, uI_at, uN_at, enc_at, uI_enc, uI_uI, upM_s, upM_n]
  refine ⟨fun _ => ?_, fun q => absurd ?_ q⟩
  · refine V_run hB (rt := some .boolean) (nL := 9) (mc := 603072) rfl rfl rfl (ops := [(2589, .iconst 1, 1, (0, 0, 0, 0, 0, 0), nI 1), (2590, .ireturn, 1, (0, 0, 0, 0, 0, 0), 0)]) (by decide +kernel) ?_
    dsimp only [↓wpb, ↓wp1, ↓vI, ↓vL, ↓vD, ↓ldI, ↓ldL, ↓ldD, ↓ldR, ↓k1, ↓k2, ↓kI, ↓kL, ↓kD, ↓kII, ↓kLL, ↓kDD, ↓kR, ↓kIR, ↓kLR, ↓kIIR, ↓kLIR, ↓kDIR, ↓kRIR, ↓kNN, ↓kE, ↓br, ↓bn, ↓rtI, ↓gfv, ↓zchk, lput, ldel, lbad, alA, acat, isRf, dom, dS, dJ, isO, aTy, aLen, elAV, elR, Nat.reduceBEq, Nat.reduceAdd, Bool.or, Bool.and, Nat.add_zero, Nat.zero_add]
    try simp only [Nat.reduceLT, Nat.reduceLeDiff, Nat.reduceEqDiff, true_and, and_true, and_self, Nat.zero_le, Nat.le_refl, true_or, or_true, Bool.false_eq_true, not_false_eq_true, Nat.reduceAdd, Nat.lt_add_one, Nat.zero_lt_one, nI_add, pk_mul, ixL, vpL, ne_eq, reduceIte, wI_sN, wL_sM, sN_same, sN_K, sN_2, sM_1, sM_same, sM_K, sM_s, uI_at, uN_at, enc_at, uI_enc, uI_uI, upM_s, upM_n]
    exact ⟨Or.inr rfl, by omega, hΦ τ⟩
  · rw [Int32.lt_iff_toInt_lt, pk_sub_toInt (by omega) (by omega), nI_toInt (by omega)]
    omega
theorem law_loop (hc0 : LCx x l G Φ f N) (hΦ : ∀ τ, Φ (.inl (some (aI (nI 1)))) τ) : ∀ m i c τ σ, N ≤ i + m → i + 4 = 4 * c → i ≤ N → LI c τ σ → V x τ (1000 * c) 28 (LK i) [] := by
  obtain ⟨hB, hcE, hNc, hF, hN, hSl⟩ := id hc0
  intro m
  induction m with
  | zero =>
    intro i c τ σ h1 h2 h3 hLI
    exact lexit hB hF hN hΦ (by omega) (by omega)
  | succ m ih =>
    intro i c τ σ h1 h2 h3 hLI
    by_cases h4 : i + 4 ≤ N
    rotate_left
    · exact lexit hB hF hN hΦ (by omega) (by omega)
    have hk : ∀ τ' σ', LI (c + 1) τ' σ' → V x τ' (1000 * (c + 1)) 28 (LK (i + 4)) [] := fun τ' σ' h => ih (i + 4) (c + 1) τ' σ' (by omega) (by omega) (by omega) h
    have hcc : c ≤ 512 := by omega
    unfold LK
    refine V_run hB (rt := some .boolean) (nL := 9) (mc := 603072) rfl rfl rfl (ops := [(28, .iload 5, 2, (5, 0, 0, 0, 0, 0), 0), (30, .aload_n 0, 1, (0, 0, 0, 0, 0, 0), 0)]) (by decide +kernel) ?_
    dsimp only [↓wpb, ↓wp1, ↓vI, ↓vL, ↓vD, ↓ldI, ↓ldL, ↓ldD, ↓ldR, ↓k1, ↓k2, ↓kI, ↓kL, ↓kD, ↓kII, ↓kLL, ↓kDD, ↓kR, ↓kIR, ↓kLR, ↓kIIR, ↓kLIR, ↓kDIR, ↓kRIR, ↓kNN, ↓kE, ↓br, ↓bn, ↓rtI, ↓gfv, ↓zchk, lput, ldel, lbad, alA, acat, isRf, dom, dS, dJ, isO, aTy, aLen, elAV, elR, Nat.reduceBEq, Nat.reduceAdd, Bool.or, Bool.and, Nat.add_zero, Nat.zero_add]
    try simp only [Nat.reduceLT, Nat.reduceLeDiff, Nat.reduceEqDiff, true_and, and_true, and_self, Nat.zero_le, Nat.le_refl, true_or, or_true, Bool.false_eq_true, not_false_eq_true, Nat.reduceAdd, Nat.lt_add_one, Nat.zero_lt_one, nI_add, pk_mul, ixL, vpL, ne_eq, reduceIte, wI_sN, wL_sM, sN_same, sN_K, sN_2, sM_1, sM_same, sM_K, sM_s, uI_at, uN_at, enc_at, uI_enc, uI_uI, upM_s, upM_n]
    refine V_tlen hB (N := N) hF (by decide +kernel) ?_
    refine V_run hB (rt := some .boolean) (nL := 9) (mc := 603072) rfl rfl rfl (ops := [(32, .iconst 4, 1, (0, 0, 0, 0, 0, 0), nI 4), (33, .isub, 1, (0, 0, 0, 0, 0, 0), 0), (34, .if_icmp .gt 2555, 3, (2589, 0, 0, 0, 0, 0), 0)]) (by decide +kernel) ?_
    dsimp only [↓wpb, ↓wp1, ↓vI, ↓vL, ↓vD, ↓ldI, ↓ldL, ↓ldD, ↓ldR, ↓k1, ↓k2, ↓kI, ↓kL, ↓kD, ↓kII, ↓kLL, ↓kDD, ↓kR, ↓kIR, ↓kLR, ↓kIIR, ↓kLIR, ↓kDIR, ↓kRIR, ↓kNN, ↓kE, ↓br, ↓bn, ↓rtI, ↓gfv, ↓zchk, lput, ldel, lbad, alA, acat, isRf, dom, dS, dJ, isO, aTy, aLen, elAV, elR, Nat.reduceBEq, Nat.reduceAdd, Bool.or, Bool.and, Nat.add_zero, Nat.zero_add]
    try simp only [Nat.reduceLT, Nat.reduceLeDiff, Nat.reduceEqDiff, true_and, and_true, and_self, Nat.zero_le, Nat.le_refl, true_or, or_true, Bool.false_eq_true, not_false_eq_true, Nat.reduceAdd, Nat.lt_add_one, Nat.zero_lt_one, nI_add, pk_mul, ixL, vpL, ne_eq, reduceIte, wI_sN, wL_sM, sN_same, sN_K, sN_2, sM_1, sM_same, sM_K, sM_s, uI_at, uN_at, enc_at, uI_enc, uI_uI, upM_s, upM_n]
    refine ⟨fun q => ?_, fun _ => ?_⟩
    · rw [Int32.lt_iff_toInt_lt, pk_sub_toInt (by omega) (by omega), nI_toInt (by omega)] at q
      omega
    refine V_scr0 hB hF hN (pc := 37) ⟨by decide +kernel, by decide +kernel, by decide +kernel⟩ rfl rfl (by omega) ?_
    refine V_run hB (rt := some .boolean) (nL := 9) (mc := 603072) rfl rfl rfl (ops := [(41, .bipush 63, 2, (0, 0, 0, 0, 0, 0), nI 63), (43, .iand, 1, (0, 0, 0, 0, 0, 0), 0)]) (by decide +kernel) ?_
    dsimp only [↓wpb, ↓wp1, ↓vI, ↓vL, ↓vD, ↓ldI, ↓ldL, ↓ldD, ↓ldR, ↓k1, ↓k2, ↓kI, ↓kL, ↓kD, ↓kII, ↓kLL, ↓kDD, ↓kR, ↓kIR, ↓kLR, ↓kIIR, ↓kLIR, ↓kDIR, ↓kRIR, ↓kNN, ↓kE, ↓br, ↓bn, ↓rtI, ↓gfv, ↓zchk, lput, ldel, lbad, alA, acat, isRf, dom, dS, dJ, isO, aTy, aLen, elAV, elR, Nat.reduceBEq, Nat.reduceAdd, Bool.or, Bool.and, Nat.add_zero, Nat.zero_add]
    try simp only [Nat.reduceLT, Nat.reduceLeDiff, Nat.reduceEqDiff, true_and, and_true, and_self, Nat.zero_le, Nat.le_refl, true_or, or_true, Bool.false_eq_true, not_false_eq_true, Nat.reduceAdd, Nat.lt_add_one, Nat.zero_lt_one, nI_add, pk_mul, ixL, vpL, ne_eq, reduceIte, wI_sN, wL_sM, sN_same, sN_K, sN_2, sM_1, sM_same, sM_K, sM_s, uI_at, uN_at, enc_at, uI_enc, uI_uI, upM_s, upM_n]
    obtain ⟨w, hw, ew⟩ := and63 (f i)
    rw [ew]
    by_cases h52 : 52 ≤ w
    · refine V_tabO hB (dflt := 2539) (lo := 0) (hi := 51) (offs := OFS) (len := 224) (tgt := 2583) (by decide +kernel) (Or.inr (by rw [nI_toInt (by omega)]; omega)) (by decide) ?_
      refine law_next hB (i := i) ?_ (V.widen (by omega) (hk τ σ ⟨hLI.1, hLI.2.1, hLI.2.2.mono (by omega)⟩))
      unfold LK
      exact List.forall_mem_cons.mpr ⟨rfl, List.forall_mem_cons.mpr ⟨rfl, List.forall_mem_cons.mpr ⟨rfl, List.forall_mem_cons.mpr ⟨rfl, List.forall_mem_cons.mpr ⟨rfl, List.forall_mem_cons.mpr ⟨rfl, fun _ h => absurd h List.not_mem_nil⟩⟩⟩⟩⟩⟩
    rcases (by omega : w = 0 ∨ w = 1 ∨ w = 2 ∨ w = 3 ∨ w = 4 ∨ w = 5 ∨ w = 6 ∨ w = 7 ∨ w = 8 ∨ w = 9 ∨ w = 10 ∨ w = 11 ∨ w = 12 ∨ w = 13 ∨ w = 14 ∨ w = 15 ∨ w = 16 ∨ w = 17 ∨ w = 18 ∨ w = 19 ∨ w = 20 ∨ w = 21 ∨ w = 22 ∨ w = 23 ∨ w = 24 ∨ w = 25 ∨ w = 26 ∨ w = 27 ∨ w = 28 ∨ w = 29 ∨ w = 30 ∨ w = 31 ∨ w = 32 ∨ w = 33 ∨ w = 34 ∨ w = 35 ∨ w = 36 ∨ w = 37 ∨ w = 38 ∨ w = 39 ∨ w = 40 ∨ w = 41 ∨ w = 42 ∨ w = 43 ∨ w = 44 ∨ w = 45 ∨ w = 46 ∨ w = 47 ∨ w = 48 ∨ w = 49 ∨ w = 50 ∨ w = 51) with rfl | rfl | rfl | rfl | rfl | rfl | rfl | rfl | rfl | rfl | rfl | rfl | rfl | rfl | rfl | rfl | rfl | rfl | rfl | rfl | rfl | rfl | rfl | rfl | rfl | rfl | rfl | rfl | rfl | rfl | rfl | rfl | rfl | rfl | rfl | rfl | rfl | rfl | rfl | rfl | rfl | rfl | rfl | rfl | rfl | rfl | rfl | rfl | rfl | rfl | rfl | rfl
    · exact V_tabI hB (dflt := 2539) (lo := 0) (hi := 51) (offs := OFS) (len := 224) (off := 224) (tgt := 268) (by decide +kernel) (by decide) (by decide) (by decide) (by decide) (g_pledge hc0 h4 hcc hLI hk)
    · exact V_tabI hB (dflt := 2539) (lo := 0) (hi := 51) (offs := OFS) (len := 224) (off := 304) (tgt := 348) (by decide +kernel) (by decide) (by decide) (by decide) (by decide) (g_redeem hc0 h4 hcc hLI hk)
    · exact V_tabI hB (dflt := 2539) (lo := 0) (hi := 51) (offs := OFS) (len := 224) (off := 360) (tgt := 404) (by decide +kernel) (by decide) (by decide) (by decide) (by decide) (g_extend hc0 h4 hcc hLI hk)
    · exact V_tabI hB (dflt := 2539) (lo := 0) (hi := 51) (offs := OFS) (len := 224) (off := 428) (tgt := 472) (by decide +kernel) (by decide) (by decide) (by decide) (by decide) (g_passDays hc0 h4 hcc hLI hk)
    · exact V_tabI hB (dflt := 2539) (lo := 0) (hi := 51) (offs := OFS) (len := 224) (off := 484) (tgt := 528) (by decide +kernel) (by decide) (by decide) (by decide) (by decide) (g_setPrice hc0 h4 hcc hLI hk)
    · exact V_tabI hB (dflt := 2539) (lo := 0) (hi := 51) (offs := OFS) (len := 224) (off := 540) (tgt := 584) (by decide +kernel) (by decide) (by decide) (by decide) (by decide) (g_setRate hc0 h4 hcc hLI hk)
    · exact V_tabI hB (dflt := 2539) (lo := 0) (hi := 51) (offs := OFS) (len := 224) (off := 608) (tgt := 652) (by decide +kernel) (by decide) (by decide) (by decide) (by decide) (g_day hc0 h4 hcc hLI hk)
    · exact V_tabI hB (dflt := 2539) (lo := 0) (hi := 51) (offs := OFS) (len := 224) (off := 621) (tgt := 665) (by decide +kernel) (by decide) (by decide) (by decide) (by decide) (g_price hc0 h4 hcc hLI hk)
    · exact V_tabI hB (dflt := 2539) (lo := 0) (hi := 51) (offs := OFS) (len := 224) (off := 634) (tgt := 678) (by decide +kernel) (by decide) (by decide) (by decide) (by decide) (g_rateOf hc0 h4 hcc hLI hk)
    · exact V_tabI hB (dflt := 2539) (lo := 0) (hi := 51) (offs := OFS) (len := 224) (off := 690) (tgt := 734) (by decide +kernel) (by decide) (by decide) (by decide) (by decide) (g_coins hc0 h4 hcc hLI hk)
    · exact V_tabI hB (dflt := 2539) (lo := 0) (hi := 51) (offs := OFS) (len := 224) (off := 703) (tgt := 747) (by decide +kernel) (by decide) (by decide) (by decide) (by decide) (g_coinsByAccounts hc0 h4 hcc hLI hk)
    · exact V_tabI hB (dflt := 2539) (lo := 0) (hi := 51) (offs := OFS) (len := 224) (off := 716) (tgt := 760) (by decide +kernel) (by decide) (by decide) (by decide) (by decide) (g_pledgeCount hc0 h4 hcc hLI hk)
    · exact V_tabI hB (dflt := 2539) (lo := 0) (hi := 51) (offs := OFS) (len := 224) (off := 729) (tgt := 773) (by decide +kernel) (by decide) (by decide) (by decide) (by decide) (g_pledgeAt hc0 h4 hcc hLI hk)
    · exact V_tabI hB (dflt := 2539) (lo := 0) (hi := 51) (offs := OFS) (len := 224) (off := 785) (tgt := 829) (by decide +kernel) (by decide) (by decide) (by decide) (by decide) (g_customerOf hc0 h4 hcc hLI hk)
    · exact V_tabI hB (dflt := 2539) (lo := 0) (hi := 51) (offs := OFS) (len := 224) (off := 841) (tgt := 885) (by decide +kernel) (by decide) (by decide) (by decide) (by decide) (g_minutesOf hc0 h4 hcc hLI hk)
    · exact V_tabI hB (dflt := 2539) (lo := 0) (hi := 51) (offs := OFS) (len := 224) (off := 897) (tgt := 941) (by decide +kernel) (by decide) (by decide) (by decide) (by decide) (g_loanOf hc0 h4 hcc hLI hk)
    · exact V_tabI hB (dflt := 2539) (lo := 0) (hi := 51) (offs := OFS) (len := 224) (off := 953) (tgt := 997) (by decide +kernel) (by decide) (by decide) (by decide) (by decide) (g_dueDayOf hc0 h4 hcc hLI hk)
    · exact V_tabI hB (dflt := 2539) (lo := 0) (hi := 51) (offs := OFS) (len := 224) (off := 1009) (tgt := 1053) (by decide +kernel) (by decide) (by decide) (by decide) (by decide) (g_pledgeByDueDay hc0 h4 hcc hLI hk)
    · exact V_tabI hB (dflt := 2539) (lo := 0) (hi := 51) (offs := OFS) (len := 224) (off := 1065) (tgt := 1109) (by decide +kernel) (by decide) (by decide) (by decide) (by decide) (g_interestOf hc0 h4 hcc hLI hk)
    · exact V_tabI hB (dflt := 2539) (lo := 0) (hi := 51) (offs := OFS) (len := 224) (off := 1121) (tgt := 1165) (by decide +kernel) (by decide) (by decide) (by decide) (by decide) (g_interestByWeeks hc0 h4 hcc hLI hk)
    · exact V_tabI hB (dflt := 2539) (lo := 0) (hi := 51) (offs := OFS) (len := 224) (off := 1177) (tgt := 1221) (by decide +kernel) (by decide) (by decide) (by decide) (by decide) (g_debtAfter hc0 h4 hcc hLI hk)
    · exact V_tabI hB (dflt := 2539) (lo := 0) (hi := 51) (offs := OFS) (len := 224) (off := 1245) (tgt := 1289) (by decide +kernel) (by decide) (by decide) (by decide) (by decide) (g_cheapestWeekday hc0 h4 hcc hLI hk)
    · exact V_tabI hB (dflt := 2539) (lo := 0) (hi := 51) (offs := OFS) (len := 224) (off := 1258) (tgt := 1302) (by decide +kernel) (by decide) (by decide) (by decide) (by decide) (g_mostMinutes hc0 h4 hcc hLI hk)
    · exact V_tabI hB (dflt := 2539) (lo := 0) (hi := 51) (offs := OFS) (len := 224) (off := 1326) (tgt := 1370) (by decide +kernel) (by decide) (by decide) (by decide) (by decide) (g_mostMinutesByTable hc0 h4 hcc hLI hk)
    · exact V_tabI hB (dflt := 2539) (lo := 0) (hi := 51) (offs := OFS) (len := 224) (off := 1394) (tgt := 1438) (by decide +kernel) (by decide) (by decide) (by decide) (by decide) (g_debtOf hc0 h4 hcc hLI hk)
    · exact V_tabI hB (dflt := 2539) (lo := 0) (hi := 51) (offs := OFS) (len := 224) (off := 1450) (tgt := 1494) (by decide +kernel) (by decide) (by decide) (by decide) (by decide) (g_daysToForfeit hc0 h4 hcc hLI hk)
    · exact V_tabI hB (dflt := 2539) (lo := 0) (hi := 51) (offs := OFS) (len := 224) (off := 1494) (tgt := 1538) (by decide +kernel) (by decide) (by decide) (by decide) (by decide) (g_bid hc0 h4 hcc hLI hk)
    · exact V_tabI hB (dflt := 2539) (lo := 0) (hi := 51) (offs := OFS) (len := 224) (off := 1574) (tgt := 1618) (by decide +kernel) (by decide) (by decide) (by decide) (by decide) (g_sell hc0 h4 hcc hLI hk)
    · exact V_tabI hB (dflt := 2539) (lo := 0) (hi := 51) (offs := OFS) (len := 224) (off := 1630) (tgt := 1674) (by decide +kernel) (by decide) (by decide) (by decide) (by decide) (g_sellEvening hc0 h4 hcc hLI hk)
    · exact V_tabI hB (dflt := 2539) (lo := 0) (hi := 51) (offs := OFS) (len := 224) (off := 1674) (tgt := 1718) (by decide +kernel) (by decide) (by decide) (by decide) (by decide) (g_lotCount hc0 h4 hcc hLI hk)
    · exact V_tabI hB (dflt := 2539) (lo := 0) (hi := 51) (offs := OFS) (len := 224) (off := 1687) (tgt := 1731) (by decide +kernel) (by decide) (by decide) (by decide) (by decide) (g_lotAt hc0 h4 hcc hLI hk)
    · exact V_tabI hB (dflt := 2539) (lo := 0) (hi := 51) (offs := OFS) (len := 224) (off := 1743) (tgt := 1787) (by decide +kernel) (by decide) (by decide) (by decide) (by decide) (g_bidOf hc0 h4 hcc hLI hk)
    · exact V_tabI hB (dflt := 2539) (lo := 0) (hi := 51) (offs := OFS) (len := 224) (off := 1811) (tgt := 1855) (by decide +kernel) (by decide) (by decide) (by decide) (by decide) (g_buyerOf hc0 h4 hcc hLI hk)
    · exact V_tabI hB (dflt := 2539) (lo := 0) (hi := 51) (offs := OFS) (len := 224) (off := 1867) (tgt := 1911) (by decide +kernel) (by decide) (by decide) (by decide) (by decide) (g_priceOf hc0 h4 hcc hLI hk)
    · exact V_tabI hB (dflt := 2539) (lo := 0) (hi := 51) (offs := OFS) (len := 224) (off := 1923) (tgt := 1967) (by decide +kernel) (by decide) (by decide) (by decide) (by decide) (g_bestEvening hc0 h4 hcc hLI hk)
    · exact V_tabI hB (dflt := 2539) (lo := 0) (hi := 51) (offs := OFS) (len := 224) (off := 1936) (tgt := 1980) (by decide +kernel) (by decide) (by decide) (by decide) (by decide) (g_bestEveningByTrying hc0 h4 hcc hLI hk)
    · exact V_tabI hB (dflt := 2539) (lo := 0) (hi := 51) (offs := OFS) (len := 224) (off := 1949) (tgt := 1993) (by decide +kernel) (by decide) (by decide) (by decide) (by decide) (g_eveningBuyerOf hc0 h4 hcc hLI hk)
    · exact V_tabI hB (dflt := 2539) (lo := 0) (hi := 51) (offs := OFS) (len := 224) (off := 2005) (tgt := 2049) (by decide +kernel) (by decide) (by decide) (by decide) (by decide) (g_redeemedMinutes hc0 h4 hcc hLI hk)
    · exact V_tabI hB (dflt := 2539) (lo := 0) (hi := 51) (offs := OFS) (len := 224) (off := 2018) (tgt := 2062) (by decide +kernel) (by decide) (by decide) (by decide) (by decide) (g_forfeitedMinutes hc0 h4 hcc hLI hk)
    · exact V_tabI hB (dflt := 2539) (lo := 0) (hi := 51) (offs := OFS) (len := 224) (off := 2031) (tgt := 2075) (by decide +kernel) (by decide) (by decide) (by decide) (by decide) (g_soldMinutes hc0 h4 hcc hLI hk)
    · exact V_tabI hB (dflt := 2539) (lo := 0) (hi := 51) (offs := OFS) (len := 224) (off := 2044) (tgt := 2088) (by decide +kernel) (by decide) (by decide) (by decide) (by decide) (g_pledgedMinutes hc0 h4 hcc hLI hk)
    · exact V_tabI hB (dflt := 2539) (lo := 0) (hi := 51) (offs := OFS) (len := 224) (off := 2058) (tgt := 2102) (by decide +kernel) (by decide) (by decide) (by decide) (by decide) (g_meanLoan hc0 h4 hcc hLI hk)
    · exact V_tabI hB (dflt := 2539) (lo := 0) (hi := 51) (offs := OFS) (len := 224) (off := 2123) (tgt := 2167) (by decide +kernel) (by decide) (by decide) (by decide) (by decide) (g_isConsistent hc0 h4 hcc hLI hk)
    · exact V_tabI hB (dflt := 2539) (lo := 0) (hi := 51) (offs := OFS) (len := 224) (off := 2136) (tgt := 2180) (by decide +kernel) (by decide) (by decide) (by decide) (by decide) (g_writeSlip hc0 h4 hcc hLI hk)
    · exact V_tabI hB (dflt := 2539) (lo := 0) (hi := 51) (offs := OFS) (len := 224) (off := 2192) (tgt := 2236) (by decide +kernel) (by decide) (by decide) (by decide) (by decide) (g_slipAt hc0 h4 hcc hLI hk)
    · exact V_tabI hB (dflt := 2539) (lo := 0) (hi := 51) (offs := OFS) (len := 224) (off := 2248) (tgt := 2292) (by decide +kernel) (by decide) (by decide) (by decide) (by decide) (g_type hc0 h4 hcc hLI hk)
    · exact V_tabI hB (dflt := 2539) (lo := 0) (hi := 51) (offs := OFS) (len := 224) (off := 2306) (tgt := 2350) (by decide +kernel) (by decide) (by decide) (by decide) (by decide) (g_execute hc0 h4 hcc hLI hk)
    · exact V_tabI hB (dflt := 2539) (lo := 0) (hi := 51) (offs := OFS) (len := 224) (off := 2350) (tgt := 2394) (by decide +kernel) (by decide) (by decide) (by decide) (by decide) (g_errorPosition hc0 h4 hcc hLI hk)
    · exact V_tabI hB (dflt := 2539) (lo := 0) (hi := 51) (offs := OFS) (len := 224) (off := 2394) (tgt := 2438) (by decide +kernel) (by decide) (by decide) (by decide) (by decide) (g_failedCommand hc0 h4 hcc hLI hk)
    · exact V_tabI hB (dflt := 2539) (lo := 0) (hi := 51) (offs := OFS) (len := 224) (off := 2438) (tgt := 2482) (by decide +kernel) (by decide) (by decide) (by decide) (by decide) (g_undo hc0 h4 hcc hLI hk)
    · exact V_tabI hB (dflt := 2539) (lo := 0) (hi := 51) (offs := OFS) (len := 224) (off := 2482) (tgt := 2526) (by decide +kernel) (by decide) (by decide) (by decide) (by decide) (g_save hc0 h4 hcc hLI hk)
    · exact V_tabI hB (dflt := 2539) (lo := 0) (hi := 51) (offs := OFS) (len := 224) (off := 2495) (tgt := 2539) (by decide +kernel) (by decide) (by decide) (by decide) (by decide) (g_restore hc0 h4 hcc hLI hk)
end LD
