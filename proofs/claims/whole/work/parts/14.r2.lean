/-! ===== the class: redemptions by the table ===== -/
theorem V_ldcI {x : Cx} {l : Launch} {G : GG} {y : MI} {Φ : AOut → Mem → Prop} (hB : Bd x l G y Φ) {τ : Mem} {n pc idx : Nat} {al : Al} {r : List AV} {v : Int32} (hw : Cond.constant y.1.cls idx v ∈ TBg)
    (hd : decode y.2.1 pc = .ok (.ldc idx, 2)) (k : V x τ n (pc + 2) al (.inl (.int v) :: r)) : V x τ n pc al r := by
  obtain ⟨hg, rfl, rfl, rfl, rfl⟩ := hB
  obtain ⟨l, G, p, e, s, m, args, below, meth, c, y, Φ⟩ := x
  obtain ⟨hx, hb, hown, hts, -⟩ := hg
  exact fun H locs ls hW hS hL => lv_ldc hx hb hown (hts _ hw) hd (k H locs ls hW hS hL)
theorem TbV_v {D M : Nat → Nat} {k m v : Nat} (h : TbV D M k m v) (hb : ∀ d m, acA (fun _ => true) D M k d m → d ≤ 999999) : v ≤ 1000000000 := by
  rcases h with ⟨h, _⟩ | ⟨h, _⟩
  · omega
  · have := hb _ _ h; omega
/-- the table's row over the first k, up to H minutes -/
def TbR (τ : Mem) (D M : Nat → Nat) (k H : Nat) : Prop := ∀ m, m ≤ H → ∃ v, τ.1 (17, 0, 0) m = nI v ∧ TbV D M k m v
def tbN (nm : Nm) : Prop := nm = (17, 0, 0)
section R2
variable {l : Launch} {G : GG} {τ : Mem} {a : Nat → Nat} {p : Int32} {D M : Nat → Nat}
theorem c_addTable (hc : Ctx l G) {k H : Nat} (hR : TbR τ D M k H) (hH : H ≤ 2400) (hM1 : 1 ≤ M k) (hMH : M k ≤ H) (hD : D k ≤ 13860) (hb : ∀ d m, acA (fun _ => true) D M k d m → d ≤ 999999) : Sat l G iX8_addToTable [reM, aI (nI (M k)), aI (nI (D k)), aI (nI H)] τ (voidP (fun τ' => TbR τ' D M (k + 1) H ∧ Same tbN τ τ')) := by
  refine Sat_of hc.1 hc.2 (by decide +kernel) (Nat.le_of_ble_eq_true rfl) (fun x hB hno => ?_)
  have loop : ∀ w s t al, s + 1 = M k + w → s ≤ H → Same tbN τ t → (∀ m, m ≤ s → t.1 (17, 0, 0) m = τ.1 (17, 0, 0) m) → (∀ m, s < m → m ≤ H → ∃ v, t.1 (17, 0, 0) m = nI v ∧ TbV D M (k + 1) m v) → (∀ z ∈ [(0, reM), (1, aI (nI (M k))), (2, aI (nI (D k))), (4, aI (nI s))], lk al z.1 = some z.2) → V x t 0 3 al [] := by
    intro w
    induction w with
    | zero =>
      intro s t al hs hsH hm hlo hhi hal
      refine V.sub ?_ hal
      refine V_run hB (rt := none) (nL := 6) (mc := 0) rfl rfl rfl (ops := [(3, .iload 4, 2, (4, 0, 0, 0, 0, 0), 0), (5, .iload_n 1, 1, (1, 0, 0, 0, 0, 0), 0), (6, .if_icmp .lt 48, 3, (54, 0, 0, 0, 0, 0), 0), (9, .aload_n 0, 1, (0, 0, 0, 0, 0, 0), 0), (10, .getfield 28, 3, (6, 5, 2, 17, 0, 0), 0), (13, .iload 4, 2, (4, 0, 0, 0, 0, 0), 0), (15, .iload_n 1, 1, (1, 0, 0, 0, 0, 0), 0), (16, .isub, 1, (0, 0, 0, 0, 0, 0), 0), (17, .iaload, 1, (0, 0, 0, 0, 0, 0), 0), (18, .istore 5, 2, (5, 0, 0, 0, 0, 0), 0), (20, .iload 5, 2, (5, 0, 0, 0, 0, 0), 0)]) (by decide +kernel) ?_
      dsimp only [↓wpb, ↓wp1, ↓vI, ↓vL, ↓vD, ↓ldI, ↓ldL, ↓ldD, ↓ldR, ↓k1, ↓k2, ↓kI, ↓kL, ↓kD, ↓kII, ↓kLL, ↓kDD, ↓kR, ↓kIR, ↓kLR, ↓kIIR, ↓kLIR, ↓kDIR, ↓kRIR, ↓kNN, ↓kE, ↓br, ↓bn, ↓rtI, ↓gfv, ↓zchk, lput, ldel, lbad, alA, acat, isRf, dom, dS, dJ, isO, aTy, aLen, elAV, elR, Nat.reduceBEq, Nat.reduceAdd, Bool.or, Bool.and, Nat.add_zero, Nat.zero_add]
      try simp only [Nat.reduceLT, Nat.reduceLeDiff, Nat.reduceEqDiff, true_and, and_true, and_self, Nat.zero_le, Nat.le_refl, true_or, or_true, Bool.false_eq_true, not_false_eq_true, Nat.reduceAdd, Nat.lt_add_one, Nat.zero_lt_one, nI_add, pk_mul, ixL, vpL, ne_eq, reduceIte, wI_sN, wL_sM, sN_same, sN_K, sN_2, sM_1, sM_same, sM_K, sM_s, uI_at, uN_at, enc_at, uI_enc, uI_uI, upM_s, upM_n]
      refine ⟨fun _ => ?_, fun q => absurd (nI_lt (show s < M k by omega) (by omega)) q⟩
      refine V_run hB (rt := none) (nL := 6) (mc := 0) rfl rfl rfl obX8_addToTable_54 ?_
      dsimp only [bX8_addToTable_54, ↓wpb, ↓wp1, ↓vI, ↓vL, ↓vD, ↓ldI, ↓ldL, ↓ldD, ↓ldR, ↓k1, ↓k2, ↓kI, ↓kL, ↓kD, ↓kII, ↓kLL, ↓kDD, ↓kR, ↓kIR, ↓kLR, ↓kIIR, ↓kLIR, ↓kDIR, ↓kRIR, ↓kNN, ↓kE, ↓br, ↓bn, ↓rtI, ↓gfv, ↓zchk, lput, ldel, lbad, alA, acat, isRf, dom, dS, dJ, isO, aTy, aLen, elAV, elR, Nat.reduceBEq, Nat.reduceAdd, Bool.or, Bool.and, Nat.add_zero, Nat.zero_add]
      try simp only [Nat.reduceLT, Nat.reduceLeDiff, Nat.reduceEqDiff, true_and, and_true, and_self, Nat.zero_le, Nat.le_refl, true_or, or_true, Bool.false_eq_true, not_false_eq_true, Nat.reduceAdd, Nat.lt_add_one, Nat.zero_lt_one, nI_add, pk_mul, ixL, vpL, ne_eq, reduceIte, wI_sN, wL_sM, sN_same, sN_K, sN_2, sM_1, sM_same, sM_K, sM_s, uI_at, uN_at, enc_at, uI_enc, uI_uI, upM_s, upM_n]
      refine ⟨rfl, fun m hmH => ?_, hm⟩
      by_cases h : s < m
      · exact hhi m h hmH
      · obtain ⟨v, v1, v2⟩ := hR m hmH
        exact ⟨v, by rw [hlo m (by omega)]; exact v1, TbV_lo v2 (by omega)⟩
    | succ w ih =>
      intro s t al hs hsH hm hlo hhi hal
      refine V.sub ?_ hal
      have hsM : M k ≤ s := by omega
      obtain ⟨v, v1, v2⟩ := hR s hsH
      obtain ⟨u, u1, u2⟩ := hR (s - M k) (by omega)
      have hv := TbV_v v2 hb
      have hu := TbV_v u2 hb
      have hst := TbV_step v2 hsM u2 hb (by omega)
      have es : nI s - nI (M k) = nI (s - M k) := pk_sub hsM
      have ix : (nI s).toNatClampNeg = s := ixL (by omega)
      have vx : vp_in (nI s) 2401 = True := vpL (by omega) (by omega)
      have ixd : (nI (s - M k)).toNatClampNeg = s - M k := ixL (by omega)
      have vxd : vp_in (nI (s - M k)) 2401 = True := vpL (by omega) (by omega)
      have t1 := (hlo s (Nat.le_refl _)).trans v1
      have t2 := (hlo (s - M k) (by omega)).trans u1
      have em : nI s + -1 = nI (s - 1) := by
        obtain ⟨z, rfl⟩ : ∃ z, s = z + 1 := ⟨s - 1, by omega⟩
        exact pk_m1 z
      have nx : ∀ t al V', (V' = if u = 1000000000 then v else min v (u + D k)) → Same tbN τ t → (∀ m, m < s → t.1 (17, 0, 0) m = τ.1 (17, 0, 0) m) → t.1 (17, 0, 0) s = nI V' → (∀ m, s < m → m ≤ H → ∃ v, t.1 (17, 0, 0) m = nI v ∧ TbV D M (k + 1) m v) → (∀ z ∈ [(0, reM), (1, aI (nI (M k))), (2, aI (nI (D k))), (4, aI (nI s))], lk al z.1 = some z.2) → V x t 0 48 al [] := by
        intro t al V' hV' hm hlo hs2 hhi hal
        refine V.sub ?_ hal
        refine V_run hB (rt := none) (nL := 6) (mc := 0) rfl rfl rfl obX8_addToTable_48 ?_
        dsimp only [bX8_addToTable_48, ↓wpb, ↓wp1, ↓vI, ↓vL, ↓vD, ↓ldI, ↓ldL, ↓ldD, ↓ldR, ↓k1, ↓k2, ↓kI, ↓kL, ↓kD, ↓kII, ↓kLL, ↓kDD, ↓kR, ↓kIR, ↓kLR, ↓kIIR, ↓kLIR, ↓kDIR, ↓kRIR, ↓kNN, ↓kE, ↓br, ↓bn, ↓rtI, ↓gfv, ↓zchk, lput, ldel, lbad, alA, acat, isRf, dom, dS, dJ, isO, aTy, aLen, elAV, elR, Nat.reduceBEq, Nat.reduceAdd, Bool.or, Bool.and, Nat.add_zero, Nat.zero_add]
        try simp only [Nat.reduceLT, Nat.reduceLeDiff, Nat.reduceEqDiff, true_and, and_true, and_self, Nat.zero_le, Nat.le_refl, true_or, or_true, Bool.false_eq_true, not_false_eq_true, Nat.reduceAdd, Nat.lt_add_one, Nat.zero_lt_one, nI_add, pk_mul, ixL, vpL, ne_eq, reduceIte, wI_sN, wL_sM, sN_same, sN_K, sN_2, sM_1, sM_same, sM_K, sM_s, uI_at, uN_at, enc_at, uI_enc, uI_uI, upM_s, upM_n, em]
        refine ih (s - 1) t _ (by omega) (by omega) hm (fun m hm => hlo m (by omega)) (fun m h1 h2 => ?_) (List.forall_mem_cons.mpr ⟨rfl, List.forall_mem_cons.mpr ⟨rfl, List.forall_mem_cons.mpr ⟨rfl, List.forall_mem_cons.mpr ⟨rfl, fun _ h => absurd h List.not_mem_nil⟩⟩⟩⟩)
        by_cases h : m = s
        · subst h; exact ⟨V', hs2, by rw [hV']; exact hst⟩
        · exact hhi m (by omega) h2
      refine V_run hB (rt := none) (nL := 6) (mc := 0) rfl rfl rfl (ops := [(3, .iload 4, 2, (4, 0, 0, 0, 0, 0), 0), (5, .iload_n 1, 1, (1, 0, 0, 0, 0, 0), 0), (6, .if_icmp .lt 48, 3, (54, 0, 0, 0, 0, 0), 0), (9, .aload_n 0, 1, (0, 0, 0, 0, 0, 0), 0), (10, .getfield 28, 3, (6, 5, 2, 17, 0, 0), 0), (13, .iload 4, 2, (4, 0, 0, 0, 0, 0), 0), (15, .iload_n 1, 1, (1, 0, 0, 0, 0, 0), 0), (16, .isub, 1, (0, 0, 0, 0, 0, 0), 0), (17, .iaload, 1, (0, 0, 0, 0, 0, 0), 0), (18, .istore 5, 2, (5, 0, 0, 0, 0, 0), 0), (20, .iload 5, 2, (5, 0, 0, 0, 0, 0), 0)]) (by decide +kernel) ?_
      dsimp only [↓wpb, ↓wp1, ↓vI, ↓vL, ↓vD, ↓ldI, ↓ldL, ↓ldD, ↓ldR, ↓k1, ↓k2, ↓kI, ↓kL, ↓kD, ↓kII, ↓kLL, ↓kDD, ↓kR, ↓kIR, ↓kLR, ↓kIIR, ↓kLIR, ↓kDIR, ↓kRIR, ↓kNN, ↓kE, ↓br, ↓bn, ↓rtI, ↓gfv, ↓zchk, lput, ldel, lbad, alA, acat, isRf, dom, dS, dJ, isO, aTy, aLen, elAV, elR, Nat.reduceBEq, Nat.reduceAdd, Bool.or, Bool.and, Nat.add_zero, Nat.zero_add]
      try simp only [Nat.reduceLT, Nat.reduceLeDiff, Nat.reduceEqDiff, true_and, and_true, and_self, Nat.zero_le, Nat.le_refl, true_or, or_true, Bool.false_eq_true, not_false_eq_true, Nat.reduceAdd, Nat.lt_add_one, Nat.zero_lt_one, nI_add, pk_mul, ixL, vpL, ne_eq, reduceIte, wI_sN, wL_sM, sN_same, sN_K, sN_2, sM_1, sM_same, sM_K, sM_s, uI_at, uN_at, enc_at, uI_enc, uI_uI, upM_s, upM_n, es, ixd, vxd, t2]
      refine ⟨fun q => absurd q (nI_nlt hsM (by omega)), fun _ => ?_⟩
      refine V_ldcI hB (idx := 71) (v := nI 1000000000) (TBg_at 978 (by decide +kernel)) (by decide +kernel) ?_
      refine V_run hB (rt := none) (nL := 6) (mc := 0) rfl rfl rfl obX8_addToTable_24 ?_
      dsimp only [bX8_addToTable_24, ↓wpb, ↓wp1, ↓vI, ↓vL, ↓vD, ↓ldI, ↓ldL, ↓ldD, ↓ldR, ↓k1, ↓k2, ↓kI, ↓kL, ↓kD, ↓kII, ↓kLL, ↓kDD, ↓kR, ↓kIR, ↓kLR, ↓kIIR, ↓kLIR, ↓kDIR, ↓kRIR, ↓kNN, ↓kE, ↓br, ↓bn, ↓rtI, ↓gfv, ↓zchk, lput, ldel, lbad, alA, acat, isRf, dom, dS, dJ, isO, aTy, aLen, elAV, elR, Nat.reduceBEq, Nat.reduceAdd, Bool.or, Bool.and, Nat.add_zero, Nat.zero_add]
      try simp only [Nat.reduceLT, Nat.reduceLeDiff, Nat.reduceEqDiff, true_and, and_true, and_self, Nat.zero_le, Nat.le_refl, true_or, or_true, Bool.false_eq_true, not_false_eq_true, Nat.reduceAdd, Nat.lt_add_one, Nat.zero_lt_one, nI_add, pk_mul, ixL, vpL, ne_eq, reduceIte, wI_sN, wL_sM, sN_same, sN_K, sN_2, sM_1, sM_same, sM_K, sM_s, uI_at, uN_at, enc_at, uI_enc, uI_uI, upM_s, upM_n, ix, vx, t1]
      refine ⟨fun q => ?_, fun q => ?_⟩
      · have q := (nI_eq (by omega) (by omega)).mp q
        exact nx t _ v (by rw [if_pos q]) hm (fun m hm => hlo m (by omega)) t1 hhi (List.forall_mem_cons.mpr ⟨rfl, List.forall_mem_cons.mpr ⟨rfl, List.forall_mem_cons.mpr ⟨rfl, List.forall_mem_cons.mpr ⟨rfl, fun _ h => absurd h List.not_mem_nil⟩⟩⟩⟩)
      · have q : u ≠ 1000000000 := fun z => q (by rw [z])
        refine V_cS hB hno (q_min hc t (a := v) (b := u + D k) (by omega) (by omega)) rfl (by decide +kernel) csX8_82 npJ9_min_7cf53 ⟨by decide, by decide⟩ (Nat.le_of_ble_eq_true rfl) (n' := 0) (by decide) rfl ?_
        refine V_run hB (rt := none) (nL := 6) (mc := 0) rfl rfl rfl (ops := [(47, .iastore, 1, (0, 0, 0, 0, 0, 0), 0)]) (by decide +kernel) ?_
        dsimp only [↓wpb, ↓wp1, ↓vI, ↓vL, ↓vD, ↓ldI, ↓ldL, ↓ldD, ↓ldR, ↓k1, ↓k2, ↓kI, ↓kL, ↓kD, ↓kII, ↓kLL, ↓kDD, ↓kR, ↓kIR, ↓kLR, ↓kIIR, ↓kLIR, ↓kDIR, ↓kRIR, ↓kNN, ↓kE, ↓br, ↓bn, ↓rtI, ↓gfv, ↓zchk, lput, ldel, lbad, alA, acat, isRf, dom, dS, dJ, isO, aTy, aLen, elAV, elR, Nat.reduceBEq, Nat.reduceAdd, Bool.or, Bool.and, Nat.add_zero, Nat.zero_add]
        try simp only [Nat.reduceLT, Nat.reduceLeDiff, Nat.reduceEqDiff, true_and, and_true, and_self, Nat.zero_le, Nat.le_refl, true_or, or_true, Bool.false_eq_true, not_false_eq_true, Nat.reduceAdd, Nat.lt_add_one, Nat.zero_lt_one, nI_add, pk_mul, ixL, vpL, ne_eq, reduceIte, wI_sN, wL_sM, sN_same, sN_K, sN_2, sM_1, sM_same, sM_K, sM_s, uI_at, uN_at, enc_at, uI_enc, uI_uI, upM_s, upM_n, ix, vx]
        refine nx _ _ (min v (u + D k)) (by rw [if_neg q]) (hm.sN _ rfl) (fun m hm => ?_) ?_ (fun m h1 h2 => ?_) (List.forall_mem_cons.mpr ⟨rfl, List.forall_mem_cons.mpr ⟨rfl, List.forall_mem_cons.mpr ⟨rfl, List.forall_mem_cons.mpr ⟨rfl, fun _ h => absurd h List.not_mem_nil⟩⟩⟩⟩)
        · rw [sN_same]
          simp only [uI]
          rw [if_neg (by omega)]
          exact hlo m (by omega)
        · rw [sN_same]
          simp only [uI, if_true]
        · rw [sN_same]
          simp only [uI]
          rw [if_neg (by omega)]
          exact hhi m h1 h2
  refine V_run hB (rt := none) (nL := 6) (mc := 0) rfl rfl rfl obX8_addToTable_0 ?_
  dsimp only [bX8_addToTable_0, ↓wpb, ↓wp1, ↓vI, ↓vL, ↓vD, ↓ldI, ↓ldL, ↓ldD, ↓ldR, ↓k1, ↓k2, ↓kI, ↓kL, ↓kD, ↓kII, ↓kLL, ↓kDD, ↓kR, ↓kIR, ↓kLR, ↓kIIR, ↓kLIR, ↓kDIR, ↓kRIR, ↓kNN, ↓kE, ↓br, ↓bn, ↓rtI, ↓gfv, ↓zchk, lput, ldel, lbad, alA, acat, isRf, dom, dS, dJ, isO, aTy, aLen, elAV, elR, Nat.reduceBEq, Nat.reduceAdd, Bool.or, Bool.and, Nat.add_zero, Nat.zero_add]
  try simp only [Nat.reduceLT, Nat.reduceLeDiff, Nat.reduceEqDiff, true_and, and_true, and_self, Nat.zero_le, Nat.le_refl, true_or, or_true, Bool.false_eq_true, not_false_eq_true, Nat.reduceAdd, Nat.lt_add_one, Nat.zero_lt_one, nI_add, pk_mul, ixL, vpL, ne_eq, reduceIte, wI_sN, wL_sM, sN_same, sN_K, sN_2, sM_1, sM_same, sM_K, sM_s, uI_at, uN_at, enc_at, uI_enc, uI_uI, upM_s, upM_n]
  exact loop (H + 1 - M k) H τ _ (by omega) (Nat.le_refl _) (Same.refl _ _) (fun _ _ => rfl) (fun m h1 h2 => absurd h1 (by omega)) (List.forall_mem_cons.mpr ⟨rfl, List.forall_mem_cons.mpr ⟨rfl, List.forall_mem_cons.mpr ⟨rfl, List.forall_mem_cons.mpr ⟨rfl, fun _ h => absurd h List.not_mem_nil⟩⟩⟩⟩)
theorem ClT.tb {τ τ' : Mem} {k : Nat} (h : ClT τ a p k D M) (hm : Same tbN τ τ') : ClT τ' a p k D M := by
  have n : ∀ K, K ≠ 17 → τ'.1 (K, 0, 0) = τ.1 (K, 0, 0) := fun K hK => (hm.2 (K, 0, 0) (fun z => hK (by injection z))).1
  refine ⟨by rw [n 6 (by decide)]; exact h.1, h.2.1, fun i hi => ?_⟩
  rw [n 13 (by decide), n 14 (by decide)]
  exact h.2.2 i hi
theorem tb_re {τ τ' : Mem} (h : Same tbN τ τ') : Same reN τ τ' := h.mono (fun nm q => by rw [show nm = (17, 0, 0) from q]; unfold reN; omega)
theorem c_fillTable (hc : Ctx l G) (hT : ClT τ a p (a 4) D M) (h10 : a 4 ≤ 10) : Sat l G iX8_fillTable [reM] τ (intP (nI (sumU M (cpN a p (a 4)))) (fun τ' => TbR τ' D M (cpN a p (a 4)) (sumU M (cpN a p (a 4))) ∧ Same tbN τ τ')) := by
  have hN := cpN_le a p (a 4)
  have hbd : ∀ k, k ≤ cpN a p (a 4) → ∀ d m, acA (fun _ => true) D M k d m → d ≤ 999999 := by
    intro k hk d m h
    have := acA_le h (A := 13860) (B := 240) (fun i hi => (hT.2.2 i (by omega)).2.1) (fun i hi => (hT.2.2 i (by omega)).2.2.2)
    omega
  have hsu : ∀ k, k ≤ cpN a p (a 4) → sumU M k ≤ 240 * k := fun k hk => sumU_le k (fun i hi => (hT.2.2 i (by omega)).2.2.2)
  refine Sat_of hc.1 hc.2 (by decide +kernel) (Nat.le_of_ble_eq_true rfl) (fun x hB hno => ?_)
  have loop : ∀ w i t al, i + w = cpN a p (a 4) → Same tbN τ t → TbR t D M i (sumU M i) → (∀ z ∈ [(0, reM), (1, aI (nI (sumU M i))), (2, aI (nI i))], lk al z.1 = some z.2) → V x t 0 11 al [] := by
    intro w
    induction w with
    | zero =>
      intro i t al hi hm hR hal
      refine V.sub ?_ hal
      have hi : i = cpN a p (a 4) := by omega
      subst hi
      have hT1 := hT.tb hm
      refine V_run hB (rt := some .int) (nL := 4) (mc := 0) rfl rfl rfl (ops := [(11, .iload_n 2, 1, (2, 0, 0, 0, 0, 0), 0), (12, .aload_n 0, 1, (0, 0, 0, 0, 0, 0), 0), (13, .getfield 18, 3, (6, 2, 0, 0, 0, 0), 0), (16, .if_icmp .ge 52, 3, (68, 0, 0, 0, 0, 0), 0), (19, .iload_n 1, 1, (1, 0, 0, 0, 0, 0), 0), (20, .istore_n 3, 1, (3, 0, 0, 0, 0, 0), 0), (21, .iload_n 1, 1, (1, 0, 0, 0, 0, 0), 0), (22, .aload_n 0, 1, (0, 0, 0, 0, 0, 0), 0), (23, .getfield 15, 3, (6, 1, 2, 14, 0, 0), 0), (26, .iload_n 2, 1, (2, 0, 0, 0, 0, 0), 0), (27, .iaload, 1, (0, 0, 0, 0, 0, 0), 0), (28, .iadd, 1, (0, 0, 0, 0, 0, 0), 0), (29, .istore_n 1, 1, (1, 0, 0, 0, 0, 0), 0), (30, .aload_n 0, 1, (0, 0, 0, 0, 0, 0), 0), (31, .getfield 28, 3, (6, 5, 2, 17, 0, 0), 0), (34, .iload_n 3, 1, (3, 0, 0, 0, 0, 0), 0), (35, .iconst 1, 1, (0, 0, 0, 0, 0, 0), nI 1), (36, .iadd, 1, (0, 0, 0, 0, 0, 0), 0), (37, .iload_n 1, 1, (1, 0, 0, 0, 0, 0), 0), (38, .iconst 1, 1, (0, 0, 0, 0, 0, 0), nI 1), (39, .iadd, 1, (0, 0, 0, 0, 0, 0), 0)]) (by decide +kernel) ?_
      dsimp only [↓wpb, ↓wp1, ↓vI, ↓vL, ↓vD, ↓ldI, ↓ldL, ↓ldD, ↓ldR, ↓k1, ↓k2, ↓kI, ↓kL, ↓kD, ↓kII, ↓kLL, ↓kDD, ↓kR, ↓kIR, ↓kLR, ↓kIIR, ↓kLIR, ↓kDIR, ↓kRIR, ↓kNN, ↓kE, ↓br, ↓bn, ↓rtI, ↓gfv, ↓zchk, lput, ldel, lbad, alA, acat, isRf, dom, dS, dJ, isO, aTy, aLen, elAV, elR, Nat.reduceBEq, Nat.reduceAdd, Bool.or, Bool.and, Nat.add_zero, Nat.zero_add]
      try simp only [Nat.reduceLT, Nat.reduceLeDiff, Nat.reduceEqDiff, true_and, and_true, and_self, Nat.zero_le, Nat.le_refl, true_or, or_true, Bool.false_eq_true, not_false_eq_true, Nat.reduceAdd, Nat.lt_add_one, Nat.zero_lt_one, nI_add, pk_mul, ixL, vpL, ne_eq, reduceIte, wI_sN, wL_sM, sN_same, sN_K, sN_2, sM_1, sM_same, sM_K, sM_s, uI_at, uN_at, enc_at, uI_enc, uI_uI, upM_s, upM_n, hT1.1]
      refine ⟨fun _ => ?_, fun q => absurd (nI_le (by omega) (by omega)) q⟩
      refine V_run hB (rt := some .int) (nL := 4) (mc := 0) rfl rfl rfl obX8_fillTable_68 ?_
      dsimp only [bX8_fillTable_68, ↓wpb, ↓wp1, ↓vI, ↓vL, ↓vD, ↓ldI, ↓ldL, ↓ldD, ↓ldR, ↓k1, ↓k2, ↓kI, ↓kL, ↓kD, ↓kII, ↓kLL, ↓kDD, ↓kR, ↓kIR, ↓kLR, ↓kIIR, ↓kLIR, ↓kDIR, ↓kRIR, ↓kNN, ↓kE, ↓br, ↓bn, ↓rtI, ↓gfv, ↓zchk, lput, ldel, lbad, alA, acat, isRf, dom, dS, dJ, isO, aTy, aLen, elAV, elR, Nat.reduceBEq, Nat.reduceAdd, Bool.or, Bool.and, Nat.add_zero, Nat.zero_add]
      try simp only [Nat.reduceLT, Nat.reduceLeDiff, Nat.reduceEqDiff, true_and, and_true, and_self, Nat.zero_le, Nat.le_refl, true_or, or_true, Bool.false_eq_true, not_false_eq_true, Nat.reduceAdd, Nat.lt_add_one, Nat.zero_lt_one, nI_add, pk_mul, ixL, vpL, ne_eq, reduceIte, wI_sN, wL_sM, sN_same, sN_K, sN_2, sM_1, sM_same, sM_K, sM_s, uI_at, uN_at, enc_at, uI_enc, uI_uI, upM_s, upM_n]
      exact ⟨rfl, hR, hm⟩
    | succ w ih =>
      intro i t al hi hm hR hal
      refine V.sub ?_ hal
      have hT1 := hT.tb hm
      have ix : (nI i).toNatClampNeg = i := ixL (by omega)
      have vx : vp_in (nI i) 10 = True := vpL (by omega) (by omega)
      obtain ⟨⟨rD, rM⟩, b1, b2, b3⟩ := hT1.2.2 i (by omega)
      have hs0 := hsu i (by omega)
      have hs1 := hsu (i + 1) (by omega)
      have hu : sumU M (i + 1) = sumU M i + M i := rfl
      refine V_run hB (rt := some .int) (nL := 4) (mc := 0) rfl rfl rfl (ops := [(11, .iload_n 2, 1, (2, 0, 0, 0, 0, 0), 0), (12, .aload_n 0, 1, (0, 0, 0, 0, 0, 0), 0), (13, .getfield 18, 3, (6, 2, 0, 0, 0, 0), 0), (16, .if_icmp .ge 52, 3, (68, 0, 0, 0, 0, 0), 0), (19, .iload_n 1, 1, (1, 0, 0, 0, 0, 0), 0), (20, .istore_n 3, 1, (3, 0, 0, 0, 0, 0), 0), (21, .iload_n 1, 1, (1, 0, 0, 0, 0, 0), 0), (22, .aload_n 0, 1, (0, 0, 0, 0, 0, 0), 0), (23, .getfield 15, 3, (6, 1, 2, 14, 0, 0), 0), (26, .iload_n 2, 1, (2, 0, 0, 0, 0, 0), 0), (27, .iaload, 1, (0, 0, 0, 0, 0, 0), 0), (28, .iadd, 1, (0, 0, 0, 0, 0, 0), 0), (29, .istore_n 1, 1, (1, 0, 0, 0, 0, 0), 0), (30, .aload_n 0, 1, (0, 0, 0, 0, 0, 0), 0), (31, .getfield 28, 3, (6, 5, 2, 17, 0, 0), 0), (34, .iload_n 3, 1, (3, 0, 0, 0, 0, 0), 0), (35, .iconst 1, 1, (0, 0, 0, 0, 0, 0), nI 1), (36, .iadd, 1, (0, 0, 0, 0, 0, 0), 0), (37, .iload_n 1, 1, (1, 0, 0, 0, 0, 0), 0), (38, .iconst 1, 1, (0, 0, 0, 0, 0, 0), nI 1), (39, .iadd, 1, (0, 0, 0, 0, 0, 0), 0)]) (by decide +kernel) ?_
      dsimp only [↓wpb, ↓wp1, ↓vI, ↓vL, ↓vD, ↓ldI, ↓ldL, ↓ldD, ↓ldR, ↓k1, ↓k2, ↓kI, ↓kL, ↓kD, ↓kII, ↓kLL, ↓kDD, ↓kR, ↓kIR, ↓kLR, ↓kIIR, ↓kLIR, ↓kDIR, ↓kRIR, ↓kNN, ↓kE, ↓br, ↓bn, ↓rtI, ↓gfv, ↓zchk, lput, ldel, lbad, alA, acat, isRf, dom, dS, dJ, isO, aTy, aLen, elAV, elR, Nat.reduceBEq, Nat.reduceAdd, Bool.or, Bool.and, Nat.add_zero, Nat.zero_add]
      try simp only [Nat.reduceLT, Nat.reduceLeDiff, Nat.reduceEqDiff, true_and, and_true, and_self, Nat.zero_le, Nat.le_refl, true_or, or_true, Bool.false_eq_true, not_false_eq_true, Nat.reduceAdd, Nat.lt_add_one, Nat.zero_lt_one, nI_add, pk_mul, ixL, vpL, ne_eq, reduceIte, wI_sN, wL_sM, sN_same, sN_K, sN_2, sM_1, sM_same, sM_K, sM_s, uI_at, uN_at, enc_at, uI_enc, uI_uI, upM_s, upM_n, hT1.1, ix, vx, rM]
      refine ⟨fun q => absurd q (nI_ge (by omega) (by omega)), fun _ => ?_⟩
      refine V_ldcI hB (idx := 71) (v := nI 1000000000) (TBg_at 978 (by decide +kernel)) (by decide +kernel) ?_
      refine V_cSv hB hno (q_fill2 hc t (K := 17) (s := 0) (j := 0) (N := 2401) (a := sumU M i + 1) (b := sumU M i + M i + 1) (by decide) (by decide) rfl rfl rfl (by omega) (by omega) (by omega) (nI 1000000000)) rfl (by decide +kernel) csX8_72 npJ7_fill_fda19 ⟨by decide, by decide⟩ (Nat.le_of_ble_eq_true rfl) (n' := 0) (by decide) rfl ?_
      have hm2 : Same tbN τ (sN t (17, 0, 0) (flR (t.1 (17, 0, 0)) (sumU M i + 1) (sumU M i + M i + 1) (nI 1000000000))) := hm.sN _ (show tbN (17, 0, 0) from rfl)
      have hR2 : TbR (sN t (17, 0, 0) (flR (t.1 (17, 0, 0)) (sumU M i + 1) (sumU M i + M i + 1) (nI 1000000000))) D M i (sumU M i + M i) := by
        intro m hmm
        rw [sN_same]
        unfold flR
        by_cases h : sumU M i + 1 ≤ m
        · rw [if_pos ⟨h, by omega⟩]
          exact ⟨1000000000, rfl, TbV_hi (by omega)⟩
        · rw [if_neg (fun z => h z.1)]
          exact hR m (by omega)
      generalize sN t (17, 0, 0) (flR (t.1 (17, 0, 0)) (sumU M i + 1) (sumU M i + M i + 1) (nI 1000000000)) = t2 at *
      have hT2 := hT.tb hm2
      obtain ⟨⟨rD, rM⟩, -⟩ := hT2.2.2 i (by omega)
      refine V_run hB (rt := some .int) (nL := 4) (mc := 0) rfl rfl rfl obX8_fillTable_45 ?_
      dsimp only [bX8_fillTable_45, ↓wpb, ↓wp1, ↓vI, ↓vL, ↓vD, ↓ldI, ↓ldL, ↓ldD, ↓ldR, ↓k1, ↓k2, ↓kI, ↓kL, ↓kD, ↓kII, ↓kLL, ↓kDD, ↓kR, ↓kIR, ↓kLR, ↓kIIR, ↓kLIR, ↓kDIR, ↓kRIR, ↓kNN, ↓kE, ↓br, ↓bn, ↓rtI, ↓gfv, ↓zchk, lput, ldel, lbad, alA, acat, isRf, dom, dS, dJ, isO, aTy, aLen, elAV, elR, Nat.reduceBEq, Nat.reduceAdd, Bool.or, Bool.and, Nat.add_zero, Nat.zero_add]
      try simp only [Nat.reduceLT, Nat.reduceLeDiff, Nat.reduceEqDiff, true_and, and_true, and_self, Nat.zero_le, Nat.le_refl, true_or, or_true, Bool.false_eq_true, not_false_eq_true, Nat.reduceAdd, Nat.lt_add_one, Nat.zero_lt_one, nI_add, pk_mul, ixL, vpL, ne_eq, reduceIte, wI_sN, wL_sM, sN_same, sN_K, sN_2, sM_1, sM_same, sM_K, sM_s, uI_at, uN_at, enc_at, uI_enc, uI_uI, upM_s, upM_n, ix, vx, rD, rM]
      refine V_callV hB hno (c_addTable hc hR2 (by omega) b2 (by omega) b1 (hbd i (by omega))) rfl (by decide +kernel) cvX8_78 (dom1 rfl) npX8_addToTable ⟨by decide, by decide⟩ (Nat.le_of_ble_eq_true rfl) (by decide) ?_ ?_
      rotate_left
      · intro E τ' hq; cases hq.1
      intro v t3 hq
      obtain ⟨e1, hR3, hm3⟩ := hq
      cases e1
      show V x t3 0 62 _ _
      refine V_run hB (rt := some .int) (nL := 4) (mc := 0) rfl rfl rfl obX8_fillTable_62 ?_
      dsimp only [bX8_fillTable_62, ↓wpb, ↓wp1, ↓vI, ↓vL, ↓vD, ↓ldI, ↓ldL, ↓ldD, ↓ldR, ↓k1, ↓k2, ↓kI, ↓kL, ↓kD, ↓kII, ↓kLL, ↓kDD, ↓kR, ↓kIR, ↓kLR, ↓kIIR, ↓kLIR, ↓kDIR, ↓kRIR, ↓kNN, ↓kE, ↓br, ↓bn, ↓rtI, ↓gfv, ↓zchk, lput, ldel, lbad, alA, acat, isRf, dom, dS, dJ, isO, aTy, aLen, elAV, elR, Nat.reduceBEq, Nat.reduceAdd, Bool.or, Bool.and, Nat.add_zero, Nat.zero_add]
      try simp only [Nat.reduceLT, Nat.reduceLeDiff, Nat.reduceEqDiff, true_and, and_true, and_self, Nat.zero_le, Nat.le_refl, true_or, or_true, Bool.false_eq_true, not_false_eq_true, Nat.reduceAdd, Nat.lt_add_one, Nat.zero_lt_one, nI_add, pk_mul, ixL, vpL, ne_eq, reduceIte, wI_sN, wL_sM, sN_same, sN_K, sN_2, sM_1, sM_same, sM_K, sM_s, uI_at, uN_at, enc_at, uI_enc, uI_uI, upM_s, upM_n]
      exact ih (i + 1) t3 _ (by omega) (hm2.trans hm3) hR3 (List.forall_mem_cons.mpr ⟨rfl, List.forall_mem_cons.mpr ⟨rfl, List.forall_mem_cons.mpr ⟨rfl, fun _ h => absurd h List.not_mem_nil⟩⟩⟩)
  refine V_run hB (rt := some .int) (nL := 4) (mc := 0) rfl rfl rfl obX8_fillTable_0 ?_
  dsimp only [bX8_fillTable_0, ↓wpb, ↓wp1, ↓vI, ↓vL, ↓vD, ↓ldI, ↓ldL, ↓ldD, ↓ldR, ↓k1, ↓k2, ↓kI, ↓kL, ↓kD, ↓kII, ↓kLL, ↓kDD, ↓kR, ↓kIR, ↓kLR, ↓kIIR, ↓kLIR, ↓kDIR, ↓kRIR, ↓kNN, ↓kE, ↓br, ↓bn, ↓rtI, ↓gfv, ↓zchk, lput, ldel, lbad, alA, acat, isRf, dom, dS, dJ, isO, aTy, aLen, elAV, elR, Nat.reduceBEq, Nat.reduceAdd, Bool.or, Bool.and, Nat.add_zero, Nat.zero_add]
  try simp only [Nat.reduceLT, Nat.reduceLeDiff, Nat.reduceEqDiff, true_and, and_true, and_self, Nat.zero_le, Nat.le_refl, true_or, or_true, Bool.false_eq_true, not_false_eq_true, Nat.reduceAdd, Nat.lt_add_one, Nat.zero_lt_one, nI_add, pk_mul, ixL, vpL, ne_eq, reduceIte, wI_sN, wL_sM, sN_same, sN_K, sN_2, sM_1, sM_same, sM_K, sM_s, uI_at, uN_at, enc_at, uI_enc, uI_uI, upM_s, upM_n]
  refine loop (cpN a p (a 4)) 0 _ _ (by omega) ((Same.refl tbN τ).sN _ rfl) (fun m hm => ?_) (List.forall_mem_cons.mpr ⟨rfl, List.forall_mem_cons.mpr ⟨rfl, List.forall_mem_cons.mpr ⟨rfl, fun _ h => absurd h List.not_mem_nil⟩⟩⟩)
  have hm : m = 0 := Nat.le_zero.mp hm
  subst hm
  exact ⟨0, by rw [sN_same]; rfl, Or.inr ⟨⟨rfl, rfl⟩, fun d _ => Nat.zero_le d⟩⟩
theorem c_mostTable (hc : Ctx l G) (hT : ClT τ a p (a 4) D M) (h10 : a 4 ≤ 10) {c : Nat} (hcc : c ≤ 9999) : Sat l G iX8_mostByTable [reM, aI (nI c)] τ (intP (nI (moU a p c (2 ^ a 4))) (fun τ' => Same reN τ τ')) := by
  have hN := cpN_le a p (a 4)
  have hbd : ∀ d m, acA (fun _ => true) D M (cpN a p (a 4)) d m → d ≤ 999999 := by
    intro d m h
    have := acA_le h (A := 13860) (B := 240) (fun i hi => (hT.2.2 i (by omega)).2.1) (fun i hi => (hT.2.2 i (by omega)).2.2.2)
    omega
  have hsu : sumU M (cpN a p (a 4)) ≤ 2400 := by have := sumU_le (f := M) (B := 240) (cpN a p (a 4)) (fun i hi => (hT.2.2 i (by omega)).2.2.2); omega
  refine Sat_of hc.1 hc.2 (by decide +kernel) (Nat.le_of_ble_eq_true rfl) (fun x hB hno => ?_)
  refine V_run hB (rt := some .int) (nL := 3) (mc := 0) rfl rfl rfl obX8_mostByTable_0 ?_
  dsimp only [bX8_mostByTable_0, ↓wpb, ↓wp1, ↓vI, ↓vL, ↓vD, ↓ldI, ↓ldL, ↓ldD, ↓ldR, ↓k1, ↓k2, ↓kI, ↓kL, ↓kD, ↓kII, ↓kLL, ↓kDD, ↓kR, ↓kIR, ↓kLR, ↓kIIR, ↓kLIR, ↓kDIR, ↓kRIR, ↓kNN, ↓kE, ↓br, ↓bn, ↓rtI, ↓gfv, ↓zchk, lput, ldel, lbad, alA, acat, isRf, dom, dS, dJ, isO, aTy, aLen, elAV, elR, Nat.reduceBEq, Nat.reduceAdd, Bool.or, Bool.and, Nat.add_zero, Nat.zero_add]
  try simp only [Nat.reduceLT, Nat.reduceLeDiff, Nat.reduceEqDiff, true_and, and_true, and_self, Nat.zero_le, Nat.le_refl, true_or, or_true, Bool.false_eq_true, not_false_eq_true, Nat.reduceAdd, Nat.lt_add_one, Nat.zero_lt_one, nI_add, pk_mul, ixL, vpL, ne_eq, reduceIte, wI_sN, wL_sM, sN_same, sN_K, sN_2, sM_1, sM_same, sM_K, sM_s, uI_at, uN_at, enc_at, uI_enc, uI_uI, upM_s, upM_n]
  refine V_callV hB hno (c_fillTable hc hT h10) rfl (by decide +kernel) cvX8_67 (dom1 rfl) npX8_fillTable ⟨by decide, by decide⟩ (Nat.le_of_ble_eq_true rfl) (by decide) ?_ ?_
  rotate_left
  · intro E τ' hq; cases hq.1
  intro v t hq
  obtain ⟨e1, hR, hm⟩ := hq
  cases e1
  show V x t 0 4 _ _
  have fin : ∀ m al, m ≤ sumU M (cpN a p (a 4)) → (∃ d, acA (fun _ => true) D M (cpN a p (a 4)) d m ∧ d ≤ c) → (∀ m' v, m < m' → m' ≤ sumU M (cpN a p (a 4)) → TbV D M (cpN a p (a 4)) m' v → c < v) → (∀ z ∈ [(0, reM), (2, aI (nI m))], lk al z.1 = some z.2) → V x t 0 25 al [] := by
    intro m al hm1 hex hall hal
    refine V.sub ?_ hal
    have hmx : isMx (fun _ => true) D M (cpN a p (a 4)) c m := by
      refine ⟨hex, fun d' m' h hd => Nat.le_of_not_lt (fun hlt => ?_)⟩
      have hs := acA_sum h
      obtain ⟨v, -, hv⟩ := hR m' hs
      have h1 := hall m' v hlt hs hv
      rcases hv with ⟨_, h2⟩ | ⟨_, h2⟩
      · exact h2 d' h
      · have := h2 d' h; omega
    rw [← mx_cl hT.2.1 hmx] at hB
    refine V_run hB (rt := some .int) (nL := 3) (mc := 0) rfl rfl rfl obX8_mostByTable_25 ?_
    dsimp only [bX8_mostByTable_25, ↓wpb, ↓wp1, ↓vI, ↓vL, ↓vD, ↓ldI, ↓ldL, ↓ldD, ↓ldR, ↓k1, ↓k2, ↓kI, ↓kL, ↓kD, ↓kII, ↓kLL, ↓kDD, ↓kR, ↓kIR, ↓kLR, ↓kIIR, ↓kLIR, ↓kDIR, ↓kRIR, ↓kNN, ↓kE, ↓br, ↓bn, ↓rtI, ↓gfv, ↓zchk, lput, ldel, lbad, alA, acat, isRf, dom, dS, dJ, isO, aTy, aLen, elAV, elR, Nat.reduceBEq, Nat.reduceAdd, Bool.or, Bool.and, Nat.add_zero, Nat.zero_add]
    try simp only [Nat.reduceLT, Nat.reduceLeDiff, Nat.reduceEqDiff, true_and, and_true, and_self, Nat.zero_le, Nat.le_refl, true_or, or_true, Bool.false_eq_true, not_false_eq_true, Nat.reduceAdd, Nat.lt_add_one, Nat.zero_lt_one, nI_add, pk_mul, ixL, vpL, ne_eq, reduceIte, wI_sN, wL_sM, sN_same, sN_K, sN_2, sM_1, sM_same, sM_K, sM_s, uI_at, uN_at, enc_at, uI_enc, uI_uI, upM_s, upM_n]
    exact ⟨rfl, tb_re hm⟩
  have loop : ∀ m al, m ≤ sumU M (cpN a p (a 4)) → (∀ m' v, m < m' → m' ≤ sumU M (cpN a p (a 4)) → TbV D M (cpN a p (a 4)) m' v → c < v) → (∀ z ∈ [(0, reM), (1, aI (nI c)), (2, aI (nI m))], lk al z.1 = some z.2) → V x t 0 5 al [] := by
    intro m
    induction m with
    | zero =>
      intro al hm1 hall hal
      refine V.sub ?_ hal
      refine V_run hB (rt := some .int) (nL := 3) (mc := 0) rfl rfl rfl obX8_mostByTable_5 ?_
      dsimp only [bX8_mostByTable_5, ↓wpb, ↓wp1, ↓vI, ↓vL, ↓vD, ↓ldI, ↓ldL, ↓ldD, ↓ldR, ↓k1, ↓k2, ↓kI, ↓kL, ↓kD, ↓kII, ↓kLL, ↓kDD, ↓kR, ↓kIR, ↓kLR, ↓kIIR, ↓kLIR, ↓kDIR, ↓kRIR, ↓kNN, ↓kE, ↓br, ↓bn, ↓rtI, ↓gfv, ↓zchk, lput, ldel, lbad, alA, acat, isRf, dom, dS, dJ, isO, aTy, aLen, elAV, elR, Nat.reduceBEq, Nat.reduceAdd, Bool.or, Bool.and, Nat.add_zero, Nat.zero_add]
      try simp only [Nat.reduceLT, Nat.reduceLeDiff, Nat.reduceEqDiff, true_and, and_true, and_self, Nat.zero_le, Nat.le_refl, true_or, or_true, Bool.false_eq_true, not_false_eq_true, Nat.reduceAdd, Nat.lt_add_one, Nat.zero_lt_one, nI_add, pk_mul, ixL, vpL, ne_eq, reduceIte, wI_sN, wL_sM, sN_same, sN_K, sN_2, sM_1, sM_same, sM_K, sM_s, uI_at, uN_at, enc_at, uI_enc, uI_uI, upM_s, upM_n]
      refine ⟨fun _ => ?_, fun q => absurd (by decide) q⟩
      exact fin 0 _ hm1 ⟨0, acA_00 _ _ _ _, Nat.zero_le _⟩ hall (List.forall_mem_cons.mpr ⟨rfl, List.forall_mem_cons.mpr ⟨rfl, fun _ h => absurd h List.not_mem_nil⟩⟩)
    | succ m ih =>
      intro al hm1 hall hal
      refine V.sub ?_ hal
      obtain ⟨v, v1, v2⟩ := hR (m + 1) hm1
      have hv := TbV_v v2 hbd
      have ix : (nI (m + 1)).toNatClampNeg = m + 1 := ixL (by omega)
      have vx : vp_in (nI (m + 1)) 2401 = True := vpL (by omega) (by omega)
      have em : nI (m + 1) + -1 = nI m := pk_m1 m
      refine V_run hB (rt := some .int) (nL := 3) (mc := 0) rfl rfl rfl obX8_mostByTable_5 ?_
      dsimp only [bX8_mostByTable_5, ↓wpb, ↓wp1, ↓vI, ↓vL, ↓vD, ↓ldI, ↓ldL, ↓ldD, ↓ldR, ↓k1, ↓k2, ↓kI, ↓kL, ↓kD, ↓kII, ↓kLL, ↓kDD, ↓kR, ↓kIR, ↓kLR, ↓kIIR, ↓kLIR, ↓kDIR, ↓kRIR, ↓kNN, ↓kE, ↓br, ↓bn, ↓rtI, ↓gfv, ↓zchk, lput, ldel, lbad, alA, acat, isRf, dom, dS, dJ, isO, aTy, aLen, elAV, elR, Nat.reduceBEq, Nat.reduceAdd, Bool.or, Bool.and, Nat.add_zero, Nat.zero_add]
      try simp only [Nat.reduceLT, Nat.reduceLeDiff, Nat.reduceEqDiff, true_and, and_true, and_self, Nat.zero_le, Nat.le_refl, true_or, or_true, Bool.false_eq_true, not_false_eq_true, Nat.reduceAdd, Nat.lt_add_one, Nat.zero_lt_one, nI_add, pk_mul, ixL, vpL, ne_eq, reduceIte, wI_sN, wL_sM, sN_same, sN_K, sN_2, sM_1, sM_same, sM_K, sM_s, uI_at, uN_at, enc_at, uI_enc, uI_uI, upM_s, upM_n, ix, vx, v1, em]
      refine ⟨fun q => absurd q (nI_nle (by omega) (by omega)), fun _ => ⟨fun q => ?_, fun q => ?_⟩⟩
      · rw [nI_leI (by omega) (by omega)] at q
        refine fin (m + 1) _ hm1 ?_ hall (List.forall_mem_cons.mpr ⟨rfl, List.forall_mem_cons.mpr ⟨rfl, fun _ h => absurd h List.not_mem_nil⟩⟩)
        rcases v2 with ⟨h1, _⟩ | ⟨h1, _⟩
        · omega
        · exact ⟨v, h1, q⟩
      · rw [nI_leI (by omega) (by omega)] at q
        refine ih _ (by omega) (fun m' v' h1 h2 h3 => ?_) (List.forall_mem_cons.mpr ⟨rfl, List.forall_mem_cons.mpr ⟨rfl, List.forall_mem_cons.mpr ⟨rfl, fun _ h => absurd h List.not_mem_nil⟩⟩⟩)
        by_cases h : m' = m + 1
        · subst h
          have : v' = v := by
            rcases v2 with ⟨z1, z2⟩ | ⟨z1, z2⟩
            · rcases h3 with ⟨y1, y2⟩ | ⟨y1, y2⟩
              · omega
              · exact absurd y1 (z2 _)
            · rcases h3 with ⟨y1, y2⟩ | ⟨y1, y2⟩
              · exact absurd z1 (y2 _)
              · have := z2 _ y1; have := y2 _ z1; omega
          omega
        · exact hall m' v' (by omega) h2 h3
  refine V_run hB (rt := some .int) (nL := 3) (mc := 0) rfl rfl rfl obX8_mostByTable_4 ?_
  dsimp only [bX8_mostByTable_4, ↓wpb, ↓wp1, ↓vI, ↓vL, ↓vD, ↓ldI, ↓ldL, ↓ldD, ↓ldR, ↓k1, ↓k2, ↓kI, ↓kL, ↓kD, ↓kII, ↓kLL, ↓kDD, ↓kR, ↓kIR, ↓kLR, ↓kIIR, ↓kLIR, ↓kDIR, ↓kRIR, ↓kNN, ↓kE, ↓br, ↓bn, ↓rtI, ↓gfv, ↓zchk, lput, ldel, lbad, alA, acat, isRf, dom, dS, dJ, isO, aTy, aLen, elAV, elR, Nat.reduceBEq, Nat.reduceAdd, Bool.or, Bool.and, Nat.add_zero, Nat.zero_add]
  try simp only [Nat.reduceLT, Nat.reduceLeDiff, Nat.reduceEqDiff, true_and, and_true, and_self, Nat.zero_le, Nat.le_refl, true_or, or_true, Bool.false_eq_true, not_false_eq_true, Nat.reduceAdd, Nat.lt_add_one, Nat.zero_lt_one, nI_add, pk_mul, ixL, vpL, ne_eq, reduceIte, wI_sN, wL_sM, sN_same, sN_K, sN_2, sM_1, sM_same, sM_K, sM_s, uI_at, uN_at, enc_at, uI_enc, uI_uI, upM_s, upM_n]
  exact loop _ _ (Nat.le_refl _) (fun m' v h1 h2 _ => absurd h1 (by omega)) (List.forall_mem_cons.mpr ⟨rfl, List.forall_mem_cons.mpr ⟨rfl, List.forall_mem_cons.mpr ⟨rfl, fun _ h => absurd h List.not_mem_nil⟩⟩⟩)
end R2
