/-! ===== the class: a form matched ===== -/
/-- the numbers of a form -/
def nF (T : List Nat) : List Nat → Nat → List Nat
  | [], _ => []
  | c :: F, h => if c = 35 then (dgt T 1 h 0).1 :: nF T F (msg T c h) else if c = 42 then (dgt T 3 h 0).1 :: nF T F (msg T c h) else nF T F (msg T c h)
def phN : List Nat → Nat
  | [] => 0
  | c :: F => phN F + (if c = 35 ∨ c = 42 then 1 else 0)
theorem phN_3 : ∀ k, k < 9 → phN (fmL k) ≤ 3 := by decide
def mrN (r : Nat) (nm : Nm) : Prop := nm = (9, 0, 0) ∨ nm = (29, 0, r)
/-- what a match answers and leaves -/
def matP (T F : List Nat) (h e0 r : Nat) (τ : Mem) : AOut → Mem → Prop := fun o τ' => o = .inl (some (aI (if (mF T F h).1 = true then nI (mF T F h).2 else -1))) ∧ ((mF T F h).1 = true → ∀ j c, (nF T F h)[j]? = some c → τ'.1 (29, 0, r) j = nI c) ∧
  ((mF T F h).1 = false → τ'.1 (9, 0, 0) 5 = nI (max e0 (mF T F h).2)) ∧ (∀ k, k ≠ 5 → τ'.1 (9, 0, 0) k = τ.1 (9, 0, 0) k) ∧ Same (mrN r) τ τ'
section D6
variable {l : Launch} {G : GG} {τ : Mem} {T : List Nat}
theorem TxR.of {τ τ' : Mem} (h : TxR τ T) (h1 : τ'.1 (9, 0, 0) 1 = τ.1 (9, 0, 0) 1) (h2 : τ'.1 (26, 0, 0) = τ.1 (26, 0, 0)) : TxR τ' T := ⟨h1.trans h.1, fun j c hj => by rw [h2]; exact h.2 j c hj⟩
theorem c_match (hc : CtxE l G) (hT : TxR τ T) (hl : T.length ≤ 60) (hch : ∀ c ∈ T, c < 128) {k h e0 r : Nat} (hk : k < 9) (hr : r < 9) (hh : h ≤ T.length) (he : e0 ≤ 60) (h5 : τ.1 (9, 0, 0) 5 = nI e0) : Sat l G iX7_match [pgM, .inr (62, k, 0), aI (nI h), .inr (29, 0, r)] τ (matP T (fmL k) h e0 r τ) := by
  have hok := fmL_ok k hk
  refine Sat_of hc.1.1 hc.1.2 (by decide +kernel) (Nat.le_of_ble_eq_true rfl) (fun x hB hno => ?_)
  have loop : ∀ F pre pos (acc : List Nat) t al, fmL k = pre ++ F → pos ≤ T.length → acc.length + phN F ≤ 3 → mF T F pos = mF T (fmL k) h → acc ++ nF T F pos = nF T (fmL k) h → (∀ j c, acc[j]? = some c → t.1 (29, 0, r) j = nI c) → t.1 (9, 0, 0) = τ.1 (9, 0, 0) → Same (mrN r) τ t →
      (∀ z ∈ [(0, pgM), (1, .inr (62, k, 0)), (3, .inr (29, 0, r)), (4, aI (nI pos)), (5, aI (nI acc.length)), (6, aI (nI pre.length))], lk al z.1 = some z.2) → V x t 0 9 al [] := by
    intro F
    induction F with
    | nil =>
      intro pre pos acc t al hF hp hn hm hN hR h9 hS hal
      refine V.sub ?_ hal
      have hlen : (fmL k).length = pre.length := by rw [hF, List.append_nil]
      refine V_run hB (rt := some .int) (nL := 8) (mc := 0) rfl rfl rfl (ops := [(9, .iload 6, 2, (6, 0, 0, 0, 0, 0), 0), (11, .aload_n 1, 1, (1, 0, 0, 0, 0, 0), 0)]) (by decide +kernel) ?_
      dsimp only [↓wpb, ↓wp1, ↓vI, ↓vL, ↓vD, ↓ldI, ↓ldL, ↓ldD, ↓ldR, ↓k1, ↓k2, ↓kI, ↓kL, ↓kD, ↓kII, ↓kLL, ↓kDD, ↓kR, ↓kIR, ↓kLR, ↓kIIR, ↓kLIR, ↓kDIR, ↓kRIR, ↓kNN, ↓kE, ↓br, ↓bn, ↓rtI, ↓gfv, ↓zchk, lput, ldel, lbad, alA, acat, isRf, dom, dS, dJ, isO, aTy, aLen, elAV, elR, Nat.reduceBEq, Nat.reduceAdd, Bool.or, Bool.and, Nat.add_zero, Nat.zero_add]
      try simp only [Nat.reduceLT, Nat.reduceLeDiff, Nat.reduceEqDiff, true_and, and_true, and_self, Nat.zero_le, Nat.le_refl, true_or, or_true, Bool.false_eq_true, not_false_eq_true, Nat.reduceAdd, Nat.lt_add_one, Nat.zero_lt_one, nI_add, pk_mul, ixL, vpL, ne_eq, reduceIte, wI_sN, wL_sM, sN_same, sN_K, sN_2, sM_1, sM_same, sM_K, sM_s, uI_at, uN_at, enc_at, uI_enc, uI_uI, upM_s, upM_n]
      refine V_cK hB hno (k_length hc hk) rfl (fun U H h => ((hc.2 U H h).2.2.1 k hk).1) (by decide +kernel) ckX7_51 npJ0_length_8abf5 ⟨by decide, by decide⟩ (Nat.le_of_ble_eq_true rfl) rfl (Nat.zero_le _) ?_
      rw [hlen]
      refine V_run hB (rt := some .int) (nL := 8) (mc := 0) rfl rfl rfl (ops := [(15, .if_icmp .ge 83, 3, (98, 0, 0, 0, 0, 0), 0)]) (by decide +kernel) ?_
      dsimp only [↓wpb, ↓wp1, ↓vI, ↓vL, ↓vD, ↓ldI, ↓ldL, ↓ldD, ↓ldR, ↓k1, ↓k2, ↓kI, ↓kL, ↓kD, ↓kII, ↓kLL, ↓kDD, ↓kR, ↓kIR, ↓kLR, ↓kIIR, ↓kLIR, ↓kDIR, ↓kRIR, ↓kNN, ↓kE, ↓br, ↓bn, ↓rtI, ↓gfv, ↓zchk, lput, ldel, lbad, alA, acat, isRf, dom, dS, dJ, isO, aTy, aLen, elAV, elR, Nat.reduceBEq, Nat.reduceAdd, Bool.or, Bool.and, Nat.add_zero, Nat.zero_add]
      try simp only [Nat.reduceLT, Nat.reduceLeDiff, Nat.reduceEqDiff, true_and, and_true, and_self, Nat.zero_le, Nat.le_refl, true_or, or_true, Bool.false_eq_true, not_false_eq_true, Nat.reduceAdd, Nat.lt_add_one, Nat.zero_lt_one, nI_add, pk_mul, ixL, vpL, ne_eq, reduceIte, wI_sN, wL_sM, sN_same, sN_K, sN_2, sM_1, sM_same, sM_K, sM_s, uI_at, uN_at, enc_at, uI_enc, uI_uI, upM_s, upM_n]
      refine ⟨fun _ => ?_, fun q => absurd (Int32.le_refl _) q⟩
      have hm : (true, pos) = mF T (fmL k) h := hm
      rw [show nF T [] pos = [] from rfl, List.append_nil] at hN
      refine V_run hB (rt := some .int) (nL := 8) (mc := 0) rfl rfl rfl obX7_match_98 ?_
      dsimp only [bX7_match_98, ↓wpb, ↓wp1, ↓vI, ↓vL, ↓vD, ↓ldI, ↓ldL, ↓ldD, ↓ldR, ↓k1, ↓k2, ↓kI, ↓kL, ↓kD, ↓kII, ↓kLL, ↓kDD, ↓kR, ↓kIR, ↓kLR, ↓kIIR, ↓kLIR, ↓kDIR, ↓kRIR, ↓kNN, ↓kE, ↓br, ↓bn, ↓rtI, ↓gfv, ↓zchk, lput, ldel, lbad, alA, acat, isRf, dom, dS, dJ, isO, aTy, aLen, elAV, elR, Nat.reduceBEq, Nat.reduceAdd, Bool.or, Bool.and, Nat.add_zero, Nat.zero_add]
      try simp only [Nat.reduceLT, Nat.reduceLeDiff, Nat.reduceEqDiff, true_and, and_true, and_self, Nat.zero_le, Nat.le_refl, true_or, or_true, Bool.false_eq_true, not_false_eq_true, Nat.reduceAdd, Nat.lt_add_one, Nat.zero_lt_one, nI_add, pk_mul, ixL, vpL, ne_eq, reduceIte, wI_sN, wL_sM, sN_same, sN_K, sN_2, sM_1, sM_same, sM_K, sM_s, uI_at, uN_at, enc_at, uI_enc, uI_uI, upM_s, upM_n]
      unfold matP
      rw [← hm, ← hN]
      exact ⟨rfl, fun _ => hR, fun z => (nomatch z), fun k _ => by rw [h9], hS⟩
    | cons c F ih =>
      intro pre pos acc t al hF hp hn hm hN hR h9 hS hal
      refine V.sub ?_ hal
      have hlen : (fmL k).length = pre.length + (F.length + 1) := by rw [hF, List.length_append]; rfl
      have hlt : pre.length < (fmL k).length := by omega
      have hcc : (fmL k).getD pre.length 0 = c := by
        rw [List.getD_eq_getElem?_getD, hF, List.getElem?_append_right (Nat.le_refl _), Nat.sub_self]; rfl
      have hc8 : c < 128 := hok.2 c (by rw [hF]; exact List.mem_append_right _ List.mem_cons_self)
      have hTt : TxR t T := hT.of (by rw [h9]) (hS.2 _ (by rintro (z | z) <;> injection z with z1 z2 <;> cases z1)).1
      have hms : pos ≤ msg T c pos ∧ msg T c pos ≤ T.length := by
        unfold msg
        split
        · have := dgt_le T 1 pos 0 hp; omega
        · split
          · have := dgt_le T 3 pos 0 hp; omega
          · split
            · rename_i e
              have := (List.getElem?_eq_some_iff.mp e).1
              omega
            · omega
      refine V_run hB (rt := some .int) (nL := 8) (mc := 0) rfl rfl rfl (ops := [(9, .iload 6, 2, (6, 0, 0, 0, 0, 0), 0), (11, .aload_n 1, 1, (1, 0, 0, 0, 0, 0), 0)]) (by decide +kernel) ?_
      dsimp only [↓wpb, ↓wp1, ↓vI, ↓vL, ↓vD, ↓ldI, ↓ldL, ↓ldD, ↓ldR, ↓k1, ↓k2, ↓kI, ↓kL, ↓kD, ↓kII, ↓kLL, ↓kDD, ↓kR, ↓kIR, ↓kLR, ↓kIIR, ↓kLIR, ↓kDIR, ↓kRIR, ↓kNN, ↓kE, ↓br, ↓bn, ↓rtI, ↓gfv, ↓zchk, lput, ldel, lbad, alA, acat, isRf, dom, dS, dJ, isO, aTy, aLen, elAV, elR, Nat.reduceBEq, Nat.reduceAdd, Bool.or, Bool.and, Nat.add_zero, Nat.zero_add]
      try simp only [Nat.reduceLT, Nat.reduceLeDiff, Nat.reduceEqDiff, true_and, and_true, and_self, Nat.zero_le, Nat.le_refl, true_or, or_true, Bool.false_eq_true, not_false_eq_true, Nat.reduceAdd, Nat.lt_add_one, Nat.zero_lt_one, nI_add, pk_mul, ixL, vpL, ne_eq, reduceIte, wI_sN, wL_sM, sN_same, sN_K, sN_2, sM_1, sM_same, sM_K, sM_s, uI_at, uN_at, enc_at, uI_enc, uI_uI, upM_s, upM_n]
      refine V_cK hB hno (k_length hc hk) rfl (fun U H h => ((hc.2 U H h).2.2.1 k hk).1) (by decide +kernel) ckX7_51 npJ0_length_8abf5 ⟨by decide, by decide⟩ (Nat.le_of_ble_eq_true rfl) rfl (Nat.zero_le _) ?_
      refine V_run hB (rt := some .int) (nL := 8) (mc := 0) rfl rfl rfl (ops := [(15, .if_icmp .ge 83, 3, (98, 0, 0, 0, 0, 0), 0), (18, .aload_n 0, 1, (0, 0, 0, 0, 0, 0), 0), (19, .aload_n 1, 1, (1, 0, 0, 0, 0, 0), 0), (20, .iload 6, 2, (6, 0, 0, 0, 0, 0), 0)]) (by decide +kernel) ?_
      dsimp only [↓wpb, ↓wp1, ↓vI, ↓vL, ↓vD, ↓ldI, ↓ldL, ↓ldD, ↓ldR, ↓k1, ↓k2, ↓kI, ↓kL, ↓kD, ↓kII, ↓kLL, ↓kDD, ↓kR, ↓kIR, ↓kLR, ↓kIIR, ↓kLIR, ↓kDIR, ↓kRIR, ↓kNN, ↓kE, ↓br, ↓bn, ↓rtI, ↓gfv, ↓zchk, lput, ldel, lbad, alA, acat, isRf, dom, dS, dJ, isO, aTy, aLen, elAV, elR, Nat.reduceBEq, Nat.reduceAdd, Bool.or, Bool.and, Nat.add_zero, Nat.zero_add]
      try simp only [Nat.reduceLT, Nat.reduceLeDiff, Nat.reduceEqDiff, true_and, and_true, and_self, Nat.zero_le, Nat.le_refl, true_or, or_true, Bool.false_eq_true, not_false_eq_true, Nat.reduceAdd, Nat.lt_add_one, Nat.zero_lt_one, nI_add, pk_mul, ixL, vpL, ne_eq, reduceIte, wI_sN, wL_sM, sN_same, sN_K, sN_2, sM_1, sM_same, sM_K, sM_s, uI_at, uN_at, enc_at, uI_enc, uI_uI, upM_s, upM_n]
      refine ⟨fun q => absurd q (nI_ge (by omega) (by omega)), fun _ => ?_⟩
      refine V_cK hB hno (k_charAt hc hk hlt) rfl (fun U H h => ((hc.2 U H h).2.2.1 k hk).1) (by decide +kernel) ckX7_56 npJ0_charAt_5068e ⟨by decide, by decide⟩ (Nat.le_of_ble_eq_true rfl) rfl (Nat.zero_le _) ?_
      rw [hcc]
      refine V_run hB (rt := some .int) (nL := 8) (mc := 0) rfl rfl rfl (ops := [(25, .iload 4, 2, (4, 0, 0, 0, 0, 0), 0)]) (by decide +kernel) ?_
      dsimp only [↓wpb, ↓wp1, ↓vI, ↓vL, ↓vD, ↓ldI, ↓ldL, ↓ldD, ↓ldR, ↓k1, ↓k2, ↓kI, ↓kL, ↓kD, ↓kII, ↓kLL, ↓kDD, ↓kR, ↓kIR, ↓kLR, ↓kIIR, ↓kLIR, ↓kDIR, ↓kRIR, ↓kNN, ↓kE, ↓br, ↓bn, ↓rtI, ↓gfv, ↓zchk, lput, ldel, lbad, alA, acat, isRf, dom, dS, dJ, isO, aTy, aLen, elAV, elR, Nat.reduceBEq, Nat.reduceAdd, Bool.or, Bool.and, Nat.add_zero, Nat.zero_add]
      try simp only [Nat.reduceLT, Nat.reduceLeDiff, Nat.reduceEqDiff, true_and, and_true, and_self, Nat.zero_le, Nat.le_refl, true_or, or_true, Bool.false_eq_true, not_false_eq_true, Nat.reduceAdd, Nat.lt_add_one, Nat.zero_lt_one, nI_add, pk_mul, ixL, vpL, ne_eq, reduceIte, wI_sN, wL_sM, sN_same, sN_K, sN_2, sM_1, sM_same, sM_K, sM_s, uI_at, uN_at, enc_at, uI_enc, uI_uI, upM_s, upM_n]
      refine V_cV hB hno (c_sign hc.1 hTt hl hch hc8 hp) rfl (by decide +kernel) cvX7_60 (dom1 rfl) npX7_matchSign ⟨by decide, by decide⟩ (Nat.le_of_ble_eq_true rfl) (n' := 0) (by decide) rfl ?_
      refine V_run hB (rt := some .int) (nL := 8) (mc := 0) rfl rfl rfl (ops := [(30, .istore 7, 2, (7, 0, 0, 0, 0, 0), 0), (32, .iload 7, 2, (7, 0, 0, 0, 0, 0), 0), (34, .iload 4, 2, (4, 0, 0, 0, 0, 0), 0), (36, .if_icmp .ne 18, 3, (54, 0, 0, 0, 0, 0), 0)]) (by decide +kernel) ?_
      dsimp only [↓wpb, ↓wp1, ↓vI, ↓vL, ↓vD, ↓ldI, ↓ldL, ↓ldD, ↓ldR, ↓k1, ↓k2, ↓kI, ↓kL, ↓kD, ↓kII, ↓kLL, ↓kDD, ↓kR, ↓kIR, ↓kLR, ↓kIIR, ↓kLIR, ↓kDIR, ↓kRIR, ↓kNN, ↓kE, ↓br, ↓bn, ↓rtI, ↓gfv, ↓zchk, lput, ldel, lbad, alA, acat, isRf, dom, dS, dJ, isO, aTy, aLen, elAV, elR, Nat.reduceBEq, Nat.reduceAdd, Bool.or, Bool.and, Nat.add_zero, Nat.zero_add]
      try simp only [Nat.reduceLT, Nat.reduceLeDiff, Nat.reduceEqDiff, true_and, and_true, and_self, Nat.zero_le, Nat.le_refl, true_or, or_true, Bool.false_eq_true, not_false_eq_true, Nat.reduceAdd, Nat.lt_add_one, Nat.zero_lt_one, nI_add, pk_mul, ixL, vpL, ne_eq, reduceIte, wI_sN, wL_sM, sN_same, sN_K, sN_2, sM_1, sM_same, sM_K, sM_s, uI_at, uN_at, enc_at, uI_enc, uI_uI, upM_s, upM_n]
      rw [nI_eq (by omega) (by omega)]
      have hmF : mF T (c :: F) pos = if msg T c pos = pos then (false, pos) else mF T F (msg T c pos) := rfl
      rw [hmF] at hm
      refine ⟨fun q => ?_, fun q => ?_⟩
      · rw [if_neg q] at hm
        refine V_run hB (rt := some .int) (nL := 8) (mc := 0) rfl rfl rfl obX7_match_54 ?_
        dsimp only [bX7_match_54, ↓wpb, ↓wp1, ↓vI, ↓vL, ↓vD, ↓ldI, ↓ldL, ↓ldD, ↓ldR, ↓k1, ↓k2, ↓kI, ↓kL, ↓kD, ↓kII, ↓kLL, ↓kDD, ↓kR, ↓kIR, ↓kLR, ↓kIIR, ↓kLIR, ↓kDIR, ↓kRIR, ↓kNN, ↓kE, ↓br, ↓bn, ↓rtI, ↓gfv, ↓zchk, lput, ldel, lbad, alA, acat, isRf, dom, dS, dJ, isO, aTy, aLen, elAV, elR, Nat.reduceBEq, Nat.reduceAdd, Bool.or, Bool.and, Nat.add_zero, Nat.zero_add]
        try simp only [Nat.reduceLT, Nat.reduceLeDiff, Nat.reduceEqDiff, true_and, and_true, and_self, Nat.zero_le, Nat.le_refl, true_or, or_true, Bool.false_eq_true, not_false_eq_true, Nat.reduceAdd, Nat.lt_add_one, Nat.zero_lt_one, nI_add, pk_mul, ixL, vpL, ne_eq, reduceIte, wI_sN, wL_sM, sN_same, sN_K, sN_2, sM_1, sM_same, sM_K, sM_s, uI_at, uN_at, enc_at, uI_enc, uI_uI, upM_s, upM_n]
        refine V_cK hB hno (k_charAt hc hk hlt) rfl (fun U H h => ((hc.2 U H h).2.2.1 k hk).1) (by decide +kernel) ckX7_56 npJ0_charAt_5068e ⟨by decide, by decide⟩ (Nat.le_of_ble_eq_true rfl) rfl (Nat.zero_le _) ?_
        rw [hcc]
        refine V_cS hB hno (c_placeholder hc.1 t hc8) rfl (by decide +kernel) csX7_70 npX7_isPlaceholder ⟨by decide, by decide⟩ (Nat.le_of_ble_eq_true rfl) (n' := 0) (by decide) rfl ?_
        have next : ∀ (acc' : List Nat) t', acc'.length + phN F ≤ 3 → acc' ++ nF T F (msg T c pos) = nF T (fmL k) h → (∀ j c, acc'[j]? = some c → t'.1 (29, 0, r) j = nI c) → t'.1 (9, 0, 0) = τ.1 (9, 0, 0) → Same (mrN r) τ t' → ∀ al, (∀ z ∈ [(0, pgM), (1, .inr (62, k, 0)), (3, .inr (29, 0, r)), (4, aI (nI (msg T c pos))), (5, aI (nI acc'.length)), (6, aI (nI (pre.length + 1)))], lk al z.1 = some z.2) → V x t' 0 9 al [] := by
          intro acc' t' h1 h2 h3 h4 h5 al hal
          refine ih (pre ++ [c]) (msg T c pos) acc' t' al (by rw [hF, List.append_assoc]; rfl) hms.2 h1 hm h2 h3 h4 h5 ?_
          rw [List.length_append]
          exact hal
        by_cases hph : c = 35 ∨ c = 42
        · have e1 : (c == 35 || c == 42) = true := by simpa using hph
          have ep : phN (c :: F) = phN F + 1 := by show phN F + (if c = 35 ∨ c = 42 then 1 else 0) = _; rw [if_pos hph]
          rw [ep] at hn
          rw [e1]
          obtain ⟨m, hm3, hmm, hnF⟩ : ∃ m, m ≤ 3 ∧ msg T c pos = (dgt T m pos 0).2 ∧ nF T (c :: F) pos = (dgt T m pos 0).1 :: nF T F (msg T c pos) := by
            rcases hph with rfl | rfl
            · exact ⟨1, by omega, rfl, rfl⟩
            · exact ⟨3, by omega, rfl, rfl⟩
          rw [hnF] at hN
          have hdb := dgt_bd T m pos 0 0 (by omega)
          have ixa : (nI acc.length).toNatClampNeg = acc.length := ixL (by omega)
          have vxa : vp_in (nI acc.length) 3 = True := vpL (by omega) (by omega)
          have hr9 : r < 9 := hr
          refine V_run hB (rt := some .int) (nL := 8) (mc := 0) rfl rfl rfl (ops := [(63, .ifCond .eq 25, 3, (88, 0, 0, 0, 0, 0), 0), (66, .iload 5, 2, (5, 0, 0, 0, 0, 0), 0), (68, .aload_n 3, 1, (3, 0, 0, 0, 0, 0), 0), (69, .arraylength, 1, (0, 0, 0, 0, 0, 0), 0), (70, .if_icmp .ge 18, 3, (88, 0, 0, 0, 0, 0), 0), (73, .aload_n 3, 1, (3, 0, 0, 0, 0, 0), 0), (74, .iload 5, 2, (5, 0, 0, 0, 0, 0), 0), (76, .aload_n 0, 1, (0, 0, 0, 0, 0, 0), 0), (77, .iload 4, 2, (4, 0, 0, 0, 0, 0), 0), (79, .iload 7, 2, (7, 0, 0, 0, 0, 0), 0)]) (by decide +kernel) ?_
          dsimp only [↓wpb, ↓wp1, ↓vI, ↓vL, ↓vD, ↓ldI, ↓ldL, ↓ldD, ↓ldR, ↓k1, ↓k2, ↓kI, ↓kL, ↓kD, ↓kII, ↓kLL, ↓kDD, ↓kR, ↓kIR, ↓kLR, ↓kIIR, ↓kLIR, ↓kDIR, ↓kRIR, ↓kNN, ↓kE, ↓br, ↓bn, ↓rtI, ↓gfv, ↓zchk, lput, ldel, lbad, alA, acat, isRf, dom, dS, dJ, isO, aTy, aLen, elAV, elR, Nat.reduceBEq, Nat.reduceAdd, Bool.or, Bool.and, Nat.add_zero, Nat.zero_add]
          try simp only [Nat.reduceLT, Nat.reduceLeDiff, Nat.reduceEqDiff, true_and, and_true, and_self, Nat.zero_le, Nat.le_refl, true_or, or_true, Bool.false_eq_true, not_false_eq_true, Nat.reduceAdd, Nat.lt_add_one, Nat.zero_lt_one, nI_add, pk_mul, ixL, vpL, ne_eq, reduceIte, wI_sN, wL_sM, sN_same, sN_K, sN_2, sM_1, sM_same, sM_K, sM_s, uI_at, uN_at, enc_at, uI_enc, uI_uI, upM_s, upM_n, hr9]
          refine ⟨fun q => absurd q (by decide), fun _ => ⟨fun q => absurd q (nI_ge (by omega) (by omega)), fun _ => ?_⟩⟩
          rw [hmm]
          refine V_cV hB hno (c_number hc.1 hTt hl hch hp hm3) rfl (by decide +kernel) cvX7_74 (dom1 rfl) npX7_numberBetween ⟨by decide, by decide⟩ (Nat.le_of_ble_eq_true rfl) (n' := 0) (by decide) rfl ?_
          rw [← hmm]
          refine V_run hB (rt := some .int) (nL := 8) (mc := 0) rfl rfl rfl obX7_match_84 ?_
          dsimp only [bX7_match_84, ↓wpb, ↓wp1, ↓vI, ↓vL, ↓vD, ↓ldI, ↓ldL, ↓ldD, ↓ldR, ↓k1, ↓k2, ↓kI, ↓kL, ↓kD, ↓kII, ↓kLL, ↓kDD, ↓kR, ↓kIR, ↓kLR, ↓kIIR, ↓kLIR, ↓kDIR, ↓kRIR, ↓kNN, ↓kE, ↓br, ↓bn, ↓rtI, ↓gfv, ↓zchk, lput, ldel, lbad, alA, acat, isRf, dom, dS, dJ, isO, aTy, aLen, elAV, elR, Nat.reduceBEq, Nat.reduceAdd, Bool.or, Bool.and, Nat.add_zero, Nat.zero_add]
          try simp only [Nat.reduceLT, Nat.reduceLeDiff, Nat.reduceEqDiff, true_and, and_true, and_self, Nat.zero_le, Nat.le_refl, true_or, or_true, Bool.false_eq_true, not_false_eq_true, Nat.reduceAdd, Nat.lt_add_one, Nat.zero_lt_one, nI_add, pk_mul, ixL, vpL, ne_eq, reduceIte, wI_sN, wL_sM, sN_same, sN_K, sN_2, sM_1, sM_same, sM_K, sM_s, uI_at, uN_at, enc_at, uI_enc, uI_uI, upM_s, upM_n, ixa, vxa, hr9]
          refine next (acc ++ [(dgt T m pos 0).1]) _ ?_ ?_ ?_ ?_ ?_ _ ?_
          · rw [List.length_append]; show acc.length + 1 + phN F ≤ 3; omega
          · rw [List.append_assoc]; exact hN
          · intro j d hj
            rw [sN_same]
            simp only [uI]
            by_cases hja : j = acc.length
            · rw [if_pos hja]
              subst hja
              rw [List.getElem?_append_right (Nat.le_refl _), Nat.sub_self] at hj
              cases hj
              rfl
            · rw [if_neg hja]
              have hl2 := (List.getElem?_eq_some_iff.mp hj).1
              rw [List.length_append] at hl2
              have hl2 : j < acc.length + 1 := hl2
              rw [List.getElem?_append_left (by omega)] at hj
              exact hR j d hj
          · rw [sN_K (by decide)]; exact h9
          · exact hS.sN _ (Or.inr rfl)
          · rw [List.length_append]
            exact (List.forall_mem_cons.mpr ⟨rfl, List.forall_mem_cons.mpr ⟨rfl, List.forall_mem_cons.mpr ⟨rfl, List.forall_mem_cons.mpr ⟨rfl, List.forall_mem_cons.mpr ⟨rfl, List.forall_mem_cons.mpr ⟨rfl, fun _ h => absurd h List.not_mem_nil⟩⟩⟩⟩⟩⟩)
        · have e1 : (c == 35 || c == 42) = false := by
            rw [Bool.or_eq_false_iff, beq_eq_false_iff_ne, beq_eq_false_iff_ne]
            exact ⟨fun z => hph (Or.inl z), fun z => hph (Or.inr z)⟩
          have ep : phN (c :: F) = phN F := by show phN F + (if c = 35 ∨ c = 42 then 1 else 0) = _; rw [if_neg hph]; rfl
          have hnF : nF T (c :: F) pos = nF T F (msg T c pos) := by
            show (if c = 35 then _ else if c = 42 then _ else _) = _
            rw [if_neg (fun z => hph (Or.inl z)), if_neg (fun z => hph (Or.inr z))]
          rw [ep] at hn
          rw [hnF] at hN
          rw [e1]
          refine V_run hB (rt := some .int) (nL := 8) (mc := 0) rfl rfl rfl (ops := [(63, .ifCond .eq 25, 3, (88, 0, 0, 0, 0, 0), 0)]) (by decide +kernel) ?_
          dsimp only [↓wpb, ↓wp1, ↓vI, ↓vL, ↓vD, ↓ldI, ↓ldL, ↓ldD, ↓ldR, ↓k1, ↓k2, ↓kI, ↓kL, ↓kD, ↓kII, ↓kLL, ↓kDD, ↓kR, ↓kIR, ↓kLR, ↓kIIR, ↓kLIR, ↓kDIR, ↓kRIR, ↓kNN, ↓kE, ↓br, ↓bn, ↓rtI, ↓gfv, ↓zchk, lput, ldel, lbad, alA, acat, isRf, dom, dS, dJ, isO, aTy, aLen, elAV, elR, Nat.reduceBEq, Nat.reduceAdd, Bool.or, Bool.and, Nat.add_zero, Nat.zero_add]
          try simp only [Nat.reduceLT, Nat.reduceLeDiff, Nat.reduceEqDiff, true_and, and_true, and_self, Nat.zero_le, Nat.le_refl, true_or, or_true, Bool.false_eq_true, not_false_eq_true, Nat.reduceAdd, Nat.lt_add_one, Nat.zero_lt_one, nI_add, pk_mul, ixL, vpL, ne_eq, reduceIte, wI_sN, wL_sM, sN_same, sN_K, sN_2, sM_1, sM_same, sM_K, sM_s, uI_at, uN_at, enc_at, uI_enc, uI_uI, upM_s, upM_n]
          refine ⟨fun _ => ?_, fun q => absurd rfl q⟩
          refine V_run hB (rt := some .int) (nL := 8) (mc := 0) rfl rfl rfl obX7_match_88 ?_
          dsimp only [bX7_match_88, ↓wpb, ↓wp1, ↓vI, ↓vL, ↓vD, ↓ldI, ↓ldL, ↓ldD, ↓ldR, ↓k1, ↓k2, ↓kI, ↓kL, ↓kD, ↓kII, ↓kLL, ↓kDD, ↓kR, ↓kIR, ↓kLR, ↓kIIR, ↓kLIR, ↓kDIR, ↓kRIR, ↓kNN, ↓kE, ↓br, ↓bn, ↓rtI, ↓gfv, ↓zchk, lput, ldel, lbad, alA, acat, isRf, dom, dS, dJ, isO, aTy, aLen, elAV, elR, Nat.reduceBEq, Nat.reduceAdd, Bool.or, Bool.and, Nat.add_zero, Nat.zero_add]
          try simp only [Nat.reduceLT, Nat.reduceLeDiff, Nat.reduceEqDiff, true_and, and_true, and_self, Nat.zero_le, Nat.le_refl, true_or, or_true, Bool.false_eq_true, not_false_eq_true, Nat.reduceAdd, Nat.lt_add_one, Nat.zero_lt_one, nI_add, pk_mul, ixL, vpL, ne_eq, reduceIte, wI_sN, wL_sM, sN_same, sN_K, sN_2, sM_1, sM_same, sM_K, sM_s, uI_at, uN_at, enc_at, uI_enc, uI_uI, upM_s, upM_n]
          exact next acc t hn hN hR h9 hS _ (List.forall_mem_cons.mpr ⟨rfl, List.forall_mem_cons.mpr ⟨rfl, List.forall_mem_cons.mpr ⟨rfl, List.forall_mem_cons.mpr ⟨rfl, List.forall_mem_cons.mpr ⟨rfl, List.forall_mem_cons.mpr ⟨rfl, fun _ h => absurd h List.not_mem_nil⟩⟩⟩⟩⟩⟩)
      · rw [if_pos q] at hm
        have h5t : t.1 (9, 0, 0) 5 = nI e0 := by rw [h9]; exact h5
        refine V_run hB (rt := some .int) (nL := 8) (mc := 0) rfl rfl rfl (ops := [(39, .aload_n 0, 1, (0, 0, 0, 0, 0, 0), 0), (40, .aload_n 0, 1, (0, 0, 0, 0, 0, 0), 0), (41, .getfield 33, 3, (9, 5, 0, 0, 0, 0), 0), (44, .iload 4, 2, (4, 0, 0, 0, 0, 0), 0)]) (by decide +kernel) ?_
        dsimp only [↓wpb, ↓wp1, ↓vI, ↓vL, ↓vD, ↓ldI, ↓ldL, ↓ldD, ↓ldR, ↓k1, ↓k2, ↓kI, ↓kL, ↓kD, ↓kII, ↓kLL, ↓kDD, ↓kR, ↓kIR, ↓kLR, ↓kIIR, ↓kLIR, ↓kDIR, ↓kRIR, ↓kNN, ↓kE, ↓br, ↓bn, ↓rtI, ↓gfv, ↓zchk, lput, ldel, lbad, alA, acat, isRf, dom, dS, dJ, isO, aTy, aLen, elAV, elR, Nat.reduceBEq, Nat.reduceAdd, Bool.or, Bool.and, Nat.add_zero, Nat.zero_add]
        try simp only [Nat.reduceLT, Nat.reduceLeDiff, Nat.reduceEqDiff, true_and, and_true, and_self, Nat.zero_le, Nat.le_refl, true_or, or_true, Bool.false_eq_true, not_false_eq_true, Nat.reduceAdd, Nat.lt_add_one, Nat.zero_lt_one, nI_add, pk_mul, ixL, vpL, ne_eq, reduceIte, wI_sN, wL_sM, sN_same, sN_K, sN_2, sM_1, sM_same, sM_K, sM_s, uI_at, uN_at, enc_at, uI_enc, uI_uI, upM_s, upM_n, h5t]
        refine V_cS hB hno (q_max hc.1 t (a := e0) (b := pos) (by omega) (by omega)) rfl (by decide +kernel) csX7_64 npJ9_max_7cf53 ⟨by decide, by decide⟩ (Nat.le_of_ble_eq_true rfl) (n' := 0) (by decide) rfl ?_
        refine V_run hB (rt := some .int) (nL := 8) (mc := 0) rfl rfl rfl obX7_match_49 ?_
        dsimp only [bX7_match_49, ↓wpb, ↓wp1, ↓vI, ↓vL, ↓vD, ↓ldI, ↓ldL, ↓ldD, ↓ldR, ↓k1, ↓k2, ↓kI, ↓kL, ↓kD, ↓kII, ↓kLL, ↓kDD, ↓kR, ↓kIR, ↓kLR, ↓kIIR, ↓kLIR, ↓kDIR, ↓kRIR, ↓kNN, ↓kE, ↓br, ↓bn, ↓rtI, ↓gfv, ↓zchk, lput, ldel, lbad, alA, acat, isRf, dom, dS, dJ, isO, aTy, aLen, elAV, elR, Nat.reduceBEq, Nat.reduceAdd, Bool.or, Bool.and, Nat.add_zero, Nat.zero_add]
        try simp only [Nat.reduceLT, Nat.reduceLeDiff, Nat.reduceEqDiff, true_and, and_true, and_self, Nat.zero_le, Nat.le_refl, true_or, or_true, Bool.false_eq_true, not_false_eq_true, Nat.reduceAdd, Nat.lt_add_one, Nat.zero_lt_one, nI_add, pk_mul, ixL, vpL, ne_eq, reduceIte, wI_sN, wL_sM, sN_same, sN_K, sN_2, sM_1, sM_same, sM_K, sM_s, uI_at, uN_at, enc_at, uI_enc, uI_uI, upM_s, upM_n]
        unfold matP
        rw [← hm]
        refine ⟨rfl, fun z => (nomatch z), fun _ => ?_, fun k hk5 => ?_, hS.sN _ (Or.inl rfl)⟩
        · rw [sN_same]; rfl
        · rw [sN_same]
          simp only [uI]
          rw [if_neg hk5, h9]
  refine V_run hB (rt := some .int) (nL := 8) (mc := 0) rfl rfl rfl obX7_match_0 ?_
  dsimp only [bX7_match_0, ↓wpb, ↓wp1, ↓vI, ↓vL, ↓vD, ↓ldI, ↓ldL, ↓ldD, ↓ldR, ↓k1, ↓k2, ↓kI, ↓kL, ↓kD, ↓kII, ↓kLL, ↓kDD, ↓kR, ↓kIR, ↓kLR, ↓kIIR, ↓kLIR, ↓kDIR, ↓kRIR, ↓kNN, ↓kE, ↓br, ↓bn, ↓rtI, ↓gfv, ↓zchk, lput, ldel, lbad, alA, acat, isRf, dom, dS, dJ, isO, aTy, aLen, elAV, elR, Nat.reduceBEq, Nat.reduceAdd, Bool.or, Bool.and, Nat.add_zero, Nat.zero_add]
  try simp only [Nat.reduceLT, Nat.reduceLeDiff, Nat.reduceEqDiff, true_and, and_true, and_self, Nat.zero_le, Nat.le_refl, true_or, or_true, Bool.false_eq_true, not_false_eq_true, Nat.reduceAdd, Nat.lt_add_one, Nat.zero_lt_one, nI_add, pk_mul, ixL, vpL, ne_eq, reduceIte, wI_sN, wL_sM, sN_same, sN_K, sN_2, sM_1, sM_same, sM_K, sM_s, uI_at, uN_at, enc_at, uI_enc, uI_uI, upM_s, upM_n]
  exact loop (fmL k) [] h [] τ _ rfl hh (by have := phN_3 k hk; simpa using this) rfl rfl (fun j c hj => (nomatch hj)) rfl (Same.refl _ _) (List.forall_mem_cons.mpr ⟨rfl, List.forall_mem_cons.mpr ⟨rfl, List.forall_mem_cons.mpr ⟨rfl, List.forall_mem_cons.mpr ⟨rfl, List.forall_mem_cons.mpr ⟨rfl, List.forall_mem_cons.mpr ⟨rfl, fun _ h => absurd h List.not_mem_nil⟩⟩⟩⟩⟩⟩)
end D6
