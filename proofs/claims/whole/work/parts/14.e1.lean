/-! ===== the class: evenings ===== -/
abbrev evM : AV := .inr (7, 0, 0)
def evN (nm : Nm) : Prop := nm.1 = 7 ∨ nm.1 = 19 ∨ nm.1 = 21 ∨ nm.1 = 23 ∨ nm.1 = 24
/-- what is offered for an item, 0 if nothing is -/
def ofr (a : Nat → Nat) (i b : Nat) : Nat := if isLot a i = true ∧ it a i 4 ≤ it a i (7 + b) then it a i (7 + b) else 0
def OfR (τ : Mem) (a : Nat → Nat) : Prop := τ.1 (7, 0, 0) 4 = nI (a 4) ∧ ∀ i, i < a 4 → ∀ b, b < 5 → τ.1 (19, 0, i) b = nI (ofr a i b)
theorem mg_ofr {a : Nat → Nat} {i b u : Nat} : mg a i b u = true ↔ 0 < ofr a i b ∧ u.testBit b = false := by
  unfold mg ofr
  simp only [Bool.and_eq_true, Bool.not_eq_true', decide_eq_true_eq]
  by_cases h : isLot a i = true ∧ it a i 4 ≤ it a i (7 + b)
  · rw [if_pos h]
    exact ⟨fun q => ⟨q.2, q.1.1.2⟩, fun q => ⟨⟨⟨h.1, q.2⟩, h.2⟩, q.1⟩⟩
  · rw [if_neg h]
    exact ⟨fun q => absurd ⟨q.1.1.1, q.1.2⟩ h, fun q => absurd q.1 (Nat.lt_irrefl 0)⟩
theorem ofr_pos {a : Nat → Nat} {i b : Nat} (h : 0 < ofr a i b) : ofr a i b = it a i (7 + b) := by
  unfold ofr at *
  split
  · rfl
  · rename_i q; rw [if_neg q] at h; omega
theorem ofr_le {a : Nat → Nat} (hb : bidOk a) {i b : Nat} (hi : i < 10) (hb5 : b < 5) : ofr a i b ≤ 999 := by
  have := hb i hi b hb5
  unfold ofr
  split <;> omega
theorem band5 : ∀ u, u < 32 → ∀ b, b < 5 → (nI u &&& nI (2 ^ b) = 0 ↔ u.testBit b = false) := by decide +kernel
theorem ShP.ev {τ τ' : Mem} {s : Nat} {a π : Nat → Nat} (h : ShP τ s a π) (hm : Same evN τ τ') : ShP τ' s a π := h.same hm (fun K j hK q => by rcases q with q | q | q | q | q <;> simp only at q <;> omega)
section E1
variable {l : Launch} {G : GG} {τ : Mem} {a π : Nat → Nat} {n : Nat}
theorem c_offers (hc : Ctx l G) (hS : ShP τ 0 a π) (hV : IV n a) (hn : n ≤ 1000) : Sat l G iX4_collectOffers [evM, shM] τ (voidP (fun τ' => Same evN τ τ' ∧ OfR τ' a)) := by
  have h10 := hV.1.1
  have g5 := hS.1.2.2
  refine Sat_of hc.1 hc.2 (by decide +kernel) (Nat.le_of_ble_eq_true rfl) (fun x hB hno => ?_)
  have loop : ∀ w i t al, i + w = a 4 → Same evN τ t → t.1 (7, 0, 0) 4 = nI (a 4) → (∀ j, j < i → ∀ b, b < 5 → t.1 (19, 0, j) b = nI (ofr a j b)) → (∀ z ∈ [(0, evM), (1, shM), (2, aI (nI i))], lk al z.1 = some z.2) → V x t 0 10 al [] := by
    intro w
    induction w with
    | zero =>
      intro i t al hi hm h4 hR hal
      refine V.sub ?_ hal
      have hi : i = a 4 := by omega
      subst hi
      refine V_run hB (rt := none) (nL := 6) (mc := 0) rfl rfl rfl obX4_collectOffers_10 ?_
      dsimp only [bX4_collectOffers_10, ↓wpb, ↓wp1, ↓vI, ↓vL, ↓vD, ↓ldI, ↓ldL, ↓ldD, ↓ldR, ↓k1, ↓k2, ↓kI, ↓kL, ↓kD, ↓kII, ↓kLL, ↓kDD, ↓kR, ↓kIR, ↓kLR, ↓kIIR, ↓kLIR, ↓kDIR, ↓kRIR, ↓kNN, ↓kE, ↓br, ↓bn, ↓rtI, ↓gfv, ↓zchk, lput, ldel, lbad, alA, acat, isRf, dom, dS, dJ, isO, aTy, aLen, elAV, elR, Nat.reduceBEq, Nat.reduceAdd, Bool.or, Bool.and, Nat.add_zero, Nat.zero_add]
      try simp only [Nat.reduceLT, Nat.reduceLeDiff, Nat.reduceEqDiff, true_and, and_true, and_self, Nat.zero_le, Nat.le_refl, true_or, or_true, Bool.false_eq_true, not_false_eq_true, Nat.reduceAdd, Nat.lt_add_one, Nat.zero_lt_one, nI_add, pk_mul, ixL, vpL, ne_eq, reduceIte, wI_sN, wL_sM, sN_same, sN_K, sN_2, sM_1, sM_same, sM_K, sM_s, uI_at, uN_at, enc_at, uI_enc, uI_uI, upM_s, upM_n, h4]
      refine ⟨fun _ => ?_, fun q => absurd (nI_le (by omega) (by omega)) q⟩
      refine V_run hB (rt := none) (nL := 6) (mc := 0) rfl rfl rfl obX4_collectOffers_99 ?_
      dsimp only [bX4_collectOffers_99, ↓wpb, ↓wp1, ↓vI, ↓vL, ↓vD, ↓ldI, ↓ldL, ↓ldD, ↓ldR, ↓k1, ↓k2, ↓kI, ↓kL, ↓kD, ↓kII, ↓kLL, ↓kDD, ↓kR, ↓kIR, ↓kLR, ↓kIIR, ↓kLIR, ↓kDIR, ↓kRIR, ↓kNN, ↓kE, ↓br, ↓bn, ↓rtI, ↓gfv, ↓zchk, lput, ldel, lbad, alA, acat, isRf, dom, dS, dJ, isO, aTy, aLen, elAV, elR, Nat.reduceBEq, Nat.reduceAdd, Bool.or, Bool.and, Nat.add_zero, Nat.zero_add]
      try simp only [Nat.reduceLT, Nat.reduceLeDiff, Nat.reduceEqDiff, true_and, and_true, and_self, Nat.zero_le, Nat.le_refl, true_or, or_true, Bool.false_eq_true, not_false_eq_true, Nat.reduceAdd, Nat.lt_add_one, Nat.zero_lt_one, nI_add, pk_mul, ixL, vpL, ne_eq, reduceIte, wI_sN, wL_sM, sN_same, sN_K, sN_2, sM_1, sM_same, sM_K, sM_s, uI_at, uN_at, enc_at, uI_enc, uI_uI, upM_s, upM_n]
      exact ⟨rfl, hm, h4, hR⟩
    | succ w ih =>
      intro i t al hi hm h4 hR hal
      refine V.sub ?_ hal
      have hS0 := hS
      have hS := hS0.ev hm
      have ix : (nI i).toNatClampNeg = i := ixL (by omega)
      have vx : vp_in (nI i) 10 = True := vpL (by omega) (by omega)
      obtain ⟨hp, rp⟩ := hS.2.2.2.1 i (by omega)
      have ip : (nI (π i)).toNatClampNeg = π i := ixL (by omega)
      obtain ⟨⟨f0, f1, f2, f3, f4, f5, f6⟩, fb⟩ := hS.2.2.2.2.2 i (by omega)
      refine V_run hB (rt := none) (nL := 6) (mc := 0) rfl rfl rfl obX4_collectOffers_10 ?_
      dsimp only [bX4_collectOffers_10, ↓wpb, ↓wp1, ↓vI, ↓vL, ↓vD, ↓ldI, ↓ldL, ↓ldD, ↓ldR, ↓k1, ↓k2, ↓kI, ↓kL, ↓kD, ↓kII, ↓kLL, ↓kDD, ↓kR, ↓kIR, ↓kLR, ↓kIIR, ↓kLIR, ↓kDIR, ↓kRIR, ↓kNN, ↓kE, ↓br, ↓bn, ↓rtI, ↓gfv, ↓zchk, lput, ldel, lbad, alA, acat, isRf, dom, dS, dJ, isO, aTy, aLen, elAV, elR, Nat.reduceBEq, Nat.reduceAdd, Bool.or, Bool.and, Nat.add_zero, Nat.zero_add]
      try simp only [Nat.reduceLT, Nat.reduceLeDiff, Nat.reduceEqDiff, true_and, and_true, and_self, Nat.zero_le, Nat.le_refl, true_or, or_true, Bool.false_eq_true, not_false_eq_true, Nat.reduceAdd, Nat.lt_add_one, Nat.zero_lt_one, nI_add, pk_mul, ixL, vpL, ne_eq, reduceIte, wI_sN, wL_sM, sN_same, sN_K, sN_2, sM_1, sM_same, sM_K, sM_s, uI_at, uN_at, enc_at, uI_enc, uI_uI, upM_s, upM_n, h4, ix, vx, hp, rp, ip, f0, f1, f2, f3, f4, f5, f6]
      refine ⟨fun q => absurd q (nI_ge (by omega) (by omega)), fun _ => ?_⟩
      have inner : ∀ w b t al, b + w = 5 → Same evN τ t → t.1 (7, 0, 0) 4 = nI (a 4) → (∀ j, j < i → ∀ b, b < 5 → t.1 (19, 0, j) b = nI (ofr a j b)) → (∀ c, c < b → t.1 (19, 0, i) c = nI (ofr a i c)) → (∀ z ∈ [(0, evM), (1, shM), (2, aI (nI i)), (3, .inr (5, 0, π i)), (4, aI (nI b))], lk al z.1 = some z.2) → V x t 0 28 al [] := by
        intro w2
        induction w2 with
        | zero =>
          intro b t al hb hm h4 hR hQ hal
          refine V.sub ?_ hal
          have hb : b = 5 := by omega
          subst hb
          refine V_run hB (rt := none) (nL := 6) (mc := 0) rfl rfl rfl obX4_collectOffers_28 ?_
          dsimp only [bX4_collectOffers_28, ↓wpb, ↓wp1, ↓vI, ↓vL, ↓vD, ↓ldI, ↓ldL, ↓ldD, ↓ldR, ↓k1, ↓k2, ↓kI, ↓kL, ↓kD, ↓kII, ↓kLL, ↓kDD, ↓kR, ↓kIR, ↓kLR, ↓kIIR, ↓kLIR, ↓kDIR, ↓kRIR, ↓kNN, ↓kE, ↓br, ↓bn, ↓rtI, ↓gfv, ↓zchk, lput, ldel, lbad, alA, acat, isRf, dom, dS, dJ, isO, aTy, aLen, elAV, elR, Nat.reduceBEq, Nat.reduceAdd, Bool.or, Bool.and, Nat.add_zero, Nat.zero_add]
          try simp only [Nat.reduceLT, Nat.reduceLeDiff, Nat.reduceEqDiff, true_and, and_true, and_self, Nat.zero_le, Nat.le_refl, true_or, or_true, Bool.false_eq_true, not_false_eq_true, Nat.reduceAdd, Nat.lt_add_one, Nat.zero_lt_one, nI_add, pk_mul, ixL, vpL, ne_eq, reduceIte, wI_sN, wL_sM, sN_same, sN_K, sN_2, sM_1, sM_same, sM_K, sM_s, uI_at, uN_at, enc_at, uI_enc, uI_uI, upM_s, upM_n]
          refine ⟨fun _ => ?_, fun q => absurd (nI_le (by omega) (by omega)) q⟩
          refine V_run hB (rt := none) (nL := 6) (mc := 0) rfl rfl rfl obX4_collectOffers_93 ?_
          dsimp only [bX4_collectOffers_93, ↓wpb, ↓wp1, ↓vI, ↓vL, ↓vD, ↓ldI, ↓ldL, ↓ldD, ↓ldR, ↓k1, ↓k2, ↓kI, ↓kL, ↓kD, ↓kII, ↓kLL, ↓kDD, ↓kR, ↓kIR, ↓kLR, ↓kIIR, ↓kLIR, ↓kDIR, ↓kRIR, ↓kNN, ↓kE, ↓br, ↓bn, ↓rtI, ↓gfv, ↓zchk, lput, ldel, lbad, alA, acat, isRf, dom, dS, dJ, isO, aTy, aLen, elAV, elR, Nat.reduceBEq, Nat.reduceAdd, Bool.or, Bool.and, Nat.add_zero, Nat.zero_add]
          try simp only [Nat.reduceLT, Nat.reduceLeDiff, Nat.reduceEqDiff, true_and, and_true, and_self, Nat.zero_le, Nat.le_refl, true_or, or_true, Bool.false_eq_true, not_false_eq_true, Nat.reduceAdd, Nat.lt_add_one, Nat.zero_lt_one, nI_add, pk_mul, ixL, vpL, ne_eq, reduceIte, wI_sN, wL_sM, sN_same, sN_K, sN_2, sM_1, sM_same, sM_K, sM_s, uI_at, uN_at, enc_at, uI_enc, uI_uI, upM_s, upM_n]
          refine ih (i + 1) t _ (by omega) hm h4 (fun j hj b hb => ?_) (List.forall_mem_cons.mpr ⟨rfl, List.forall_mem_cons.mpr ⟨rfl, List.forall_mem_cons.mpr ⟨rfl, fun _ h => absurd h List.not_mem_nil⟩⟩⟩)
          by_cases h : j = i
          · subst h; exact hQ b hb
          · exact hR j (by omega) b hb
        | succ w2 ih2 =>
          intro b t al hb hm h4 hR hQ hal
          refine V.sub ?_ hal
          have hS := hS0.ev hm
          have ixq : (nI i).toNatClampNeg = i := ixL (by omega)
          have vxq : vp_in (nI i) 10 = True := vpL (by omega) (by omega)
          obtain ⟨hpq, rpq⟩ := hS.2.2.2.1 i (by omega)
          have ipq : (nI (π i)).toNatClampNeg = π i := ixL (by omega)
          obtain ⟨⟨f0q, f1q, f2q, f3q, f4q, f5q, f6q⟩, fbq⟩ := hS.2.2.2.2.2 i (by omega)
          have hb5 : b < 5 := by omega
          have ixb : (nI b).toNatClampNeg = b := ixL (by omega)
          have vxb : vp_in (nI b) 5 = True := vpL (by omega) (by omega)
          have hl01 := hV.l1 (show i < 10 by omega)
          have hbid : isLot a i = true → t.1 (12, 0, π i) b = nI (it a i (7 + b)) := fun q => fbq (by unfold isLot at q; exact beq_iff_eq.mp q) b hb5
          have b4 : it a i 4 < 2147483648 := by have := hV.lt hn (16 + 12 * i + 4); unfold it; omega
          have b7 : it a i (7 + b) < 2147483648 := by have := hV.lt hn (16 + 12 * i + (7 + b)); unfold it; omega
          have nx : ∀ al, (∀ z ∈ [(0, evM), (1, shM), (2, aI (nI i)), (3, .inr (5, 0, π i)), (4, aI (nI b))], lk al z.1 = some z.2) → V x t 0 86 al [aI (nI (ofr a i b)), aI (nI b), .inr (19, 0, i)] := by
            intro al hal
            refine V.sub ?_ hal
            have hi10 : i < 10 := by omega
            refine V_run hB (rt := none) (nL := 6) (mc := 0) rfl rfl rfl obX4_collectOffers_86 ?_
            dsimp only [bX4_collectOffers_86, ↓wpb, ↓wp1, ↓vI, ↓vL, ↓vD, ↓ldI, ↓ldL, ↓ldD, ↓ldR, ↓k1, ↓k2, ↓kI, ↓kL, ↓kD, ↓kII, ↓kLL, ↓kDD, ↓kR, ↓kIR, ↓kLR, ↓kIIR, ↓kLIR, ↓kDIR, ↓kRIR, ↓kNN, ↓kE, ↓br, ↓bn, ↓rtI, ↓gfv, ↓zchk, lput, ldel, lbad, alA, acat, isRf, dom, dS, dJ, isO, aTy, aLen, elAV, elR, Nat.reduceBEq, Nat.reduceAdd, Bool.or, Bool.and, Nat.add_zero, Nat.zero_add]
            try simp only [Nat.reduceLT, Nat.reduceLeDiff, Nat.reduceEqDiff, true_and, and_true, and_self, Nat.zero_le, Nat.le_refl, true_or, or_true, Bool.false_eq_true, not_false_eq_true, Nat.reduceAdd, Nat.lt_add_one, Nat.zero_lt_one, nI_add, pk_mul, ixL, vpL, ne_eq, reduceIte, wI_sN, wL_sM, sN_same, sN_K, sN_2, sM_1, sM_same, sM_K, sM_s, uI_at, uN_at, enc_at, uI_enc, uI_uI, upM_s, upM_n, ixb, vxb, hi10]
            refine ih2 (b + 1) _ _ (by omega) (hm.sN _ (by unfold evN; omega)) (by rw [sN_K (by decide)]; exact h4) (fun j hj c hcc => ?_) (fun c hcc => ?_) (List.forall_mem_cons.mpr ⟨rfl, List.forall_mem_cons.mpr ⟨rfl, List.forall_mem_cons.mpr ⟨rfl, List.forall_mem_cons.mpr ⟨rfl, List.forall_mem_cons.mpr ⟨rfl, fun _ h => absurd h List.not_mem_nil⟩⟩⟩⟩⟩)
            · rw [sN_ne (fun z => by injection z with z1 z2; injection z2 with z3 z4; omega)]
              exact hR j hj c hcc
            · rw [sN_same]
              simp only [uI]
              by_cases h : c = b
              · rw [if_pos h, h]
              · rw [if_neg h]; exact hQ c (by omega)
          have hi10 : i < 10 := by omega
          have k59 : ofr a i b = 0 → V x t 0 59 [(0, evM), (1, shM), (2, aI (nI i)), (3, .inr (5, 0, π i)), (4, aI (nI b))] [] := by
            intro hz
            rw [hz] at nx
            refine V_run hB (rt := none) (nL := 6) (mc := 0) rfl rfl rfl obX4_collectOffers_59 ?_
            dsimp only [bX4_collectOffers_59, ↓wpb, ↓wp1, ↓vI, ↓vL, ↓vD, ↓ldI, ↓ldL, ↓ldD, ↓ldR, ↓k1, ↓k2, ↓kI, ↓kL, ↓kD, ↓kII, ↓kLL, ↓kDD, ↓kR, ↓kIR, ↓kLR, ↓kIIR, ↓kLIR, ↓kDIR, ↓kRIR, ↓kNN, ↓kE, ↓br, ↓bn, ↓rtI, ↓gfv, ↓zchk, lput, ldel, lbad, alA, acat, isRf, dom, dS, dJ, isO, aTy, aLen, elAV, elR, Nat.reduceBEq, Nat.reduceAdd, Bool.or, Bool.and, Nat.add_zero, Nat.zero_add]
            try simp only [Nat.reduceLT, Nat.reduceLeDiff, Nat.reduceEqDiff, true_and, and_true, and_self, Nat.zero_le, Nat.le_refl, true_or, or_true, Bool.false_eq_true, not_false_eq_true, Nat.reduceAdd, Nat.lt_add_one, Nat.zero_lt_one, nI_add, pk_mul, ixL, vpL, ne_eq, reduceIte, wI_sN, wL_sM, sN_same, sN_K, sN_2, sM_1, sM_same, sM_K, sM_s, uI_at, uN_at, enc_at, uI_enc, uI_uI, upM_s, upM_n, ixq, vxq, hpq, rpq, ipq, f0q, f1q, f2q, f3q, f4q, f5q, f6q, hi10]
            refine ⟨fun _ => ?_, fun q => absurd rfl q⟩
            refine V_run hB (rt := none) (nL := 6) (mc := 0) rfl rfl rfl (ops := [(85, .iconst 0, 1, (0, 0, 0, 0, 0, 0), nI 0)]) (by decide +kernel) ?_
            dsimp only [↓wpb, ↓wp1, ↓vI, ↓vL, ↓vD, ↓ldI, ↓ldL, ↓ldD, ↓ldR, ↓k1, ↓k2, ↓kI, ↓kL, ↓kD, ↓kII, ↓kLL, ↓kDD, ↓kR, ↓kIR, ↓kLR, ↓kIIR, ↓kLIR, ↓kDIR, ↓kRIR, ↓kNN, ↓kE, ↓br, ↓bn, ↓rtI, ↓gfv, ↓zchk, lput, ldel, lbad, alA, acat, isRf, dom, dS, dJ, isO, aTy, aLen, elAV, elR, Nat.reduceBEq, Nat.reduceAdd, Bool.or, Bool.and, Nat.add_zero, Nat.zero_add]
            try simp only [Nat.reduceLT, Nat.reduceLeDiff, Nat.reduceEqDiff, true_and, and_true, and_self, Nat.zero_le, Nat.le_refl, true_or, or_true, Bool.false_eq_true, not_false_eq_true, Nat.reduceAdd, Nat.lt_add_one, Nat.zero_lt_one, nI_add, pk_mul, ixL, vpL, ne_eq, reduceIte, wI_sN, wL_sM, sN_same, sN_K, sN_2, sM_1, sM_same, sM_K, sM_s, uI_at, uN_at, enc_at, uI_enc, uI_uI, upM_s, upM_n]
            exact nx _ (List.forall_mem_cons.mpr ⟨rfl, List.forall_mem_cons.mpr ⟨rfl, List.forall_mem_cons.mpr ⟨rfl, List.forall_mem_cons.mpr ⟨rfl, List.forall_mem_cons.mpr ⟨rfl, fun _ h => absurd h List.not_mem_nil⟩⟩⟩⟩⟩)
          refine V_run hB (rt := none) (nL := 6) (mc := 0) rfl rfl rfl (ops := [(28, .iload 4, 2, (4, 0, 0, 0, 0, 0), 0), (30, .iconst 5, 1, (0, 0, 0, 0, 0, 0), nI 5), (31, .if_icmp .ge 62, 3, (93, 0, 0, 0, 0, 0), 0), (34, .aload_n 3, 1, (3, 0, 0, 0, 0, 0), 0), (35, .getfield 37, 3, (5, 6, 0, 0, 0, 0), 0), (38, .ifCond .eq 21, 3, (59, 0, 0, 0, 0, 0), 0), (41, .aload_n 3, 1, (3, 0, 0, 0, 0, 0), 0), (42, .getfield 43, 3, (5, 7, 2, 12, 0, 0), 0), (45, .iload 4, 2, (4, 0, 0, 0, 0, 0), 0), (47, .iaload, 1, (0, 0, 0, 0, 0, 0), 0), (48, .aload_n 3, 1, (3, 0, 0, 0, 0, 0), 0), (49, .getfield 46, 3, (5, 3, 0, 0, 0, 0), 0), (52, .if_icmp .lt 7, 3, (59, 0, 0, 0, 0, 0), 0), (55, .iconst 1, 1, (0, 0, 0, 0, 0, 0), nI 1), (56, .goto 4, 3, (60, 0, 0, 0, 0, 0), 0)]) (by decide +kernel) ?_
          dsimp only [↓wpb, ↓wp1, ↓vI, ↓vL, ↓vD, ↓ldI, ↓ldL, ↓ldD, ↓ldR, ↓k1, ↓k2, ↓kI, ↓kL, ↓kD, ↓kII, ↓kLL, ↓kDD, ↓kR, ↓kIR, ↓kLR, ↓kIIR, ↓kLIR, ↓kDIR, ↓kRIR, ↓kNN, ↓kE, ↓br, ↓bn, ↓rtI, ↓gfv, ↓zchk, lput, ldel, lbad, alA, acat, isRf, dom, dS, dJ, isO, aTy, aLen, elAV, elR, Nat.reduceBEq, Nat.reduceAdd, Bool.or, Bool.and, Nat.add_zero, Nat.zero_add]
          try simp only [Nat.reduceLT, Nat.reduceLeDiff, Nat.reduceEqDiff, true_and, and_true, and_self, Nat.zero_le, Nat.le_refl, true_or, or_true, Bool.false_eq_true, not_false_eq_true, Nat.reduceAdd, Nat.lt_add_one, Nat.zero_lt_one, nI_add, pk_mul, ixL, vpL, ne_eq, reduceIte, wI_sN, wL_sM, sN_same, sN_K, sN_2, sM_1, sM_same, sM_K, sM_s, uI_at, uN_at, enc_at, uI_enc, uI_uI, upM_s, upM_n, ixq, vxq, hpq, rpq, ipq, f0q, f1q, f2q, f3q, f4q, f5q, f6q, ixb, vxb, lot_0 hl01]
          refine ⟨fun q => absurd q (nI_ge (by omega) (by omega)), fun _ => ⟨fun q => k59 ?_, fun q => ?_⟩⟩
          · unfold ofr; rw [q, if_neg (fun z => by cases z.1)]
          · have q : isLot a i = true := by simpa using q
            have hbd := hbid q
            simp only [hbd]
            refine ⟨fun q2 => k59 ?_, fun q2 => ?_⟩
            · rw [nI_ltI b7 b4] at q2
              unfold ofr; rw [if_neg (fun z => by omega)]
            · rw [nI_ltI b7 b4] at q2
              have e : ofr a i b = it a i (7 + b) := by unfold ofr; rw [if_pos ⟨q, by omega⟩]
              rw [e] at nx
              refine V_run hB (rt := none) (nL := 6) (mc := 0) rfl rfl rfl obX4_collectOffers_60 ?_
              dsimp only [bX4_collectOffers_60, ↓wpb, ↓wp1, ↓vI, ↓vL, ↓vD, ↓ldI, ↓ldL, ↓ldD, ↓ldR, ↓k1, ↓k2, ↓kI, ↓kL, ↓kD, ↓kII, ↓kLL, ↓kDD, ↓kR, ↓kIR, ↓kLR, ↓kIIR, ↓kLIR, ↓kDIR, ↓kRIR, ↓kNN, ↓kE, ↓br, ↓bn, ↓rtI, ↓gfv, ↓zchk, lput, ldel, lbad, alA, acat, isRf, dom, dS, dJ, isO, aTy, aLen, elAV, elR, Nat.reduceBEq, Nat.reduceAdd, Bool.or, Bool.and, Nat.add_zero, Nat.zero_add]
              try simp only [Nat.reduceLT, Nat.reduceLeDiff, Nat.reduceEqDiff, true_and, and_true, and_self, Nat.zero_le, Nat.le_refl, true_or, or_true, Bool.false_eq_true, not_false_eq_true, Nat.reduceAdd, Nat.lt_add_one, Nat.zero_lt_one, nI_add, pk_mul, ixL, vpL, ne_eq, reduceIte, wI_sN, wL_sM, sN_same, sN_K, sN_2, sM_1, sM_same, sM_K, sM_s, uI_at, uN_at, enc_at, uI_enc, uI_uI, upM_s, upM_n, ixq, vxq, hpq, rpq, ipq, f0q, f1q, f2q, f3q, f4q, f5q, f6q, hi10, ixb, vxb, hbd]
              exact ⟨fun z => absurd z (by decide), fun _ => nx _ (List.forall_mem_cons.mpr ⟨rfl, List.forall_mem_cons.mpr ⟨rfl, List.forall_mem_cons.mpr ⟨rfl, List.forall_mem_cons.mpr ⟨rfl, List.forall_mem_cons.mpr ⟨rfl, fun _ h => absurd h List.not_mem_nil⟩⟩⟩⟩⟩)⟩
      exact inner 5 0 t _ (by omega) hm h4 hR (fun c hcc => absurd hcc (Nat.not_lt_zero _)) (List.forall_mem_cons.mpr ⟨rfl, List.forall_mem_cons.mpr ⟨rfl, List.forall_mem_cons.mpr ⟨rfl, List.forall_mem_cons.mpr ⟨rfl, List.forall_mem_cons.mpr ⟨rfl, fun _ h => absurd h List.not_mem_nil⟩⟩⟩⟩⟩)
  refine V_run hB (rt := none) (nL := 6) (mc := 0) rfl rfl rfl obX4_collectOffers_0 ?_
  dsimp only [bX4_collectOffers_0, ↓wpb, ↓wp1, ↓vI, ↓vL, ↓vD, ↓ldI, ↓ldL, ↓ldD, ↓ldR, ↓k1, ↓k2, ↓kI, ↓kL, ↓kD, ↓kII, ↓kLL, ↓kDD, ↓kR, ↓kIR, ↓kLR, ↓kIIR, ↓kLIR, ↓kDIR, ↓kRIR, ↓kNN, ↓kE, ↓br, ↓bn, ↓rtI, ↓gfv, ↓zchk, lput, ldel, lbad, alA, acat, isRf, dom, dS, dJ, isO, aTy, aLen, elAV, elR, Nat.reduceBEq, Nat.reduceAdd, Bool.or, Bool.and, Nat.add_zero, Nat.zero_add]
  try simp only [Nat.reduceLT, Nat.reduceLeDiff, Nat.reduceEqDiff, true_and, and_true, and_self, Nat.zero_le, Nat.le_refl, true_or, or_true, Bool.false_eq_true, not_false_eq_true, Nat.reduceAdd, Nat.lt_add_one, Nat.zero_lt_one, nI_add, pk_mul, ixL, vpL, ne_eq, reduceIte, wI_sN, wL_sM, sN_same, sN_K, sN_2, sM_1, sM_same, sM_K, sM_s, uI_at, uN_at, enc_at, uI_enc, uI_uI, upM_s, upM_n, g5]
  exact loop (a 4) 0 _ _ (by omega) ((Same.refl _ _).sN _ (Or.inl rfl)) (by rw [sN_same]; rfl) (fun j hj => absurd hj (Nat.not_lt_zero _)) (List.forall_mem_cons.mpr ⟨rfl, List.forall_mem_cons.mpr ⟨rfl, List.forall_mem_cons.mpr ⟨rfl, fun _ h => absurd h List.not_mem_nil⟩⟩⟩)
theorem c_sumFrom (hc : Ctx l G) (hO : OfR τ a) (hb : bidOk a) (h10 : a 4 ≤ 10) {i u : Nat} (hi : i < a 4) (hu : u < 32) {F : Nat → Nat} (hF : ∀ v, v < 32 → τ.1 (21, 0, i + 1) v = nI (F v)) (hFb : ∀ v, F v ≤ 99999) : Sat l G iX4_bestSumFrom [evM, aI (nI i), aI (nI u)] τ (retI (nI (bsU a i u F 5)) τ) := by
  have hi10 : i < 10 := by omega
  have hi11 : i < 11 := by omega
  have hi1 : i + 1 < 11 := by omega
  have ix : (nI i).toNatClampNeg = i := ixL (by omega)
  have vx : vp_in (nI i) 10 = True := vpL (by omega) (by omega)
  have ix1 : (nI (i + 1)).toNatClampNeg = i + 1 := ixL (by omega)
  have vx1 : vp_in (nI (i + 1)) 11 = True := vpL (by omega) (by omega)
  have ixu : (nI u).toNatClampNeg = u := ixL (by omega)
  have vxu : vp_in (nI u) 32 = True := vpL (by omega) (by omega)
  have ru := hF u hu
  have hbs := fun b h => bsU_bd hb (u := u) hi10 hFb b h
  refine Sat_of hc.1 hc.2 (by decide +kernel) (Nat.le_of_ble_eq_true rfl) (fun x hB hno => ?_)
  have head : ∀ w b al, b + w = 5 → (∀ z ∈ [(0, evM), (1, aI (nI i)), (2, aI (nI u)), (3, aI (nI (bsU a i u F b))), (4, aI (nI b))], lk al z.1 = some z.2) → V x τ 0 14 al [] := by
    intro w
    induction w with
    | zero =>
      intro b al hw hal
      refine V.sub ?_ hal
      have hw : b = 5 := by omega
      subst hw
      refine V_run hB (rt := some .int) (nL := 6) (mc := 0) rfl rfl rfl obX4_bestSumFrom_14 ?_
      dsimp only [bX4_bestSumFrom_14, ↓wpb, ↓wp1, ↓vI, ↓vL, ↓vD, ↓ldI, ↓ldL, ↓ldD, ↓ldR, ↓k1, ↓k2, ↓kI, ↓kL, ↓kD, ↓kII, ↓kLL, ↓kDD, ↓kR, ↓kIR, ↓kLR, ↓kIIR, ↓kLIR, ↓kDIR, ↓kRIR, ↓kNN, ↓kE, ↓br, ↓bn, ↓rtI, ↓gfv, ↓zchk, lput, ldel, lbad, alA, acat, isRf, dom, dS, dJ, isO, aTy, aLen, elAV, elR, Nat.reduceBEq, Nat.reduceAdd, Bool.or, Bool.and, Nat.add_zero, Nat.zero_add]
      try simp only [Nat.reduceLT, Nat.reduceLeDiff, Nat.reduceEqDiff, true_and, and_true, and_self, Nat.zero_le, Nat.le_refl, true_or, or_true, Bool.false_eq_true, not_false_eq_true, Nat.reduceAdd, Nat.lt_add_one, Nat.zero_lt_one, nI_add, pk_mul, ixL, vpL, ne_eq, reduceIte, wI_sN, wL_sM, sN_same, sN_K, sN_2, sM_1, sM_same, sM_K, sM_s, uI_at, uN_at, enc_at, uI_enc, uI_uI, upM_s, upM_n]
      refine ⟨fun _ => ?_, fun q => absurd (nI_le (by omega) (by omega)) q⟩
      refine V_run hB (rt := some .int) (nL := 6) (mc := 0) rfl rfl rfl obX4_bestSumFrom_83 ?_
      dsimp only [bX4_bestSumFrom_83, ↓wpb, ↓wp1, ↓vI, ↓vL, ↓vD, ↓ldI, ↓ldL, ↓ldD, ↓ldR, ↓k1, ↓k2, ↓kI, ↓kL, ↓kD, ↓kII, ↓kLL, ↓kDD, ↓kR, ↓kIR, ↓kLR, ↓kIIR, ↓kLIR, ↓kDIR, ↓kRIR, ↓kNN, ↓kE, ↓br, ↓bn, ↓rtI, ↓gfv, ↓zchk, lput, ldel, lbad, alA, acat, isRf, dom, dS, dJ, isO, aTy, aLen, elAV, elR, Nat.reduceBEq, Nat.reduceAdd, Bool.or, Bool.and, Nat.add_zero, Nat.zero_add]
      try simp only [Nat.reduceLT, Nat.reduceLeDiff, Nat.reduceEqDiff, true_and, and_true, and_self, Nat.zero_le, Nat.le_refl, true_or, or_true, Bool.false_eq_true, not_false_eq_true, Nat.reduceAdd, Nat.lt_add_one, Nat.zero_lt_one, nI_add, pk_mul, ixL, vpL, ne_eq, reduceIte, wI_sN, wL_sM, sN_same, sN_K, sN_2, sM_1, sM_same, sM_K, sM_s, uI_at, uN_at, enc_at, uI_enc, uI_uI, upM_s, upM_n]
      exact ⟨rfl, rfl⟩
    | succ w ih =>
      intro b al hw hal
      refine V.sub ?_ hal
      have hb5 : b < 5 := by omega
      have ixb : (nI b).toNatClampNeg = b := ixL (by omega)
      have vxb : vp_in (nI b) 5 = True := vpL (by omega) (by omega)
      have r := hO.2 i hi b hb5
      have s5 := shl5 b hb5
      have o5 := or5 u hu b hb5
      have ol := or5_lt u hu b hb5
      have ixo : (nI (u ||| 2 ^ b)).toNatClampNeg = u ||| 2 ^ b := ixL (by omega)
      have vxo : vp_in (nI (u ||| 2 ^ b)) 32 = True := vpL (by omega) (by omega)
      have ro := hF _ ol
      have hle := ofr_le hb hi10 hb5
      have hF1 := hFb (u ||| 2 ^ b)
      have hb0 := hbs b (by omega)
      have hU : bsU a i u F (b + 1) = if mg a i b u = true ∧ bsU a i u F b < it a i (7 + b) + F (u ||| 2 ^ b) then it a i (7 + b) + F (u ||| 2 ^ b) else bsU a i u F b := rfl
      have ih' := fun al => ih (b + 1) al (by omega)
      rw [hU] at ih'
      have k77 : ∀ al, ¬ (mg a i b u = true ∧ bsU a i u F b < it a i (7 + b) + F (u ||| 2 ^ b)) → (∀ z ∈ [(0, evM), (1, aI (nI i)), (2, aI (nI u)), (3, aI (nI (bsU a i u F b))), (4, aI (nI b))], lk al z.1 = some z.2) → V x τ 0 77 al [] := by
        intro al hq hal
        refine V.sub ?_ hal
        rw [if_neg hq] at ih'
        refine V_run hB (rt := some .int) (nL := 6) (mc := 0) rfl rfl rfl obX4_bestSumFrom_77 ?_
        dsimp only [bX4_bestSumFrom_77, ↓wpb, ↓wp1, ↓vI, ↓vL, ↓vD, ↓ldI, ↓ldL, ↓ldD, ↓ldR, ↓k1, ↓k2, ↓kI, ↓kL, ↓kD, ↓kII, ↓kLL, ↓kDD, ↓kR, ↓kIR, ↓kLR, ↓kIIR, ↓kLIR, ↓kDIR, ↓kRIR, ↓kNN, ↓kE, ↓br, ↓bn, ↓rtI, ↓gfv, ↓zchk, lput, ldel, lbad, alA, acat, isRf, dom, dS, dJ, isO, aTy, aLen, elAV, elR, Nat.reduceBEq, Nat.reduceAdd, Bool.or, Bool.and, Nat.add_zero, Nat.zero_add]
        try simp only [Nat.reduceLT, Nat.reduceLeDiff, Nat.reduceEqDiff, true_and, and_true, and_self, Nat.zero_le, Nat.le_refl, true_or, or_true, Bool.false_eq_true, not_false_eq_true, Nat.reduceAdd, Nat.lt_add_one, Nat.zero_lt_one, nI_add, pk_mul, ixL, vpL, ne_eq, reduceIte, wI_sN, wL_sM, sN_same, sN_K, sN_2, sM_1, sM_same, sM_K, sM_s, uI_at, uN_at, enc_at, uI_enc, uI_uI, upM_s, upM_n]
        exact ih' _ (List.forall_mem_cons.mpr ⟨rfl, List.forall_mem_cons.mpr ⟨rfl, List.forall_mem_cons.mpr ⟨rfl, List.forall_mem_cons.mpr ⟨rfl, List.forall_mem_cons.mpr ⟨rfl, fun _ h => absurd h List.not_mem_nil⟩⟩⟩⟩⟩)
      refine V_run hB (rt := some .int) (nL := 6) (mc := 0) rfl rfl rfl obX4_bestSumFrom_14 ?_
      dsimp only [bX4_bestSumFrom_14, ↓wpb, ↓wp1, ↓vI, ↓vL, ↓vD, ↓ldI, ↓ldL, ↓ldD, ↓ldR, ↓k1, ↓k2, ↓kI, ↓kL, ↓kD, ↓kII, ↓kLL, ↓kDD, ↓kR, ↓kIR, ↓kLR, ↓kIIR, ↓kLIR, ↓kDIR, ↓kRIR, ↓kNN, ↓kE, ↓br, ↓bn, ↓rtI, ↓gfv, ↓zchk, lput, ldel, lbad, alA, acat, isRf, dom, dS, dJ, isO, aTy, aLen, elAV, elR, Nat.reduceBEq, Nat.reduceAdd, Bool.or, Bool.and, Nat.add_zero, Nat.zero_add]
      try simp only [Nat.reduceLT, Nat.reduceLeDiff, Nat.reduceEqDiff, true_and, and_true, and_self, Nat.zero_le, Nat.le_refl, true_or, or_true, Bool.false_eq_true, not_false_eq_true, Nat.reduceAdd, Nat.lt_add_one, Nat.zero_lt_one, nI_add, pk_mul, ixL, vpL, ne_eq, reduceIte, wI_sN, wL_sM, sN_same, sN_K, sN_2, sM_1, sM_same, sM_K, sM_s, uI_at, uN_at, enc_at, uI_enc, uI_uI, upM_s, upM_n, ix, vx, hi10, ixb, vxb, r, s5, band5 u hu b hb5, hi1, ix1, vx1, o5, ixo, vxo, ro]
      refine ⟨fun q => absurd q (nI_ge (by omega) (by omega)), fun _ => ⟨fun q => k77 _ (fun z => ?_) (List.forall_mem_cons.mpr ⟨rfl, List.forall_mem_cons.mpr ⟨rfl, List.forall_mem_cons.mpr ⟨rfl, List.forall_mem_cons.mpr ⟨rfl, List.forall_mem_cons.mpr ⟨rfl, fun _ h => absurd h List.not_mem_nil⟩⟩⟩⟩⟩), fun q => ⟨fun q2 => k77 _ (fun z => q2 (mg_ofr.mp z.1).2) (List.forall_mem_cons.mpr ⟨rfl, List.forall_mem_cons.mpr ⟨rfl, List.forall_mem_cons.mpr ⟨rfl, List.forall_mem_cons.mpr ⟨rfl, List.forall_mem_cons.mpr ⟨rfl, fun _ h => absurd h List.not_mem_nil⟩⟩⟩⟩⟩), fun q2 => ⟨fun q3 => k77 _ (fun z => ?_) (List.forall_mem_cons.mpr ⟨rfl, List.forall_mem_cons.mpr ⟨rfl, List.forall_mem_cons.mpr ⟨rfl, List.forall_mem_cons.mpr ⟨rfl, List.forall_mem_cons.mpr ⟨rfl, fun _ h => absurd h List.not_mem_nil⟩⟩⟩⟩⟩), fun q3 => ?_⟩⟩⟩⟩
      · have := (mg_ofr.mp z.1).1
        exact absurd q (nI_nle this (by omega))
      · have h1 := ofr_pos (mg_ofr.mp z.1).1
        rw [nI_leI (by omega) (by omega)] at q3
        omega
      · have h0 : 0 < ofr a i b := by
          rcases Nat.eq_zero_or_pos (ofr a i b) with z | z
          · rw [z] at q; exact absurd (by decide) q
          · exact z
        have h1 := ofr_pos h0
        rw [nI_leI (by omega) (by omega)] at q3
        rw [if_pos ⟨mg_ofr.mpr ⟨h0, q2⟩, by omega⟩, ← h1] at ih'
        exact ih' _ (List.forall_mem_cons.mpr ⟨rfl, List.forall_mem_cons.mpr ⟨rfl, List.forall_mem_cons.mpr ⟨rfl, List.forall_mem_cons.mpr ⟨rfl, List.forall_mem_cons.mpr ⟨rfl, fun _ h => absurd h List.not_mem_nil⟩⟩⟩⟩⟩)
  refine V_run hB (rt := some .int) (nL := 6) (mc := 0) rfl rfl rfl obX4_bestSumFrom_0 ?_
  dsimp only [bX4_bestSumFrom_0, ↓wpb, ↓wp1, ↓vI, ↓vL, ↓vD, ↓ldI, ↓ldL, ↓ldD, ↓ldR, ↓k1, ↓k2, ↓kI, ↓kL, ↓kD, ↓kII, ↓kLL, ↓kDD, ↓kR, ↓kIR, ↓kLR, ↓kIIR, ↓kLIR, ↓kDIR, ↓kRIR, ↓kNN, ↓kE, ↓br, ↓bn, ↓rtI, ↓gfv, ↓zchk, lput, ldel, lbad, alA, acat, isRf, dom, dS, dJ, isO, aTy, aLen, elAV, elR, Nat.reduceBEq, Nat.reduceAdd, Bool.or, Bool.and, Nat.add_zero, Nat.zero_add]
  try simp only [Nat.reduceLT, Nat.reduceLeDiff, Nat.reduceEqDiff, true_and, and_true, and_self, Nat.zero_le, Nat.le_refl, true_or, or_true, Bool.false_eq_true, not_false_eq_true, Nat.reduceAdd, Nat.lt_add_one, Nat.zero_lt_one, nI_add, pk_mul, ixL, vpL, ne_eq, reduceIte, wI_sN, wL_sM, sN_same, sN_K, sN_2, sM_1, sM_same, sM_K, sM_s, uI_at, uN_at, enc_at, uI_enc, uI_uI, upM_s, upM_n, ix1, vx1, hi1, ixu, vxu, ru]
  exact head 5 0 _ (by omega) (List.forall_mem_cons.mpr ⟨rfl, List.forall_mem_cons.mpr ⟨rfl, List.forall_mem_cons.mpr ⟨rfl, List.forall_mem_cons.mpr ⟨rfl, List.forall_mem_cons.mpr ⟨rfl, fun _ h => absurd h List.not_mem_nil⟩⟩⟩⟩⟩)
/-- the best sums are right from item j on -/
def BeR (τ : Mem) (a : Nat → Nat) (j : Nat) : Prop := ∀ i, j ≤ i → i ≤ a 4 → ∀ u, u < 32 → τ.1 (21, 0, i) u = nI (bR a (a 4 - i) u)
theorem bR_all {a : Nat → Nat} (hb : bidOk a) (hm : a 4 ≤ 10) {k : Nat} (hk : k ≤ a 4) (u : Nat) : bR a k u ≤ 9990 := by
  have := bR_bd hb hm k hk u
  omega
theorem c_bestSum (hc : Ctx l G) (hS : ShP τ 0 a π) (hV : IV n a) (hn : n ≤ 1000) : Sat l G iX4_bestSum [evM, shM] τ (intP (nI (bR a (a 4) 0)) (fun τ' => Same evN τ τ' ∧ OfR τ' a ∧ BeR τ' a 0)) := by
  have h10 := hV.1.1
  have hb := hV.bidOk
  have ixm : (nI (a 4)).toNatClampNeg = a 4 := ixL (by omega)
  have vxm : vp_in (nI (a 4)) 11 = True := vpL (by omega) (by omega)
  refine Sat_of hc.1 hc.2 (by decide +kernel) (Nat.le_of_ble_eq_true rfl) (fun x hB hno => ?_)
  refine V_run hB (rt := some .int) (nL := 4) (mc := 0) rfl rfl rfl obX4_bestSum_0 ?_
  dsimp only [bX4_bestSum_0, ↓wpb, ↓wp1, ↓vI, ↓vL, ↓vD, ↓ldI, ↓ldL, ↓ldD, ↓ldR, ↓k1, ↓k2, ↓kI, ↓kL, ↓kD, ↓kII, ↓kLL, ↓kDD, ↓kR, ↓kIR, ↓kLR, ↓kIIR, ↓kLIR, ↓kDIR, ↓kRIR, ↓kNN, ↓kE, ↓br, ↓bn, ↓rtI, ↓gfv, ↓zchk, lput, ldel, lbad, alA, acat, isRf, dom, dS, dJ, isO, aTy, aLen, elAV, elR, Nat.reduceBEq, Nat.reduceAdd, Bool.or, Bool.and, Nat.add_zero, Nat.zero_add]
  try simp only [Nat.reduceLT, Nat.reduceLeDiff, Nat.reduceEqDiff, true_and, and_true, and_self, Nat.zero_le, Nat.le_refl, true_or, or_true, Bool.false_eq_true, not_false_eq_true, Nat.reduceAdd, Nat.lt_add_one, Nat.zero_lt_one, nI_add, pk_mul, ixL, vpL, ne_eq, reduceIte, wI_sN, wL_sM, sN_same, sN_K, sN_2, sM_1, sM_same, sM_K, sM_s, uI_at, uN_at, enc_at, uI_enc, uI_uI, upM_s, upM_n]
  refine V_callV hB hno (c_offers hc hS hV hn) rfl (by decide +kernel) cvX4_49 (dom1 rfl) npX4_collectOffers ⟨by decide, by decide⟩ (Nat.le_of_ble_eq_true rfl) (by decide) ?_ ?_
  rotate_left
  · intro E τ' hq; cases hq.1
  intro v t0 hq
  obtain ⟨e1, hm0, hO0⟩ := hq
  cases e1
  show V x t0 0 5 _ _
  refine V_run hB (rt := some .int) (nL := 4) (mc := 0) rfl rfl rfl obX4_bestSum_5 ?_
  dsimp only [bX4_bestSum_5, ↓wpb, ↓wp1, ↓vI, ↓vL, ↓vD, ↓ldI, ↓ldL, ↓ldD, ↓ldR, ↓k1, ↓k2, ↓kI, ↓kL, ↓kD, ↓kII, ↓kLL, ↓kDD, ↓kR, ↓kIR, ↓kLR, ↓kIIR, ↓kLIR, ↓kDIR, ↓kRIR, ↓kNN, ↓kE, ↓br, ↓bn, ↓rtI, ↓gfv, ↓zchk, lput, ldel, lbad, alA, acat, isRf, dom, dS, dJ, isO, aTy, aLen, elAV, elR, Nat.reduceBEq, Nat.reduceAdd, Bool.or, Bool.and, Nat.add_zero, Nat.zero_add]
  try simp only [Nat.reduceLT, Nat.reduceLeDiff, Nat.reduceEqDiff, true_and, and_true, and_self, Nat.zero_le, Nat.le_refl, true_or, or_true, Bool.false_eq_true, not_false_eq_true, Nat.reduceAdd, Nat.lt_add_one, Nat.zero_lt_one, nI_add, pk_mul, ixL, vpL, ne_eq, reduceIte, wI_sN, wL_sM, sN_same, sN_K, sN_2, sM_1, sM_same, sM_K, sM_s, uI_at, uN_at, enc_at, uI_enc, uI_uI, upM_s, upM_n, hO0.1, ixm, vxm]
  refine V_cSv hB hno (q_fill hc t0 (K := 21) (s := 0) (j := a 4) (N := 32) (by decide) (show a 4 < 11 by omega) rfl rfl rfl (by omega) (nI 0)) rfl (by decide +kernel) csX4_53 npJ7_fill_53178 ⟨by decide, by decide⟩ (Nat.le_of_ble_eq_true rfl) (n' := 0) (by decide) rfl ?_
  have hO1 : OfR (sN t0 (21, 0, a 4) (flR (t0.1 (21, 0, a 4)) 0 32 (nI 0))) a := ⟨by rw [sN_K (by decide)]; exact hO0.1, fun i hi b hb => by rw [sN_K (by decide)]; exact hO0.2 i hi b hb⟩
  have hB1 : BeR (sN t0 (21, 0, a 4) (flR (t0.1 (21, 0, a 4)) 0 32 (nI 0))) a (a 4) := by
    intro i h1 h2 u hu
    have : i = a 4 := by omega
    subst this
    rw [sN_same, Nat.sub_self]
    unfold flR
    rw [if_pos ⟨Nat.zero_le _, hu⟩]
    rfl
  have hm1 : Same evN τ (sN t0 (21, 0, a 4) (flR (t0.1 (21, 0, a 4)) 0 32 (nI 0))) := hm0.sN _ (by unfold evN; omega)
  generalize sN t0 (21, 0, a 4) (flR (t0.1 (21, 0, a 4)) 0 32 (nI 0)) = t1 at *
  have es := dI_sub (a 4)
  have outer : ∀ j t al, j ≤ a 4 → Same evN τ t → OfR t a → BeR t a j → (∀ z ∈ [(0, evM), (2, aI (dI j))], lk al z.1 = some z.2) → V x t 0 25 al [] := by
    intro j
    induction j with
    | zero =>
      intro t al hj hm hO hR hal
      refine V.sub ?_ hal
      have r0 := hR 0 (Nat.le_refl _) (Nat.zero_le _) 0 (by omega)
      rw [Nat.sub_zero] at r0
      refine V_run hB (rt := some .int) (nL := 4) (mc := 0) rfl rfl rfl obX4_bestSum_25 ?_
      dsimp only [bX4_bestSum_25, ↓wpb, ↓wp1, ↓vI, ↓vL, ↓vD, ↓ldI, ↓ldL, ↓ldD, ↓ldR, ↓k1, ↓k2, ↓kI, ↓kL, ↓kD, ↓kII, ↓kLL, ↓kDD, ↓kR, ↓kIR, ↓kLR, ↓kIIR, ↓kLIR, ↓kDIR, ↓kRIR, ↓kNN, ↓kE, ↓br, ↓bn, ↓rtI, ↓gfv, ↓zchk, lput, ldel, lbad, alA, acat, isRf, dom, dS, dJ, isO, aTy, aLen, elAV, elR, Nat.reduceBEq, Nat.reduceAdd, Bool.or, Bool.and, Nat.add_zero, Nat.zero_add]
      try simp only [Nat.reduceLT, Nat.reduceLeDiff, Nat.reduceEqDiff, true_and, and_true, and_self, Nat.zero_le, Nat.le_refl, true_or, or_true, Bool.false_eq_true, not_false_eq_true, Nat.reduceAdd, Nat.lt_add_one, Nat.zero_lt_one, nI_add, pk_mul, ixL, vpL, ne_eq, reduceIte, wI_sN, wL_sM, sN_same, sN_K, sN_2, sM_1, sM_same, sM_K, sM_s, uI_at, uN_at, enc_at, uI_enc, uI_uI, upM_s, upM_n]
      refine ⟨fun _ => ?_, fun q => absurd (by decide) q⟩
      refine V_run hB (rt := some .int) (nL := 4) (mc := 0) rfl rfl rfl obX4_bestSum_63 ?_
      dsimp only [bX4_bestSum_63, ↓wpb, ↓wp1, ↓vI, ↓vL, ↓vD, ↓ldI, ↓ldL, ↓ldD, ↓ldR, ↓k1, ↓k2, ↓kI, ↓kL, ↓kD, ↓kII, ↓kLL, ↓kDD, ↓kR, ↓kIR, ↓kLR, ↓kIIR, ↓kLIR, ↓kDIR, ↓kRIR, ↓kNN, ↓kE, ↓br, ↓bn, ↓rtI, ↓gfv, ↓zchk, lput, ldel, lbad, alA, acat, isRf, dom, dS, dJ, isO, aTy, aLen, elAV, elR, Nat.reduceBEq, Nat.reduceAdd, Bool.or, Bool.and, Nat.add_zero, Nat.zero_add]
      try simp only [Nat.reduceLT, Nat.reduceLeDiff, Nat.reduceEqDiff, true_and, and_true, and_self, Nat.zero_le, Nat.le_refl, true_or, or_true, Bool.false_eq_true, not_false_eq_true, Nat.reduceAdd, Nat.lt_add_one, Nat.zero_lt_one, nI_add, pk_mul, ixL, vpL, ne_eq, reduceIte, wI_sN, wL_sM, sN_same, sN_K, sN_2, sM_1, sM_same, sM_K, sM_s, uI_at, uN_at, enc_at, uI_enc, uI_uI, upM_s, upM_n, r0]
      exact ⟨rfl, hm, hO, hR⟩
    | succ j ih =>
      intro t al hj hm hO hR hal
      refine V.sub ?_ hal
      have hj11 : j < 11 := by omega
      have ix : (nI j).toNatClampNeg = j := ixL (by omega)
      have vx : vp_in (nI j) 11 = True := vpL (by omega) (by omega)
      rw [show dI (j + 1) = nI j from rfl]
      refine V_run hB (rt := some .int) (nL := 4) (mc := 0) rfl rfl rfl obX4_bestSum_25 ?_
      dsimp only [bX4_bestSum_25, ↓wpb, ↓wp1, ↓vI, ↓vL, ↓vD, ↓ldI, ↓ldL, ↓ldD, ↓ldR, ↓k1, ↓k2, ↓kI, ↓kL, ↓kD, ↓kII, ↓kLL, ↓kDD, ↓kR, ↓kIR, ↓kLR, ↓kIIR, ↓kLIR, ↓kDIR, ↓kRIR, ↓kNN, ↓kE, ↓br, ↓bn, ↓rtI, ↓gfv, ↓zchk, lput, ldel, lbad, alA, acat, isRf, dom, dS, dJ, isO, aTy, aLen, elAV, elR, Nat.reduceBEq, Nat.reduceAdd, Bool.or, Bool.and, Nat.add_zero, Nat.zero_add]
      try simp only [Nat.reduceLT, Nat.reduceLeDiff, Nat.reduceEqDiff, true_and, and_true, and_self, Nat.zero_le, Nat.le_refl, true_or, or_true, Bool.false_eq_true, not_false_eq_true, Nat.reduceAdd, Nat.lt_add_one, Nat.zero_lt_one, nI_add, pk_mul, ixL, vpL, ne_eq, reduceIte, wI_sN, wL_sM, sN_same, sN_K, sN_2, sM_1, sM_same, sM_K, sM_s, uI_at, uN_at, enc_at, uI_enc, uI_uI, upM_s, upM_n]
      refine ⟨fun q => absurd q (nI_pos (by omega)), fun _ => ?_⟩
      have inner : ∀ w u t al, u + w = 32 → Same evN τ t → OfR t a → BeR t a (j + 1) → (∀ v, v < u → t.1 (21, 0, j) v = nI (bR a (a 4 - j) v)) → (∀ z ∈ [(0, evM), (2, aI (nI j)), (3, aI (nI u))], lk al z.1 = some z.2) → V x t 0 31 al [] := by
        intro w
        induction w with
        | zero =>
          intro u t al hu hm hO hR hQ hal
          refine V.sub ?_ hal
          have hu : u = 32 := by omega
          subst hu
          refine V_run hB (rt := some .int) (nL := 4) (mc := 0) rfl rfl rfl obX4_bestSum_31 ?_
          dsimp only [bX4_bestSum_31, ↓wpb, ↓wp1, ↓vI, ↓vL, ↓vD, ↓ldI, ↓ldL, ↓ldD, ↓ldR, ↓k1, ↓k2, ↓kI, ↓kL, ↓kD, ↓kII, ↓kLL, ↓kDD, ↓kR, ↓kIR, ↓kLR, ↓kIIR, ↓kLIR, ↓kDIR, ↓kRIR, ↓kNN, ↓kE, ↓br, ↓bn, ↓rtI, ↓gfv, ↓zchk, lput, ldel, lbad, alA, acat, isRf, dom, dS, dJ, isO, aTy, aLen, elAV, elR, Nat.reduceBEq, Nat.reduceAdd, Bool.or, Bool.and, Nat.add_zero, Nat.zero_add]
          try simp only [Nat.reduceLT, Nat.reduceLeDiff, Nat.reduceEqDiff, true_and, and_true, and_self, Nat.zero_le, Nat.le_refl, true_or, or_true, Bool.false_eq_true, not_false_eq_true, Nat.reduceAdd, Nat.lt_add_one, Nat.zero_lt_one, nI_add, pk_mul, ixL, vpL, ne_eq, reduceIte, wI_sN, wL_sM, sN_same, sN_K, sN_2, sM_1, sM_same, sM_K, sM_s, uI_at, uN_at, enc_at, uI_enc, uI_uI, upM_s, upM_n]
          refine ⟨fun _ => ?_, fun q => absurd (nI_le (by omega) (by omega)) q⟩
          refine V_run hB (rt := some .int) (nL := 4) (mc := 0) rfl rfl rfl obX4_bestSum_57 ?_
          dsimp only [bX4_bestSum_57, ↓wpb, ↓wp1, ↓vI, ↓vL, ↓vD, ↓ldI, ↓ldL, ↓ldD, ↓ldR, ↓k1, ↓k2, ↓kI, ↓kL, ↓kD, ↓kII, ↓kLL, ↓kDD, ↓kR, ↓kIR, ↓kLR, ↓kIIR, ↓kLIR, ↓kDIR, ↓kRIR, ↓kNN, ↓kE, ↓br, ↓bn, ↓rtI, ↓gfv, ↓zchk, lput, ldel, lbad, alA, acat, isRf, dom, dS, dJ, isO, aTy, aLen, elAV, elR, Nat.reduceBEq, Nat.reduceAdd, Bool.or, Bool.and, Nat.add_zero, Nat.zero_add]
          try simp only [Nat.reduceLT, Nat.reduceLeDiff, Nat.reduceEqDiff, true_and, and_true, and_self, Nat.zero_le, Nat.le_refl, true_or, or_true, Bool.false_eq_true, not_false_eq_true, Nat.reduceAdd, Nat.lt_add_one, Nat.zero_lt_one, nI_add, pk_mul, ixL, vpL, ne_eq, reduceIte, wI_sN, wL_sM, sN_same, sN_K, sN_2, sM_1, sM_same, sM_K, sM_s, uI_at, uN_at, enc_at, uI_enc, uI_uI, upM_s, upM_n]
          rw [dI_dec]
          refine ih t _ (by omega) hm hO (fun i h1 h2 u hu => ?_) (List.forall_mem_cons.mpr ⟨rfl, List.forall_mem_cons.mpr ⟨rfl, fun _ h => absurd h List.not_mem_nil⟩⟩)
          by_cases h : i = j
          · subst h; exact hQ u hu
          · exact hR i (by omega) h2 u hu
        | succ w ih2 =>
          intro u t al hu hm hO hR hQ hal
          refine V.sub ?_ hal
          have hu32 : u < 32 := by omega
          have ixu : (nI u).toNatClampNeg = u := ixL (by omega)
          have vxu : vp_in (nI u) 32 = True := vpL (by omega) (by omega)
          have hbe : bR a (a 4 - j) u = bsU a j u (bR a (a 4 - (j + 1))) 5 := by
            rw [show a 4 - j = (a 4 - (j + 1)) + 1 by omega]
            show bsU a (a 4 - (a 4 - (j + 1) + 1)) u (bR a (a 4 - (j + 1))) 5 = _
            rw [show a 4 - (a 4 - (j + 1) + 1) = j by omega]
          refine V_run hB (rt := some .int) (nL := 4) (mc := 0) rfl rfl rfl obX4_bestSum_31 ?_
          dsimp only [bX4_bestSum_31, ↓wpb, ↓wp1, ↓vI, ↓vL, ↓vD, ↓ldI, ↓ldL, ↓ldD, ↓ldR, ↓k1, ↓k2, ↓kI, ↓kL, ↓kD, ↓kII, ↓kLL, ↓kDD, ↓kR, ↓kIR, ↓kLR, ↓kIIR, ↓kLIR, ↓kDIR, ↓kRIR, ↓kNN, ↓kE, ↓br, ↓bn, ↓rtI, ↓gfv, ↓zchk, lput, ldel, lbad, alA, acat, isRf, dom, dS, dJ, isO, aTy, aLen, elAV, elR, Nat.reduceBEq, Nat.reduceAdd, Bool.or, Bool.and, Nat.add_zero, Nat.zero_add]
          try simp only [Nat.reduceLT, Nat.reduceLeDiff, Nat.reduceEqDiff, true_and, and_true, and_self, Nat.zero_le, Nat.le_refl, true_or, or_true, Bool.false_eq_true, not_false_eq_true, Nat.reduceAdd, Nat.lt_add_one, Nat.zero_lt_one, nI_add, pk_mul, ixL, vpL, ne_eq, reduceIte, wI_sN, wL_sM, sN_same, sN_K, sN_2, sM_1, sM_same, sM_K, sM_s, uI_at, uN_at, enc_at, uI_enc, uI_uI, upM_s, upM_n, ix, vx]
          refine ⟨fun q => absurd q (nI_ge (by omega) (by omega)), fun _ => ?_⟩
          refine V_cV hB hno (c_sumFrom hc hO hb h10 (i := j) (u := u) (by omega) hu32 (F := bR a (a 4 - (j + 1))) (fun v hv => hR (j + 1) (Nat.le_refl _) (by omega) v hv) (fun v => Nat.le_trans (bR_all hb h10 (by omega) v) (by omega))) rfl (by decide +kernel) cvX4_59 (dom1 rfl) npX4_bestSumFrom ⟨by decide, by decide⟩ (Nat.le_of_ble_eq_true rfl) (n' := 0) (by decide) rfl ?_
          rw [← hbe]
          refine V_run hB (rt := some .int) (nL := 4) (mc := 0) rfl rfl rfl obX4_bestSum_50 ?_
          dsimp only [bX4_bestSum_50, ↓wpb, ↓wp1, ↓vI, ↓vL, ↓vD, ↓ldI, ↓ldL, ↓ldD, ↓ldR, ↓k1, ↓k2, ↓kI, ↓kL, ↓kD, ↓kII, ↓kLL, ↓kDD, ↓kR, ↓kIR, ↓kLR, ↓kIIR, ↓kLIR, ↓kDIR, ↓kRIR, ↓kNN, ↓kE, ↓br, ↓bn, ↓rtI, ↓gfv, ↓zchk, lput, ldel, lbad, alA, acat, isRf, dom, dS, dJ, isO, aTy, aLen, elAV, elR, Nat.reduceBEq, Nat.reduceAdd, Bool.or, Bool.and, Nat.add_zero, Nat.zero_add]
          try simp only [Nat.reduceLT, Nat.reduceLeDiff, Nat.reduceEqDiff, true_and, and_true, and_self, Nat.zero_le, Nat.le_refl, true_or, or_true, Bool.false_eq_true, not_false_eq_true, Nat.reduceAdd, Nat.lt_add_one, Nat.zero_lt_one, nI_add, pk_mul, ixL, vpL, ne_eq, reduceIte, wI_sN, wL_sM, sN_same, sN_K, sN_2, sM_1, sM_same, sM_K, sM_s, uI_at, uN_at, enc_at, uI_enc, uI_uI, upM_s, upM_n, ixu, vxu, hj11]
          refine ih2 (u + 1) _ _ (by omega) (hm.sN _ (by unfold evN; omega)) ⟨by rw [sN_K (by decide)]; exact hO.1, fun i hi b hb => by rw [sN_K (by decide)]; exact hO.2 i hi b hb⟩ (fun i h1 h2 v hv => ?_) (fun v hv => ?_) (List.forall_mem_cons.mpr ⟨rfl, List.forall_mem_cons.mpr ⟨rfl, List.forall_mem_cons.mpr ⟨rfl, fun _ h => absurd h List.not_mem_nil⟩⟩⟩)
          · rw [sN_ne (fun z => by injection z with z1 z2; injection z2 with z3 z4; omega)]
            exact hR i h1 h2 v hv
          · rw [sN_same]
            simp only [uI]
            by_cases h : v = u
            · rw [if_pos h, h]
            · rw [if_neg h]; exact hQ v (by omega)
      exact inner 32 0 t _ (by omega) hm hO hR (fun v hv => absurd hv (Nat.not_lt_zero _)) (List.forall_mem_cons.mpr ⟨rfl, List.forall_mem_cons.mpr ⟨rfl, List.forall_mem_cons.mpr ⟨rfl, fun _ h => absurd h List.not_mem_nil⟩⟩⟩)
  refine V_run hB (rt := some .int) (nL := 4) (mc := 0) rfl rfl rfl obX4_bestSum_18 ?_
  dsimp only [bX4_bestSum_18, ↓wpb, ↓wp1, ↓vI, ↓vL, ↓vD, ↓ldI, ↓ldL, ↓ldD, ↓ldR, ↓k1, ↓k2, ↓kI, ↓kL, ↓kD, ↓kII, ↓kLL, ↓kDD, ↓kR, ↓kIR, ↓kLR, ↓kIIR, ↓kLIR, ↓kDIR, ↓kRIR, ↓kNN, ↓kE, ↓br, ↓bn, ↓rtI, ↓gfv, ↓zchk, lput, ldel, lbad, alA, acat, isRf, dom, dS, dJ, isO, aTy, aLen, elAV, elR, Nat.reduceBEq, Nat.reduceAdd, Bool.or, Bool.and, Nat.add_zero, Nat.zero_add]
  try simp only [Nat.reduceLT, Nat.reduceLeDiff, Nat.reduceEqDiff, true_and, and_true, and_self, Nat.zero_le, Nat.le_refl, true_or, or_true, Bool.false_eq_true, not_false_eq_true, Nat.reduceAdd, Nat.lt_add_one, Nat.zero_lt_one, nI_add, pk_mul, ixL, vpL, ne_eq, reduceIte, wI_sN, wL_sM, sN_same, sN_K, sN_2, sM_1, sM_same, sM_K, sM_s, uI_at, uN_at, enc_at, uI_enc, uI_uI, upM_s, upM_n, hO1.1, es]
  exact outer (a 4) t1 _ (Nat.le_refl _) hm1 hO1 hB1 (List.forall_mem_cons.mpr ⟨rfl, List.forall_mem_cons.mpr ⟨rfl, fun _ h => absurd h List.not_mem_nil⟩⟩)
theorem c_first (hc : Ctx l G) (hO : OfR τ a) (hR : BeR τ a 0) (hb : bidOk a) (h10 : a 4 ≤ 10) {i u : Nat} (hi : i < a 4) (hu : u < 32) : Sat l G iX4_firstBestBuyer [evM, aI (nI i), aI (nI u)] τ (retI (oI (gts a i u)) τ) := by
  have hi10 : i < 10 := by omega
  have hi11 : i < 11 := by omega
  have hi1 : i + 1 < 11 := by omega
  have ix : (nI i).toNatClampNeg = i := ixL (by omega)
  have vx : vp_in (nI i) 10 = True := vpL (by omega) (by omega)
  have vx11 : vp_in (nI i) 11 = True := vpL (by omega) (by omega)
  have ix1 : (nI (i + 1)).toNatClampNeg = i + 1 := ixL (by omega)
  have vx1 : vp_in (nI (i + 1)) 11 = True := vpL (by omega) (by omega)
  have ixu : (nI u).toNatClampNeg = u := ixL (by omega)
  have vxu : vp_in (nI u) 32 = True := vpL (by omega) (by omega)
  have ru := hR i (Nat.zero_le _) (by omega) u hu
  have hru := bR_all hb h10 (k := a 4 - i) (by omega) u
  refine Sat_of hc.1 hc.2 (by decide +kernel) (Nat.le_of_ble_eq_true rfl) (fun x hB hno => ?_)
  have head : ∀ w b al, b + w = 5 → gt a i u b w = gts a i u → (∀ z ∈ [(0, evM), (1, aI (nI i)), (2, aI (nI u)), (3, aI (nI b))], lk al z.1 = some z.2) → V x τ 0 2 al [] := by
    intro w
    induction w with
    | zero =>
      intro b al hw hg hal
      refine V.sub ?_ hal
      rw [← hg] at hB
      refine V_run hB (rt := some .int) (nL := 5) (mc := 0) rfl rfl rfl obX4_firstBestBuyer_2 ?_
      dsimp only [bX4_firstBestBuyer_2, ↓wpb, ↓wp1, ↓vI, ↓vL, ↓vD, ↓ldI, ↓ldL, ↓ldD, ↓ldR, ↓k1, ↓k2, ↓kI, ↓kL, ↓kD, ↓kII, ↓kLL, ↓kDD, ↓kR, ↓kIR, ↓kLR, ↓kIIR, ↓kLIR, ↓kDIR, ↓kRIR, ↓kNN, ↓kE, ↓br, ↓bn, ↓rtI, ↓gfv, ↓zchk, lput, ldel, lbad, alA, acat, isRf, dom, dS, dJ, isO, aTy, aLen, elAV, elR, Nat.reduceBEq, Nat.reduceAdd, Bool.or, Bool.and, Nat.add_zero, Nat.zero_add]
      try simp only [Nat.reduceLT, Nat.reduceLeDiff, Nat.reduceEqDiff, true_and, and_true, and_self, Nat.zero_le, Nat.le_refl, true_or, or_true, Bool.false_eq_true, not_false_eq_true, Nat.reduceAdd, Nat.lt_add_one, Nat.zero_lt_one, nI_add, pk_mul, ixL, vpL, ne_eq, reduceIte, wI_sN, wL_sM, sN_same, sN_K, sN_2, sM_1, sM_same, sM_K, sM_s, uI_at, uN_at, enc_at, uI_enc, uI_uI, upM_s, upM_n]
      refine ⟨fun _ => ?_, fun q => absurd (nI_le (by omega) (by omega)) q⟩
      refine V_run hB (rt := some .int) (nL := 5) (mc := 0) rfl rfl rfl obX4_firstBestBuyer_72 ?_
      dsimp only [bX4_firstBestBuyer_72, ↓wpb, ↓wp1, ↓vI, ↓vL, ↓vD, ↓ldI, ↓ldL, ↓ldD, ↓ldR, ↓k1, ↓k2, ↓kI, ↓kL, ↓kD, ↓kII, ↓kLL, ↓kDD, ↓kR, ↓kIR, ↓kLR, ↓kIIR, ↓kLIR, ↓kDIR, ↓kRIR, ↓kNN, ↓kE, ↓br, ↓bn, ↓rtI, ↓gfv, ↓zchk, lput, ldel, lbad, alA, acat, isRf, dom, dS, dJ, isO, aTy, aLen, elAV, elR, Nat.reduceBEq, Nat.reduceAdd, Bool.or, Bool.and, Nat.add_zero, Nat.zero_add]
      try simp only [Nat.reduceLT, Nat.reduceLeDiff, Nat.reduceEqDiff, true_and, and_true, and_self, Nat.zero_le, Nat.le_refl, true_or, or_true, Bool.false_eq_true, not_false_eq_true, Nat.reduceAdd, Nat.lt_add_one, Nat.zero_lt_one, nI_add, pk_mul, ixL, vpL, ne_eq, reduceIte, wI_sN, wL_sM, sN_same, sN_K, sN_2, sM_1, sM_same, sM_K, sM_s, uI_at, uN_at, enc_at, uI_enc, uI_uI, upM_s, upM_n]
      exact ⟨rfl, rfl⟩
    | succ w ih =>
      intro b al hw hg hal
      refine V.sub ?_ hal
      have hb5 : b < 5 := by omega
      have ixb : (nI b).toNatClampNeg = b := ixL (by omega)
      have vxb : vp_in (nI b) 5 = True := vpL (by omega) (by omega)
      have r := hO.2 i hi b hb5
      have s5 := shl5 b hb5
      have o5 := or5 u hu b hb5
      have ol := or5_lt u hu b hb5
      have ixo : (nI (u ||| 2 ^ b)).toNatClampNeg = u ||| 2 ^ b := ixL (by omega)
      have vxo : vp_in (nI (u ||| 2 ^ b)) 32 = True := vpL (by omega) (by omega)
      have ro := hR (i + 1) (Nat.zero_le _) (by omega) _ ol
      have hro := bR_all hb h10 (k := a 4 - (i + 1)) (by omega) (u ||| 2 ^ b)
      have hle := ofr_le hb hi10 hb5
      have hU : gt a i u b (w + 1) = if mg a i b u = true ∧ it a i (7 + b) + bR a (a 4 - (i + 1)) (u ||| 2 ^ b) = bR a (a 4 - i) u then some b else gt a i u (b + 1) w := rfl
      rw [hU] at hg
      have k66 : ∀ al, ¬ (mg a i b u = true ∧ it a i (7 + b) + bR a (a 4 - (i + 1)) (u ||| 2 ^ b) = bR a (a 4 - i) u) → (∀ z ∈ [(0, evM), (1, aI (nI i)), (2, aI (nI u)), (3, aI (nI b))], lk al z.1 = some z.2) → V x τ 0 66 al [] := by
        intro al hq hal
        refine V.sub ?_ hal
        rw [if_neg hq] at hg
        refine V_run hB (rt := some .int) (nL := 5) (mc := 0) rfl rfl rfl obX4_firstBestBuyer_66 ?_
        dsimp only [bX4_firstBestBuyer_66, ↓wpb, ↓wp1, ↓vI, ↓vL, ↓vD, ↓ldI, ↓ldL, ↓ldD, ↓ldR, ↓k1, ↓k2, ↓kI, ↓kL, ↓kD, ↓kII, ↓kLL, ↓kDD, ↓kR, ↓kIR, ↓kLR, ↓kIIR, ↓kLIR, ↓kDIR, ↓kRIR, ↓kNN, ↓kE, ↓br, ↓bn, ↓rtI, ↓gfv, ↓zchk, lput, ldel, lbad, alA, acat, isRf, dom, dS, dJ, isO, aTy, aLen, elAV, elR, Nat.reduceBEq, Nat.reduceAdd, Bool.or, Bool.and, Nat.add_zero, Nat.zero_add]
        try simp only [Nat.reduceLT, Nat.reduceLeDiff, Nat.reduceEqDiff, true_and, and_true, and_self, Nat.zero_le, Nat.le_refl, true_or, or_true, Bool.false_eq_true, not_false_eq_true, Nat.reduceAdd, Nat.lt_add_one, Nat.zero_lt_one, nI_add, pk_mul, ixL, vpL, ne_eq, reduceIte, wI_sN, wL_sM, sN_same, sN_K, sN_2, sM_1, sM_same, sM_K, sM_s, uI_at, uN_at, enc_at, uI_enc, uI_uI, upM_s, upM_n]
        exact ih (b + 1) _ (by omega) hg (List.forall_mem_cons.mpr ⟨rfl, List.forall_mem_cons.mpr ⟨rfl, List.forall_mem_cons.mpr ⟨rfl, List.forall_mem_cons.mpr ⟨rfl, fun _ h => absurd h List.not_mem_nil⟩⟩⟩⟩)
      refine V_run hB (rt := some .int) (nL := 5) (mc := 0) rfl rfl rfl obX4_firstBestBuyer_2 ?_
      dsimp only [bX4_firstBestBuyer_2, ↓wpb, ↓wp1, ↓vI, ↓vL, ↓vD, ↓ldI, ↓ldL, ↓ldD, ↓ldR, ↓k1, ↓k2, ↓kI, ↓kL, ↓kD, ↓kII, ↓kLL, ↓kDD, ↓kR, ↓kIR, ↓kLR, ↓kIIR, ↓kLIR, ↓kDIR, ↓kRIR, ↓kNN, ↓kE, ↓br, ↓bn, ↓rtI, ↓gfv, ↓zchk, lput, ldel, lbad, alA, acat, isRf, dom, dS, dJ, isO, aTy, aLen, elAV, elR, Nat.reduceBEq, Nat.reduceAdd, Bool.or, Bool.and, Nat.add_zero, Nat.zero_add]
      try simp only [Nat.reduceLT, Nat.reduceLeDiff, Nat.reduceEqDiff, true_and, and_true, and_self, Nat.zero_le, Nat.le_refl, true_or, or_true, Bool.false_eq_true, not_false_eq_true, Nat.reduceAdd, Nat.lt_add_one, Nat.zero_lt_one, nI_add, pk_mul, ixL, vpL, ne_eq, reduceIte, wI_sN, wL_sM, sN_same, sN_K, sN_2, sM_1, sM_same, sM_K, sM_s, uI_at, uN_at, enc_at, uI_enc, uI_uI, upM_s, upM_n, ix, vx, vx11, hi10, hi11, ixb, vxb, r, s5, band5 u hu b hb5, hi1, ix1, vx1, o5, ixo, vxo, ro, ixu, vxu, ru]
      refine ⟨fun q => absurd q (nI_ge (by omega) (by omega)), fun _ => ⟨fun q => k66 _ (fun z => ?_) (List.forall_mem_cons.mpr ⟨rfl, List.forall_mem_cons.mpr ⟨rfl, List.forall_mem_cons.mpr ⟨rfl, List.forall_mem_cons.mpr ⟨rfl, fun _ h => absurd h List.not_mem_nil⟩⟩⟩⟩), fun q => ⟨fun q2 => k66 _ (fun z => q2 (mg_ofr.mp z.1).2) (List.forall_mem_cons.mpr ⟨rfl, List.forall_mem_cons.mpr ⟨rfl, List.forall_mem_cons.mpr ⟨rfl, List.forall_mem_cons.mpr ⟨rfl, fun _ h => absurd h List.not_mem_nil⟩⟩⟩⟩), fun q2 => ⟨fun q3 => k66 _ (fun z => ?_) (List.forall_mem_cons.mpr ⟨rfl, List.forall_mem_cons.mpr ⟨rfl, List.forall_mem_cons.mpr ⟨rfl, List.forall_mem_cons.mpr ⟨rfl, fun _ h => absurd h List.not_mem_nil⟩⟩⟩⟩), fun q3 => ?_⟩⟩⟩⟩
      · have := (mg_ofr.mp z.1).1
        exact absurd q (nI_nle this (by omega))
      · have h1 := ofr_pos (mg_ofr.mp z.1).1
        exact q3 (congrArg nI (by omega))
      · have h0 : 0 < ofr a i b := by
          rcases Nat.eq_zero_or_pos (ofr a i b) with z | z
          · rw [z] at q; exact absurd (by decide) q
          · exact z
        have h1 := ofr_pos h0
        have q3 := (nI_eq (by omega) (by omega)).mp q3
        rw [if_pos ⟨mg_ofr.mpr ⟨h0, q2⟩, by omega⟩] at hg
        rw [← hg]
        exact ⟨rfl, rfl⟩
  refine V_run hB (rt := some .int) (nL := 5) (mc := 0) rfl rfl rfl obX4_firstBestBuyer_0 ?_
  dsimp only [bX4_firstBestBuyer_0, ↓wpb, ↓wp1, ↓vI, ↓vL, ↓vD, ↓ldI, ↓ldL, ↓ldD, ↓ldR, ↓k1, ↓k2, ↓kI, ↓kL, ↓kD, ↓kII, ↓kLL, ↓kDD, ↓kR, ↓kIR, ↓kLR, ↓kIIR, ↓kLIR, ↓kDIR, ↓kRIR, ↓kNN, ↓kE, ↓br, ↓bn, ↓rtI, ↓gfv, ↓zchk, lput, ldel, lbad, alA, acat, isRf, dom, dS, dJ, isO, aTy, aLen, elAV, elR, Nat.reduceBEq, Nat.reduceAdd, Bool.or, Bool.and, Nat.add_zero, Nat.zero_add]
  try simp only [Nat.reduceLT, Nat.reduceLeDiff, Nat.reduceEqDiff, true_and, and_true, and_self, Nat.zero_le, Nat.le_refl, true_or, or_true, Bool.false_eq_true, not_false_eq_true, Nat.reduceAdd, Nat.lt_add_one, Nat.zero_lt_one, nI_add, pk_mul, ixL, vpL, ne_eq, reduceIte, wI_sN, wL_sM, sN_same, sN_K, sN_2, sM_1, sM_same, sM_K, sM_s, uI_at, uN_at, enc_at, uI_enc, uI_uI, upM_s, upM_n]
  exact head 5 0 _ (by omega) rfl (List.forall_mem_cons.mpr ⟨rfl, List.forall_mem_cons.mpr ⟨rfl, List.forall_mem_cons.mpr ⟨rfl, List.forall_mem_cons.mpr ⟨rfl, fun _ h => absurd h List.not_mem_nil⟩⟩⟩⟩)
/-- the buyers of the best evening -/
def ByR (τ : Mem) (a : Nat → Nat) : Prop := τ.1 (7, 0, 0) 4 = nI (a 4) ∧ ∀ i, i < a 4 → τ.1 (24, 0, 0) i = oI (gk a i)
theorem c_plan (hc : Ctx l G) (hS : ShP τ 0 a π) (hV : IV n a) (hn : n ≤ 1000) : Sat l G iX4_plan [evM, shM] τ (intP (nI (bR a (a 4) 0)) (fun τ' => Same evN τ τ' ∧ ByR τ' a)) := by
  have h10 := hV.1.1
  have hb := hV.bidOk
  refine Sat_of hc.1 hc.2 (by decide +kernel) (Nat.le_of_ble_eq_true rfl) (fun x hB hno => ?_)
  refine V_run hB (rt := some .int) (nL := 5) (mc := 0) rfl rfl rfl obX4_plan_0 ?_
  dsimp only [bX4_plan_0, ↓wpb, ↓wp1, ↓vI, ↓vL, ↓vD, ↓ldI, ↓ldL, ↓ldD, ↓ldR, ↓k1, ↓k2, ↓kI, ↓kL, ↓kD, ↓kII, ↓kLL, ↓kDD, ↓kR, ↓kIR, ↓kLR, ↓kIIR, ↓kLIR, ↓kDIR, ↓kRIR, ↓kNN, ↓kE, ↓br, ↓bn, ↓rtI, ↓gfv, ↓zchk, lput, ldel, lbad, alA, acat, isRf, dom, dS, dJ, isO, aTy, aLen, elAV, elR, Nat.reduceBEq, Nat.reduceAdd, Bool.or, Bool.and, Nat.add_zero, Nat.zero_add]
  try simp only [Nat.reduceLT, Nat.reduceLeDiff, Nat.reduceEqDiff, true_and, and_true, and_self, Nat.zero_le, Nat.le_refl, true_or, or_true, Bool.false_eq_true, not_false_eq_true, Nat.reduceAdd, Nat.lt_add_one, Nat.zero_lt_one, nI_add, pk_mul, ixL, vpL, ne_eq, reduceIte, wI_sN, wL_sM, sN_same, sN_K, sN_2, sM_1, sM_same, sM_K, sM_s, uI_at, uN_at, enc_at, uI_enc, uI_uI, upM_s, upM_n]
  refine V_callV hB hno (c_bestSum hc hS hV hn) rfl (by decide +kernel) cvX4_63 (dom1 rfl) npX4_bestSum ⟨by decide, by decide⟩ (Nat.le_of_ble_eq_true rfl) (by decide) ?_ ?_
  rotate_left
  · intro E τ' hq; cases hq.1
  intro v t0 hq
  obtain ⟨e1, hm0, hO0, hR0⟩ := hq
  cases e1
  show V x t0 0 5 _ _
  have loop : ∀ w i t al, i + w = a 4 → Same evN τ t → OfR t a → BeR t a 0 → (∀ j, j < i → t.1 (24, 0, 0) j = oI (gk a j)) → (∀ z ∈ [(0, evM), (2, aI (nI (bR a (a 4) 0))), (3, aI (nI (uA a i))), (4, aI (nI i))], lk al z.1 = some z.2) → V x t 0 11 al [] := by
    intro w
    induction w with
    | zero =>
      intro i t al hi hm hO hR hQ hal
      refine V.sub ?_ hal
      have hi : i = a 4 := by omega
      subst hi
      refine V_run hB (rt := some .int) (nL := 5) (mc := 0) rfl rfl rfl obX4_plan_11 ?_
      dsimp only [bX4_plan_11, ↓wpb, ↓wp1, ↓vI, ↓vL, ↓vD, ↓ldI, ↓ldL, ↓ldD, ↓ldR, ↓k1, ↓k2, ↓kI, ↓kL, ↓kD, ↓kII, ↓kLL, ↓kDD, ↓kR, ↓kIR, ↓kLR, ↓kIIR, ↓kLIR, ↓kDIR, ↓kRIR, ↓kNN, ↓kE, ↓br, ↓bn, ↓rtI, ↓gfv, ↓zchk, lput, ldel, lbad, alA, acat, isRf, dom, dS, dJ, isO, aTy, aLen, elAV, elR, Nat.reduceBEq, Nat.reduceAdd, Bool.or, Bool.and, Nat.add_zero, Nat.zero_add]
      try simp only [Nat.reduceLT, Nat.reduceLeDiff, Nat.reduceEqDiff, true_and, and_true, and_self, Nat.zero_le, Nat.le_refl, true_or, or_true, Bool.false_eq_true, not_false_eq_true, Nat.reduceAdd, Nat.lt_add_one, Nat.zero_lt_one, nI_add, pk_mul, ixL, vpL, ne_eq, reduceIte, wI_sN, wL_sM, sN_same, sN_K, sN_2, sM_1, sM_same, sM_K, sM_s, uI_at, uN_at, enc_at, uI_enc, uI_uI, upM_s, upM_n, hO.1]
      refine ⟨fun _ => ?_, fun q => absurd (nI_le (by omega) (by omega)) q⟩
      refine V_run hB (rt := some .int) (nL := 5) (mc := 0) rfl rfl rfl obX4_plan_63 ?_
      dsimp only [bX4_plan_63, ↓wpb, ↓wp1, ↓vI, ↓vL, ↓vD, ↓ldI, ↓ldL, ↓ldD, ↓ldR, ↓k1, ↓k2, ↓kI, ↓kL, ↓kD, ↓kII, ↓kLL, ↓kDD, ↓kR, ↓kIR, ↓kLR, ↓kIIR, ↓kLIR, ↓kDIR, ↓kRIR, ↓kNN, ↓kE, ↓br, ↓bn, ↓rtI, ↓gfv, ↓zchk, lput, ldel, lbad, alA, acat, isRf, dom, dS, dJ, isO, aTy, aLen, elAV, elR, Nat.reduceBEq, Nat.reduceAdd, Bool.or, Bool.and, Nat.add_zero, Nat.zero_add]
      try simp only [Nat.reduceLT, Nat.reduceLeDiff, Nat.reduceEqDiff, true_and, and_true, and_self, Nat.zero_le, Nat.le_refl, true_or, or_true, Bool.false_eq_true, not_false_eq_true, Nat.reduceAdd, Nat.lt_add_one, Nat.zero_lt_one, nI_add, pk_mul, ixL, vpL, ne_eq, reduceIte, wI_sN, wL_sM, sN_same, sN_K, sN_2, sM_1, sM_same, sM_K, sM_s, uI_at, uN_at, enc_at, uI_enc, uI_uI, upM_s, upM_n]
      exact ⟨rfl, hm, hO.1, hQ⟩
    | succ w ih =>
      intro i t al hi hm hO hR hQ hal
      refine V.sub ?_ hal
      have ix : (nI i).toNatClampNeg = i := ixL (by omega)
      have vx : vp_in (nI i) 10 = True := vpL (by omega) (by omega)
      have hua := uA_lt a i
      have hU : uA a (i + 1) = match gts a i (uA a i) with
        | none => uA a i
        | some b => uA a i ||| 2 ^ b := rfl
      refine V_run hB (rt := some .int) (nL := 5) (mc := 0) rfl rfl rfl obX4_plan_11 ?_
      dsimp only [bX4_plan_11, ↓wpb, ↓wp1, ↓vI, ↓vL, ↓vD, ↓ldI, ↓ldL, ↓ldD, ↓ldR, ↓k1, ↓k2, ↓kI, ↓kL, ↓kD, ↓kII, ↓kLL, ↓kDD, ↓kR, ↓kIR, ↓kLR, ↓kIIR, ↓kLIR, ↓kDIR, ↓kRIR, ↓kNN, ↓kE, ↓br, ↓bn, ↓rtI, ↓gfv, ↓zchk, lput, ldel, lbad, alA, acat, isRf, dom, dS, dJ, isO, aTy, aLen, elAV, elR, Nat.reduceBEq, Nat.reduceAdd, Bool.or, Bool.and, Nat.add_zero, Nat.zero_add]
      try simp only [Nat.reduceLT, Nat.reduceLeDiff, Nat.reduceEqDiff, true_and, and_true, and_self, Nat.zero_le, Nat.le_refl, true_or, or_true, Bool.false_eq_true, not_false_eq_true, Nat.reduceAdd, Nat.lt_add_one, Nat.zero_lt_one, nI_add, pk_mul, ixL, vpL, ne_eq, reduceIte, wI_sN, wL_sM, sN_same, sN_K, sN_2, sM_1, sM_same, sM_K, sM_s, uI_at, uN_at, enc_at, uI_enc, uI_uI, upM_s, upM_n, hO.1]
      refine ⟨fun q => absurd q (nI_ge (by omega) (by omega)), fun _ => ?_⟩
      refine V_cV hB hno (c_first hc hO hR hb h10 (i := i) (u := uA a i) (by omega) hua) rfl (by decide +kernel) cvX4_67 (dom1 rfl) npX4_firstBestBuyer ⟨by decide, by decide⟩ (Nat.le_of_ble_eq_true rfl) (n' := 0) (by decide) rfl ?_
      have nx : ∀ u al, u = uA a (i + 1) → (∀ z ∈ [(0, evM), (2, aI (nI (bR a (a 4) 0))), (3, aI (nI u)), (4, aI (nI (i + 1)))], lk al z.1 = some z.2) → V x (sN t (24, 0, 0) (uI (t.1 (24, 0, 0)) i (oI (gts a i (uA a i))))) 0 11 al [] := by
        intro u al hu hal
        subst hu
        refine ih (i + 1) _ _ (by omega) (hm.sN _ (by unfold evN; omega)) ⟨by rw [sN_K (by decide)]; exact hO.1, fun i hi b hb => by rw [sN_K (by decide)]; exact hO.2 i hi b hb⟩ (fun i h1 h2 v hv => by rw [sN_K (by decide)]; exact hR i h1 h2 v hv) (fun j hj => ?_) hal
        rw [sN_same]
        simp only [uI]
        by_cases h : j = i
        · subst h; rw [if_pos rfl]; rfl
        · rw [if_neg h]; exact hQ j (by omega)
      refine V_run hB (rt := some .int) (nL := 5) (mc := 0) rfl rfl rfl obX4_plan_33 ?_
      dsimp only [bX4_plan_33, ↓wpb, ↓wp1, ↓vI, ↓vL, ↓vD, ↓ldI, ↓ldL, ↓ldD, ↓ldR, ↓k1, ↓k2, ↓kI, ↓kL, ↓kD, ↓kII, ↓kLL, ↓kDD, ↓kR, ↓kIR, ↓kLR, ↓kIIR, ↓kLIR, ↓kDIR, ↓kRIR, ↓kNN, ↓kE, ↓br, ↓bn, ↓rtI, ↓gfv, ↓zchk, lput, ldel, lbad, alA, acat, isRf, dom, dS, dJ, isO, aTy, aLen, elAV, elR, Nat.reduceBEq, Nat.reduceAdd, Bool.or, Bool.and, Nat.add_zero, Nat.zero_add]
      try simp only [Nat.reduceLT, Nat.reduceLeDiff, Nat.reduceEqDiff, true_and, and_true, and_self, Nat.zero_le, Nat.le_refl, true_or, or_true, Bool.false_eq_true, not_false_eq_true, Nat.reduceAdd, Nat.lt_add_one, Nat.zero_lt_one, nI_add, pk_mul, ixL, vpL, ne_eq, reduceIte, wI_sN, wL_sM, sN_same, sN_K, sN_2, sM_1, sM_same, sM_K, sM_s, uI_at, uN_at, enc_at, uI_enc, uI_uI, upM_s, upM_n, ix, vx]
      cases hg : gts a i (uA a i) with
      | none =>
        rw [hg] at nx hU
        refine ⟨fun _ => ?_, fun q => absurd rfl q⟩
        refine V_run hB (rt := some .int) (nL := 5) (mc := 0) rfl rfl rfl obX4_plan_57 ?_
        dsimp only [bX4_plan_57, ↓wpb, ↓wp1, ↓vI, ↓vL, ↓vD, ↓ldI, ↓ldL, ↓ldD, ↓ldR, ↓k1, ↓k2, ↓kI, ↓kL, ↓kD, ↓kII, ↓kLL, ↓kDD, ↓kR, ↓kIR, ↓kLR, ↓kIIR, ↓kLIR, ↓kDIR, ↓kRIR, ↓kNN, ↓kE, ↓br, ↓bn, ↓rtI, ↓gfv, ↓zchk, lput, ldel, lbad, alA, acat, isRf, dom, dS, dJ, isO, aTy, aLen, elAV, elR, Nat.reduceBEq, Nat.reduceAdd, Bool.or, Bool.and, Nat.add_zero, Nat.zero_add]
        try simp only [Nat.reduceLT, Nat.reduceLeDiff, Nat.reduceEqDiff, true_and, and_true, and_self, Nat.zero_le, Nat.le_refl, true_or, or_true, Bool.false_eq_true, not_false_eq_true, Nat.reduceAdd, Nat.lt_add_one, Nat.zero_lt_one, nI_add, pk_mul, ixL, vpL, ne_eq, reduceIte, wI_sN, wL_sM, sN_same, sN_K, sN_2, sM_1, sM_same, sM_K, sM_s, uI_at, uN_at, enc_at, uI_enc, uI_uI, upM_s, upM_n]
        exact nx _ _ hU.symm (List.forall_mem_cons.mpr ⟨rfl, List.forall_mem_cons.mpr ⟨rfl, List.forall_mem_cons.mpr ⟨rfl, List.forall_mem_cons.mpr ⟨rfl, fun _ h => absurd h List.not_mem_nil⟩⟩⟩⟩)
      | some b =>
        rw [hg] at nx hU
        have hb5 : b < 5 := by have := gt_lt hg; omega
        have s5 := shl5 b hb5
        have o5 := or5 _ hua b hb5
        rw [oI_some] at nx ⊢
        simp only [s5, o5]
        exact ⟨fun q => absurd q (nI_n1 (by omega)), fun _ => nx _ _ hU.symm (List.forall_mem_cons.mpr ⟨rfl, List.forall_mem_cons.mpr ⟨rfl, List.forall_mem_cons.mpr ⟨rfl, List.forall_mem_cons.mpr ⟨rfl, fun _ h => absurd h List.not_mem_nil⟩⟩⟩⟩)⟩
  refine V_run hB (rt := some .int) (nL := 5) (mc := 0) rfl rfl rfl obX4_plan_5 ?_
  dsimp only [bX4_plan_5, ↓wpb, ↓wp1, ↓vI, ↓vL, ↓vD, ↓ldI, ↓ldL, ↓ldD, ↓ldR, ↓k1, ↓k2, ↓kI, ↓kL, ↓kD, ↓kII, ↓kLL, ↓kDD, ↓kR, ↓kIR, ↓kLR, ↓kIIR, ↓kLIR, ↓kDIR, ↓kRIR, ↓kNN, ↓kE, ↓br, ↓bn, ↓rtI, ↓gfv, ↓zchk, lput, ldel, lbad, alA, acat, isRf, dom, dS, dJ, isO, aTy, aLen, elAV, elR, Nat.reduceBEq, Nat.reduceAdd, Bool.or, Bool.and, Nat.add_zero, Nat.zero_add]
  try simp only [Nat.reduceLT, Nat.reduceLeDiff, Nat.reduceEqDiff, true_and, and_true, and_self, Nat.zero_le, Nat.le_refl, true_or, or_true, Bool.false_eq_true, not_false_eq_true, Nat.reduceAdd, Nat.lt_add_one, Nat.zero_lt_one, nI_add, pk_mul, ixL, vpL, ne_eq, reduceIte, wI_sN, wL_sM, sN_same, sN_K, sN_2, sM_1, sM_same, sM_K, sM_s, uI_at, uN_at, enc_at, uI_enc, uI_uI, upM_s, upM_n]
  exact loop (a 4) 0 t0 _ (by omega) hm0 hO0 hR0 (fun j hj => absurd hj (Nat.not_lt_zero _)) (List.forall_mem_cons.mpr ⟨rfl, List.forall_mem_cons.mpr ⟨rfl, List.forall_mem_cons.mpr ⟨rfl, List.forall_mem_cons.mpr ⟨rfl, fun _ h => absurd h List.not_mem_nil⟩⟩⟩⟩)
theorem c_buyerAt (hc : Ctx l G) (hY : ByR τ a) (h10 : a 4 ≤ 10) {i : Nat} (hi : i < a 4) : Sat l G iX4_buyerAt [evM, aI (nI i)] τ (retI (oI (gk a i)) τ) := by
  have ix : (nI i).toNatClampNeg = i := ixL (by omega)
  have vx : vp_in (nI i) 10 = True := vpL (by omega) (by omega)
  have r := hY.2 i hi
  refine Sat_of hc.1 hc.2 (by decide +kernel) (Nat.le_of_ble_eq_true rfl) (fun x hB hno => ?_)
  refine V_run hB (rt := some .int) (nL := 2) (mc := 0) rfl rfl rfl obX4_buyerAt_0 ?_
  dsimp only [bX4_buyerAt_0, ↓wpb, ↓wp1, ↓vI, ↓vL, ↓vD, ↓ldI, ↓ldL, ↓ldD, ↓ldR, ↓k1, ↓k2, ↓kI, ↓kL, ↓kD, ↓kII, ↓kLL, ↓kDD, ↓kR, ↓kIR, ↓kLR, ↓kIIR, ↓kLIR, ↓kDIR, ↓kRIR, ↓kNN, ↓kE, ↓br, ↓bn, ↓rtI, ↓gfv, ↓zchk, lput, ldel, lbad, alA, acat, isRf, dom, dS, dJ, isO, aTy, aLen, elAV, elR, Nat.reduceBEq, Nat.reduceAdd, Bool.or, Bool.and, Nat.add_zero, Nat.zero_add]
  try simp only [Nat.reduceLT, Nat.reduceLeDiff, Nat.reduceEqDiff, true_and, and_true, and_self, Nat.zero_le, Nat.le_refl, true_or, or_true, Bool.false_eq_true, not_false_eq_true, Nat.reduceAdd, Nat.lt_add_one, Nat.zero_lt_one, nI_add, pk_mul, ixL, vpL, ne_eq, reduceIte, wI_sN, wL_sM, sN_same, sN_K, sN_2, sM_1, sM_same, sM_K, sM_s, uI_at, uN_at, enc_at, uI_enc, uI_uI, upM_s, upM_n, hY.1]
  refine ⟨fun q => absurd q (nI_pos (by omega)), fun _ => ⟨fun _ => ?_, fun q => absurd (nI_lt hi (by omega)) q⟩⟩
  refine V_run hB (rt := some .int) (nL := 2) (mc := 0) rfl rfl rfl obX4_buyerAt_16 ?_
  dsimp only [bX4_buyerAt_16, ↓wpb, ↓wp1, ↓vI, ↓vL, ↓vD, ↓ldI, ↓ldL, ↓ldD, ↓ldR, ↓k1, ↓k2, ↓kI, ↓kL, ↓kD, ↓kII, ↓kLL, ↓kDD, ↓kR, ↓kIR, ↓kLR, ↓kIIR, ↓kLIR, ↓kDIR, ↓kRIR, ↓kNN, ↓kE, ↓br, ↓bn, ↓rtI, ↓gfv, ↓zchk, lput, ldel, lbad, alA, acat, isRf, dom, dS, dJ, isO, aTy, aLen, elAV, elR, Nat.reduceBEq, Nat.reduceAdd, Bool.or, Bool.and, Nat.add_zero, Nat.zero_add]
  try simp only [Nat.reduceLT, Nat.reduceLeDiff, Nat.reduceEqDiff, true_and, and_true, and_self, Nat.zero_le, Nat.le_refl, true_or, or_true, Bool.false_eq_true, not_false_eq_true, Nat.reduceAdd, Nat.lt_add_one, Nat.zero_lt_one, nI_add, pk_mul, ixL, vpL, ne_eq, reduceIte, wI_sN, wL_sM, sN_same, sN_K, sN_2, sM_1, sM_same, sM_K, sM_s, uI_at, uN_at, enc_at, uI_enc, uI_uI, upM_s, upM_n, ix, vx, r]
  exact ⟨rfl, rfl⟩
end E1
