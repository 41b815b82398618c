/-! ===== the class: evenings by trying ===== -/
/-- the best offer of a bidder in the last k items -/
def tpR (a : Nat → Nat) : Nat → Nat → Nat
  | 0, _ => 0
  | k + 1, b => max (tpR a k b) (ofr a (a 4 - (k + 1)) b)
/-- what those who have not bought may bring at most -/
def hpU (a : Nat → Nat) (k u : Nat) : Nat → Nat
  | 0 => 0
  | b + 1 => hpU a k u b + (if u.testBit b = false then tpR a k b else 0)
theorem tpR_le {a : Nat → Nat} (hb : bidOk a) (h10 : a 4 ≤ 10) {b : Nat} (hb5 : b < 5) : ∀ k, k ≤ a 4 → tpR a k b ≤ 999
  | 0, _ => Nat.zero_le _
  | k + 1, h => by
    have h1 := tpR_le hb h10 hb5 k (by omega)
    have h2 := ofr_le hb (show a 4 - (k + 1) < 10 by omega) hb5
    unfold tpR
    omega
theorem hpU_le {a : Nat → Nat} (hb : bidOk a) (h10 : a 4 ≤ 10) {k u : Nat} (hk : k ≤ a 4) : ∀ b, b ≤ 5 → hpU a k u b ≤ 999 * b
  | 0, _ => Nat.zero_le _
  | b + 1, h => by
    have h1 := hpU_le hb h10 (u := u) hk b (by omega)
    have h2 := tpR_le hb h10 (show b < 5 by omega) k hk
    unfold hpU
    split <;> omega
theorem hpU_mono (a : Nat → Nat) (k u : Nat) : ∀ b, hpU a k u b ≤ hpU a (k + 1) u b
  | 0 => Nat.le_refl _
  | b + 1 => by
    have h1 := hpU_mono a k u b
    have h2 : tpR a k b ≤ tpR a (k + 1) b := Nat.le_max_left _ _
    unfold hpU
    split <;> omega
theorem testBit_or {u b c : Nat} : (u ||| 2 ^ b).testBit c = (u.testBit c || decide (b = c)) := by
  rw [Nat.testBit_or, Nat.testBit_two_pow]
theorem hpU_or {a : Nat → Nat} {k u b : Nat} (hu : u.testBit b = false) : ∀ c, hpU a k (u ||| 2 ^ b) c + (if b < c then tpR a k b else 0) = hpU a k u c
  | 0 => by rw [if_neg (by omega)]; rfl
  | c + 1 => by
    have ih := hpU_or hu (a := a) (k := k) c
    unfold hpU
    rw [testBit_or]
    by_cases h : b = c
    · subst h
      rw [if_neg (by omega)] at ih
      rw [if_pos (show b < b + 1 by omega), hu]
      simp only [decide_true, Bool.or_true, Bool.true_eq_false, if_false, if_true]
      omega
    · simp only [decide_eq_false h, Bool.or_false]
      by_cases h2 : b < c
      · rw [if_pos h2] at ih
        rw [if_pos (show b < c + 1 by omega)]
        omega
      · rw [if_neg h2] at ih
        rw [if_neg (show ¬ b < c + 1 by omega)]
        omega
theorem bsU_le {a : Nat → Nat} {i u M : Nat} {F : Nat → Nat} (h0 : F u ≤ M) (h : ∀ b, b < 5 → mg a i b u = true → it a i (7 + b) + F (u ||| 2 ^ b) ≤ M) : ∀ b, b ≤ 5 → bsU a i u F b ≤ M
  | 0, _ => h0
  | b + 1, hb => by
    have h1 := bsU_le h0 h b (by omega)
    unfold bsU
    split
    · rename_i q; exact h b (by omega) q.1
    · exact h1
theorem bR_hope {a : Nat → Nat} : ∀ k, k ≤ a 4 → ∀ u, bR a k u ≤ hpU a k u 5
  | 0, _, u => Nat.zero_le _
  | k + 1, hk, u => by
    show bsU a (a 4 - (k + 1)) u (bR a k) 5 ≤ _
    refine bsU_le ?_ (fun b hb hm => ?_) 5 (Nat.le_refl _)
    · exact Nat.le_trans (bR_hope k (by omega) u) (hpU_mono a k u 5)
    · obtain ⟨m1, m2⟩ := mg_ofr.mp hm
      have h1 := ofr_pos m1
      have h2 := bR_hope (a := a) k (by omega) (u ||| 2 ^ b)
      have h3 := hpU_mono a k (u ||| 2 ^ b) 5
      have h4 := hpU_or (a := a) (k := k + 1) m2 5
      rw [if_pos hb] at h4
      have h5 : ofr a (a 4 - (k + 1)) b ≤ tpR a (k + 1) b := Nat.le_max_right _ _
      omega
/-- the greatest of what was found and of what this item's bidders bring -/
def tyU (a : Nat → Nat) (i u paid best : Nat) (F : Nat → Nat) : Nat → Nat
  | 0 => best
  | b + 1 => if 0 < ofr a i b ∧ u.testBit b = false then max (tyU a i u paid best F b) (paid + ofr a i b + F (u ||| 2 ^ b)) else tyU a i u paid best F b
theorem tyU_bs {a : Nat → Nat} {i u paid best : Nat} {F : Nat → Nat} : ∀ b, max (tyU a i u paid best F b) (paid + F u) = max best (paid + bsU a i u F b)
  | 0 => rfl
  | b + 1 => by
    have ih := tyU_bs (a := a) (i := i) (u := u) (paid := paid) (best := best) (F := F) b
    unfold tyU bsU
    by_cases h : 0 < ofr a i b ∧ u.testBit b = false
    · have hm : mg a i b u = true := mg_ofr.mpr h
      have h1 := ofr_pos h.1
      rw [if_pos h]
      by_cases h2 : bsU a i u F b < it a i (7 + b) + F (u ||| 2 ^ b)
      · rw [if_pos ⟨hm, h2⟩]; omega
      · rw [if_neg (fun z => h2 z.2)]; omega
    · rw [if_neg h, if_neg (fun z => h (mg_ofr.mp z.1))]
      exact ih
/-- the best offers from each item on -/
def ToR (τ : Mem) (a : Nat → Nat) (j : Nat) : Prop := ∀ i, j ≤ i → i ≤ a 4 → ∀ b, b < 5 → τ.1 (23, 0, i) b = nI (tpR a (a 4 - i) b)
section E2
variable {l : Launch} {G : GG} {τ : Mem} {a π : Nat → Nat} {n : Nat}
theorem c_tops (hc : Ctx l G) (hO : OfR τ a) (hb : bidOk a) (h10 : a 4 ≤ 10) : Sat l G iX4_fillTopOffers [evM] τ (voidP (fun τ' => Same evN τ τ' ∧ OfR τ' a ∧ ToR τ' a 0)) := by
  have ixm : (nI (a 4)).toNatClampNeg = a 4 := ixL (by omega)
  have vxm : vp_in (nI (a 4)) 11 = True := vpL (by omega) (by omega)
  refine Sat_of hc.1 hc.2 (by decide +kernel) (Nat.le_of_ble_eq_true rfl) (fun x hB hno => ?_)
  refine V_run hB (rt := none) (nL := 3) (mc := 0) rfl rfl rfl obX4_fillTopOffers_0 ?_
  dsimp only [bX4_fillTopOffers_0, ↓wpb, ↓wp1, ↓vI, ↓vL, ↓vD, ↓ldI, ↓ldL, ↓ldD, ↓ldR, ↓k1, ↓k2, ↓kI, ↓kL, ↓kD, ↓kII, ↓kLL, ↓kDD, ↓kR, ↓kIR, ↓kLR, ↓kIIR, ↓kLIR, ↓kDIR, ↓kRIR, ↓kNN, ↓kE, ↓br, ↓bn, ↓rtI, ↓gfv, ↓zchk, lput, ldel, lbad, alA, acat, isRf, dom, dS, dJ, isO, aTy, aLen, elAV, elR, Nat.reduceBEq, Nat.reduceAdd, Bool.or, Bool.and, Nat.add_zero, Nat.zero_add]
  try simp only [Nat.reduceLT, Nat.reduceLeDiff, Nat.reduceEqDiff, true_and, and_true, and_self, Nat.zero_le, Nat.le_refl, true_or, or_true, Bool.false_eq_true, not_false_eq_true, Nat.reduceAdd, Nat.lt_add_one, Nat.zero_lt_one, nI_add, pk_mul, ixL, vpL, ne_eq, reduceIte, wI_sN, wL_sM, sN_same, sN_K, sN_2, sM_1, sM_same, sM_K, sM_s, uI_at, uN_at, enc_at, uI_enc, uI_uI, upM_s, upM_n, hO.1, ixm, vxm]
  refine V_cSv hB hno (q_fill hc τ (K := 23) (s := 0) (j := a 4) (N := 5) (by decide) (show a 4 < 11 by omega) rfl rfl rfl (by omega) (nI 0)) rfl (by decide +kernel) csX4_53 npJ7_fill_53178 ⟨by decide, by decide⟩ (Nat.le_of_ble_eq_true rfl) (n' := 0) (by decide) rfl ?_
  have hO1 : OfR (sN τ (23, 0, a 4) (flR (τ.1 (23, 0, a 4)) 0 5 (nI 0))) a := ⟨by rw [sN_K (by decide)]; exact hO.1, fun i hi b hb => by rw [sN_K (by decide)]; exact hO.2 i hi b hb⟩
  have hB1 : ToR (sN τ (23, 0, a 4) (flR (τ.1 (23, 0, a 4)) 0 5 (nI 0))) a (a 4) := by
    intro i h1 h2 u hu
    have : i = a 4 := by omega
    subst this
    rw [sN_same, Nat.sub_self]
    unfold flR
    rw [if_pos ⟨Nat.zero_le _, hu⟩]
    rfl
  have hm1 : Same evN τ (sN τ (23, 0, a 4) (flR (τ.1 (23, 0, a 4)) 0 5 (nI 0))) := (Same.refl _ _).sN _ (by unfold evN; omega)
  generalize sN τ (23, 0, a 4) (flR (τ.1 (23, 0, a 4)) 0 5 (nI 0)) = t1 at *
  have es := dI_sub (a 4)
  have outer : ∀ j t al, j ≤ a 4 → Same evN τ t → OfR t a → ToR t a j → (∀ z ∈ [(0, evM), (1, aI (dI j))], lk al z.1 = some z.2) → V x t 0 20 al [] := by
    intro j
    induction j with
    | zero =>
      intro t al hj hm hO hR hal
      refine V.sub ?_ hal
      refine V_run hB (rt := none) (nL := 3) (mc := 0) rfl rfl rfl obX4_fillTopOffers_20 ?_
      dsimp only [bX4_fillTopOffers_20, ↓wpb, ↓wp1, ↓vI, ↓vL, ↓vD, ↓ldI, ↓ldL, ↓ldD, ↓ldR, ↓k1, ↓k2, ↓kI, ↓kL, ↓kD, ↓kII, ↓kLL, ↓kDD, ↓kR, ↓kIR, ↓kLR, ↓kIIR, ↓kLIR, ↓kDIR, ↓kRIR, ↓kNN, ↓kE, ↓br, ↓bn, ↓rtI, ↓gfv, ↓zchk, lput, ldel, lbad, alA, acat, isRf, dom, dS, dJ, isO, aTy, aLen, elAV, elR, Nat.reduceBEq, Nat.reduceAdd, Bool.or, Bool.and, Nat.add_zero, Nat.zero_add]
      try simp only [Nat.reduceLT, Nat.reduceLeDiff, Nat.reduceEqDiff, true_and, and_true, and_self, Nat.zero_le, Nat.le_refl, true_or, or_true, Bool.false_eq_true, not_false_eq_true, Nat.reduceAdd, Nat.lt_add_one, Nat.zero_lt_one, nI_add, pk_mul, ixL, vpL, ne_eq, reduceIte, wI_sN, wL_sM, sN_same, sN_K, sN_2, sM_1, sM_same, sM_K, sM_s, uI_at, uN_at, enc_at, uI_enc, uI_uI, upM_s, upM_n]
      refine ⟨fun _ => ?_, fun q => absurd (by decide) q⟩
      refine V_run hB (rt := none) (nL := 3) (mc := 0) rfl rfl rfl obX4_fillTopOffers_72 ?_
      dsimp only [bX4_fillTopOffers_72, ↓wpb, ↓wp1, ↓vI, ↓vL, ↓vD, ↓ldI, ↓ldL, ↓ldD, ↓ldR, ↓k1, ↓k2, ↓kI, ↓kL, ↓kD, ↓kII, ↓kLL, ↓kDD, ↓kR, ↓kIR, ↓kLR, ↓kIIR, ↓kLIR, ↓kDIR, ↓kRIR, ↓kNN, ↓kE, ↓br, ↓bn, ↓rtI, ↓gfv, ↓zchk, lput, ldel, lbad, alA, acat, isRf, dom, dS, dJ, isO, aTy, aLen, elAV, elR, Nat.reduceBEq, Nat.reduceAdd, Bool.or, Bool.and, Nat.add_zero, Nat.zero_add]
      try simp only [Nat.reduceLT, Nat.reduceLeDiff, Nat.reduceEqDiff, true_and, and_true, and_self, Nat.zero_le, Nat.le_refl, true_or, or_true, Bool.false_eq_true, not_false_eq_true, Nat.reduceAdd, Nat.lt_add_one, Nat.zero_lt_one, nI_add, pk_mul, ixL, vpL, ne_eq, reduceIte, wI_sN, wL_sM, sN_same, sN_K, sN_2, sM_1, sM_same, sM_K, sM_s, uI_at, uN_at, enc_at, uI_enc, uI_uI, upM_s, upM_n]
      exact ⟨rfl, hm, hO, hR⟩
    | succ j ih =>
      intro t al hj hm hO hR hal
      refine V.sub ?_ hal
      have hj10 : j < 10 := by omega
      have hj11 : j < 11 := by omega
      have hj1 : j + 1 < 11 := by omega
      have ix : (nI j).toNatClampNeg = j := ixL (by omega)
      have vx : vp_in (nI j) 11 = True := vpL (by omega) (by omega)
      have vx0 : vp_in (nI j) 10 = True := vpL (by omega) (by omega)
      have ix1 : (nI (j + 1)).toNatClampNeg = j + 1 := ixL (by omega)
      have vx1 : vp_in (nI (j + 1)) 11 = True := vpL (by omega) (by omega)
      rw [show dI (j + 1) = nI j from rfl]
      refine V_run hB (rt := none) (nL := 3) (mc := 0) rfl rfl rfl obX4_fillTopOffers_20 ?_
      dsimp only [bX4_fillTopOffers_20, ↓wpb, ↓wp1, ↓vI, ↓vL, ↓vD, ↓ldI, ↓ldL, ↓ldD, ↓ldR, ↓k1, ↓k2, ↓kI, ↓kL, ↓kD, ↓kII, ↓kLL, ↓kDD, ↓kR, ↓kIR, ↓kLR, ↓kIIR, ↓kLIR, ↓kDIR, ↓kRIR, ↓kNN, ↓kE, ↓br, ↓bn, ↓rtI, ↓gfv, ↓zchk, lput, ldel, lbad, alA, acat, isRf, dom, dS, dJ, isO, aTy, aLen, elAV, elR, Nat.reduceBEq, Nat.reduceAdd, Bool.or, Bool.and, Nat.add_zero, Nat.zero_add]
      try simp only [Nat.reduceLT, Nat.reduceLeDiff, Nat.reduceEqDiff, true_and, and_true, and_self, Nat.zero_le, Nat.le_refl, true_or, or_true, Bool.false_eq_true, not_false_eq_true, Nat.reduceAdd, Nat.lt_add_one, Nat.zero_lt_one, nI_add, pk_mul, ixL, vpL, ne_eq, reduceIte, wI_sN, wL_sM, sN_same, sN_K, sN_2, sM_1, sM_same, sM_K, sM_s, uI_at, uN_at, enc_at, uI_enc, uI_uI, upM_s, upM_n]
      refine ⟨fun q => absurd q (nI_pos (by omega)), fun _ => ?_⟩
      have inner : ∀ w u t al, u + w = 5 → Same evN τ t → OfR t a → ToR t a (j + 1) → (∀ v, v < u → t.1 (23, 0, j) v = nI (tpR a (a 4 - j) v)) → (∀ z ∈ [(0, evM), (1, aI (nI j)), (2, aI (nI u))], lk al z.1 = some z.2) → V x t 0 26 al [] := by
        intro w
        induction w with
        | zero =>
          intro u t al hu hm hO hR hQ hal
          refine V.sub ?_ hal
          have hu : u = 5 := by omega
          subst hu
          refine V_run hB (rt := none) (nL := 3) (mc := 0) rfl rfl rfl obX4_fillTopOffers_26 ?_
          dsimp only [bX4_fillTopOffers_26, ↓wpb, ↓wp1, ↓vI, ↓vL, ↓vD, ↓ldI, ↓ldL, ↓ldD, ↓ldR, ↓k1, ↓k2, ↓kI, ↓kL, ↓kD, ↓kII, ↓kLL, ↓kDD, ↓kR, ↓kIR, ↓kLR, ↓kIIR, ↓kLIR, ↓kDIR, ↓kRIR, ↓kNN, ↓kE, ↓br, ↓bn, ↓rtI, ↓gfv, ↓zchk, lput, ldel, lbad, alA, acat, isRf, dom, dS, dJ, isO, aTy, aLen, elAV, elR, Nat.reduceBEq, Nat.reduceAdd, Bool.or, Bool.and, Nat.add_zero, Nat.zero_add]
          try simp only [Nat.reduceLT, Nat.reduceLeDiff, Nat.reduceEqDiff, true_and, and_true, and_self, Nat.zero_le, Nat.le_refl, true_or, or_true, Bool.false_eq_true, not_false_eq_true, Nat.reduceAdd, Nat.lt_add_one, Nat.zero_lt_one, nI_add, pk_mul, ixL, vpL, ne_eq, reduceIte, wI_sN, wL_sM, sN_same, sN_K, sN_2, sM_1, sM_same, sM_K, sM_s, uI_at, uN_at, enc_at, uI_enc, uI_uI, upM_s, upM_n]
          refine ⟨fun _ => ?_, fun q => absurd (nI_le (by omega) (by omega)) q⟩
          refine V_run hB (rt := none) (nL := 3) (mc := 0) rfl rfl rfl obX4_fillTopOffers_66 ?_
          dsimp only [bX4_fillTopOffers_66, ↓wpb, ↓wp1, ↓vI, ↓vL, ↓vD, ↓ldI, ↓ldL, ↓ldD, ↓ldR, ↓k1, ↓k2, ↓kI, ↓kL, ↓kD, ↓kII, ↓kLL, ↓kDD, ↓kR, ↓kIR, ↓kLR, ↓kIIR, ↓kLIR, ↓kDIR, ↓kRIR, ↓kNN, ↓kE, ↓br, ↓bn, ↓rtI, ↓gfv, ↓zchk, lput, ldel, lbad, alA, acat, isRf, dom, dS, dJ, isO, aTy, aLen, elAV, elR, Nat.reduceBEq, Nat.reduceAdd, Bool.or, Bool.and, Nat.add_zero, Nat.zero_add]
          try simp only [Nat.reduceLT, Nat.reduceLeDiff, Nat.reduceEqDiff, true_and, and_true, and_self, Nat.zero_le, Nat.le_refl, true_or, or_true, Bool.false_eq_true, not_false_eq_true, Nat.reduceAdd, Nat.lt_add_one, Nat.zero_lt_one, nI_add, pk_mul, ixL, vpL, ne_eq, reduceIte, wI_sN, wL_sM, sN_same, sN_K, sN_2, sM_1, sM_same, sM_K, sM_s, uI_at, uN_at, enc_at, uI_enc, uI_uI, upM_s, upM_n]
          rw [dI_dec]
          refine ih t _ (by omega) hm hO (fun i h1 h2 u hu => ?_) (List.forall_mem_cons.mpr ⟨rfl, List.forall_mem_cons.mpr ⟨rfl, fun _ h => absurd h List.not_mem_nil⟩⟩)
          by_cases h : i = j
          · subst h; exact hQ u hu
          · exact hR i (by omega) h2 u hu
        | succ w ih2 =>
          intro u t al hu hm hO hR hQ hal
          refine V.sub ?_ hal
          have hu5 : u < 5 := by omega
          have ixu : (nI u).toNatClampNeg = u := ixL (by omega)
          have vxu : vp_in (nI u) 5 = True := vpL (by omega) (by omega)
          have r1 := hR (j + 1) (Nat.le_refl _) (by omega) u hu5
          have r2 := hO.2 j (by omega) u hu5
          have l1 := tpR_le hb h10 hu5 (a 4 - (j + 1)) (by omega)
          have l2 := ofr_le hb hj10 hu5
          have hbe : tpR a (a 4 - j) u = max (tpR a (a 4 - (j + 1)) u) (ofr a j u) := by
            rw [show a 4 - j = (a 4 - (j + 1)) + 1 by omega]
            show max (tpR a (a 4 - (j + 1)) u) (ofr a (a 4 - (a 4 - (j + 1) + 1)) u) = _
            rw [show a 4 - (a 4 - (j + 1) + 1) = j by omega]
          refine V_run hB (rt := none) (nL := 3) (mc := 0) rfl rfl rfl obX4_fillTopOffers_26 ?_
          dsimp only [bX4_fillTopOffers_26, ↓wpb, ↓wp1, ↓vI, ↓vL, ↓vD, ↓ldI, ↓ldL, ↓ldD, ↓ldR, ↓k1, ↓k2, ↓kI, ↓kL, ↓kD, ↓kII, ↓kLL, ↓kDD, ↓kR, ↓kIR, ↓kLR, ↓kIIR, ↓kLIR, ↓kDIR, ↓kRIR, ↓kNN, ↓kE, ↓br, ↓bn, ↓rtI, ↓gfv, ↓zchk, lput, ldel, lbad, alA, acat, isRf, dom, dS, dJ, isO, aTy, aLen, elAV, elR, Nat.reduceBEq, Nat.reduceAdd, Bool.or, Bool.and, Nat.add_zero, Nat.zero_add]
          try simp only [Nat.reduceLT, Nat.reduceLeDiff, Nat.reduceEqDiff, true_and, and_true, and_self, Nat.zero_le, Nat.le_refl, true_or, or_true, Bool.false_eq_true, not_false_eq_true, Nat.reduceAdd, Nat.lt_add_one, Nat.zero_lt_one, nI_add, pk_mul, ixL, vpL, ne_eq, reduceIte, wI_sN, wL_sM, sN_same, sN_K, sN_2, sM_1, sM_same, sM_K, sM_s, uI_at, uN_at, enc_at, uI_enc, uI_uI, upM_s, upM_n, ix, vx, vx0, hj10, hj1, ix1, vx1, ixu, vxu, r1, r2]
          refine ⟨fun q => absurd q (nI_ge (by omega) (by omega)), fun _ => ?_⟩
          refine V_cS hB hno (q_max hc t (a := tpR a (a 4 - (j + 1)) u) (b := ofr a j u) (by omega) (by omega)) rfl (by decide +kernel) csX4_77 npJ9_max_7cf53 ⟨by decide, by decide⟩ (Nat.le_of_ble_eq_true rfl) (n' := 0) (by decide) rfl ?_
          rw [← hbe]
          refine V_run hB (rt := none) (nL := 3) (mc := 0) rfl rfl rfl obX4_fillTopOffers_59 ?_
          dsimp only [bX4_fillTopOffers_59, ↓wpb, ↓wp1, ↓vI, ↓vL, ↓vD, ↓ldI, ↓ldL, ↓ldD, ↓ldR, ↓k1, ↓k2, ↓kI, ↓kL, ↓kD, ↓kII, ↓kLL, ↓kDD, ↓kR, ↓kIR, ↓kLR, ↓kIIR, ↓kLIR, ↓kDIR, ↓kRIR, ↓kNN, ↓kE, ↓br, ↓bn, ↓rtI, ↓gfv, ↓zchk, lput, ldel, lbad, alA, acat, isRf, dom, dS, dJ, isO, aTy, aLen, elAV, elR, Nat.reduceBEq, Nat.reduceAdd, Bool.or, Bool.and, Nat.add_zero, Nat.zero_add]
          try simp only [Nat.reduceLT, Nat.reduceLeDiff, Nat.reduceEqDiff, true_and, and_true, and_self, Nat.zero_le, Nat.le_refl, true_or, or_true, Bool.false_eq_true, not_false_eq_true, Nat.reduceAdd, Nat.lt_add_one, Nat.zero_lt_one, nI_add, pk_mul, ixL, vpL, ne_eq, reduceIte, wI_sN, wL_sM, sN_same, sN_K, sN_2, sM_1, sM_same, sM_K, sM_s, uI_at, uN_at, enc_at, uI_enc, uI_uI, upM_s, upM_n, ixu, vxu, hj11]
          refine ih2 (u + 1) _ _ (by omega) (hm.sN _ (by unfold evN; omega)) ⟨by rw [sN_K (by decide)]; exact hO.1, fun i hi b hb => by rw [sN_K (by decide)]; exact hO.2 i hi b hb⟩ (fun i h1 h2 v hv => ?_) (fun v hv => ?_) (List.forall_mem_cons.mpr ⟨rfl, List.forall_mem_cons.mpr ⟨rfl, List.forall_mem_cons.mpr ⟨rfl, fun _ h => absurd h List.not_mem_nil⟩⟩⟩)
          · rw [sN_ne (fun z => by injection z with z1 z2; injection z2 with z3 z4; omega)]
            exact hR i h1 h2 v hv
          · rw [sN_same]
            simp only [uI]
            by_cases h : v = u
            · rw [if_pos h, h]
            · rw [if_neg h]; exact hQ v (by omega)
      exact inner 5 0 t _ (by omega) hm hO hR (fun v hv => absurd hv (Nat.not_lt_zero _)) (List.forall_mem_cons.mpr ⟨rfl, List.forall_mem_cons.mpr ⟨rfl, List.forall_mem_cons.mpr ⟨rfl, fun _ h => absurd h List.not_mem_nil⟩⟩⟩)
  refine V_run hB (rt := none) (nL := 3) (mc := 0) rfl rfl rfl obX4_fillTopOffers_13 ?_
  dsimp only [bX4_fillTopOffers_13, ↓wpb, ↓wp1, ↓vI, ↓vL, ↓vD, ↓ldI, ↓ldL, ↓ldD, ↓ldR, ↓k1, ↓k2, ↓kI, ↓kL, ↓kD, ↓kII, ↓kLL, ↓kDD, ↓kR, ↓kIR, ↓kLR, ↓kIIR, ↓kLIR, ↓kDIR, ↓kRIR, ↓kNN, ↓kE, ↓br, ↓bn, ↓rtI, ↓gfv, ↓zchk, lput, ldel, lbad, alA, acat, isRf, dom, dS, dJ, isO, aTy, aLen, elAV, elR, Nat.reduceBEq, Nat.reduceAdd, Bool.or, Bool.and, Nat.add_zero, Nat.zero_add]
  try simp only [Nat.reduceLT, Nat.reduceLeDiff, Nat.reduceEqDiff, true_and, and_true, and_self, Nat.zero_le, Nat.le_refl, true_or, or_true, Bool.false_eq_true, not_false_eq_true, Nat.reduceAdd, Nat.lt_add_one, Nat.zero_lt_one, nI_add, pk_mul, ixL, vpL, ne_eq, reduceIte, wI_sN, wL_sM, sN_same, sN_K, sN_2, sM_1, sM_same, sM_K, sM_s, uI_at, uN_at, enc_at, uI_enc, uI_uI, upM_s, upM_n, hO1.1, es]
  exact outer (a 4) t1 _ (Nat.le_refl _) hm1 hO1 hB1 (List.forall_mem_cons.mpr ⟨rfl, List.forall_mem_cons.mpr ⟨rfl, fun _ h => absurd h List.not_mem_nil⟩⟩)
theorem c_hope (hc : Ctx l G) (hT : ToR τ a 0) (hb : bidOk a) (h10 : a 4 ≤ 10) {i u : Nat} (hi : i ≤ a 4) (hu : u < 32) : Sat l G iX4_hopeFrom [evM, aI (nI i), aI (nI u)] τ (retI (nI (hpU a (a 4 - i) u 5)) τ) := by
  have hi11 : i < 11 := by omega
  have ix : (nI i).toNatClampNeg = i := ixL (by omega)
  have vx : vp_in (nI i) 11 = True := vpL (by omega) (by omega)
  refine Sat_of hc.1 hc.2 (by decide +kernel) (Nat.le_of_ble_eq_true rfl) (fun x hB hno => ?_)
  have head : ∀ w b, b + w = 5 → V x τ 0 5 [(0, evM), (1, aI (nI i)), (2, aI (nI u)), (3, aI (nI (hpU a (a 4 - i) u b))), (4, aI (nI b))] [] := by
    intro w
    induction w with
    | zero =>
      intro b hw
      have hw : b = 5 := by omega
      subst hw
      refine V_run hB (rt := some .int) (nL := 5) (mc := 0) rfl rfl rfl obX4_hopeFrom_5 ?_
      dsimp only [bX4_hopeFrom_5, ↓wpb, ↓wp1, ↓vI, ↓vL, ↓vD, ↓ldI, ↓ldL, ↓ldD, ↓ldR, ↓k1, ↓k2, ↓kI, ↓kL, ↓kD, ↓kII, ↓kLL, ↓kDD, ↓kR, ↓kIR, ↓kLR, ↓kIIR, ↓kLIR, ↓kDIR, ↓kRIR, ↓kNN, ↓kE, ↓br, ↓bn, ↓rtI, ↓gfv, ↓zchk, lput, ldel, lbad, alA, acat, isRf, dom, dS, dJ, isO, aTy, aLen, elAV, elR, Nat.reduceBEq, Nat.reduceAdd, Bool.or, Bool.and, Nat.add_zero, Nat.zero_add]
      try simp only [Nat.reduceLT, Nat.reduceLeDiff, Nat.reduceEqDiff, true_and, and_true, and_self, Nat.zero_le, Nat.le_refl, true_or, or_true, Bool.false_eq_true, not_false_eq_true, Nat.reduceAdd, Nat.lt_add_one, Nat.zero_lt_one, nI_add, pk_mul, ixL, vpL, ne_eq, reduceIte, wI_sN, wL_sM, sN_same, sN_K, sN_2, sM_1, sM_same, sM_K, sM_s, uI_at, uN_at, enc_at, uI_enc, uI_uI, upM_s, upM_n]
      refine ⟨fun _ => ?_, fun q => absurd (nI_le (by omega) (by omega)) q⟩
      refine V_run hB (rt := some .int) (nL := 5) (mc := 0) rfl rfl rfl obX4_hopeFrom_38 ?_
      dsimp only [bX4_hopeFrom_38, ↓wpb, ↓wp1, ↓vI, ↓vL, ↓vD, ↓ldI, ↓ldL, ↓ldD, ↓ldR, ↓k1, ↓k2, ↓kI, ↓kL, ↓kD, ↓kII, ↓kLL, ↓kDD, ↓kR, ↓kIR, ↓kLR, ↓kIIR, ↓kLIR, ↓kDIR, ↓kRIR, ↓kNN, ↓kE, ↓br, ↓bn, ↓rtI, ↓gfv, ↓zchk, lput, ldel, lbad, alA, acat, isRf, dom, dS, dJ, isO, aTy, aLen, elAV, elR, Nat.reduceBEq, Nat.reduceAdd, Bool.or, Bool.and, Nat.add_zero, Nat.zero_add]
      try simp only [Nat.reduceLT, Nat.reduceLeDiff, Nat.reduceEqDiff, true_and, and_true, and_self, Nat.zero_le, Nat.le_refl, true_or, or_true, Bool.false_eq_true, not_false_eq_true, Nat.reduceAdd, Nat.lt_add_one, Nat.zero_lt_one, nI_add, pk_mul, ixL, vpL, ne_eq, reduceIte, wI_sN, wL_sM, sN_same, sN_K, sN_2, sM_1, sM_same, sM_K, sM_s, uI_at, uN_at, enc_at, uI_enc, uI_uI, upM_s, upM_n]
      exact ⟨rfl, rfl⟩
    | succ w ih =>
      intro b hw
      have hb5 : b < 5 := by omega
      have ixb : (nI b).toNatClampNeg = b := ixL (by omega)
      have vxb : vp_in (nI b) 5 = True := vpL (by omega) (by omega)
      have s5 := shl5 b hb5
      have r := hT i (Nat.zero_le _) hi b hb5
      have ih' := ih (b + 1) (by omega)
      have hU : hpU a (a 4 - i) u (b + 1) = hpU a (a 4 - i) u b + (if u.testBit b = false then tpR a (a 4 - i) b else 0) := rfl
      rw [hU] at ih'
      refine V_run hB (rt := some .int) (nL := 5) (mc := 0) rfl rfl rfl obX4_hopeFrom_5 ?_
      dsimp only [bX4_hopeFrom_5, ↓wpb, ↓wp1, ↓vI, ↓vL, ↓vD, ↓ldI, ↓ldL, ↓ldD, ↓ldR, ↓k1, ↓k2, ↓kI, ↓kL, ↓kD, ↓kII, ↓kLL, ↓kDD, ↓kR, ↓kIR, ↓kLR, ↓kIIR, ↓kLIR, ↓kDIR, ↓kRIR, ↓kNN, ↓kE, ↓br, ↓bn, ↓rtI, ↓gfv, ↓zchk, lput, ldel, lbad, alA, acat, isRf, dom, dS, dJ, isO, aTy, aLen, elAV, elR, Nat.reduceBEq, Nat.reduceAdd, Bool.or, Bool.and, Nat.add_zero, Nat.zero_add]
      try simp only [Nat.reduceLT, Nat.reduceLeDiff, Nat.reduceEqDiff, true_and, and_true, and_self, Nat.zero_le, Nat.le_refl, true_or, or_true, Bool.false_eq_true, not_false_eq_true, Nat.reduceAdd, Nat.lt_add_one, Nat.zero_lt_one, nI_add, pk_mul, ixL, vpL, ne_eq, reduceIte, wI_sN, wL_sM, sN_same, sN_K, sN_2, sM_1, sM_same, sM_K, sM_s, uI_at, uN_at, enc_at, uI_enc, uI_uI, upM_s, upM_n, ix, vx, hi11, ixb, vxb, s5, band5 u hu b hb5, r]
      refine ⟨fun q => absurd q (nI_ge (by omega) (by omega)), fun _ => ⟨fun q => ?_, fun q => ?_⟩⟩
      · rw [if_neg q] at ih'
        refine V_run hB (rt := some .int) (nL := 5) (mc := 0) rfl rfl rfl obX4_hopeFrom_32 ?_
        dsimp only [bX4_hopeFrom_32, ↓wpb, ↓wp1, ↓vI, ↓vL, ↓vD, ↓ldI, ↓ldL, ↓ldD, ↓ldR, ↓k1, ↓k2, ↓kI, ↓kL, ↓kD, ↓kII, ↓kLL, ↓kDD, ↓kR, ↓kIR, ↓kLR, ↓kIIR, ↓kLIR, ↓kDIR, ↓kRIR, ↓kNN, ↓kE, ↓br, ↓bn, ↓rtI, ↓gfv, ↓zchk, lput, ldel, lbad, alA, acat, isRf, dom, dS, dJ, isO, aTy, aLen, elAV, elR, Nat.reduceBEq, Nat.reduceAdd, Bool.or, Bool.and, Nat.add_zero, Nat.zero_add]
        try simp only [Nat.reduceLT, Nat.reduceLeDiff, Nat.reduceEqDiff, true_and, and_true, and_self, Nat.zero_le, Nat.le_refl, true_or, or_true, Bool.false_eq_true, not_false_eq_true, Nat.reduceAdd, Nat.lt_add_one, Nat.zero_lt_one, nI_add, pk_mul, ixL, vpL, ne_eq, reduceIte, wI_sN, wL_sM, sN_same, sN_K, sN_2, sM_1, sM_same, sM_K, sM_s, uI_at, uN_at, enc_at, uI_enc, uI_uI, upM_s, upM_n]
        exact ih'
      · rw [if_pos q] at ih'
        exact ih'
  refine V_run hB (rt := some .int) (nL := 5) (mc := 0) rfl rfl rfl obX4_hopeFrom_0 ?_
  dsimp only [bX4_hopeFrom_0, ↓wpb, ↓wp1, ↓vI, ↓vL, ↓vD, ↓ldI, ↓ldL, ↓ldD, ↓ldR, ↓k1, ↓k2, ↓kI, ↓kL, ↓kD, ↓kII, ↓kLL, ↓kDD, ↓kR, ↓kIR, ↓kLR, ↓kIIR, ↓kLIR, ↓kDIR, ↓kRIR, ↓kNN, ↓kE, ↓br, ↓bn, ↓rtI, ↓gfv, ↓zchk, lput, ldel, lbad, alA, acat, isRf, dom, dS, dJ, isO, aTy, aLen, elAV, elR, Nat.reduceBEq, Nat.reduceAdd, Bool.or, Bool.and, Nat.add_zero, Nat.zero_add]
  try simp only [Nat.reduceLT, Nat.reduceLeDiff, Nat.reduceEqDiff, true_and, and_true, and_self, Nat.zero_le, Nat.le_refl, true_or, or_true, Bool.false_eq_true, not_false_eq_true, Nat.reduceAdd, Nat.lt_add_one, Nat.zero_lt_one, nI_add, pk_mul, ixL, vpL, ne_eq, reduceIte, wI_sN, wL_sM, sN_same, sN_K, sN_2, sM_1, sM_same, sM_K, sM_s, uI_at, uN_at, enc_at, uI_enc, uI_uI, upM_s, upM_n]
  exact head 5 0 (by omega)
theorem c_try (hc : Ctx l G) (hO : OfR τ a) (hT : ToR τ a 0) (hb : bidOk a) (h10 : a 4 ≤ 10) : ∀ k d i u paid best, i + k = a 4 → k + 4 ≤ d → d ≤ 16 → u < 32 → paid ≤ 999 * i → best ≤ 99999 → Sat l G (iX4_tryFrom d) [evM, aI (nI i), aI (nI u), aI (nI paid), aI (nI best)] τ (retI (nI (max best (paid + bR a k u))) τ) := by
  intro k
  induction k with
  | zero =>
    intro d i u paid best hi hd hd2 hu hpd hbs
    refine Sat_of hc.1 hc.2 (show plainName yX4_tryFrom.cls = true by decide +kernel) (Nat.le_of_ble_eq_true rfl) (fun x hB hno => ?_)
    refine V_run hB (rt := some .int) (nL := 8) (mc := 0) rfl rfl rfl obX4_tryFrom_0 ?_
    dsimp only [bX4_tryFrom_0, ↓wpb, ↓wp1, ↓vI, ↓vL, ↓vD, ↓ldI, ↓ldL, ↓ldD, ↓ldR, ↓k1, ↓k2, ↓kI, ↓kL, ↓kD, ↓kII, ↓kLL, ↓kDD, ↓kR, ↓kIR, ↓kLR, ↓kIIR, ↓kLIR, ↓kDIR, ↓kRIR, ↓kNN, ↓kE, ↓br, ↓bn, ↓rtI, ↓gfv, ↓zchk, lput, ldel, lbad, alA, acat, isRf, dom, dS, dJ, isO, aTy, aLen, elAV, elR, Nat.reduceBEq, Nat.reduceAdd, Bool.or, Bool.and, Nat.add_zero, Nat.zero_add]
    try simp only [Nat.reduceLT, Nat.reduceLeDiff, Nat.reduceEqDiff, true_and, and_true, and_self, Nat.zero_le, Nat.le_refl, true_or, or_true, Bool.false_eq_true, not_false_eq_true, Nat.reduceAdd, Nat.lt_add_one, Nat.zero_lt_one, nI_add, pk_mul, ixL, vpL, ne_eq, reduceIte, wI_sN, wL_sM, sN_same, sN_K, sN_2, sM_1, sM_same, sM_K, sM_s, uI_at, uN_at, enc_at, uI_enc, uI_uI, upM_s, upM_n, hO.1]
    refine ⟨fun q => absurd q (nI_nlt (by omega) (by omega)), fun _ => ?_⟩
    refine V_cS hB hno (q_max hc τ (a := best) (b := paid) (by omega) (by omega)) rfl (show decode cX4_tryFrom 11 = _ by decide +kernel) csX4_77 npJ9_max_7cf53 ⟨show 3 + 1 ≤ d by omega, by decide⟩ (Nat.le_of_ble_eq_true rfl) (n' := 0) (Nat.le_refl 0) rfl ?_
    refine V_run hB (rt := some .int) (nL := 8) (mc := 0) rfl rfl rfl obX4_tryFrom_14 ?_
    dsimp only [bX4_tryFrom_14, ↓wpb, ↓wp1, ↓vI, ↓vL, ↓vD, ↓ldI, ↓ldL, ↓ldD, ↓ldR, ↓k1, ↓k2, ↓kI, ↓kL, ↓kD, ↓kII, ↓kLL, ↓kDD, ↓kR, ↓kIR, ↓kLR, ↓kIIR, ↓kLIR, ↓kDIR, ↓kRIR, ↓kNN, ↓kE, ↓br, ↓bn, ↓rtI, ↓gfv, ↓zchk, lput, ldel, lbad, alA, acat, isRf, dom, dS, dJ, isO, aTy, aLen, elAV, elR, Nat.reduceBEq, Nat.reduceAdd, Bool.or, Bool.and, Nat.add_zero, Nat.zero_add]
    try simp only [Nat.reduceLT, Nat.reduceLeDiff, Nat.reduceEqDiff, true_and, and_true, and_self, Nat.zero_le, Nat.le_refl, true_or, or_true, Bool.false_eq_true, not_false_eq_true, Nat.reduceAdd, Nat.lt_add_one, Nat.zero_lt_one, nI_add, pk_mul, ixL, vpL, ne_eq, reduceIte, wI_sN, wL_sM, sN_same, sN_K, sN_2, sM_1, sM_same, sM_K, sM_s, uI_at, uN_at, enc_at, uI_enc, uI_uI, upM_s, upM_n]
    exact ⟨rfl, rfl⟩
  | succ k ih =>
    intro d i u paid best hi hd hd2 hu hpd hbs
    have hi10 : i < 10 := by omega
    have ix : (nI i).toNatClampNeg = i := ixL (by omega)
    have vx : vp_in (nI i) 10 = True := vpL (by omega) (by omega)
    have hki : a 4 - i = k + 1 := by omega
    have hpl := hpU_le hb h10 (k := k + 1) (u := u) (by omega) 5 (Nat.le_refl _)
    have hho := bR_hope (a := a) (k + 1) (by omega) u
    have hbk := bR_all hb h10 (k := k) (by omega)
    have hbs0 : bR a (k + 1) u = bsU a i u (bR a k) 5 := by
      show bsU a (a 4 - (k + 1)) u (bR a k) 5 = _
      rw [show a 4 - (k + 1) = i by omega]
    have hty := fun b => tyU_bs (a := a) (i := i) (u := u) (paid := paid) (best := best) (F := bR a k) b
    have hbd := fun b h => bsU_bd hb (u := u) hi10 hbk b h
    refine Sat_of hc.1 hc.2 (show plainName yX4_tryFrom.cls = true by decide +kernel) (Nat.le_of_ble_eq_true rfl) (fun x hB hno => ?_)
    have loop : ∀ w b al, b + w = 5 → (∀ z ∈ [(0, evM), (1, aI (nI i)), (2, aI (nI u)), (3, aI (nI paid)), (5, aI (nI (tyU a i u paid best (bR a k) b))), (6, aI (nI b))], lk al z.1 = some z.2) → V x τ 0 38 al [] := by
      intro w
      induction w with
      | zero =>
        intro b al hw hal
        refine V.sub ?_ hal
        have hw : b = 5 := by omega
        subst hw
        have h1 := hty 5
        have h2 := hbd 5 (Nat.le_refl _)
        have h3 := hbk u
        refine V_run hB (rt := some .int) (nL := 8) (mc := 0) rfl rfl rfl obX4_tryFrom_38 ?_
        dsimp only [bX4_tryFrom_38, ↓wpb, ↓wp1, ↓vI, ↓vL, ↓vD, ↓ldI, ↓ldL, ↓ldD, ↓ldR, ↓k1, ↓k2, ↓kI, ↓kL, ↓kD, ↓kII, ↓kLL, ↓kDD, ↓kR, ↓kIR, ↓kLR, ↓kIIR, ↓kLIR, ↓kDIR, ↓kRIR, ↓kNN, ↓kE, ↓br, ↓bn, ↓rtI, ↓gfv, ↓zchk, lput, ldel, lbad, alA, acat, isRf, dom, dS, dJ, isO, aTy, aLen, elAV, elR, Nat.reduceBEq, Nat.reduceAdd, Bool.or, Bool.and, Nat.add_zero, Nat.zero_add]
        try simp only [Nat.reduceLT, Nat.reduceLeDiff, Nat.reduceEqDiff, true_and, and_true, and_self, Nat.zero_le, Nat.le_refl, true_or, or_true, Bool.false_eq_true, not_false_eq_true, Nat.reduceAdd, Nat.lt_add_one, Nat.zero_lt_one, nI_add, pk_mul, ixL, vpL, ne_eq, reduceIte, wI_sN, wL_sM, sN_same, sN_K, sN_2, sM_1, sM_same, sM_K, sM_s, uI_at, uN_at, enc_at, uI_enc, uI_uI, upM_s, upM_n]
        refine ⟨fun _ => ?_, fun q => absurd (nI_le (by omega) (by omega)) q⟩
        refine V_run hB (rt := some .int) (nL := 8) (mc := 0) rfl rfl rfl obX4_tryFrom_96 ?_
        dsimp only [bX4_tryFrom_96, ↓wpb, ↓wp1, ↓vI, ↓vL, ↓vD, ↓ldI, ↓ldL, ↓ldD, ↓ldR, ↓k1, ↓k2, ↓kI, ↓kL, ↓kD, ↓kII, ↓kLL, ↓kDD, ↓kR, ↓kIR, ↓kLR, ↓kIIR, ↓kLIR, ↓kDIR, ↓kRIR, ↓kNN, ↓kE, ↓br, ↓bn, ↓rtI, ↓gfv, ↓zchk, lput, ldel, lbad, alA, acat, isRf, dom, dS, dJ, isO, aTy, aLen, elAV, elR, Nat.reduceBEq, Nat.reduceAdd, Bool.or, Bool.and, Nat.add_zero, Nat.zero_add]
        try simp only [Nat.reduceLT, Nat.reduceLeDiff, Nat.reduceEqDiff, true_and, and_true, and_self, Nat.zero_le, Nat.le_refl, true_or, or_true, Bool.false_eq_true, not_false_eq_true, Nat.reduceAdd, Nat.lt_add_one, Nat.zero_lt_one, nI_add, pk_mul, ixL, vpL, ne_eq, reduceIte, wI_sN, wL_sM, sN_same, sN_K, sN_2, sM_1, sM_same, sM_K, sM_s, uI_at, uN_at, enc_at, uI_enc, uI_uI, upM_s, upM_n]
        refine V_cS hB hno (ih (d - 1) (i + 1) u paid (tyU a i u paid best (bR a k) 5) (by omega) (by omega) (by omega) hu (by omega) (by omega)) rfl (show decode cX4_tryFrom 104 = _ by decide +kernel) (csX4_73 (d - 1)) (npX4_tryFrom (d - 1)) ⟨show d - 1 + 1 ≤ d by omega, Nat.le_of_ble_eq_true rfl⟩ (Nat.le_of_ble_eq_true rfl) (n' := 0) (Nat.le_refl 0) rfl ?_
        rw [h1, ← hbs0]
        refine V_run hB (rt := some .int) (nL := 8) (mc := 0) rfl rfl rfl obX4_tryFrom_107 ?_
        dsimp only [bX4_tryFrom_107, ↓wpb, ↓wp1, ↓vI, ↓vL, ↓vD, ↓ldI, ↓ldL, ↓ldD, ↓ldR, ↓k1, ↓k2, ↓kI, ↓kL, ↓kD, ↓kII, ↓kLL, ↓kDD, ↓kR, ↓kIR, ↓kLR, ↓kIIR, ↓kLIR, ↓kDIR, ↓kRIR, ↓kNN, ↓kE, ↓br, ↓bn, ↓rtI, ↓gfv, ↓zchk, lput, ldel, lbad, alA, acat, isRf, dom, dS, dJ, isO, aTy, aLen, elAV, elR, Nat.reduceBEq, Nat.reduceAdd, Bool.or, Bool.and, Nat.add_zero, Nat.zero_add]
        try simp only [Nat.reduceLT, Nat.reduceLeDiff, Nat.reduceEqDiff, true_and, and_true, and_self, Nat.zero_le, Nat.le_refl, true_or, or_true, Bool.false_eq_true, not_false_eq_true, Nat.reduceAdd, Nat.lt_add_one, Nat.zero_lt_one, nI_add, pk_mul, ixL, vpL, ne_eq, reduceIte, wI_sN, wL_sM, sN_same, sN_K, sN_2, sM_1, sM_same, sM_K, sM_s, uI_at, uN_at, enc_at, uI_enc, uI_uI, upM_s, upM_n]
        exact ⟨rfl, rfl⟩
      | succ w ihw =>
        intro b al hw hal
        refine V.sub ?_ hal
        have hb5 : b < 5 := by omega
        have ixb : (nI b).toNatClampNeg = b := ixL (by omega)
        have vxb : vp_in (nI b) 5 = True := vpL (by omega) (by omega)
        have r := hO.2 i (by omega) b hb5
        have s5 := shl5 b hb5
        have o5 := or5 u hu b hb5
        have ol := or5_lt u hu b hb5
        have hle := ofr_le hb hi10 hb5
        have h1 := hty b
        have h2 := hbd b (by omega)
        have h3 := hbk u
        have hU : tyU a i u paid best (bR a k) (b + 1) = if 0 < ofr a i b ∧ u.testBit b = false then max (tyU a i u paid best (bR a k) b) (paid + ofr a i b + bR a k (u ||| 2 ^ b)) else tyU a i u paid best (bR a k) b := rfl
        have ih' := fun al => ihw (b + 1) al (by omega)
        rw [hU] at ih'
        have k90 : ∀ al, ¬ (0 < ofr a i b ∧ u.testBit b = false) → (∀ z ∈ [(0, evM), (1, aI (nI i)), (2, aI (nI u)), (3, aI (nI paid)), (5, aI (nI (tyU a i u paid best (bR a k) b))), (6, aI (nI b))], lk al z.1 = some z.2) → V x τ 0 90 al [] := by
          intro al hq hal
          refine V.sub ?_ hal
          rw [if_neg hq] at ih'
          refine V_run hB (rt := some .int) (nL := 8) (mc := 0) rfl rfl rfl obX4_tryFrom_90 ?_
          dsimp only [bX4_tryFrom_90, ↓wpb, ↓wp1, ↓vI, ↓vL, ↓vD, ↓ldI, ↓ldL, ↓ldD, ↓ldR, ↓k1, ↓k2, ↓kI, ↓kL, ↓kD, ↓kII, ↓kLL, ↓kDD, ↓kR, ↓kIR, ↓kLR, ↓kIIR, ↓kLIR, ↓kDIR, ↓kRIR, ↓kNN, ↓kE, ↓br, ↓bn, ↓rtI, ↓gfv, ↓zchk, lput, ldel, lbad, alA, acat, isRf, dom, dS, dJ, isO, aTy, aLen, elAV, elR, Nat.reduceBEq, Nat.reduceAdd, Bool.or, Bool.and, Nat.add_zero, Nat.zero_add]
          try simp only [Nat.reduceLT, Nat.reduceLeDiff, Nat.reduceEqDiff, true_and, and_true, and_self, Nat.zero_le, Nat.le_refl, true_or, or_true, Bool.false_eq_true, not_false_eq_true, Nat.reduceAdd, Nat.lt_add_one, Nat.zero_lt_one, nI_add, pk_mul, ixL, vpL, ne_eq, reduceIte, wI_sN, wL_sM, sN_same, sN_K, sN_2, sM_1, sM_same, sM_K, sM_s, uI_at, uN_at, enc_at, uI_enc, uI_uI, upM_s, upM_n]
          exact ih' _ (List.forall_mem_cons.mpr ⟨rfl, List.forall_mem_cons.mpr ⟨rfl, List.forall_mem_cons.mpr ⟨rfl, List.forall_mem_cons.mpr ⟨rfl, List.forall_mem_cons.mpr ⟨rfl, List.forall_mem_cons.mpr ⟨rfl, fun _ h => absurd h List.not_mem_nil⟩⟩⟩⟩⟩⟩)
        refine V_run hB (rt := some .int) (nL := 8) (mc := 0) rfl rfl rfl obX4_tryFrom_38 ?_
        dsimp only [bX4_tryFrom_38, ↓wpb, ↓wp1, ↓vI, ↓vL, ↓vD, ↓ldI, ↓ldL, ↓ldD, ↓ldR, ↓k1, ↓k2, ↓kI, ↓kL, ↓kD, ↓kII, ↓kLL, ↓kDD, ↓kR, ↓kIR, ↓kLR, ↓kIIR, ↓kLIR, ↓kDIR, ↓kRIR, ↓kNN, ↓kE, ↓br, ↓bn, ↓rtI, ↓gfv, ↓zchk, lput, ldel, lbad, alA, acat, isRf, dom, dS, dJ, isO, aTy, aLen, elAV, elR, Nat.reduceBEq, Nat.reduceAdd, Bool.or, Bool.and, Nat.add_zero, Nat.zero_add]
        try simp only [Nat.reduceLT, Nat.reduceLeDiff, Nat.reduceEqDiff, true_and, and_true, and_self, Nat.zero_le, Nat.le_refl, true_or, or_true, Bool.false_eq_true, not_false_eq_true, Nat.reduceAdd, Nat.lt_add_one, Nat.zero_lt_one, nI_add, pk_mul, ixL, vpL, ne_eq, reduceIte, wI_sN, wL_sM, sN_same, sN_K, sN_2, sM_1, sM_same, sM_K, sM_s, uI_at, uN_at, enc_at, uI_enc, uI_uI, upM_s, upM_n, ix, vx, hi10, ixb, vxb, r, s5, band5 u hu b hb5, o5]
        refine ⟨fun q => absurd q (nI_ge (by omega) (by omega)), fun _ => ⟨fun q => k90 _ (fun z => absurd q (nI_nle z.1 (by omega))) (List.forall_mem_cons.mpr ⟨rfl, List.forall_mem_cons.mpr ⟨rfl, List.forall_mem_cons.mpr ⟨rfl, List.forall_mem_cons.mpr ⟨rfl, List.forall_mem_cons.mpr ⟨rfl, List.forall_mem_cons.mpr ⟨rfl, fun _ h => absurd h List.not_mem_nil⟩⟩⟩⟩⟩⟩), fun q => ⟨fun q2 => k90 _ (fun z => q2 z.2) (List.forall_mem_cons.mpr ⟨rfl, List.forall_mem_cons.mpr ⟨rfl, List.forall_mem_cons.mpr ⟨rfl, List.forall_mem_cons.mpr ⟨rfl, List.forall_mem_cons.mpr ⟨rfl, List.forall_mem_cons.mpr ⟨rfl, fun _ h => absurd h List.not_mem_nil⟩⟩⟩⟩⟩⟩), fun q2 => ?_⟩⟩⟩
        have h0 : 0 < ofr a i b := by
          rcases Nat.eq_zero_or_pos (ofr a i b) with z | z
          · rw [z] at q; exact absurd (by decide) q
          · exact z
        refine V_cS hB hno (ih (d - 1) (i + 1) (u ||| 2 ^ b) (paid + ofr a i b) (tyU a i u paid best (bR a k) b) (by omega) (by omega) (by omega) ol (by omega) (by omega)) rfl (show decode cX4_tryFrom 85 = _ by decide +kernel) (csX4_73 (d - 1)) (npX4_tryFrom (d - 1)) ⟨show d - 1 + 1 ≤ d by omega, Nat.le_of_ble_eq_true rfl⟩ (Nat.le_of_ble_eq_true rfl) (n' := 0) (Nat.le_refl 0) rfl ?_
        rw [if_pos ⟨h0, q2⟩] at ih'
        refine V_run hB (rt := some .int) (nL := 8) (mc := 0) rfl rfl rfl obX4_tryFrom_88 ?_
        dsimp only [bX4_tryFrom_88, ↓wpb, ↓wp1, ↓vI, ↓vL, ↓vD, ↓ldI, ↓ldL, ↓ldD, ↓ldR, ↓k1, ↓k2, ↓kI, ↓kL, ↓kD, ↓kII, ↓kLL, ↓kDD, ↓kR, ↓kIR, ↓kLR, ↓kIIR, ↓kLIR, ↓kDIR, ↓kRIR, ↓kNN, ↓kE, ↓br, ↓bn, ↓rtI, ↓gfv, ↓zchk, lput, ldel, lbad, alA, acat, isRf, dom, dS, dJ, isO, aTy, aLen, elAV, elR, Nat.reduceBEq, Nat.reduceAdd, Bool.or, Bool.and, Nat.add_zero, Nat.zero_add]
        try simp only [Nat.reduceLT, Nat.reduceLeDiff, Nat.reduceEqDiff, true_and, and_true, and_self, Nat.zero_le, Nat.le_refl, true_or, or_true, Bool.false_eq_true, not_false_eq_true, Nat.reduceAdd, Nat.lt_add_one, Nat.zero_lt_one, nI_add, pk_mul, ixL, vpL, ne_eq, reduceIte, wI_sN, wL_sM, sN_same, sN_K, sN_2, sM_1, sM_same, sM_K, sM_s, uI_at, uN_at, enc_at, uI_enc, uI_uI, upM_s, upM_n]
        exact ih' _ (List.forall_mem_cons.mpr ⟨rfl, List.forall_mem_cons.mpr ⟨rfl, List.forall_mem_cons.mpr ⟨rfl, List.forall_mem_cons.mpr ⟨rfl, List.forall_mem_cons.mpr ⟨rfl, List.forall_mem_cons.mpr ⟨rfl, fun _ h => absurd h List.not_mem_nil⟩⟩⟩⟩⟩⟩)
    refine V_run hB (rt := some .int) (nL := 8) (mc := 0) rfl rfl rfl obX4_tryFrom_0 ?_
    dsimp only [bX4_tryFrom_0, ↓wpb, ↓wp1, ↓vI, ↓vL, ↓vD, ↓ldI, ↓ldL, ↓ldD, ↓ldR, ↓k1, ↓k2, ↓kI, ↓kL, ↓kD, ↓kII, ↓kLL, ↓kDD, ↓kR, ↓kIR, ↓kLR, ↓kIIR, ↓kLIR, ↓kDIR, ↓kRIR, ↓kNN, ↓kE, ↓br, ↓bn, ↓rtI, ↓gfv, ↓zchk, lput, ldel, lbad, alA, acat, isRf, dom, dS, dJ, isO, aTy, aLen, elAV, elR, Nat.reduceBEq, Nat.reduceAdd, Bool.or, Bool.and, Nat.add_zero, Nat.zero_add]
    try simp only [Nat.reduceLT, Nat.reduceLeDiff, Nat.reduceEqDiff, true_and, and_true, and_self, Nat.zero_le, Nat.le_refl, true_or, or_true, Bool.false_eq_true, not_false_eq_true, Nat.reduceAdd, Nat.lt_add_one, Nat.zero_lt_one, nI_add, pk_mul, ixL, vpL, ne_eq, reduceIte, wI_sN, wL_sM, sN_same, sN_K, sN_2, sM_1, sM_same, sM_K, sM_s, uI_at, uN_at, enc_at, uI_enc, uI_uI, upM_s, upM_n, hO.1]
    refine ⟨fun _ => ?_, fun q => absurd (nI_lt (by omega) (by omega)) q⟩
    refine V_run hB (rt := some .int) (nL := 8) (mc := 0) rfl rfl rfl obX4_tryFrom_15 ?_
    dsimp only [bX4_tryFrom_15, ↓wpb, ↓wp1, ↓vI, ↓vL, ↓vD, ↓ldI, ↓ldL, ↓ldD, ↓ldR, ↓k1, ↓k2, ↓kI, ↓kL, ↓kD, ↓kII, ↓kLL, ↓kDD, ↓kR, ↓kIR, ↓kLR, ↓kIIR, ↓kLIR, ↓kDIR, ↓kRIR, ↓kNN, ↓kE, ↓br, ↓bn, ↓rtI, ↓gfv, ↓zchk, lput, ldel, lbad, alA, acat, isRf, dom, dS, dJ, isO, aTy, aLen, elAV, elR, Nat.reduceBEq, Nat.reduceAdd, Bool.or, Bool.and, Nat.add_zero, Nat.zero_add]
    try simp only [Nat.reduceLT, Nat.reduceLeDiff, Nat.reduceEqDiff, true_and, and_true, and_self, Nat.zero_le, Nat.le_refl, true_or, or_true, Bool.false_eq_true, not_false_eq_true, Nat.reduceAdd, Nat.lt_add_one, Nat.zero_lt_one, nI_add, pk_mul, ixL, vpL, ne_eq, reduceIte, wI_sN, wL_sM, sN_same, sN_K, sN_2, sM_1, sM_same, sM_K, sM_s, uI_at, uN_at, enc_at, uI_enc, uI_uI, upM_s, upM_n]
    refine V_cV hB hno (c_hope hc hT hb h10 (i := i) (u := u) (by omega) hu) rfl (show decode cX4_tryFrom 19 = _ by decide +kernel) cvX4_82 (dom1 rfl) npX4_hopeFrom ⟨show 3 + 1 ≤ d by omega, by decide⟩ (Nat.le_of_ble_eq_true rfl) (n' := 0) (Nat.le_refl 0) rfl ?_
    rw [hki]
    refine V_run hB (rt := some .int) (nL := 8) (mc := 0) rfl rfl rfl obX4_tryFrom_22 ?_
    dsimp only [bX4_tryFrom_22, ↓wpb, ↓wp1, ↓vI, ↓vL, ↓vD, ↓ldI, ↓ldL, ↓ldD, ↓ldR, ↓k1, ↓k2, ↓kI, ↓kL, ↓kD, ↓kII, ↓kLL, ↓kDD, ↓kR, ↓kIR, ↓kLR, ↓kIIR, ↓kLIR, ↓kDIR, ↓kRIR, ↓kNN, ↓kE, ↓br, ↓bn, ↓rtI, ↓gfv, ↓zchk, lput, ldel, lbad, alA, acat, isRf, dom, dS, dJ, isO, aTy, aLen, elAV, elR, Nat.reduceBEq, Nat.reduceAdd, Bool.or, Bool.and, Nat.add_zero, Nat.zero_add]
    try simp only [Nat.reduceLT, Nat.reduceLeDiff, Nat.reduceEqDiff, true_and, and_true, and_self, Nat.zero_le, Nat.le_refl, true_or, or_true, Bool.false_eq_true, not_false_eq_true, Nat.reduceAdd, Nat.lt_add_one, Nat.zero_lt_one, nI_add, pk_mul, ixL, vpL, ne_eq, reduceIte, wI_sN, wL_sM, sN_same, sN_K, sN_2, sM_1, sM_same, sM_K, sM_s, uI_at, uN_at, enc_at, uI_enc, uI_uI, upM_s, upM_n]
    refine ⟨fun q => ?_, fun q => ?_⟩
    · refine V_run hB (rt := some .int) (nL := 8) (mc := 0) rfl rfl rfl obX4_tryFrom_31 ?_
      dsimp only [bX4_tryFrom_31, ↓wpb, ↓wp1, ↓vI, ↓vL, ↓vD, ↓ldI, ↓ldL, ↓ldD, ↓ldR, ↓k1, ↓k2, ↓kI, ↓kL, ↓kD, ↓kII, ↓kLL, ↓kDD, ↓kR, ↓kIR, ↓kLR, ↓kIIR, ↓kLIR, ↓kDIR, ↓kRIR, ↓kNN, ↓kE, ↓br, ↓bn, ↓rtI, ↓gfv, ↓zchk, lput, ldel, lbad, alA, acat, isRf, dom, dS, dJ, isO, aTy, aLen, elAV, elR, Nat.reduceBEq, Nat.reduceAdd, Bool.or, Bool.and, Nat.add_zero, Nat.zero_add]
      try simp only [Nat.reduceLT, Nat.reduceLeDiff, Nat.reduceEqDiff, true_and, and_true, and_self, Nat.zero_le, Nat.le_refl, true_or, or_true, Bool.false_eq_true, not_false_eq_true, Nat.reduceAdd, Nat.lt_add_one, Nat.zero_lt_one, nI_add, pk_mul, ixL, vpL, ne_eq, reduceIte, wI_sN, wL_sM, sN_same, sN_K, sN_2, sM_1, sM_same, sM_K, sM_s, uI_at, uN_at, enc_at, uI_enc, uI_uI, upM_s, upM_n]
      exact loop 5 0 _ (by omega) (List.forall_mem_cons.mpr ⟨rfl, List.forall_mem_cons.mpr ⟨rfl, List.forall_mem_cons.mpr ⟨rfl, List.forall_mem_cons.mpr ⟨rfl, List.forall_mem_cons.mpr ⟨rfl, List.forall_mem_cons.mpr ⟨rfl, fun _ h => absurd h List.not_mem_nil⟩⟩⟩⟩⟩⟩)
    · have q : paid + hpU a (k + 1) u 5 ≤ best := by
        rcases Nat.lt_or_ge best (paid + hpU a (k + 1) u 5) with z | z
        · exact absurd (nI_lt z (by omega)) q
        · exact z
      rw [Nat.max_eq_left (show paid + bR a (k + 1) u ≤ best by omega)]
      exact ⟨rfl, rfl⟩
theorem c_bestTry (hc : Ctx l G) (hS : ShP τ 0 a π) (hV : IV n a) (hn : n ≤ 1000) : Sat l G iX4_bestSumByTrying [evM, shM] τ (intP (nI (bR a (a 4) 0)) (fun τ' => Same evN τ τ')) := by
  have h10 := hV.1.1
  have hb := hV.bidOk
  refine Sat_of hc.1 hc.2 (by decide +kernel) (Nat.le_of_ble_eq_true rfl) (fun x hB hno => ?_)
  refine V_run hB (rt := some .int) (nL := 2) (mc := 0) rfl rfl rfl obX4_bestSumByTrying_0 ?_
  dsimp only [bX4_bestSumByTrying_0, ↓wpb, ↓wp1, ↓vI, ↓vL, ↓vD, ↓ldI, ↓ldL, ↓ldD, ↓ldR, ↓k1, ↓k2, ↓kI, ↓kL, ↓kD, ↓kII, ↓kLL, ↓kDD, ↓kR, ↓kIR, ↓kLR, ↓kIIR, ↓kLIR, ↓kDIR, ↓kRIR, ↓kNN, ↓kE, ↓br, ↓bn, ↓rtI, ↓gfv, ↓zchk, lput, ldel, lbad, alA, acat, isRf, dom, dS, dJ, isO, aTy, aLen, elAV, elR, Nat.reduceBEq, Nat.reduceAdd, Bool.or, Bool.and, Nat.add_zero, Nat.zero_add]
  try simp only [Nat.reduceLT, Nat.reduceLeDiff, Nat.reduceEqDiff, true_and, and_true, and_self, Nat.zero_le, Nat.le_refl, true_or, or_true, Bool.false_eq_true, not_false_eq_true, Nat.reduceAdd, Nat.lt_add_one, Nat.zero_lt_one, nI_add, pk_mul, ixL, vpL, ne_eq, reduceIte, wI_sN, wL_sM, sN_same, sN_K, sN_2, sM_1, sM_same, sM_K, sM_s, uI_at, uN_at, enc_at, uI_enc, uI_uI, upM_s, upM_n]
  refine V_callV hB hno (c_offers hc hS hV hn) rfl (by decide +kernel) cvX4_49 (dom1 rfl) npX4_collectOffers ⟨by decide, by decide⟩ (Nat.le_of_ble_eq_true rfl) (by decide) ?_ ?_
  rotate_left
  · intro E τ' hq; cases hq.1
  intro v t0 hq
  obtain ⟨e1, hm0, hO0⟩ := hq
  cases e1
  show V x t0 0 5 _ _
  refine V_run hB (rt := some .int) (nL := 2) (mc := 0) rfl rfl rfl obX4_bestSumByTrying_5 ?_
  dsimp only [bX4_bestSumByTrying_5, ↓wpb, ↓wp1, ↓vI, ↓vL, ↓vD, ↓ldI, ↓ldL, ↓ldD, ↓ldR, ↓k1, ↓k2, ↓kI, ↓kL, ↓kD, ↓kII, ↓kLL, ↓kDD, ↓kR, ↓kIR, ↓kLR, ↓kIIR, ↓kLIR, ↓kDIR, ↓kRIR, ↓kNN, ↓kE, ↓br, ↓bn, ↓rtI, ↓gfv, ↓zchk, lput, ldel, lbad, alA, acat, isRf, dom, dS, dJ, isO, aTy, aLen, elAV, elR, Nat.reduceBEq, Nat.reduceAdd, Bool.or, Bool.and, Nat.add_zero, Nat.zero_add]
  try simp only [Nat.reduceLT, Nat.reduceLeDiff, Nat.reduceEqDiff, true_and, and_true, and_self, Nat.zero_le, Nat.le_refl, true_or, or_true, Bool.false_eq_true, not_false_eq_true, Nat.reduceAdd, Nat.lt_add_one, Nat.zero_lt_one, nI_add, pk_mul, ixL, vpL, ne_eq, reduceIte, wI_sN, wL_sM, sN_same, sN_K, sN_2, sM_1, sM_same, sM_K, sM_s, uI_at, uN_at, enc_at, uI_enc, uI_uI, upM_s, upM_n]
  refine V_callV hB hno (c_tops hc hO0 hb h10) rfl (by decide +kernel) cvX4_70 (dom1 rfl) npX4_fillTopOffers ⟨by decide, by decide⟩ (Nat.le_of_ble_eq_true rfl) (by decide) ?_ ?_
  rotate_left
  · intro E τ' hq; cases hq.1
  intro v1 t1 hq
  obtain ⟨e1, hm1, hO1, hT1⟩ := hq
  cases e1
  show V x t1 0 9 _ _
  refine V_run hB (rt := some .int) (nL := 2) (mc := 0) rfl rfl rfl obX4_bestSumByTrying_9 ?_
  dsimp only [bX4_bestSumByTrying_9, ↓wpb, ↓wp1, ↓vI, ↓vL, ↓vD, ↓ldI, ↓ldL, ↓ldD, ↓ldR, ↓k1, ↓k2, ↓kI, ↓kL, ↓kD, ↓kII, ↓kLL, ↓kDD, ↓kR, ↓kIR, ↓kLR, ↓kIIR, ↓kLIR, ↓kDIR, ↓kRIR, ↓kNN, ↓kE, ↓br, ↓bn, ↓rtI, ↓gfv, ↓zchk, lput, ldel, lbad, alA, acat, isRf, dom, dS, dJ, isO, aTy, aLen, elAV, elR, Nat.reduceBEq, Nat.reduceAdd, Bool.or, Bool.and, Nat.add_zero, Nat.zero_add]
  try simp only [Nat.reduceLT, Nat.reduceLeDiff, Nat.reduceEqDiff, true_and, and_true, and_self, Nat.zero_le, Nat.le_refl, true_or, or_true, Bool.false_eq_true, not_false_eq_true, Nat.reduceAdd, Nat.lt_add_one, Nat.zero_lt_one, nI_add, pk_mul, ixL, vpL, ne_eq, reduceIte, wI_sN, wL_sM, sN_same, sN_K, sN_2, sM_1, sM_same, sM_K, sM_s, uI_at, uN_at, enc_at, uI_enc, uI_uI, upM_s, upM_n]
  refine V_cS hB hno (c_try hc hO1 hT1 hb h10 (a 4) 16 0 0 0 0 (by omega) (by omega) (Nat.le_refl _) (by omega) (by omega) (by omega)) rfl (by decide +kernel) (csX4_73 16) (npX4_tryFrom 16) ⟨by decide, by decide⟩ (Nat.le_of_ble_eq_true rfl) (n' := 0) (by decide) rfl ?_
  rw [Nat.zero_add, Nat.max_eq_right (Nat.zero_le _)]
  refine V_run hB (rt := some .int) (nL := 2) (mc := 0) rfl rfl rfl obX4_bestSumByTrying_17 ?_
  dsimp only [bX4_bestSumByTrying_17, ↓wpb, ↓wp1, ↓vI, ↓vL, ↓vD, ↓ldI, ↓ldL, ↓ldD, ↓ldR, ↓k1, ↓k2, ↓kI, ↓kL, ↓kD, ↓kII, ↓kLL, ↓kDD, ↓kR, ↓kIR, ↓kLR, ↓kIIR, ↓kLIR, ↓kDIR, ↓kRIR, ↓kNN, ↓kE, ↓br, ↓bn, ↓rtI, ↓gfv, ↓zchk, lput, ldel, lbad, alA, acat, isRf, dom, dS, dJ, isO, aTy, aLen, elAV, elR, Nat.reduceBEq, Nat.reduceAdd, Bool.or, Bool.and, Nat.add_zero, Nat.zero_add]
  try simp only [Nat.reduceLT, Nat.reduceLeDiff, Nat.reduceEqDiff, true_and, and_true, and_self, Nat.zero_le, Nat.le_refl, true_or, or_true, Bool.false_eq_true, not_false_eq_true, Nat.reduceAdd, Nat.lt_add_one, Nat.zero_lt_one, nI_add, pk_mul, ixL, vpL, ne_eq, reduceIte, wI_sN, wL_sM, sN_same, sN_K, sN_2, sM_1, sM_same, sM_K, sM_s, uI_at, uN_at, enc_at, uI_enc, uI_uI, upM_s, upM_n]
  exact ⟨rfl, hm0.trans hm1⟩
end E2
