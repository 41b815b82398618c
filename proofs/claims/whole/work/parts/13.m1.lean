/-! ===== the reference's methods ===== -/
abbrev aI (x : Int32) : AV := .inl (.int x)
abbrev mM : AV := .inr (30, 0, 0)
def Ctx (l : Launch) (G : GG) : Prop := Gok G ∧ l.stackTraces = false
def retI (x : Int32) (τ : Mem) : AOut → Mem → Prop := fun o τ' => o = .inl (some (aI x)) ∧ τ' = τ
def retV (τ : Mem) : AOut → Mem → Prop := fun o τ' => o = .inl none ∧ τ' = τ
section M1
variable {l : Launch} {G : GG}
theorem q_of (hc : Ctx l G) (τ : Mem) (i w : Int32) : Sat l G iX11_of [aI i, aI w] τ (retI (16 + 12 * i + w) τ) := by
  refine Sat_of hc.1 hc.2 (by decide +kernel) (Nat.le_of_ble_eq_true rfl) (fun x hB hno => ?_)
  refine V_run hB rfl rfl rfl obX11_of_0 ?_
  dsimp only [bX11_of_0, wpb, wp1, vI, vL, vD, ldI, ldL, ldD, ldR, k1, k2, kI, kL, kD, kII, kLL, kDD, kR, kIR, kLR, kIIR, kLIR, kDIR, kRIR, kNN, kE, br, bn, rtI, gfv, zchk, lput, ldel, lbad, alA, acat, isRf, dom, dS, dJ, isO, aTy, aLen, elAV, elR, Nat.reduceBEq, Nat.reduceAdd, Bool.or, Bool.and, Nat.add_zero, Nat.zero_add]
  simp only [Nat.reduceLT, Nat.reduceLeDiff, Nat.reduceEqDiff, true_and, and_true, and_self, Nat.zero_le, Nat.le_refl, true_or, or_true, Bool.false_eq_true, not_false_eq_true, Nat.reduceAdd, Nat.lt_add_one, Nat.zero_lt_one]
  exact ⟨rfl, rfl⟩
theorem q_thrown (hc : Ctx l G) (τ : Mem) : Sat l G iX11_thrown [mM] τ (retI (τ.1 (30, 0, 0) 0) τ) := by
  refine Sat_of hc.1 hc.2 (by decide +kernel) (Nat.le_of_ble_eq_true rfl) (fun x hB hno => ?_)
  refine V_run hB rfl rfl rfl obX11_thrown_0 ?_
  dsimp only [bX11_thrown_0, wpb, wp1, vI, vL, vD, ldI, ldL, ldD, ldR, k1, k2, kI, kL, kD, kII, kLL, kDD, kR, kIR, kLR, kIIR, kLIR, kDIR, kRIR, kNN, kE, br, bn, rtI, gfv, zchk, lput, ldel, lbad, alA, acat, isRf, dom, dS, dJ, isO, aTy, aLen, elAV, elR, Nat.reduceBEq, Nat.reduceAdd, Bool.or, Bool.and, Nat.add_zero, Nat.zero_add]
  simp only [Nat.reduceLT, Nat.reduceLeDiff, Nat.reduceEqDiff, true_and, and_true, and_self, Nat.zero_le, Nat.le_refl, true_or, or_true, Bool.false_eq_true, not_false_eq_true, Nat.reduceAdd, Nat.lt_add_one, Nat.zero_lt_one]
  exact ⟨rfl, rfl⟩
theorem q_fail (hc : Ctx l G) (τ : Mem) (i : Int32) : Sat l G iX11_fail [mM, aI i] τ (retI 0 (wI τ (30, 0, 0) 0 i)) := by
  refine Sat_of hc.1 hc.2 (by decide +kernel) (Nat.le_of_ble_eq_true rfl) (fun x hB hno => ?_)
  refine V_run hB rfl rfl rfl obX11_fail_0 ?_
  dsimp only [bX11_fail_0, wpb, wp1, vI, vL, vD, ldI, ldL, ldD, ldR, k1, k2, kI, kL, kD, kII, kLL, kDD, kR, kIR, kLR, kIIR, kLIR, kDIR, kRIR, kNN, kE, br, bn, rtI, gfv, zchk, lput, ldel, lbad, alA, acat, isRf, dom, dS, dJ, isO, aTy, aLen, elAV, elR, Nat.reduceBEq, Nat.reduceAdd, Bool.or, Bool.and, Nat.add_zero, Nat.zero_add]
  simp only [Nat.reduceLT, Nat.reduceLeDiff, Nat.reduceEqDiff, true_and, and_true, and_self, Nat.zero_le, Nat.le_refl, true_or, or_true, Bool.false_eq_true, not_false_eq_true, Nat.reduceAdd, Nat.lt_add_one, Nat.zero_lt_one]
  exact ⟨rfl, rfl⟩
theorem q_isIn (hc : Ctx l G) (τ : Mem) (a lo hi : Int32) : Sat l G iX11_isIn [aI a, aI lo, aI hi] τ (retI (if lo ≤ a ∧ a ≤ hi then 1 else 0) τ) := by
  refine Sat_of hc.1 hc.2 (by decide +kernel) (Nat.le_of_ble_eq_true rfl) (fun x hB hno => ?_)
  refine V_run hB rfl rfl rfl obX11_isIn_0 ?_
  dsimp only [bX11_isIn_0, wpb, wp1, vI, vL, vD, ldI, ldL, ldD, ldR, k1, k2, kI, kL, kD, kII, kLL, kDD, kR, kIR, kLR, kIIR, kLIR, kDIR, kRIR, kNN, kE, br, bn, rtI, gfv, zchk, lput, ldel, lbad, alA, acat, isRf, dom, dS, dJ, isO, aTy, aLen, elAV, elR, Nat.reduceBEq, Nat.reduceAdd, Bool.or, Bool.and, Nat.add_zero, Nat.zero_add]
  simp only [Nat.reduceLT, Nat.reduceLeDiff, Nat.reduceEqDiff, true_and, and_true, and_self, Nat.zero_le, Nat.le_refl, true_or, or_true, Bool.false_eq_true, not_false_eq_true, Nat.reduceAdd, Nat.lt_add_one, Nat.zero_lt_one]
  have e15 : ∀ v : Int32, (v = 0 ∨ v = 1) → v = (if lo ≤ a ∧ a ≤ hi then 1 else 0) → V x τ 0 15 [(0, aI a), (1, aI lo), (2, aI hi)] [Sum.inl (Value.int v)] := by
    intro v hv he
    refine V_run hB rfl rfl rfl obX11_isIn_15 ?_
    dsimp only [bX11_isIn_15, wpb, wp1, vI, vL, vD, ldI, ldL, ldD, ldR, k1, k2, kI, kL, kD, kII, kLL, kDD, kR, kIR, kLR, kIIR, kLIR, kDIR, kRIR, kNN, kE, br, bn, rtI, gfv, zchk, lput, ldel, lbad, alA, acat, isRf, dom, dS, dJ, isO, aTy, aLen, elAV, elR, Nat.reduceBEq, Nat.reduceAdd, Bool.or, Bool.and, Nat.add_zero, Nat.zero_add]
  simp only [Nat.reduceLT, Nat.reduceLeDiff, Nat.reduceEqDiff, true_and, and_true, and_self, Nat.zero_le, Nat.le_refl, true_or, or_true, Bool.false_eq_true, not_false_eq_true, Nat.reduceAdd, Nat.lt_add_one, Nat.zero_lt_one]
    exact ⟨hv, by rw [he]; rfl⟩
  have e14 : (if lo ≤ a ∧ a ≤ hi then (1 : Int32) else 0) = 0 → V x τ 0 14 [(0, aI a), (1, aI lo), (2, aI hi)] [] := by
    intro he
    refine V_run hB rfl rfl rfl obX11_isIn_14 ?_
    dsimp only [bX11_isIn_14, wpb, wp1, vI, vL, vD, ldI, ldL, ldD, ldR, k1, k2, kI, kL, kD, kII, kLL, kDD, kR, kIR, kLR, kIIR, kLIR, kDIR, kRIR, kNN, kE, br, bn, rtI, gfv, zchk, lput, ldel, lbad, alA, acat, isRf, dom, dS, dJ, isO, aTy, aLen, elAV, elR, Nat.reduceBEq, Nat.reduceAdd, Bool.or, Bool.and, Nat.add_zero, Nat.zero_add]
  simp only [Nat.reduceLT, Nat.reduceLeDiff, Nat.reduceEqDiff, true_and, and_true, and_self, Nat.zero_le, Nat.le_refl, true_or, or_true, Bool.false_eq_true, not_false_eq_true, Nat.reduceAdd, Nat.lt_add_one, Nat.zero_lt_one]
    exact ⟨by rw [he]; rfl, rfl⟩
  refine ⟨fun h => e14 (if_neg fun q => ?_), fun h => ⟨fun h2 => e14 (if_neg fun q => ?_), fun h2 => e15 1 (Or.inr rfl) (if_pos ⟨?_, ?_⟩).symm⟩⟩
  · exact absurd h (Int32.not_lt.mpr q.1)
  · exact absurd h2 (Int32.not_lt.mpr q.2)
  · exact Int32.not_lt.mp h
  · exact Int32.not_lt.mp h2
end M1
