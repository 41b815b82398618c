/-! ===== the class: its calendar, accounts, items ===== -/
abbrev IAE : String := "java/lang/IllegalArgumentException"
abbrev ISE : String := "java/lang/IllegalStateException"
abbrev UOE : String := "java/lang/UnsupportedOperationException"
abbrev NSE : String := "java/util/NoSuchElementException"
abbrev IOE : String := "java/lang/IndexOutOfBoundsException"
abbrev ARE : String := "java/lang/ArithmeticException"
def ansB (b : Bool) (E : String) (v : AV) (τ1 τ : Mem) : AOut → Mem → Prop := match b with
  | true => retA v τ1
  | false => thr E τ
def ansO (o : Option AV) (E : String) (τ : Mem) : AOut → Mem → Prop := match o with
  | some v => retA v τ
  | none => thr E τ
theorem inR_0 {p : Int32} {h : Nat} (hh : h + 1 < 2147483648) : inR p 0 h = true ↔ ¬ p < 0 ∧ ¬ nI (h + 1) ≤ p := by
  refine ⟨fun q => ?_, fun ⟨q1, q2⟩ => ?_⟩
  · obtain ⟨k, rfl, k1, k2⟩ := inR_N q (Nat.zero_le _) (by omega)
    exact ⟨nI_pos (by omega), nI_ge (by omega) (by omega)⟩
  · obtain ⟨k, k1, rfl⟩ := nI_of q1
    unfold inR
    rw [decide_eq_true_eq, nI_leI (by omega) k1, nI_leI k1 (by omega)]
    rw [nI_leI (by omega) k1] at q2
    omega
theorem inR_1 {p : Int32} {lo h : Nat} : inR p lo h = true ↔ ¬ p < nI lo ∧ p ≤ nI h := by
  unfold inR
  rw [decide_eq_true_eq, Int32.not_lt]
theorem bool_f {b : Bool} (h : ¬ b = true) : b = false := by simpa using h
def CaR (τ : Mem) (s : Nat) (a : Nat → Nat) : Prop := τ.1 (3, s, 0) 0 = nI (a 0) ∧ ∀ w, w < 7 → τ.1 (11, s, 0) w = nI (a (9 + w))
def AcR (τ : Mem) (s : Nat) (a : Nat → Nat) : Prop := (τ.1 (4, s, 0) 0 = nI (a 2) ∧ τ.1 (4, s, 0) 6 = nI (a 5) ∧ τ.1 (4, s, 0) 7 = nI (a 6) ∧ τ.1 (4, s, 0) 8 = nI (a 7)) ∧ τ.2.1 (4, s, 0) 5 = (nI (a 8)).toInt64 ∧
  nI 2000 - τ.1 (4, s, 0) 1 + τ.1 (4, s, 0) 2 + τ.1 (4, s, 0) 3 + τ.1 (4, s, 0) 4 = nI (a 2)
/-- an item: its fields, a lot's bids -/
def I1 (f b : Nat → Int32) (t : Nat → Nat) : Prop := (f 0 = nI (t 0) ∧ f 1 = nI (t 2) ∧ f 2 = nI (t 3) ∧ f 3 = nI (t 4) ∧ f 4 = nI (t 5) ∧ f 5 = nI (t 6) ∧ f 6 = nI (t 1)) ∧ (t 1 = 1 → ∀ c, c < 5 → b c = nI (t (7 + c)))
theorem cpy_in {f g : Nat → Int32} {N k : Nat} (h : k < N) : va_cpy f g 0 0 N k = f k := by
  unfold va_cpy
  rw [if_pos (by omega), Nat.zero_add, Nat.sub_zero]
section C1
variable {l : Launch} {G : GG}
theorem c_caCopy (hc : Ctx l G) (τ : Mem) {s s' : Nat} (hs : s < 11) (hs' : s' < 11) : Sat l G iX2_copyFrom [.inr (3, s, 0), .inr (3, s', 0)] τ (retV (sN (sN τ (3, s, 0) (uI (τ.1 (3, s, 0)) 0 (τ.1 (3, s', 0) 0))) (11, s, 0) (va_cpy (τ.1 (11, s', 0)) (τ.1 (11, s, 0)) 0 0 7))) := by
  refine Sat_of hc.1 hc.2 (by decide +kernel) (Nat.le_of_ble_eq_true rfl) (fun x hB hno => ?_)
  refine V_run hB (rt := none) (nL := 2) (mc := 0) rfl rfl rfl obX2_copyFrom_0 ?_
  dsimp only [bX2_copyFrom_0, ↓wpb, ↓wp1, ↓vI, ↓vL, ↓vD, ↓ldI, ↓ldL, ↓ldD, ↓ldR, ↓k1, ↓k2, ↓kI, ↓kL, ↓kD, ↓kII, ↓kLL, ↓kDD, ↓kR, ↓kIR, ↓kLR, ↓kIIR, ↓kLIR, ↓kDIR, ↓kRIR, ↓kNN, ↓kE, ↓br, ↓bn, ↓rtI, ↓gfv, ↓zchk, lput, ldel, lbad, alA, acat, isRf, dom, dS, dJ, isO, aTy, aLen, elAV, elR, Nat.reduceBEq, Nat.reduceAdd, Bool.or, Bool.and, Nat.add_zero, Nat.zero_add]
  try simp only [Nat.reduceLT, Nat.reduceLeDiff, Nat.reduceEqDiff, true_and, and_true, and_self, Nat.zero_le, Nat.le_refl, true_or, or_true, Bool.false_eq_true, not_false_eq_true, Nat.reduceAdd, Nat.lt_add_one, Nat.zero_lt_one, nI_add, pk_mul, ixL, vpL, ne_eq, reduceIte, wI_sN, wL_sM, sN_same, sN_K, sN_2, sM_1, sM_same, sM_K, sM_s, uI_at, uN_at, enc_at, uI_enc, uI_uI, upM_s, upM_n, hs, hs']
  refine s_copyI hB (K := 11) (s' := s') (j := 0) (s2 := s) (j2 := 0) (N := 7) (idx := 25) (TBg_at 556 (by decide +kernel)) (TBg_at 558 (by decide +kernel)) (TBg_at 557 (by decide +kernel)) (TBg_at 77 (by decide +kernel)) (by decide +kernel) ⟨hs', (by decide : (0 : Nat) < 1)⟩ ⟨hs, (by decide : (0 : Nat) < 1)⟩ rfl rfl rfl (by omega) (by decide) ?_
  refine V_run hB (rt := none) (nL := 2) (mc := 0) rfl rfl rfl obX2_copyFrom_23 ?_
  dsimp only [bX2_copyFrom_23, ↓wpb, ↓wp1, ↓vI, ↓vL, ↓vD, ↓ldI, ↓ldL, ↓ldD, ↓ldR, ↓k1, ↓k2, ↓kI, ↓kL, ↓kD, ↓kII, ↓kLL, ↓kDD, ↓kR, ↓kIR, ↓kLR, ↓kIIR, ↓kLIR, ↓kDIR, ↓kRIR, ↓kNN, ↓kE, ↓br, ↓bn, ↓rtI, ↓gfv, ↓zchk, lput, ldel, lbad, alA, acat, isRf, dom, dS, dJ, isO, aTy, aLen, elAV, elR, Nat.reduceBEq, Nat.reduceAdd, Bool.or, Bool.and, Nat.add_zero, Nat.zero_add]
  try simp only [Nat.reduceLT, Nat.reduceLeDiff, Nat.reduceEqDiff, true_and, and_true, and_self, Nat.zero_le, Nat.le_refl, true_or, or_true, Bool.false_eq_true, not_false_eq_true, Nat.reduceAdd, Nat.lt_add_one, Nat.zero_lt_one, nI_add, pk_mul, ixL, vpL, ne_eq, reduceIte, wI_sN, wL_sM, sN_same, sN_K, sN_2, sM_1, sM_same, sM_K, sM_s, uI_at, uN_at, enc_at, uI_enc, uI_uI, upM_s, upM_n]
  exact ⟨rfl, rfl⟩
theorem c_changeRate (hc : Ctx l G) (τ : Mem) (w r : Int32) : Sat l G iX2_changeRate [.inr (3, 0, 0), aI w, aI r] τ (ansB (inR w 0 6 && inR r 0 9) IAE (aI (τ.1 (11, 0, 0) w.toNatClampNeg)) (sN τ (11, 0, 0) (uI (τ.1 (11, 0, 0)) w.toNatClampNeg r)) τ) := by
  have hz0 := inR_0 (p := w) (h := 6) (by omega)
  have hz1 := inR_0 (p := r) (h := 9) (by omega)
  have hz2 := inR_1 (p := r) (lo := 0) (h := 9)
  refine Sat_of hc.1 hc.2 (by decide +kernel) (Nat.le_of_ble_eq_true rfl) (fun x hB hno => ?_)
  have e20 : (inR w 0 6 && inR r 0 9) = false → V x τ 0 20 [(0, .inr (3, 0, 0)), (1, aI w), (2, aI r)] [] := by
    intro hq
    rw [hq] at hB
    refine V_throw hB hno thX2_33_35 ⟨by decide +kernel, by decide +kernel, by decide +kernel, by decide +kernel, by decide +kernel⟩ (by decide) (Nat.le_of_ble_eq_true rfl) ?_
    exact ⟨rfl, rfl⟩
  refine V_run hB (rt := some .int) (nL := 4) (mc := 1) rfl rfl rfl obX2_changeRate_0 ?_
  dsimp only [bX2_changeRate_0, ↓wpb, ↓wp1, ↓vI, ↓vL, ↓vD, ↓ldI, ↓ldL, ↓ldD, ↓ldR, ↓k1, ↓k2, ↓kI, ↓kL, ↓kD, ↓kII, ↓kLL, ↓kDD, ↓kR, ↓kIR, ↓kLR, ↓kIIR, ↓kLIR, ↓kDIR, ↓kRIR, ↓kNN, ↓kE, ↓br, ↓bn, ↓rtI, ↓gfv, ↓zchk, lput, ldel, lbad, alA, acat, isRf, dom, dS, dJ, isO, aTy, aLen, elAV, elR, Nat.reduceBEq, Nat.reduceAdd, Bool.or, Bool.and, Nat.add_zero, Nat.zero_add]
  try simp only [Nat.reduceLT, Nat.reduceLeDiff, Nat.reduceEqDiff, true_and, and_true, and_self, Nat.zero_le, Nat.le_refl, true_or, or_true, Bool.false_eq_true, not_false_eq_true, Nat.reduceAdd, Nat.lt_add_one, Nat.zero_lt_one, nI_add, pk_mul, ixL, vpL, ne_eq, reduceIte, wI_sN, wL_sM, sN_same, sN_K, sN_2, sM_1, sM_same, sM_K, sM_s, uI_at, uN_at, enc_at, uI_enc, uI_uI, upM_s, upM_n]
  have hf0 : ¬ inR w 0 6 = true → (inR w 0 6 && inR r 0 9) = false := fun q => by rw [bool_f q]; rfl
  have hf1 : ¬ inR r 0 9 = true → (inR w 0 6 && inR r 0 9) = false := fun q => by rw [bool_f q, Bool.and_false]
  refine ⟨fun q => e20 (hf0 (fun z => (hz0.mp z).1 q)), fun q1 => ⟨fun q => e20 (hf0 (fun z => (hz0.mp z).2 q)), fun q2 => ⟨fun q => e20 (hf1 (fun z => (hz1.mp z).1 q)), fun q3 => ⟨fun q => ?_, fun q => e20 (hf1 (fun z => q (hz2.mp z).2))⟩⟩⟩⟩
  have h0 : inR w 0 6 = true := hz0.mpr ⟨q1, q2⟩
  have h1 : inR r 0 9 = true := hz2.mpr ⟨q3, q⟩
  rw [h0, h1] at hB
  obtain ⟨k, rfl, -, k2⟩ := inR_N h0 (by omega) (by omega)
  have vx : vp_in (nI k) 7 = True := vpL (by omega) (by omega)
  refine V_run hB (rt := some .int) (nL := 4) (mc := 1) rfl rfl rfl obX2_changeRate_30 ?_
  dsimp only [bX2_changeRate_30, ↓wpb, ↓wp1, ↓vI, ↓vL, ↓vD, ↓ldI, ↓ldL, ↓ldD, ↓ldR, ↓k1, ↓k2, ↓kI, ↓kL, ↓kD, ↓kII, ↓kLL, ↓kDD, ↓kR, ↓kIR, ↓kLR, ↓kIIR, ↓kLIR, ↓kDIR, ↓kRIR, ↓kNN, ↓kE, ↓br, ↓bn, ↓rtI, ↓gfv, ↓zchk, lput, ldel, lbad, alA, acat, isRf, dom, dS, dJ, isO, aTy, aLen, elAV, elR, Nat.reduceBEq, Nat.reduceAdd, Bool.or, Bool.and, Nat.add_zero, Nat.zero_add]
  try simp only [Nat.reduceLT, Nat.reduceLeDiff, Nat.reduceEqDiff, true_and, and_true, and_self, Nat.zero_le, Nat.le_refl, true_or, or_true, Bool.false_eq_true, not_false_eq_true, Nat.reduceAdd, Nat.lt_add_one, Nat.zero_lt_one, nI_add, pk_mul, ixL, vpL, ne_eq, reduceIte, wI_sN, wL_sM, sN_same, sN_K, sN_2, sM_1, sM_same, sM_K, sM_s, uI_at, uN_at, enc_at, uI_enc, uI_uI, upM_s, upM_n, vx]
  exact ⟨rfl, rfl⟩
theorem c_sumByDays (hc : Ctx l G) {τ : Mem} {a : Nat → Nat} (hC : CaR τ 0 a) {f d : Nat} (hf : f < 1000000) (hd : d < 1000000) : Sat l G iX2_sumByDays [.inr (3, 0, 0), aI (nI f), aI (nI d)] τ (retI (nI (rsU a f (d - f))) τ) := by
  refine Sat_of hc.1 hc.2 (by decide +kernel) (Nat.le_of_ble_eq_true rfl) (fun x hB hno => ?_)
  have head : ∀ k c, c + k = d - f → V x τ 0 7 [(0, .inr (3, 0, 0)), (1, aI (nI f)), (2, aI (nI d)), (3, aI (nI (rsU a f c))), (4, aI (nI (f + 1 + c)))] [] := by
    intro k
    induction k with
    | zero =>
      intro c hk
      have hk : c = d - f := by omega
      subst hk
      refine V_run hB (rt := some .int) (nL := 5) (mc := 0) rfl rfl rfl obX2_sumByDays_7 ?_
      dsimp only [bX2_sumByDays_7, ↓wpb, ↓wp1, ↓vI, ↓vL, ↓vD, ↓ldI, ↓ldL, ↓ldD, ↓ldR, ↓k1, ↓k2, ↓kI, ↓kL, ↓kD, ↓kII, ↓kLL, ↓kDD, ↓kR, ↓kIR, ↓kLR, ↓kIIR, ↓kLIR, ↓kDIR, ↓kRIR, ↓kNN, ↓kE, ↓br, ↓bn, ↓rtI, ↓gfv, ↓zchk, lput, ldel, lbad, alA, acat, isRf, dom, dS, dJ, isO, aTy, aLen, elAV, elR, Nat.reduceBEq, Nat.reduceAdd, Bool.or, Bool.and, Nat.add_zero, Nat.zero_add]
      try simp only [Nat.reduceLT, Nat.reduceLeDiff, Nat.reduceEqDiff, true_and, and_true, and_self, Nat.zero_le, Nat.le_refl, true_or, or_true, Bool.false_eq_true, not_false_eq_true, Nat.reduceAdd, Nat.lt_add_one, Nat.zero_lt_one, nI_add, pk_mul, ixL, vpL, ne_eq, reduceIte, wI_sN, wL_sM, sN_same, sN_K, sN_2, sM_1, sM_same, sM_K, sM_s, uI_at, uN_at, enc_at, uI_enc, uI_uI, upM_s, upM_n]
      refine ⟨fun _ => ?_, fun q => absurd (nI_lt (by omega) (by omega)) q⟩
      refine V_run hB (rt := some .int) (nL := 5) (mc := 0) rfl rfl rfl obX2_sumByDays_34 ?_
      dsimp only [bX2_sumByDays_34, ↓wpb, ↓wp1, ↓vI, ↓vL, ↓vD, ↓ldI, ↓ldL, ↓ldD, ↓ldR, ↓k1, ↓k2, ↓kI, ↓kL, ↓kD, ↓kII, ↓kLL, ↓kDD, ↓kR, ↓kIR, ↓kLR, ↓kIIR, ↓kLIR, ↓kDIR, ↓kRIR, ↓kNN, ↓kE, ↓br, ↓bn, ↓rtI, ↓gfv, ↓zchk, lput, ldel, lbad, alA, acat, isRf, dom, dS, dJ, isO, aTy, aLen, elAV, elR, Nat.reduceBEq, Nat.reduceAdd, Bool.or, Bool.and, Nat.add_zero, Nat.zero_add]
      try simp only [Nat.reduceLT, Nat.reduceLeDiff, Nat.reduceEqDiff, true_and, and_true, and_self, Nat.zero_le, Nat.le_refl, true_or, or_true, Bool.false_eq_true, not_false_eq_true, Nat.reduceAdd, Nat.lt_add_one, Nat.zero_lt_one, nI_add, pk_mul, ixL, vpL, ne_eq, reduceIte, wI_sN, wL_sM, sN_same, sN_K, sN_2, sM_1, sM_same, sM_K, sM_s, uI_at, uN_at, enc_at, uI_enc, uI_uI, upM_s, upM_n]
      exact ⟨rfl, rfl⟩
    | succ k ih =>
      intro c hk
      have e7 : (f + 1 + c) % 7 < 7 := Nat.mod_lt _ (by omega)
      have ix : (nI ((f + 1 + c) % 7)).toNatClampNeg = (f + 1 + c) % 7 := ixL (by omega)
      have vx : vp_in (nI ((f + 1 + c) % 7)) 7 = True := vpL (by omega) (by omega)
      have r := hC.2 _ e7
      have ih' := ih (c + 1) (by omega)
      have hu : rsU a f (c + 1) = rsU a f c + a (9 + (f + 1 + c) % 7) := rfl
      rw [hu] at ih'
      refine V_run hB (rt := some .int) (nL := 5) (mc := 0) rfl rfl rfl obX2_sumByDays_7 ?_
      dsimp only [bX2_sumByDays_7, ↓wpb, ↓wp1, ↓vI, ↓vL, ↓vD, ↓ldI, ↓ldL, ↓ldD, ↓ldR, ↓k1, ↓k2, ↓kI, ↓kL, ↓kD, ↓kII, ↓kLL, ↓kDD, ↓kR, ↓kIR, ↓kLR, ↓kIIR, ↓kLIR, ↓kDIR, ↓kRIR, ↓kNN, ↓kE, ↓br, ↓bn, ↓rtI, ↓gfv, ↓zchk, lput, ldel, lbad, alA, acat, isRf, dom, dS, dJ, isO, aTy, aLen, elAV, elR, Nat.reduceBEq, Nat.reduceAdd, Bool.or, Bool.and, Nat.add_zero, Nat.zero_add]
      try simp only [Nat.reduceLT, Nat.reduceLeDiff, Nat.reduceEqDiff, true_and, and_true, and_self, Nat.zero_le, Nat.le_refl, true_or, or_true, Bool.false_eq_true, not_false_eq_true, Nat.reduceAdd, Nat.lt_add_one, Nat.zero_lt_one, nI_add, pk_mul, ixL, vpL, ne_eq, reduceIte, wI_sN, wL_sM, sN_same, sN_K, sN_2, sM_1, sM_same, sM_K, sM_s, uI_at, uN_at, enc_at, uI_enc, uI_uI, upM_s, upM_n]
      refine ⟨fun q => absurd q (nI_nlt (by omega) (by omega)), fun _ => ?_⟩
      refine V_cS hB hno (q_floorMod hc τ (a := f + 1 + c) (m := 7) (by omega) (by omega) (by omega)) rfl (by decide +kernel) csX2_38 npJ9_floorMod_7cf53 ⟨by decide, by decide⟩ (Nat.le_of_ble_eq_true rfl) (n' := 0) (by decide) rfl ?_
      refine V_run hB (rt := some .int) (nL := 5) (mc := 0) rfl rfl rfl obX2_sumByDays_25 ?_
      dsimp only [bX2_sumByDays_25, ↓wpb, ↓wp1, ↓vI, ↓vL, ↓vD, ↓ldI, ↓ldL, ↓ldD, ↓ldR, ↓k1, ↓k2, ↓kI, ↓kL, ↓kD, ↓kII, ↓kLL, ↓kDD, ↓kR, ↓kIR, ↓kLR, ↓kIIR, ↓kLIR, ↓kDIR, ↓kRIR, ↓kNN, ↓kE, ↓br, ↓bn, ↓rtI, ↓gfv, ↓zchk, lput, ldel, lbad, alA, acat, isRf, dom, dS, dJ, isO, aTy, aLen, elAV, elR, Nat.reduceBEq, Nat.reduceAdd, Bool.or, Bool.and, Nat.add_zero, Nat.zero_add]
      try simp only [Nat.reduceLT, Nat.reduceLeDiff, Nat.reduceEqDiff, true_and, and_true, and_self, Nat.zero_le, Nat.le_refl, true_or, or_true, Bool.false_eq_true, not_false_eq_true, Nat.reduceAdd, Nat.lt_add_one, Nat.zero_lt_one, nI_add, pk_mul, ixL, vpL, ne_eq, reduceIte, wI_sN, wL_sM, sN_same, sN_K, sN_2, sM_1, sM_same, sM_K, sM_s, uI_at, uN_at, enc_at, uI_enc, uI_uI, upM_s, upM_n, ix, vx, r]
      exact ih'
  refine V_run hB (rt := some .int) (nL := 5) (mc := 0) rfl rfl rfl obX2_sumByDays_0 ?_
  dsimp only [bX2_sumByDays_0, ↓wpb, ↓wp1, ↓vI, ↓vL, ↓vD, ↓ldI, ↓ldL, ↓ldD, ↓ldR, ↓k1, ↓k2, ↓kI, ↓kL, ↓kD, ↓kII, ↓kLL, ↓kDD, ↓kR, ↓kIR, ↓kLR, ↓kIIR, ↓kLIR, ↓kDIR, ↓kRIR, ↓kNN, ↓kE, ↓br, ↓bn, ↓rtI, ↓gfv, ↓zchk, lput, ldel, lbad, alA, acat, isRf, dom, dS, dJ, isO, aTy, aLen, elAV, elR, Nat.reduceBEq, Nat.reduceAdd, Bool.or, Bool.and, Nat.add_zero, Nat.zero_add]
  try simp only [Nat.reduceLT, Nat.reduceLeDiff, Nat.reduceEqDiff, true_and, and_true, and_self, Nat.zero_le, Nat.le_refl, true_or, or_true, Bool.false_eq_true, not_false_eq_true, Nat.reduceAdd, Nat.lt_add_one, Nat.zero_lt_one, nI_add, pk_mul, ixL, vpL, ne_eq, reduceIte, wI_sN, wL_sM, sN_same, sN_K, sN_2, sM_1, sM_same, sM_K, sM_s, uI_at, uN_at, enc_at, uI_enc, uI_uI, upM_s, upM_n]
  exact head (d - f) 0 (by omega)
def wkU (a : Nat → Nat) : Nat → Nat
  | 0 => 0
  | k + 1 => wkU a k + a (9 + k)
theorem rsU_add (a : Nat → Nat) (f c : Nat) : ∀ k, rsU a f (c + k) = rsU a f c + rsU a (f + c) k
  | 0 => rfl
  | k + 1 => by
    show rsU a f (c + k) + a (9 + (f + 1 + (c + k)) % 7) = _ + (rsU a (f + c) k + a (9 + (f + c + 1 + k) % 7))
    rw [rsU_add a f c k, show f + 1 + (c + k) = f + c + 1 + k by omega]
    omega
theorem rsU_7 (a : Nat → Nat) (f : Nat) : rsU a f 7 = wkU a 7 := by
  have h : ∀ m, m < 7 → ∀ f, f % 7 = m → rsU a f 7 = wkU a 7 := by
    intro m hm f hf
    have e : ∀ j, (f + 1 + j) % 7 = (m + 1 + j) % 7 := fun j => by omega
    simp only [rsU, e, wkU]
    rcases (by omega : m = 0 ∨ m = 1 ∨ m = 2 ∨ m = 3 ∨ m = 4 ∨ m = 5 ∨ m = 6) with rfl | rfl | rfl | rfl | rfl | rfl | rfl <;> simp only [Nat.reduceAdd, Nat.reduceMod] <;> omega
  exact h _ (Nat.mod_lt _ (by omega)) f rfl
theorem rsU_w (a : Nat → Nat) (f r : Nat) : ∀ q, rsU a f (r + 7 * q) = q * wkU a 7 + rsU a f r
  | 0 => by rw [Nat.mul_zero, Nat.add_zero, Nat.zero_mul, Nat.zero_add]
  | q + 1 => by
    rw [show r + 7 * (q + 1) = (r + 7 * q) + 7 by omega, rsU_add, rsU_7, rsU_w a f r q, Nat.succ_mul]
    omega
theorem rsU_d (a : Nat → Nat) (f d : Nat) : d / 7 * wkU a 7 + rsU a f (d % 7) = rsU a f d := by
  have h := rsU_w a f (d % 7) (d / 7)
  rw [show d % 7 + 7 * (d / 7) = d by omega] at h
  omega
theorem c_sumByWeeks (hc : Ctx l G) {τ : Mem} {a : Nat → Nat} (hC : CaR τ 0 a) {f d : Nat} (hfd : f ≤ d) (hd : d < 1000000) : Sat l G iX2_sumByWeeks [.inr (3, 0, 0), aI (nI f), aI (nI d)] τ (retI (nI (rsU a f (d - f))) τ) := by
  refine Sat_of hc.1 hc.2 (by decide +kernel) (Nat.le_of_ble_eq_true rfl) (fun x hB hno => ?_)
  have h45 : ∀ k c al, c + k = (d - f) % 7 → (∀ z ∈ [(0, .inr (3, 0, 0)), (1, aI (nI f)), (4, aI (nI (d - f))), (5, aI (nI ((d - f) / 7 * wkU a 7 + rsU a f c))), (6, aI (nI (1 + c)))], lk al z.1 = some z.2) → V x τ 0 45 al [] := by
    intro k
    have er : nI (d - f) - nI (d - f) / nI 7 * nI 7 = nI ((d - f) % 7) := pk_rem (by omega) (by omega) (by omega)
    have e9 : (d - f) % 7 < 7 := Nat.mod_lt _ (by omega)
    induction k with
    | zero =>
      intro c al hk hal
      refine V.sub ?_ hal
      have hk : c = (d - f) % 7 := by omega
      subst hk
      refine V_run hB (rt := some .int) (nL := 7) (mc := 0) rfl rfl rfl obX2_sumByWeeks_45 ?_
      dsimp only [bX2_sumByWeeks_45, ↓wpb, ↓wp1, ↓vI, ↓vL, ↓vD, ↓ldI, ↓ldL, ↓ldD, ↓ldR, ↓k1, ↓k2, ↓kI, ↓kL, ↓kD, ↓kII, ↓kLL, ↓kDD, ↓kR, ↓kIR, ↓kLR, ↓kIIR, ↓kLIR, ↓kDIR, ↓kRIR, ↓kNN, ↓kE, ↓br, ↓bn, ↓rtI, ↓gfv, ↓zchk, lput, ldel, lbad, alA, acat, isRf, dom, dS, dJ, isO, aTy, aLen, elAV, elR, Nat.reduceBEq, Nat.reduceAdd, Bool.or, Bool.and, Nat.add_zero, Nat.zero_add]
      try simp only [Nat.reduceLT, Nat.reduceLeDiff, Nat.reduceEqDiff, true_and, and_true, and_self, Nat.zero_le, Nat.le_refl, true_or, or_true, Bool.false_eq_true, not_false_eq_true, Nat.reduceAdd, Nat.lt_add_one, Nat.zero_lt_one, nI_add, pk_mul, ixL, vpL, ne_eq, reduceIte, wI_sN, wL_sM, sN_same, sN_K, sN_2, sM_1, sM_same, sM_K, sM_s, uI_at, uN_at, enc_at, uI_enc, uI_uI, upM_s, upM_n, er]
      refine ⟨by decide, fun _ => ?_, fun q => absurd (nI_lt (by omega) (by omega)) q⟩
      rw [rsU_d]
      refine V_run hB (rt := some .int) (nL := 7) (mc := 0) rfl rfl rfl obX2_sumByWeeks_80 ?_
      dsimp only [bX2_sumByWeeks_80, ↓wpb, ↓wp1, ↓vI, ↓vL, ↓vD, ↓ldI, ↓ldL, ↓ldD, ↓ldR, ↓k1, ↓k2, ↓kI, ↓kL, ↓kD, ↓kII, ↓kLL, ↓kDD, ↓kR, ↓kIR, ↓kLR, ↓kIIR, ↓kLIR, ↓kDIR, ↓kRIR, ↓kNN, ↓kE, ↓br, ↓bn, ↓rtI, ↓gfv, ↓zchk, lput, ldel, lbad, alA, acat, isRf, dom, dS, dJ, isO, aTy, aLen, elAV, elR, Nat.reduceBEq, Nat.reduceAdd, Bool.or, Bool.and, Nat.add_zero, Nat.zero_add]
      try simp only [Nat.reduceLT, Nat.reduceLeDiff, Nat.reduceEqDiff, true_and, and_true, and_self, Nat.zero_le, Nat.le_refl, true_or, or_true, Bool.false_eq_true, not_false_eq_true, Nat.reduceAdd, Nat.lt_add_one, Nat.zero_lt_one, nI_add, pk_mul, ixL, vpL, ne_eq, reduceIte, wI_sN, wL_sM, sN_same, sN_K, sN_2, sM_1, sM_same, sM_K, sM_s, uI_at, uN_at, enc_at, uI_enc, uI_uI, upM_s, upM_n]
      exact ⟨rfl, rfl⟩
    | succ k ih =>
      intro c al hk hal
      refine V.sub ?_ hal
      have e7 : (f + (1 + c)) % 7 < 7 := Nat.mod_lt _ (by omega)
      have ix : (nI ((f + (1 + c)) % 7)).toNatClampNeg = (f + (1 + c)) % 7 := ixL (by omega)
      have vx : vp_in (nI ((f + (1 + c)) % 7)) 7 = True := vpL (by omega) (by omega)
      have r := hC.2 _ e7
      have hu : rsU a f (c + 1) = rsU a f c + a (9 + (f + (1 + c)) % 7) := by
        show rsU a f c + a (9 + (f + 1 + c) % 7) = _
        rw [show f + 1 + c = f + (1 + c) by omega]
      refine V_run hB (rt := some .int) (nL := 7) (mc := 0) rfl rfl rfl obX2_sumByWeeks_45 ?_
      dsimp only [bX2_sumByWeeks_45, ↓wpb, ↓wp1, ↓vI, ↓vL, ↓vD, ↓ldI, ↓ldL, ↓ldD, ↓ldR, ↓k1, ↓k2, ↓kI, ↓kL, ↓kD, ↓kII, ↓kLL, ↓kDD, ↓kR, ↓kIR, ↓kLR, ↓kIIR, ↓kLIR, ↓kDIR, ↓kRIR, ↓kNN, ↓kE, ↓br, ↓bn, ↓rtI, ↓gfv, ↓zchk, lput, ldel, lbad, alA, acat, isRf, dom, dS, dJ, isO, aTy, aLen, elAV, elR, Nat.reduceBEq, Nat.reduceAdd, Bool.or, Bool.and, Nat.add_zero, Nat.zero_add]
      try simp only [Nat.reduceLT, Nat.reduceLeDiff, Nat.reduceEqDiff, true_and, and_true, and_self, Nat.zero_le, Nat.le_refl, true_or, or_true, Bool.false_eq_true, not_false_eq_true, Nat.reduceAdd, Nat.lt_add_one, Nat.zero_lt_one, nI_add, pk_mul, ixL, vpL, ne_eq, reduceIte, wI_sN, wL_sM, sN_same, sN_K, sN_2, sM_1, sM_same, sM_K, sM_s, uI_at, uN_at, enc_at, uI_enc, uI_uI, upM_s, upM_n, er]
      refine ⟨by decide, fun q => absurd q (nI_nlt (by omega) (by omega)), fun _ => ?_⟩
      refine V_cS hB hno (q_floorMod hc τ (a := f + (1 + c)) (m := 7) (by omega) (by omega) (by omega)) rfl (by decide +kernel) csX2_38 npJ9_floorMod_7cf53 ⟨by decide, by decide⟩ (Nat.le_of_ble_eq_true rfl) (n' := 0) (by decide) rfl ?_
      refine V_run hB (rt := some .int) (nL := 7) (mc := 0) rfl rfl rfl obX2_sumByWeeks_70 ?_
      dsimp only [bX2_sumByWeeks_70, ↓wpb, ↓wp1, ↓vI, ↓vL, ↓vD, ↓ldI, ↓ldL, ↓ldD, ↓ldR, ↓k1, ↓k2, ↓kI, ↓kL, ↓kD, ↓kII, ↓kLL, ↓kDD, ↓kR, ↓kIR, ↓kLR, ↓kIIR, ↓kLIR, ↓kDIR, ↓kRIR, ↓kNN, ↓kE, ↓br, ↓bn, ↓rtI, ↓gfv, ↓zchk, lput, ldel, lbad, alA, acat, isRf, dom, dS, dJ, isO, aTy, aLen, elAV, elR, Nat.reduceBEq, Nat.reduceAdd, Bool.or, Bool.and, Nat.add_zero, Nat.zero_add]
      try simp only [Nat.reduceLT, Nat.reduceLeDiff, Nat.reduceEqDiff, true_and, and_true, and_self, Nat.zero_le, Nat.le_refl, true_or, or_true, Bool.false_eq_true, not_false_eq_true, Nat.reduceAdd, Nat.lt_add_one, Nat.zero_lt_one, nI_add, pk_mul, ixL, vpL, ne_eq, reduceIte, wI_sN, wL_sM, sN_same, sN_K, sN_2, sM_1, sM_same, sM_K, sM_s, uI_at, uN_at, enc_at, uI_enc, uI_uI, upM_s, upM_n, ix, vx, r]
      have ih' := fun al => ih (c + 1) al (by omega)
      rw [hu, ← Nat.add_assoc ((d - f) / 7 * wkU a 7)] at ih'
      exact ih' _ (List.forall_mem_cons.mpr ⟨rfl, List.forall_mem_cons.mpr ⟨rfl, List.forall_mem_cons.mpr ⟨rfl, List.forall_mem_cons.mpr ⟨rfl, List.forall_mem_cons.mpr ⟨rfl, fun _ h => absurd h List.not_mem_nil⟩⟩⟩⟩⟩)
  have h5 : ∀ k w, w + k = 7 → V x τ 0 5 [(0, .inr (3, 0, 0)), (1, aI (nI f)), (2, aI (nI d)), (3, aI (nI (wkU a w))), (4, aI (nI w))] [] := by
    intro k
    induction k with
    | zero =>
      intro w hk
      have hk : w = 7 := by omega
      subst hk
      have es : nI d - nI f = nI (d - f) := pk_sub hfd
      have ed : nI (d - f) / nI 7 = nI ((d - f) / 7) := pk_div (by omega) (by omega) (by omega)
      refine V_run hB (rt := some .int) (nL := 7) (mc := 0) rfl rfl rfl obX2_sumByWeeks_5 ?_
      dsimp only [bX2_sumByWeeks_5, ↓wpb, ↓wp1, ↓vI, ↓vL, ↓vD, ↓ldI, ↓ldL, ↓ldD, ↓ldR, ↓k1, ↓k2, ↓kI, ↓kL, ↓kD, ↓kII, ↓kLL, ↓kDD, ↓kR, ↓kIR, ↓kLR, ↓kIIR, ↓kLIR, ↓kDIR, ↓kRIR, ↓kNN, ↓kE, ↓br, ↓bn, ↓rtI, ↓gfv, ↓zchk, lput, ldel, lbad, alA, acat, isRf, dom, dS, dJ, isO, aTy, aLen, elAV, elR, Nat.reduceBEq, Nat.reduceAdd, Bool.or, Bool.and, Nat.add_zero, Nat.zero_add]
      try simp only [Nat.reduceLT, Nat.reduceLeDiff, Nat.reduceEqDiff, true_and, and_true, and_self, Nat.zero_le, Nat.le_refl, true_or, or_true, Bool.false_eq_true, not_false_eq_true, Nat.reduceAdd, Nat.lt_add_one, Nat.zero_lt_one, nI_add, pk_mul, ixL, vpL, ne_eq, reduceIte, wI_sN, wL_sM, sN_same, sN_K, sN_2, sM_1, sM_same, sM_K, sM_s, uI_at, uN_at, enc_at, uI_enc, uI_uI, upM_s, upM_n]
      refine ⟨fun _ => ?_, fun q => absurd (nI_le (by omega) (by omega)) q⟩
      refine V_run hB (rt := some .int) (nL := 7) (mc := 0) rfl rfl rfl obX2_sumByWeeks_28 ?_
      dsimp only [bX2_sumByWeeks_28, ↓wpb, ↓wp1, ↓vI, ↓vL, ↓vD, ↓ldI, ↓ldL, ↓ldD, ↓ldR, ↓k1, ↓k2, ↓kI, ↓kL, ↓kD, ↓kII, ↓kLL, ↓kDD, ↓kR, ↓kIR, ↓kLR, ↓kIIR, ↓kLIR, ↓kDIR, ↓kRIR, ↓kNN, ↓kE, ↓br, ↓bn, ↓rtI, ↓gfv, ↓zchk, lput, ldel, lbad, alA, acat, isRf, dom, dS, dJ, isO, aTy, aLen, elAV, elR, Nat.reduceBEq, Nat.reduceAdd, Bool.or, Bool.and, Nat.add_zero, Nat.zero_add]
      try simp only [Nat.reduceLT, Nat.reduceLeDiff, Nat.reduceEqDiff, true_and, and_true, and_self, Nat.zero_le, Nat.le_refl, true_or, or_true, Bool.false_eq_true, not_false_eq_true, Nat.reduceAdd, Nat.lt_add_one, Nat.zero_lt_one, nI_add, pk_mul, ixL, vpL, ne_eq, reduceIte, wI_sN, wL_sM, sN_same, sN_K, sN_2, sM_1, sM_same, sM_K, sM_s, uI_at, uN_at, enc_at, uI_enc, uI_uI, upM_s, upM_n, es, ed]
      refine ⟨by decide, ?_⟩
      exact h45 ((d - f) % 7) 0 _ (by omega) (List.forall_mem_cons.mpr ⟨rfl, List.forall_mem_cons.mpr ⟨rfl, List.forall_mem_cons.mpr ⟨rfl, List.forall_mem_cons.mpr ⟨rfl, List.forall_mem_cons.mpr ⟨rfl, fun _ h => absurd h List.not_mem_nil⟩⟩⟩⟩⟩)
    | succ k ih =>
      intro w hk
      have ix : (nI w).toNatClampNeg = w := ixL (by omega)
      have vx : vp_in (nI w) 7 = True := vpL (by omega) (by omega)
      have r := hC.2 w (by omega)
      have ih' := ih (w + 1) (by omega)
      have hu : wkU a (w + 1) = wkU a w + a (9 + w) := rfl
      rw [hu] at ih'
      refine V_run hB (rt := some .int) (nL := 7) (mc := 0) rfl rfl rfl obX2_sumByWeeks_5 ?_
      dsimp only [bX2_sumByWeeks_5, ↓wpb, ↓wp1, ↓vI, ↓vL, ↓vD, ↓ldI, ↓ldL, ↓ldD, ↓ldR, ↓k1, ↓k2, ↓kI, ↓kL, ↓kD, ↓kII, ↓kLL, ↓kDD, ↓kR, ↓kIR, ↓kLR, ↓kIIR, ↓kLIR, ↓kDIR, ↓kRIR, ↓kNN, ↓kE, ↓br, ↓bn, ↓rtI, ↓gfv, ↓zchk, lput, ldel, lbad, alA, acat, isRf, dom, dS, dJ, isO, aTy, aLen, elAV, elR, Nat.reduceBEq, Nat.reduceAdd, Bool.or, Bool.and, Nat.add_zero, Nat.zero_add]
      try simp only [Nat.reduceLT, Nat.reduceLeDiff, Nat.reduceEqDiff, true_and, and_true, and_self, Nat.zero_le, Nat.le_refl, true_or, or_true, Bool.false_eq_true, not_false_eq_true, Nat.reduceAdd, Nat.lt_add_one, Nat.zero_lt_one, nI_add, pk_mul, ixL, vpL, ne_eq, reduceIte, wI_sN, wL_sM, sN_same, sN_K, sN_2, sM_1, sM_same, sM_K, sM_s, uI_at, uN_at, enc_at, uI_enc, uI_uI, upM_s, upM_n, ix, vx, r]
      refine ⟨fun q => absurd q (nI_ge (by omega) (by omega)), fun _ => ?_⟩
      exact ih'
  refine V_run hB (rt := some .int) (nL := 7) (mc := 0) rfl rfl rfl obX2_sumByWeeks_0 ?_
  dsimp only [bX2_sumByWeeks_0, ↓wpb, ↓wp1, ↓vI, ↓vL, ↓vD, ↓ldI, ↓ldL, ↓ldD, ↓ldR, ↓k1, ↓k2, ↓kI, ↓kL, ↓kD, ↓kII, ↓kLL, ↓kDD, ↓kR, ↓kIR, ↓kLR, ↓kIIR, ↓kLIR, ↓kDIR, ↓kRIR, ↓kNN, ↓kE, ↓br, ↓bn, ↓rtI, ↓gfv, ↓zchk, lput, ldel, lbad, alA, acat, isRf, dom, dS, dJ, isO, aTy, aLen, elAV, elR, Nat.reduceBEq, Nat.reduceAdd, Bool.or, Bool.and, Nat.add_zero, Nat.zero_add]
  try simp only [Nat.reduceLT, Nat.reduceLeDiff, Nat.reduceEqDiff, true_and, and_true, and_self, Nat.zero_le, Nat.le_refl, true_or, or_true, Bool.false_eq_true, not_false_eq_true, Nat.reduceAdd, Nat.lt_add_one, Nat.zero_lt_one, nI_add, pk_mul, ixL, vpL, ne_eq, reduceIte, wI_sN, wL_sM, sN_same, sN_K, sN_2, sM_1, sM_same, sM_K, sM_s, uI_at, uN_at, enc_at, uI_enc, uI_uI, upM_s, upM_n]
  exact h5 7 0 (by omega)
theorem c_least (hc : Ctx l G) {τ : Mem} {a : Nat → Nat} (hC : CaR τ 0 a) (h0 : a 0 < 1000000) (hr : ∀ w, w < 7 → a (9 + w) ≤ 9) : Sat l G iX2_weekdayOfLeastRate [.inr (3, 0, 0)] τ (retI (nI (chU a 6)) τ) := by
  have hd := hC.1
  refine Sat_of hc.1 hc.2 (by decide +kernel) (Nat.le_of_ble_eq_true rfl) (fun x hB hno => ?_)
  have h12 : ∀ w k al, k + w = 6 → (∀ z ∈ [(0, .inr (3, 0, 0)), (1, aI (nI (chU a k))), (2, aI (nI (k + 1)))], lk al z.1 = some z.2) → V x τ 0 12 al [] := by
    intro w
    induction w with
    | zero =>
      intro k al hk hal
      refine V.sub ?_ hal
      have hk : k = 6 := by omega
      subst hk
      refine V_run hB (rt := some .int) (nL := 4) (mc := 0) rfl rfl rfl obX2_weekdayOfLeastRate_12 ?_
      dsimp only [bX2_weekdayOfLeastRate_12, ↓wpb, ↓wp1, ↓vI, ↓vL, ↓vD, ↓ldI, ↓ldL, ↓ldD, ↓ldR, ↓k1, ↓k2, ↓kI, ↓kL, ↓kD, ↓kII, ↓kLL, ↓kDD, ↓kR, ↓kIR, ↓kLR, ↓kIIR, ↓kLIR, ↓kDIR, ↓kRIR, ↓kNN, ↓kE, ↓br, ↓bn, ↓rtI, ↓gfv, ↓zchk, lput, ldel, lbad, alA, acat, isRf, dom, dS, dJ, isO, aTy, aLen, elAV, elR, Nat.reduceBEq, Nat.reduceAdd, Bool.or, Bool.and, Nat.add_zero, Nat.zero_add]
      try simp only [Nat.reduceLT, Nat.reduceLeDiff, Nat.reduceEqDiff, true_and, and_true, and_self, Nat.zero_le, Nat.le_refl, true_or, or_true, Bool.false_eq_true, not_false_eq_true, Nat.reduceAdd, Nat.lt_add_one, Nat.zero_lt_one, nI_add, pk_mul, ixL, vpL, ne_eq, reduceIte, wI_sN, wL_sM, sN_same, sN_K, sN_2, sM_1, sM_same, sM_K, sM_s, uI_at, uN_at, enc_at, uI_enc, uI_uI, upM_s, upM_n]
      refine ⟨fun _ => ?_, fun q => absurd (nI_le (by omega) (by omega)) q⟩
      refine V_run hB (rt := some .int) (nL := 4) (mc := 0) rfl rfl rfl obX2_weekdayOfLeastRate_53 ?_
      dsimp only [bX2_weekdayOfLeastRate_53, ↓wpb, ↓wp1, ↓vI, ↓vL, ↓vD, ↓ldI, ↓ldL, ↓ldD, ↓ldR, ↓k1, ↓k2, ↓kI, ↓kL, ↓kD, ↓kII, ↓kLL, ↓kDD, ↓kR, ↓kIR, ↓kLR, ↓kIIR, ↓kLIR, ↓kDIR, ↓kRIR, ↓kNN, ↓kE, ↓br, ↓bn, ↓rtI, ↓gfv, ↓zchk, lput, ldel, lbad, alA, acat, isRf, dom, dS, dJ, isO, aTy, aLen, elAV, elR, Nat.reduceBEq, Nat.reduceAdd, Bool.or, Bool.and, Nat.add_zero, Nat.zero_add]
      try simp only [Nat.reduceLT, Nat.reduceLeDiff, Nat.reduceEqDiff, true_and, and_true, and_self, Nat.zero_le, Nat.le_refl, true_or, or_true, Bool.false_eq_true, not_false_eq_true, Nat.reduceAdd, Nat.lt_add_one, Nat.zero_lt_one, nI_add, pk_mul, ixL, vpL, ne_eq, reduceIte, wI_sN, wL_sM, sN_same, sN_K, sN_2, sM_1, sM_same, sM_K, sM_s, uI_at, uN_at, enc_at, uI_enc, uI_uI, upM_s, upM_n]
      exact ⟨rfl, rfl⟩
    | succ w ih =>
      intro k al hk hal
      refine V.sub ?_ hal
      have e7 : (a 0 + (k + 1)) % 7 < 7 := Nat.mod_lt _ (by omega)
      have c7 := chU_lt a k
      have ix : (nI ((a 0 + (k + 1)) % 7)).toNatClampNeg = (a 0 + (k + 1)) % 7 := ixL (by omega)
      have vx : vp_in (nI ((a 0 + (k + 1)) % 7)) 7 = True := vpL (by omega) (by omega)
      have ix2 : (nI (chU a k)).toNatClampNeg = chU a k := ixL (by omega)
      have vx2 : vp_in (nI (chU a k)) 7 = True := vpL (by omega) (by omega)
      have r1 := hC.2 _ e7
      have r2 := hC.2 _ c7
      have b1 := hr _ e7
      have b2 := hr _ c7
      have hu : chU a (k + 1) = if a (9 + (a 0 + (k + 1)) % 7) < a (9 + chU a k) then (a 0 + (k + 1)) % 7 else chU a k := rfl
      have ih' := fun al => ih (k + 1) al (by omega)
      rw [hu] at ih'
      refine V_run hB (rt := some .int) (nL := 4) (mc := 0) rfl rfl rfl obX2_weekdayOfLeastRate_12 ?_
      dsimp only [bX2_weekdayOfLeastRate_12, ↓wpb, ↓wp1, ↓vI, ↓vL, ↓vD, ↓ldI, ↓ldL, ↓ldD, ↓ldR, ↓k1, ↓k2, ↓kI, ↓kL, ↓kD, ↓kII, ↓kLL, ↓kDD, ↓kR, ↓kIR, ↓kLR, ↓kIIR, ↓kLIR, ↓kDIR, ↓kRIR, ↓kNN, ↓kE, ↓br, ↓bn, ↓rtI, ↓gfv, ↓zchk, lput, ldel, lbad, alA, acat, isRf, dom, dS, dJ, isO, aTy, aLen, elAV, elR, Nat.reduceBEq, Nat.reduceAdd, Bool.or, Bool.and, Nat.add_zero, Nat.zero_add]
      try simp only [Nat.reduceLT, Nat.reduceLeDiff, Nat.reduceEqDiff, true_and, and_true, and_self, Nat.zero_le, Nat.le_refl, true_or, or_true, Bool.false_eq_true, not_false_eq_true, Nat.reduceAdd, Nat.lt_add_one, Nat.zero_lt_one, nI_add, pk_mul, ixL, vpL, ne_eq, reduceIte, wI_sN, wL_sM, sN_same, sN_K, sN_2, sM_1, sM_same, sM_K, sM_s, uI_at, uN_at, enc_at, uI_enc, uI_uI, upM_s, upM_n, hd]
      refine ⟨fun q => absurd q (nI_ge (by omega) (by omega)), fun _ => ?_⟩
      refine V_cS hB hno (q_floorMod hc τ (a := a 0 + (k + 1)) (m := 7) (by omega) (by omega) (by omega)) rfl (by decide +kernel) csX2_38 npJ9_floorMod_7cf53 ⟨by decide, by decide⟩ (Nat.le_of_ble_eq_true rfl) (n' := 0) (by decide) rfl ?_
      refine V_run hB (rt := some .int) (nL := 4) (mc := 0) rfl rfl rfl obX2_weekdayOfLeastRate_29 ?_
      dsimp only [bX2_weekdayOfLeastRate_29, ↓wpb, ↓wp1, ↓vI, ↓vL, ↓vD, ↓ldI, ↓ldL, ↓ldD, ↓ldR, ↓k1, ↓k2, ↓kI, ↓kL, ↓kD, ↓kII, ↓kLL, ↓kDD, ↓kR, ↓kIR, ↓kLR, ↓kIIR, ↓kLIR, ↓kDIR, ↓kRIR, ↓kNN, ↓kE, ↓br, ↓bn, ↓rtI, ↓gfv, ↓zchk, lput, ldel, lbad, alA, acat, isRf, dom, dS, dJ, isO, aTy, aLen, elAV, elR, Nat.reduceBEq, Nat.reduceAdd, Bool.or, Bool.and, Nat.add_zero, Nat.zero_add]
      try simp only [Nat.reduceLT, Nat.reduceLeDiff, Nat.reduceEqDiff, true_and, and_true, and_self, Nat.zero_le, Nat.le_refl, true_or, or_true, Bool.false_eq_true, not_false_eq_true, Nat.reduceAdd, Nat.lt_add_one, Nat.zero_lt_one, nI_add, pk_mul, ixL, vpL, ne_eq, reduceIte, wI_sN, wL_sM, sN_same, sN_K, sN_2, sM_1, sM_same, sM_K, sM_s, uI_at, uN_at, enc_at, uI_enc, uI_uI, upM_s, upM_n, ix, vx, ix2, vx2, r1, r2]
      refine ⟨fun q => ?_, fun q => ?_⟩
      · rw [nI_leI (by omega) (by omega)] at q
        rw [if_neg (by omega)] at ih'
        refine V_run hB (rt := some .int) (nL := 4) (mc := 0) rfl rfl rfl obX2_weekdayOfLeastRate_47 ?_
        dsimp only [bX2_weekdayOfLeastRate_47, ↓wpb, ↓wp1, ↓vI, ↓vL, ↓vD, ↓ldI, ↓ldL, ↓ldD, ↓ldR, ↓k1, ↓k2, ↓kI, ↓kL, ↓kD, ↓kII, ↓kLL, ↓kDD, ↓kR, ↓kIR, ↓kLR, ↓kIIR, ↓kLIR, ↓kDIR, ↓kRIR, ↓kNN, ↓kE, ↓br, ↓bn, ↓rtI, ↓gfv, ↓zchk, lput, ldel, lbad, alA, acat, isRf, dom, dS, dJ, isO, aTy, aLen, elAV, elR, Nat.reduceBEq, Nat.reduceAdd, Bool.or, Bool.and, Nat.add_zero, Nat.zero_add]
        try simp only [Nat.reduceLT, Nat.reduceLeDiff, Nat.reduceEqDiff, true_and, and_true, and_self, Nat.zero_le, Nat.le_refl, true_or, or_true, Bool.false_eq_true, not_false_eq_true, Nat.reduceAdd, Nat.lt_add_one, Nat.zero_lt_one, nI_add, pk_mul, ixL, vpL, ne_eq, reduceIte, wI_sN, wL_sM, sN_same, sN_K, sN_2, sM_1, sM_same, sM_K, sM_s, uI_at, uN_at, enc_at, uI_enc, uI_uI, upM_s, upM_n]
        exact ih' _ (List.forall_mem_cons.mpr ⟨rfl, List.forall_mem_cons.mpr ⟨rfl, List.forall_mem_cons.mpr ⟨rfl, fun _ h => absurd h List.not_mem_nil⟩⟩⟩)
      · rw [nI_leI (by omega) (by omega)] at q
        rw [if_pos (by omega)] at ih'
        exact ih' _ (List.forall_mem_cons.mpr ⟨rfl, List.forall_mem_cons.mpr ⟨rfl, List.forall_mem_cons.mpr ⟨rfl, fun _ h => absurd h List.not_mem_nil⟩⟩⟩)
  refine V_run hB (rt := some .int) (nL := 4) (mc := 0) rfl rfl rfl obX2_weekdayOfLeastRate_0 ?_
  dsimp only [bX2_weekdayOfLeastRate_0, ↓wpb, ↓wp1, ↓vI, ↓vL, ↓vD, ↓ldI, ↓ldL, ↓ldD, ↓ldR, ↓k1, ↓k2, ↓kI, ↓kL, ↓kD, ↓kII, ↓kLL, ↓kDD, ↓kR, ↓kIR, ↓kLR, ↓kIIR, ↓kLIR, ↓kDIR, ↓kRIR, ↓kNN, ↓kE, ↓br, ↓bn, ↓rtI, ↓gfv, ↓zchk, lput, ldel, lbad, alA, acat, isRf, dom, dS, dJ, isO, aTy, aLen, elAV, elR, Nat.reduceBEq, Nat.reduceAdd, Bool.or, Bool.and, Nat.add_zero, Nat.zero_add]
  try simp only [Nat.reduceLT, Nat.reduceLeDiff, Nat.reduceEqDiff, true_and, and_true, and_self, Nat.zero_le, Nat.le_refl, true_or, or_true, Bool.false_eq_true, not_false_eq_true, Nat.reduceAdd, Nat.lt_add_one, Nat.zero_lt_one, nI_add, pk_mul, ixL, vpL, ne_eq, reduceIte, wI_sN, wL_sM, sN_same, sN_K, sN_2, sM_1, sM_same, sM_K, sM_s, uI_at, uN_at, enc_at, uI_enc, uI_uI, upM_s, upM_n, hd]
  refine V_cS hB hno (q_floorMod hc τ (a := a 0) (m := 7) (by omega) (by omega) (by omega)) rfl (by decide +kernel) csX2_38 npJ9_floorMod_7cf53 ⟨by decide, by decide⟩ (Nat.le_of_ble_eq_true rfl) (n' := 0) (by decide) rfl ?_
  refine V_run hB (rt := some .int) (nL := 4) (mc := 0) rfl rfl rfl obX2_weekdayOfLeastRate_9 ?_
  dsimp only [bX2_weekdayOfLeastRate_9, ↓wpb, ↓wp1, ↓vI, ↓vL, ↓vD, ↓ldI, ↓ldL, ↓ldD, ↓ldR, ↓k1, ↓k2, ↓kI, ↓kL, ↓kD, ↓kII, ↓kLL, ↓kDD, ↓kR, ↓kIR, ↓kLR, ↓kIIR, ↓kLIR, ↓kDIR, ↓kRIR, ↓kNN, ↓kE, ↓br, ↓bn, ↓rtI, ↓gfv, ↓zchk, lput, ldel, lbad, alA, acat, isRf, dom, dS, dJ, isO, aTy, aLen, elAV, elR, Nat.reduceBEq, Nat.reduceAdd, Bool.or, Bool.and, Nat.add_zero, Nat.zero_add]
  try simp only [Nat.reduceLT, Nat.reduceLeDiff, Nat.reduceEqDiff, true_and, and_true, and_self, Nat.zero_le, Nat.le_refl, true_or, or_true, Bool.false_eq_true, not_false_eq_true, Nat.reduceAdd, Nat.lt_add_one, Nat.zero_lt_one, nI_add, pk_mul, ixL, vpL, ne_eq, reduceIte, wI_sN, wL_sM, sN_same, sN_K, sN_2, sM_1, sM_same, sM_K, sM_s, uI_at, uN_at, enc_at, uI_enc, uI_uI, upM_s, upM_n]
  exact h12 6 0 _ (by omega) (List.forall_mem_cons.mpr ⟨rfl, List.forall_mem_cons.mpr ⟨rfl, List.forall_mem_cons.mpr ⟨rfl, fun _ h => absurd h List.not_mem_nil⟩⟩⟩)
end C1
