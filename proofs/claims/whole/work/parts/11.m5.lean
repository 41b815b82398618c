/-! ===== the reference's methods: evenings ===== -/
theorem bit5 : ∀ u, u < 32 → ∀ b, b < 5 → (nI u >>> (nI b &&& 31)) &&& nI 1 = nI (bN (u.testBit b)) := by decide +kernel
theorem shl5 : ∀ b, b < 5 → nI 1 <<< (nI b &&& 31) = nI (2 ^ b) := by decide +kernel
theorem or5 : ∀ u, u < 32 → ∀ b, b < 5 → nI u ||| nI (2 ^ b) = nI (u ||| 2 ^ b) := by decide +kernel
theorem or5_lt : ∀ u, u < 32 → ∀ b, b < 5 → u ||| 2 ^ b < 32 := by decide +kernel
theorem neg1_le {n : Nat} (h : n < 2147483648) : (-1 : Int32) ≤ nI n := by
  rw [Int32.le_iff_toInt_le, nI_toInt h]
  have : (-1 : Int32).toInt = -1 := rfl
  omega
def mg (a : Nat → Nat) (i b u : Nat) : Bool := isLot a i && !(u.testBit b) && decide (it a i 4 ≤ it a i (7 + b)) && decide (0 < it a i (7 + b))
def bsU (a : Nat → Nat) (i u : Nat) (F : Nat → Nat) : Nat → Nat
  | 0 => F u
  | b + 1 => if mg a i b u = true ∧ bsU a i u F b < it a i (7 + b) + F (u ||| 2 ^ b) then it a i (7 + b) + F (u ||| 2 ^ b) else bsU a i u F b
/-- the best sum of the last k items, if the bidders of u have got one -/
def bR (a : Nat → Nat) : Nat → Nat → Nat
  | 0, _ => 0
  | k + 1, u => bsU a (a 4 - (k + 1)) u (bR a k) 5
def gt (a : Nat → Nat) (i u : Nat) : Nat → Nat → Option Nat
  | _, 0 => none
  | b, k + 1 => if mg a i b u = true ∧ it a i (7 + b) + bR a (a 4 - (i + 1)) (u ||| 2 ^ b) = bR a (a 4 - i) u then some b else gt a i u (b + 1) k
def gts (a : Nat → Nat) (i u : Nat) : Option Nat := gt a i u 0 5
theorem gt_lt {a : Nat → Nat} {i u : Nat} : ∀ {k b q : Nat}, gt a i u b k = some q → q < b + k
  | 0, b, q, h => by cases h
  | k + 1, b, q, h => by
    unfold gt at h
    split at h
    · cases h; omega
    · have := gt_lt h; omega
/-- the lots' bids are small -/
def bidOk (a : Nat → Nat) : Prop := ∀ i, i < 10 → ∀ b, b < 5 → it a i (7 + b) ≤ 999
theorem bsU_bd {a : Nat → Nat} (hb : bidOk a) {i u M : Nat} (hi : i < 10) {F : Nat → Nat} (hF : ∀ v, F v ≤ M) : ∀ b, b ≤ 5 → bsU a i u F b ≤ M + 999
  | 0, _ => by have := hF u; simp only [bsU]; omega
  | b + 1, h => by
    have := bsU_bd hb (u := u) hi hF b (by omega)
    have h1 := hb i hi b (by omega)
    have h2 := hF (u ||| 2 ^ b)
    unfold bsU
    split <;> omega
theorem bR_bd {a : Nat → Nat} (hb : bidOk a) (hm : a 4 ≤ 10) : ∀ k, k ≤ a 4 → ∀ u, bR a k u ≤ 999 * k
  | 0, _, u => by simp [bR]
  | k + 1, h, u => by
    have := bsU_bd hb (i := a 4 - (k + 1)) (u := u) (M := 999 * k) (by omega) (fun v => bR_bd hb hm k (by omega) v) 5 (Nat.le_refl _)
    unfold bR
    omega
theorem MS.s35 {τ : Mem} {a : Nat → Nat} {F : Nat → Int32} (h : MS τ a) : MS (sA τ 35 F) a := ⟨by rw [sA_ne (by decide)]; exact h.1, h.2⟩
theorem MS.s36 {τ : Mem} {a : Nat → Nat} {F : Nat → Int32} (h : MS τ a) : MS (sA τ 36 F) a := ⟨by rw [sA_ne (by decide)]; exact h.1, h.2⟩
/-- the row of best sums is right from item j on -/
def BR (r : Nat → Int32) (a : Nat → Nat) (j : Nat) : Prop := ∀ i, j ≤ i → i ≤ a 4 → ∀ u, u < 32 → r (32 * i + u) = nI (bR a (a 4 - i) u)
def dI : Nat → Int32
  | 0 => -1
  | i + 1 => nI i
theorem dI_sub (j : Nat) : nI j - nI 1 = dI j := by
  cases j with
  | zero => rfl
  | succ i => rw [pk_sub (by omega)]; rfl
theorem dI_dec (i : Nat) : nI i + -1 = dI i := by
  cases i with
  | zero => rfl
  | succ i => rw [pk_m1]; rfl
section M5
variable {l : Launch} {G : GG}
theorem q_mayGet (hc : Ctx l G) {τ : Mem} {a : Nat → Nat} (hS : MS τ a) {i b u : Nat} (hi : i < 10) (hb : b < 5) (hu : u < 32) : Sat l G iX11_mayGet [mM, aI (nI i), aI (nI b), aI (nI u)] τ (retI (nI (bN (mg a i b u))) τ) := by
  have hv := hS.1
  have hlt : ∀ k, it a i k < 1073741824 := fun k => hS.2.2 _
  refine Sat_of hc.1 hc.2 (by decide +kernel) (Nat.le_of_ble_eq_true rfl) (fun x hB hno => ?_)
  have h48 : mg a i b u = false → V x τ 0 48 [(0, mM), (1, aI (nI i)), (2, aI (nI b)), (3, aI (nI u))] [] := by
    intro h
    refine V_run hB (rt := some .boolean) (nL := 4) (mc := 0) rfl rfl rfl obX11_mayGet_48 ?_
    dsimp only [bX11_mayGet_48, ↓wpb, ↓wp1, ↓vI, ↓vL, ↓vD, ↓ldI, ↓ldL, ↓ldD, ↓ldR, ↓k1, ↓k2, ↓kI, ↓kL, ↓kD, ↓kII, ↓kLL, ↓kDD, ↓kR, ↓kIR, ↓kLR, ↓kIIR, ↓kLIR, ↓kDIR, ↓kRIR, ↓kNN, ↓kE, ↓br, ↓bn, ↓rtI, ↓gfv, ↓zchk, lput, ldel, lbad, alA, acat, isRf, dom, dS, dJ, isO, aTy, aLen, elAV, elR, Nat.reduceBEq, Nat.reduceAdd, Bool.or, Bool.and, Nat.add_zero, Nat.zero_add]
    try simp only [Nat.reduceLT, Nat.reduceLeDiff, Nat.reduceEqDiff, true_and, and_true, and_self, Nat.zero_le, Nat.le_refl, true_or, or_true, Bool.false_eq_true, not_false_eq_true, Nat.reduceAdd, Nat.lt_add_one, Nat.zero_lt_one, nI_add, pk_mul, ixL, vpL, ne_eq, reduceIte, wI_sA, sA_same, sA_ne, sA_sA, sA_comm, uI_at, uN_at, enc_at, uI_enc, uI_uI, itn1, itn2, itn3, itn4, itc, itc0, itc1, upM_s, upM_n]
    rw [h]
    exact ⟨Or.inl rfl, rfl, rfl⟩
  refine V_run hB (rt := some .boolean) (nL := 4) (mc := 0) rfl rfl rfl obX11_mayGet_0 ?_
  dsimp only [bX11_mayGet_0, ↓wpb, ↓wp1, ↓vI, ↓vL, ↓vD, ↓ldI, ↓ldL, ↓ldD, ↓ldR, ↓k1, ↓k2, ↓kI, ↓kL, ↓kD, ↓kII, ↓kLL, ↓kDD, ↓kR, ↓kIR, ↓kLR, ↓kIIR, ↓kLIR, ↓kDIR, ↓kRIR, ↓kNN, ↓kE, ↓br, ↓bn, ↓rtI, ↓gfv, ↓zchk, lput, ldel, lbad, alA, acat, isRf, dom, dS, dJ, isO, aTy, aLen, elAV, elR, Nat.reduceBEq, Nat.reduceAdd, Bool.or, Bool.and, Nat.add_zero, Nat.zero_add]
  try simp only [Nat.reduceLT, Nat.reduceLeDiff, Nat.reduceEqDiff, true_and, and_true, and_self, Nat.zero_le, Nat.le_refl, true_or, or_true, Bool.false_eq_true, not_false_eq_true, Nat.reduceAdd, Nat.lt_add_one, Nat.zero_lt_one, nI_add, pk_mul, ixL, vpL, ne_eq, reduceIte, wI_sA, sA_same, sA_ne, sA_sA, sA_comm, uI_at, uN_at, enc_at, uI_enc, uI_uI, itn1, itn2, itn3, itn4, itc, itc0, itc1, upM_s, upM_n]
  refine V_cV hB hno (q_isLot hc hS hi) rfl (by decide +kernel) cvX11_68 (dom1 rfl) npX11_isLot ⟨by decide, by decide⟩ (Nat.le_of_ble_eq_true rfl) (n' := 0) (by decide) rfl ?_
  refine V_run hB (rt := some .boolean) (nL := 4) (mc := 0) rfl rfl rfl obX11_mayGet_5 ?_
  dsimp only [bX11_mayGet_5, ↓wpb, ↓wp1, ↓vI, ↓vL, ↓vD, ↓ldI, ↓ldL, ↓ldD, ↓ldR, ↓k1, ↓k2, ↓kI, ↓kL, ↓kD, ↓kII, ↓kLL, ↓kDD, ↓kR, ↓kIR, ↓kLR, ↓kIIR, ↓kLIR, ↓kDIR, ↓kRIR, ↓kNN, ↓kE, ↓br, ↓bn, ↓rtI, ↓gfv, ↓zchk, lput, ldel, lbad, alA, acat, isRf, dom, dS, dJ, isO, aTy, aLen, elAV, elR, Nat.reduceBEq, Nat.reduceAdd, Bool.or, Bool.and, Nat.add_zero, Nat.zero_add]
  try simp only [Nat.reduceLT, Nat.reduceLeDiff, Nat.reduceEqDiff, true_and, and_true, and_self, Nat.zero_le, Nat.le_refl, true_or, or_true, Bool.false_eq_true, not_false_eq_true, Nat.reduceAdd, Nat.lt_add_one, Nat.zero_lt_one, nI_add, pk_mul, ixL, vpL, ne_eq, reduceIte, wI_sA, sA_same, sA_ne, sA_sA, sA_comm, uI_at, uN_at, enc_at, uI_enc, uI_uI, itn1, itn2, itn3, itn4, itc, itc0, itc1, upM_s, upM_n, bN_0, bit5 u hu b hb]
  refine ⟨fun h => h48 (by simp [mg, h]), fun h1 => ⟨fun h => ?_, fun h2 => ?_⟩⟩
  · exact h48 (by simp only [mg]; have : u.testBit b = true := by simpa using h
                  simp [this])
  · have h1 : isLot a i = true := by simpa using h1
    refine V_cV hB hno (q_offer hc hS hi hb) rfl (by decide +kernel) cvX11_137 (dom1 rfl) npX11_offer ⟨by decide, by decide⟩ (Nat.le_of_ble_eq_true rfl) (n' := 0) (by decide) rfl ?_
    refine V_run hB (rt := some .boolean) (nL := 4) (mc := 0) rfl rfl rfl obX11_mayGet_22 ?_
    dsimp only [bX11_mayGet_22, ↓wpb, ↓wp1, ↓vI, ↓vL, ↓vD, ↓ldI, ↓ldL, ↓ldD, ↓ldR, ↓k1, ↓k2, ↓kI, ↓kL, ↓kD, ↓kII, ↓kLL, ↓kDD, ↓kR, ↓kIR, ↓kLR, ↓kIIR, ↓kLIR, ↓kDIR, ↓kRIR, ↓kNN, ↓kE, ↓br, ↓bn, ↓rtI, ↓gfv, ↓zchk, lput, ldel, lbad, alA, acat, isRf, dom, dS, dJ, isO, aTy, aLen, elAV, elR, Nat.reduceBEq, Nat.reduceAdd, Bool.or, Bool.and, Nat.add_zero, Nat.zero_add]
    try simp only [Nat.reduceLT, Nat.reduceLeDiff, Nat.reduceEqDiff, true_and, and_true, and_self, Nat.zero_le, Nat.le_refl, true_or, or_true, Bool.false_eq_true, not_false_eq_true, Nat.reduceAdd, Nat.lt_add_one, Nat.zero_lt_one, nI_add, pk_mul, ixL, vpL, ne_eq, reduceIte, wI_sA, sA_same, sA_ne, sA_sA, sA_comm, uI_at, uN_at, enc_at, uI_enc, uI_uI, itn1, itn2, itn3, itn4, itc, itc0, itc1, upM_s, upM_n]
    refine V_cS hB hno (q_ofN hc _ _ _) rfl (by decide +kernel) csX11_60 npX11_of ⟨by decide, by decide⟩ (Nat.le_of_ble_eq_true rfl) (n' := 0) (by decide) rfl ?_
    refine V_run hB (rt := some .boolean) (nL := 4) (mc := 0) rfl rfl rfl obX11_mayGet_31 ?_
    dsimp only [bX11_mayGet_31, ↓wpb, ↓wp1, ↓vI, ↓vL, ↓vD, ↓ldI, ↓ldL, ↓ldD, ↓ldR, ↓k1, ↓k2, ↓kI, ↓kL, ↓kD, ↓kII, ↓kLL, ↓kDD, ↓kR, ↓kIR, ↓kLR, ↓kIIR, ↓kLIR, ↓kDIR, ↓kRIR, ↓kNN, ↓kE, ↓br, ↓bn, ↓rtI, ↓gfv, ↓zchk, lput, ldel, lbad, alA, acat, isRf, dom, dS, dJ, isO, aTy, aLen, elAV, elR, Nat.reduceBEq, Nat.reduceAdd, Bool.or, Bool.and, Nat.add_zero, Nat.zero_add]
    try simp only [Nat.reduceLT, Nat.reduceLeDiff, Nat.reduceEqDiff, true_and, and_true, and_self, Nat.zero_le, Nat.le_refl, true_or, or_true, Bool.false_eq_true, not_false_eq_true, Nat.reduceAdd, Nat.lt_add_one, Nat.zero_lt_one, nI_add, pk_mul, ixL, vpL, ne_eq, reduceIte, wI_sA, sA_same, sA_ne, sA_sA, sA_comm, uI_at, uN_at, enc_at, uI_enc, uI_uI, itn1, itn2, itn3, itn4, itc, itc0, itc1, upM_s, upM_n, hv, ixI hi, vpI hi]
    refine ⟨fun h => ?_, fun h => ?_⟩
    · have h3 := (nI_ltI (by have := hlt (7 + b); omega) (by have := hlt 4; unfold it at this; omega)).mp h
      exact h48 (by
        have h4 : ¬ it a i 4 ≤ it a i (7 + b) := by unfold it at h3 ⊢; omega
        simp [mg, h4])
    · have h3 : it a i 4 ≤ it a i (7 + b) := by
        rcases Nat.lt_or_ge (it a i (7 + b)) (it a i 4) with q | q
        · exact absurd (nI_lt q (by have := hlt 4; omega)) h
        · exact q
      refine V_cV hB hno (q_offer hc hS hi hb) rfl (by decide +kernel) cvX11_137 (dom1 rfl) npX11_offer ⟨by decide, by decide⟩ (Nat.le_of_ble_eq_true rfl) (n' := 0) (by decide) rfl ?_
      refine V_run hB (rt := some .boolean) (nL := 4) (mc := 0) rfl rfl rfl obX11_mayGet_41 ?_
      dsimp only [bX11_mayGet_41, ↓wpb, ↓wp1, ↓vI, ↓vL, ↓vD, ↓ldI, ↓ldL, ↓ldD, ↓ldR, ↓k1, ↓k2, ↓kI, ↓kL, ↓kD, ↓kII, ↓kLL, ↓kDD, ↓kR, ↓kIR, ↓kLR, ↓kIIR, ↓kLIR, ↓kDIR, ↓kRIR, ↓kNN, ↓kE, ↓br, ↓bn, ↓rtI, ↓gfv, ↓zchk, lput, ldel, lbad, alA, acat, isRf, dom, dS, dJ, isO, aTy, aLen, elAV, elR, Nat.reduceBEq, Nat.reduceAdd, Bool.or, Bool.and, Nat.add_zero, Nat.zero_add]
      try simp only [Nat.reduceLT, Nat.reduceLeDiff, Nat.reduceEqDiff, true_and, and_true, and_self, Nat.zero_le, Nat.le_refl, true_or, or_true, Bool.false_eq_true, not_false_eq_true, Nat.reduceAdd, Nat.lt_add_one, Nat.zero_lt_one, nI_add, pk_mul, ixL, vpL, ne_eq, reduceIte, wI_sA, sA_same, sA_ne, sA_sA, sA_comm, uI_at, uN_at, enc_at, uI_enc, uI_uI, itn1, itn2, itn3, itn4, itc, itc0, itc1, upM_s, upM_n]
      refine ⟨fun h => ?_, fun h => ?_⟩
      · have h4 := (nI_leI (b := 0) (by have := hlt (7 + b); omega) (by omega)).mp h
        exact h48 (by simp only [mg]; have : ¬ 0 < it a i (7 + b) := by omega
                      simp [this])
      · refine V_run hB (rt := some .boolean) (nL := 4) (mc := 0) rfl rfl rfl obX11_mayGet_49 ?_
        dsimp only [bX11_mayGet_49, ↓wpb, ↓wp1, ↓vI, ↓vL, ↓vD, ↓ldI, ↓ldL, ↓ldD, ↓ldR, ↓k1, ↓k2, ↓kI, ↓kL, ↓kD, ↓kII, ↓kLL, ↓kDD, ↓kR, ↓kIR, ↓kLR, ↓kIIR, ↓kLIR, ↓kDIR, ↓kRIR, ↓kNN, ↓kE, ↓br, ↓bn, ↓rtI, ↓gfv, ↓zchk, lput, ldel, lbad, alA, acat, isRf, dom, dS, dJ, isO, aTy, aLen, elAV, elR, Nat.reduceBEq, Nat.reduceAdd, Bool.or, Bool.and, Nat.add_zero, Nat.zero_add]
        try simp only [Nat.reduceLT, Nat.reduceLeDiff, Nat.reduceEqDiff, true_and, and_true, and_self, Nat.zero_le, Nat.le_refl, true_or, or_true, Bool.false_eq_true, not_false_eq_true, Nat.reduceAdd, Nat.lt_add_one, Nat.zero_lt_one, nI_add, pk_mul, ixL, vpL, ne_eq, reduceIte, wI_sA, sA_same, sA_ne, sA_sA, sA_comm, uI_at, uN_at, enc_at, uI_enc, uI_uI, itn1, itn2, itn3, itn4, itc, itc0, itc1, upM_s, upM_n]
        have h4 : 0 < it a i (7 + b) := by
          rcases Nat.eq_zero_or_pos (it a i (7 + b)) with q | q
          · rw [q] at h; exact absurd (by decide) h
          · exact q
        have e : mg a i b u = true := by simp [mg, h1, h2, h3, h4]
        rw [e]
        exact ⟨Or.inr rfl, rfl, rfl⟩
theorem q_evenings (hc : Ctx l G) {τ : Mem} {a : Nat → Nat} (hS : MS τ a) (hb : bidOk a) : Sat l G iX11_evenings [mM] τ (fun o τ' => o = .inl none ∧ ∃ r, τ' = sA τ 35 r ∧ BR r a 0) := by
  have hv := hS.1
  have hm := hS.2.1
  have hbd := bR_bd hb hm
  refine Sat_of hc.1 hc.2 (by decide +kernel) (Nat.le_of_ble_eq_true rfl) (fun x hB hno => ?_)
  have h40 : ∀ j, j ≤ a 4 → ∀ r, BR r a j → ∀ al, (∀ q ∈ [(0, mM), (1, aI (dI j))], lk al q.1 = some q.2) → V x (sA τ 35 r) 0 40 al [] := by
    intro j
    induction j with
    | zero =>
      intro _ r hr al hal
      refine V.sub ?_ hal
      refine V_run hB (rt := none) (nL := 6) (mc := 0) rfl rfl rfl obX11_evenings_40 ?_
      dsimp only [bX11_evenings_40, ↓wpb, ↓wp1, ↓vI, ↓vL, ↓vD, ↓ldI, ↓ldL, ↓ldD, ↓ldR, ↓k1, ↓k2, ↓kI, ↓kL, ↓kD, ↓kII, ↓kLL, ↓kDD, ↓kR, ↓kIR, ↓kLR, ↓kIIR, ↓kLIR, ↓kDIR, ↓kRIR, ↓kNN, ↓kE, ↓br, ↓bn, ↓rtI, ↓gfv, ↓zchk, lput, ldel, lbad, alA, acat, isRf, dom, dS, dJ, isO, aTy, aLen, elAV, elR, Nat.reduceBEq, Nat.reduceAdd, Bool.or, Bool.and, Nat.add_zero, Nat.zero_add]
      try simp only [Nat.reduceLT, Nat.reduceLeDiff, Nat.reduceEqDiff, true_and, and_true, and_self, Nat.zero_le, Nat.le_refl, true_or, or_true, Bool.false_eq_true, not_false_eq_true, Nat.reduceAdd, Nat.lt_add_one, Nat.zero_lt_one, nI_add, pk_mul, ixL, vpL, ne_eq, reduceIte, wI_sA, sA_same, sA_ne, sA_sA, sA_comm, uI_at, uN_at, enc_at, uI_enc, uI_uI, itn1, itn2, itn3, itn4, itc, itc0, itc1, upM_s, upM_n, dI]
      refine ⟨fun _ => ?_, fun h => absurd (by decide) h⟩
      refine V_run hB (rt := none) (nL := 6) (mc := 0) rfl rfl rfl obX11_evenings_157 ?_
      dsimp only [bX11_evenings_157, ↓wpb, ↓wp1, ↓vI, ↓vL, ↓vD, ↓ldI, ↓ldL, ↓ldD, ↓ldR, ↓k1, ↓k2, ↓kI, ↓kL, ↓kD, ↓kII, ↓kLL, ↓kDD, ↓kR, ↓kIR, ↓kLR, ↓kIIR, ↓kLIR, ↓kDIR, ↓kRIR, ↓kNN, ↓kE, ↓br, ↓bn, ↓rtI, ↓gfv, ↓zchk, lput, ldel, lbad, alA, acat, isRf, dom, dS, dJ, isO, aTy, aLen, elAV, elR, Nat.reduceBEq, Nat.reduceAdd, Bool.or, Bool.and, Nat.add_zero, Nat.zero_add]
      try simp only [Nat.reduceLT, Nat.reduceLeDiff, Nat.reduceEqDiff, true_and, and_true, and_self, Nat.zero_le, Nat.le_refl, true_or, or_true, Bool.false_eq_true, not_false_eq_true, Nat.reduceAdd, Nat.lt_add_one, Nat.zero_lt_one, nI_add, pk_mul, ixL, vpL, ne_eq, reduceIte, wI_sA, sA_same, sA_ne, sA_sA, sA_comm, uI_at, uN_at, enc_at, uI_enc, uI_uI, itn1, itn2, itn3, itn4, itc, itc0, itc1, upM_s, upM_n]
      exact ⟨r, rfl, hr⟩
    | succ i ih =>
      intro hj r hr al hal
      refine V.sub ?_ hal
      have hi10 : i < 10 := by omega
      have h46 : ∀ w u, u + w = 32 → ∀ r, BR r a (i + 1) → (∀ u', u' < u → r (32 * i + u') = nI (bR a (a 4 - i) u')) → ∀ al, (∀ q ∈ [(0, mM), (1, aI (nI i)), (2, aI (nI u))], lk al q.1 = some q.2) → V x (sA τ 35 r) 0 46 al [] := by
        intro w
        induction w with
        | zero =>
          intro u hu r hr hru al hal
          have hu : u = 32 := by omega
          subst hu
          refine V.sub ?_ hal
          refine V_run hB (rt := none) (nL := 6) (mc := 0) rfl rfl rfl obX11_evenings_46 ?_
          dsimp only [bX11_evenings_46, ↓wpb, ↓wp1, ↓vI, ↓vL, ↓vD, ↓ldI, ↓ldL, ↓ldD, ↓ldR, ↓k1, ↓k2, ↓kI, ↓kL, ↓kD, ↓kII, ↓kLL, ↓kDD, ↓kR, ↓kIR, ↓kLR, ↓kIIR, ↓kLIR, ↓kDIR, ↓kRIR, ↓kNN, ↓kE, ↓br, ↓bn, ↓rtI, ↓gfv, ↓zchk, lput, ldel, lbad, alA, acat, isRf, dom, dS, dJ, isO, aTy, aLen, elAV, elR, Nat.reduceBEq, Nat.reduceAdd, Bool.or, Bool.and, Nat.add_zero, Nat.zero_add]
          try simp only [Nat.reduceLT, Nat.reduceLeDiff, Nat.reduceEqDiff, true_and, and_true, and_self, Nat.zero_le, Nat.le_refl, true_or, or_true, Bool.false_eq_true, not_false_eq_true, Nat.reduceAdd, Nat.lt_add_one, Nat.zero_lt_one, nI_add, pk_mul, ixL, vpL, ne_eq, reduceIte, wI_sA, sA_same, sA_ne, sA_sA, sA_comm, uI_at, uN_at, enc_at, uI_enc, uI_uI, itn1, itn2, itn3, itn4, itc, itc0, itc1, upM_s, upM_n]
          refine ⟨fun _ => ?_, fun h => absurd (nI_le (by omega) (by omega)) h⟩
          refine V_run hB (rt := none) (nL := 6) (mc := 0) rfl rfl rfl obX11_evenings_151 ?_
          dsimp only [bX11_evenings_151, ↓wpb, ↓wp1, ↓vI, ↓vL, ↓vD, ↓ldI, ↓ldL, ↓ldD, ↓ldR, ↓k1, ↓k2, ↓kI, ↓kL, ↓kD, ↓kII, ↓kLL, ↓kDD, ↓kR, ↓kIR, ↓kLR, ↓kIIR, ↓kLIR, ↓kDIR, ↓kRIR, ↓kNN, ↓kE, ↓br, ↓bn, ↓rtI, ↓gfv, ↓zchk, lput, ldel, lbad, alA, acat, isRf, dom, dS, dJ, isO, aTy, aLen, elAV, elR, Nat.reduceBEq, Nat.reduceAdd, Bool.or, Bool.and, Nat.add_zero, Nat.zero_add]
          try simp only [Nat.reduceLT, Nat.reduceLeDiff, Nat.reduceEqDiff, true_and, and_true, and_self, Nat.zero_le, Nat.le_refl, true_or, or_true, Bool.false_eq_true, not_false_eq_true, Nat.reduceAdd, Nat.lt_add_one, Nat.zero_lt_one, nI_add, pk_mul, ixL, vpL, ne_eq, reduceIte, wI_sA, sA_same, sA_ne, sA_sA, sA_comm, uI_at, uN_at, enc_at, uI_enc, uI_uI, itn1, itn2, itn3, itn4, itc, itc0, itc1, upM_s, upM_n, dI_dec]
          refine ih (by omega) r ?_ _ (List.forall_mem_cons.mpr ⟨rfl, List.forall_mem_cons.mpr ⟨rfl, fun _ h => absurd h List.not_mem_nil⟩⟩)
          intro i' h1 h2 u' h3
          by_cases h4 : i' = i
          · subst h4; exact hru u' h3
          · exact hr i' (by omega) h2 u' h3
        | succ w ih2 =>
          intro u hu r hr hru al hal
          refine V.sub ?_ hal
          have hu32 : u < 32 := by omega
          have hF : ∀ v, v < 32 → r (32 * (i + 1) + v) = nI (bR a (a 4 - (i + 1)) v) := fun v hv => hr (i + 1) (Nat.le_refl _) (by omega) v hv
          have eF : bR a (a 4 - i) u = bsU a i u (bR a (a 4 - (i + 1))) 5 := by
            have e1 : a 4 - i = (a 4 - (i + 1)) + 1 := by omega
            rw [e1]
            show bsU a (a 4 - (a 4 - (i + 1) + 1)) u _ 5 = _
            rw [show a 4 - (a 4 - (i + 1) + 1) = i by omega]
          have hMF : ∀ v, bR a (a 4 - (i + 1)) v ≤ 9990 := fun v => by have := hbd (a 4 - (i + 1)) (by omega) v; omega
          have h69 : ∀ w b, b + w = 5 → ∀ al, (∀ q ∈ [(0, mM), (1, aI (nI i)), (2, aI (nI u)), (3, aI (nI (bsU a i u (bR a (a 4 - (i + 1))) b))), (4, aI (nI b))], lk al q.1 = some q.2) → V x (sA τ 35 r) 0 69 al [] := by
            intro w
            induction w with
            | zero =>
              intro b hb5 al hal
              have hb5 : b = 5 := by omega
              subst hb5
              refine V.sub ?_ hal
              have ix : (nI (32 * i + u)).toNatClampNeg = 32 * i + u := ixL (by omega)
              have vx : vp_in (nI (32 * i + u)) 352 = True := vpL (by omega) (by omega)
              refine V_run hB (rt := none) (nL := 6) (mc := 0) rfl rfl rfl obX11_evenings_69 ?_
              dsimp only [bX11_evenings_69, ↓wpb, ↓wp1, ↓vI, ↓vL, ↓vD, ↓ldI, ↓ldL, ↓ldD, ↓ldR, ↓k1, ↓k2, ↓kI, ↓kL, ↓kD, ↓kII, ↓kLL, ↓kDD, ↓kR, ↓kIR, ↓kLR, ↓kIIR, ↓kLIR, ↓kDIR, ↓kRIR, ↓kNN, ↓kE, ↓br, ↓bn, ↓rtI, ↓gfv, ↓zchk, lput, ldel, lbad, alA, acat, isRf, dom, dS, dJ, isO, aTy, aLen, elAV, elR, Nat.reduceBEq, Nat.reduceAdd, Bool.or, Bool.and, Nat.add_zero, Nat.zero_add]
              try simp only [Nat.reduceLT, Nat.reduceLeDiff, Nat.reduceEqDiff, true_and, and_true, and_self, Nat.zero_le, Nat.le_refl, true_or, or_true, Bool.false_eq_true, not_false_eq_true, Nat.reduceAdd, Nat.lt_add_one, Nat.zero_lt_one, nI_add, pk_mul, ixL, vpL, ne_eq, reduceIte, wI_sA, sA_same, sA_ne, sA_sA, sA_comm, uI_at, uN_at, enc_at, uI_enc, uI_uI, itn1, itn2, itn3, itn4, itc, itc0, itc1, upM_s, upM_n]
              refine ⟨fun _ => ?_, fun h => absurd (nI_le (by omega) (by omega)) h⟩
              refine V_run hB (rt := none) (nL := 6) (mc := 0) rfl rfl rfl obX11_evenings_133 ?_
              dsimp only [bX11_evenings_133, ↓wpb, ↓wp1, ↓vI, ↓vL, ↓vD, ↓ldI, ↓ldL, ↓ldD, ↓ldR, ↓k1, ↓k2, ↓kI, ↓kL, ↓kD, ↓kII, ↓kLL, ↓kDD, ↓kR, ↓kIR, ↓kLR, ↓kIIR, ↓kLIR, ↓kDIR, ↓kRIR, ↓kNN, ↓kE, ↓br, ↓bn, ↓rtI, ↓gfv, ↓zchk, lput, ldel, lbad, alA, acat, isRf, dom, dS, dJ, isO, aTy, aLen, elAV, elR, Nat.reduceBEq, Nat.reduceAdd, Bool.or, Bool.and, Nat.add_zero, Nat.zero_add]
              try simp only [Nat.reduceLT, Nat.reduceLeDiff, Nat.reduceEqDiff, true_and, and_true, and_self, Nat.zero_le, Nat.le_refl, true_or, or_true, Bool.false_eq_true, not_false_eq_true, Nat.reduceAdd, Nat.lt_add_one, Nat.zero_lt_one, nI_add, pk_mul, ixL, vpL, ne_eq, reduceIte, wI_sA, sA_same, sA_ne, sA_sA, sA_comm, uI_at, uN_at, enc_at, uI_enc, uI_uI, itn1, itn2, itn3, itn4, itc, itc0, itc1, upM_s, upM_n, ix, vx]
              refine ih2 (u + 1) (by omega) _ ?_ ?_ _ (List.forall_mem_cons.mpr ⟨rfl, List.forall_mem_cons.mpr ⟨rfl, List.forall_mem_cons.mpr ⟨rfl, fun _ h => absurd h List.not_mem_nil⟩⟩⟩)
              · intro i' h1 h2 u' h3
                rw [uI_at, if_neg (by omega)]
                exact hr i' h1 h2 u' h3
              · intro u' h3
                rw [uI_at]
                by_cases h4 : u' = u
                · subst h4; rw [if_pos rfl, eF]
                · rw [if_neg (by omega)]; exact hru u' (by omega)
            | succ w ih3 =>
              intro b hb5 al hal
              have hb5 : b < 5 := by omega
              refine V.sub ?_ hal
              have hub : bsU a i u (bR a (a 4 - (i + 1))) (b + 1) = if mg a i b u = true ∧ bsU a i u (bR a (a 4 - (i + 1))) b < it a i (7 + b) + bR a (a 4 - (i + 1)) (u ||| 2 ^ b) then it a i (7 + b) + bR a (a 4 - (i + 1)) (u ||| 2 ^ b) else bsU a i u (bR a (a 4 - (i + 1))) b := rfl
              have hcur := bsU_bd hb (u := u) hi10 hMF b (by omega)
              have h127 : ∀ z, bsU a i u (bR a (a 4 - (i + 1))) (b + 1) = z → ∀ al, (∀ q ∈ [(0, mM), (1, aI (nI i)), (2, aI (nI u)), (3, aI (nI z)), (4, aI (nI b))], lk al q.1 = some q.2) → V x (sA τ 35 r) 0 127 al [] := by
                intro z hz al hal
                refine V.sub ?_ hal
                refine V_run hB (rt := none) (nL := 6) (mc := 0) rfl rfl rfl obX11_evenings_127 ?_
                dsimp only [bX11_evenings_127, ↓wpb, ↓wp1, ↓vI, ↓vL, ↓vD, ↓ldI, ↓ldL, ↓ldD, ↓ldR, ↓k1, ↓k2, ↓kI, ↓kL, ↓kD, ↓kII, ↓kLL, ↓kDD, ↓kR, ↓kIR, ↓kLR, ↓kIIR, ↓kLIR, ↓kDIR, ↓kRIR, ↓kNN, ↓kE, ↓br, ↓bn, ↓rtI, ↓gfv, ↓zchk, lput, ldel, lbad, alA, acat, isRf, dom, dS, dJ, isO, aTy, aLen, elAV, elR, Nat.reduceBEq, Nat.reduceAdd, Bool.or, Bool.and, Nat.add_zero, Nat.zero_add]
                try simp only [Nat.reduceLT, Nat.reduceLeDiff, Nat.reduceEqDiff, true_and, and_true, and_self, Nat.zero_le, Nat.le_refl, true_or, or_true, Bool.false_eq_true, not_false_eq_true, Nat.reduceAdd, Nat.lt_add_one, Nat.zero_lt_one, nI_add, pk_mul, ixL, vpL, ne_eq, reduceIte, wI_sA, sA_same, sA_ne, sA_sA, sA_comm, uI_at, uN_at, enc_at, uI_enc, uI_uI, itn1, itn2, itn3, itn4, itc, itc0, itc1, upM_s, upM_n]
                exact ih3 (b + 1) (by omega) _ (by rw [hz]; exact (List.forall_mem_cons.mpr ⟨rfl, List.forall_mem_cons.mpr ⟨rfl, List.forall_mem_cons.mpr ⟨rfl, List.forall_mem_cons.mpr ⟨rfl, List.forall_mem_cons.mpr ⟨rfl, fun _ h => absurd h List.not_mem_nil⟩⟩⟩⟩⟩))
              refine V_run hB (rt := none) (nL := 6) (mc := 0) rfl rfl rfl obX11_evenings_69 ?_
              dsimp only [bX11_evenings_69, ↓wpb, ↓wp1, ↓vI, ↓vL, ↓vD, ↓ldI, ↓ldL, ↓ldD, ↓ldR, ↓k1, ↓k2, ↓kI, ↓kL, ↓kD, ↓kII, ↓kLL, ↓kDD, ↓kR, ↓kIR, ↓kLR, ↓kIIR, ↓kLIR, ↓kDIR, ↓kRIR, ↓kNN, ↓kE, ↓br, ↓bn, ↓rtI, ↓gfv, ↓zchk, lput, ldel, lbad, alA, acat, isRf, dom, dS, dJ, isO, aTy, aLen, elAV, elR, Nat.reduceBEq, Nat.reduceAdd, Bool.or, Bool.and, Nat.add_zero, Nat.zero_add]
              try simp only [Nat.reduceLT, Nat.reduceLeDiff, Nat.reduceEqDiff, true_and, and_true, and_self, Nat.zero_le, Nat.le_refl, true_or, or_true, Bool.false_eq_true, not_false_eq_true, Nat.reduceAdd, Nat.lt_add_one, Nat.zero_lt_one, nI_add, pk_mul, ixL, vpL, ne_eq, reduceIte, wI_sA, sA_same, sA_ne, sA_sA, sA_comm, uI_at, uN_at, enc_at, uI_enc, uI_uI, itn1, itn2, itn3, itn4, itc, itc0, itc1, upM_s, upM_n]
              refine ⟨fun h => absurd h (nI_ge (by omega) (by omega)), fun _ => ?_⟩
              refine V_cV hB hno (q_mayGet hc hS.s35 hi10 hb5 hu32) rfl (by decide +kernel) cvX11_156 (dom1 rfl) npX11_mayGet ⟨by decide, by decide⟩ (Nat.le_of_ble_eq_true rfl) (n' := 0) (by decide) rfl ?_
              refine V_run hB (rt := none) (nL := 6) (mc := 0) rfl rfl rfl obX11_evenings_83 ?_
              dsimp only [bX11_evenings_83, ↓wpb, ↓wp1, ↓vI, ↓vL, ↓vD, ↓ldI, ↓ldL, ↓ldD, ↓ldR, ↓k1, ↓k2, ↓kI, ↓kL, ↓kD, ↓kII, ↓kLL, ↓kDD, ↓kR, ↓kIR, ↓kLR, ↓kIIR, ↓kLIR, ↓kDIR, ↓kRIR, ↓kNN, ↓kE, ↓br, ↓bn, ↓rtI, ↓gfv, ↓zchk, lput, ldel, lbad, alA, acat, isRf, dom, dS, dJ, isO, aTy, aLen, elAV, elR, Nat.reduceBEq, Nat.reduceAdd, Bool.or, Bool.and, Nat.add_zero, Nat.zero_add]
              try simp only [Nat.reduceLT, Nat.reduceLeDiff, Nat.reduceEqDiff, true_and, and_true, and_self, Nat.zero_le, Nat.le_refl, true_or, or_true, Bool.false_eq_true, not_false_eq_true, Nat.reduceAdd, Nat.lt_add_one, Nat.zero_lt_one, nI_add, pk_mul, ixL, vpL, ne_eq, reduceIte, wI_sA, sA_same, sA_ne, sA_sA, sA_comm, uI_at, uN_at, enc_at, uI_enc, uI_uI, itn1, itn2, itn3, itn4, itc, itc0, itc1, upM_s, upM_n, bN_0]
              refine ⟨fun h => ?_, fun h => ?_⟩
              · refine V_run hB (rt := none) (nL := 6) (mc := 0) rfl rfl rfl obX11_evenings_115 ?_
                dsimp only [bX11_evenings_115, ↓wpb, ↓wp1, ↓vI, ↓vL, ↓vD, ↓ldI, ↓ldL, ↓ldD, ↓ldR, ↓k1, ↓k2, ↓kI, ↓kL, ↓kD, ↓kII, ↓kLL, ↓kDD, ↓kR, ↓kIR, ↓kLR, ↓kIIR, ↓kLIR, ↓kDIR, ↓kRIR, ↓kNN, ↓kE, ↓br, ↓bn, ↓rtI, ↓gfv, ↓zchk, lput, ldel, lbad, alA, acat, isRf, dom, dS, dJ, isO, aTy, aLen, elAV, elR, Nat.reduceBEq, Nat.reduceAdd, Bool.or, Bool.and, Nat.add_zero, Nat.zero_add]
                try simp only [Nat.reduceLT, Nat.reduceLeDiff, Nat.reduceEqDiff, true_and, and_true, and_self, Nat.zero_le, Nat.le_refl, true_or, or_true, Bool.false_eq_true, not_false_eq_true, Nat.reduceAdd, Nat.lt_add_one, Nat.zero_lt_one, nI_add, pk_mul, ixL, vpL, ne_eq, reduceIte, wI_sA, sA_same, sA_ne, sA_sA, sA_comm, uI_at, uN_at, enc_at, uI_enc, uI_uI, itn1, itn2, itn3, itn4, itc, itc0, itc1, upM_s, upM_n]
                refine ⟨fun _ => h127 _ (by rw [hub, if_neg (fun q => by rw [h] at q; cases q.1)]) _ (List.forall_mem_cons.mpr ⟨rfl, List.forall_mem_cons.mpr ⟨rfl, List.forall_mem_cons.mpr ⟨rfl, List.forall_mem_cons.mpr ⟨rfl, List.forall_mem_cons.mpr ⟨rfl, fun _ h => absurd h List.not_mem_nil⟩⟩⟩⟩⟩), fun h2 => absurd (neg1_le (by omega)) h2⟩
              · have h : mg a i b u = true := by simpa using h
                have hor := or5_lt u hu32 b hb5
                have hF2 := hF (u ||| 2 ^ b) hor
                have hM2 := hMF (u ||| 2 ^ b)
                have hbb := hb i hi10 b hb5
                have ix : (nI (32 * (i + 1) + (u ||| 2 ^ b))).toNatClampNeg = 32 * (i + 1) + (u ||| 2 ^ b) := ixL (by omega)
                have vx : vp_in (nI (32 * (i + 1) + (u ||| 2 ^ b))) 352 = True := vpL (by omega) (by omega)
                refine V_cV hB hno (q_offer hc hS.s35 hi10 hb5) rfl (by decide +kernel) cvX11_137 (dom1 rfl) npX11_offer ⟨by decide, by decide⟩ (Nat.le_of_ble_eq_true rfl) (n' := 0) (by decide) rfl ?_
                refine V_run hB (rt := none) (nL := 6) (mc := 0) rfl rfl rfl obX11_evenings_93 ?_
                dsimp only [bX11_evenings_93, ↓wpb, ↓wp1, ↓vI, ↓vL, ↓vD, ↓ldI, ↓ldL, ↓ldD, ↓ldR, ↓k1, ↓k2, ↓kI, ↓kL, ↓kD, ↓kII, ↓kLL, ↓kDD, ↓kR, ↓kIR, ↓kLR, ↓kIIR, ↓kLIR, ↓kDIR, ↓kRIR, ↓kNN, ↓kE, ↓br, ↓bn, ↓rtI, ↓gfv, ↓zchk, lput, ldel, lbad, alA, acat, isRf, dom, dS, dJ, isO, aTy, aLen, elAV, elR, Nat.reduceBEq, Nat.reduceAdd, Bool.or, Bool.and, Nat.add_zero, Nat.zero_add]
                try simp only [Nat.reduceLT, Nat.reduceLeDiff, Nat.reduceEqDiff, true_and, and_true, and_self, Nat.zero_le, Nat.le_refl, true_or, or_true, Bool.false_eq_true, not_false_eq_true, Nat.reduceAdd, Nat.lt_add_one, Nat.zero_lt_one, nI_add, pk_mul, ixL, vpL, ne_eq, reduceIte, wI_sA, sA_same, sA_ne, sA_sA, sA_comm, uI_at, uN_at, enc_at, uI_enc, uI_uI, itn1, itn2, itn3, itn4, itc, itc0, itc1, upM_s, upM_n, shl5 b hb5, or5 u hu32 b hb5, ix, vx, hF2]
                refine V_run hB (rt := none) (nL := 6) (mc := 0) rfl rfl rfl obX11_evenings_116 ?_
                dsimp only [bX11_evenings_116, ↓wpb, ↓wp1, ↓vI, ↓vL, ↓vD, ↓ldI, ↓ldL, ↓ldD, ↓ldR, ↓k1, ↓k2, ↓kI, ↓kL, ↓kD, ↓kII, ↓kLL, ↓kDD, ↓kR, ↓kIR, ↓kLR, ↓kIIR, ↓kLIR, ↓kDIR, ↓kRIR, ↓kNN, ↓kE, ↓br, ↓bn, ↓rtI, ↓gfv, ↓zchk, lput, ldel, lbad, alA, acat, isRf, dom, dS, dJ, isO, aTy, aLen, elAV, elR, Nat.reduceBEq, Nat.reduceAdd, Bool.or, Bool.and, Nat.add_zero, Nat.zero_add]
                try simp only [Nat.reduceLT, Nat.reduceLeDiff, Nat.reduceEqDiff, true_and, and_true, and_self, Nat.zero_le, Nat.le_refl, true_or, or_true, Bool.false_eq_true, not_false_eq_true, Nat.reduceAdd, Nat.lt_add_one, Nat.zero_lt_one, nI_add, pk_mul, ixL, vpL, ne_eq, reduceIte, wI_sA, sA_same, sA_ne, sA_sA, sA_comm, uI_at, uN_at, enc_at, uI_enc, uI_uI, itn1, itn2, itn3, itn4, itc, itc0, itc1, upM_s, upM_n]
                refine ⟨fun h2 => ?_, fun h2 => ?_⟩
                · have h3 := (nI_leI (by omega) (by omega)).mp h2
                  exact h127 _ (by rw [hub, if_neg (fun q => by have := q.2; omega)]) _ (List.forall_mem_cons.mpr ⟨rfl, List.forall_mem_cons.mpr ⟨rfl, List.forall_mem_cons.mpr ⟨rfl, List.forall_mem_cons.mpr ⟨rfl, List.forall_mem_cons.mpr ⟨rfl, fun _ h => absurd h List.not_mem_nil⟩⟩⟩⟩⟩)
                · have h3 : bsU a i u (bR a (a 4 - (i + 1))) b < it a i (7 + b) + bR a (a 4 - (i + 1)) (u ||| 2 ^ b) := by
                    rcases Nat.lt_or_ge (bsU a i u (bR a (a 4 - (i + 1))) b) (it a i (7 + b) + bR a (a 4 - (i + 1)) (u ||| 2 ^ b)) with q | q
                    · exact q
                    · exact absurd (nI_le q (by omega)) h2
                  rw [if_pos ⟨h, h3⟩] at hub
                  exact ih3 (b + 1) (by omega) _ (by rw [hub]; exact (List.forall_mem_cons.mpr ⟨rfl, List.forall_mem_cons.mpr ⟨rfl, List.forall_mem_cons.mpr ⟨rfl, List.forall_mem_cons.mpr ⟨rfl, List.forall_mem_cons.mpr ⟨rfl, fun _ h => absurd h List.not_mem_nil⟩⟩⟩⟩⟩))
          have ix : (nI (32 * (i + 1) + u)).toNatClampNeg = 32 * (i + 1) + u := ixL (by omega)
          have vx : vp_in (nI (32 * (i + 1) + u)) 352 = True := vpL (by omega) (by omega)
          have hFu := hF u hu32
          refine V_run hB (rt := none) (nL := 6) (mc := 0) rfl rfl rfl obX11_evenings_46 ?_
          dsimp only [bX11_evenings_46, ↓wpb, ↓wp1, ↓vI, ↓vL, ↓vD, ↓ldI, ↓ldL, ↓ldD, ↓ldR, ↓k1, ↓k2, ↓kI, ↓kL, ↓kD, ↓kII, ↓kLL, ↓kDD, ↓kR, ↓kIR, ↓kLR, ↓kIIR, ↓kLIR, ↓kDIR, ↓kRIR, ↓kNN, ↓kE, ↓br, ↓bn, ↓rtI, ↓gfv, ↓zchk, lput, ldel, lbad, alA, acat, isRf, dom, dS, dJ, isO, aTy, aLen, elAV, elR, Nat.reduceBEq, Nat.reduceAdd, Bool.or, Bool.and, Nat.add_zero, Nat.zero_add]
          try simp only [Nat.reduceLT, Nat.reduceLeDiff, Nat.reduceEqDiff, true_and, and_true, and_self, Nat.zero_le, Nat.le_refl, true_or, or_true, Bool.false_eq_true, not_false_eq_true, Nat.reduceAdd, Nat.lt_add_one, Nat.zero_lt_one, nI_add, pk_mul, ixL, vpL, ne_eq, reduceIte, wI_sA, sA_same, sA_ne, sA_sA, sA_comm, uI_at, uN_at, enc_at, uI_enc, uI_uI, itn1, itn2, itn3, itn4, itc, itc0, itc1, upM_s, upM_n, ix, vx, hFu]
          refine ⟨fun h => absurd h (nI_ge (by omega) (by omega)), fun _ => ?_⟩
          exact h69 5 0 (by omega) _ (List.forall_mem_cons.mpr ⟨rfl, List.forall_mem_cons.mpr ⟨rfl, List.forall_mem_cons.mpr ⟨rfl, List.forall_mem_cons.mpr ⟨rfl, List.forall_mem_cons.mpr ⟨rfl, fun _ h => absurd h List.not_mem_nil⟩⟩⟩⟩⟩)
      refine V_run hB (rt := none) (nL := 6) (mc := 0) rfl rfl rfl obX11_evenings_40 ?_
      dsimp only [bX11_evenings_40, ↓wpb, ↓wp1, ↓vI, ↓vL, ↓vD, ↓ldI, ↓ldL, ↓ldD, ↓ldR, ↓k1, ↓k2, ↓kI, ↓kL, ↓kD, ↓kII, ↓kLL, ↓kDD, ↓kR, ↓kIR, ↓kLR, ↓kIIR, ↓kLIR, ↓kDIR, ↓kRIR, ↓kNN, ↓kE, ↓br, ↓bn, ↓rtI, ↓gfv, ↓zchk, lput, ldel, lbad, alA, acat, isRf, dom, dS, dJ, isO, aTy, aLen, elAV, elR, Nat.reduceBEq, Nat.reduceAdd, Bool.or, Bool.and, Nat.add_zero, Nat.zero_add]
      try simp only [Nat.reduceLT, Nat.reduceLeDiff, Nat.reduceEqDiff, true_and, and_true, and_self, Nat.zero_le, Nat.le_refl, true_or, or_true, Bool.false_eq_true, not_false_eq_true, Nat.reduceAdd, Nat.lt_add_one, Nat.zero_lt_one, nI_add, pk_mul, ixL, vpL, ne_eq, reduceIte, wI_sA, sA_same, sA_ne, sA_sA, sA_comm, uI_at, uN_at, enc_at, uI_enc, uI_uI, itn1, itn2, itn3, itn4, itc, itc0, itc1, upM_s, upM_n, dI]
      refine ⟨fun h => absurd h (nI_pos (by omega)), fun _ => ?_⟩
      exact h46 32 0 (by omega) r hr (fun u' h => absurd h (Nat.not_lt_zero _)) _ (List.forall_mem_cons.mpr ⟨rfl, List.forall_mem_cons.mpr ⟨rfl, List.forall_mem_cons.mpr ⟨rfl, fun _ h => absurd h List.not_mem_nil⟩⟩⟩)
  have h2 : ∀ w u, u + w = 32 → ∀ r, (∀ u', u' < u → r (32 * a 4 + u') = nI 0) → V x (sA τ 35 r) 0 2 [(0, mM), (1, aI (nI u))] [] := by
    intro w
    induction w with
    | zero =>
      intro u hu r hr
      have hu : u = 32 := by omega
      subst hu
      refine V_run hB (rt := none) (nL := 6) (mc := 0) rfl rfl rfl obX11_evenings_2 ?_
      dsimp only [bX11_evenings_2, ↓wpb, ↓wp1, ↓vI, ↓vL, ↓vD, ↓ldI, ↓ldL, ↓ldD, ↓ldR, ↓k1, ↓k2, ↓kI, ↓kL, ↓kD, ↓kII, ↓kLL, ↓kDD, ↓kR, ↓kIR, ↓kLR, ↓kIIR, ↓kLIR, ↓kDIR, ↓kRIR, ↓kNN, ↓kE, ↓br, ↓bn, ↓rtI, ↓gfv, ↓zchk, lput, ldel, lbad, alA, acat, isRf, dom, dS, dJ, isO, aTy, aLen, elAV, elR, Nat.reduceBEq, Nat.reduceAdd, Bool.or, Bool.and, Nat.add_zero, Nat.zero_add]
      try simp only [Nat.reduceLT, Nat.reduceLeDiff, Nat.reduceEqDiff, true_and, and_true, and_self, Nat.zero_le, Nat.le_refl, true_or, or_true, Bool.false_eq_true, not_false_eq_true, Nat.reduceAdd, Nat.lt_add_one, Nat.zero_lt_one, nI_add, pk_mul, ixL, vpL, ne_eq, reduceIte, wI_sA, sA_same, sA_ne, sA_sA, sA_comm, uI_at, uN_at, enc_at, uI_enc, uI_uI, itn1, itn2, itn3, itn4, itc, itc0, itc1, upM_s, upM_n]
      refine ⟨fun _ => ?_, fun h => absurd (nI_le (by omega) (by omega)) h⟩
      refine V_run hB (rt := none) (nL := 6) (mc := 0) rfl rfl rfl obX11_evenings_31 ?_
      dsimp only [bX11_evenings_31, ↓wpb, ↓wp1, ↓vI, ↓vL, ↓vD, ↓ldI, ↓ldL, ↓ldD, ↓ldR, ↓k1, ↓k2, ↓kI, ↓kL, ↓kD, ↓kII, ↓kLL, ↓kDD, ↓kR, ↓kIR, ↓kLR, ↓kIIR, ↓kLIR, ↓kDIR, ↓kRIR, ↓kNN, ↓kE, ↓br, ↓bn, ↓rtI, ↓gfv, ↓zchk, lput, ldel, lbad, alA, acat, isRf, dom, dS, dJ, isO, aTy, aLen, elAV, elR, Nat.reduceBEq, Nat.reduceAdd, Bool.or, Bool.and, Nat.add_zero, Nat.zero_add]
      try simp only [Nat.reduceLT, Nat.reduceLeDiff, Nat.reduceEqDiff, true_and, and_true, and_self, Nat.zero_le, Nat.le_refl, true_or, or_true, Bool.false_eq_true, not_false_eq_true, Nat.reduceAdd, Nat.lt_add_one, Nat.zero_lt_one, nI_add, pk_mul, ixL, vpL, ne_eq, reduceIte, wI_sA, sA_same, sA_ne, sA_sA, sA_comm, uI_at, uN_at, enc_at, uI_enc, uI_uI, itn1, itn2, itn3, itn4, itc, itc0, itc1, upM_s, upM_n, hv, dI_sub]
      refine h40 (a 4) (Nat.le_refl _) r ?_ _ (List.forall_mem_cons.mpr ⟨rfl, List.forall_mem_cons.mpr ⟨rfl, fun _ h => absurd h List.not_mem_nil⟩⟩)
      intro i h1 h2 u h3
      have : i = a 4 := by omega
      subst this
      rw [hr u h3, Nat.sub_self]
      rfl
    | succ w ih =>
      intro u hu r hr
      have ix : (nI (32 * a 4 + u)).toNatClampNeg = 32 * a 4 + u := ixL (by omega)
      have vx : vp_in (nI (32 * a 4 + u)) 352 = True := vpL (by omega) (by omega)
      refine V_run hB (rt := none) (nL := 6) (mc := 0) rfl rfl rfl obX11_evenings_2 ?_
      dsimp only [bX11_evenings_2, ↓wpb, ↓wp1, ↓vI, ↓vL, ↓vD, ↓ldI, ↓ldL, ↓ldD, ↓ldR, ↓k1, ↓k2, ↓kI, ↓kL, ↓kD, ↓kII, ↓kLL, ↓kDD, ↓kR, ↓kIR, ↓kLR, ↓kIIR, ↓kLIR, ↓kDIR, ↓kRIR, ↓kNN, ↓kE, ↓br, ↓bn, ↓rtI, ↓gfv, ↓zchk, lput, ldel, lbad, alA, acat, isRf, dom, dS, dJ, isO, aTy, aLen, elAV, elR, Nat.reduceBEq, Nat.reduceAdd, Bool.or, Bool.and, Nat.add_zero, Nat.zero_add]
      try simp only [Nat.reduceLT, Nat.reduceLeDiff, Nat.reduceEqDiff, true_and, and_true, and_self, Nat.zero_le, Nat.le_refl, true_or, or_true, Bool.false_eq_true, not_false_eq_true, Nat.reduceAdd, Nat.lt_add_one, Nat.zero_lt_one, nI_add, pk_mul, ixL, vpL, ne_eq, reduceIte, wI_sA, sA_same, sA_ne, sA_sA, sA_comm, uI_at, uN_at, enc_at, uI_enc, uI_uI, itn1, itn2, itn3, itn4, itc, itc0, itc1, upM_s, upM_n, hv, ix, vx]
      refine ⟨fun h => absurd h (nI_ge (by omega) (by omega)), fun _ => ?_⟩
      refine ih (u + 1) (by omega) _ ?_
      intro u' h
      rw [uI_at]
      by_cases h4 : u' = u
      · subst h4; rw [if_pos rfl]
      · rw [if_neg (by omega)]; exact hr u' (by omega)
  refine V_run hB (rt := none) (nL := 6) (mc := 0) rfl rfl rfl obX11_evenings_0 ?_
  dsimp only [bX11_evenings_0, ↓wpb, ↓wp1, ↓vI, ↓vL, ↓vD, ↓ldI, ↓ldL, ↓ldD, ↓ldR, ↓k1, ↓k2, ↓kI, ↓kL, ↓kD, ↓kII, ↓kLL, ↓kDD, ↓kR, ↓kIR, ↓kLR, ↓kIIR, ↓kLIR, ↓kDIR, ↓kRIR, ↓kNN, ↓kE, ↓br, ↓bn, ↓rtI, ↓gfv, ↓zchk, lput, ldel, lbad, alA, acat, isRf, dom, dS, dJ, isO, aTy, aLen, elAV, elR, Nat.reduceBEq, Nat.reduceAdd, Bool.or, Bool.and, Nat.add_zero, Nat.zero_add]
  try simp only [Nat.reduceLT, Nat.reduceLeDiff, Nat.reduceEqDiff, true_and, and_true, and_self, Nat.zero_le, Nat.le_refl, true_or, or_true, Bool.false_eq_true, not_false_eq_true, Nat.reduceAdd, Nat.lt_add_one, Nat.zero_lt_one, nI_add, pk_mul, ixL, vpL, ne_eq, reduceIte, wI_sA, sA_same, sA_ne, sA_sA, sA_comm, uI_at, uN_at, enc_at, uI_enc, uI_uI, itn1, itn2, itn3, itn4, itc, itc0, itc1, upM_s, upM_n]
  have h := h2 32 0 (by omega) (τ.1 (35, 0, 0)) (fun u' h => absurd h (Nat.not_lt_zero _))
  rw [sA_id rfl] at h
  exact h
theorem q_gets (hc : Ctx l G) {τ : Mem} {a : Nat → Nat} (hS : MS τ a) (hb : bidOk a) (hr : BR (τ.1 (35, 0, 0)) a 0) {i u : Nat} (hi : i < a 4) (hu : u < 32) : Sat l G iX11_gets [mM, aI (nI i), aI (nI u)] τ (retI (oI (gts a i u)) τ) := by
  have hm := hS.2.1
  have hi10 : i < 10 := by omega
  have hbd := bR_bd hb hm
  refine Sat_of hc.1 hc.2 (by decide +kernel) (Nat.le_of_ble_eq_true rfl) (fun x hB hno => ?_)
  have head : ∀ k b, b + k = 5 → gt a i u b k = gts a i u → V x τ 0 2 [(0, mM), (1, aI (nI i)), (2, aI (nI u)), (3, aI (nI b))] [] := by
    intro k
    induction k with
    | zero =>
      intro b hb5 hR
      refine V_run hB (rt := some .int) (nL := 4) (mc := 0) rfl rfl rfl obX11_gets_2 ?_
      dsimp only [bX11_gets_2, ↓wpb, ↓wp1, ↓vI, ↓vL, ↓vD, ↓ldI, ↓ldL, ↓ldD, ↓ldR, ↓k1, ↓k2, ↓kI, ↓kL, ↓kD, ↓kII, ↓kLL, ↓kDD, ↓kR, ↓kIR, ↓kLR, ↓kIIR, ↓kLIR, ↓kDIR, ↓kRIR, ↓kNN, ↓kE, ↓br, ↓bn, ↓rtI, ↓gfv, ↓zchk, lput, ldel, lbad, alA, acat, isRf, dom, dS, dJ, isO, aTy, aLen, elAV, elR, Nat.reduceBEq, Nat.reduceAdd, Bool.or, Bool.and, Nat.add_zero, Nat.zero_add]
      try simp only [Nat.reduceLT, Nat.reduceLeDiff, Nat.reduceEqDiff, true_and, and_true, and_self, Nat.zero_le, Nat.le_refl, true_or, or_true, Bool.false_eq_true, not_false_eq_true, Nat.reduceAdd, Nat.lt_add_one, Nat.zero_lt_one, nI_add, pk_mul, ixL, vpL, ne_eq, reduceIte, wI_sA, sA_same, sA_ne, sA_sA, sA_comm, uI_at, uN_at, enc_at, uI_enc, uI_uI, itn1, itn2, itn3, itn4, itc, itc0, itc1, upM_s, upM_n]
      refine ⟨fun _ => ?_, fun h => absurd (nI_le (by omega) (by omega)) h⟩
      refine V_run hB (rt := some .int) (nL := 4) (mc := 0) rfl rfl rfl obX11_gets_63 ?_
      dsimp only [bX11_gets_63, ↓wpb, ↓wp1, ↓vI, ↓vL, ↓vD, ↓ldI, ↓ldL, ↓ldD, ↓ldR, ↓k1, ↓k2, ↓kI, ↓kL, ↓kD, ↓kII, ↓kLL, ↓kDD, ↓kR, ↓kIR, ↓kLR, ↓kIIR, ↓kLIR, ↓kDIR, ↓kRIR, ↓kNN, ↓kE, ↓br, ↓bn, ↓rtI, ↓gfv, ↓zchk, lput, ldel, lbad, alA, acat, isRf, dom, dS, dJ, isO, aTy, aLen, elAV, elR, Nat.reduceBEq, Nat.reduceAdd, Bool.or, Bool.and, Nat.add_zero, Nat.zero_add]
      try simp only [Nat.reduceLT, Nat.reduceLeDiff, Nat.reduceEqDiff, true_and, and_true, and_self, Nat.zero_le, Nat.le_refl, true_or, or_true, Bool.false_eq_true, not_false_eq_true, Nat.reduceAdd, Nat.lt_add_one, Nat.zero_lt_one, nI_add, pk_mul, ixL, vpL, ne_eq, reduceIte, wI_sA, sA_same, sA_ne, sA_sA, sA_comm, uI_at, uN_at, enc_at, uI_enc, uI_uI, itn1, itn2, itn3, itn4, itc, itc0, itc1, upM_s, upM_n]
      rw [← hR]
      exact ⟨rfl, rfl⟩
    | succ k ih =>
      intro b hb5 hR
      have hb5 : b < 5 := by omega
      have hU : gt a i u b (k + 1) = if mg a i b u = true ∧ it a i (7 + b) + bR a (a 4 - (i + 1)) (u ||| 2 ^ b) = bR a (a 4 - i) u then some b else gt a i u (b + 1) k := rfl
      have h57 : ¬ (mg a i b u = true ∧ it a i (7 + b) + bR a (a 4 - (i + 1)) (u ||| 2 ^ b) = bR a (a 4 - i) u) → V x τ 0 57 [(0, mM), (1, aI (nI i)), (2, aI (nI u)), (3, aI (nI b))] [] := by
        intro h
        rw [hU, if_neg h] at hR
        refine V_run hB (rt := some .int) (nL := 4) (mc := 0) rfl rfl rfl obX11_gets_57 ?_
        dsimp only [bX11_gets_57, ↓wpb, ↓wp1, ↓vI, ↓vL, ↓vD, ↓ldI, ↓ldL, ↓ldD, ↓ldR, ↓k1, ↓k2, ↓kI, ↓kL, ↓kD, ↓kII, ↓kLL, ↓kDD, ↓kR, ↓kIR, ↓kLR, ↓kIIR, ↓kLIR, ↓kDIR, ↓kRIR, ↓kNN, ↓kE, ↓br, ↓bn, ↓rtI, ↓gfv, ↓zchk, lput, ldel, lbad, alA, acat, isRf, dom, dS, dJ, isO, aTy, aLen, elAV, elR, Nat.reduceBEq, Nat.reduceAdd, Bool.or, Bool.and, Nat.add_zero, Nat.zero_add]
        try simp only [Nat.reduceLT, Nat.reduceLeDiff, Nat.reduceEqDiff, true_and, and_true, and_self, Nat.zero_le, Nat.le_refl, true_or, or_true, Bool.false_eq_true, not_false_eq_true, Nat.reduceAdd, Nat.lt_add_one, Nat.zero_lt_one, nI_add, pk_mul, ixL, vpL, ne_eq, reduceIte, wI_sA, sA_same, sA_ne, sA_sA, sA_comm, uI_at, uN_at, enc_at, uI_enc, uI_uI, itn1, itn2, itn3, itn4, itc, itc0, itc1, upM_s, upM_n]
        exact ih (b + 1) (by omega) hR
      have hor := or5_lt u hu b hb5
      have hF2 := hr (i + 1) (by omega) (by omega) _ hor
      have hF1 := hr i (by omega) (by omega) _ hu
      have hM2 := hbd (a 4 - (i + 1)) (by omega) (u ||| 2 ^ b)
      have hM1 := hbd (a 4 - i) (by omega) u
      have hbb := hb i hi10 b hb5
      have ix : (nI (32 * (i + 1) + (u ||| 2 ^ b))).toNatClampNeg = 32 * (i + 1) + (u ||| 2 ^ b) := ixL (by omega)
      have vx : vp_in (nI (32 * (i + 1) + (u ||| 2 ^ b))) 352 = True := vpL (by omega) (by omega)
      have ix1 : (nI (32 * i + u)).toNatClampNeg = 32 * i + u := ixL (by omega)
      have vx1 : vp_in (nI (32 * i + u)) 352 = True := vpL (by omega) (by omega)
      refine V_run hB (rt := some .int) (nL := 4) (mc := 0) rfl rfl rfl obX11_gets_2 ?_
      dsimp only [bX11_gets_2, ↓wpb, ↓wp1, ↓vI, ↓vL, ↓vD, ↓ldI, ↓ldL, ↓ldD, ↓ldR, ↓k1, ↓k2, ↓kI, ↓kL, ↓kD, ↓kII, ↓kLL, ↓kDD, ↓kR, ↓kIR, ↓kLR, ↓kIIR, ↓kLIR, ↓kDIR, ↓kRIR, ↓kNN, ↓kE, ↓br, ↓bn, ↓rtI, ↓gfv, ↓zchk, lput, ldel, lbad, alA, acat, isRf, dom, dS, dJ, isO, aTy, aLen, elAV, elR, Nat.reduceBEq, Nat.reduceAdd, Bool.or, Bool.and, Nat.add_zero, Nat.zero_add]
      try simp only [Nat.reduceLT, Nat.reduceLeDiff, Nat.reduceEqDiff, true_and, and_true, and_self, Nat.zero_le, Nat.le_refl, true_or, or_true, Bool.false_eq_true, not_false_eq_true, Nat.reduceAdd, Nat.lt_add_one, Nat.zero_lt_one, nI_add, pk_mul, ixL, vpL, ne_eq, reduceIte, wI_sA, sA_same, sA_ne, sA_sA, sA_comm, uI_at, uN_at, enc_at, uI_enc, uI_uI, itn1, itn2, itn3, itn4, itc, itc0, itc1, upM_s, upM_n]
      refine ⟨fun h => absurd h (nI_ge (by omega) (by omega)), fun _ => ?_⟩
      refine V_cV hB hno (q_mayGet hc hS hi10 hb5 hu) rfl (by decide +kernel) cvX11_156 (dom1 rfl) npX11_mayGet ⟨by decide, by decide⟩ (Nat.le_of_ble_eq_true rfl) (n' := 0) (by decide) rfl ?_
      refine V_run hB (rt := some .int) (nL := 4) (mc := 0) rfl rfl rfl obX11_gets_14 ?_
      dsimp only [bX11_gets_14, ↓wpb, ↓wp1, ↓vI, ↓vL, ↓vD, ↓ldI, ↓ldL, ↓ldD, ↓ldR, ↓k1, ↓k2, ↓kI, ↓kL, ↓kD, ↓kII, ↓kLL, ↓kDD, ↓kR, ↓kIR, ↓kLR, ↓kIIR, ↓kLIR, ↓kDIR, ↓kRIR, ↓kNN, ↓kE, ↓br, ↓bn, ↓rtI, ↓gfv, ↓zchk, lput, ldel, lbad, alA, acat, isRf, dom, dS, dJ, isO, aTy, aLen, elAV, elR, Nat.reduceBEq, Nat.reduceAdd, Bool.or, Bool.and, Nat.add_zero, Nat.zero_add]
      try simp only [Nat.reduceLT, Nat.reduceLeDiff, Nat.reduceEqDiff, true_and, and_true, and_self, Nat.zero_le, Nat.le_refl, true_or, or_true, Bool.false_eq_true, not_false_eq_true, Nat.reduceAdd, Nat.lt_add_one, Nat.zero_lt_one, nI_add, pk_mul, ixL, vpL, ne_eq, reduceIte, wI_sA, sA_same, sA_ne, sA_sA, sA_comm, uI_at, uN_at, enc_at, uI_enc, uI_uI, itn1, itn2, itn3, itn4, itc, itc0, itc1, upM_s, upM_n, bN_0]
      refine ⟨fun h => h57 (fun q => by rw [h] at q; cases q.1), fun h => ?_⟩
      have h : mg a i b u = true := by simpa using h
      refine V_cV hB hno (q_offer hc hS hi10 hb5) rfl (by decide +kernel) cvX11_137 (dom1 rfl) npX11_offer ⟨by decide, by decide⟩ (Nat.le_of_ble_eq_true rfl) (n' := 0) (by decide) rfl ?_
      refine V_run hB (rt := some .int) (nL := 4) (mc := 0) rfl rfl rfl obX11_gets_23 ?_
      dsimp only [bX11_gets_23, ↓wpb, ↓wp1, ↓vI, ↓vL, ↓vD, ↓ldI, ↓ldL, ↓ldD, ↓ldR, ↓k1, ↓k2, ↓kI, ↓kL, ↓kD, ↓kII, ↓kLL, ↓kDD, ↓kR, ↓kIR, ↓kLR, ↓kIIR, ↓kLIR, ↓kDIR, ↓kRIR, ↓kNN, ↓kE, ↓br, ↓bn, ↓rtI, ↓gfv, ↓zchk, lput, ldel, lbad, alA, acat, isRf, dom, dS, dJ, isO, aTy, aLen, elAV, elR, Nat.reduceBEq, Nat.reduceAdd, Bool.or, Bool.and, Nat.add_zero, Nat.zero_add]
      try simp only [Nat.reduceLT, Nat.reduceLeDiff, Nat.reduceEqDiff, true_and, and_true, and_self, Nat.zero_le, Nat.le_refl, true_or, or_true, Bool.false_eq_true, not_false_eq_true, Nat.reduceAdd, Nat.lt_add_one, Nat.zero_lt_one, nI_add, pk_mul, ixL, vpL, ne_eq, reduceIte, wI_sA, sA_same, sA_ne, sA_sA, sA_comm, uI_at, uN_at, enc_at, uI_enc, uI_uI, itn1, itn2, itn3, itn4, itc, itc0, itc1, upM_s, upM_n, shl5 b hb5, or5 u hu b hb5, ix, vx, hF2, ix1, vx1, hF1]
      refine ⟨fun h2 => h57 (fun q => h2 (by rw [q.2])), fun h2 => ?_⟩
      have h3 := (nI_eq (by omega) (by omega)).mp h2
      rw [hU, if_pos ⟨h, h3⟩] at hR
      rw [← hR]
      exact ⟨rfl, rfl⟩
  refine V_run hB (rt := some .int) (nL := 4) (mc := 0) rfl rfl rfl obX11_gets_0 ?_
  dsimp only [bX11_gets_0, ↓wpb, ↓wp1, ↓vI, ↓vL, ↓vD, ↓ldI, ↓ldL, ↓ldD, ↓ldR, ↓k1, ↓k2, ↓kI, ↓kL, ↓kD, ↓kII, ↓kLL, ↓kDD, ↓kR, ↓kIR, ↓kLR, ↓kIIR, ↓kLIR, ↓kDIR, ↓kRIR, ↓kNN, ↓kE, ↓br, ↓bn, ↓rtI, ↓gfv, ↓zchk, lput, ldel, lbad, alA, acat, isRf, dom, dS, dJ, isO, aTy, aLen, elAV, elR, Nat.reduceBEq, Nat.reduceAdd, Bool.or, Bool.and, Nat.add_zero, Nat.zero_add]
  try simp only [Nat.reduceLT, Nat.reduceLeDiff, Nat.reduceEqDiff, true_and, and_true, and_self, Nat.zero_le, Nat.le_refl, true_or, or_true, Bool.false_eq_true, not_false_eq_true, Nat.reduceAdd, Nat.lt_add_one, Nat.zero_lt_one, nI_add, pk_mul, ixL, vpL, ne_eq, reduceIte, wI_sA, sA_same, sA_ne, sA_sA, sA_comm, uI_at, uN_at, enc_at, uI_enc, uI_uI, itn1, itn2, itn3, itn4, itc, itc0, itc1, upM_s, upM_n]
  exact head 5 0 (by omega) rfl
end M5
