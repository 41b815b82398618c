/-! ===== the class: what its owner reads ===== -/
abbrev moM : AV := .inr (1, 0, 0)
def NoN (_ : Nm) : Prop := False
def lonP (z : Int64) (τ : Mem) : AOut → Mem → Prop := fun o τ' => o = .inl (some (.inl (.long z))) ∧ Same NoN τ τ'
def meaP (r : Nat × UInt64) (τ : Mem) : AOut → Mem → Prop := fun o τ' => o = (if r.1 = 0 then .inl (some (.inl (.double r.2))) else .inr ARE) ∧ Same NoN τ τ'
/-- a read of the class: what it answers or throws -/
def RdC (L : List String) (P : Nm → Prop) (τ : Mem) (r : Nat × Nat) : AOut → Mem → Prop := fun o τ' => o = (if r.1 = 0 then .inl (some (aI (nI r.2))) else .inr (exL L r.1)) ∧ Same P τ τ'
theorem V_req {x : Cx} {l : Launch} {G : GG} {y : MI} {Φ : AOut → Mem → Prop} (hB : Bd x l G y Φ) (hno : NoH x) {z : MI} {as : List AV} {E : String} {π : Nat → Nat} {ob : Option Nat} {τ : Mem} {K s' j n pc idx : Nat} {al : Al} {r st : List AV}
    (hs : Sat l G z (.inr (K, s', j) :: as) τ (ansO (itA π ob) E τ)) (hst : st = as.reverse ++ .inr (K, s', j) :: r) (hd : decode y.2.1 pc = .ok (.invokevirtual idx, 3)) (hw : CV y.1.cls idx z K) (h0 : dom (K, s', j)) (hp : npar z as.length) (hrm : z.2.2.2.2.2 + 1 ≤ y.2.2.2.2.2 ∧ z.2.2.1 ≤ 21) (hc : acats r ≤ 8)
    (hn : n + z.2.2.2.2.1 ≤ y.2.2.2.2.1) (k : ∀ i, ob = some i → V x τ (n + z.2.2.2.2.1) (pc + 3) al (.inr (5, 0, π i) :: r)) (kx : ob = none → Φ (.inr E) τ) : V x τ n pc al st := by
  refine V_callV hB hno hs hst hd hw h0 hp hrm hc hn (fun v τ' h => ?_) (fun E' τ' h => ?_)
  · cases ob with
    | none => cases h.1
    | some i =>
      obtain ⟨e, rfl⟩ := h
      cases e
      exact k i rfl
  · cases ob with
    | none =>
      obtain ⟨e, rfl⟩ := h
      cases e
      exact kx rfl
    | some i => cases h.1
theorem sPlc_I (a : Nat → Nat) (p : Int32) (b : Bool) : sPlc a p b = match plcI a b p with
    | none => (1, 0)
    | some i => (0, it a i 0) := by
  unfold sPlc plcI
  by_cases h : p < 0
  · rw [if_pos h, if_pos h]
  · rw [if_neg h, if_neg h]
    cases plc a b p.toNatClampNeg 0 (a 4) <;> rfl
theorem plcI_lt {a : Nat → Nat} {b : Bool} {p : Int32} {i : Nat} (h : plcI a b p = some i) : i < a 4 := by
  unfold plcI at h
  by_cases hp : p < 0
  · rw [if_pos hp] at h; cases h
  · rw [if_neg hp] at h
    have := plc_lt h
    omega
theorem bdU_lt {a : Nat → Nat} {p : Int32} : ∀ {k i j : Nat}, bdU a p i k = some j → i ≤ j ∧ j < i + k ∧ isLot a j = false ∧ nI (rkU a j (a 4)) = p
  | 0, i, j, h => by cases h
  | k + 1, i, j, h => by
    have hu : bdU a p i (k + 1) = if isLot a i = false ∧ nI (rkU a i (a 4)) = p then some i else bdU a p (i + 1) k := rfl
    rw [hu] at h
    by_cases hq : isLot a i = false ∧ nI (rkU a i (a 4)) = p
    · rw [if_pos hq] at h
      cases h
      exact ⟨Nat.le_refl _, by omega, hq⟩
    · rw [if_neg hq] at h
      obtain ⟨h1, h2, h3⟩ := bdU_lt h
      exact ⟨by omega, by omega, h3⟩
theorem bdU_no {a : Nat → Nat} {p : Int32} : ∀ {k i : Nat}, bdU a p i k = none → ∀ j, i ≤ j → j < i + k → ¬ (isLot a j = false ∧ nI (rkU a j (a 4)) = p)
  | 0, i, _, j, h1, h2 => by omega
  | k + 1, i, h, j, h1, h2 => by
    have hu : bdU a p i (k + 1) = if isLot a i = false ∧ nI (rkU a i (a 4)) = p then some i else bdU a p (i + 1) k := rfl
    rw [hu] at h
    by_cases hq : isLot a i = false ∧ nI (rkU a i (a 4)) = p
    · rw [if_pos hq] at h; cases h
    · rw [if_neg hq] at h
      by_cases hj : j = i
      · subst hj; exact hq
      · exact bdU_no h j (by omega) (by omega)
theorem rkU_0 {a : Nat → Nat} {i : Nat} : ∀ {k : Nat}, rkU a i k = 0 ↔ ∀ o, o < k → isLot a o = false → ¬ (it a o 6 < it a i 6 ∨ it a o 6 = it a i 6 ∧ o < i)
  | 0 => ⟨fun _ o h => absurd h (Nat.not_lt_zero _), fun _ => rfl⟩
  | k + 1 => by
    have ih := rkU_0 (a := a) (i := i) (k := k)
    have hu : rkU a i (k + 1) = rkU a i k + (if isLot a k = false ∧ (it a k 6 < it a i 6 ∨ it a k 6 = it a i 6 ∧ k < i) then 1 else 0) := rfl
    rw [hu]
    by_cases hq : isLot a k = false ∧ (it a k 6 < it a i 6 ∨ it a k 6 = it a i 6 ∧ k < i)
    · rw [if_pos hq]
      exact ⟨fun z => by omega, fun z => absurd hq.2 (z k (by omega) hq.1)⟩
    · rw [if_neg hq, Nat.add_zero, ih]
      refine ⟨fun z o ho hl => ?_, fun z o ho => z o (by omega)⟩
      by_cases hok : o = k
      · subst hok; exact fun w => hq ⟨hl, w⟩
      · exact z o (by omega) hl
/-- a pledge before all others -/
theorem least_ex {a : Nat → Nat} : ∀ {k : Nat}, (∃ i, i < k ∧ isLot a i = false) → ∃ i, i < k ∧ isLot a i = false ∧ ∀ o, o < k → isLot a o = false → ¬ (it a o 6 < it a i 6 ∨ it a o 6 = it a i 6 ∧ o < i)
  | 0, ⟨i, h, _⟩ => absurd h (Nat.not_lt_zero _)
  | k + 1, ⟨i, h, hl⟩ => by
    by_cases hk : ∃ i, i < k ∧ isLot a i = false
    · obtain ⟨m, m1, m2, m3⟩ := least_ex hk
      by_cases hq : isLot a k = false ∧ it a k 6 < it a m 6
      · refine ⟨k, by omega, hq.1, fun o ho hlo => ?_⟩
        by_cases hok : o = k
        · subst hok; omega
        · have := m3 o (by omega) hlo
          omega
      · refine ⟨m, by omega, m2, fun o ho hlo => ?_⟩
        by_cases hok : o = k
        · subst hok
          rintro (z | z)
          · exact hq ⟨hlo, z⟩
          · omega
        · exact m3 o (by omega) hlo
    · have hik : i = k := by
        by_cases z : i = k
        · exact z
        · exact absurd ⟨i, by omega, hl⟩ hk
      subst hik
      refine ⟨i, by omega, hl, fun o ho hlo => ?_⟩
      by_cases hok : o = i
      · subst hok; omega
      · exact absurd ⟨o, by omega, hlo⟩ hk
theorem dfU_s (a : Nat → Nat) (k : Nat) : dfU a (k + 1) = if isLot a k = true then dfU a k else match dfU a k with
    | none => some (it a k 6 + 1 - a 0)
    | some m => if it a k 6 + 1 - a 0 < m then some (it a k 6 + 1 - a 0) else some m := rfl
theorem dfU_n {a : Nat → Nat} : ∀ {k : Nat}, (∀ i, i < k → isLot a i = true) → dfU a k = none
  | 0, _ => rfl
  | k + 1, h => by
    rw [dfU_s, if_pos (h k (by omega))]
    exact dfU_n (fun i hi => h i (by omega))
theorem dfU_m {a : Nat → Nat} {i : Nat} (hl : isLot a i = false) : ∀ {k : Nat}, i < k → (∀ o, o < k → isLot a o = false → it a i 6 ≤ it a o 6) → dfU a k = some (it a i 6 + 1 - a 0)
  | 0, h, _ => absurd h (Nat.not_lt_zero _)
  | k + 1, h, hm => by
    rw [dfU_s]
    by_cases hk : isLot a k = true
    · rw [if_pos hk]
      have hik : i ≠ k := fun z => by rw [z, hk] at hl; cases hl
      exact dfU_m hl (by omega) (fun o ho => hm o (by omega))
    · rw [if_neg hk]
      have hk : isLot a k = false := bool_f hk
      have h1 := hm k (by omega) hk
      by_cases hik : i = k
      · subst hik
        have hlo : ∀ m, dfU a i = some m → it a i 6 + 1 - a 0 ≤ m := by
          intro m hmm
          exact dfU_lo (fun o ho hlo => hm o (by omega) hlo) hmm
        cases hd : dfU a i with
        | none => rfl
        | some m =>
          have := hlo m hd
          show (if it a i 6 + 1 - a 0 < m then some (it a i 6 + 1 - a 0) else some m) = _
          by_cases hq : it a i 6 + 1 - a 0 < m
          · rw [if_pos hq]
          · rw [if_neg hq]; exact congrArg some (by omega)
      · rw [dfU_m hl (by omega : i < k) (fun o ho => hm o (by omega))]
        show (if it a k 6 + 1 - a 0 < it a i 6 + 1 - a 0 then some (it a k 6 + 1 - a 0) else some (it a i 6 + 1 - a 0)) = _
        rw [if_neg (by omega)]
where
  dfU_lo {a : Nat → Nat} {b : Nat} : ∀ {k m : Nat}, (∀ o, o < k → isLot a o = false → b ≤ it a o 6) → dfU a k = some m → b + 1 - a 0 ≤ m
    | 0, m, _, h => by cases h
    | k + 1, m, hb, h => by
      rw [dfU_s] at h
      by_cases hk : isLot a k = true
      · rw [if_pos hk] at h
        exact dfU_lo (fun o ho => hb o (by omega)) h
      · rw [if_neg hk] at h
        have h1 := hb k (by omega) (bool_f hk)
        cases hd : dfU a k with
        | none =>
          rw [hd] at h
          have h : some (it a k 6 + 1 - a 0) = some m := h
          cases h
          omega
        | some w =>
          have h2 := dfU_lo (fun o ho => hb o (by omega)) hd
          rw [hd] at h
          have h : (if it a k 6 + 1 - a 0 < w then some (it a k 6 + 1 - a 0) else some w) = some m := h
          by_cases hq : it a k 6 + 1 - a 0 < w
          · rw [if_pos hq] at h; cases h; omega
          · rw [if_neg hq] at h; cases h; exact h2
/-- the days until the first forfeit, by the first in the order of due days -/
theorem sDtF_bd (a : Nat → Nat) (h10 : a 4 ≤ 10) : sDtF a = match bdU a (nI 0) 0 (a 4) with
    | none => (1, 0)
    | some i => (0, it a i 6 + 1 - a 0) := by
  unfold sDtF
  cases hb : bdU a (nI 0) 0 (a 4) with
  | none =>
    rw [dfU_n (fun i hi => ?_)]
    rcases hl : isLot a i with _ | _
    · obtain ⟨m, m1, m2, m3⟩ := least_ex ⟨i, hi, hl⟩
      exact absurd ⟨m2, congrArg nI (rkU_0.mpr m3)⟩ (bdU_no hb m (Nat.zero_le _) (by omega))
    · rfl
  | some i =>
    obtain ⟨-, h1, h2, h3⟩ := bdU_lt hb
    have h4 := rkU_le a i (a 4)
    have h5 := rkU_0.mp ((nI_eq (by omega) (by omega)).mp h3)
    rw [dfU_m h2 (show i < a 4 by omega) (fun o ho hlo => by have := h5 o ho hlo; omega)]
theorem L64_add {x y : Nat} (h : x + y < 2147483648) : (nI x).toInt64 + (nI y).toInt64 = (nI (x + y)).toInt64 := by
  have e1 : (nI x).toInt = x := by unfold nI; rw [Int32.toInt_ofNat']; simp [Int.bmod]; omega
  have e2 : (nI y).toInt = y := by unfold nI; rw [Int32.toInt_ofNat']; simp [Int.bmod]; omega
  have e3 : (nI (x + y)).toInt = x + y := by unfold nI; rw [Int32.toInt_ofNat']; simp [Int.bmod]; omega
  apply Int64.toInt.inj
  rw [Int64.toInt_add, Int32.toInt_toInt64, Int32.toInt_toInt64, Int32.toInt_toInt64, e1, e2, e3]
  simp [Int.bmod]
  omega
theorem L64_eq {x y : Nat} (hx : x < 2147483648) (hy : y < 2147483648) : (nI x).toInt64 = (nI y).toInt64 ↔ x = y := by
  refine ⟨fun h => ?_, fun h => by rw [h]⟩
  have h2 := congrArg Int64.toInt h
  rw [Int32.toInt_toInt64, Int32.toInt_toInt64] at h2
  exact (nI_eq hx hy).mp (Int32.toInt.inj h2)
theorem cmp_0 {x y : Int64} : lg_cmp x y = 0 ↔ x = y := by
  unfold lg_cmp
  by_cases h : x > y
  · rw [if_pos h]
    exact ⟨fun z => absurd z (by decide), fun z => by subst z; exact absurd h (Int64.lt_irrefl)⟩
  · rw [if_neg h]
    by_cases h2 : x = y
    · rw [if_pos h2]; exact ⟨fun _ => h2, fun _ => rfl⟩
    · rw [if_neg h2]; exact ⟨fun z => absurd z (by decide), fun z => absurd z h2⟩
section A5
variable {l : Launch} {G : GG} {τ : Mem} {a π : Nat → Nat} {n : Nat}
theorem x_day (hc : Ctx l G) (hS : ShP τ 0 a π) : Sat l G iX10_day [moM] τ (RdC [] NoN τ (0, a 0)) := by
  have g := hS.2.1.1
  refine Sat_of hc.1 hc.2 (by decide +kernel) (Nat.le_of_ble_eq_true rfl) (fun x hB hno => ?_)
  refine V_run hB (rt := some .int) (nL := 1) (mc := 0) rfl rfl rfl obX10_day_0 ?_
  dsimp only [bX10_day_0, ↓wpb, ↓wp1, ↓vI, ↓vL, ↓vD, ↓ldI, ↓ldL, ↓ldD, ↓ldR, ↓k1, ↓k2, ↓kI, ↓kL, ↓kD, ↓kII, ↓kLL, ↓kDD, ↓kR, ↓kIR, ↓kLR, ↓kIIR, ↓kLIR, ↓kDIR, ↓kRIR, ↓kNN, ↓kE, ↓br, ↓bn, ↓rtI, ↓gfv, ↓zchk, lput, ldel, lbad, alA, acat, isRf, dom, dS, dJ, isO, aTy, aLen, elAV, elR, Nat.reduceBEq, Nat.reduceAdd, Bool.or, Bool.and, Nat.add_zero, Nat.zero_add]
  try simp only [Nat.reduceLT, Nat.reduceLeDiff, Nat.reduceEqDiff, true_and, and_true, and_self, Nat.zero_le, Nat.le_refl, true_or, or_true, Bool.false_eq_true, not_false_eq_true, Nat.reduceAdd, Nat.lt_add_one, Nat.zero_lt_one, nI_add, pk_mul, ixL, vpL, ne_eq, reduceIte, wI_sN, wL_sM, sN_same, sN_K, sN_2, sM_1, sM_same, sM_K, sM_s, uI_at, uN_at, enc_at, uI_enc, uI_uI, upM_s, upM_n, g]
  exact ⟨rfl, Same.refl _ _⟩
theorem x_price (hc : Ctx l G) (hS : ShP τ 0 a π) : Sat l G iX10_price [moM] τ (RdC [] NoN τ (0, a 1)) := by
  have g := hS.1.1
  refine Sat_of hc.1 hc.2 (by decide +kernel) (Nat.le_of_ble_eq_true rfl) (fun x hB hno => ?_)
  refine V_run hB (rt := some .int) (nL := 1) (mc := 0) rfl rfl rfl obX10_price_0 ?_
  dsimp only [bX10_price_0, ↓wpb, ↓wp1, ↓vI, ↓vL, ↓vD, ↓ldI, ↓ldL, ↓ldD, ↓ldR, ↓k1, ↓k2, ↓kI, ↓kL, ↓kD, ↓kII, ↓kLL, ↓kDD, ↓kR, ↓kIR, ↓kLR, ↓kIIR, ↓kLIR, ↓kDIR, ↓kRIR, ↓kNN, ↓kE, ↓br, ↓bn, ↓rtI, ↓gfv, ↓zchk, lput, ldel, lbad, alA, acat, isRf, dom, dS, dJ, isO, aTy, aLen, elAV, elR, Nat.reduceBEq, Nat.reduceAdd, Bool.or, Bool.and, Nat.add_zero, Nat.zero_add]
  try simp only [Nat.reduceLT, Nat.reduceLeDiff, Nat.reduceEqDiff, true_and, and_true, and_self, Nat.zero_le, Nat.le_refl, true_or, or_true, Bool.false_eq_true, not_false_eq_true, Nat.reduceAdd, Nat.lt_add_one, Nat.zero_lt_one, nI_add, pk_mul, ixL, vpL, ne_eq, reduceIte, wI_sN, wL_sM, sN_same, sN_K, sN_2, sM_1, sM_same, sM_K, sM_s, uI_at, uN_at, enc_at, uI_enc, uI_uI, upM_s, upM_n, g]
  exact ⟨rfl, Same.refl _ _⟩
theorem x_coins (hc : Ctx l G) (hS : ShP τ 0 a π) : Sat l G iX10_coins [moM] τ (RdC [] NoN τ (0, a 2)) := by
  have g := hS.2.2.1.1.1
  refine Sat_of hc.1 hc.2 (by decide +kernel) (Nat.le_of_ble_eq_true rfl) (fun x hB hno => ?_)
  refine V_run hB (rt := some .int) (nL := 1) (mc := 0) rfl rfl rfl obX10_coins_0 ?_
  dsimp only [bX10_coins_0, ↓wpb, ↓wp1, ↓vI, ↓vL, ↓vD, ↓ldI, ↓ldL, ↓ldD, ↓ldR, ↓k1, ↓k2, ↓kI, ↓kL, ↓kD, ↓kII, ↓kLL, ↓kDD, ↓kR, ↓kIR, ↓kLR, ↓kIIR, ↓kLIR, ↓kDIR, ↓kRIR, ↓kNN, ↓kE, ↓br, ↓bn, ↓rtI, ↓gfv, ↓zchk, lput, ldel, lbad, alA, acat, isRf, dom, dS, dJ, isO, aTy, aLen, elAV, elR, Nat.reduceBEq, Nat.reduceAdd, Bool.or, Bool.and, Nat.add_zero, Nat.zero_add]
  try simp only [Nat.reduceLT, Nat.reduceLeDiff, Nat.reduceEqDiff, true_and, and_true, and_self, Nat.zero_le, Nat.le_refl, true_or, or_true, Bool.false_eq_true, not_false_eq_true, Nat.reduceAdd, Nat.lt_add_one, Nat.zero_lt_one, nI_add, pk_mul, ixL, vpL, ne_eq, reduceIte, wI_sN, wL_sM, sN_same, sN_K, sN_2, sM_1, sM_same, sM_K, sM_s, uI_at, uN_at, enc_at, uI_enc, uI_uI, upM_s, upM_n, g]
  exact ⟨rfl, Same.refl _ _⟩
theorem x_redM (hc : Ctx l G) (hS : ShP τ 0 a π) : Sat l G iX10_redeemedMinutes [moM] τ (RdC [] NoN τ (0, a 5)) := by
  have g := hS.2.2.1.1.2.1
  refine Sat_of hc.1 hc.2 (by decide +kernel) (Nat.le_of_ble_eq_true rfl) (fun x hB hno => ?_)
  refine V_run hB (rt := some .int) (nL := 1) (mc := 0) rfl rfl rfl obX10_redeemedMinutes_0 ?_
  dsimp only [bX10_redeemedMinutes_0, ↓wpb, ↓wp1, ↓vI, ↓vL, ↓vD, ↓ldI, ↓ldL, ↓ldD, ↓ldR, ↓k1, ↓k2, ↓kI, ↓kL, ↓kD, ↓kII, ↓kLL, ↓kDD, ↓kR, ↓kIR, ↓kLR, ↓kIIR, ↓kLIR, ↓kDIR, ↓kRIR, ↓kNN, ↓kE, ↓br, ↓bn, ↓rtI, ↓gfv, ↓zchk, lput, ldel, lbad, alA, acat, isRf, dom, dS, dJ, isO, aTy, aLen, elAV, elR, Nat.reduceBEq, Nat.reduceAdd, Bool.or, Bool.and, Nat.add_zero, Nat.zero_add]
  try simp only [Nat.reduceLT, Nat.reduceLeDiff, Nat.reduceEqDiff, true_and, and_true, and_self, Nat.zero_le, Nat.le_refl, true_or, or_true, Bool.false_eq_true, not_false_eq_true, Nat.reduceAdd, Nat.lt_add_one, Nat.zero_lt_one, nI_add, pk_mul, ixL, vpL, ne_eq, reduceIte, wI_sN, wL_sM, sN_same, sN_K, sN_2, sM_1, sM_same, sM_K, sM_s, uI_at, uN_at, enc_at, uI_enc, uI_uI, upM_s, upM_n, g]
  exact ⟨rfl, Same.refl _ _⟩
theorem x_forM (hc : Ctx l G) (hS : ShP τ 0 a π) : Sat l G iX10_forfeitedMinutes [moM] τ (RdC [] NoN τ (0, a 6)) := by
  have g := hS.2.2.1.1.2.2.1
  refine Sat_of hc.1 hc.2 (by decide +kernel) (Nat.le_of_ble_eq_true rfl) (fun x hB hno => ?_)
  refine V_run hB (rt := some .int) (nL := 1) (mc := 0) rfl rfl rfl obX10_forfeitedMinutes_0 ?_
  dsimp only [bX10_forfeitedMinutes_0, ↓wpb, ↓wp1, ↓vI, ↓vL, ↓vD, ↓ldI, ↓ldL, ↓ldD, ↓ldR, ↓k1, ↓k2, ↓kI, ↓kL, ↓kD, ↓kII, ↓kLL, ↓kDD, ↓kR, ↓kIR, ↓kLR, ↓kIIR, ↓kLIR, ↓kDIR, ↓kRIR, ↓kNN, ↓kE, ↓br, ↓bn, ↓rtI, ↓gfv, ↓zchk, lput, ldel, lbad, alA, acat, isRf, dom, dS, dJ, isO, aTy, aLen, elAV, elR, Nat.reduceBEq, Nat.reduceAdd, Bool.or, Bool.and, Nat.add_zero, Nat.zero_add]
  try simp only [Nat.reduceLT, Nat.reduceLeDiff, Nat.reduceEqDiff, true_and, and_true, and_self, Nat.zero_le, Nat.le_refl, true_or, or_true, Bool.false_eq_true, not_false_eq_true, Nat.reduceAdd, Nat.lt_add_one, Nat.zero_lt_one, nI_add, pk_mul, ixL, vpL, ne_eq, reduceIte, wI_sN, wL_sM, sN_same, sN_K, sN_2, sM_1, sM_same, sM_K, sM_s, uI_at, uN_at, enc_at, uI_enc, uI_uI, upM_s, upM_n, g]
  exact ⟨rfl, Same.refl _ _⟩
theorem x_solM (hc : Ctx l G) (hS : ShP τ 0 a π) : Sat l G iX10_soldMinutes [moM] τ (RdC [] NoN τ (0, a 7)) := by
  have g := hS.2.2.1.1.2.2.2
  refine Sat_of hc.1 hc.2 (by decide +kernel) (Nat.le_of_ble_eq_true rfl) (fun x hB hno => ?_)
  refine V_run hB (rt := some .int) (nL := 1) (mc := 0) rfl rfl rfl obX10_soldMinutes_0 ?_
  dsimp only [bX10_soldMinutes_0, ↓wpb, ↓wp1, ↓vI, ↓vL, ↓vD, ↓ldI, ↓ldL, ↓ldD, ↓ldR, ↓k1, ↓k2, ↓kI, ↓kL, ↓kD, ↓kII, ↓kLL, ↓kDD, ↓kR, ↓kIR, ↓kLR, ↓kIIR, ↓kLIR, ↓kDIR, ↓kRIR, ↓kNN, ↓kE, ↓br, ↓bn, ↓rtI, ↓gfv, ↓zchk, lput, ldel, lbad, alA, acat, isRf, dom, dS, dJ, isO, aTy, aLen, elAV, elR, Nat.reduceBEq, Nat.reduceAdd, Bool.or, Bool.and, Nat.add_zero, Nat.zero_add]
  try simp only [Nat.reduceLT, Nat.reduceLeDiff, Nat.reduceEqDiff, true_and, and_true, and_self, Nat.zero_le, Nat.le_refl, true_or, or_true, Bool.false_eq_true, not_false_eq_true, Nat.reduceAdd, Nat.lt_add_one, Nat.zero_lt_one, nI_add, pk_mul, ixL, vpL, ne_eq, reduceIte, wI_sN, wL_sM, sN_same, sN_K, sN_2, sM_1, sM_same, sM_K, sM_s, uI_at, uN_at, enc_at, uI_enc, uI_uI, upM_s, upM_n, g]
  exact ⟨rfl, Same.refl _ _⟩
theorem x_pleM (hc : Ctx l G) (hS : ShP τ 0 a π) : Sat l G iX10_pledgedMinutes [moM] τ (lonP (nI (a 8)).toInt64 τ) := by
  have g := hS.2.2.1.2.1
  refine Sat_of hc.1 hc.2 (by decide +kernel) (Nat.le_of_ble_eq_true rfl) (fun x hB hno => ?_)
  refine V_run hB (rt := some .long) (nL := 1) (mc := 0) rfl rfl rfl obX10_pledgedMinutes_0 ?_
  dsimp only [bX10_pledgedMinutes_0, ↓wpb, ↓wp1, ↓vI, ↓vL, ↓vD, ↓ldI, ↓ldL, ↓ldD, ↓ldR, ↓k1, ↓k2, ↓kI, ↓kL, ↓kD, ↓kII, ↓kLL, ↓kDD, ↓kR, ↓kIR, ↓kLR, ↓kIIR, ↓kLIR, ↓kDIR, ↓kRIR, ↓kNN, ↓kE, ↓br, ↓bn, ↓rtI, ↓gfv, ↓zchk, lput, ldel, lbad, alA, acat, isRf, dom, dS, dJ, isO, aTy, aLen, elAV, elR, Nat.reduceBEq, Nat.reduceAdd, Bool.or, Bool.and, Nat.add_zero, Nat.zero_add]
  try simp only [Nat.reduceLT, Nat.reduceLeDiff, Nat.reduceEqDiff, true_and, and_true, and_self, Nat.zero_le, Nat.le_refl, true_or, or_true, Bool.false_eq_true, not_false_eq_true, Nat.reduceAdd, Nat.lt_add_one, Nat.zero_lt_one, nI_add, pk_mul, ixL, vpL, ne_eq, reduceIte, wI_sN, wL_sM, sN_same, sN_K, sN_2, sM_1, sM_same, sM_K, sM_s, uI_at, uN_at, enc_at, uI_enc, uI_uI, upM_s, upM_n, g]
  exact ⟨rfl, Same.refl _ _⟩
theorem x_coinsBy (hc : Ctx l G) (hS : ShP τ 0 a π) : Sat l G iX10_coinsByAccounts [moM] τ (RdC [] NoN τ (0, a 2)) := by
  refine Sat_of hc.1 hc.2 (by decide +kernel) (Nat.le_of_ble_eq_true rfl) (fun x hB hno => ?_)
  refine V_run hB (rt := some .int) (nL := 1) (mc := 0) rfl rfl rfl obX10_coinsByAccounts_0 ?_
  dsimp only [bX10_coinsByAccounts_0, ↓wpb, ↓wp1, ↓vI, ↓vL, ↓vD, ↓ldI, ↓ldL, ↓ldD, ↓ldR, ↓k1, ↓k2, ↓kI, ↓kL, ↓kD, ↓kII, ↓kLL, ↓kDD, ↓kR, ↓kIR, ↓kLR, ↓kIIR, ↓kLIR, ↓kDIR, ↓kRIR, ↓kNN, ↓kE, ↓br, ↓bn, ↓rtI, ↓gfv, ↓zchk, lput, ldel, lbad, alA, acat, isRf, dom, dS, dJ, isO, aTy, aLen, elAV, elR, Nat.reduceBEq, Nat.reduceAdd, Bool.or, Bool.and, Nat.add_zero, Nat.zero_add]
  try simp only [Nat.reduceLT, Nat.reduceLeDiff, Nat.reduceEqDiff, true_and, and_true, and_self, Nat.zero_le, Nat.le_refl, true_or, or_true, Bool.false_eq_true, not_false_eq_true, Nat.reduceAdd, Nat.lt_add_one, Nat.zero_lt_one, nI_add, pk_mul, ixL, vpL, ne_eq, reduceIte, wI_sN, wL_sM, sN_same, sN_K, sN_2, sM_1, sM_same, sM_K, sM_s, uI_at, uN_at, enc_at, uI_enc, uI_uI, upM_s, upM_n]
  refine V_cV hB hno (c_sums hc hS.2.2.1) rfl (by decide +kernel) cvX10_125 (dom1 rfl) npX1_coinsFromSums ⟨by decide, by decide⟩ (Nat.le_of_ble_eq_true rfl) (n' := 0) (by decide) rfl ?_
  refine V_run hB (rt := some .int) (nL := 1) (mc := 0) rfl rfl rfl obX10_coinsByAccounts_10 ?_
  dsimp only [bX10_coinsByAccounts_10, ↓wpb, ↓wp1, ↓vI, ↓vL, ↓vD, ↓ldI, ↓ldL, ↓ldD, ↓ldR, ↓k1, ↓k2, ↓kI, ↓kL, ↓kD, ↓kII, ↓kLL, ↓kDD, ↓kR, ↓kIR, ↓kLR, ↓kIIR, ↓kLIR, ↓kDIR, ↓kRIR, ↓kNN, ↓kE, ↓br, ↓bn, ↓rtI, ↓gfv, ↓zchk, lput, ldel, lbad, alA, acat, isRf, dom, dS, dJ, isO, aTy, aLen, elAV, elR, Nat.reduceBEq, Nat.reduceAdd, Bool.or, Bool.and, Nat.add_zero, Nat.zero_add]
  try simp only [Nat.reduceLT, Nat.reduceLeDiff, Nat.reduceEqDiff, true_and, and_true, and_self, Nat.zero_le, Nat.le_refl, true_or, or_true, Bool.false_eq_true, not_false_eq_true, Nat.reduceAdd, Nat.lt_add_one, Nat.zero_lt_one, nI_add, pk_mul, ixL, vpL, ne_eq, reduceIte, wI_sN, wL_sM, sN_same, sN_K, sN_2, sM_1, sM_same, sM_K, sM_s, uI_at, uN_at, enc_at, uI_enc, uI_uI, upM_s, upM_n]
  exact ⟨rfl, Same.refl _ _⟩
theorem x_rateOf (hc : Ctx l G) (hS : ShP τ 0 a π) (w : Int32) : Sat l G iX10_rateOf [moM, aI w] τ (RdC [IAE] NoN τ (sRof a w)) := by
  have hz := inR_0 (p := w) (h := 6) (by omega)
  refine Sat_of hc.1 hc.2 (by decide +kernel) (Nat.le_of_ble_eq_true rfl) (fun x hB hno => ?_)
  have e10 : ¬ inR w 0 6 = true → V x τ 0 10 [(0, moM), (1, aI w)] [] := by
    intro hq
    have e : sRof a w = (1, 0) := if_neg hq
    rw [e] at hB
    refine V_throw hB hno thX10_107_109 ⟨by decide +kernel, by decide +kernel, by decide +kernel, by decide +kernel, by decide +kernel⟩ (by decide) (Nat.le_of_ble_eq_true rfl) ?_
    exact ⟨rfl, Same.refl _ _⟩
  refine V_run hB (rt := some .int) (nL := 2) (mc := 1) rfl rfl rfl obX10_rateOf_0 ?_
  dsimp only [bX10_rateOf_0, ↓wpb, ↓wp1, ↓vI, ↓vL, ↓vD, ↓ldI, ↓ldL, ↓ldD, ↓ldR, ↓k1, ↓k2, ↓kI, ↓kL, ↓kD, ↓kII, ↓kLL, ↓kDD, ↓kR, ↓kIR, ↓kLR, ↓kIIR, ↓kLIR, ↓kDIR, ↓kRIR, ↓kNN, ↓kE, ↓br, ↓bn, ↓rtI, ↓gfv, ↓zchk, lput, ldel, lbad, alA, acat, isRf, dom, dS, dJ, isO, aTy, aLen, elAV, elR, Nat.reduceBEq, Nat.reduceAdd, Bool.or, Bool.and, Nat.add_zero, Nat.zero_add]
  try simp only [Nat.reduceLT, Nat.reduceLeDiff, Nat.reduceEqDiff, true_and, and_true, and_self, Nat.zero_le, Nat.le_refl, true_or, or_true, Bool.false_eq_true, not_false_eq_true, Nat.reduceAdd, Nat.lt_add_one, Nat.zero_lt_one, nI_add, pk_mul, ixL, vpL, ne_eq, reduceIte, wI_sN, wL_sM, sN_same, sN_K, sN_2, sM_1, sM_same, sM_K, sM_s, uI_at, uN_at, enc_at, uI_enc, uI_uI, upM_s, upM_n]
  refine ⟨fun q => e10 (fun z => (hz.mp z).1 q), fun q1 => ⟨fun q2 => ?_, fun q2 => e10 (fun z => (hz.mp z).2 (Int32.not_lt.mp q2))⟩⟩
  have hr := hz.mpr ⟨q1, Int32.not_le.mpr q2⟩
  obtain ⟨W, rfl, -, W2⟩ := inR_N hr (by omega) (by omega)
  have e : sRof a (nI W) = (0, a (9 + W)) := by unfold sRof; rw [if_pos hr, ixL (by omega)]
  rw [e] at hB
  have ix : (nI W).toNatClampNeg = W := ixL (by omega)
  have vx : vp_in (nI W) 7 = True := vpL (by omega) (by omega)
  have g := hS.2.1.2 W (by omega)
  refine V_run hB (rt := some .int) (nL := 2) (mc := 1) rfl rfl rfl obX10_rateOf_20 ?_
  dsimp only [bX10_rateOf_20, ↓wpb, ↓wp1, ↓vI, ↓vL, ↓vD, ↓ldI, ↓ldL, ↓ldD, ↓ldR, ↓k1, ↓k2, ↓kI, ↓kL, ↓kD, ↓kII, ↓kLL, ↓kDD, ↓kR, ↓kIR, ↓kLR, ↓kIIR, ↓kLIR, ↓kDIR, ↓kRIR, ↓kNN, ↓kE, ↓br, ↓bn, ↓rtI, ↓gfv, ↓zchk, lput, ldel, lbad, alA, acat, isRf, dom, dS, dJ, isO, aTy, aLen, elAV, elR, Nat.reduceBEq, Nat.reduceAdd, Bool.or, Bool.and, Nat.add_zero, Nat.zero_add]
  try simp only [Nat.reduceLT, Nat.reduceLeDiff, Nat.reduceEqDiff, true_and, and_true, and_self, Nat.zero_le, Nat.le_refl, true_or, or_true, Bool.false_eq_true, not_false_eq_true, Nat.reduceAdd, Nat.lt_add_one, Nat.zero_lt_one, nI_add, pk_mul, ixL, vpL, ne_eq, reduceIte, wI_sN, wL_sM, sN_same, sN_K, sN_2, sM_1, sM_same, sM_K, sM_s, uI_at, uN_at, enc_at, uI_enc, uI_uI, upM_s, upM_n, ix, vx, g]
  exact ⟨rfl, Same.refl _ _⟩
theorem x_pledgeCount (hc : Ctx l G) (hS : ShP τ 0 a π) (hV : IV n a) : Sat l G iX10_pledgeCount [moM] τ (RdC [] NoN τ (0, cntU a false (a 4))) := by
  refine Sat_of hc.1 hc.2 (by decide +kernel) (Nat.le_of_ble_eq_true rfl) (fun x hB hno => ?_)
  refine V_run hB (rt := some .int) (nL := 1) (mc := 0) rfl rfl rfl obX10_pledgeCount_0 ?_
  dsimp only [bX10_pledgeCount_0, ↓wpb, ↓wp1, ↓vI, ↓vL, ↓vD, ↓ldI, ↓ldL, ↓ldD, ↓ldR, ↓k1, ↓k2, ↓kI, ↓kL, ↓kD, ↓kII, ↓kLL, ↓kDD, ↓kR, ↓kIR, ↓kLR, ↓kIIR, ↓kLIR, ↓kDIR, ↓kRIR, ↓kNN, ↓kE, ↓br, ↓bn, ↓rtI, ↓gfv, ↓zchk, lput, ldel, lbad, alA, acat, isRf, dom, dS, dJ, isO, aTy, aLen, elAV, elR, Nat.reduceBEq, Nat.reduceAdd, Bool.or, Bool.and, Nat.add_zero, Nat.zero_add]
  try simp only [Nat.reduceLT, Nat.reduceLeDiff, Nat.reduceEqDiff, true_and, and_true, and_self, Nat.zero_le, Nat.le_refl, true_or, or_true, Bool.false_eq_true, not_false_eq_true, Nat.reduceAdd, Nat.lt_add_one, Nat.zero_lt_one, nI_add, pk_mul, ixL, vpL, ne_eq, reduceIte, wI_sN, wL_sM, sN_same, sN_K, sN_2, sM_1, sM_same, sM_K, sM_s, uI_at, uN_at, enc_at, uI_enc, uI_uI, upM_s, upM_n]
  refine V_cV hB hno (c_countOf hc hS hV false) rfl (by decide +kernel) cvX10_129 (dom1 rfl) npX9_countOf ⟨by decide, by decide⟩ (Nat.le_of_ble_eq_true rfl) (n' := 0) (by decide) rfl ?_
  refine V_run hB (rt := some .int) (nL := 1) (mc := 0) rfl rfl rfl obX10_pledgeCount_8 ?_
  dsimp only [bX10_pledgeCount_8, ↓wpb, ↓wp1, ↓vI, ↓vL, ↓vD, ↓ldI, ↓ldL, ↓ldD, ↓ldR, ↓k1, ↓k2, ↓kI, ↓kL, ↓kD, ↓kII, ↓kLL, ↓kDD, ↓kR, ↓kIR, ↓kLR, ↓kIIR, ↓kLIR, ↓kDIR, ↓kRIR, ↓kNN, ↓kE, ↓br, ↓bn, ↓rtI, ↓gfv, ↓zchk, lput, ldel, lbad, alA, acat, isRf, dom, dS, dJ, isO, aTy, aLen, elAV, elR, Nat.reduceBEq, Nat.reduceAdd, Bool.or, Bool.and, Nat.add_zero, Nat.zero_add]
  try simp only [Nat.reduceLT, Nat.reduceLeDiff, Nat.reduceEqDiff, true_and, and_true, and_self, Nat.zero_le, Nat.le_refl, true_or, or_true, Bool.false_eq_true, not_false_eq_true, Nat.reduceAdd, Nat.lt_add_one, Nat.zero_lt_one, nI_add, pk_mul, ixL, vpL, ne_eq, reduceIte, wI_sN, wL_sM, sN_same, sN_K, sN_2, sM_1, sM_same, sM_K, sM_s, uI_at, uN_at, enc_at, uI_enc, uI_uI, upM_s, upM_n]
  exact ⟨rfl, Same.refl _ _⟩
theorem x_lotCount (hc : Ctx l G) (hS : ShP τ 0 a π) (hV : IV n a) : Sat l G iX10_lotCount [moM] τ (RdC [] NoN τ (0, cntU a true (a 4))) := by
  refine Sat_of hc.1 hc.2 (by decide +kernel) (Nat.le_of_ble_eq_true rfl) (fun x hB hno => ?_)
  refine V_run hB (rt := some .int) (nL := 1) (mc := 0) rfl rfl rfl obX10_lotCount_0 ?_
  dsimp only [bX10_lotCount_0, ↓wpb, ↓wp1, ↓vI, ↓vL, ↓vD, ↓ldI, ↓ldL, ↓ldD, ↓ldR, ↓k1, ↓k2, ↓kI, ↓kL, ↓kD, ↓kII, ↓kLL, ↓kDD, ↓kR, ↓kIR, ↓kLR, ↓kIIR, ↓kLIR, ↓kDIR, ↓kRIR, ↓kNN, ↓kE, ↓br, ↓bn, ↓rtI, ↓gfv, ↓zchk, lput, ldel, lbad, alA, acat, isRf, dom, dS, dJ, isO, aTy, aLen, elAV, elR, Nat.reduceBEq, Nat.reduceAdd, Bool.or, Bool.and, Nat.add_zero, Nat.zero_add]
  try simp only [Nat.reduceLT, Nat.reduceLeDiff, Nat.reduceEqDiff, true_and, and_true, and_self, Nat.zero_le, Nat.le_refl, true_or, or_true, Bool.false_eq_true, not_false_eq_true, Nat.reduceAdd, Nat.lt_add_one, Nat.zero_lt_one, nI_add, pk_mul, ixL, vpL, ne_eq, reduceIte, wI_sN, wL_sM, sN_same, sN_K, sN_2, sM_1, sM_same, sM_K, sM_s, uI_at, uN_at, enc_at, uI_enc, uI_uI, upM_s, upM_n]
  refine V_cV hB hno (c_countOf hc hS hV true) rfl (by decide +kernel) cvX10_129 (dom1 rfl) npX9_countOf ⟨by decide, by decide⟩ (Nat.le_of_ble_eq_true rfl) (n' := 0) (by decide) rfl ?_
  refine V_run hB (rt := some .int) (nL := 1) (mc := 0) rfl rfl rfl obX10_lotCount_8 ?_
  dsimp only [bX10_lotCount_8, ↓wpb, ↓wp1, ↓vI, ↓vL, ↓vD, ↓ldI, ↓ldL, ↓ldD, ↓ldR, ↓k1, ↓k2, ↓kI, ↓kL, ↓kD, ↓kII, ↓kLL, ↓kDD, ↓kR, ↓kIR, ↓kLR, ↓kIIR, ↓kLIR, ↓kDIR, ↓kRIR, ↓kNN, ↓kE, ↓br, ↓bn, ↓rtI, ↓gfv, ↓zchk, lput, ldel, lbad, alA, acat, isRf, dom, dS, dJ, isO, aTy, aLen, elAV, elR, Nat.reduceBEq, Nat.reduceAdd, Bool.or, Bool.and, Nat.add_zero, Nat.zero_add]
  try simp only [Nat.reduceLT, Nat.reduceLeDiff, Nat.reduceEqDiff, true_and, and_true, and_self, Nat.zero_le, Nat.le_refl, true_or, or_true, Bool.false_eq_true, not_false_eq_true, Nat.reduceAdd, Nat.lt_add_one, Nat.zero_lt_one, nI_add, pk_mul, ixL, vpL, ne_eq, reduceIte, wI_sN, wL_sM, sN_same, sN_K, sN_2, sM_1, sM_same, sM_K, sM_s, uI_at, uN_at, enc_at, uI_enc, uI_uI, upM_s, upM_n]
  exact ⟨rfl, Same.refl _ _⟩
theorem x_pledgeAt (hc : Ctx l G) (hS : ShP τ 0 a π) (hV : IV n a) (p : Int32) : Sat l G iX10_pledgeAt [moM, aI p] τ (RdC [IOE] NoN τ (sPlc a p false)) := by
  have h10 := hV.1.1
  rw [sPlc_I]
  refine Sat_of hc.1 hc.2 (by decide +kernel) (Nat.le_of_ble_eq_true rfl) (fun x hB hno => ?_)
  refine V_run hB (rt := some .int) (nL := 3) (mc := 1) rfl rfl rfl obX10_pledgeAt_0 ?_
  dsimp only [bX10_pledgeAt_0, ↓wpb, ↓wp1, ↓vI, ↓vL, ↓vD, ↓ldI, ↓ldL, ↓ldD, ↓ldR, ↓k1, ↓k2, ↓kI, ↓kL, ↓kD, ↓kII, ↓kLL, ↓kDD, ↓kR, ↓kIR, ↓kLR, ↓kIIR, ↓kLIR, ↓kDIR, ↓kRIR, ↓kNN, ↓kE, ↓br, ↓bn, ↓rtI, ↓gfv, ↓zchk, lput, ldel, lbad, alA, acat, isRf, dom, dS, dJ, isO, aTy, aLen, elAV, elR, Nat.reduceBEq, Nat.reduceAdd, Bool.or, Bool.and, Nat.add_zero, Nat.zero_add]
  try simp only [Nat.reduceLT, Nat.reduceLeDiff, Nat.reduceEqDiff, true_and, and_true, and_self, Nat.zero_le, Nat.le_refl, true_or, or_true, Bool.false_eq_true, not_false_eq_true, Nat.reduceAdd, Nat.lt_add_one, Nat.zero_lt_one, nI_add, pk_mul, ixL, vpL, ne_eq, reduceIte, wI_sN, wL_sM, sN_same, sN_K, sN_2, sM_1, sM_same, sM_K, sM_s, uI_at, uN_at, enc_at, uI_enc, uI_uI, upM_s, upM_n]
  refine V_cV hB hno (c_nthOf hc hS hV false p) rfl (by decide +kernel) cvX10_133 (dom1 rfl) npX9_nthOf ⟨by decide, by decide⟩ (Nat.le_of_ble_eq_true rfl) (n' := 0) (by decide) rfl ?_
  cases ho : plcI a false p with
  | none =>
    rw [ho] at hB
    show V x τ 0 9 _ [.inl .null]
    refine V_run hB (rt := some .int) (nL := 3) (mc := 1) rfl rfl rfl obX10_pledgeAt_9 ?_
    dsimp only [bX10_pledgeAt_9, ↓wpb, ↓wp1, ↓vI, ↓vL, ↓vD, ↓ldI, ↓ldL, ↓ldD, ↓ldR, ↓k1, ↓k2, ↓kI, ↓kL, ↓kD, ↓kII, ↓kLL, ↓kDD, ↓kR, ↓kIR, ↓kLR, ↓kIIR, ↓kLIR, ↓kDIR, ↓kRIR, ↓kNN, ↓kE, ↓br, ↓bn, ↓rtI, ↓gfv, ↓zchk, lput, ldel, lbad, alA, acat, isRf, dom, dS, dJ, isO, aTy, aLen, elAV, elR, Nat.reduceBEq, Nat.reduceAdd, Bool.or, Bool.and, Nat.add_zero, Nat.zero_add]
    try simp only [Nat.reduceLT, Nat.reduceLeDiff, Nat.reduceEqDiff, true_and, and_true, and_self, Nat.zero_le, Nat.le_refl, true_or, or_true, Bool.false_eq_true, not_false_eq_true, Nat.reduceAdd, Nat.lt_add_one, Nat.zero_lt_one, nI_add, pk_mul, ixL, vpL, ne_eq, reduceIte, wI_sN, wL_sM, sN_same, sN_K, sN_2, sM_1, sM_same, sM_K, sM_s, uI_at, uN_at, enc_at, uI_enc, uI_uI, upM_s, upM_n]
    refine V_throw hB hno thX10_139_141 ⟨by decide +kernel, by decide +kernel, by decide +kernel, by decide +kernel, by decide +kernel⟩ (by decide) (Nat.le_of_ble_eq_true rfl) ?_
    exact ⟨rfl, Same.refl _ _⟩
  | some i =>
    rw [ho] at hB
    have hi := plcI_lt ho
    have ix : (nI i).toNatClampNeg = i := ixL (by omega)
    have vx : vp_in (nI i) 10 = True := vpL (by omega) (by omega)
    obtain ⟨hp, rp⟩ := hS.2.2.2.1 i (by omega)
    have ip : (nI (π i)).toNatClampNeg = π i := ixL (by omega)
    obtain ⟨⟨f0, f1, f2, f3, f4, f5, f6⟩, fb⟩ := hS.2.2.2.2.2 i (by omega)
    show V x τ 0 9 _ [.inr (5, 0, π i)]
    refine V_run hB (rt := some .int) (nL := 3) (mc := 1) rfl rfl rfl obX10_pledgeAt_9 ?_
    dsimp only [bX10_pledgeAt_9, ↓wpb, ↓wp1, ↓vI, ↓vL, ↓vD, ↓ldI, ↓ldL, ↓ldD, ↓ldR, ↓k1, ↓k2, ↓kI, ↓kL, ↓kD, ↓kII, ↓kLL, ↓kDD, ↓kR, ↓kIR, ↓kLR, ↓kIIR, ↓kLIR, ↓kDIR, ↓kRIR, ↓kNN, ↓kE, ↓br, ↓bn, ↓rtI, ↓gfv, ↓zchk, lput, ldel, lbad, alA, acat, isRf, dom, dS, dJ, isO, aTy, aLen, elAV, elR, Nat.reduceBEq, Nat.reduceAdd, Bool.or, Bool.and, Nat.add_zero, Nat.zero_add]
    try simp only [Nat.reduceLT, Nat.reduceLeDiff, Nat.reduceEqDiff, true_and, and_true, and_self, Nat.zero_le, Nat.le_refl, true_or, or_true, Bool.false_eq_true, not_false_eq_true, Nat.reduceAdd, Nat.lt_add_one, Nat.zero_lt_one, nI_add, pk_mul, ixL, vpL, ne_eq, reduceIte, wI_sN, wL_sM, sN_same, sN_K, sN_2, sM_1, sM_same, sM_K, sM_s, uI_at, uN_at, enc_at, uI_enc, uI_uI, upM_s, upM_n]
    refine V_run hB (rt := some .int) (nL := 3) (mc := 1) rfl rfl rfl obX10_pledgeAt_24 ?_
    dsimp only [bX10_pledgeAt_24, ↓wpb, ↓wp1, ↓vI, ↓vL, ↓vD, ↓ldI, ↓ldL, ↓ldD, ↓ldR, ↓k1, ↓k2, ↓kI, ↓kL, ↓kD, ↓kII, ↓kLL, ↓kDD, ↓kR, ↓kIR, ↓kLR, ↓kIIR, ↓kLIR, ↓kDIR, ↓kRIR, ↓kNN, ↓kE, ↓br, ↓bn, ↓rtI, ↓gfv, ↓zchk, lput, ldel, lbad, alA, acat, isRf, dom, dS, dJ, isO, aTy, aLen, elAV, elR, Nat.reduceBEq, Nat.reduceAdd, Bool.or, Bool.and, Nat.add_zero, Nat.zero_add]
    try simp only [Nat.reduceLT, Nat.reduceLeDiff, Nat.reduceEqDiff, true_and, and_true, and_self, Nat.zero_le, Nat.le_refl, true_or, or_true, Bool.false_eq_true, not_false_eq_true, Nat.reduceAdd, Nat.lt_add_one, Nat.zero_lt_one, nI_add, pk_mul, ixL, vpL, ne_eq, reduceIte, wI_sN, wL_sM, sN_same, sN_K, sN_2, sM_1, sM_same, sM_K, sM_s, uI_at, uN_at, enc_at, uI_enc, uI_uI, upM_s, upM_n, ix, vx, hp, rp, ip, f0, f1, f2, f3, f4, f5, f6]
    exact ⟨rfl, Same.refl _ _⟩
theorem x_lotAt (hc : Ctx l G) (hS : ShP τ 0 a π) (hV : IV n a) (p : Int32) : Sat l G iX10_lotAt [moM, aI p] τ (RdC [IOE] NoN τ (sPlc a p true)) := by
  have h10 := hV.1.1
  rw [sPlc_I]
  refine Sat_of hc.1 hc.2 (by decide +kernel) (Nat.le_of_ble_eq_true rfl) (fun x hB hno => ?_)
  refine V_run hB (rt := some .int) (nL := 3) (mc := 1) rfl rfl rfl obX10_lotAt_0 ?_
  dsimp only [bX10_lotAt_0, ↓wpb, ↓wp1, ↓vI, ↓vL, ↓vD, ↓ldI, ↓ldL, ↓ldD, ↓ldR, ↓k1, ↓k2, ↓kI, ↓kL, ↓kD, ↓kII, ↓kLL, ↓kDD, ↓kR, ↓kIR, ↓kLR, ↓kIIR, ↓kLIR, ↓kDIR, ↓kRIR, ↓kNN, ↓kE, ↓br, ↓bn, ↓rtI, ↓gfv, ↓zchk, lput, ldel, lbad, alA, acat, isRf, dom, dS, dJ, isO, aTy, aLen, elAV, elR, Nat.reduceBEq, Nat.reduceAdd, Bool.or, Bool.and, Nat.add_zero, Nat.zero_add]
  try simp only [Nat.reduceLT, Nat.reduceLeDiff, Nat.reduceEqDiff, true_and, and_true, and_self, Nat.zero_le, Nat.le_refl, true_or, or_true, Bool.false_eq_true, not_false_eq_true, Nat.reduceAdd, Nat.lt_add_one, Nat.zero_lt_one, nI_add, pk_mul, ixL, vpL, ne_eq, reduceIte, wI_sN, wL_sM, sN_same, sN_K, sN_2, sM_1, sM_same, sM_K, sM_s, uI_at, uN_at, enc_at, uI_enc, uI_uI, upM_s, upM_n]
  refine V_cV hB hno (c_nthOf hc hS hV true p) rfl (by decide +kernel) cvX10_133 (dom1 rfl) npX9_nthOf ⟨by decide, by decide⟩ (Nat.le_of_ble_eq_true rfl) (n' := 0) (by decide) rfl ?_
  cases ho : plcI a true p with
  | none =>
    rw [ho] at hB
    show V x τ 0 9 _ [.inl .null]
    refine V_run hB (rt := some .int) (nL := 3) (mc := 1) rfl rfl rfl obX10_lotAt_9 ?_
    dsimp only [bX10_lotAt_9, ↓wpb, ↓wp1, ↓vI, ↓vL, ↓vD, ↓ldI, ↓ldL, ↓ldD, ↓ldR, ↓k1, ↓k2, ↓kI, ↓kL, ↓kD, ↓kII, ↓kLL, ↓kDD, ↓kR, ↓kIR, ↓kLR, ↓kIIR, ↓kLIR, ↓kDIR, ↓kRIR, ↓kNN, ↓kE, ↓br, ↓bn, ↓rtI, ↓gfv, ↓zchk, lput, ldel, lbad, alA, acat, isRf, dom, dS, dJ, isO, aTy, aLen, elAV, elR, Nat.reduceBEq, Nat.reduceAdd, Bool.or, Bool.and, Nat.add_zero, Nat.zero_add]
    try simp only [Nat.reduceLT, Nat.reduceLeDiff, Nat.reduceEqDiff, true_and, and_true, and_self, Nat.zero_le, Nat.le_refl, true_or, or_true, Bool.false_eq_true, not_false_eq_true, Nat.reduceAdd, Nat.lt_add_one, Nat.zero_lt_one, nI_add, pk_mul, ixL, vpL, ne_eq, reduceIte, wI_sN, wL_sM, sN_same, sN_K, sN_2, sM_1, sM_same, sM_K, sM_s, uI_at, uN_at, enc_at, uI_enc, uI_uI, upM_s, upM_n]
    refine V_throw hB hno thX10_220_141 ⟨by decide +kernel, by decide +kernel, by decide +kernel, by decide +kernel, by decide +kernel⟩ (by decide) (Nat.le_of_ble_eq_true rfl) ?_
    exact ⟨rfl, Same.refl _ _⟩
  | some i =>
    rw [ho] at hB
    have hi := plcI_lt ho
    have ix : (nI i).toNatClampNeg = i := ixL (by omega)
    have vx : vp_in (nI i) 10 = True := vpL (by omega) (by omega)
    obtain ⟨hp, rp⟩ := hS.2.2.2.1 i (by omega)
    have ip : (nI (π i)).toNatClampNeg = π i := ixL (by omega)
    obtain ⟨⟨f0, f1, f2, f3, f4, f5, f6⟩, fb⟩ := hS.2.2.2.2.2 i (by omega)
    show V x τ 0 9 _ [.inr (5, 0, π i)]
    refine V_run hB (rt := some .int) (nL := 3) (mc := 1) rfl rfl rfl obX10_lotAt_9 ?_
    dsimp only [bX10_lotAt_9, ↓wpb, ↓wp1, ↓vI, ↓vL, ↓vD, ↓ldI, ↓ldL, ↓ldD, ↓ldR, ↓k1, ↓k2, ↓kI, ↓kL, ↓kD, ↓kII, ↓kLL, ↓kDD, ↓kR, ↓kIR, ↓kLR, ↓kIIR, ↓kLIR, ↓kDIR, ↓kRIR, ↓kNN, ↓kE, ↓br, ↓bn, ↓rtI, ↓gfv, ↓zchk, lput, ldel, lbad, alA, acat, isRf, dom, dS, dJ, isO, aTy, aLen, elAV, elR, Nat.reduceBEq, Nat.reduceAdd, Bool.or, Bool.and, Nat.add_zero, Nat.zero_add]
    try simp only [Nat.reduceLT, Nat.reduceLeDiff, Nat.reduceEqDiff, true_and, and_true, and_self, Nat.zero_le, Nat.le_refl, true_or, or_true, Bool.false_eq_true, not_false_eq_true, Nat.reduceAdd, Nat.lt_add_one, Nat.zero_lt_one, nI_add, pk_mul, ixL, vpL, ne_eq, reduceIte, wI_sN, wL_sM, sN_same, sN_K, sN_2, sM_1, sM_same, sM_K, sM_s, uI_at, uN_at, enc_at, uI_enc, uI_uI, upM_s, upM_n]
    refine V_run hB (rt := some .int) (nL := 3) (mc := 1) rfl rfl rfl obX10_lotAt_24 ?_
    dsimp only [bX10_lotAt_24, ↓wpb, ↓wp1, ↓vI, ↓vL, ↓vD, ↓ldI, ↓ldL, ↓ldD, ↓ldR, ↓k1, ↓k2, ↓kI, ↓kL, ↓kD, ↓kII, ↓kLL, ↓kDD, ↓kR, ↓kIR, ↓kLR, ↓kIIR, ↓kLIR, ↓kDIR, ↓kRIR, ↓kNN, ↓kE, ↓br, ↓bn, ↓rtI, ↓gfv, ↓zchk, lput, ldel, lbad, alA, acat, isRf, dom, dS, dJ, isO, aTy, aLen, elAV, elR, Nat.reduceBEq, Nat.reduceAdd, Bool.or, Bool.and, Nat.add_zero, Nat.zero_add]
    try simp only [Nat.reduceLT, Nat.reduceLeDiff, Nat.reduceEqDiff, true_and, and_true, and_self, Nat.zero_le, Nat.le_refl, true_or, or_true, Bool.false_eq_true, not_false_eq_true, Nat.reduceAdd, Nat.lt_add_one, Nat.zero_lt_one, nI_add, pk_mul, ixL, vpL, ne_eq, reduceIte, wI_sN, wL_sM, sN_same, sN_K, sN_2, sM_1, sM_same, sM_K, sM_s, uI_at, uN_at, enc_at, uI_enc, uI_uI, upM_s, upM_n, ix, vx, hp, rp, ip, f0, f1, f2, f3, f4, f5, f6]
    exact ⟨rfl, Same.refl _ _⟩
theorem x_byDue (hc : Ctx l G) (hS : ShP τ 0 a π) (hV : IV n a) (hn : n ≤ 1000) (p : Int32) : Sat l G iX10_pledgeByDueDay [moM, aI p] τ (RdC [NSE] NoN τ (sByD a p)) := by
  have h10 := hV.1.1
  unfold sByD
  refine Sat_of hc.1 hc.2 (by decide +kernel) (Nat.le_of_ble_eq_true rfl) (fun x hB hno => ?_)
  refine V_run hB (rt := some .int) (nL := 3) (mc := 1) rfl rfl rfl obX10_pledgeByDueDay_0 ?_
  dsimp only [bX10_pledgeByDueDay_0, ↓wpb, ↓wp1, ↓vI, ↓vL, ↓vD, ↓ldI, ↓ldL, ↓ldD, ↓ldR, ↓k1, ↓k2, ↓kI, ↓kL, ↓kD, ↓kII, ↓kLL, ↓kDD, ↓kR, ↓kIR, ↓kLR, ↓kIIR, ↓kLIR, ↓kDIR, ↓kRIR, ↓kNN, ↓kE, ↓br, ↓bn, ↓rtI, ↓gfv, ↓zchk, lput, ldel, lbad, alA, acat, isRf, dom, dS, dJ, isO, aTy, aLen, elAV, elR, Nat.reduceBEq, Nat.reduceAdd, Bool.or, Bool.and, Nat.add_zero, Nat.zero_add]
  try simp only [Nat.reduceLT, Nat.reduceLeDiff, Nat.reduceEqDiff, true_and, and_true, and_self, Nat.zero_le, Nat.le_refl, true_or, or_true, Bool.false_eq_true, not_false_eq_true, Nat.reduceAdd, Nat.lt_add_one, Nat.zero_lt_one, nI_add, pk_mul, ixL, vpL, ne_eq, reduceIte, wI_sN, wL_sM, sN_same, sN_K, sN_2, sM_1, sM_same, sM_K, sM_s, uI_at, uN_at, enc_at, uI_enc, uI_uI, upM_s, upM_n]
  refine V_cV hB hno (c_dueRank hc hS hV hn p) rfl (by decide +kernel) cvX10_166 (dom1 rfl) npX9_pledgeOfDueRank ⟨by decide, by decide⟩ (Nat.le_of_ble_eq_true rfl) (n' := 0) (by decide) rfl ?_
  cases ho : bdU a p 0 (a 4) with
  | none =>
    rw [ho] at hB
    show V x τ 0 8 _ [.inl .null]
    refine V_run hB (rt := some .int) (nL := 3) (mc := 1) rfl rfl rfl obX10_pledgeByDueDay_8 ?_
    dsimp only [bX10_pledgeByDueDay_8, ↓wpb, ↓wp1, ↓vI, ↓vL, ↓vD, ↓ldI, ↓ldL, ↓ldD, ↓ldR, ↓k1, ↓k2, ↓kI, ↓kL, ↓kD, ↓kII, ↓kLL, ↓kDD, ↓kR, ↓kIR, ↓kLR, ↓kIIR, ↓kLIR, ↓kDIR, ↓kRIR, ↓kNN, ↓kE, ↓br, ↓bn, ↓rtI, ↓gfv, ↓zchk, lput, ldel, lbad, alA, acat, isRf, dom, dS, dJ, isO, aTy, aLen, elAV, elR, Nat.reduceBEq, Nat.reduceAdd, Bool.or, Bool.and, Nat.add_zero, Nat.zero_add]
    try simp only [Nat.reduceLT, Nat.reduceLeDiff, Nat.reduceEqDiff, true_and, and_true, and_self, Nat.zero_le, Nat.le_refl, true_or, or_true, Bool.false_eq_true, not_false_eq_true, Nat.reduceAdd, Nat.lt_add_one, Nat.zero_lt_one, nI_add, pk_mul, ixL, vpL, ne_eq, reduceIte, wI_sN, wL_sM, sN_same, sN_K, sN_2, sM_1, sM_same, sM_K, sM_s, uI_at, uN_at, enc_at, uI_enc, uI_uI, upM_s, upM_n]
    refine V_throw hB hno thX10_171_173 ⟨by decide +kernel, by decide +kernel, by decide +kernel, by decide +kernel, by decide +kernel⟩ (by decide) (Nat.le_of_ble_eq_true rfl) ?_
    exact ⟨rfl, Same.refl _ _⟩
  | some i =>
    rw [ho] at hB
    have hi := (bdU_lt ho).2.1
    have ix : (nI i).toNatClampNeg = i := ixL (by omega)
    have vx : vp_in (nI i) 10 = True := vpL (by omega) (by omega)
    obtain ⟨hp, rp⟩ := hS.2.2.2.1 i (by omega)
    have ip : (nI (π i)).toNatClampNeg = π i := ixL (by omega)
    obtain ⟨⟨f0, f1, f2, f3, f4, f5, f6⟩, fb⟩ := hS.2.2.2.2.2 i (by omega)
    show V x τ 0 8 _ [.inr (5, 0, π i)]
    refine V_run hB (rt := some .int) (nL := 3) (mc := 1) rfl rfl rfl obX10_pledgeByDueDay_8 ?_
    dsimp only [bX10_pledgeByDueDay_8, ↓wpb, ↓wp1, ↓vI, ↓vL, ↓vD, ↓ldI, ↓ldL, ↓ldD, ↓ldR, ↓k1, ↓k2, ↓kI, ↓kL, ↓kD, ↓kII, ↓kLL, ↓kDD, ↓kR, ↓kIR, ↓kLR, ↓kIIR, ↓kLIR, ↓kDIR, ↓kRIR, ↓kNN, ↓kE, ↓br, ↓bn, ↓rtI, ↓gfv, ↓zchk, lput, ldel, lbad, alA, acat, isRf, dom, dS, dJ, isO, aTy, aLen, elAV, elR, Nat.reduceBEq, Nat.reduceAdd, Bool.or, Bool.and, Nat.add_zero, Nat.zero_add]
    try simp only [Nat.reduceLT, Nat.reduceLeDiff, Nat.reduceEqDiff, true_and, and_true, and_self, Nat.zero_le, Nat.le_refl, true_or, or_true, Bool.false_eq_true, not_false_eq_true, Nat.reduceAdd, Nat.lt_add_one, Nat.zero_lt_one, nI_add, pk_mul, ixL, vpL, ne_eq, reduceIte, wI_sN, wL_sM, sN_same, sN_K, sN_2, sM_1, sM_same, sM_K, sM_s, uI_at, uN_at, enc_at, uI_enc, uI_uI, upM_s, upM_n]
    refine V_run hB (rt := some .int) (nL := 3) (mc := 1) rfl rfl rfl obX10_pledgeByDueDay_23 ?_
    dsimp only [bX10_pledgeByDueDay_23, ↓wpb, ↓wp1, ↓vI, ↓vL, ↓vD, ↓ldI, ↓ldL, ↓ldD, ↓ldR, ↓k1, ↓k2, ↓kI, ↓kL, ↓kD, ↓kII, ↓kLL, ↓kDD, ↓kR, ↓kIR, ↓kLR, ↓kIIR, ↓kLIR, ↓kDIR, ↓kRIR, ↓kNN, ↓kE, ↓br, ↓bn, ↓rtI, ↓gfv, ↓zchk, lput, ldel, lbad, alA, acat, isRf, dom, dS, dJ, isO, aTy, aLen, elAV, elR, Nat.reduceBEq, Nat.reduceAdd, Bool.or, Bool.and, Nat.add_zero, Nat.zero_add]
    try simp only [Nat.reduceLT, Nat.reduceLeDiff, Nat.reduceEqDiff, true_and, and_true, and_self, Nat.zero_le, Nat.le_refl, true_or, or_true, Bool.false_eq_true, not_false_eq_true, Nat.reduceAdd, Nat.lt_add_one, Nat.zero_lt_one, nI_add, pk_mul, ixL, vpL, ne_eq, reduceIte, wI_sN, wL_sM, sN_same, sN_K, sN_2, sM_1, sM_same, sM_K, sM_s, uI_at, uN_at, enc_at, uI_enc, uI_uI, upM_s, upM_n, ix, vx, hp, rp, ip, f0, f1, f2, f3, f4, f5, f6]
    exact ⟨rfl, Same.refl _ _⟩
theorem x_dtf (hc : Ctx l G) (hS : ShP τ 0 a π) (hV : IV n a) (hn : n ≤ 1000) : Sat l G iX10_daysToForfeit [moM] τ (RdC [NSE] NoN τ (sDtF a)) := by
  have h10 := hV.1.1
  have gd := hS.2.1.1
  rw [sDtF_bd a h10]
  refine Sat_of hc.1 hc.2 (by decide +kernel) (Nat.le_of_ble_eq_true rfl) (fun x hB hno => ?_)
  refine V_run hB (rt := some .int) (nL := 2) (mc := 1) rfl rfl rfl obX10_daysToForfeit_0 ?_
  dsimp only [bX10_daysToForfeit_0, ↓wpb, ↓wp1, ↓vI, ↓vL, ↓vD, ↓ldI, ↓ldL, ↓ldD, ↓ldR, ↓k1, ↓k2, ↓kI, ↓kL, ↓kD, ↓kII, ↓kLL, ↓kDD, ↓kR, ↓kIR, ↓kLR, ↓kIIR, ↓kLIR, ↓kDIR, ↓kRIR, ↓kNN, ↓kE, ↓br, ↓bn, ↓rtI, ↓gfv, ↓zchk, lput, ldel, lbad, alA, acat, isRf, dom, dS, dJ, isO, aTy, aLen, elAV, elR, Nat.reduceBEq, Nat.reduceAdd, Bool.or, Bool.and, Nat.add_zero, Nat.zero_add]
  try simp only [Nat.reduceLT, Nat.reduceLeDiff, Nat.reduceEqDiff, true_and, and_true, and_self, Nat.zero_le, Nat.le_refl, true_or, or_true, Bool.false_eq_true, not_false_eq_true, Nat.reduceAdd, Nat.lt_add_one, Nat.zero_lt_one, nI_add, pk_mul, ixL, vpL, ne_eq, reduceIte, wI_sN, wL_sM, sN_same, sN_K, sN_2, sM_1, sM_same, sM_K, sM_s, uI_at, uN_at, enc_at, uI_enc, uI_uI, upM_s, upM_n]
  refine V_cV hB hno (c_dueRank hc hS hV hn (nI 0)) rfl (by decide +kernel) cvX10_166 (dom1 rfl) npX9_pledgeOfDueRank ⟨by decide, by decide⟩ (Nat.le_of_ble_eq_true rfl) (n' := 0) (by decide) rfl ?_
  cases ho : bdU a (nI 0) 0 (a 4) with
  | none =>
    rw [ho] at hB
    show V x τ 0 8 _ [.inl .null]
    refine V_run hB (rt := some .int) (nL := 2) (mc := 1) rfl rfl rfl obX10_daysToForfeit_8 ?_
    dsimp only [bX10_daysToForfeit_8, ↓wpb, ↓wp1, ↓vI, ↓vL, ↓vD, ↓ldI, ↓ldL, ↓ldD, ↓ldR, ↓k1, ↓k2, ↓kI, ↓kL, ↓kD, ↓kII, ↓kLL, ↓kDD, ↓kR, ↓kIR, ↓kLR, ↓kIIR, ↓kLIR, ↓kDIR, ↓kRIR, ↓kNN, ↓kE, ↓br, ↓bn, ↓rtI, ↓gfv, ↓zchk, lput, ldel, lbad, alA, acat, isRf, dom, dS, dJ, isO, aTy, aLen, elAV, elR, Nat.reduceBEq, Nat.reduceAdd, Bool.or, Bool.and, Nat.add_zero, Nat.zero_add]
    try simp only [Nat.reduceLT, Nat.reduceLeDiff, Nat.reduceEqDiff, true_and, and_true, and_self, Nat.zero_le, Nat.le_refl, true_or, or_true, Bool.false_eq_true, not_false_eq_true, Nat.reduceAdd, Nat.lt_add_one, Nat.zero_lt_one, nI_add, pk_mul, ixL, vpL, ne_eq, reduceIte, wI_sN, wL_sM, sN_same, sN_K, sN_2, sM_1, sM_same, sM_K, sM_s, uI_at, uN_at, enc_at, uI_enc, uI_uI, upM_s, upM_n]
    refine V_throw hB hno thX10_208_173 ⟨by decide +kernel, by decide +kernel, by decide +kernel, by decide +kernel, by decide +kernel⟩ (by decide) (Nat.le_of_ble_eq_true rfl) ?_
    exact ⟨rfl, Same.refl _ _⟩
  | some i =>
    rw [ho] at hB
    obtain ⟨-, hi, hl, -⟩ := bdU_lt ho
    have ix : (nI i).toNatClampNeg = i := ixL (by omega)
    have vx : vp_in (nI i) 10 = True := vpL (by omega) (by omega)
    obtain ⟨hp, rp⟩ := hS.2.2.2.1 i (by omega)
    have ip : (nI (π i)).toNatClampNeg = π i := ixL (by omega)
    obtain ⟨⟨f0, f1, f2, f3, f4, f5, f6⟩, fb⟩ := hS.2.2.2.2.2 i (by omega)
    have hd := (hV.1.2.2.1 i (by omega)).2.2.2 (by unfold isLot at hl; have := hV.l1 (show i < 10 by omega); have := beq_eq_false_iff_ne.mp hl; omega)
    have es : nI (it a i 6 + 1) - nI (a 0) = nI (it a i 6 + 1 - a 0) := pk_sub (by omega)
    show V x τ 0 8 _ [.inr (5, 0, π i)]
    refine V_run hB (rt := some .int) (nL := 2) (mc := 1) rfl rfl rfl obX10_daysToForfeit_8 ?_
    dsimp only [bX10_daysToForfeit_8, ↓wpb, ↓wp1, ↓vI, ↓vL, ↓vD, ↓ldI, ↓ldL, ↓ldD, ↓ldR, ↓k1, ↓k2, ↓kI, ↓kL, ↓kD, ↓kII, ↓kLL, ↓kDD, ↓kR, ↓kIR, ↓kLR, ↓kIIR, ↓kLIR, ↓kDIR, ↓kRIR, ↓kNN, ↓kE, ↓br, ↓bn, ↓rtI, ↓gfv, ↓zchk, lput, ldel, lbad, alA, acat, isRf, dom, dS, dJ, isO, aTy, aLen, elAV, elR, Nat.reduceBEq, Nat.reduceAdd, Bool.or, Bool.and, Nat.add_zero, Nat.zero_add]
    try simp only [Nat.reduceLT, Nat.reduceLeDiff, Nat.reduceEqDiff, true_and, and_true, and_self, Nat.zero_le, Nat.le_refl, true_or, or_true, Bool.false_eq_true, not_false_eq_true, Nat.reduceAdd, Nat.lt_add_one, Nat.zero_lt_one, nI_add, pk_mul, ixL, vpL, ne_eq, reduceIte, wI_sN, wL_sM, sN_same, sN_K, sN_2, sM_1, sM_same, sM_K, sM_s, uI_at, uN_at, enc_at, uI_enc, uI_uI, upM_s, upM_n]
    refine V_run hB (rt := some .int) (nL := 2) (mc := 1) rfl rfl rfl obX10_daysToForfeit_23 ?_
    dsimp only [bX10_daysToForfeit_23, ↓wpb, ↓wp1, ↓vI, ↓vL, ↓vD, ↓ldI, ↓ldL, ↓ldD, ↓ldR, ↓k1, ↓k2, ↓kI, ↓kL, ↓kD, ↓kII, ↓kLL, ↓kDD, ↓kR, ↓kIR, ↓kLR, ↓kIIR, ↓kLIR, ↓kDIR, ↓kRIR, ↓kNN, ↓kE, ↓br, ↓bn, ↓rtI, ↓gfv, ↓zchk, lput, ldel, lbad, alA, acat, isRf, dom, dS, dJ, isO, aTy, aLen, elAV, elR, Nat.reduceBEq, Nat.reduceAdd, Bool.or, Bool.and, Nat.add_zero, Nat.zero_add]
    try simp only [Nat.reduceLT, Nat.reduceLeDiff, Nat.reduceEqDiff, true_and, and_true, and_self, Nat.zero_le, Nat.le_refl, true_or, or_true, Bool.false_eq_true, not_false_eq_true, Nat.reduceAdd, Nat.lt_add_one, Nat.zero_lt_one, nI_add, pk_mul, ixL, vpL, ne_eq, reduceIte, wI_sN, wL_sM, sN_same, sN_K, sN_2, sM_1, sM_same, sM_K, sM_s, uI_at, uN_at, enc_at, uI_enc, uI_uI, upM_s, upM_n, ix, vx, hp, rp, ip, f0, f1, f2, f3, f4, f5, f6, gd, es]
    exact ⟨rfl, Same.refl _ _⟩
theorem x_customerOf (hc : Ctx l G) (hS : ShP τ 0 a π) (hV : IV n a) (t : Int32) : Sat l G iX10_customerOf [moM, aI t] τ (RdC [NSE] NoN τ (sTel a (findO a t false) 2)) := by
  have h10 := hV.1.1
  refine Sat_of hc.1 hc.2 (by decide +kernel) (Nat.le_of_ble_eq_true rfl) (fun x hB hno => ?_)
  refine V_run hB (rt := some .int) (nL := 2) (mc := 1) rfl rfl rfl obX10_customerOf_0 ?_
  dsimp only [bX10_customerOf_0, ↓wpb, ↓wp1, ↓vI, ↓vL, ↓vD, ↓ldI, ↓ldL, ↓ldD, ↓ldR, ↓k1, ↓k2, ↓kI, ↓kL, ↓kD, ↓kII, ↓kLL, ↓kDD, ↓kR, ↓kIR, ↓kLR, ↓kIIR, ↓kLIR, ↓kDIR, ↓kRIR, ↓kNN, ↓kE, ↓br, ↓bn, ↓rtI, ↓gfv, ↓zchk, lput, ldel, lbad, alA, acat, isRf, dom, dS, dJ, isO, aTy, aLen, elAV, elR, Nat.reduceBEq, Nat.reduceAdd, Bool.or, Bool.and, Nat.add_zero, Nat.zero_add]
  try simp only [Nat.reduceLT, Nat.reduceLeDiff, Nat.reduceEqDiff, true_and, and_true, and_self, Nat.zero_le, Nat.le_refl, true_or, or_true, Bool.false_eq_true, not_false_eq_true, Nat.reduceAdd, Nat.lt_add_one, Nat.zero_lt_one, nI_add, pk_mul, ixL, vpL, ne_eq, reduceIte, wI_sN, wL_sM, sN_same, sN_K, sN_2, sM_1, sM_same, sM_K, sM_s, uI_at, uN_at, enc_at, uI_enc, uI_uI, upM_s, upM_n]
  refine V_req hB hno (c_requirePledge hc hS hV t) rfl (by decide +kernel) cvX10_147 (dom1 rfl) npX9_requirePledge ⟨by decide, by decide⟩ (Nat.le_of_ble_eq_true rfl) (by decide) ?_ ?_
  rotate_left
  · intro ho
    rw [ho]
    exact ⟨rfl, Same.refl _ _⟩
  intro i ho
  have hi := (findO_lt ho).1
  rw [ho] at hB
  show V x τ 1 8 _ [.inr (5, 0, π i)]
  have ix : (nI i).toNatClampNeg = i := ixL (by omega)
  have vx : vp_in (nI i) 10 = True := vpL (by omega) (by omega)
  obtain ⟨hp, rp⟩ := hS.2.2.2.1 i (by omega)
  have ip : (nI (π i)).toNatClampNeg = π i := ixL (by omega)
  obtain ⟨⟨f0, f1, f2, f3, f4, f5, f6⟩, fb⟩ := hS.2.2.2.2.2 i (by omega)
  refine V_run hB (rt := some .int) (nL := 2) (mc := 1) rfl rfl rfl obX10_customerOf_8 ?_
  dsimp only [bX10_customerOf_8, ↓wpb, ↓wp1, ↓vI, ↓vL, ↓vD, ↓ldI, ↓ldL, ↓ldD, ↓ldR, ↓k1, ↓k2, ↓kI, ↓kL, ↓kD, ↓kII, ↓kLL, ↓kDD, ↓kR, ↓kIR, ↓kLR, ↓kIIR, ↓kLIR, ↓kDIR, ↓kRIR, ↓kNN, ↓kE, ↓br, ↓bn, ↓rtI, ↓gfv, ↓zchk, lput, ldel, lbad, alA, acat, isRf, dom, dS, dJ, isO, aTy, aLen, elAV, elR, Nat.reduceBEq, Nat.reduceAdd, Bool.or, Bool.and, Nat.add_zero, Nat.zero_add]
  try simp only [Nat.reduceLT, Nat.reduceLeDiff, Nat.reduceEqDiff, true_and, and_true, and_self, Nat.zero_le, Nat.le_refl, true_or, or_true, Bool.false_eq_true, not_false_eq_true, Nat.reduceAdd, Nat.lt_add_one, Nat.zero_lt_one, nI_add, pk_mul, ixL, vpL, ne_eq, reduceIte, wI_sN, wL_sM, sN_same, sN_K, sN_2, sM_1, sM_same, sM_K, sM_s, uI_at, uN_at, enc_at, uI_enc, uI_uI, upM_s, upM_n, ix, vx, hp, rp, ip, f0, f1, f2, f3, f4, f5, f6]
  exact ⟨rfl, Same.refl _ _⟩
theorem x_dueDayOf (hc : Ctx l G) (hS : ShP τ 0 a π) (hV : IV n a) (t : Int32) : Sat l G iX10_dueDayOf [moM, aI t] τ (RdC [NSE] NoN τ (sTel a (findO a t false) 6)) := by
  have h10 := hV.1.1
  refine Sat_of hc.1 hc.2 (by decide +kernel) (Nat.le_of_ble_eq_true rfl) (fun x hB hno => ?_)
  refine V_run hB (rt := some .int) (nL := 2) (mc := 1) rfl rfl rfl obX10_dueDayOf_0 ?_
  dsimp only [bX10_dueDayOf_0, ↓wpb, ↓wp1, ↓vI, ↓vL, ↓vD, ↓ldI, ↓ldL, ↓ldD, ↓ldR, ↓k1, ↓k2, ↓kI, ↓kL, ↓kD, ↓kII, ↓kLL, ↓kDD, ↓kR, ↓kIR, ↓kLR, ↓kIIR, ↓kLIR, ↓kDIR, ↓kRIR, ↓kNN, ↓kE, ↓br, ↓bn, ↓rtI, ↓gfv, ↓zchk, lput, ldel, lbad, alA, acat, isRf, dom, dS, dJ, isO, aTy, aLen, elAV, elR, Nat.reduceBEq, Nat.reduceAdd, Bool.or, Bool.and, Nat.add_zero, Nat.zero_add]
  try simp only [Nat.reduceLT, Nat.reduceLeDiff, Nat.reduceEqDiff, true_and, and_true, and_self, Nat.zero_le, Nat.le_refl, true_or, or_true, Bool.false_eq_true, not_false_eq_true, Nat.reduceAdd, Nat.lt_add_one, Nat.zero_lt_one, nI_add, pk_mul, ixL, vpL, ne_eq, reduceIte, wI_sN, wL_sM, sN_same, sN_K, sN_2, sM_1, sM_same, sM_K, sM_s, uI_at, uN_at, enc_at, uI_enc, uI_uI, upM_s, upM_n]
  refine V_req hB hno (c_requirePledge hc hS hV t) rfl (by decide +kernel) cvX10_147 (dom1 rfl) npX9_requirePledge ⟨by decide, by decide⟩ (Nat.le_of_ble_eq_true rfl) (by decide) ?_ ?_
  rotate_left
  · intro ho
    rw [ho]
    exact ⟨rfl, Same.refl _ _⟩
  intro i ho
  have hi := (findO_lt ho).1
  rw [ho] at hB
  show V x τ 1 8 _ [.inr (5, 0, π i)]
  have ix : (nI i).toNatClampNeg = i := ixL (by omega)
  have vx : vp_in (nI i) 10 = True := vpL (by omega) (by omega)
  obtain ⟨hp, rp⟩ := hS.2.2.2.1 i (by omega)
  have ip : (nI (π i)).toNatClampNeg = π i := ixL (by omega)
  obtain ⟨⟨f0, f1, f2, f3, f4, f5, f6⟩, fb⟩ := hS.2.2.2.2.2 i (by omega)
  refine V_run hB (rt := some .int) (nL := 2) (mc := 1) rfl rfl rfl obX10_dueDayOf_8 ?_
  dsimp only [bX10_dueDayOf_8, ↓wpb, ↓wp1, ↓vI, ↓vL, ↓vD, ↓ldI, ↓ldL, ↓ldD, ↓ldR, ↓k1, ↓k2, ↓kI, ↓kL, ↓kD, ↓kII, ↓kLL, ↓kDD, ↓kR, ↓kIR, ↓kLR, ↓kIIR, ↓kLIR, ↓kDIR, ↓kRIR, ↓kNN, ↓kE, ↓br, ↓bn, ↓rtI, ↓gfv, ↓zchk, lput, ldel, lbad, alA, acat, isRf, dom, dS, dJ, isO, aTy, aLen, elAV, elR, Nat.reduceBEq, Nat.reduceAdd, Bool.or, Bool.and, Nat.add_zero, Nat.zero_add]
  try simp only [Nat.reduceLT, Nat.reduceLeDiff, Nat.reduceEqDiff, true_and, and_true, and_self, Nat.zero_le, Nat.le_refl, true_or, or_true, Bool.false_eq_true, not_false_eq_true, Nat.reduceAdd, Nat.lt_add_one, Nat.zero_lt_one, nI_add, pk_mul, ixL, vpL, ne_eq, reduceIte, wI_sN, wL_sM, sN_same, sN_K, sN_2, sM_1, sM_same, sM_K, sM_s, uI_at, uN_at, enc_at, uI_enc, uI_uI, upM_s, upM_n, ix, vx, hp, rp, ip, f0, f1, f2, f3, f4, f5, f6]
  exact ⟨rfl, Same.refl _ _⟩
theorem x_minutesOf (hc : Ctx l G) (hS : ShP τ 0 a π) (hV : IV n a) (t : Int32) : Sat l G iX10_minutesOf [moM, aI t] τ (RdC [NSE] NoN τ (sTel a (find a t) 3)) := by
  have h10 := hV.1.1
  refine Sat_of hc.1 hc.2 (by decide +kernel) (Nat.le_of_ble_eq_true rfl) (fun x hB hno => ?_)
  refine V_run hB (rt := some .int) (nL := 2) (mc := 1) rfl rfl rfl obX10_minutesOf_0 ?_
  dsimp only [bX10_minutesOf_0, ↓wpb, ↓wp1, ↓vI, ↓vL, ↓vD, ↓ldI, ↓ldL, ↓ldD, ↓ldR, ↓k1, ↓k2, ↓kI, ↓kL, ↓kD, ↓kII, ↓kLL, ↓kDD, ↓kR, ↓kIR, ↓kLR, ↓kIIR, ↓kLIR, ↓kDIR, ↓kRIR, ↓kNN, ↓kE, ↓br, ↓bn, ↓rtI, ↓gfv, ↓zchk, lput, ldel, lbad, alA, acat, isRf, dom, dS, dJ, isO, aTy, aLen, elAV, elR, Nat.reduceBEq, Nat.reduceAdd, Bool.or, Bool.and, Nat.add_zero, Nat.zero_add]
  try simp only [Nat.reduceLT, Nat.reduceLeDiff, Nat.reduceEqDiff, true_and, and_true, and_self, Nat.zero_le, Nat.le_refl, true_or, or_true, Bool.false_eq_true, not_false_eq_true, Nat.reduceAdd, Nat.lt_add_one, Nat.zero_lt_one, nI_add, pk_mul, ixL, vpL, ne_eq, reduceIte, wI_sN, wL_sM, sN_same, sN_K, sN_2, sM_1, sM_same, sM_K, sM_s, uI_at, uN_at, enc_at, uI_enc, uI_uI, upM_s, upM_n]
  refine V_req hB hno (c_requireItem hc hS h10 t) rfl (by decide +kernel) cvX10_154 (dom1 rfl) npX9_requireItem ⟨by decide, by decide⟩ (Nat.le_of_ble_eq_true rfl) (by decide) ?_ ?_
  rotate_left
  · intro ho
    rw [ho]
    exact ⟨rfl, Same.refl _ _⟩
  intro i ho
  have hi := find_lt ho
  rw [ho] at hB
  show V x τ 1 8 _ [.inr (5, 0, π i)]
  have ix : (nI i).toNatClampNeg = i := ixL (by omega)
  have vx : vp_in (nI i) 10 = True := vpL (by omega) (by omega)
  obtain ⟨hp, rp⟩ := hS.2.2.2.1 i (by omega)
  have ip : (nI (π i)).toNatClampNeg = π i := ixL (by omega)
  obtain ⟨⟨f0, f1, f2, f3, f4, f5, f6⟩, fb⟩ := hS.2.2.2.2.2 i (by omega)
  refine V_run hB (rt := some .int) (nL := 2) (mc := 1) rfl rfl rfl obX10_minutesOf_8 ?_
  dsimp only [bX10_minutesOf_8, ↓wpb, ↓wp1, ↓vI, ↓vL, ↓vD, ↓ldI, ↓ldL, ↓ldD, ↓ldR, ↓k1, ↓k2, ↓kI, ↓kL, ↓kD, ↓kII, ↓kLL, ↓kDD, ↓kR, ↓kIR, ↓kLR, ↓kIIR, ↓kLIR, ↓kDIR, ↓kRIR, ↓kNN, ↓kE, ↓br, ↓bn, ↓rtI, ↓gfv, ↓zchk, lput, ldel, lbad, alA, acat, isRf, dom, dS, dJ, isO, aTy, aLen, elAV, elR, Nat.reduceBEq, Nat.reduceAdd, Bool.or, Bool.and, Nat.add_zero, Nat.zero_add]
  try simp only [Nat.reduceLT, Nat.reduceLeDiff, Nat.reduceEqDiff, true_and, and_true, and_self, Nat.zero_le, Nat.le_refl, true_or, or_true, Bool.false_eq_true, not_false_eq_true, Nat.reduceAdd, Nat.lt_add_one, Nat.zero_lt_one, nI_add, pk_mul, ixL, vpL, ne_eq, reduceIte, wI_sN, wL_sM, sN_same, sN_K, sN_2, sM_1, sM_same, sM_K, sM_s, uI_at, uN_at, enc_at, uI_enc, uI_uI, upM_s, upM_n, ix, vx, hp, rp, ip, f0, f1, f2, f3, f4, f5, f6]
  exact ⟨rfl, Same.refl _ _⟩
theorem x_loanOf (hc : Ctx l G) (hS : ShP τ 0 a π) (hV : IV n a) (t : Int32) : Sat l G iX10_loanOf [moM, aI t] τ (RdC [NSE] NoN τ (sTel a (find a t) 4)) := by
  have h10 := hV.1.1
  refine Sat_of hc.1 hc.2 (by decide +kernel) (Nat.le_of_ble_eq_true rfl) (fun x hB hno => ?_)
  refine V_run hB (rt := some .int) (nL := 2) (mc := 1) rfl rfl rfl obX10_loanOf_0 ?_
  dsimp only [bX10_loanOf_0, ↓wpb, ↓wp1, ↓vI, ↓vL, ↓vD, ↓ldI, ↓ldL, ↓ldD, ↓ldR, ↓k1, ↓k2, ↓kI, ↓kL, ↓kD, ↓kII, ↓kLL, ↓kDD, ↓kR, ↓kIR, ↓kLR, ↓kIIR, ↓kLIR, ↓kDIR, ↓kRIR, ↓kNN, ↓kE, ↓br, ↓bn, ↓rtI, ↓gfv, ↓zchk, lput, ldel, lbad, alA, acat, isRf, dom, dS, dJ, isO, aTy, aLen, elAV, elR, Nat.reduceBEq, Nat.reduceAdd, Bool.or, Bool.and, Nat.add_zero, Nat.zero_add]
  try simp only [Nat.reduceLT, Nat.reduceLeDiff, Nat.reduceEqDiff, true_and, and_true, and_self, Nat.zero_le, Nat.le_refl, true_or, or_true, Bool.false_eq_true, not_false_eq_true, Nat.reduceAdd, Nat.lt_add_one, Nat.zero_lt_one, nI_add, pk_mul, ixL, vpL, ne_eq, reduceIte, wI_sN, wL_sM, sN_same, sN_K, sN_2, sM_1, sM_same, sM_K, sM_s, uI_at, uN_at, enc_at, uI_enc, uI_uI, upM_s, upM_n]
  refine V_req hB hno (c_requireItem hc hS h10 t) rfl (by decide +kernel) cvX10_154 (dom1 rfl) npX9_requireItem ⟨by decide, by decide⟩ (Nat.le_of_ble_eq_true rfl) (by decide) ?_ ?_
  rotate_left
  · intro ho
    rw [ho]
    exact ⟨rfl, Same.refl _ _⟩
  intro i ho
  have hi := find_lt ho
  rw [ho] at hB
  show V x τ 1 8 _ [.inr (5, 0, π i)]
  have ix : (nI i).toNatClampNeg = i := ixL (by omega)
  have vx : vp_in (nI i) 10 = True := vpL (by omega) (by omega)
  obtain ⟨hp, rp⟩ := hS.2.2.2.1 i (by omega)
  have ip : (nI (π i)).toNatClampNeg = π i := ixL (by omega)
  obtain ⟨⟨f0, f1, f2, f3, f4, f5, f6⟩, fb⟩ := hS.2.2.2.2.2 i (by omega)
  refine V_run hB (rt := some .int) (nL := 2) (mc := 1) rfl rfl rfl obX10_loanOf_8 ?_
  dsimp only [bX10_loanOf_8, ↓wpb, ↓wp1, ↓vI, ↓vL, ↓vD, ↓ldI, ↓ldL, ↓ldD, ↓ldR, ↓k1, ↓k2, ↓kI, ↓kL, ↓kD, ↓kII, ↓kLL, ↓kDD, ↓kR, ↓kIR, ↓kLR, ↓kIIR, ↓kLIR, ↓kDIR, ↓kRIR, ↓kNN, ↓kE, ↓br, ↓bn, ↓rtI, ↓gfv, ↓zchk, lput, ldel, lbad, alA, acat, isRf, dom, dS, dJ, isO, aTy, aLen, elAV, elR, Nat.reduceBEq, Nat.reduceAdd, Bool.or, Bool.and, Nat.add_zero, Nat.zero_add]
  try simp only [Nat.reduceLT, Nat.reduceLeDiff, Nat.reduceEqDiff, true_and, and_true, and_self, Nat.zero_le, Nat.le_refl, true_or, or_true, Bool.false_eq_true, not_false_eq_true, Nat.reduceAdd, Nat.lt_add_one, Nat.zero_lt_one, nI_add, pk_mul, ixL, vpL, ne_eq, reduceIte, wI_sN, wL_sM, sN_same, sN_K, sN_2, sM_1, sM_same, sM_K, sM_s, uI_at, uN_at, enc_at, uI_enc, uI_uI, upM_s, upM_n, ix, vx, hp, rp, ip, f0, f1, f2, f3, f4, f5, f6]
  exact ⟨rfl, Same.refl _ _⟩
theorem x_interestOf (hc : Ctx l G) (hS : ShP τ 0 a π) (hV : IV n a) (hn : n ≤ 1000) (t : Int32) : Sat l G iX10_interestOf [moM, aI t] τ (RdC [NSE] NoN τ (sInt a (findO a t false))) := by
  refine Sat_of hc.1 hc.2 (by decide +kernel) (Nat.le_of_ble_eq_true rfl) (fun x hB hno => ?_)
  refine V_run hB (rt := some .int) (nL := 2) (mc := 1) rfl rfl rfl obX10_interestOf_0 ?_
  dsimp only [bX10_interestOf_0, ↓wpb, ↓wp1, ↓vI, ↓vL, ↓vD, ↓ldI, ↓ldL, ↓ldD, ↓ldR, ↓k1, ↓k2, ↓kI, ↓kL, ↓kD, ↓kII, ↓kLL, ↓kDD, ↓kR, ↓kIR, ↓kLR, ↓kIIR, ↓kLIR, ↓kDIR, ↓kRIR, ↓kNN, ↓kE, ↓br, ↓bn, ↓rtI, ↓gfv, ↓zchk, lput, ldel, lbad, alA, acat, isRf, dom, dS, dJ, isO, aTy, aLen, elAV, elR, Nat.reduceBEq, Nat.reduceAdd, Bool.or, Bool.and, Nat.add_zero, Nat.zero_add]
  try simp only [Nat.reduceLT, Nat.reduceLeDiff, Nat.reduceEqDiff, true_and, and_true, and_self, Nat.zero_le, Nat.le_refl, true_or, or_true, Bool.false_eq_true, not_false_eq_true, Nat.reduceAdd, Nat.lt_add_one, Nat.zero_lt_one, nI_add, pk_mul, ixL, vpL, ne_eq, reduceIte, wI_sN, wL_sM, sN_same, sN_K, sN_2, sM_1, sM_same, sM_K, sM_s, uI_at, uN_at, enc_at, uI_enc, uI_uI, upM_s, upM_n]
  refine V_req hB hno (c_requirePledge hc hS hV t) rfl (by decide +kernel) cvX10_147 (dom1 rfl) npX9_requirePledge ⟨by decide, by decide⟩ (Nat.le_of_ble_eq_true rfl) (by decide) ?_ ?_
  rotate_left
  · intro ho
    rw [ho]
    exact ⟨rfl, Same.refl _ _⟩
  intro i ho
  obtain ⟨hi, hl⟩ := findO_lt ho
  rw [ho] at hB
  show V x τ 1 12 _ [.inr (5, 0, π i), shM]
  refine V_run hB (rt := some .int) (nL := 2) (mc := 1) rfl rfl rfl obX10_interestOf_12 ?_
  dsimp only [bX10_interestOf_12, ↓wpb, ↓wp1, ↓vI, ↓vL, ↓vD, ↓ldI, ↓ldL, ↓ldD, ↓ldR, ↓k1, ↓k2, ↓kI, ↓kL, ↓kD, ↓kII, ↓kLL, ↓kDD, ↓kR, ↓kIR, ↓kLR, ↓kIIR, ↓kLIR, ↓kDIR, ↓kRIR, ↓kNN, ↓kE, ↓br, ↓bn, ↓rtI, ↓gfv, ↓zchk, lput, ldel, lbad, alA, acat, isRf, dom, dS, dJ, isO, aTy, aLen, elAV, elR, Nat.reduceBEq, Nat.reduceAdd, Bool.or, Bool.and, Nat.add_zero, Nat.zero_add]
  try simp only [Nat.reduceLT, Nat.reduceLeDiff, Nat.reduceEqDiff, true_and, and_true, and_self, Nat.zero_le, Nat.le_refl, true_or, or_true, Bool.false_eq_true, not_false_eq_true, Nat.reduceAdd, Nat.lt_add_one, Nat.zero_lt_one, nI_add, pk_mul, ixL, vpL, ne_eq, reduceIte, wI_sN, wL_sM, sN_same, sN_K, sN_2, sM_1, sM_same, sM_K, sM_s, uI_at, uN_at, enc_at, uI_enc, uI_uI, upM_s, upM_n]
  refine V_cV hB hno (c_interest hc hS hV hn hi (Nat.zero_le 90) (hV.okD hi hl (Nat.zero_le 90))) rfl (by decide +kernel) cvX10_174 (dom1 rfl) npX9_interestByDays ⟨by decide, by decide⟩ (Nat.le_of_ble_eq_true rfl) (n' := 1) (by decide) rfl ?_
  refine V_run hB (rt := some .int) (nL := 2) (mc := 1) rfl rfl rfl obX10_interestOf_16 ?_
  dsimp only [bX10_interestOf_16, ↓wpb, ↓wp1, ↓vI, ↓vL, ↓vD, ↓ldI, ↓ldL, ↓ldD, ↓ldR, ↓k1, ↓k2, ↓kI, ↓kL, ↓kD, ↓kII, ↓kLL, ↓kDD, ↓kR, ↓kIR, ↓kLR, ↓kIIR, ↓kLIR, ↓kDIR, ↓kRIR, ↓kNN, ↓kE, ↓br, ↓bn, ↓rtI, ↓gfv, ↓zchk, lput, ldel, lbad, alA, acat, isRf, dom, dS, dJ, isO, aTy, aLen, elAV, elR, Nat.reduceBEq, Nat.reduceAdd, Bool.or, Bool.and, Nat.add_zero, Nat.zero_add]
  try simp only [Nat.reduceLT, Nat.reduceLeDiff, Nat.reduceEqDiff, true_and, and_true, and_self, Nat.zero_le, Nat.le_refl, true_or, or_true, Bool.false_eq_true, not_false_eq_true, Nat.reduceAdd, Nat.lt_add_one, Nat.zero_lt_one, nI_add, pk_mul, ixL, vpL, ne_eq, reduceIte, wI_sN, wL_sM, sN_same, sN_K, sN_2, sM_1, sM_same, sM_K, sM_s, uI_at, uN_at, enc_at, uI_enc, uI_uI, upM_s, upM_n]
  exact ⟨rfl, Same.refl _ _⟩
theorem x_interestW (hc : Ctx l G) (hS : ShP τ 0 a π) (hV : IV n a) (hn : n ≤ 1000) (t : Int32) : Sat l G iX10_interestByWeeks [moM, aI t] τ (RdC [NSE] NoN τ (sInt a (findO a t false))) := by
  refine Sat_of hc.1 hc.2 (by decide +kernel) (Nat.le_of_ble_eq_true rfl) (fun x hB hno => ?_)
  refine V_run hB (rt := some .int) (nL := 2) (mc := 1) rfl rfl rfl obX10_interestByWeeks_0 ?_
  dsimp only [bX10_interestByWeeks_0, ↓wpb, ↓wp1, ↓vI, ↓vL, ↓vD, ↓ldI, ↓ldL, ↓ldD, ↓ldR, ↓k1, ↓k2, ↓kI, ↓kL, ↓kD, ↓kII, ↓kLL, ↓kDD, ↓kR, ↓kIR, ↓kLR, ↓kIIR, ↓kLIR, ↓kDIR, ↓kRIR, ↓kNN, ↓kE, ↓br, ↓bn, ↓rtI, ↓gfv, ↓zchk, lput, ldel, lbad, alA, acat, isRf, dom, dS, dJ, isO, aTy, aLen, elAV, elR, Nat.reduceBEq, Nat.reduceAdd, Bool.or, Bool.and, Nat.add_zero, Nat.zero_add]
  try simp only [Nat.reduceLT, Nat.reduceLeDiff, Nat.reduceEqDiff, true_and, and_true, and_self, Nat.zero_le, Nat.le_refl, true_or, or_true, Bool.false_eq_true, not_false_eq_true, Nat.reduceAdd, Nat.lt_add_one, Nat.zero_lt_one, nI_add, pk_mul, ixL, vpL, ne_eq, reduceIte, wI_sN, wL_sM, sN_same, sN_K, sN_2, sM_1, sM_same, sM_K, sM_s, uI_at, uN_at, enc_at, uI_enc, uI_uI, upM_s, upM_n]
  refine V_req hB hno (c_requirePledge hc hS hV t) rfl (by decide +kernel) cvX10_147 (dom1 rfl) npX9_requirePledge ⟨by decide, by decide⟩ (Nat.le_of_ble_eq_true rfl) (by decide) ?_ ?_
  rotate_left
  · intro ho
    rw [ho]
    exact ⟨rfl, Same.refl _ _⟩
  intro i ho
  obtain ⟨hi, hl⟩ := findO_lt ho
  rw [ho] at hB
  show V x τ 1 12 _ [.inr (5, 0, π i), shM]
  refine V_cV hB hno (c_interestW hc hS hV hn hi (hV.okD (e := 0) hi hl (Nat.zero_le 90))) rfl (by decide +kernel) cvX10_178 (dom1 rfl) npX9_interestFromWeeks ⟨by decide, by decide⟩ (Nat.le_of_ble_eq_true rfl) (n' := 1) (by decide) rfl ?_
  refine V_run hB (rt := some .int) (nL := 2) (mc := 1) rfl rfl rfl obX10_interestByWeeks_15 ?_
  dsimp only [bX10_interestByWeeks_15, ↓wpb, ↓wp1, ↓vI, ↓vL, ↓vD, ↓ldI, ↓ldL, ↓ldD, ↓ldR, ↓k1, ↓k2, ↓kI, ↓kL, ↓kD, ↓kII, ↓kLL, ↓kDD, ↓kR, ↓kIR, ↓kLR, ↓kIIR, ↓kLIR, ↓kDIR, ↓kRIR, ↓kNN, ↓kE, ↓br, ↓bn, ↓rtI, ↓gfv, ↓zchk, lput, ldel, lbad, alA, acat, isRf, dom, dS, dJ, isO, aTy, aLen, elAV, elR, Nat.reduceBEq, Nat.reduceAdd, Bool.or, Bool.and, Nat.add_zero, Nat.zero_add]
  try simp only [Nat.reduceLT, Nat.reduceLeDiff, Nat.reduceEqDiff, true_and, and_true, and_self, Nat.zero_le, Nat.le_refl, true_or, or_true, Bool.false_eq_true, not_false_eq_true, Nat.reduceAdd, Nat.lt_add_one, Nat.zero_lt_one, nI_add, pk_mul, ixL, vpL, ne_eq, reduceIte, wI_sN, wL_sM, sN_same, sN_K, sN_2, sM_1, sM_same, sM_K, sM_s, uI_at, uN_at, enc_at, uI_enc, uI_uI, upM_s, upM_n]
  exact ⟨rfl, Same.refl _ _⟩
theorem x_debtAfter (hc : Ctx l G) (hS : ShP τ 0 a π) (hV : IV n a) (hn : n ≤ 1000) (t d : Int32) : Sat l G iX10_debtAfter [moM, aI t, aI d] τ (RdC [NSE, IAE] NoN τ (sDbA a (findO a t false) d)) := by
  have h10 := hV.1.1
  have hz := inR_1 (p := d) (lo := 0) (h := 90)
  refine Sat_of hc.1 hc.2 (by decide +kernel) (Nat.le_of_ble_eq_true rfl) (fun x hB hno => ?_)
  refine V_run hB (rt := some .int) (nL := 4) (mc := 2) rfl rfl rfl obX10_debtAfter_0 ?_
  dsimp only [bX10_debtAfter_0, ↓wpb, ↓wp1, ↓vI, ↓vL, ↓vD, ↓ldI, ↓ldL, ↓ldD, ↓ldR, ↓k1, ↓k2, ↓kI, ↓kL, ↓kD, ↓kII, ↓kLL, ↓kDD, ↓kR, ↓kIR, ↓kLR, ↓kIIR, ↓kLIR, ↓kDIR, ↓kRIR, ↓kNN, ↓kE, ↓br, ↓bn, ↓rtI, ↓gfv, ↓zchk, lput, ldel, lbad, alA, acat, isRf, dom, dS, dJ, isO, aTy, aLen, elAV, elR, Nat.reduceBEq, Nat.reduceAdd, Bool.or, Bool.and, Nat.add_zero, Nat.zero_add]
  try simp only [Nat.reduceLT, Nat.reduceLeDiff, Nat.reduceEqDiff, true_and, and_true, and_self, Nat.zero_le, Nat.le_refl, true_or, or_true, Bool.false_eq_true, not_false_eq_true, Nat.reduceAdd, Nat.lt_add_one, Nat.zero_lt_one, nI_add, pk_mul, ixL, vpL, ne_eq, reduceIte, wI_sN, wL_sM, sN_same, sN_K, sN_2, sM_1, sM_same, sM_K, sM_s, uI_at, uN_at, enc_at, uI_enc, uI_uI, upM_s, upM_n]
  refine V_req hB hno (c_requirePledge hc hS hV t) rfl (by decide +kernel) cvX10_147 (dom1 rfl) npX9_requirePledge ⟨by decide, by decide⟩ (Nat.le_of_ble_eq_true rfl) (by decide) ?_ ?_
  rotate_left
  · intro ho
    rw [ho]
    exact ⟨rfl, Same.refl _ _⟩
  intro i ho
  obtain ⟨hi, hl⟩ := findO_lt ho
  rw [ho] at hB
  have e19 : ¬ inR d 0 90 = true → V x τ 1 19 [(0, moM), (1, aI t), (2, aI d), (3, .inr (5, 0, π i))] [] := by
    intro hq
    have e : sDbA a (some i) d = (2, 0) := if_neg hq
    rw [e] at hB
    refine V_throw hB hno thX10_182_109 ⟨by decide +kernel, by decide +kernel, by decide +kernel, by decide +kernel, by decide +kernel⟩ (by decide) (Nat.le_of_ble_eq_true rfl) ?_
    exact ⟨rfl, Same.refl _ _⟩
  show V x τ 1 8 _ [.inr (5, 0, π i)]
  refine V_run hB (rt := some .int) (nL := 4) (mc := 2) rfl rfl rfl (ops := [(8, .astore_n 3, 1, (3, 0, 0, 0, 0, 0), 0), (9, .iload_n 2, 1, (2, 0, 0, 0, 0, 0), 0), (10, .ifCond .lt 9, 3, (19, 0, 0, 0, 0, 0), 0), (13, .iload_n 2, 1, (2, 0, 0, 0, 0, 0), 0), (14, .bipush 90, 2, (0, 0, 0, 0, 0, 0), nI 90), (16, .if_icmp .le 13, 3, (29, 0, 0, 0, 0, 0), 0)]) (by decide +kernel) ?_
  dsimp only [↓wpb, ↓wp1, ↓vI, ↓vL, ↓vD, ↓ldI, ↓ldL, ↓ldD, ↓ldR, ↓k1, ↓k2, ↓kI, ↓kL, ↓kD, ↓kII, ↓kLL, ↓kDD, ↓kR, ↓kIR, ↓kLR, ↓kIIR, ↓kLIR, ↓kDIR, ↓kRIR, ↓kNN, ↓kE, ↓br, ↓bn, ↓rtI, ↓gfv, ↓zchk, lput, ldel, lbad, alA, acat, isRf, dom, dS, dJ, isO, aTy, aLen, elAV, elR, Nat.reduceBEq, Nat.reduceAdd, Bool.or, Bool.and, Nat.add_zero, Nat.zero_add]
  try simp only [Nat.reduceLT, Nat.reduceLeDiff, Nat.reduceEqDiff, true_and, and_true, and_self, Nat.zero_le, Nat.le_refl, true_or, or_true, Bool.false_eq_true, not_false_eq_true, Nat.reduceAdd, Nat.lt_add_one, Nat.zero_lt_one, nI_add, pk_mul, ixL, vpL, ne_eq, reduceIte, wI_sN, wL_sM, sN_same, sN_K, sN_2, sM_1, sM_same, sM_K, sM_s, uI_at, uN_at, enc_at, uI_enc, uI_uI, upM_s, upM_n]
  refine ⟨fun q => e19 (fun z => (hz.mp z).1 q), fun q1 => ⟨fun q2 => ?_, fun q2 => e19 (fun z => q2 (hz.mp z).2)⟩⟩
  have hr := hz.mpr ⟨q1, q2⟩
  obtain ⟨D, rfl, -, D2⟩ := inR_N hr (by omega) (by omega)
  have e : sDbA a (some i) (nI D) = (0, it a i 4 + intr a i (a 0 + D)) := by
    show (if inR (nI D) 0 90 = true then _ else _) = _
    rw [if_pos hr, ixL (by omega)]
  rw [e] at hB
  have ix : (nI i).toNatClampNeg = i := ixL (by omega)
  have vx : vp_in (nI i) 10 = True := vpL (by omega) (by omega)
  obtain ⟨hp, rp⟩ := hS.2.2.2.1 i (by omega)
  have ip : (nI (π i)).toNatClampNeg = π i := ixL (by omega)
  obtain ⟨⟨f0, f1, f2, f3, f4, f5, f6⟩, fb⟩ := hS.2.2.2.2.2 i (by omega)
  refine V_run hB (rt := some .int) (nL := 4) (mc := 2) rfl rfl rfl obX10_debtAfter_29 ?_
  dsimp only [bX10_debtAfter_29, ↓wpb, ↓wp1, ↓vI, ↓vL, ↓vD, ↓ldI, ↓ldL, ↓ldD, ↓ldR, ↓k1, ↓k2, ↓kI, ↓kL, ↓kD, ↓kII, ↓kLL, ↓kDD, ↓kR, ↓kIR, ↓kLR, ↓kIIR, ↓kLIR, ↓kDIR, ↓kRIR, ↓kNN, ↓kE, ↓br, ↓bn, ↓rtI, ↓gfv, ↓zchk, lput, ldel, lbad, alA, acat, isRf, dom, dS, dJ, isO, aTy, aLen, elAV, elR, Nat.reduceBEq, Nat.reduceAdd, Bool.or, Bool.and, Nat.add_zero, Nat.zero_add]
  try simp only [Nat.reduceLT, Nat.reduceLeDiff, Nat.reduceEqDiff, true_and, and_true, and_self, Nat.zero_le, Nat.le_refl, true_or, or_true, Bool.false_eq_true, not_false_eq_true, Nat.reduceAdd, Nat.lt_add_one, Nat.zero_lt_one, nI_add, pk_mul, ixL, vpL, ne_eq, reduceIte, wI_sN, wL_sM, sN_same, sN_K, sN_2, sM_1, sM_same, sM_K, sM_s, uI_at, uN_at, enc_at, uI_enc, uI_uI, upM_s, upM_n, ix, vx, hp, rp, ip, f0, f1, f2, f3, f4, f5, f6]
  refine V_cV hB hno (c_interest hc hS hV hn hi D2 (hV.okD hi hl D2)) rfl (by decide +kernel) cvX10_174 (dom1 rfl) npX9_interestByDays ⟨by decide, by decide⟩ (Nat.le_of_ble_eq_true rfl) (n' := 1) (by decide) rfl ?_
  refine V_run hB (rt := some .int) (nL := 4) (mc := 2) rfl rfl rfl obX10_debtAfter_42 ?_
  dsimp only [bX10_debtAfter_42, ↓wpb, ↓wp1, ↓vI, ↓vL, ↓vD, ↓ldI, ↓ldL, ↓ldD, ↓ldR, ↓k1, ↓k2, ↓kI, ↓kL, ↓kD, ↓kII, ↓kLL, ↓kDD, ↓kR, ↓kIR, ↓kLR, ↓kIIR, ↓kLIR, ↓kDIR, ↓kRIR, ↓kNN, ↓kE, ↓br, ↓bn, ↓rtI, ↓gfv, ↓zchk, lput, ldel, lbad, alA, acat, isRf, dom, dS, dJ, isO, aTy, aLen, elAV, elR, Nat.reduceBEq, Nat.reduceAdd, Bool.or, Bool.and, Nat.add_zero, Nat.zero_add]
  try simp only [Nat.reduceLT, Nat.reduceLeDiff, Nat.reduceEqDiff, true_and, and_true, and_self, Nat.zero_le, Nat.le_refl, true_or, or_true, Bool.false_eq_true, not_false_eq_true, Nat.reduceAdd, Nat.lt_add_one, Nat.zero_lt_one, nI_add, pk_mul, ixL, vpL, ne_eq, reduceIte, wI_sN, wL_sM, sN_same, sN_K, sN_2, sM_1, sM_same, sM_K, sM_s, uI_at, uN_at, enc_at, uI_enc, uI_uI, upM_s, upM_n]
  exact ⟨rfl, Same.refl _ _⟩
theorem x_cheapest (hc : Ctx l G) (hS : ShP τ 0 a π) (hV : IV n a) (hn : n ≤ 1000) : Sat l G iX10_cheapestWeekday [moM] τ (RdC [] NoN τ (0, chU a 6)) := by
  have hb := hV.bd hn 0
  have hd : a 0 ≤ 90 * n := hV.2.2.2.2.1
  refine Sat_of hc.1 hc.2 (by decide +kernel) (Nat.le_of_ble_eq_true rfl) (fun x hB hno => ?_)
  refine V_run hB (rt := some .int) (nL := 1) (mc := 0) rfl rfl rfl obX10_cheapestWeekday_0 ?_
  dsimp only [bX10_cheapestWeekday_0, ↓wpb, ↓wp1, ↓vI, ↓vL, ↓vD, ↓ldI, ↓ldL, ↓ldD, ↓ldR, ↓k1, ↓k2, ↓kI, ↓kL, ↓kD, ↓kII, ↓kLL, ↓kDD, ↓kR, ↓kIR, ↓kLR, ↓kIIR, ↓kLIR, ↓kDIR, ↓kRIR, ↓kNN, ↓kE, ↓br, ↓bn, ↓rtI, ↓gfv, ↓zchk, lput, ldel, lbad, alA, acat, isRf, dom, dS, dJ, isO, aTy, aLen, elAV, elR, Nat.reduceBEq, Nat.reduceAdd, Bool.or, Bool.and, Nat.add_zero, Nat.zero_add]
  try simp only [Nat.reduceLT, Nat.reduceLeDiff, Nat.reduceEqDiff, true_and, and_true, and_self, Nat.zero_le, Nat.le_refl, true_or, or_true, Bool.false_eq_true, not_false_eq_true, Nat.reduceAdd, Nat.lt_add_one, Nat.zero_lt_one, nI_add, pk_mul, ixL, vpL, ne_eq, reduceIte, wI_sN, wL_sM, sN_same, sN_K, sN_2, sM_1, sM_same, sM_K, sM_s, uI_at, uN_at, enc_at, uI_enc, uI_uI, upM_s, upM_n]
  refine V_cV hB hno (c_least hc hS.2.1 (by omega) hV.2.2.2.1) rfl (by decide +kernel) cvX10_184 (dom1 rfl) npX2_weekdayOfLeastRate ⟨by decide, by decide⟩ (Nat.le_of_ble_eq_true rfl) (n' := 0) (by decide) rfl ?_
  refine V_run hB (rt := some .int) (nL := 1) (mc := 0) rfl rfl rfl obX10_cheapestWeekday_10 ?_
  dsimp only [bX10_cheapestWeekday_10, ↓wpb, ↓wp1, ↓vI, ↓vL, ↓vD, ↓ldI, ↓ldL, ↓ldD, ↓ldR, ↓k1, ↓k2, ↓kI, ↓kL, ↓kD, ↓kII, ↓kLL, ↓kDD, ↓kR, ↓kIR, ↓kLR, ↓kIIR, ↓kLIR, ↓kDIR, ↓kRIR, ↓kNN, ↓kE, ↓br, ↓bn, ↓rtI, ↓gfv, ↓zchk, lput, ldel, lbad, alA, acat, isRf, dom, dS, dJ, isO, aTy, aLen, elAV, elR, Nat.reduceBEq, Nat.reduceAdd, Bool.or, Bool.and, Nat.add_zero, Nat.zero_add]
  try simp only [Nat.reduceLT, Nat.reduceLeDiff, Nat.reduceEqDiff, true_and, and_true, and_self, Nat.zero_le, Nat.le_refl, true_or, or_true, Bool.false_eq_true, not_false_eq_true, Nat.reduceAdd, Nat.lt_add_one, Nat.zero_lt_one, nI_add, pk_mul, ixL, vpL, ne_eq, reduceIte, wI_sN, wL_sM, sN_same, sN_K, sN_2, sM_1, sM_same, sM_K, sM_s, uI_at, uN_at, enc_at, uI_enc, uI_uI, upM_s, upM_n]
  exact ⟨rfl, Same.refl _ _⟩
theorem x_bidOf (hc : Ctx l G) (hS : ShP τ 0 a π) (hV : IV n a) (t y : Int32) : Sat l G iX10_bidOf [moM, aI t, aI y] τ (RdC [NSE, IAE] NoN τ (sBof a (findO a t true) y)) := by
  have h10 := hV.1.1
  have hz := inR_0 (p := y) (h := 4) (by omega)
  refine Sat_of hc.1 hc.2 (by decide +kernel) (Nat.le_of_ble_eq_true rfl) (fun x hB hno => ?_)
  refine V_run hB (rt := some .int) (nL := 4) (mc := 2) rfl rfl rfl obX10_bidOf_0 ?_
  dsimp only [bX10_bidOf_0, ↓wpb, ↓wp1, ↓vI, ↓vL, ↓vD, ↓ldI, ↓ldL, ↓ldD, ↓ldR, ↓k1, ↓k2, ↓kI, ↓kL, ↓kD, ↓kII, ↓kLL, ↓kDD, ↓kR, ↓kIR, ↓kLR, ↓kIIR, ↓kLIR, ↓kDIR, ↓kRIR, ↓kNN, ↓kE, ↓br, ↓bn, ↓rtI, ↓gfv, ↓zchk, lput, ldel, lbad, alA, acat, isRf, dom, dS, dJ, isO, aTy, aLen, elAV, elR, Nat.reduceBEq, Nat.reduceAdd, Bool.or, Bool.and, Nat.add_zero, Nat.zero_add]
  try simp only [Nat.reduceLT, Nat.reduceLeDiff, Nat.reduceEqDiff, true_and, and_true, and_self, Nat.zero_le, Nat.le_refl, true_or, or_true, Bool.false_eq_true, not_false_eq_true, Nat.reduceAdd, Nat.lt_add_one, Nat.zero_lt_one, nI_add, pk_mul, ixL, vpL, ne_eq, reduceIte, wI_sN, wL_sM, sN_same, sN_K, sN_2, sM_1, sM_same, sM_K, sM_s, uI_at, uN_at, enc_at, uI_enc, uI_uI, upM_s, upM_n]
  refine V_req hB hno (c_requireLot hc hS hV t) rfl (by decide +kernel) cvX10_222 (dom1 rfl) npX9_requireLot ⟨by decide, by decide⟩ (Nat.le_of_ble_eq_true rfl) (by decide) ?_ ?_
  rotate_left
  · intro ho
    rw [ho]
    exact ⟨rfl, Same.refl _ _⟩
  intro i ho
  obtain ⟨hi, hl⟩ := findO_lt ho
  rw [ho] at hB
  have e18 : ¬ inR y 0 4 = true → V x τ 1 18 [(0, moM), (1, aI t), (2, aI y), (3, .inr (5, 0, π i))] [] := by
    intro hq
    have e : sBof a (some i) y = (2, 0) := if_neg hq
    rw [e] at hB
    refine V_throw hB hno thX10_225_109 ⟨by decide +kernel, by decide +kernel, by decide +kernel, by decide +kernel, by decide +kernel⟩ (by decide) (Nat.le_of_ble_eq_true rfl) ?_
    exact ⟨rfl, Same.refl _ _⟩
  show V x τ 1 8 _ [.inr (5, 0, π i)]
  refine V_run hB (rt := some .int) (nL := 4) (mc := 2) rfl rfl rfl (ops := [(8, .astore_n 3, 1, (3, 0, 0, 0, 0, 0), 0), (9, .iload_n 2, 1, (2, 0, 0, 0, 0, 0), 0), (10, .ifCond .lt 8, 3, (18, 0, 0, 0, 0, 0), 0), (13, .iload_n 2, 1, (2, 0, 0, 0, 0, 0), 0), (14, .iconst 5, 1, (0, 0, 0, 0, 0, 0), nI 5), (15, .if_icmp .lt 13, 3, (28, 0, 0, 0, 0, 0), 0)]) (by decide +kernel) ?_
  dsimp only [↓wpb, ↓wp1, ↓vI, ↓vL, ↓vD, ↓ldI, ↓ldL, ↓ldD, ↓ldR, ↓k1, ↓k2, ↓kI, ↓kL, ↓kD, ↓kII, ↓kLL, ↓kDD, ↓kR, ↓kIR, ↓kLR, ↓kIIR, ↓kLIR, ↓kDIR, ↓kRIR, ↓kNN, ↓kE, ↓br, ↓bn, ↓rtI, ↓gfv, ↓zchk, lput, ldel, lbad, alA, acat, isRf, dom, dS, dJ, isO, aTy, aLen, elAV, elR, Nat.reduceBEq, Nat.reduceAdd, Bool.or, Bool.and, Nat.add_zero, Nat.zero_add]
  try simp only [Nat.reduceLT, Nat.reduceLeDiff, Nat.reduceEqDiff, true_and, and_true, and_self, Nat.zero_le, Nat.le_refl, true_or, or_true, Bool.false_eq_true, not_false_eq_true, Nat.reduceAdd, Nat.lt_add_one, Nat.zero_lt_one, nI_add, pk_mul, ixL, vpL, ne_eq, reduceIte, wI_sN, wL_sM, sN_same, sN_K, sN_2, sM_1, sM_same, sM_K, sM_s, uI_at, uN_at, enc_at, uI_enc, uI_uI, upM_s, upM_n]
  refine ⟨fun q => e18 (fun z => (hz.mp z).1 q), fun q1 => ⟨fun q2 => ?_, fun q2 => e18 (fun z => (hz.mp z).2 (Int32.not_lt.mp q2))⟩⟩
  have hr := hz.mpr ⟨q1, Int32.not_le.mpr q2⟩
  obtain ⟨Y, rfl, -, Y2⟩ := inR_N hr (by omega) (by omega)
  have e : sBof a (some i) (nI Y) = (0, it a i (7 + Y)) := by
    show (if inR (nI Y) 0 4 = true then _ else _) = _
    rw [if_pos hr, ixL (by omega)]
  rw [e] at hB
  have ix : (nI i).toNatClampNeg = i := ixL (by omega)
  have vx : vp_in (nI i) 10 = True := vpL (by omega) (by omega)
  obtain ⟨hp, rp⟩ := hS.2.2.2.1 i (by omega)
  have ip : (nI (π i)).toNatClampNeg = π i := ixL (by omega)
  obtain ⟨⟨f0, f1, f2, f3, f4, f5, f6⟩, fb⟩ := hS.2.2.2.2.2 i (by omega)
  have ixy : (nI Y).toNatClampNeg = Y := ixL (by omega)
  have vxy : vp_in (nI Y) 5 = True := vpL (by omega) (by omega)
  have rb := fb (by unfold isLot at hl; exact beq_iff_eq.mp hl) Y (by omega)
  refine V_run hB (rt := some .int) (nL := 4) (mc := 2) rfl rfl rfl obX10_bidOf_28 ?_
  dsimp only [bX10_bidOf_28, ↓wpb, ↓wp1, ↓vI, ↓vL, ↓vD, ↓ldI, ↓ldL, ↓ldD, ↓ldR, ↓k1, ↓k2, ↓kI, ↓kL, ↓kD, ↓kII, ↓kLL, ↓kDD, ↓kR, ↓kIR, ↓kLR, ↓kIIR, ↓kLIR, ↓kDIR, ↓kRIR, ↓kNN, ↓kE, ↓br, ↓bn, ↓rtI, ↓gfv, ↓zchk, lput, ldel, lbad, alA, acat, isRf, dom, dS, dJ, isO, aTy, aLen, elAV, elR, Nat.reduceBEq, Nat.reduceAdd, Bool.or, Bool.and, Nat.add_zero, Nat.zero_add]
  try simp only [Nat.reduceLT, Nat.reduceLeDiff, Nat.reduceEqDiff, true_and, and_true, and_self, Nat.zero_le, Nat.le_refl, true_or, or_true, Bool.false_eq_true, not_false_eq_true, Nat.reduceAdd, Nat.lt_add_one, Nat.zero_lt_one, nI_add, pk_mul, ixL, vpL, ne_eq, reduceIte, wI_sN, wL_sM, sN_same, sN_K, sN_2, sM_1, sM_same, sM_K, sM_s, uI_at, uN_at, enc_at, uI_enc, uI_uI, upM_s, upM_n, ix, vx, hp, rp, ip, f0, f1, f2, f3, f4, f5, f6, ixy, vxy, rb]
  exact ⟨rfl, Same.refl _ _⟩
theorem x_buyerOf (hc : Ctx l G) (hS : ShP τ 0 a π) (hV : IV n a) (hn : n ≤ 1000) (t : Int32) : Sat l G iX10_buyerOf [moM, aI t] τ (RdC [NSE] NoN τ (sByr a (findO a t true))) := by
  have h10 := hV.1.1
  have hbd := hV.lt hn
  refine Sat_of hc.1 hc.2 (by decide +kernel) (Nat.le_of_ble_eq_true rfl) (fun x hB hno => ?_)
  refine V_run hB (rt := some .int) (nL := 4) (mc := 2) rfl rfl rfl obX10_buyerOf_0 ?_
  dsimp only [bX10_buyerOf_0, ↓wpb, ↓wp1, ↓vI, ↓vL, ↓vD, ↓ldI, ↓ldL, ↓ldD, ↓ldR, ↓k1, ↓k2, ↓kI, ↓kL, ↓kD, ↓kII, ↓kLL, ↓kDD, ↓kR, ↓kIR, ↓kLR, ↓kIIR, ↓kLIR, ↓kDIR, ↓kRIR, ↓kNN, ↓kE, ↓br, ↓bn, ↓rtI, ↓gfv, ↓zchk, lput, ldel, lbad, alA, acat, isRf, dom, dS, dJ, isO, aTy, aLen, elAV, elR, Nat.reduceBEq, Nat.reduceAdd, Bool.or, Bool.and, Nat.add_zero, Nat.zero_add]
  try simp only [Nat.reduceLT, Nat.reduceLeDiff, Nat.reduceEqDiff, true_and, and_true, and_self, Nat.zero_le, Nat.le_refl, true_or, or_true, Bool.false_eq_true, not_false_eq_true, Nat.reduceAdd, Nat.lt_add_one, Nat.zero_lt_one, nI_add, pk_mul, ixL, vpL, ne_eq, reduceIte, wI_sN, wL_sM, sN_same, sN_K, sN_2, sM_1, sM_same, sM_K, sM_s, uI_at, uN_at, enc_at, uI_enc, uI_uI, upM_s, upM_n]
  refine V_req hB hno (c_requireLot hc hS hV t) rfl (by decide +kernel) cvX10_222 (dom1 rfl) npX9_requireLot ⟨by decide, by decide⟩ (Nat.le_of_ble_eq_true rfl) (by decide) ?_ ?_
  rotate_left
  · intro ho
    rw [ho]
    exact ⟨rfl, Same.refl _ _⟩
  intro i ho
  obtain ⟨hi, hl⟩ := findO_lt ho
  rw [ho] at hB
  have ix : (nI i).toNatClampNeg = i := ixL (by omega)
  have vx : vp_in (nI i) 10 = True := vpL (by omega) (by omega)
  obtain ⟨hp, rp⟩ := hS.2.2.2.1 i (by omega)
  have ip : (nI (π i)).toNatClampNeg = π i := ixL (by omega)
  obtain ⟨⟨f0, f1, f2, f3, f4, f5, f6⟩, fb⟩ := hS.2.2.2.2.2 i (by omega)
  show V x τ 1 8 _ [.inr (5, 0, π i)]
  refine V_run hB (rt := some .int) (nL := 4) (mc := 2) rfl rfl rfl obX10_buyerOf_8 ?_
  dsimp only [bX10_buyerOf_8, ↓wpb, ↓wp1, ↓vI, ↓vL, ↓vD, ↓ldI, ↓ldL, ↓ldD, ↓ldR, ↓k1, ↓k2, ↓kI, ↓kL, ↓kD, ↓kII, ↓kLL, ↓kDD, ↓kR, ↓kIR, ↓kLR, ↓kIIR, ↓kLIR, ↓kDIR, ↓kRIR, ↓kNN, ↓kE, ↓br, ↓bn, ↓rtI, ↓gfv, ↓zchk, lput, ldel, lbad, alA, acat, isRf, dom, dS, dJ, isO, aTy, aLen, elAV, elR, Nat.reduceBEq, Nat.reduceAdd, Bool.or, Bool.and, Nat.add_zero, Nat.zero_add]
  try simp only [Nat.reduceLT, Nat.reduceLeDiff, Nat.reduceEqDiff, true_and, and_true, and_self, Nat.zero_le, Nat.le_refl, true_or, or_true, Bool.false_eq_true, not_false_eq_true, Nat.reduceAdd, Nat.lt_add_one, Nat.zero_lt_one, nI_add, pk_mul, ixL, vpL, ne_eq, reduceIte, wI_sN, wL_sM, sN_same, sN_K, sN_2, sM_1, sM_same, sM_K, sM_s, uI_at, uN_at, enc_at, uI_enc, uI_uI, upM_s, upM_n]
  refine V_cV hB hno (c_buyer hc hp f3 (fb (by unfold isLot at hl; exact beq_iff_eq.mp hl)) (fun k => by have := hbd (16 + 12 * i + k); unfold it; omega)) rfl (by decide +kernel) cvX10_230 ⟨(by decide : (0:Nat) < 11), hp⟩ npX6_buyerAlone ⟨by decide, by decide⟩ (Nat.le_of_ble_eq_true rfl) (n' := 1) (by decide) rfl ?_
  cases hy : buyer a i with
  | none =>
    have e : sByr a (some i) = (1, 0) := by show (match buyer a i with | none => _ | some y => _) = _; rw [hy]
    rw [e] at hB
    refine V_run hB (rt := some .int) (nL := 4) (mc := 2) rfl rfl rfl obX10_buyerOf_13 ?_
    dsimp only [bX10_buyerOf_13, ↓wpb, ↓wp1, ↓vI, ↓vL, ↓vD, ↓ldI, ↓ldL, ↓ldD, ↓ldR, ↓k1, ↓k2, ↓kI, ↓kL, ↓kD, ↓kII, ↓kLL, ↓kDD, ↓kR, ↓kIR, ↓kLR, ↓kIIR, ↓kLIR, ↓kDIR, ↓kRIR, ↓kNN, ↓kE, ↓br, ↓bn, ↓rtI, ↓gfv, ↓zchk, lput, ldel, lbad, alA, acat, isRf, dom, dS, dJ, isO, aTy, aLen, elAV, elR, Nat.reduceBEq, Nat.reduceAdd, Bool.or, Bool.and, Nat.add_zero, Nat.zero_add]
    try simp only [Nat.reduceLT, Nat.reduceLeDiff, Nat.reduceEqDiff, true_and, and_true, and_self, Nat.zero_le, Nat.le_refl, true_or, or_true, Bool.false_eq_true, not_false_eq_true, Nat.reduceAdd, Nat.lt_add_one, Nat.zero_lt_one, nI_add, pk_mul, ixL, vpL, ne_eq, reduceIte, wI_sN, wL_sM, sN_same, sN_K, sN_2, sM_1, sM_same, sM_K, sM_s, uI_at, uN_at, enc_at, uI_enc, uI_uI, upM_s, upM_n]
    refine ⟨fun q => absurd rfl q, fun _ => ?_⟩
    refine V_throw hB hno thX10_233_173 ⟨by decide +kernel, by decide +kernel, by decide +kernel, by decide +kernel, by decide +kernel⟩ (by decide) (Nat.le_of_ble_eq_true rfl) ?_
    exact ⟨rfl, Same.refl _ _⟩
  | some y =>
    have hy5 := buyU_lt hy
    have e : sByr a (some i) = (0, y) := by show (match buyer a i with | none => _ | some y => _) = _; rw [hy]
    rw [e] at hB
    rw [oI_some]
    refine V_run hB (rt := some .int) (nL := 4) (mc := 2) rfl rfl rfl obX10_buyerOf_13 ?_
    dsimp only [bX10_buyerOf_13, ↓wpb, ↓wp1, ↓vI, ↓vL, ↓vD, ↓ldI, ↓ldL, ↓ldD, ↓ldR, ↓k1, ↓k2, ↓kI, ↓kL, ↓kD, ↓kII, ↓kLL, ↓kDD, ↓kR, ↓kIR, ↓kLR, ↓kIIR, ↓kLIR, ↓kDIR, ↓kRIR, ↓kNN, ↓kE, ↓br, ↓bn, ↓rtI, ↓gfv, ↓zchk, lput, ldel, lbad, alA, acat, isRf, dom, dS, dJ, isO, aTy, aLen, elAV, elR, Nat.reduceBEq, Nat.reduceAdd, Bool.or, Bool.and, Nat.add_zero, Nat.zero_add]
    try simp only [Nat.reduceLT, Nat.reduceLeDiff, Nat.reduceEqDiff, true_and, and_true, and_self, Nat.zero_le, Nat.le_refl, true_or, or_true, Bool.false_eq_true, not_false_eq_true, Nat.reduceAdd, Nat.lt_add_one, Nat.zero_lt_one, nI_add, pk_mul, ixL, vpL, ne_eq, reduceIte, wI_sN, wL_sM, sN_same, sN_K, sN_2, sM_1, sM_same, sM_K, sM_s, uI_at, uN_at, enc_at, uI_enc, uI_uI, upM_s, upM_n]
    refine ⟨fun _ => ?_, fun q => absurd q (nI_n1 (by omega))⟩
    refine V_run hB (rt := some .int) (nL := 4) (mc := 2) rfl rfl rfl obX10_buyerOf_29 ?_
    dsimp only [bX10_buyerOf_29, ↓wpb, ↓wp1, ↓vI, ↓vL, ↓vD, ↓ldI, ↓ldL, ↓ldD, ↓ldR, ↓k1, ↓k2, ↓kI, ↓kL, ↓kD, ↓kII, ↓kLL, ↓kDD, ↓kR, ↓kIR, ↓kLR, ↓kIIR, ↓kLIR, ↓kDIR, ↓kRIR, ↓kNN, ↓kE, ↓br, ↓bn, ↓rtI, ↓gfv, ↓zchk, lput, ldel, lbad, alA, acat, isRf, dom, dS, dJ, isO, aTy, aLen, elAV, elR, Nat.reduceBEq, Nat.reduceAdd, Bool.or, Bool.and, Nat.add_zero, Nat.zero_add]
    try simp only [Nat.reduceLT, Nat.reduceLeDiff, Nat.reduceEqDiff, true_and, and_true, and_self, Nat.zero_le, Nat.le_refl, true_or, or_true, Bool.false_eq_true, not_false_eq_true, Nat.reduceAdd, Nat.lt_add_one, Nat.zero_lt_one, nI_add, pk_mul, ixL, vpL, ne_eq, reduceIte, wI_sN, wL_sM, sN_same, sN_K, sN_2, sM_1, sM_same, sM_K, sM_s, uI_at, uN_at, enc_at, uI_enc, uI_uI, upM_s, upM_n]
    exact ⟨rfl, Same.refl _ _⟩
theorem x_priceOf (hc : Ctx l G) (hS : ShP τ 0 a π) (hV : IV n a) (hn : n ≤ 1000) (t : Int32) : Sat l G iX10_priceOf [moM, aI t] τ (RdC [NSE] NoN τ (sPrc a (findO a t true))) := by
  have h10 := hV.1.1
  have hbd := hV.lt hn
  refine Sat_of hc.1 hc.2 (by decide +kernel) (Nat.le_of_ble_eq_true rfl) (fun x hB hno => ?_)
  refine V_run hB (rt := some .int) (nL := 4) (mc := 2) rfl rfl rfl obX10_priceOf_0 ?_
  dsimp only [bX10_priceOf_0, ↓wpb, ↓wp1, ↓vI, ↓vL, ↓vD, ↓ldI, ↓ldL, ↓ldD, ↓ldR, ↓k1, ↓k2, ↓kI, ↓kL, ↓kD, ↓kII, ↓kLL, ↓kDD, ↓kR, ↓kIR, ↓kLR, ↓kIIR, ↓kLIR, ↓kDIR, ↓kRIR, ↓kNN, ↓kE, ↓br, ↓bn, ↓rtI, ↓gfv, ↓zchk, lput, ldel, lbad, alA, acat, isRf, dom, dS, dJ, isO, aTy, aLen, elAV, elR, Nat.reduceBEq, Nat.reduceAdd, Bool.or, Bool.and, Nat.add_zero, Nat.zero_add]
  try simp only [Nat.reduceLT, Nat.reduceLeDiff, Nat.reduceEqDiff, true_and, and_true, and_self, Nat.zero_le, Nat.le_refl, true_or, or_true, Bool.false_eq_true, not_false_eq_true, Nat.reduceAdd, Nat.lt_add_one, Nat.zero_lt_one, nI_add, pk_mul, ixL, vpL, ne_eq, reduceIte, wI_sN, wL_sM, sN_same, sN_K, sN_2, sM_1, sM_same, sM_K, sM_s, uI_at, uN_at, enc_at, uI_enc, uI_uI, upM_s, upM_n]
  refine V_req hB hno (c_requireLot hc hS hV t) rfl (by decide +kernel) cvX10_222 (dom1 rfl) npX9_requireLot ⟨by decide, by decide⟩ (Nat.le_of_ble_eq_true rfl) (by decide) ?_ ?_
  rotate_left
  · intro ho
    rw [ho]
    exact ⟨rfl, Same.refl _ _⟩
  intro i ho
  obtain ⟨hi, hl⟩ := findO_lt ho
  rw [ho] at hB
  have ix : (nI i).toNatClampNeg = i := ixL (by omega)
  have vx : vp_in (nI i) 10 = True := vpL (by omega) (by omega)
  obtain ⟨hp, rp⟩ := hS.2.2.2.1 i (by omega)
  have ip : (nI (π i)).toNatClampNeg = π i := ixL (by omega)
  obtain ⟨⟨f0, f1, f2, f3, f4, f5, f6⟩, fb⟩ := hS.2.2.2.2.2 i (by omega)
  have fb2 := fb (by unfold isLot at hl; exact beq_iff_eq.mp hl)
  show V x τ 1 8 _ [.inr (5, 0, π i)]
  refine V_run hB (rt := some .int) (nL := 4) (mc := 2) rfl rfl rfl obX10_priceOf_8 ?_
  dsimp only [bX10_priceOf_8, ↓wpb, ↓wp1, ↓vI, ↓vL, ↓vD, ↓ldI, ↓ldL, ↓ldD, ↓ldR, ↓k1, ↓k2, ↓kI, ↓kL, ↓kD, ↓kII, ↓kLL, ↓kDD, ↓kR, ↓kIR, ↓kLR, ↓kIIR, ↓kLIR, ↓kDIR, ↓kRIR, ↓kNN, ↓kE, ↓br, ↓bn, ↓rtI, ↓gfv, ↓zchk, lput, ldel, lbad, alA, acat, isRf, dom, dS, dJ, isO, aTy, aLen, elAV, elR, Nat.reduceBEq, Nat.reduceAdd, Bool.or, Bool.and, Nat.add_zero, Nat.zero_add]
  try simp only [Nat.reduceLT, Nat.reduceLeDiff, Nat.reduceEqDiff, true_and, and_true, and_self, Nat.zero_le, Nat.le_refl, true_or, or_true, Bool.false_eq_true, not_false_eq_true, Nat.reduceAdd, Nat.lt_add_one, Nat.zero_lt_one, nI_add, pk_mul, ixL, vpL, ne_eq, reduceIte, wI_sN, wL_sM, sN_same, sN_K, sN_2, sM_1, sM_same, sM_K, sM_s, uI_at, uN_at, enc_at, uI_enc, uI_uI, upM_s, upM_n]
  refine V_cV hB hno (c_buyer hc hp f3 fb2 (fun k => by have := hbd (16 + 12 * i + k); unfold it; omega)) rfl (by decide +kernel) cvX10_230 ⟨(by decide : (0:Nat) < 11), hp⟩ npX6_buyerAlone ⟨by decide, by decide⟩ (Nat.le_of_ble_eq_true rfl) (n' := 1) (by decide) rfl ?_
  cases hy : buyer a i with
  | none =>
    have e : sPrc a (some i) = (1, 0) := by show (match buyer a i with | none => _ | some y => _) = _; rw [hy]
    rw [e] at hB
    refine V_run hB (rt := some .int) (nL := 4) (mc := 2) rfl rfl rfl obX10_priceOf_13 ?_
    dsimp only [bX10_priceOf_13, ↓wpb, ↓wp1, ↓vI, ↓vL, ↓vD, ↓ldI, ↓ldL, ↓ldD, ↓ldR, ↓k1, ↓k2, ↓kI, ↓kL, ↓kD, ↓kII, ↓kLL, ↓kDD, ↓kR, ↓kIR, ↓kLR, ↓kIIR, ↓kLIR, ↓kDIR, ↓kRIR, ↓kNN, ↓kE, ↓br, ↓bn, ↓rtI, ↓gfv, ↓zchk, lput, ldel, lbad, alA, acat, isRf, dom, dS, dJ, isO, aTy, aLen, elAV, elR, Nat.reduceBEq, Nat.reduceAdd, Bool.or, Bool.and, Nat.add_zero, Nat.zero_add]
    try simp only [Nat.reduceLT, Nat.reduceLeDiff, Nat.reduceEqDiff, true_and, and_true, and_self, Nat.zero_le, Nat.le_refl, true_or, or_true, Bool.false_eq_true, not_false_eq_true, Nat.reduceAdd, Nat.lt_add_one, Nat.zero_lt_one, nI_add, pk_mul, ixL, vpL, ne_eq, reduceIte, wI_sN, wL_sM, sN_same, sN_K, sN_2, sM_1, sM_same, sM_K, sM_s, uI_at, uN_at, enc_at, uI_enc, uI_uI, upM_s, upM_n]
    refine ⟨fun q => absurd rfl q, fun _ => ?_⟩
    refine V_throw hB hno thX10_233_173 ⟨by decide +kernel, by decide +kernel, by decide +kernel, by decide +kernel, by decide +kernel⟩ (by decide) (Nat.le_of_ble_eq_true rfl) ?_
    exact ⟨rfl, Same.refl _ _⟩
  | some y =>
    have hy5 : y < 5 := buyU_lt hy
    have e : sPrc a (some i) = (0, paid a i y) := by show (match buyer a i with | none => _ | some y => _) = _; rw [hy]
    rw [e] at hB
    rw [oI_some]
    refine V_run hB (rt := some .int) (nL := 4) (mc := 2) rfl rfl rfl obX10_priceOf_13 ?_
    dsimp only [bX10_priceOf_13, ↓wpb, ↓wp1, ↓vI, ↓vL, ↓vD, ↓ldI, ↓ldL, ↓ldD, ↓ldR, ↓k1, ↓k2, ↓kI, ↓kL, ↓kD, ↓kII, ↓kLL, ↓kDD, ↓kR, ↓kIR, ↓kLR, ↓kIIR, ↓kLIR, ↓kDIR, ↓kRIR, ↓kNN, ↓kE, ↓br, ↓bn, ↓rtI, ↓gfv, ↓zchk, lput, ldel, lbad, alA, acat, isRf, dom, dS, dJ, isO, aTy, aLen, elAV, elR, Nat.reduceBEq, Nat.reduceAdd, Bool.or, Bool.and, Nat.add_zero, Nat.zero_add]
    try simp only [Nat.reduceLT, Nat.reduceLeDiff, Nat.reduceEqDiff, true_and, and_true, and_self, Nat.zero_le, Nat.le_refl, true_or, or_true, Bool.false_eq_true, not_false_eq_true, Nat.reduceAdd, Nat.lt_add_one, Nat.zero_lt_one, nI_add, pk_mul, ixL, vpL, ne_eq, reduceIte, wI_sN, wL_sM, sN_same, sN_K, sN_2, sM_1, sM_same, sM_K, sM_s, uI_at, uN_at, enc_at, uI_enc, uI_uI, upM_s, upM_n]
    refine ⟨fun _ => ?_, fun q => absurd q (nI_n1 (by omega))⟩
    refine V_run hB (rt := some .int) (nL := 4) (mc := 2) rfl rfl rfl obX10_priceOf_29 ?_
    dsimp only [bX10_priceOf_29, ↓wpb, ↓wp1, ↓vI, ↓vL, ↓vD, ↓ldI, ↓ldL, ↓ldD, ↓ldR, ↓k1, ↓k2, ↓kI, ↓kL, ↓kD, ↓kII, ↓kLL, ↓kDD, ↓kR, ↓kIR, ↓kLR, ↓kIIR, ↓kLIR, ↓kDIR, ↓kRIR, ↓kNN, ↓kE, ↓br, ↓bn, ↓rtI, ↓gfv, ↓zchk, lput, ldel, lbad, alA, acat, isRf, dom, dS, dJ, isO, aTy, aLen, elAV, elR, Nat.reduceBEq, Nat.reduceAdd, Bool.or, Bool.and, Nat.add_zero, Nat.zero_add]
    try simp only [Nat.reduceLT, Nat.reduceLeDiff, Nat.reduceEqDiff, true_and, and_true, and_self, Nat.zero_le, Nat.le_refl, true_or, or_true, Bool.false_eq_true, not_false_eq_true, Nat.reduceAdd, Nat.lt_add_one, Nat.zero_lt_one, nI_add, pk_mul, ixL, vpL, ne_eq, reduceIte, wI_sN, wL_sM, sN_same, sN_K, sN_2, sM_1, sM_same, sM_K, sM_s, uI_at, uN_at, enc_at, uI_enc, uI_uI, upM_s, upM_n]
    refine V_cV hB hno (c_price hc hp hy5 f3 fb2 hbd) rfl (by decide +kernel) cvX10_235 ⟨(by decide : (0:Nat) < 11), hp⟩ npX6_priceAlone ⟨by decide, by decide⟩ (Nat.le_of_ble_eq_true rfl) (n' := 1) (by decide) rfl ?_
    refine V_run hB (rt := some .int) (nL := 4) (mc := 2) rfl rfl rfl obX10_priceOf_34 ?_
    dsimp only [bX10_priceOf_34, ↓wpb, ↓wp1, ↓vI, ↓vL, ↓vD, ↓ldI, ↓ldL, ↓ldD, ↓ldR, ↓k1, ↓k2, ↓kI, ↓kL, ↓kD, ↓kII, ↓kLL, ↓kDD, ↓kR, ↓kIR, ↓kLR, ↓kIIR, ↓kLIR, ↓kDIR, ↓kRIR, ↓kNN, ↓kE, ↓br, ↓bn, ↓rtI, ↓gfv, ↓zchk, lput, ldel, lbad, alA, acat, isRf, dom, dS, dJ, isO, aTy, aLen, elAV, elR, Nat.reduceBEq, Nat.reduceAdd, Bool.or, Bool.and, Nat.add_zero, Nat.zero_add]
    try simp only [Nat.reduceLT, Nat.reduceLeDiff, Nat.reduceEqDiff, true_and, and_true, and_self, Nat.zero_le, Nat.le_refl, true_or, or_true, Bool.false_eq_true, not_false_eq_true, Nat.reduceAdd, Nat.lt_add_one, Nat.zero_lt_one, nI_add, pk_mul, ixL, vpL, ne_eq, reduceIte, wI_sN, wL_sM, sN_same, sN_K, sN_2, sM_1, sM_same, sM_K, sM_s, uI_at, uN_at, enc_at, uI_enc, uI_uI, upM_s, upM_n]
    exact ⟨rfl, Same.refl _ _⟩
theorem x_meanLoan (hc : Ctx l G) (hS : ShP τ 0 a π) (hV : IV n a) : Sat l G iX10_meanLoan [moM] τ (meaP (sMea a) τ) := by
  have h10 := hV.1.1
  have hcl := cntU_le a false (a 4)
  refine Sat_of hc.1 hc.2 (by decide +kernel) (Nat.le_of_ble_eq_true rfl) (fun x hB hno => ?_)
  refine V_run hB (rt := some .double) (nL := 2) (mc := 1) rfl rfl rfl obX10_meanLoan_0 ?_
  dsimp only [bX10_meanLoan_0, ↓wpb, ↓wp1, ↓vI, ↓vL, ↓vD, ↓ldI, ↓ldL, ↓ldD, ↓ldR, ↓k1, ↓k2, ↓kI, ↓kL, ↓kD, ↓kII, ↓kLL, ↓kDD, ↓kR, ↓kIR, ↓kLR, ↓kIIR, ↓kLIR, ↓kDIR, ↓kRIR, ↓kNN, ↓kE, ↓br, ↓bn, ↓rtI, ↓gfv, ↓zchk, lput, ldel, lbad, alA, acat, isRf, dom, dS, dJ, isO, aTy, aLen, elAV, elR, Nat.reduceBEq, Nat.reduceAdd, Bool.or, Bool.and, Nat.add_zero, Nat.zero_add]
  try simp only [Nat.reduceLT, Nat.reduceLeDiff, Nat.reduceEqDiff, true_and, and_true, and_self, Nat.zero_le, Nat.le_refl, true_or, or_true, Bool.false_eq_true, not_false_eq_true, Nat.reduceAdd, Nat.lt_add_one, Nat.zero_lt_one, nI_add, pk_mul, ixL, vpL, ne_eq, reduceIte, wI_sN, wL_sM, sN_same, sN_K, sN_2, sM_1, sM_same, sM_K, sM_s, uI_at, uN_at, enc_at, uI_enc, uI_uI, upM_s, upM_n]
  refine V_cV hB hno (c_countOf hc hS hV false) rfl (by decide +kernel) cvX10_129 (dom1 rfl) npX9_countOf ⟨by decide, by decide⟩ (Nat.le_of_ble_eq_true rfl) (n' := 0) (by decide) rfl ?_
  refine V_run hB (rt := some .double) (nL := 2) (mc := 1) rfl rfl rfl obX10_meanLoan_8 ?_
  dsimp only [bX10_meanLoan_8, ↓wpb, ↓wp1, ↓vI, ↓vL, ↓vD, ↓ldI, ↓ldL, ↓ldD, ↓ldR, ↓k1, ↓k2, ↓kI, ↓kL, ↓kD, ↓kII, ↓kLL, ↓kDD, ↓kR, ↓kIR, ↓kLR, ↓kIIR, ↓kLIR, ↓kDIR, ↓kRIR, ↓kNN, ↓kE, ↓br, ↓bn, ↓rtI, ↓gfv, ↓zchk, lput, ldel, lbad, alA, acat, isRf, dom, dS, dJ, isO, aTy, aLen, elAV, elR, Nat.reduceBEq, Nat.reduceAdd, Bool.or, Bool.and, Nat.add_zero, Nat.zero_add]
  try simp only [Nat.reduceLT, Nat.reduceLeDiff, Nat.reduceEqDiff, true_and, and_true, and_self, Nat.zero_le, Nat.le_refl, true_or, or_true, Bool.false_eq_true, not_false_eq_true, Nat.reduceAdd, Nat.lt_add_one, Nat.zero_lt_one, nI_add, pk_mul, ixL, vpL, ne_eq, reduceIte, wI_sN, wL_sM, sN_same, sN_K, sN_2, sM_1, sM_same, sM_K, sM_s, uI_at, uN_at, enc_at, uI_enc, uI_uI, upM_s, upM_n]
  refine ⟨fun hz => ?_, fun hz => ?_⟩
  · have hz1 : cntU a false (a 4) ≠ 0 := fun q => hz (by rw [q]; rfl)
    have e : sMea a = (0, FP.ddiv (FP.i2d (nI (slU a (a 4)))) (FP.i2d (nI (cntU a false (a 4))))) := if_neg hz1
    rw [e] at hB
    refine V_run hB (rt := some .double) (nL := 2) (mc := 1) rfl rfl rfl obX10_meanLoan_23 ?_
    dsimp only [bX10_meanLoan_23, ↓wpb, ↓wp1, ↓vI, ↓vL, ↓vD, ↓ldI, ↓ldL, ↓ldD, ↓ldR, ↓k1, ↓k2, ↓kI, ↓kL, ↓kD, ↓kII, ↓kLL, ↓kDD, ↓kR, ↓kIR, ↓kLR, ↓kIIR, ↓kLIR, ↓kDIR, ↓kRIR, ↓kNN, ↓kE, ↓br, ↓bn, ↓rtI, ↓gfv, ↓zchk, lput, ldel, lbad, alA, acat, isRf, dom, dS, dJ, isO, aTy, aLen, elAV, elR, Nat.reduceBEq, Nat.reduceAdd, Bool.or, Bool.and, Nat.add_zero, Nat.zero_add]
    try simp only [Nat.reduceLT, Nat.reduceLeDiff, Nat.reduceEqDiff, true_and, and_true, and_self, Nat.zero_le, Nat.le_refl, true_or, or_true, Bool.false_eq_true, not_false_eq_true, Nat.reduceAdd, Nat.lt_add_one, Nat.zero_lt_one, nI_add, pk_mul, ixL, vpL, ne_eq, reduceIte, wI_sN, wL_sM, sN_same, sN_K, sN_2, sM_1, sM_same, sM_K, sM_s, uI_at, uN_at, enc_at, uI_enc, uI_uI, upM_s, upM_n]
    refine V_cV hB hno (c_loans hc hS hV) rfl (by decide +kernel) cvX10_272 (dom1 rfl) npX9_sumOfPledgedLoans ⟨by decide, by decide⟩ (Nat.le_of_ble_eq_true rfl) (n' := 0) (by decide) rfl ?_
    refine V_run hB (rt := some .double) (nL := 2) (mc := 1) rfl rfl rfl obX10_meanLoan_30 ?_
    dsimp only [bX10_meanLoan_30, ↓wpb, ↓wp1, ↓vI, ↓vL, ↓vD, ↓ldI, ↓ldL, ↓ldD, ↓ldR, ↓k1, ↓k2, ↓kI, ↓kL, ↓kD, ↓kII, ↓kLL, ↓kDD, ↓kR, ↓kIR, ↓kLR, ↓kIIR, ↓kLIR, ↓kDIR, ↓kRIR, ↓kNN, ↓kE, ↓br, ↓bn, ↓rtI, ↓gfv, ↓zchk, lput, ldel, lbad, alA, acat, isRf, dom, dS, dJ, isO, aTy, aLen, elAV, elR, Nat.reduceBEq, Nat.reduceAdd, Bool.or, Bool.and, Nat.add_zero, Nat.zero_add]
    try simp only [Nat.reduceLT, Nat.reduceLeDiff, Nat.reduceEqDiff, true_and, and_true, and_self, Nat.zero_le, Nat.le_refl, true_or, or_true, Bool.false_eq_true, not_false_eq_true, Nat.reduceAdd, Nat.lt_add_one, Nat.zero_lt_one, nI_add, pk_mul, ixL, vpL, ne_eq, reduceIte, wI_sN, wL_sM, sN_same, sN_K, sN_2, sM_1, sM_same, sM_K, sM_s, uI_at, uN_at, enc_at, uI_enc, uI_uI, upM_s, upM_n]
    refine ⟨ddNN (fun q => hz1 ((nI_eq (by omega) (by omega)).mp (show nI _ = nI 0 from q))), ?_⟩
    exact ⟨rfl, Same.refl _ _⟩
  · have hz1 : cntU a false (a 4) = 0 := (nI_eq (by omega) (by omega)).mp (show nI _ = nI 0 from hz)
    have e : sMea a = (1, FP.dconst0) := if_pos hz1
    rw [e] at hB
    refine V_throw hB hno thX10_208_271 ⟨by decide +kernel, by decide +kernel, by decide +kernel, by decide +kernel, by decide +kernel⟩ (by decide) (Nat.le_of_ble_eq_true rfl) ?_
    exact ⟨rfl, Same.refl _ _⟩
theorem x_consistent (hc : Ctx l G) (hS : ShP τ 0 a π) (hV : IV n a) (hn : n ≤ 1000) : Sat l G iX10_isConsistent [moM] τ (RdC [] NoN τ (sCon a)) := by
  have h10 := hV.1.1
  obtain ⟨⟨ac0, ac6, ac7, ac8⟩, ac5, acs⟩ := hS.2.2.1
  have b5 := hV.bd hn 5
  have b7 := hV.bd hn 7
  have b8 := hV.bd hn 8
  refine Sat_of hc.1 hc.2 (by decide +kernel) (Nat.le_of_ble_eq_true rfl) (fun x hB hno => ?_)
  refine V_run hB (rt := some .boolean) (nL := 4) (mc := 0) rfl rfl rfl obX10_isConsistent_0 ?_
  dsimp only [bX10_isConsistent_0, ↓wpb, ↓wp1, ↓vI, ↓vL, ↓vD, ↓ldI, ↓ldL, ↓ldD, ↓ldR, ↓k1, ↓k2, ↓kI, ↓kL, ↓kD, ↓kII, ↓kLL, ↓kDD, ↓kR, ↓kIR, ↓kLR, ↓kIIR, ↓kLIR, ↓kDIR, ↓kRIR, ↓kNN, ↓kE, ↓br, ↓bn, ↓rtI, ↓gfv, ↓zchk, lput, ldel, lbad, alA, acat, isRf, dom, dS, dJ, isO, aTy, aLen, elAV, elR, Nat.reduceBEq, Nat.reduceAdd, Bool.or, Bool.and, Nat.add_zero, Nat.zero_add]
  try simp only [Nat.reduceLT, Nat.reduceLeDiff, Nat.reduceEqDiff, true_and, and_true, and_self, Nat.zero_le, Nat.le_refl, true_or, or_true, Bool.false_eq_true, not_false_eq_true, Nat.reduceAdd, Nat.lt_add_one, Nat.zero_lt_one, nI_add, pk_mul, ixL, vpL, ne_eq, reduceIte, wI_sN, wL_sM, sN_same, sN_K, sN_2, sM_1, sM_same, sM_K, sM_s, uI_at, uN_at, enc_at, uI_enc, uI_uI, upM_s, upM_n]
  refine V_callV hB hno (c_stock hc hS hV) rfl (by decide +kernel) cvX10_275 (dom1 rfl) npX9_minutesInStock ⟨by decide, by decide⟩ (Nat.le_of_ble_eq_true rfl) (by decide) ?_ ?_
  rotate_left
  · intro E τ' hq
    obtain ⟨-, N, e, -⟩ := hq
    cases e
  intro v τ' hq
  obtain ⟨rfl, N, e, N1, N2⟩ := hq
  cases e
  show V x τ' 0 15 _ [aI (nI N)]
  have es : (nI N).toInt64 + (nI (a 5)).toInt64 + (nI (a 7)).toInt64 = (nI (mnU a (a 4))).toInt64 := by
    rw [L64_add (by omega), L64_add (by omega), ← N2, Nat.add_assoc]
  have k63 : ∀ al, ¬ mnU a (a 4) = a 8 → V x τ' 0 63 al [] := by
    intro al hq
    have e : sCon a = (0, 0) := by unfold sCon; rw [if_neg hq]
    rw [e] at hB
    refine V_run hB (rt := some .boolean) (nL := 4) (mc := 0) rfl rfl rfl obX10_isConsistent_63 ?_
    dsimp only [bX10_isConsistent_63, ↓wpb, ↓wp1, ↓vI, ↓vL, ↓vD, ↓ldI, ↓ldL, ↓ldD, ↓ldR, ↓k1, ↓k2, ↓kI, ↓kL, ↓kD, ↓kII, ↓kLL, ↓kDD, ↓kR, ↓kIR, ↓kLR, ↓kIIR, ↓kLIR, ↓kDIR, ↓kRIR, ↓kNN, ↓kE, ↓br, ↓bn, ↓rtI, ↓gfv, ↓zchk, lput, ldel, lbad, alA, acat, isRf, dom, dS, dJ, isO, aTy, aLen, elAV, elR, Nat.reduceBEq, Nat.reduceAdd, Bool.or, Bool.and, Nat.add_zero, Nat.zero_add]
    try simp only [Nat.reduceLT, Nat.reduceLeDiff, Nat.reduceEqDiff, true_and, and_true, and_self, Nat.zero_le, Nat.le_refl, true_or, or_true, Bool.false_eq_true, not_false_eq_true, Nat.reduceAdd, Nat.lt_add_one, Nat.zero_lt_one, nI_add, pk_mul, ixL, vpL, ne_eq, reduceIte, wI_sN, wL_sM, sN_same, sN_K, sN_2, sM_1, sM_same, sM_K, sM_s, uI_at, uN_at, enc_at, uI_enc, uI_uI, upM_s, upM_n]
    exact ⟨by decide, rfl, Same.refl _ _⟩
  refine V_run hB (rt := some .boolean) (nL := 4) (mc := 0) rfl rfl rfl obX10_isConsistent_15 ?_
  dsimp only [bX10_isConsistent_15, ↓wpb, ↓wp1, ↓vI, ↓vL, ↓vD, ↓ldI, ↓ldL, ↓ldD, ↓ldR, ↓k1, ↓k2, ↓kI, ↓kL, ↓kD, ↓kII, ↓kLL, ↓kDD, ↓kR, ↓kIR, ↓kLR, ↓kIIR, ↓kLIR, ↓kDIR, ↓kRIR, ↓kNN, ↓kE, ↓br, ↓bn, ↓rtI, ↓gfv, ↓zchk, lput, ldel, lbad, alA, acat, isRf, dom, dS, dJ, isO, aTy, aLen, elAV, elR, Nat.reduceBEq, Nat.reduceAdd, Bool.or, Bool.and, Nat.add_zero, Nat.zero_add]
  try simp only [Nat.reduceLT, Nat.reduceLeDiff, Nat.reduceEqDiff, true_and, and_true, and_self, Nat.zero_le, Nat.le_refl, true_or, or_true, Bool.false_eq_true, not_false_eq_true, Nat.reduceAdd, Nat.lt_add_one, Nat.zero_lt_one, nI_add, pk_mul, ixL, vpL, ne_eq, reduceIte, wI_sN, wL_sM, sN_same, sN_K, sN_2, sM_1, sM_same, sM_K, sM_s, uI_at, uN_at, enc_at, uI_enc, uI_uI, upM_s, upM_n, ac5, ac6, ac8, es, ac0]
  refine ⟨fun q => k63 _ (fun z => q ?_), fun q => ?_⟩
  · rw [z]
    exact cmp_0.mpr rfl
  · have q : mnU a (a 4) = a 8 := ((L64_eq (by omega) (by omega)).mp (cmp_0.mp q)).symm
    have e : sCon a = (0, 1) := by unfold sCon; rw [if_pos q]
    rw [e] at hB
    refine V_cV hB hno (c_sums hc hS.2.2.1) rfl (by decide +kernel) cvX10_125 (dom1 rfl) npX1_coinsFromSums ⟨by decide, by decide⟩ (Nat.le_of_ble_eq_true rfl) (n' := 0) (by decide) rfl ?_
    refine V_run hB (rt := some .boolean) (nL := 4) (mc := 0) rfl rfl rfl obX10_isConsistent_46 ?_
    dsimp only [bX10_isConsistent_46, ↓wpb, ↓wp1, ↓vI, ↓vL, ↓vD, ↓ldI, ↓ldL, ↓ldD, ↓ldR, ↓k1, ↓k2, ↓kI, ↓kL, ↓kD, ↓kII, ↓kLL, ↓kDD, ↓kR, ↓kIR, ↓kLR, ↓kIIR, ↓kLIR, ↓kDIR, ↓kRIR, ↓kNN, ↓kE, ↓br, ↓bn, ↓rtI, ↓gfv, ↓zchk, lput, ldel, lbad, alA, acat, isRf, dom, dS, dJ, isO, aTy, aLen, elAV, elR, Nat.reduceBEq, Nat.reduceAdd, Bool.or, Bool.and, Nat.add_zero, Nat.zero_add]
    try simp only [Nat.reduceLT, Nat.reduceLeDiff, Nat.reduceEqDiff, true_and, and_true, and_self, Nat.zero_le, Nat.le_refl, true_or, or_true, Bool.false_eq_true, not_false_eq_true, Nat.reduceAdd, Nat.lt_add_one, Nat.zero_lt_one, nI_add, pk_mul, ixL, vpL, ne_eq, reduceIte, wI_sN, wL_sM, sN_same, sN_K, sN_2, sM_1, sM_same, sM_K, sM_s, uI_at, uN_at, enc_at, uI_enc, uI_uI, upM_s, upM_n]
    refine ⟨fun q => absurd trivial q, fun _ => ?_⟩
    refine V_cV hB hno (c_agree hc hS hV hn) rfl (by decide +kernel) cvX10_278 (dom1 rfl) npX9_interestsAgree ⟨by decide, by decide⟩ (Nat.le_of_ble_eq_true rfl) (n' := 0) (by decide) rfl ?_
    refine V_run hB (rt := some .boolean) (nL := 4) (mc := 0) rfl rfl rfl obX10_isConsistent_56 ?_
    dsimp only [bX10_isConsistent_56, ↓wpb, ↓wp1, ↓vI, ↓vL, ↓vD, ↓ldI, ↓ldL, ↓ldD, ↓ldR, ↓k1, ↓k2, ↓kI, ↓kL, ↓kD, ↓kII, ↓kLL, ↓kDD, ↓kR, ↓kIR, ↓kLR, ↓kIIR, ↓kLIR, ↓kDIR, ↓kRIR, ↓kNN, ↓kE, ↓br, ↓bn, ↓rtI, ↓gfv, ↓zchk, lput, ldel, lbad, alA, acat, isRf, dom, dS, dJ, isO, aTy, aLen, elAV, elR, Nat.reduceBEq, Nat.reduceAdd, Bool.or, Bool.and, Nat.add_zero, Nat.zero_add]
    try simp only [Nat.reduceLT, Nat.reduceLeDiff, Nat.reduceEqDiff, true_and, and_true, and_self, Nat.zero_le, Nat.le_refl, true_or, or_true, Bool.false_eq_true, not_false_eq_true, Nat.reduceAdd, Nat.lt_add_one, Nat.zero_lt_one, nI_add, pk_mul, ixL, vpL, ne_eq, reduceIte, wI_sN, wL_sM, sN_same, sN_K, sN_2, sM_1, sM_same, sM_K, sM_s, uI_at, uN_at, enc_at, uI_enc, uI_uI, upM_s, upM_n]
    refine ⟨fun z => absurd z (by decide), fun _ => ?_⟩
    refine V_run hB (rt := some .boolean) (nL := 4) (mc := 0) rfl rfl rfl obX10_isConsistent_64 ?_
    dsimp only [bX10_isConsistent_64, ↓wpb, ↓wp1, ↓vI, ↓vL, ↓vD, ↓ldI, ↓ldL, ↓ldD, ↓ldR, ↓k1, ↓k2, ↓kI, ↓kL, ↓kD, ↓kII, ↓kLL, ↓kDD, ↓kR, ↓kIR, ↓kLR, ↓kIIR, ↓kLIR, ↓kDIR, ↓kRIR, ↓kNN, ↓kE, ↓br, ↓bn, ↓rtI, ↓gfv, ↓zchk, lput, ldel, lbad, alA, acat, isRf, dom, dS, dJ, isO, aTy, aLen, elAV, elR, Nat.reduceBEq, Nat.reduceAdd, Bool.or, Bool.and, Nat.add_zero, Nat.zero_add]
    try simp only [Nat.reduceLT, Nat.reduceLeDiff, Nat.reduceEqDiff, true_and, and_true, and_self, Nat.zero_le, Nat.le_refl, true_or, or_true, Bool.false_eq_true, not_false_eq_true, Nat.reduceAdd, Nat.lt_add_one, Nat.zero_lt_one, nI_add, pk_mul, ixL, vpL, ne_eq, reduceIte, wI_sN, wL_sM, sN_same, sN_K, sN_2, sM_1, sM_same, sM_K, sM_s, uI_at, uN_at, enc_at, uI_enc, uI_uI, upM_s, upM_n]
    exact ⟨by decide, rfl, Same.refl _ _⟩
theorem x_best (hc : Ctx l G) (hS : ShP τ 0 a π) (hV : IV n a) (hn : n ≤ 1000) : Sat l G iX10_bestEvening [moM] τ (RdC [] evN τ (0, bR a (a 4) 0)) := by
  refine Sat_of hc.1 hc.2 (by decide +kernel) (Nat.le_of_ble_eq_true rfl) (fun x hB hno => ?_)
  refine V_run hB (rt := some .int) (nL := 1) (mc := 0) rfl rfl rfl obX10_bestEvening_0 ?_
  dsimp only [bX10_bestEvening_0, ↓wpb, ↓wp1, ↓vI, ↓vL, ↓vD, ↓ldI, ↓ldL, ↓ldD, ↓ldR, ↓k1, ↓k2, ↓kI, ↓kL, ↓kD, ↓kII, ↓kLL, ↓kDD, ↓kR, ↓kIR, ↓kLR, ↓kIIR, ↓kLIR, ↓kDIR, ↓kRIR, ↓kNN, ↓kE, ↓br, ↓bn, ↓rtI, ↓gfv, ↓zchk, lput, ldel, lbad, alA, acat, isRf, dom, dS, dJ, isO, aTy, aLen, elAV, elR, Nat.reduceBEq, Nat.reduceAdd, Bool.or, Bool.and, Nat.add_zero, Nat.zero_add]
  try simp only [Nat.reduceLT, Nat.reduceLeDiff, Nat.reduceEqDiff, true_and, and_true, and_self, Nat.zero_le, Nat.le_refl, true_or, or_true, Bool.false_eq_true, not_false_eq_true, Nat.reduceAdd, Nat.lt_add_one, Nat.zero_lt_one, nI_add, pk_mul, ixL, vpL, ne_eq, reduceIte, wI_sN, wL_sM, sN_same, sN_K, sN_2, sM_1, sM_same, sM_K, sM_s, uI_at, uN_at, enc_at, uI_enc, uI_uI, upM_s, upM_n]
  refine V_callV hB hno (c_bestSum hc hS hV hn) rfl (by decide +kernel) cvX10_238 (dom1 rfl) npX4_bestSum ⟨by decide, by decide⟩ (Nat.le_of_ble_eq_true rfl) (by decide) ?_ ?_
  rotate_left
  · intro E τ' hq; cases hq.1
  intro v t hq
  obtain ⟨e, hm, -⟩ := hq
  cases e
  show V x t 0 11 _ [aI (nI (bR a (a 4) 0))]
  refine V_run hB (rt := some .int) (nL := 1) (mc := 0) rfl rfl rfl obX10_bestEvening_11 ?_
  dsimp only [bX10_bestEvening_11, ↓wpb, ↓wp1, ↓vI, ↓vL, ↓vD, ↓ldI, ↓ldL, ↓ldD, ↓ldR, ↓k1, ↓k2, ↓kI, ↓kL, ↓kD, ↓kII, ↓kLL, ↓kDD, ↓kR, ↓kIR, ↓kLR, ↓kIIR, ↓kLIR, ↓kDIR, ↓kRIR, ↓kNN, ↓kE, ↓br, ↓bn, ↓rtI, ↓gfv, ↓zchk, lput, ldel, lbad, alA, acat, isRf, dom, dS, dJ, isO, aTy, aLen, elAV, elR, Nat.reduceBEq, Nat.reduceAdd, Bool.or, Bool.and, Nat.add_zero, Nat.zero_add]
  try simp only [Nat.reduceLT, Nat.reduceLeDiff, Nat.reduceEqDiff, true_and, and_true, and_self, Nat.zero_le, Nat.le_refl, true_or, or_true, Bool.false_eq_true, not_false_eq_true, Nat.reduceAdd, Nat.lt_add_one, Nat.zero_lt_one, nI_add, pk_mul, ixL, vpL, ne_eq, reduceIte, wI_sN, wL_sM, sN_same, sN_K, sN_2, sM_1, sM_same, sM_K, sM_s, uI_at, uN_at, enc_at, uI_enc, uI_uI, upM_s, upM_n]
  exact ⟨rfl, hm⟩
theorem x_bestTry (hc : Ctx l G) (hS : ShP τ 0 a π) (hV : IV n a) (hn : n ≤ 1000) : Sat l G iX10_bestEveningByTrying [moM] τ (RdC [] evN τ (0, bR a (a 4) 0)) := by
  refine Sat_of hc.1 hc.2 (by decide +kernel) (Nat.le_of_ble_eq_true rfl) (fun x hB hno => ?_)
  refine V_run hB (rt := some .int) (nL := 1) (mc := 0) rfl rfl rfl obX10_bestEveningByTrying_0 ?_
  dsimp only [bX10_bestEveningByTrying_0, ↓wpb, ↓wp1, ↓vI, ↓vL, ↓vD, ↓ldI, ↓ldL, ↓ldD, ↓ldR, ↓k1, ↓k2, ↓kI, ↓kL, ↓kD, ↓kII, ↓kLL, ↓kDD, ↓kR, ↓kIR, ↓kLR, ↓kIIR, ↓kLIR, ↓kDIR, ↓kRIR, ↓kNN, ↓kE, ↓br, ↓bn, ↓rtI, ↓gfv, ↓zchk, lput, ldel, lbad, alA, acat, isRf, dom, dS, dJ, isO, aTy, aLen, elAV, elR, Nat.reduceBEq, Nat.reduceAdd, Bool.or, Bool.and, Nat.add_zero, Nat.zero_add]
  try simp only [Nat.reduceLT, Nat.reduceLeDiff, Nat.reduceEqDiff, true_and, and_true, and_self, Nat.zero_le, Nat.le_refl, true_or, or_true, Bool.false_eq_true, not_false_eq_true, Nat.reduceAdd, Nat.lt_add_one, Nat.zero_lt_one, nI_add, pk_mul, ixL, vpL, ne_eq, reduceIte, wI_sN, wL_sM, sN_same, sN_K, sN_2, sM_1, sM_same, sM_K, sM_s, uI_at, uN_at, enc_at, uI_enc, uI_uI, upM_s, upM_n]
  refine V_callV hB hno (c_bestTry hc hS hV hn) rfl (by decide +kernel) cvX10_242 (dom1 rfl) npX4_bestSumByTrying ⟨by decide, by decide⟩ (Nat.le_of_ble_eq_true rfl) (by decide) ?_ ?_
  rotate_left
  · intro E τ' hq; cases hq.1
  intro v t hq
  obtain ⟨e, hm⟩ := hq
  cases e
  show V x t 0 11 _ [aI (nI (bR a (a 4) 0))]
  refine V_run hB (rt := some .int) (nL := 1) (mc := 0) rfl rfl rfl obX10_bestEveningByTrying_11 ?_
  dsimp only [bX10_bestEveningByTrying_11, ↓wpb, ↓wp1, ↓vI, ↓vL, ↓vD, ↓ldI, ↓ldL, ↓ldD, ↓ldR, ↓k1, ↓k2, ↓kI, ↓kL, ↓kD, ↓kII, ↓kLL, ↓kDD, ↓kR, ↓kIR, ↓kLR, ↓kIIR, ↓kLIR, ↓kDIR, ↓kRIR, ↓kNN, ↓kE, ↓br, ↓bn, ↓rtI, ↓gfv, ↓zchk, lput, ldel, lbad, alA, acat, isRf, dom, dS, dJ, isO, aTy, aLen, elAV, elR, Nat.reduceBEq, Nat.reduceAdd, Bool.or, Bool.and, Nat.add_zero, Nat.zero_add]
  try simp only [Nat.reduceLT, Nat.reduceLeDiff, Nat.reduceEqDiff, true_and, and_true, and_self, Nat.zero_le, Nat.le_refl, true_or, or_true, Bool.false_eq_true, not_false_eq_true, Nat.reduceAdd, Nat.lt_add_one, Nat.zero_lt_one, nI_add, pk_mul, ixL, vpL, ne_eq, reduceIte, wI_sN, wL_sM, sN_same, sN_K, sN_2, sM_1, sM_same, sM_K, sM_s, uI_at, uN_at, enc_at, uI_enc, uI_uI, upM_s, upM_n]
  exact ⟨rfl, hm⟩
theorem x_eveBuyer (hc : Ctx l G) (hS : ShP τ 0 a π) (hV : IV n a) (hn : n ≤ 1000) (t : Int32) : Sat l G iX10_eveningBuyerOf [moM, aI t] τ (RdC [NSE] evN τ (sEvB a (findO a t true))) := by
  have h10 := hV.1.1
  refine Sat_of hc.1 hc.2 (by decide +kernel) (Nat.le_of_ble_eq_true rfl) (fun x hB hno => ?_)
  refine V_run hB (rt := some .int) (nL := 4) (mc := 2) rfl rfl rfl obX10_eveningBuyerOf_0 ?_
  dsimp only [bX10_eveningBuyerOf_0, ↓wpb, ↓wp1, ↓vI, ↓vL, ↓vD, ↓ldI, ↓ldL, ↓ldD, ↓ldR, ↓k1, ↓k2, ↓kI, ↓kL, ↓kD, ↓kII, ↓kLL, ↓kDD, ↓kR, ↓kIR, ↓kLR, ↓kIIR, ↓kLIR, ↓kDIR, ↓kRIR, ↓kNN, ↓kE, ↓br, ↓bn, ↓rtI, ↓gfv, ↓zchk, lput, ldel, lbad, alA, acat, isRf, dom, dS, dJ, isO, aTy, aLen, elAV, elR, Nat.reduceBEq, Nat.reduceAdd, Bool.or, Bool.and, Nat.add_zero, Nat.zero_add]
  try simp only [Nat.reduceLT, Nat.reduceLeDiff, Nat.reduceEqDiff, true_and, and_true, and_self, Nat.zero_le, Nat.le_refl, true_or, or_true, Bool.false_eq_true, not_false_eq_true, Nat.reduceAdd, Nat.lt_add_one, Nat.zero_lt_one, nI_add, pk_mul, ixL, vpL, ne_eq, reduceIte, wI_sN, wL_sM, sN_same, sN_K, sN_2, sM_1, sM_same, sM_K, sM_s, uI_at, uN_at, enc_at, uI_enc, uI_uI, upM_s, upM_n]
  refine V_req hB hno (c_requireLot hc hS hV t) rfl (by decide +kernel) cvX10_222 (dom1 rfl) npX9_requireLot ⟨by decide, by decide⟩ (Nat.le_of_ble_eq_true rfl) (by decide) ?_ ?_
  rotate_left
  · intro ho
    rw [ho]
    exact ⟨rfl, Same.refl _ _⟩
  intro i ho
  obtain ⟨hi, hl⟩ := findO_lt ho
  have hf := findO_find ho
  have hid : nI (it a i 0) = t := fnd_t hf
  rw [ho] at hB
  show V x τ 1 8 _ [.inr (5, 0, π i)]
  refine V_run hB (rt := some .int) (nL := 4) (mc := 2) rfl rfl rfl obX10_eveningBuyerOf_8 ?_
  dsimp only [bX10_eveningBuyerOf_8, ↓wpb, ↓wp1, ↓vI, ↓vL, ↓vD, ↓ldI, ↓ldL, ↓ldD, ↓ldR, ↓k1, ↓k2, ↓kI, ↓kL, ↓kD, ↓kII, ↓kLL, ↓kDD, ↓kR, ↓kIR, ↓kLR, ↓kIIR, ↓kLIR, ↓kDIR, ↓kRIR, ↓kNN, ↓kE, ↓br, ↓bn, ↓rtI, ↓gfv, ↓zchk, lput, ldel, lbad, alA, acat, isRf, dom, dS, dJ, isO, aTy, aLen, elAV, elR, Nat.reduceBEq, Nat.reduceAdd, Bool.or, Bool.and, Nat.add_zero, Nat.zero_add]
  try simp only [Nat.reduceLT, Nat.reduceLeDiff, Nat.reduceEqDiff, true_and, and_true, and_self, Nat.zero_le, Nat.le_refl, true_or, or_true, Bool.false_eq_true, not_false_eq_true, Nat.reduceAdd, Nat.lt_add_one, Nat.zero_lt_one, nI_add, pk_mul, ixL, vpL, ne_eq, reduceIte, wI_sN, wL_sM, sN_same, sN_K, sN_2, sM_1, sM_same, sM_K, sM_s, uI_at, uN_at, enc_at, uI_enc, uI_uI, upM_s, upM_n]
  refine V_callV hB hno (c_plan hc hS hV hn) rfl (by decide +kernel) cvX10_245 (dom1 rfl) npX4_plan ⟨by decide, by decide⟩ (Nat.le_of_ble_eq_true rfl) (by decide) ?_ ?_
  rotate_left
  · intro E τ' hq; cases hq.1
  intro v t1 hq
  obtain ⟨e, hm, hY⟩ := hq
  cases e
  show V x t1 1 20 _ [aI (nI (bR a (a 4) 0))]
  have hS1 := hS.ev hm
  obtain ⟨hp, rp⟩ := hS.2.2.2.1 i (by omega)
  have f0 := (hS1.2.2.2.2.2 i hi).1.1
  rw [hid] at f0
  refine V_run hB (rt := some .int) (nL := 4) (mc := 2) rfl rfl rfl obX10_eveningBuyerOf_20 ?_
  dsimp only [bX10_eveningBuyerOf_20, ↓wpb, ↓wp1, ↓vI, ↓vL, ↓vD, ↓ldI, ↓ldL, ↓ldD, ↓ldR, ↓k1, ↓k2, ↓kI, ↓kL, ↓kD, ↓kII, ↓kLL, ↓kDD, ↓kR, ↓kIR, ↓kLR, ↓kIIR, ↓kLIR, ↓kDIR, ↓kRIR, ↓kNN, ↓kE, ↓br, ↓bn, ↓rtI, ↓gfv, ↓zchk, lput, ldel, lbad, alA, acat, isRf, dom, dS, dJ, isO, aTy, aLen, elAV, elR, Nat.reduceBEq, Nat.reduceAdd, Bool.or, Bool.and, Nat.add_zero, Nat.zero_add]
  try simp only [Nat.reduceLT, Nat.reduceLeDiff, Nat.reduceEqDiff, true_and, and_true, and_self, Nat.zero_le, Nat.le_refl, true_or, or_true, Bool.false_eq_true, not_false_eq_true, Nat.reduceAdd, Nat.lt_add_one, Nat.zero_lt_one, nI_add, pk_mul, ixL, vpL, ne_eq, reduceIte, wI_sN, wL_sM, sN_same, sN_K, sN_2, sM_1, sM_same, sM_K, sM_s, uI_at, uN_at, enc_at, uI_enc, uI_uI, upM_s, upM_n, hp, f0]
  refine V_cV hB hno (c_indexOf hc hS1 h10 t) rfl (by decide +kernel) cvX10_248 (dom1 rfl) npX9_indexOf ⟨by decide, by decide⟩ (Nat.le_of_ble_eq_true rfl) (n' := 1) (by decide) rfl ?_
  rw [hf, oI_some]
  refine V_cV hB hno (c_buyerAt hc hY h10 hi) rfl (by decide +kernel) cvX10_251 (dom1 rfl) npX4_buyerAt ⟨by decide, by decide⟩ (Nat.le_of_ble_eq_true rfl) (n' := 1) (by decide) rfl ?_
  cases hg : gk a i with
  | none =>
    have e : sEvB a (some i) = (1, 0) := by show (match gk a i with | none => _ | some y => _) = _; rw [hg]
    rw [e] at hB
    refine V_run hB (rt := some .int) (nL := 4) (mc := 2) rfl rfl rfl obX10_eveningBuyerOf_39 ?_
    dsimp only [bX10_eveningBuyerOf_39, ↓wpb, ↓wp1, ↓vI, ↓vL, ↓vD, ↓ldI, ↓ldL, ↓ldD, ↓ldR, ↓k1, ↓k2, ↓kI, ↓kL, ↓kD, ↓kII, ↓kLL, ↓kDD, ↓kR, ↓kIR, ↓kLR, ↓kIIR, ↓kLIR, ↓kDIR, ↓kRIR, ↓kNN, ↓kE, ↓br, ↓bn, ↓rtI, ↓gfv, ↓zchk, lput, ldel, lbad, alA, acat, isRf, dom, dS, dJ, isO, aTy, aLen, elAV, elR, Nat.reduceBEq, Nat.reduceAdd, Bool.or, Bool.and, Nat.add_zero, Nat.zero_add]
    try simp only [Nat.reduceLT, Nat.reduceLeDiff, Nat.reduceEqDiff, true_and, and_true, and_self, Nat.zero_le, Nat.le_refl, true_or, or_true, Bool.false_eq_true, not_false_eq_true, Nat.reduceAdd, Nat.lt_add_one, Nat.zero_lt_one, nI_add, pk_mul, ixL, vpL, ne_eq, reduceIte, wI_sN, wL_sM, sN_same, sN_K, sN_2, sM_1, sM_same, sM_K, sM_s, uI_at, uN_at, enc_at, uI_enc, uI_uI, upM_s, upM_n]
    refine ⟨fun q => absurd rfl q, fun _ => ?_⟩
    refine V_throw hB hno thX10_254_173 ⟨by decide +kernel, by decide +kernel, by decide +kernel, by decide +kernel, by decide +kernel⟩ (by decide) (Nat.le_of_ble_eq_true rfl) ?_
    exact ⟨rfl, hm⟩
  | some y =>
    have hy5 := gk_lt hg
    have e : sEvB a (some i) = (0, y) := by show (match gk a i with | none => _ | some y => _) = _; rw [hg]
    rw [e] at hB
    rw [oI_some]
    refine V_run hB (rt := some .int) (nL := 4) (mc := 2) rfl rfl rfl obX10_eveningBuyerOf_39 ?_
    dsimp only [bX10_eveningBuyerOf_39, ↓wpb, ↓wp1, ↓vI, ↓vL, ↓vD, ↓ldI, ↓ldL, ↓ldD, ↓ldR, ↓k1, ↓k2, ↓kI, ↓kL, ↓kD, ↓kII, ↓kLL, ↓kDD, ↓kR, ↓kIR, ↓kLR, ↓kIIR, ↓kLIR, ↓kDIR, ↓kRIR, ↓kNN, ↓kE, ↓br, ↓bn, ↓rtI, ↓gfv, ↓zchk, lput, ldel, lbad, alA, acat, isRf, dom, dS, dJ, isO, aTy, aLen, elAV, elR, Nat.reduceBEq, Nat.reduceAdd, Bool.or, Bool.and, Nat.add_zero, Nat.zero_add]
    try simp only [Nat.reduceLT, Nat.reduceLeDiff, Nat.reduceEqDiff, true_and, and_true, and_self, Nat.zero_le, Nat.le_refl, true_or, or_true, Bool.false_eq_true, not_false_eq_true, Nat.reduceAdd, Nat.lt_add_one, Nat.zero_lt_one, nI_add, pk_mul, ixL, vpL, ne_eq, reduceIte, wI_sN, wL_sM, sN_same, sN_K, sN_2, sM_1, sM_same, sM_K, sM_s, uI_at, uN_at, enc_at, uI_enc, uI_uI, upM_s, upM_n]
    refine ⟨fun _ => ?_, fun q => absurd q (nI_n1 (by omega))⟩
    refine V_run hB (rt := some .int) (nL := 4) (mc := 2) rfl rfl rfl obX10_eveningBuyerOf_55 ?_
    dsimp only [bX10_eveningBuyerOf_55, ↓wpb, ↓wp1, ↓vI, ↓vL, ↓vD, ↓ldI, ↓ldL, ↓ldD, ↓ldR, ↓k1, ↓k2, ↓kI, ↓kL, ↓kD, ↓kII, ↓kLL, ↓kDD, ↓kR, ↓kIR, ↓kLR, ↓kIIR, ↓kLIR, ↓kDIR, ↓kRIR, ↓kNN, ↓kE, ↓br, ↓bn, ↓rtI, ↓gfv, ↓zchk, lput, ldel, lbad, alA, acat, isRf, dom, dS, dJ, isO, aTy, aLen, elAV, elR, Nat.reduceBEq, Nat.reduceAdd, Bool.or, Bool.and, Nat.add_zero, Nat.zero_add]
    try simp only [Nat.reduceLT, Nat.reduceLeDiff, Nat.reduceEqDiff, true_and, and_true, and_self, Nat.zero_le, Nat.le_refl, true_or, or_true, Bool.false_eq_true, not_false_eq_true, Nat.reduceAdd, Nat.lt_add_one, Nat.zero_lt_one, nI_add, pk_mul, ixL, vpL, ne_eq, reduceIte, wI_sN, wL_sM, sN_same, sN_K, sN_2, sM_1, sM_same, sM_K, sM_s, uI_at, uN_at, enc_at, uI_enc, uI_uI, upM_s, upM_n]
    exact ⟨rfl, hm⟩
def purP (p q : Int32) (τ : Mem) : AOut → Mem → Prop := fun o τ' => o = (if inR p 0 5 = true ∧ inR q 0 9999 = true then .inl none else .inr IAE) ∧ τ' = τ
theorem x_purse (hc : Ctx l G) (τ : Mem) (p q : Int32) : Sat l G iX10_checkPurse [aI p, aI q] τ (purP p q τ) := by
  have hz0 := inR_0 (p := p) (h := 5) (by omega)
  have hz1 := inR_1 (p := q) (lo := 0) (h := 9999)
  refine Sat_of hc.1 hc.2 (by decide +kernel) (Nat.le_of_ble_eq_true rfl) (fun x hB hno => ?_)
  have e21 : ¬ (inR p 0 5 = true ∧ inR q 0 9999 = true) → V x τ 0 21 [(0, aI p), (1, aI q)] [] := by
    intro hq
    refine V_throw hB hno thX10_201_109 ⟨by decide +kernel, by decide +kernel, by decide +kernel, by decide +kernel, by decide +kernel⟩ (by decide) (Nat.le_of_ble_eq_true rfl) ?_
    unfold purP
    rw [if_neg hq]
    exact ⟨rfl, rfl⟩
  refine V_run hB (rt := none) (nL := 2) (mc := 1) rfl rfl rfl (ops := [(0, .iload_n 0, 1, (0, 0, 0, 0, 0, 0), 0), (1, .ifCond .lt 20, 3, (21, 0, 0, 0, 0, 0), 0), (4, .iload_n 0, 1, (0, 0, 0, 0, 0, 0), 0), (5, .bipush 6, 2, (0, 0, 0, 0, 0, 0), nI 6), (7, .if_icmp .ge 14, 3, (21, 0, 0, 0, 0, 0), 0), (10, .iload_n 1, 1, (1, 0, 0, 0, 0, 0), 0), (11, .ifCond .lt 10, 3, (21, 0, 0, 0, 0, 0), 0), (14, .iload_n 1, 1, (1, 0, 0, 0, 0, 0), 0), (15, .sipush 9999, 3, (0, 0, 0, 0, 0, 0), nI 9999), (18, .if_icmp .le 13, 3, (31, 0, 0, 0, 0, 0), 0)]) (by decide +kernel) ?_
  dsimp only [↓wpb, ↓wp1, ↓vI, ↓vL, ↓vD, ↓ldI, ↓ldL, ↓ldD, ↓ldR, ↓k1, ↓k2, ↓kI, ↓kL, ↓kD, ↓kII, ↓kLL, ↓kDD, ↓kR, ↓kIR, ↓kLR, ↓kIIR, ↓kLIR, ↓kDIR, ↓kRIR, ↓kNN, ↓kE, ↓br, ↓bn, ↓rtI, ↓gfv, ↓zchk, lput, ldel, lbad, alA, acat, isRf, dom, dS, dJ, isO, aTy, aLen, elAV, elR, Nat.reduceBEq, Nat.reduceAdd, Bool.or, Bool.and, Nat.add_zero, Nat.zero_add]
  try simp only [Nat.reduceLT, Nat.reduceLeDiff, Nat.reduceEqDiff, true_and, and_true, and_self, Nat.zero_le, Nat.le_refl, true_or, or_true, Bool.false_eq_true, not_false_eq_true, Nat.reduceAdd, Nat.lt_add_one, Nat.zero_lt_one, nI_add, pk_mul, ixL, vpL, ne_eq, reduceIte, wI_sN, wL_sM, sN_same, sN_K, sN_2, sM_1, sM_same, sM_K, sM_s, uI_at, uN_at, enc_at, uI_enc, uI_uI, upM_s, upM_n]
  refine ⟨fun q => e21 (fun z => (hz0.mp z.1).1 q), fun q1 => ⟨fun q => e21 (fun z => (hz0.mp z.1).2 q), fun q2 => ⟨fun q => e21 (fun z => (hz1.mp z.2).1 q), fun q3 => ⟨fun q4 => ?_, fun q => e21 (fun z => q (hz1.mp z.2).2)⟩⟩⟩⟩
  refine V_run hB (rt := none) (nL := 2) (mc := 1) rfl rfl rfl obX10_checkPurse_31 ?_
  dsimp only [bX10_checkPurse_31, ↓wpb, ↓wp1, ↓vI, ↓vL, ↓vD, ↓ldI, ↓ldL, ↓ldD, ↓ldR, ↓k1, ↓k2, ↓kI, ↓kL, ↓kD, ↓kII, ↓kLL, ↓kDD, ↓kR, ↓kIR, ↓kLR, ↓kIIR, ↓kLIR, ↓kDIR, ↓kRIR, ↓kNN, ↓kE, ↓br, ↓bn, ↓rtI, ↓gfv, ↓zchk, lput, ldel, lbad, alA, acat, isRf, dom, dS, dJ, isO, aTy, aLen, elAV, elR, Nat.reduceBEq, Nat.reduceAdd, Bool.or, Bool.and, Nat.add_zero, Nat.zero_add]
  try simp only [Nat.reduceLT, Nat.reduceLeDiff, Nat.reduceEqDiff, true_and, and_true, and_self, Nat.zero_le, Nat.le_refl, true_or, or_true, Bool.false_eq_true, not_false_eq_true, Nat.reduceAdd, Nat.lt_add_one, Nat.zero_lt_one, nI_add, pk_mul, ixL, vpL, ne_eq, reduceIte, wI_sN, wL_sM, sN_same, sN_K, sN_2, sM_1, sM_same, sM_K, sM_s, uI_at, uN_at, enc_at, uI_enc, uI_uI, upM_s, upM_n]
  unfold purP
  rw [if_pos ⟨hz0.mpr ⟨q1, q2⟩, hz1.mpr ⟨q3, q4⟩⟩]
  exact ⟨rfl, rfl⟩
theorem x_mostMinutes (hc : Ctx l G) (hS : ShP τ 0 a π) (hV : IV n a) (hn : n ≤ 1000) (p q : Int32) : Sat l G iX10_mostMinutes [moM, aI p, aI q] τ (RdC [IAE] reN τ (sMos a p q)) := by
  have h10 := hV.1.1
  refine Sat_of hc.1 hc.2 (by decide +kernel) (Nat.le_of_ble_eq_true rfl) (fun x hB hno => ?_)
  refine V_run hB (rt := some .int) (nL := 3) (mc := 1) rfl rfl rfl obX10_mostMinutes_0 ?_
  dsimp only [bX10_mostMinutes_0, ↓wpb, ↓wp1, ↓vI, ↓vL, ↓vD, ↓ldI, ↓ldL, ↓ldD, ↓ldR, ↓k1, ↓k2, ↓kI, ↓kL, ↓kD, ↓kII, ↓kLL, ↓kDD, ↓kR, ↓kIR, ↓kLR, ↓kIIR, ↓kLIR, ↓kDIR, ↓kRIR, ↓kNN, ↓kE, ↓br, ↓bn, ↓rtI, ↓gfv, ↓zchk, lput, ldel, lbad, alA, acat, isRf, dom, dS, dJ, isO, aTy, aLen, elAV, elR, Nat.reduceBEq, Nat.reduceAdd, Bool.or, Bool.and, Nat.add_zero, Nat.zero_add]
  try simp only [Nat.reduceLT, Nat.reduceLeDiff, Nat.reduceEqDiff, true_and, and_true, and_self, Nat.zero_le, Nat.le_refl, true_or, or_true, Bool.false_eq_true, not_false_eq_true, Nat.reduceAdd, Nat.lt_add_one, Nat.zero_lt_one, nI_add, pk_mul, ixL, vpL, ne_eq, reduceIte, wI_sN, wL_sM, sN_same, sN_K, sN_2, sM_1, sM_same, sM_K, sM_s, uI_at, uN_at, enc_at, uI_enc, uI_uI, upM_s, upM_n]
  refine V_callS hB hno (x_purse hc τ p q) rfl (by decide +kernel) csX10_187 npX10_checkPurse ⟨by decide, by decide⟩ (Nat.le_of_ble_eq_true rfl) (by decide) ?_ ?_
  rotate_left
  · intro E τ' hq
    obtain ⟨e, rfl⟩ := hq
    by_cases hr : inR p 0 5 = true ∧ inR q 0 9999 = true
    · rw [if_pos hr] at e; cases e
    · rw [if_neg hr] at e
      cases e
      have e : sMos a p q = (1, 0) := if_neg hr
      rw [e]
      exact ⟨rfl, Same.refl _ _⟩
  intro v τ' hq
  obtain ⟨e, rfl⟩ := hq
  by_cases hr : inR p 0 5 = true ∧ inR q 0 9999 = true
  rotate_left
  · rw [if_neg hr] at e; cases e
  rw [if_pos hr] at e
  cases e
  obtain ⟨C, rfl, -, C2⟩ := inR_N hr.2 (by omega) (by omega)
  have e : sMos a p (nI C) = (0, moU a p C (2 ^ a 4)) := by unfold sMos; rw [if_pos hr, ixL (by omega)]
  rw [e] at hB
  show V x τ' 1 5 _ []
  refine V_run hB (rt := some .int) (nL := 3) (mc := 1) rfl rfl rfl obX10_mostMinutes_5 ?_
  dsimp only [bX10_mostMinutes_5, ↓wpb, ↓wp1, ↓vI, ↓vL, ↓vD, ↓ldI, ↓ldL, ↓ldD, ↓ldR, ↓k1, ↓k2, ↓kI, ↓kL, ↓kD, ↓kII, ↓kLL, ↓kDD, ↓kR, ↓kIR, ↓kLR, ↓kIIR, ↓kLIR, ↓kDIR, ↓kRIR, ↓kNN, ↓kE, ↓br, ↓bn, ↓rtI, ↓gfv, ↓zchk, lput, ldel, lbad, alA, acat, isRf, dom, dS, dJ, isO, aTy, aLen, elAV, elR, Nat.reduceBEq, Nat.reduceAdd, Bool.or, Bool.and, Nat.add_zero, Nat.zero_add]
  try simp only [Nat.reduceLT, Nat.reduceLeDiff, Nat.reduceEqDiff, true_and, and_true, and_self, Nat.zero_le, Nat.le_refl, true_or, or_true, Bool.false_eq_true, not_false_eq_true, Nat.reduceAdd, Nat.lt_add_one, Nat.zero_lt_one, nI_add, pk_mul, ixL, vpL, ne_eq, reduceIte, wI_sN, wL_sM, sN_same, sN_K, sN_2, sM_1, sM_same, sM_K, sM_s, uI_at, uN_at, enc_at, uI_enc, uI_uI, upM_s, upM_n]
  refine V_callV hB hno (c_collect hc hS hV hn p) rfl (by decide +kernel) cvX10_191 (dom1 rfl) npX8_collect ⟨by decide, by decide⟩ (Nat.le_of_ble_eq_true rfl) (by decide) ?_ ?_
  rotate_left
  · intro E τ' hq; cases hq.1
  intro v t1 hq
  obtain ⟨e, ⟨D, M, hT⟩, hm1⟩ := hq
  cases e
  show V x t1 1 17 _ []
  refine V_run hB (rt := some .int) (nL := 3) (mc := 1) rfl rfl rfl obX10_mostMinutes_17 ?_
  dsimp only [bX10_mostMinutes_17, ↓wpb, ↓wp1, ↓vI, ↓vL, ↓vD, ↓ldI, ↓ldL, ↓ldD, ↓ldR, ↓k1, ↓k2, ↓kI, ↓kL, ↓kD, ↓kII, ↓kLL, ↓kDD, ↓kR, ↓kIR, ↓kLR, ↓kIIR, ↓kLIR, ↓kDIR, ↓kRIR, ↓kNN, ↓kE, ↓br, ↓bn, ↓rtI, ↓gfv, ↓zchk, lput, ldel, lbad, alA, acat, isRf, dom, dS, dJ, isO, aTy, aLen, elAV, elR, Nat.reduceBEq, Nat.reduceAdd, Bool.or, Bool.and, Nat.add_zero, Nat.zero_add]
  try simp only [Nat.reduceLT, Nat.reduceLeDiff, Nat.reduceEqDiff, true_and, and_true, and_self, Nat.zero_le, Nat.le_refl, true_or, or_true, Bool.false_eq_true, not_false_eq_true, Nat.reduceAdd, Nat.lt_add_one, Nat.zero_lt_one, nI_add, pk_mul, ixL, vpL, ne_eq, reduceIte, wI_sN, wL_sM, sN_same, sN_K, sN_2, sM_1, sM_same, sM_K, sM_s, uI_at, uN_at, enc_at, uI_enc, uI_uI, upM_s, upM_n]
  refine V_callV hB hno (c_mostSets hc hT h10 C2) rfl (by decide +kernel) cvX10_195 (dom1 rfl) npX8_mostBySets ⟨by decide, by decide⟩ (Nat.le_of_ble_eq_true rfl) (by decide) ?_ ?_
  rotate_left
  · intro E τ' hq; cases hq.1
  intro v t2 hq
  obtain ⟨e, hm2⟩ := hq
  cases e
  show V x t2 1 25 _ [aI (nI (moU a p C (2 ^ a 4)))]
  refine V_run hB (rt := some .int) (nL := 3) (mc := 1) rfl rfl rfl obX10_mostMinutes_25 ?_
  dsimp only [bX10_mostMinutes_25, ↓wpb, ↓wp1, ↓vI, ↓vL, ↓vD, ↓ldI, ↓ldL, ↓ldD, ↓ldR, ↓k1, ↓k2, ↓kI, ↓kL, ↓kD, ↓kII, ↓kLL, ↓kDD, ↓kR, ↓kIR, ↓kLR, ↓kIIR, ↓kLIR, ↓kDIR, ↓kRIR, ↓kNN, ↓kE, ↓br, ↓bn, ↓rtI, ↓gfv, ↓zchk, lput, ldel, lbad, alA, acat, isRf, dom, dS, dJ, isO, aTy, aLen, elAV, elR, Nat.reduceBEq, Nat.reduceAdd, Bool.or, Bool.and, Nat.add_zero, Nat.zero_add]
  try simp only [Nat.reduceLT, Nat.reduceLeDiff, Nat.reduceEqDiff, true_and, and_true, and_self, Nat.zero_le, Nat.le_refl, true_or, or_true, Bool.false_eq_true, not_false_eq_true, Nat.reduceAdd, Nat.lt_add_one, Nat.zero_lt_one, nI_add, pk_mul, ixL, vpL, ne_eq, reduceIte, wI_sN, wL_sM, sN_same, sN_K, sN_2, sM_1, sM_same, sM_K, sM_s, uI_at, uN_at, enc_at, uI_enc, uI_uI, upM_s, upM_n]
  exact ⟨rfl, hm1.trans hm2⟩
theorem x_mostMinutesByTable (hc : Ctx l G) (hS : ShP τ 0 a π) (hV : IV n a) (hn : n ≤ 1000) (p q : Int32) : Sat l G iX10_mostMinutesByTable [moM, aI p, aI q] τ (RdC [IAE] reN τ (sMos a p q)) := by
  have h10 := hV.1.1
  refine Sat_of hc.1 hc.2 (by decide +kernel) (Nat.le_of_ble_eq_true rfl) (fun x hB hno => ?_)
  refine V_run hB (rt := some .int) (nL := 3) (mc := 1) rfl rfl rfl obX10_mostMinutesByTable_0 ?_
  dsimp only [bX10_mostMinutesByTable_0, ↓wpb, ↓wp1, ↓vI, ↓vL, ↓vD, ↓ldI, ↓ldL, ↓ldD, ↓ldR, ↓k1, ↓k2, ↓kI, ↓kL, ↓kD, ↓kII, ↓kLL, ↓kDD, ↓kR, ↓kIR, ↓kLR, ↓kIIR, ↓kLIR, ↓kDIR, ↓kRIR, ↓kNN, ↓kE, ↓br, ↓bn, ↓rtI, ↓gfv, ↓zchk, lput, ldel, lbad, alA, acat, isRf, dom, dS, dJ, isO, aTy, aLen, elAV, elR, Nat.reduceBEq, Nat.reduceAdd, Bool.or, Bool.and, Nat.add_zero, Nat.zero_add]
  try simp only [Nat.reduceLT, Nat.reduceLeDiff, Nat.reduceEqDiff, true_and, and_true, and_self, Nat.zero_le, Nat.le_refl, true_or, or_true, Bool.false_eq_true, not_false_eq_true, Nat.reduceAdd, Nat.lt_add_one, Nat.zero_lt_one, nI_add, pk_mul, ixL, vpL, ne_eq, reduceIte, wI_sN, wL_sM, sN_same, sN_K, sN_2, sM_1, sM_same, sM_K, sM_s, uI_at, uN_at, enc_at, uI_enc, uI_uI, upM_s, upM_n]
  refine V_callS hB hno (x_purse hc τ p q) rfl (by decide +kernel) csX10_187 npX10_checkPurse ⟨by decide, by decide⟩ (Nat.le_of_ble_eq_true rfl) (by decide) ?_ ?_
  rotate_left
  · intro E τ' hq
    obtain ⟨e, rfl⟩ := hq
    by_cases hr : inR p 0 5 = true ∧ inR q 0 9999 = true
    · rw [if_pos hr] at e; cases e
    · rw [if_neg hr] at e
      cases e
      have e : sMos a p q = (1, 0) := if_neg hr
      rw [e]
      exact ⟨rfl, Same.refl _ _⟩
  intro v τ' hq
  obtain ⟨e, rfl⟩ := hq
  by_cases hr : inR p 0 5 = true ∧ inR q 0 9999 = true
  rotate_left
  · rw [if_neg hr] at e; cases e
  rw [if_pos hr] at e
  cases e
  obtain ⟨C, rfl, -, C2⟩ := inR_N hr.2 (by omega) (by omega)
  have e : sMos a p (nI C) = (0, moU a p C (2 ^ a 4)) := by unfold sMos; rw [if_pos hr, ixL (by omega)]
  rw [e] at hB
  show V x τ' 1 5 _ []
  refine V_run hB (rt := some .int) (nL := 3) (mc := 1) rfl rfl rfl obX10_mostMinutesByTable_5 ?_
  dsimp only [bX10_mostMinutesByTable_5, ↓wpb, ↓wp1, ↓vI, ↓vL, ↓vD, ↓ldI, ↓ldL, ↓ldD, ↓ldR, ↓k1, ↓k2, ↓kI, ↓kL, ↓kD, ↓kII, ↓kLL, ↓kDD, ↓kR, ↓kIR, ↓kLR, ↓kIIR, ↓kLIR, ↓kDIR, ↓kRIR, ↓kNN, ↓kE, ↓br, ↓bn, ↓rtI, ↓gfv, ↓zchk, lput, ldel, lbad, alA, acat, isRf, dom, dS, dJ, isO, aTy, aLen, elAV, elR, Nat.reduceBEq, Nat.reduceAdd, Bool.or, Bool.and, Nat.add_zero, Nat.zero_add]
  try simp only [Nat.reduceLT, Nat.reduceLeDiff, Nat.reduceEqDiff, true_and, and_true, and_self, Nat.zero_le, Nat.le_refl, true_or, or_true, Bool.false_eq_true, not_false_eq_true, Nat.reduceAdd, Nat.lt_add_one, Nat.zero_lt_one, nI_add, pk_mul, ixL, vpL, ne_eq, reduceIte, wI_sN, wL_sM, sN_same, sN_K, sN_2, sM_1, sM_same, sM_K, sM_s, uI_at, uN_at, enc_at, uI_enc, uI_uI, upM_s, upM_n]
  refine V_callV hB hno (c_collect hc hS hV hn p) rfl (by decide +kernel) cvX10_191 (dom1 rfl) npX8_collect ⟨by decide, by decide⟩ (Nat.le_of_ble_eq_true rfl) (by decide) ?_ ?_
  rotate_left
  · intro E τ' hq; cases hq.1
  intro v t1 hq
  obtain ⟨e, ⟨D, M, hT⟩, hm1⟩ := hq
  cases e
  show V x t1 1 17 _ []
  refine V_run hB (rt := some .int) (nL := 3) (mc := 1) rfl rfl rfl obX10_mostMinutesByTable_17 ?_
  dsimp only [bX10_mostMinutesByTable_17, ↓wpb, ↓wp1, ↓vI, ↓vL, ↓vD, ↓ldI, ↓ldL, ↓ldD, ↓ldR, ↓k1, ↓k2, ↓kI, ↓kL, ↓kD, ↓kII, ↓kLL, ↓kDD, ↓kR, ↓kIR, ↓kLR, ↓kIIR, ↓kLIR, ↓kDIR, ↓kRIR, ↓kNN, ↓kE, ↓br, ↓bn, ↓rtI, ↓gfv, ↓zchk, lput, ldel, lbad, alA, acat, isRf, dom, dS, dJ, isO, aTy, aLen, elAV, elR, Nat.reduceBEq, Nat.reduceAdd, Bool.or, Bool.and, Nat.add_zero, Nat.zero_add]
  try simp only [Nat.reduceLT, Nat.reduceLeDiff, Nat.reduceEqDiff, true_and, and_true, and_self, Nat.zero_le, Nat.le_refl, true_or, or_true, Bool.false_eq_true, not_false_eq_true, Nat.reduceAdd, Nat.lt_add_one, Nat.zero_lt_one, nI_add, pk_mul, ixL, vpL, ne_eq, reduceIte, wI_sN, wL_sM, sN_same, sN_K, sN_2, sM_1, sM_same, sM_K, sM_s, uI_at, uN_at, enc_at, uI_enc, uI_uI, upM_s, upM_n]
  refine V_callV hB hno (c_mostTable hc hT h10 C2) rfl (by decide +kernel) cvX10_198 (dom1 rfl) npX8_mostByTable ⟨by decide, by decide⟩ (Nat.le_of_ble_eq_true rfl) (by decide) ?_ ?_
  rotate_left
  · intro E τ' hq; cases hq.1
  intro v t2 hq
  obtain ⟨e, hm2⟩ := hq
  cases e
  show V x t2 1 25 _ [aI (nI (moU a p C (2 ^ a 4)))]
  refine V_run hB (rt := some .int) (nL := 3) (mc := 1) rfl rfl rfl obX10_mostMinutesByTable_25 ?_
  dsimp only [bX10_mostMinutesByTable_25, ↓wpb, ↓wp1, ↓vI, ↓vL, ↓vD, ↓ldI, ↓ldL, ↓ldD, ↓ldR, ↓k1, ↓k2, ↓kI, ↓kL, ↓kD, ↓kII, ↓kLL, ↓kDD, ↓kR, ↓kIR, ↓kLR, ↓kIIR, ↓kLIR, ↓kDIR, ↓kRIR, ↓kNN, ↓kE, ↓br, ↓bn, ↓rtI, ↓gfv, ↓zchk, lput, ldel, lbad, alA, acat, isRf, dom, dS, dJ, isO, aTy, aLen, elAV, elR, Nat.reduceBEq, Nat.reduceAdd, Bool.or, Bool.and, Nat.add_zero, Nat.zero_add]
  try simp only [Nat.reduceLT, Nat.reduceLeDiff, Nat.reduceEqDiff, true_and, and_true, and_self, Nat.zero_le, Nat.le_refl, true_or, or_true, Bool.false_eq_true, not_false_eq_true, Nat.reduceAdd, Nat.lt_add_one, Nat.zero_lt_one, nI_add, pk_mul, ixL, vpL, ne_eq, reduceIte, wI_sN, wL_sM, sN_same, sN_K, sN_2, sM_1, sM_same, sM_K, sM_s, uI_at, uN_at, enc_at, uI_enc, uI_uI, upM_s, upM_n]
  exact ⟨rfl, hm1.trans hm2⟩
theorem x_debtOf (hc : Ctx l G) (hS : ShP τ 0 a π) (hV : IV n a) (hn : n ≤ 1000) (p : Int32) : Sat l G iX10_debtOf [moM, aI p] τ (RdC [IAE] reN τ (sDOf a p)) := by
  have h10 := hV.1.1
  have hz := inR_0 (p := p) (h := 5) (by omega)
  refine Sat_of hc.1 hc.2 (by decide +kernel) (Nat.le_of_ble_eq_true rfl) (fun x hB hno => ?_)
  have e10 : ¬ inR p 0 5 = true → V x τ 0 10 [(0, moM), (1, aI p)] [] := by
    intro hq
    have e : sDOf a p = (1, dcU a p (a 4)) := by unfold sDOf; rw [if_neg hq]
    rw [e] at hB
    refine V_throw hB hno thX10_203_109 ⟨by decide +kernel, by decide +kernel, by decide +kernel, by decide +kernel, by decide +kernel⟩ (by decide) (Nat.le_of_ble_eq_true rfl) ?_
    exact ⟨rfl, Same.refl _ _⟩
  refine V_run hB (rt := some .int) (nL := 2) (mc := 1) rfl rfl rfl (ops := [(0, .iload_n 1, 1, (1, 0, 0, 0, 0, 0), 0), (1, .ifCond .lt 9, 3, (10, 0, 0, 0, 0, 0), 0), (4, .iload_n 1, 1, (1, 0, 0, 0, 0, 0), 0), (5, .bipush 6, 2, (0, 0, 0, 0, 0, 0), nI 6), (7, .if_icmp .lt 13, 3, (20, 0, 0, 0, 0, 0), 0)]) (by decide +kernel) ?_
  dsimp only [↓wpb, ↓wp1, ↓vI, ↓vL, ↓vD, ↓ldI, ↓ldL, ↓ldD, ↓ldR, ↓k1, ↓k2, ↓kI, ↓kL, ↓kD, ↓kII, ↓kLL, ↓kDD, ↓kR, ↓kIR, ↓kLR, ↓kIIR, ↓kLIR, ↓kDIR, ↓kRIR, ↓kNN, ↓kE, ↓br, ↓bn, ↓rtI, ↓gfv, ↓zchk, lput, ldel, lbad, alA, acat, isRf, dom, dS, dJ, isO, aTy, aLen, elAV, elR, Nat.reduceBEq, Nat.reduceAdd, Bool.or, Bool.and, Nat.add_zero, Nat.zero_add]
  try simp only [Nat.reduceLT, Nat.reduceLeDiff, Nat.reduceEqDiff, true_and, and_true, and_self, Nat.zero_le, Nat.le_refl, true_or, or_true, Bool.false_eq_true, not_false_eq_true, Nat.reduceAdd, Nat.lt_add_one, Nat.zero_lt_one, nI_add, pk_mul, ixL, vpL, ne_eq, reduceIte, wI_sN, wL_sM, sN_same, sN_K, sN_2, sM_1, sM_same, sM_K, sM_s, uI_at, uN_at, enc_at, uI_enc, uI_uI, upM_s, upM_n]
  refine ⟨fun q => e10 (fun z => (hz.mp z).1 q), fun q1 => ⟨fun q2 => ?_, fun q2 => e10 (fun z => (hz.mp z).2 (Int32.not_lt.mp q2))⟩⟩
  have hr := hz.mpr ⟨q1, Int32.not_le.mpr q2⟩
  have e : sDOf a p = (0, dcU a p (a 4)) := by unfold sDOf; rw [if_pos hr]
  rw [e] at hB
  refine V_run hB (rt := some .int) (nL := 2) (mc := 1) rfl rfl rfl obX10_debtOf_20 ?_
  dsimp only [bX10_debtOf_20, ↓wpb, ↓wp1, ↓vI, ↓vL, ↓vD, ↓ldI, ↓ldL, ↓ldD, ↓ldR, ↓k1, ↓k2, ↓kI, ↓kL, ↓kD, ↓kII, ↓kLL, ↓kDD, ↓kR, ↓kIR, ↓kLR, ↓kIIR, ↓kLIR, ↓kDIR, ↓kRIR, ↓kNN, ↓kE, ↓br, ↓bn, ↓rtI, ↓gfv, ↓zchk, lput, ldel, lbad, alA, acat, isRf, dom, dS, dJ, isO, aTy, aLen, elAV, elR, Nat.reduceBEq, Nat.reduceAdd, Bool.or, Bool.and, Nat.add_zero, Nat.zero_add]
  try simp only [Nat.reduceLT, Nat.reduceLeDiff, Nat.reduceEqDiff, true_and, and_true, and_self, Nat.zero_le, Nat.le_refl, true_or, or_true, Bool.false_eq_true, not_false_eq_true, Nat.reduceAdd, Nat.lt_add_one, Nat.zero_lt_one, nI_add, pk_mul, ixL, vpL, ne_eq, reduceIte, wI_sN, wL_sM, sN_same, sN_K, sN_2, sM_1, sM_same, sM_K, sM_s, uI_at, uN_at, enc_at, uI_enc, uI_uI, upM_s, upM_n]
  refine V_callV hB hno (c_collect hc hS hV hn p) rfl (by decide +kernel) cvX10_191 (dom1 rfl) npX8_collect ⟨by decide, by decide⟩ (Nat.le_of_ble_eq_true rfl) (by decide) ?_ ?_
  rotate_left
  · intro E τ' hq; cases hq.1
  intro v t1 hq
  obtain ⟨e, ⟨D, M, hT⟩, hm1⟩ := hq
  cases e
  show V x t1 0 32 _ []
  refine V_run hB (rt := some .int) (nL := 2) (mc := 1) rfl rfl rfl obX10_debtOf_32 ?_
  dsimp only [bX10_debtOf_32, ↓wpb, ↓wp1, ↓vI, ↓vL, ↓vD, ↓ldI, ↓ldL, ↓ldD, ↓ldR, ↓k1, ↓k2, ↓kI, ↓kL, ↓kD, ↓kII, ↓kLL, ↓kDD, ↓kR, ↓kIR, ↓kLR, ↓kIIR, ↓kLIR, ↓kDIR, ↓kRIR, ↓kNN, ↓kE, ↓br, ↓bn, ↓rtI, ↓gfv, ↓zchk, lput, ldel, lbad, alA, acat, isRf, dom, dS, dJ, isO, aTy, aLen, elAV, elR, Nat.reduceBEq, Nat.reduceAdd, Bool.or, Bool.and, Nat.add_zero, Nat.zero_add]
  try simp only [Nat.reduceLT, Nat.reduceLeDiff, Nat.reduceEqDiff, true_and, and_true, and_self, Nat.zero_le, Nat.le_refl, true_or, or_true, Bool.false_eq_true, not_false_eq_true, Nat.reduceAdd, Nat.lt_add_one, Nat.zero_lt_one, nI_add, pk_mul, ixL, vpL, ne_eq, reduceIte, wI_sN, wL_sM, sN_same, sN_K, sN_2, sM_1, sM_same, sM_K, sM_s, uI_at, uN_at, enc_at, uI_enc, uI_uI, upM_s, upM_n]
  refine V_cV hB hno (c_wholeDebt hc hT h10) rfl (by decide +kernel) cvX10_205 (dom1 rfl) npX8_wholeDebt ⟨by decide, by decide⟩ (Nat.le_of_ble_eq_true rfl) (n' := 0) (by decide) rfl ?_
  refine V_run hB (rt := some .int) (nL := 2) (mc := 1) rfl rfl rfl obX10_debtOf_39 ?_
  dsimp only [bX10_debtOf_39, ↓wpb, ↓wp1, ↓vI, ↓vL, ↓vD, ↓ldI, ↓ldL, ↓ldD, ↓ldR, ↓k1, ↓k2, ↓kI, ↓kL, ↓kD, ↓kII, ↓kLL, ↓kDD, ↓kR, ↓kIR, ↓kLR, ↓kIIR, ↓kLIR, ↓kDIR, ↓kRIR, ↓kNN, ↓kE, ↓br, ↓bn, ↓rtI, ↓gfv, ↓zchk, lput, ldel, lbad, alA, acat, isRf, dom, dS, dJ, isO, aTy, aLen, elAV, elR, Nat.reduceBEq, Nat.reduceAdd, Bool.or, Bool.and, Nat.add_zero, Nat.zero_add]
  try simp only [Nat.reduceLT, Nat.reduceLeDiff, Nat.reduceEqDiff, true_and, and_true, and_self, Nat.zero_le, Nat.le_refl, true_or, or_true, Bool.false_eq_true, not_false_eq_true, Nat.reduceAdd, Nat.lt_add_one, Nat.zero_lt_one, nI_add, pk_mul, ixL, vpL, ne_eq, reduceIte, wI_sN, wL_sM, sN_same, sN_K, sN_2, sM_1, sM_same, sM_K, sM_s, uI_at, uN_at, enc_at, uI_enc, uI_uI, upM_s, upM_n]
  exact ⟨rfl, hm1⟩
end A5
