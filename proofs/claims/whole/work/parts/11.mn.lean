/-! ===== programs: signs, marks, digits ===== -/
def voidP (P : Mem → Prop) : AOut → Mem → Prop := fun o τ' => o = .inl none ∧ P τ'
def intP (z : Int32) (P : Mem → Prop) : AOut → Mem → Prop := fun o τ' => o = .inl (some (aI z)) ∧ P τ'
def someP (P : Mem → Prop) : AOut → Mem → Prop := fun o τ' => (∃ z, o = .inl (some (aI z))) ∧ P τ'
/-- the sign at a place of a text, -1 behind its end -/
def sg (T : List Nat) (h : Nat) : Int32 := match T[h]? with
  | some c => nI c
  | none => -1
/-- the reference while it reads the text T: here, whether it is wrong, whether it does, its code, its row -/
def PS (τ0 : Mem) (T : List Nat) (τ : Mem) (h : Nat) (w d : Bool) (c : Nat) (a : Nat → Nat) (ρ : Rho) : Prop :=
  MW τ c (a, ρ) ∧ (τ.1 (30, 0, 0) 17 = nI h ∧ τ.1 (30, 0, 0) 18 = nI T.length ∧ τ.1 (30, 0, 0) 20 = nI (bN w) ∧ τ.1 (30, 0, 0) 21 = nI (bN d)) ∧ ltr (τ.1 (37, 0, 0)) T ∧ (T.length ≤ 60 ∧ h ≤ T.length ∧ ∀ x ∈ T, x < 128) ∧ Oth τ0 τ ∧ τ.1 (32, 0, 0) = τ0.1 (32, 0, 0)
theorem sg_lt {T : List Nat} {h c : Nat} (hT : ∀ x ∈ T, x < 128) (e : T[h]? = some c) : c < 128 := hT c (List.mem_of_getElem? e)
theorem sg_eq {T : List Nat} {h c : Nat} (hT : ∀ x ∈ T, x < 128) (hc : c < 65536) : sg T h = nI c ↔ T[h]? = some c := by
  unfold sg
  cases e : T[h]? with
  | none =>
    refine ⟨fun q => ?_, fun q => by cases q⟩
    have h4 := congrArg Int32.toInt q
    rw [nI_toInt (by omega)] at h4
    have h6 : (-1 : Int32).toInt = -1 := rfl
    simp only at h4
    omega
  | some b =>
    have hb := sg_lt hT e
    simp only
    rw [nI_eq (by omega) (by omega)]
    exact ⟨fun q => by rw [q], fun q => Option.some.inj q⟩
theorem sg_in {T : List Nat} {h : Nat} (hT : ∀ x ∈ T, x < 128) : inR (sg T h) 48 57 = true ↔ ∃ c, T[h]? = some c ∧ 48 ≤ c ∧ c ≤ 57 := by
  unfold sg
  cases e : T[h]? with
  | none =>
    refine ⟨fun q => ?_, fun ⟨c, q, _⟩ => by cases q⟩
    exact absurd q (by decide)
  | some b =>
    have hb := sg_lt hT e
    unfold inR
    simp only [decide_eq_true_eq]
    rw [nI_leI (by omega) (by omega), nI_leI (by omega) (by omega)]
    exact ⟨fun q => ⟨b, rfl, q⟩, fun ⟨c, q, q2⟩ => by cases q; exact q2⟩
theorem PS.f30 {τ0 τ : Mem} {T : List Nat} {h c : Nat} {w d : Bool} {a : Nat → Nat} {ρ : Rho} (hP : PS τ0 T τ h w d c a ρ) {F : Nat → Int32} {h' : Nat} {w' : Bool} (e17 : F 17 = nI h') (e20 : F 20 = nI (bN w')) (hF : ∀ k, k ≠ 17 → k ≠ 20 → F k = τ.1 (30, 0, 0) k) (hh : h' ≤ T.length) : PS τ0 T (sA τ 30 F) h' w' d c a ρ := by
  obtain ⟨⟨g1, g2, g3, g4, g5⟩, ⟨f17, f18, f20, f21⟩, gt, ⟨t1, t2, t3⟩, gO, g32⟩ := hP
  refine ⟨⟨?_, ?_, g3, ?_, ?_⟩, ⟨?_, ?_, ?_, ?_⟩, ?_, ⟨t1, hh, t3⟩, gO.sA _ (by decide) (by decide), ?_⟩
  · simp only [sA_same, sA_ne, ne_eq, Nat.reduceEqDiff, not_false_eq_true, not_true_eq_false]; exact g1
  · simp only [sA_same, sA_ne, ne_eq, Nat.reduceEqDiff, not_false_eq_true, not_true_eq_false]; rw [hF 0 (by decide) (by decide)]; exact g2
  · simp only [sA_same, sA_ne, ne_eq, Nat.reduceEqDiff, not_false_eq_true, not_true_eq_false]
    obtain ⟨x1, x2, x3, x4, x5, x6⟩ := g4
    exact ⟨by rw [hF 1 (by decide) (by decide)]; exact x1, by rw [hF 2 (by decide) (by decide)]; exact x2, by rw [hF 3 (by decide) (by decide)]; exact x3, by rw [hF 4 (by decide) (by decide)]; exact x4, by rw [hF 16 (by decide) (by decide)]; exact x5, by rw [hF 19 (by decide) (by decide)]; exact x6⟩
  · simp only [sA_same, sA_ne, ne_eq, Nat.reduceEqDiff, not_false_eq_true, not_true_eq_false]; exact g5
  · simp only [sA_same, sA_ne, ne_eq, Nat.reduceEqDiff, not_false_eq_true, not_true_eq_false]; exact e17
  · simp only [sA_same, sA_ne, ne_eq, Nat.reduceEqDiff, not_false_eq_true, not_true_eq_false]; rw [hF 18 (by decide) (by decide)]; exact f18
  · simp only [sA_same, sA_ne, ne_eq, Nat.reduceEqDiff, not_false_eq_true, not_true_eq_false]; exact e20
  · simp only [sA_same, sA_ne, ne_eq, Nat.reduceEqDiff, not_false_eq_true, not_true_eq_false]; rw [hF 21 (by decide) (by decide)]; exact f21
  · simp only [sA_same, sA_ne, ne_eq, Nat.reduceEqDiff, not_false_eq_true, not_true_eq_false]; exact gt
  · simp only [sA_same, sA_ne, ne_eq, Nat.reduceEqDiff, not_false_eq_true, not_true_eq_false]; exact g32
theorem PS.s39 {τ0 τ : Mem} {T : List Nat} {h c : Nat} {w d : Bool} {a : Nat → Nat} {ρ : Rho} (hP : PS τ0 T τ h w d c a ρ) (F : Nat → Int32) : PS τ0 T (sA τ 39 F) h w d c a ρ := by
  obtain ⟨⟨g1, g2, g3⟩, ⟨f17, f18, f20, f21⟩, gt, g4, gO, g32⟩ := hP
  refine ⟨⟨?_, ?_, g3.sX _ (by omega)⟩, ⟨?_, ?_, ?_, ?_⟩, ?_, g4, gO.sA _ (by decide) (by decide), ?_⟩
  · simp only [sA_same, sA_ne, ne_eq, Nat.reduceEqDiff, not_false_eq_true, not_true_eq_false]; exact g1
  · simp only [sA_same, sA_ne, ne_eq, Nat.reduceEqDiff, not_false_eq_true, not_true_eq_false]; exact g2
  · simp only [sA_same, sA_ne, ne_eq, Nat.reduceEqDiff, not_false_eq_true, not_true_eq_false]; exact f17
  · simp only [sA_same, sA_ne, ne_eq, Nat.reduceEqDiff, not_false_eq_true, not_true_eq_false]; exact f18
  · simp only [sA_same, sA_ne, ne_eq, Nat.reduceEqDiff, not_false_eq_true, not_true_eq_false]; exact f20
  · simp only [sA_same, sA_ne, ne_eq, Nat.reduceEqDiff, not_false_eq_true, not_true_eq_false]; exact f21
  · simp only [sA_same, sA_ne, ne_eq, Nat.reduceEqDiff, not_false_eq_true, not_true_eq_false]; exact gt
  · simp only [sA_same, sA_ne, ne_eq, Nat.reduceEqDiff, not_false_eq_true, not_true_eq_false]; exact g32
/-- marking the sign c -/
def mkR (T : List Nat) (h : Nat) (w : Bool) (c : Nat) : Nat × Bool := if w = true then (h, true) else if T[h]? = some c then (h + 1, false) else (h, true)
/-- digits, at most m, from h on: their number begun with n, and where they end -/
def dgt (T : List Nat) : Nat → Nat → Nat → Nat × Nat
  | 0, h, n => (n, h)
  | m + 1, h, n => match T[h]? with
    | none => (n, h)
    | some c => if 48 ≤ c ∧ c ≤ 57 then dgt T m (h + 1) (10 * n + c - 48) else (n, h)
theorem dgt_le (T : List Nat) : ∀ m h n, h ≤ T.length → h ≤ (dgt T m h n).2 ∧ (dgt T m h n).2 ≤ T.length ∧ (dgt T m h n).2 ≤ h + m
  | 0, h, n, hh => ⟨Nat.le_refl _, hh, Nat.le_refl _⟩
  | m + 1, h, n, hh => by
    unfold dgt
    cases e : T[h]? with
    | none => exact ⟨Nat.le_refl _, hh, by simp only; omega⟩
    | some c =>
      have hl := (List.getElem?_eq_some_iff.mp e).1
      simp only
      split
      · have q := dgt_le T m (h + 1) (10 * n + c - 48) (by omega)
        omega
      · exact ⟨Nat.le_refl _, hh, by simp only; omega⟩
theorem dgt_bd (T : List Nat) : ∀ m h n k, n < 10 ^ k → (dgt T m h n).1 < 10 ^ (k + m)
  | 0, h, n, k, hh => hh
  | m + 1, h, n, k, hh => by
    have hp : 10 ^ k ≤ 10 ^ (k + (m + 1)) := Nat.pow_le_pow_right (by omega) (by omega)
    unfold dgt
    cases e : T[h]? with
    | none => simp only; omega
    | some c =>
      simp only
      split
      · have q := dgt_bd T m (h + 1) (10 * n + c - 48) (k + 1) (by rw [Nat.pow_succ]; omega)
        rw [show k + 1 + m = k + (m + 1) by omega] at q
        exact q
      · simp only; omega
/-- a number of at most m digits: whether it is wanting, what it is, where it ends -/
def dgR (T : List Nat) (m h : Nat) : Bool × Nat × Nat := ((dgt T m h 0).2 == h, (dgt T m h 0).1, (dgt T m h 0).2)
def bhR (T : List Nat) (m h : Nat) : Bool × Nat × Nat := if T[h]? = some 32 then dgR T m (h + 1) else (true, 0, h)
section MN
variable {l : Launch} {G : GG} {τ0 τ : Mem} {T : List Nat} {h c : Nat} {d : Bool} {a : Nat → Nat} {ρ : Rho}
theorem q_sign (hc : Ctx l G) {w : Bool} (hP : PS τ0 T τ h w d c a ρ) : Sat l G iX11_sign [mM] τ (retI (sg T h) τ) := by
  obtain ⟨-, ⟨f17, f18, f20, f21⟩, gt, ⟨t1, t2, t3⟩, -, -⟩ := hP
  refine Sat_of hc.1 hc.2 (by decide +kernel) (Nat.le_of_ble_eq_true rfl) (fun x hB hno => ?_)
  refine V_run hB (rt := some .int) (nL := 1) (mc := 0) rfl rfl rfl obX11_sign_0 ?_
  dsimp only [bX11_sign_0, ↓wpb, ↓wp1, ↓vI, ↓vL, ↓vD, ↓ldI, ↓ldL, ↓ldD, ↓ldR, ↓k1, ↓k2, ↓kI, ↓kL, ↓kD, ↓kII, ↓kLL, ↓kDD, ↓kR, ↓kIR, ↓kLR, ↓kIIR, ↓kLIR, ↓kDIR, ↓kRIR, ↓kNN, ↓kE, ↓br, ↓bn, ↓rtI, ↓gfv, ↓zchk, lput, ldel, lbad, alA, acat, isRf, dom, dS, dJ, isO, aTy, aLen, elAV, elR, Nat.reduceBEq, Nat.reduceAdd, Bool.or, Bool.and, Nat.add_zero, Nat.zero_add]
  try simp only [Nat.reduceLT, Nat.reduceLeDiff, Nat.reduceEqDiff, true_and, and_true, and_self, Nat.zero_le, Nat.le_refl, true_or, or_true, Bool.false_eq_true, not_false_eq_true, Nat.reduceAdd, Nat.lt_add_one, Nat.zero_lt_one, nI_add, pk_mul, ixL, vpL, ne_eq, reduceIte, wI_sA, sA_same, sA_ne, sA_sA, sA_comm, uI_at, uN_at, enc_at, uI_enc, uI_uI, itn1, itn2, itn3, itn4, itc, itc0, itc1, upM_s, upM_n, f17, f18]
  cases e : T[h]? with
  | none =>
    have hl : T.length ≤ h := List.getElem?_eq_none_iff.mp e
    have es : sg T h = -1 := by unfold sg; rw [e]
    rw [es] at hB
    refine ⟨fun _ => ?_, fun q => absurd (nI_le hl (by omega)) q⟩
    refine V_run hB (rt := some .int) (nL := 1) (mc := 0) rfl rfl rfl obX11_sign_23 ?_
    dsimp only [bX11_sign_23, ↓wpb, ↓wp1, ↓vI, ↓vL, ↓vD, ↓ldI, ↓ldL, ↓ldD, ↓ldR, ↓k1, ↓k2, ↓kI, ↓kL, ↓kD, ↓kII, ↓kLL, ↓kDD, ↓kR, ↓kIR, ↓kLR, ↓kIIR, ↓kLIR, ↓kDIR, ↓kRIR, ↓kNN, ↓kE, ↓br, ↓bn, ↓rtI, ↓gfv, ↓zchk, lput, ldel, lbad, alA, acat, isRf, dom, dS, dJ, isO, aTy, aLen, elAV, elR, Nat.reduceBEq, Nat.reduceAdd, Bool.or, Bool.and, Nat.add_zero, Nat.zero_add]
    try simp only [Nat.reduceLT, Nat.reduceLeDiff, Nat.reduceEqDiff, true_and, and_true, and_self, Nat.zero_le, Nat.le_refl, true_or, or_true, Bool.false_eq_true, not_false_eq_true, Nat.reduceAdd, Nat.lt_add_one, Nat.zero_lt_one, nI_add, pk_mul, ixL, vpL, ne_eq, reduceIte, wI_sA, sA_same, sA_ne, sA_sA, sA_comm, uI_at, uN_at, enc_at, uI_enc, uI_uI, itn1, itn2, itn3, itn4, itc, itc0, itc1, upM_s, upM_n]
    exact ⟨rfl, rfl⟩
  | some b =>
    have hl : h < T.length := (List.getElem?_eq_some_iff.mp e).1
    have es : sg T h = nI b := by unfold sg; rw [e]
    have ix : (nI h).toNatClampNeg = h := ixL (by omega)
    have vx : vp_in (nI h) 60 = True := vpL (by omega) (by omega)
    rw [es] at hB
    refine ⟨fun q => absurd q (nI_ge hl (by omega)), fun _ => ?_⟩
    simp only [ix, vx, gt h b e, true_and]
    refine V_run hB (rt := some .int) (nL := 1) (mc := 0) rfl rfl rfl obX11_sign_24 ?_
    dsimp only [bX11_sign_24, ↓wpb, ↓wp1, ↓vI, ↓vL, ↓vD, ↓ldI, ↓ldL, ↓ldD, ↓ldR, ↓k1, ↓k2, ↓kI, ↓kL, ↓kD, ↓kII, ↓kLL, ↓kDD, ↓kR, ↓kIR, ↓kLR, ↓kIIR, ↓kLIR, ↓kDIR, ↓kRIR, ↓kNN, ↓kE, ↓br, ↓bn, ↓rtI, ↓gfv, ↓zchk, lput, ldel, lbad, alA, acat, isRf, dom, dS, dJ, isO, aTy, aLen, elAV, elR, Nat.reduceBEq, Nat.reduceAdd, Bool.or, Bool.and, Nat.add_zero, Nat.zero_add]
    try simp only [Nat.reduceLT, Nat.reduceLeDiff, Nat.reduceEqDiff, true_and, and_true, and_self, Nat.zero_le, Nat.le_refl, true_or, or_true, Bool.false_eq_true, not_false_eq_true, Nat.reduceAdd, Nat.lt_add_one, Nat.zero_lt_one, nI_add, pk_mul, ixL, vpL, ne_eq, reduceIte, wI_sA, sA_same, sA_ne, sA_sA, sA_comm, uI_at, uN_at, enc_at, uI_enc, uI_uI, itn1, itn2, itn3, itn4, itc, itc0, itc1, upM_s, upM_n]
    exact ⟨rfl, rfl⟩
theorem q_mark (hc : Ctx l G) {w : Bool} (hP : PS τ0 T τ h w d c a ρ) {b : Nat} (hb : b < 128) : Sat l G iX11_mark [mM, aI (nI b)] τ (voidP (fun τ' => PS τ0 T τ' (mkR T h w b).1 (mkR T h w b).2 d c a ρ)) := by
  have f17 := hP.2.1.1
  have f20 := hP.2.1.2.2.1
  have t3 := hP.2.2.2.1.2.2
  have t1 := hP.2.2.2.1.1
  refine Sat_of hc.1 hc.2 (by decide +kernel) (Nat.le_of_ble_eq_true rfl) (fun x hB hno => ?_)
  refine V_run hB (rt := none) (nL := 2) (mc := 0) rfl rfl rfl obX11_mark_0 ?_
  dsimp only [bX11_mark_0, ↓wpb, ↓wp1, ↓vI, ↓vL, ↓vD, ↓ldI, ↓ldL, ↓ldD, ↓ldR, ↓k1, ↓k2, ↓kI, ↓kL, ↓kD, ↓kII, ↓kLL, ↓kDD, ↓kR, ↓kIR, ↓kLR, ↓kIIR, ↓kLIR, ↓kDIR, ↓kRIR, ↓kNN, ↓kE, ↓br, ↓bn, ↓rtI, ↓gfv, ↓zchk, lput, ldel, lbad, alA, acat, isRf, dom, dS, dJ, isO, aTy, aLen, elAV, elR, Nat.reduceBEq, Nat.reduceAdd, Bool.or, Bool.and, Nat.add_zero, Nat.zero_add]
  try simp only [Nat.reduceLT, Nat.reduceLeDiff, Nat.reduceEqDiff, true_and, and_true, and_self, Nat.zero_le, Nat.le_refl, true_or, or_true, Bool.false_eq_true, not_false_eq_true, Nat.reduceAdd, Nat.lt_add_one, Nat.zero_lt_one, nI_add, pk_mul, ixL, vpL, ne_eq, reduceIte, wI_sA, sA_same, sA_ne, sA_sA, sA_comm, uI_at, uN_at, enc_at, uI_enc, uI_uI, itn1, itn2, itn3, itn4, itc, itc0, itc1, upM_s, upM_n, f20, bN_0]
  refine ⟨fun q => ?_, fun q => ?_⟩
  · subst q
    refine V_run hB (rt := none) (nL := 2) (mc := 0) rfl rfl rfl obX11_mark_8 ?_
    dsimp only [bX11_mark_8, ↓wpb, ↓wp1, ↓vI, ↓vL, ↓vD, ↓ldI, ↓ldL, ↓ldD, ↓ldR, ↓k1, ↓k2, ↓kI, ↓kL, ↓kD, ↓kII, ↓kLL, ↓kDD, ↓kR, ↓kIR, ↓kLR, ↓kIIR, ↓kLIR, ↓kDIR, ↓kRIR, ↓kNN, ↓kE, ↓br, ↓bn, ↓rtI, ↓gfv, ↓zchk, lput, ldel, lbad, alA, acat, isRf, dom, dS, dJ, isO, aTy, aLen, elAV, elR, Nat.reduceBEq, Nat.reduceAdd, Bool.or, Bool.and, Nat.add_zero, Nat.zero_add]
    try simp only [Nat.reduceLT, Nat.reduceLeDiff, Nat.reduceEqDiff, true_and, and_true, and_self, Nat.zero_le, Nat.le_refl, true_or, or_true, Bool.false_eq_true, not_false_eq_true, Nat.reduceAdd, Nat.lt_add_one, Nat.zero_lt_one, nI_add, pk_mul, ixL, vpL, ne_eq, reduceIte, wI_sA, sA_same, sA_ne, sA_sA, sA_comm, uI_at, uN_at, enc_at, uI_enc, uI_uI, itn1, itn2, itn3, itn4, itc, itc0, itc1, upM_s, upM_n]
    refine V_cV hB hno (q_sign hc hP) rfl (by decide +kernel) cvX11_198 (dom1 rfl) npX11_sign ⟨by decide, by decide⟩ (Nat.le_of_ble_eq_true rfl) (n' := 0) (by decide) rfl ?_
    refine V_run hB (rt := none) (nL := 2) (mc := 0) rfl rfl rfl obX11_mark_13 ?_
    dsimp only [bX11_mark_13, ↓wpb, ↓wp1, ↓vI, ↓vL, ↓vD, ↓ldI, ↓ldL, ↓ldD, ↓ldR, ↓k1, ↓k2, ↓kI, ↓kL, ↓kD, ↓kII, ↓kLL, ↓kDD, ↓kR, ↓kIR, ↓kLR, ↓kIIR, ↓kLIR, ↓kDIR, ↓kRIR, ↓kNN, ↓kE, ↓br, ↓bn, ↓rtI, ↓gfv, ↓zchk, lput, ldel, lbad, alA, acat, isRf, dom, dS, dJ, isO, aTy, aLen, elAV, elR, Nat.reduceBEq, Nat.reduceAdd, Bool.or, Bool.and, Nat.add_zero, Nat.zero_add]
    try simp only [Nat.reduceLT, Nat.reduceLeDiff, Nat.reduceEqDiff, true_and, and_true, and_self, Nat.zero_le, Nat.le_refl, true_or, or_true, Bool.false_eq_true, not_false_eq_true, Nat.reduceAdd, Nat.lt_add_one, Nat.zero_lt_one, nI_add, pk_mul, ixL, vpL, ne_eq, reduceIte, wI_sA, sA_same, sA_ne, sA_sA, sA_comm, uI_at, uN_at, enc_at, uI_enc, uI_uI, itn1, itn2, itn3, itn4, itc, itc0, itc1, upM_s, upM_n]
    refine ⟨fun q => ?_, fun q => ?_⟩
    · refine V_run hB (rt := none) (nL := 2) (mc := 0) rfl rfl rfl obX11_mark_21 ?_
      dsimp only [bX11_mark_21, ↓wpb, ↓wp1, ↓vI, ↓vL, ↓vD, ↓ldI, ↓ldL, ↓ldD, ↓ldR, ↓k1, ↓k2, ↓kI, ↓kL, ↓kD, ↓kII, ↓kLL, ↓kDD, ↓kR, ↓kIR, ↓kLR, ↓kIIR, ↓kLIR, ↓kDIR, ↓kRIR, ↓kNN, ↓kE, ↓br, ↓bn, ↓rtI, ↓gfv, ↓zchk, lput, ldel, lbad, alA, acat, isRf, dom, dS, dJ, isO, aTy, aLen, elAV, elR, Nat.reduceBEq, Nat.reduceAdd, Bool.or, Bool.and, Nat.add_zero, Nat.zero_add]
      try simp only [Nat.reduceLT, Nat.reduceLeDiff, Nat.reduceEqDiff, true_and, and_true, and_self, Nat.zero_le, Nat.le_refl, true_or, or_true, Bool.false_eq_true, not_false_eq_true, Nat.reduceAdd, Nat.lt_add_one, Nat.zero_lt_one, nI_add, pk_mul, ixL, vpL, ne_eq, reduceIte, wI_sA, sA_same, sA_ne, sA_sA, sA_comm, uI_at, uN_at, enc_at, uI_enc, uI_uI, itn1, itn2, itn3, itn4, itc, itc0, itc1, upM_s, upM_n, f17]
      rw [sg_eq t3 (by omega)] at q
      have hl : h < T.length := (List.getElem?_eq_some_iff.mp q).1
      have e : mkR T h false b = (h + 1, false) := by unfold mkR; rw [if_neg (by decide), if_pos q]
      rw [e] at hB
      refine ⟨Or.inl rfl, fun _ => ?_, fun z => absurd rfl z⟩
      refine V_run hB (rt := none) (nL := 2) (mc := 0) rfl rfl rfl obX11_mark_41 ?_
      dsimp only [bX11_mark_41, ↓wpb, ↓wp1, ↓vI, ↓vL, ↓vD, ↓ldI, ↓ldL, ↓ldD, ↓ldR, ↓k1, ↓k2, ↓kI, ↓kL, ↓kD, ↓kII, ↓kLL, ↓kDD, ↓kR, ↓kIR, ↓kLR, ↓kIIR, ↓kLIR, ↓kDIR, ↓kRIR, ↓kNN, ↓kE, ↓br, ↓bn, ↓rtI, ↓gfv, ↓zchk, lput, ldel, lbad, alA, acat, isRf, dom, dS, dJ, isO, aTy, aLen, elAV, elR, Nat.reduceBEq, Nat.reduceAdd, Bool.or, Bool.and, Nat.add_zero, Nat.zero_add]
      try simp only [Nat.reduceLT, Nat.reduceLeDiff, Nat.reduceEqDiff, true_and, and_true, and_self, Nat.zero_le, Nat.le_refl, true_or, or_true, Bool.false_eq_true, not_false_eq_true, Nat.reduceAdd, Nat.lt_add_one, Nat.zero_lt_one, nI_add, pk_mul, ixL, vpL, ne_eq, reduceIte, wI_sA, sA_same, sA_ne, sA_sA, sA_comm, uI_at, uN_at, enc_at, uI_enc, uI_uI, itn1, itn2, itn3, itn4, itc, itc0, itc1, upM_s, upM_n, f17]
      exact ⟨rfl, hP.f30 rfl rfl (fun k h1 h2 => by simp only [uI, if_neg h1, if_neg h2]) (by omega)⟩
    · refine V_run hB (rt := none) (nL := 2) (mc := 0) rfl rfl rfl obX11_mark_22 ?_
      dsimp only [bX11_mark_22, ↓wpb, ↓wp1, ↓vI, ↓vL, ↓vD, ↓ldI, ↓ldL, ↓ldD, ↓ldR, ↓k1, ↓k2, ↓kI, ↓kL, ↓kD, ↓kII, ↓kLL, ↓kDD, ↓kR, ↓kIR, ↓kLR, ↓kIIR, ↓kLIR, ↓kDIR, ↓kRIR, ↓kNN, ↓kE, ↓br, ↓bn, ↓rtI, ↓gfv, ↓zchk, lput, ldel, lbad, alA, acat, isRf, dom, dS, dJ, isO, aTy, aLen, elAV, elR, Nat.reduceBEq, Nat.reduceAdd, Bool.or, Bool.and, Nat.add_zero, Nat.zero_add]
      try simp only [Nat.reduceLT, Nat.reduceLeDiff, Nat.reduceEqDiff, true_and, and_true, and_self, Nat.zero_le, Nat.le_refl, true_or, or_true, Bool.false_eq_true, not_false_eq_true, Nat.reduceAdd, Nat.lt_add_one, Nat.zero_lt_one, nI_add, pk_mul, ixL, vpL, ne_eq, reduceIte, wI_sA, sA_same, sA_ne, sA_sA, sA_comm, uI_at, uN_at, enc_at, uI_enc, uI_uI, itn1, itn2, itn3, itn4, itc, itc0, itc1, upM_s, upM_n, f17]
      rw [sg_eq t3 (by omega)] at q
      have e : mkR T h false b = (h, true) := by unfold mkR; rw [if_neg (by decide), if_neg q]
      rw [e] at hB
      refine ⟨Or.inr rfl, fun z => absurd z (by decide), fun _ => ?_⟩
      refine V_run hB (rt := none) (nL := 2) (mc := 0) rfl rfl rfl obX11_mark_42 ?_
      dsimp only [bX11_mark_42, ↓wpb, ↓wp1, ↓vI, ↓vL, ↓vD, ↓ldI, ↓ldL, ↓ldD, ↓ldR, ↓k1, ↓k2, ↓kI, ↓kL, ↓kD, ↓kII, ↓kLL, ↓kDD, ↓kR, ↓kIR, ↓kLR, ↓kIIR, ↓kLIR, ↓kDIR, ↓kRIR, ↓kNN, ↓kE, ↓br, ↓bn, ↓rtI, ↓gfv, ↓zchk, lput, ldel, lbad, alA, acat, isRf, dom, dS, dJ, isO, aTy, aLen, elAV, elR, Nat.reduceBEq, Nat.reduceAdd, Bool.or, Bool.and, Nat.add_zero, Nat.zero_add]
      try simp only [Nat.reduceLT, Nat.reduceLeDiff, Nat.reduceEqDiff, true_and, and_true, and_self, Nat.zero_le, Nat.le_refl, true_or, or_true, Bool.false_eq_true, not_false_eq_true, Nat.reduceAdd, Nat.lt_add_one, Nat.zero_lt_one, nI_add, pk_mul, ixL, vpL, ne_eq, reduceIte, wI_sA, sA_same, sA_ne, sA_sA, sA_comm, uI_at, uN_at, enc_at, uI_enc, uI_uI, itn1, itn2, itn3, itn4, itc, itc0, itc1, upM_s, upM_n, f17]
      exact ⟨rfl, hP.f30 rfl rfl (fun k h1 h2 => by simp only [uI, if_neg h1, if_neg h2]) hP.2.2.2.1.2.1⟩
  · have q : w = true := by simpa using q
    subst q
    have e : mkR T h true b = (h, true) := if_pos rfl
    rw [e] at hB ⊢
    exact ⟨rfl, hP⟩
theorem q_digits (hc : Ctx l G) (hP : PS τ0 T τ h false d c a ρ) {m : Nat} (hm : m ≤ 3) : Sat l G iX11_digits [mM, aI (nI m)] τ (intP (nI (dgR T m h).2.1) (fun τ' => PS τ0 T τ' (dgR T m h).2.2 (dgR T m h).1 d c a ρ)) := by
  have t3 := hP.2.2.2.1.2.2
  have t1 := hP.2.2.2.1.1
  have t2 := hP.2.2.2.1.2.1
  refine Sat_of hc.1 hc.2 (by decide +kernel) (Nat.le_of_ble_eq_true rfl) (fun x hB hno => ?_)
  obtain ⟨R0, hR0⟩ : ∃ R0, R0 = dgt T m h 0 := ⟨_, rfl⟩
  have fin : ∀ n k t, PS τ0 T t (h + k) false d c a ρ → (n, h + k) = R0 → k ≤ 3 → V x t 0 59 [(0, mM), (1, aI (nI m)), (2, aI (nI n)), (3, aI (nI k))] [] := by
    intro n k t hP e hk
    have f20 := hP.2.1.2.2.1
    have f17 := hP.2.1.1
    have e2 : dgR T m h = (h + k == h, n, h + k) := by unfold dgR; rw [← hR0, ← e]
    rw [e2] at hB
    refine V_run hB (rt := some .int) (nL := 4) (mc := 0) rfl rfl rfl obX11_digits_59 ?_
    dsimp only [bX11_digits_59, ↓wpb, ↓wp1, ↓vI, ↓vL, ↓vD, ↓ldI, ↓ldL, ↓ldD, ↓ldR, ↓k1, ↓k2, ↓kI, ↓kL, ↓kD, ↓kII, ↓kLL, ↓kDD, ↓kR, ↓kIR, ↓kLR, ↓kIIR, ↓kLIR, ↓kDIR, ↓kRIR, ↓kNN, ↓kE, ↓br, ↓bn, ↓rtI, ↓gfv, ↓zchk, lput, ldel, lbad, alA, acat, isRf, dom, dS, dJ, isO, aTy, aLen, elAV, elR, Nat.reduceBEq, Nat.reduceAdd, Bool.or, Bool.and, Nat.add_zero, Nat.zero_add]
    try simp only [Nat.reduceLT, Nat.reduceLeDiff, Nat.reduceEqDiff, true_and, and_true, and_self, Nat.zero_le, Nat.le_refl, true_or, or_true, Bool.false_eq_true, not_false_eq_true, Nat.reduceAdd, Nat.lt_add_one, Nat.zero_lt_one, nI_add, pk_mul, ixL, vpL, ne_eq, reduceIte, wI_sA, sA_same, sA_ne, sA_sA, sA_comm, uI_at, uN_at, enc_at, uI_enc, uI_uI, itn1, itn2, itn3, itn4, itc, itc0, itc1, upM_s, upM_n, f20]
    refine ⟨fun q => ?_, fun q => ?_⟩
    · have hk0 : k ≠ 0 := fun z => q (by rw [z]; rfl)
      have e3 : (h + k == h) = false := by simp only [beq_eq_false_iff_ne, ne_eq]; omega
      rw [e3] at hB
      refine V_run hB (rt := some .int) (nL := 4) (mc := 0) rfl rfl rfl obX11_digits_72 ?_
      dsimp only [bX11_digits_72, ↓wpb, ↓wp1, ↓vI, ↓vL, ↓vD, ↓ldI, ↓ldL, ↓ldD, ↓ldR, ↓k1, ↓k2, ↓kI, ↓kL, ↓kD, ↓kII, ↓kLL, ↓kDD, ↓kR, ↓kIR, ↓kLR, ↓kIIR, ↓kLIR, ↓kDIR, ↓kRIR, ↓kNN, ↓kE, ↓br, ↓bn, ↓rtI, ↓gfv, ↓zchk, lput, ldel, lbad, alA, acat, isRf, dom, dS, dJ, isO, aTy, aLen, elAV, elR, Nat.reduceBEq, Nat.reduceAdd, Bool.or, Bool.and, Nat.add_zero, Nat.zero_add]
      try simp only [Nat.reduceLT, Nat.reduceLeDiff, Nat.reduceEqDiff, true_and, and_true, and_self, Nat.zero_le, Nat.le_refl, true_or, or_true, Bool.false_eq_true, not_false_eq_true, Nat.reduceAdd, Nat.lt_add_one, Nat.zero_lt_one, nI_add, pk_mul, ixL, vpL, ne_eq, reduceIte, wI_sA, sA_same, sA_ne, sA_sA, sA_comm, uI_at, uN_at, enc_at, uI_enc, uI_uI, itn1, itn2, itn3, itn4, itc, itc0, itc1, upM_s, upM_n]
      refine ⟨Or.inl (by decide), rfl, ?_⟩
      exact hP.f30 f17 (by rfl) (fun k h1 h2 => by simp only [uI, if_neg h2]) hP.2.2.2.1.2.1
    · have hk0 : k = 0 := (nI_eq (by omega) (by omega)).mp (show nI k = nI 0 from q)
      subst hk0
      have e3 : (h + 0 == h) = true := by simp
      rw [e3] at hB
      refine V_run hB (rt := some .int) (nL := 4) (mc := 0) rfl rfl rfl obX11_digits_73 ?_
      dsimp only [bX11_digits_73, ↓wpb, ↓wp1, ↓vI, ↓vL, ↓vD, ↓ldI, ↓ldL, ↓ldD, ↓ldR, ↓k1, ↓k2, ↓kI, ↓kL, ↓kD, ↓kII, ↓kLL, ↓kDD, ↓kR, ↓kIR, ↓kLR, ↓kIIR, ↓kLIR, ↓kDIR, ↓kRIR, ↓kNN, ↓kE, ↓br, ↓bn, ↓rtI, ↓gfv, ↓zchk, lput, ldel, lbad, alA, acat, isRf, dom, dS, dJ, isO, aTy, aLen, elAV, elR, Nat.reduceBEq, Nat.reduceAdd, Bool.or, Bool.and, Nat.add_zero, Nat.zero_add]
      try simp only [Nat.reduceLT, Nat.reduceLeDiff, Nat.reduceEqDiff, true_and, and_true, and_self, Nat.zero_le, Nat.le_refl, true_or, or_true, Bool.false_eq_true, not_false_eq_true, Nat.reduceAdd, Nat.lt_add_one, Nat.zero_lt_one, nI_add, pk_mul, ixL, vpL, ne_eq, reduceIte, wI_sA, sA_same, sA_ne, sA_sA, sA_comm, uI_at, uN_at, enc_at, uI_enc, uI_uI, itn1, itn2, itn3, itn4, itc, itc0, itc1, upM_s, upM_n]
      refine ⟨Or.inr (by decide), rfl, ?_⟩
      exact hP.f30 f17 (by rfl) (fun k h1 h2 => by simp only [uI, if_neg h2]) hP.2.2.2.1.2.1
  have loop : ∀ w k n t, k + w = m → PS τ0 T t (h + k) false d c a ρ → n < 10 ^ k → dgt T w (h + k) n = R0 → V x t 0 4 [(0, mM), (1, aI (nI m)), (2, aI (nI n)), (3, aI (nI k))] [] := by
    intro w
    induction w with
    | zero =>
      intro k n t hk hP hn e
      have hk : k = m := by omega
      subst hk
      have f20 := hP.2.1.2.2.1
      refine V_run hB (rt := some .int) (nL := 4) (mc := 0) rfl rfl rfl obX11_digits_4 ?_
      dsimp only [bX11_digits_4, ↓wpb, ↓wp1, ↓vI, ↓vL, ↓vD, ↓ldI, ↓ldL, ↓ldD, ↓ldR, ↓k1, ↓k2, ↓kI, ↓kL, ↓kD, ↓kII, ↓kLL, ↓kDD, ↓kR, ↓kIR, ↓kLR, ↓kIIR, ↓kLIR, ↓kDIR, ↓kRIR, ↓kNN, ↓kE, ↓br, ↓bn, ↓rtI, ↓gfv, ↓zchk, lput, ldel, lbad, alA, acat, isRf, dom, dS, dJ, isO, aTy, aLen, elAV, elR, Nat.reduceBEq, Nat.reduceAdd, Bool.or, Bool.and, Nat.add_zero, Nat.zero_add]
      try simp only [Nat.reduceLT, Nat.reduceLeDiff, Nat.reduceEqDiff, true_and, and_true, and_self, Nat.zero_le, Nat.le_refl, true_or, or_true, Bool.false_eq_true, not_false_eq_true, Nat.reduceAdd, Nat.lt_add_one, Nat.zero_lt_one, nI_add, pk_mul, ixL, vpL, ne_eq, reduceIte, wI_sA, sA_same, sA_ne, sA_sA, sA_comm, uI_at, uN_at, enc_at, uI_enc, uI_uI, itn1, itn2, itn3, itn4, itc, itc0, itc1, upM_s, upM_n, f20]
      exact ⟨fun q => absurd rfl q, fun _ => ⟨fun _ => fin n k t hP e hm, fun q => absurd (nI_le (Nat.le_refl _) (by omega)) q⟩⟩
    | succ w ih =>
      intro k n t hk hP hn e
      have f20 := hP.2.1.2.2.1
      have f17 := hP.2.1.1
      refine V_run hB (rt := some .int) (nL := 4) (mc := 0) rfl rfl rfl obX11_digits_4 ?_
      dsimp only [bX11_digits_4, ↓wpb, ↓wp1, ↓vI, ↓vL, ↓vD, ↓ldI, ↓ldL, ↓ldD, ↓ldR, ↓k1, ↓k2, ↓kI, ↓kL, ↓kD, ↓kII, ↓kLL, ↓kDD, ↓kR, ↓kIR, ↓kLR, ↓kIIR, ↓kLIR, ↓kDIR, ↓kRIR, ↓kNN, ↓kE, ↓br, ↓bn, ↓rtI, ↓gfv, ↓zchk, lput, ldel, lbad, alA, acat, isRf, dom, dS, dJ, isO, aTy, aLen, elAV, elR, Nat.reduceBEq, Nat.reduceAdd, Bool.or, Bool.and, Nat.add_zero, Nat.zero_add]
      try simp only [Nat.reduceLT, Nat.reduceLeDiff, Nat.reduceEqDiff, true_and, and_true, and_self, Nat.zero_le, Nat.le_refl, true_or, or_true, Bool.false_eq_true, not_false_eq_true, Nat.reduceAdd, Nat.lt_add_one, Nat.zero_lt_one, nI_add, pk_mul, ixL, vpL, ne_eq, reduceIte, wI_sA, sA_same, sA_ne, sA_sA, sA_comm, uI_at, uN_at, enc_at, uI_enc, uI_uI, itn1, itn2, itn3, itn4, itc, itc0, itc1, upM_s, upM_n, f20]
      refine ⟨fun q => absurd rfl q, fun _ => ⟨fun q => absurd q (nI_ge (by omega) (by omega)), fun _ => ?_⟩⟩
      refine V_cV hB hno (q_sign hc hP) rfl (by decide +kernel) cvX11_198 (dom1 rfl) npX11_sign ⟨by decide, by decide⟩ (Nat.le_of_ble_eq_true rfl) (n' := 0) (by decide) rfl ?_
      refine V_run hB (rt := some .int) (nL := 4) (mc := 0) rfl rfl rfl obX11_digits_20 ?_
      dsimp only [bX11_digits_20, ↓wpb, ↓wp1, ↓vI, ↓vL, ↓vD, ↓ldI, ↓ldL, ↓ldD, ↓ldR, ↓k1, ↓k2, ↓kI, ↓kL, ↓kD, ↓kII, ↓kLL, ↓kDD, ↓kR, ↓kIR, ↓kLR, ↓kIIR, ↓kLIR, ↓kDIR, ↓kRIR, ↓kNN, ↓kE, ↓br, ↓bn, ↓rtI, ↓gfv, ↓zchk, lput, ldel, lbad, alA, acat, isRf, dom, dS, dJ, isO, aTy, aLen, elAV, elR, Nat.reduceBEq, Nat.reduceAdd, Bool.or, Bool.and, Nat.add_zero, Nat.zero_add]
      try simp only [Nat.reduceLT, Nat.reduceLeDiff, Nat.reduceEqDiff, true_and, and_true, and_self, Nat.zero_le, Nat.le_refl, true_or, or_true, Bool.false_eq_true, not_false_eq_true, Nat.reduceAdd, Nat.lt_add_one, Nat.zero_lt_one, nI_add, pk_mul, ixL, vpL, ne_eq, reduceIte, wI_sA, sA_same, sA_ne, sA_sA, sA_comm, uI_at, uN_at, enc_at, uI_enc, uI_uI, itn1, itn2, itn3, itn4, itc, itc0, itc1, upM_s, upM_n]
      refine V_cS hB hno (q_isInN hc t (sg T (h + k)) 48 57) rfl (by decide +kernel) csX11_72 npX11_isIn ⟨by decide, by decide⟩ (Nat.le_of_ble_eq_true rfl) (n' := 0) (by decide) rfl ?_
      refine V_run hB (rt := some .int) (nL := 4) (mc := 0) rfl rfl rfl obX11_digits_27 ?_
      dsimp only [bX11_digits_27, ↓wpb, ↓wp1, ↓vI, ↓vL, ↓vD, ↓ldI, ↓ldL, ↓ldD, ↓ldR, ↓k1, ↓k2, ↓kI, ↓kL, ↓kD, ↓kII, ↓kLL, ↓kDD, ↓kR, ↓kIR, ↓kLR, ↓kIIR, ↓kLIR, ↓kDIR, ↓kRIR, ↓kNN, ↓kE, ↓br, ↓bn, ↓rtI, ↓gfv, ↓zchk, lput, ldel, lbad, alA, acat, isRf, dom, dS, dJ, isO, aTy, aLen, elAV, elR, Nat.reduceBEq, Nat.reduceAdd, Bool.or, Bool.and, Nat.add_zero, Nat.zero_add]
      try simp only [Nat.reduceLT, Nat.reduceLeDiff, Nat.reduceEqDiff, true_and, and_true, and_self, Nat.zero_le, Nat.le_refl, true_or, or_true, Bool.false_eq_true, not_false_eq_true, Nat.reduceAdd, Nat.lt_add_one, Nat.zero_lt_one, nI_add, pk_mul, ixL, vpL, ne_eq, reduceIte, wI_sA, sA_same, sA_ne, sA_sA, sA_comm, uI_at, uN_at, enc_at, uI_enc, uI_uI, itn1, itn2, itn3, itn4, itc, itc0, itc1, upM_s, upM_n, bN_0]
      unfold dgt at e
      refine ⟨fun q => ?_, fun q => ?_⟩
      · refine fin n k t hP ?_ (by omega)
        have q : ¬ inR (sg T (h + k)) 48 57 = true := by rw [q]; decide
        rw [sg_in t3] at q
        rw [← e]
        cases e1 : T[h + k]? with
        | none => rfl
        | some b =>
          simp only
          rw [if_neg (fun z => q ⟨b, e1, z⟩)]
      · have q : inR (sg T (h + k)) 48 57 = true := by simpa using q
        rw [sg_in t3] at q
        obtain ⟨b, e1, b1, b2⟩ := q
        have hl : h + k < T.length := (List.getElem?_eq_some_iff.mp e1).1
        have es : sg T (h + k) = nI b := by unfold sg; rw [e1]
        have hn2 : 10 ^ k ≤ 1000 := by
          have := Nat.pow_le_pow_right (n := 10) (by omega) (show k ≤ 3 by omega)
          exact this
        have e9 : nI (10 * n + b) - nI 48 = nI (10 * n + b - 48) := pk_sub (by omega)
        rw [e1] at e
        simp only at e
        rw [if_pos ⟨b1, b2⟩] at e
        refine V_cV hB hno (q_sign hc hP) rfl (by decide +kernel) cvX11_198 (dom1 rfl) npX11_sign ⟨by decide, by decide⟩ (Nat.le_of_ble_eq_true rfl) (n' := 0) (by decide) rfl ?_
        refine V_run hB (rt := some .int) (nL := 4) (mc := 0) rfl rfl rfl obX11_digits_38 ?_
        dsimp only [bX11_digits_38, ↓wpb, ↓wp1, ↓vI, ↓vL, ↓vD, ↓ldI, ↓ldL, ↓ldD, ↓ldR, ↓k1, ↓k2, ↓kI, ↓kL, ↓kD, ↓kII, ↓kLL, ↓kDD, ↓kR, ↓kIR, ↓kLR, ↓kIIR, ↓kLIR, ↓kDIR, ↓kRIR, ↓kNN, ↓kE, ↓br, ↓bn, ↓rtI, ↓gfv, ↓zchk, lput, ldel, lbad, alA, acat, isRf, dom, dS, dJ, isO, aTy, aLen, elAV, elR, Nat.reduceBEq, Nat.reduceAdd, Bool.or, Bool.and, Nat.add_zero, Nat.zero_add]
        try simp only [Nat.reduceLT, Nat.reduceLeDiff, Nat.reduceEqDiff, true_and, and_true, and_self, Nat.zero_le, Nat.le_refl, true_or, or_true, Bool.false_eq_true, not_false_eq_true, Nat.reduceAdd, Nat.lt_add_one, Nat.zero_lt_one, nI_add, pk_mul, ixL, vpL, ne_eq, reduceIte, wI_sA, sA_same, sA_ne, sA_sA, sA_comm, uI_at, uN_at, enc_at, uI_enc, uI_uI, itn1, itn2, itn3, itn4, itc, itc0, itc1, upM_s, upM_n, es, e9, f17]
        refine ih (k + 1) (10 * n + b - 48) _ (by omega) (hP.f30 rfl f20 (fun k h1 h2 => by simp only [uI, if_neg h1]) (by omega)) (by rw [Nat.pow_succ]; omega) e
  refine V_run hB (rt := some .int) (nL := 4) (mc := 0) rfl rfl rfl obX11_digits_0 ?_
  dsimp only [bX11_digits_0, ↓wpb, ↓wp1, ↓vI, ↓vL, ↓vD, ↓ldI, ↓ldL, ↓ldD, ↓ldR, ↓k1, ↓k2, ↓kI, ↓kL, ↓kD, ↓kII, ↓kLL, ↓kDD, ↓kR, ↓kIR, ↓kLR, ↓kIIR, ↓kLIR, ↓kDIR, ↓kRIR, ↓kNN, ↓kE, ↓br, ↓bn, ↓rtI, ↓gfv, ↓zchk, lput, ldel, lbad, alA, acat, isRf, dom, dS, dJ, isO, aTy, aLen, elAV, elR, Nat.reduceBEq, Nat.reduceAdd, Bool.or, Bool.and, Nat.add_zero, Nat.zero_add]
  try simp only [Nat.reduceLT, Nat.reduceLeDiff, Nat.reduceEqDiff, true_and, and_true, and_self, Nat.zero_le, Nat.le_refl, true_or, or_true, Bool.false_eq_true, not_false_eq_true, Nat.reduceAdd, Nat.lt_add_one, Nat.zero_lt_one, nI_add, pk_mul, ixL, vpL, ne_eq, reduceIte, wI_sA, sA_same, sA_ne, sA_sA, sA_comm, uI_at, uN_at, enc_at, uI_enc, uI_uI, itn1, itn2, itn3, itn4, itc, itc0, itc1, upM_s, upM_n]
  exact loop m 0 0 τ (by omega) hP (by decide) hR0.symm
theorem q_behind (hc : Ctx l G) (hP : PS τ0 T τ h false d c a ρ) {m : Nat} (hm : m ≤ 3) : Sat l G iX11_behind [mM, aI (nI m)] τ (intP (nI (bhR T m h).2.1) (fun τ' => PS τ0 T τ' (bhR T m h).2.2 (bhR T m h).1 d c a ρ)) := by
  refine Sat_of hc.1 hc.2 (by decide +kernel) (Nat.le_of_ble_eq_true rfl) (fun x hB hno => ?_)
  refine V_run hB (rt := some .int) (nL := 2) (mc := 0) rfl rfl rfl obX11_behind_0 ?_
  dsimp only [bX11_behind_0, ↓wpb, ↓wp1, ↓vI, ↓vL, ↓vD, ↓ldI, ↓ldL, ↓ldD, ↓ldR, ↓k1, ↓k2, ↓kI, ↓kL, ↓kD, ↓kII, ↓kLL, ↓kDD, ↓kR, ↓kIR, ↓kLR, ↓kIIR, ↓kLIR, ↓kDIR, ↓kRIR, ↓kNN, ↓kE, ↓br, ↓bn, ↓rtI, ↓gfv, ↓zchk, lput, ldel, lbad, alA, acat, isRf, dom, dS, dJ, isO, aTy, aLen, elAV, elR, Nat.reduceBEq, Nat.reduceAdd, Bool.or, Bool.and, Nat.add_zero, Nat.zero_add]
  try simp only [Nat.reduceLT, Nat.reduceLeDiff, Nat.reduceEqDiff, true_and, and_true, and_self, Nat.zero_le, Nat.le_refl, true_or, or_true, Bool.false_eq_true, not_false_eq_true, Nat.reduceAdd, Nat.lt_add_one, Nat.zero_lt_one, nI_add, pk_mul, ixL, vpL, ne_eq, reduceIte, wI_sA, sA_same, sA_ne, sA_sA, sA_comm, uI_at, uN_at, enc_at, uI_enc, uI_uI, itn1, itn2, itn3, itn4, itc, itc0, itc1, upM_s, upM_n]
  refine V_callV hB hno (q_mark hc hP (b := 32) (by omega)) rfl (by decide +kernel) cvX11_201 (dom1 rfl) npX11_mark ⟨by decide, by decide⟩ (Nat.le_of_ble_eq_true rfl) (by decide) ?_ ?_
  rotate_left
  · intro E τ' hq; cases hq.1
  intro v t hq
  obtain ⟨e1, hP1⟩ := hq
  cases e1
  show V x t 0 6 _ []
  by_cases e : T[h]? = some 32
  · have e1 : mkR T h false 32 = (h + 1, false) := by unfold mkR; rw [if_neg (by decide), if_pos e]
    have e2 : bhR T m h = dgR T m (h + 1) := if_pos e
    rw [e1] at hP1
    rw [e2] at hB
    have f20 := hP1.2.1.2.2.1
    refine V_run hB (rt := some .int) (nL := 2) (mc := 0) rfl rfl rfl obX11_behind_6 ?_
    dsimp only [bX11_behind_6, ↓wpb, ↓wp1, ↓vI, ↓vL, ↓vD, ↓ldI, ↓ldL, ↓ldD, ↓ldR, ↓k1, ↓k2, ↓kI, ↓kL, ↓kD, ↓kII, ↓kLL, ↓kDD, ↓kR, ↓kIR, ↓kLR, ↓kIIR, ↓kLIR, ↓kDIR, ↓kRIR, ↓kNN, ↓kE, ↓br, ↓bn, ↓rtI, ↓gfv, ↓zchk, lput, ldel, lbad, alA, acat, isRf, dom, dS, dJ, isO, aTy, aLen, elAV, elR, Nat.reduceBEq, Nat.reduceAdd, Bool.or, Bool.and, Nat.add_zero, Nat.zero_add]
    try simp only [Nat.reduceLT, Nat.reduceLeDiff, Nat.reduceEqDiff, true_and, and_true, and_self, Nat.zero_le, Nat.le_refl, true_or, or_true, Bool.false_eq_true, not_false_eq_true, Nat.reduceAdd, Nat.lt_add_one, Nat.zero_lt_one, nI_add, pk_mul, ixL, vpL, ne_eq, reduceIte, wI_sA, sA_same, sA_ne, sA_sA, sA_comm, uI_at, uN_at, enc_at, uI_enc, uI_uI, itn1, itn2, itn3, itn4, itc, itc0, itc1, upM_s, upM_n, f20]
    refine ⟨fun _ => ?_, fun q => absurd rfl q⟩
    refine V_run hB (rt := some .int) (nL := 2) (mc := 0) rfl rfl rfl obX11_behind_17 ?_
    dsimp only [bX11_behind_17, ↓wpb, ↓wp1, ↓vI, ↓vL, ↓vD, ↓ldI, ↓ldL, ↓ldD, ↓ldR, ↓k1, ↓k2, ↓kI, ↓kL, ↓kD, ↓kII, ↓kLL, ↓kDD, ↓kR, ↓kIR, ↓kLR, ↓kIIR, ↓kLIR, ↓kDIR, ↓kRIR, ↓kNN, ↓kE, ↓br, ↓bn, ↓rtI, ↓gfv, ↓zchk, lput, ldel, lbad, alA, acat, isRf, dom, dS, dJ, isO, aTy, aLen, elAV, elR, Nat.reduceBEq, Nat.reduceAdd, Bool.or, Bool.and, Nat.add_zero, Nat.zero_add]
    try simp only [Nat.reduceLT, Nat.reduceLeDiff, Nat.reduceEqDiff, true_and, and_true, and_self, Nat.zero_le, Nat.le_refl, true_or, or_true, Bool.false_eq_true, not_false_eq_true, Nat.reduceAdd, Nat.lt_add_one, Nat.zero_lt_one, nI_add, pk_mul, ixL, vpL, ne_eq, reduceIte, wI_sA, sA_same, sA_ne, sA_sA, sA_comm, uI_at, uN_at, enc_at, uI_enc, uI_uI, itn1, itn2, itn3, itn4, itc, itc0, itc1, upM_s, upM_n]
    refine V_callV hB hno (q_digits hc hP1 hm) rfl (by decide +kernel) cvX11_204 (dom1 rfl) npX11_digits ⟨by decide, by decide⟩ (Nat.le_of_ble_eq_true rfl) (by decide) ?_ ?_
    rotate_left
    · intro E τ' hq; cases hq.1
    intro v2 t2 hq
    obtain ⟨e3, hP2⟩ := hq
    cases e3
    show V x t2 0 22 _ _
    refine V_run hB (rt := some .int) (nL := 2) (mc := 0) rfl rfl rfl obX11_behind_22 ?_
    dsimp only [bX11_behind_22, ↓wpb, ↓wp1, ↓vI, ↓vL, ↓vD, ↓ldI, ↓ldL, ↓ldD, ↓ldR, ↓k1, ↓k2, ↓kI, ↓kL, ↓kD, ↓kII, ↓kLL, ↓kDD, ↓kR, ↓kIR, ↓kLR, ↓kIIR, ↓kLIR, ↓kDIR, ↓kRIR, ↓kNN, ↓kE, ↓br, ↓bn, ↓rtI, ↓gfv, ↓zchk, lput, ldel, lbad, alA, acat, isRf, dom, dS, dJ, isO, aTy, aLen, elAV, elR, Nat.reduceBEq, Nat.reduceAdd, Bool.or, Bool.and, Nat.add_zero, Nat.zero_add]
    try simp only [Nat.reduceLT, Nat.reduceLeDiff, Nat.reduceEqDiff, true_and, and_true, and_self, Nat.zero_le, Nat.le_refl, true_or, or_true, Bool.false_eq_true, not_false_eq_true, Nat.reduceAdd, Nat.lt_add_one, Nat.zero_lt_one, nI_add, pk_mul, ixL, vpL, ne_eq, reduceIte, wI_sA, sA_same, sA_ne, sA_sA, sA_comm, uI_at, uN_at, enc_at, uI_enc, uI_uI, itn1, itn2, itn3, itn4, itc, itc0, itc1, upM_s, upM_n]
    exact ⟨rfl, hP2⟩
  · have e1 : mkR T h false 32 = (h, true) := by unfold mkR; rw [if_neg (by decide), if_neg e]
    have e2 : bhR T m h = (true, 0, h) := if_neg e
    rw [e1] at hP1
    rw [e2] at hB
    have f20 := hP1.2.1.2.2.1
    refine V_run hB (rt := some .int) (nL := 2) (mc := 0) rfl rfl rfl obX11_behind_6 ?_
    dsimp only [bX11_behind_6, ↓wpb, ↓wp1, ↓vI, ↓vL, ↓vD, ↓ldI, ↓ldL, ↓ldD, ↓ldR, ↓k1, ↓k2, ↓kI, ↓kL, ↓kD, ↓kII, ↓kLL, ↓kDD, ↓kR, ↓kIR, ↓kLR, ↓kIIR, ↓kLIR, ↓kDIR, ↓kRIR, ↓kNN, ↓kE, ↓br, ↓bn, ↓rtI, ↓gfv, ↓zchk, lput, ldel, lbad, alA, acat, isRf, dom, dS, dJ, isO, aTy, aLen, elAV, elR, Nat.reduceBEq, Nat.reduceAdd, Bool.or, Bool.and, Nat.add_zero, Nat.zero_add]
    try simp only [Nat.reduceLT, Nat.reduceLeDiff, Nat.reduceEqDiff, true_and, and_true, and_self, Nat.zero_le, Nat.le_refl, true_or, or_true, Bool.false_eq_true, not_false_eq_true, Nat.reduceAdd, Nat.lt_add_one, Nat.zero_lt_one, nI_add, pk_mul, ixL, vpL, ne_eq, reduceIte, wI_sA, sA_same, sA_ne, sA_sA, sA_comm, uI_at, uN_at, enc_at, uI_enc, uI_uI, itn1, itn2, itn3, itn4, itc, itc0, itc1, upM_s, upM_n, f20]
    refine ⟨fun q => absurd q (by decide), fun _ => ?_⟩
    refine V_run hB (rt := some .int) (nL := 2) (mc := 0) rfl rfl rfl obX11_behind_22 ?_
    dsimp only [bX11_behind_22, ↓wpb, ↓wp1, ↓vI, ↓vL, ↓vD, ↓ldI, ↓ldL, ↓ldD, ↓ldR, ↓k1, ↓k2, ↓kI, ↓kL, ↓kD, ↓kII, ↓kLL, ↓kDD, ↓kR, ↓kIR, ↓kLR, ↓kIIR, ↓kLIR, ↓kDIR, ↓kRIR, ↓kNN, ↓kE, ↓br, ↓bn, ↓rtI, ↓gfv, ↓zchk, lput, ldel, lbad, alA, acat, isRf, dom, dS, dJ, isO, aTy, aLen, elAV, elR, Nat.reduceBEq, Nat.reduceAdd, Bool.or, Bool.and, Nat.add_zero, Nat.zero_add]
    try simp only [Nat.reduceLT, Nat.reduceLeDiff, Nat.reduceEqDiff, true_and, and_true, and_self, Nat.zero_le, Nat.le_refl, true_or, or_true, Bool.false_eq_true, not_false_eq_true, Nat.reduceAdd, Nat.lt_add_one, Nat.zero_lt_one, nI_add, pk_mul, ixL, vpL, ne_eq, reduceIte, wI_sA, sA_same, sA_ne, sA_sA, sA_comm, uI_at, uN_at, enc_at, uI_enc, uI_uI, itn1, itn2, itn3, itn4, itc, itc0, itc1, upM_s, upM_n]
    exact ⟨rfl, hP1⟩
end MN
