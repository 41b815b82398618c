/-! ===== programs: words ===== -/
def wa (w : Nat) : Nat := wordAtL.getD w 0
def wl (w : Nat) : Nat := wa (w + 1) - wa w
def wd (w n : Nat) : Nat := wordsL.getD (wa w + n) 0
/-- the word w fits the text from h on with its first n letters -/
def mt (T : List Nat) (h w : Nat) : Nat → Bool
  | 0 => true
  | n + 1 => mt T h w n && (decide (n < wl w) && decide (T[h + n]? = some (wd w n)))
def anyU (T : List Nat) (h n : Nat) : Nat → Bool
  | 0 => false
  | w + 1 => anyU T h n w || mt T h w n
def lwU (T : List Nat) (h n : Nat) : Nat → Option Nat
  | 0 => none
  | w + 1 => if mt T h w n = true ∧ n = wl w then some w else lwU T h n w
def wdR (T : List Nat) (h : Nat) : Nat → Nat → Option Nat × Nat
  | 0, n => (none, h + n)
  | f + 1, n => if anyU T h (n + 1) 9 = true then (match lwU T h (n + 1) 9 with
    | some w => (some w, h + (n + 1))
    | none => wdR T h f (n + 1)) else (none, h + n)
theorem wa_at : ∀ w, w < 10 → wordAtL[w]? = some (wa w) ∧ wa w ≤ 53 := by decide
theorem wl_le : ∀ w, w < 9 → wl w ≤ 7 ∧ wa w + wl w = wa (w + 1) ∧ 5 ≤ wl w - 0 + 1 := by decide
theorem wd_at : ∀ w, w < 9 → ∀ n, n < wl w → wordsL[wa w + n]? = some (wd w n) ∧ wd w n < 128 ∧ wa w + n < 53 := by decide
theorem mt_le {T : List Nat} {h w : Nat} : ∀ {n}, mt T h w n = true → n ≤ wl w
  | 0, _ => Nat.zero_le _
  | n + 1, q => by
    unfold mt at q
    simp only [Bool.and_eq_true, decide_eq_true_eq] at q
    omega
theorem anyU_ex {T : List Nat} {h n : Nat} : ∀ {k}, anyU T h n k = true → ∃ w, w < k ∧ mt T h w n = true
  | 0, q => by cases q
  | k + 1, q => by
    unfold anyU at q
    simp only [Bool.or_eq_true] at q
    rcases q with q | q
    · obtain ⟨w, w1, w2⟩ := anyU_ex q; exact ⟨w, by omega, w2⟩
    · exact ⟨k, by omega, q⟩
theorem mt_T {T : List Nat} {h w : Nat} : ∀ {n}, mt T h w n = true → h ≤ T.length → h + n ≤ T.length
  | 0, _, hh => hh
  | n + 1, q, hh => by
    unfold mt at q
    simp only [Bool.and_eq_true, decide_eq_true_eq] at q
    have := (List.getElem?_eq_some_iff.mp q.2.2).1
    omega
theorem lwU_lt {T : List Nat} {h n w : Nat} : ∀ {k}, lwU T h n k = some w → w < k ∧ mt T h w n = true ∧ n = wl w
  | 0, q => by cases q
  | k + 1, q => by
    unfold lwU at q
    split at q
    · rename_i e; cases q; exact ⟨by omega, e⟩
    · have := lwU_lt q; exact ⟨by omega, this.2⟩
theorem bN_or (x y : Bool) : nI (bN x) ||| nI (bN y) = nI (bN (x || y)) := by cases x <;> cases y <;> decide
theorem bN_1 (p : Bool) : nI (bN p) = nI 1 ↔ p = true := by cases p <;> decide
section MO
variable {l : Launch} {G : GG} {τ0 τ : Mem} {T : List Nat} {h c : Nat} {d : Bool} {a : Nat → Nat} {ρ : Rho}
theorem q_word (hc : Ctx l G) (hP : PS τ0 T τ h false d c a ρ) : Sat l G iX11_word [mM] τ (intP (oI (wdR T h 8 0).1) (fun τ' => PS τ0 T τ' (wdR T h 8 0).2 (wdR T h 8 0).1.isNone d c a ρ)) := by
  have t3 := hP.2.2.2.1.2.2
  have t1 := hP.2.2.2.1.1
  have t2 := hP.2.2.2.1.2.1
  refine Sat_of hc.1 hc.2 (by decide +kernel) (Nat.le_of_ble_eq_true rfl) (fun x hB hno => ?_)
  generalize hR0 : wdR T h 8 0 = R0 at hB
  have fin : ∀ t o q, (o, q) = R0 → PS τ0 T t q o.isNone d c a ρ → ∀ al, (∀ z ∈ [(0, mM), (2, aI (oI o))], lk al z.1 = some z.2) → V x t 0 222 al [] := by
    intro t o q e hP al hal
    refine V.sub ?_ hal
    rw [← e] at hB
    refine V_run hB (rt := some .int) (nL := 5) (mc := 0) rfl rfl rfl obX11_word_222 ?_
    dsimp only [bX11_word_222, ↓wpb, ↓wp1, ↓vI, ↓vL, ↓vD, ↓ldI, ↓ldL, ↓ldD, ↓ldR, ↓k1, ↓k2, ↓kI, ↓kL, ↓kD, ↓kII, ↓kLL, ↓kDD, ↓kR, ↓kIR, ↓kLR, ↓kIIR, ↓kLIR, ↓kDIR, ↓kRIR, ↓kNN, ↓kE, ↓br, ↓bn, ↓rtI, ↓gfv, ↓zchk, lput, ldel, lbad, alA, acat, isRf, dom, dS, dJ, isO, aTy, aLen, elAV, elR, Nat.reduceBEq, Nat.reduceAdd, Bool.or, Bool.and, Nat.add_zero, Nat.zero_add]
    try simp only [Nat.reduceLT, Nat.reduceLeDiff, Nat.reduceEqDiff, true_and, and_true, and_self, Nat.zero_le, Nat.le_refl, true_or, or_true, Bool.false_eq_true, not_false_eq_true, Nat.reduceAdd, Nat.lt_add_one, Nat.zero_lt_one, nI_add, pk_mul, ixL, vpL, ne_eq, reduceIte, wI_sA, sA_same, sA_ne, sA_sA, sA_comm, uI_at, uN_at, enc_at, uI_enc, uI_uI, itn1, itn2, itn3, itn4, itc, itc0, itc1, upM_s, upM_n]
    exact ⟨rfl, hP⟩
  have outer : ∀ f n t, n + f = 8 → PS τ0 T t (h + n) false d c a ρ → (∀ w, w < 9 → t.1 (39, 0, 0) w = nI (bN (mt T h w n))) → anyU T h n 9 = true → wdR T h f n = R0 → ∀ al, (∀ z ∈ [(0, mM), (1, aI (nI n)), (2, aI (-1))], lk al z.1 = some z.2) → V x t 0 25 al [] := by
    intro f
    induction f with
    | zero =>
      intro n t hn hP h39 hany hR
      obtain ⟨w, w1, w2⟩ := anyU_ex hany
      have := mt_le w2
      have := (wl_le w w1).1
      omega
    | succ f ih =>
      intro n t hn hP h39 hany hR al hal
      refine V.sub ?_ hal
      have f20 := hP.2.1.2.2.1
      refine V_run hB (rt := some .int) (nL := 5) (mc := 0) rfl rfl rfl obX11_word_25 ?_
      dsimp only [bX11_word_25, ↓wpb, ↓wp1, ↓vI, ↓vL, ↓vD, ↓ldI, ↓ldL, ↓ldD, ↓ldR, ↓k1, ↓k2, ↓kI, ↓kL, ↓kD, ↓kII, ↓kLL, ↓kDD, ↓kR, ↓kIR, ↓kLR, ↓kIIR, ↓kLIR, ↓kDIR, ↓kRIR, ↓kNN, ↓kE, ↓br, ↓bn, ↓rtI, ↓gfv, ↓zchk, lput, ldel, lbad, alA, acat, isRf, dom, dS, dJ, isO, aTy, aLen, elAV, elR, Nat.reduceBEq, Nat.reduceAdd, Bool.or, Bool.and, Nat.add_zero, Nat.zero_add]
      try simp only [Nat.reduceLT, Nat.reduceLeDiff, Nat.reduceEqDiff, true_and, and_true, and_self, Nat.zero_le, Nat.le_refl, true_or, or_true, Bool.false_eq_true, not_false_eq_true, Nat.reduceAdd, Nat.lt_add_one, Nat.zero_lt_one, nI_add, pk_mul, ixL, vpL, ne_eq, reduceIte, wI_sA, sA_same, sA_ne, sA_sA, sA_comm, uI_at, uN_at, enc_at, uI_enc, uI_uI, itn1, itn2, itn3, itn4, itc, itc0, itc1, upM_s, upM_n, f20]
      refine ⟨fun q => absurd q (by decide), fun _ => ⟨fun q => absurd rfl q, fun _ => ?_⟩⟩
      have in167 : ∀ t, PS τ0 T t (h + (n + 1)) false d c a ρ → (∀ w, w < 9 → t.1 (39, 0, 0) w = nI (bN (mt T h w (n + 1)))) → anyU T h (n + 1) 9 = true → ∀ y, ∀ v w, w + v = 9 → V x t 0 167 [(0, mM), (1, aI (nI (n + 1))), (2, aI (oI (lwU T h (n + 1) w))), (3, aI y), (4, aI (nI w))] [] := by
        intro t hP h39 hany y v
        have f20 := hP.2.1.2.2.1
        have g41 := hP.1.2.2.2.2.2.2.2.2.2
        induction v with
        | zero =>
          intro w hw
          have hw : w = 9 := by omega
          subst hw
          refine V_run hB (rt := some .int) (nL := 5) (mc := 0) rfl rfl rfl obX11_word_167 ?_
          dsimp only [bX11_word_167, ↓wpb, ↓wp1, ↓vI, ↓vL, ↓vD, ↓ldI, ↓ldL, ↓ldD, ↓ldR, ↓k1, ↓k2, ↓kI, ↓kL, ↓kD, ↓kII, ↓kLL, ↓kDD, ↓kR, ↓kIR, ↓kLR, ↓kIIR, ↓kLIR, ↓kDIR, ↓kRIR, ↓kNN, ↓kE, ↓br, ↓bn, ↓rtI, ↓gfv, ↓zchk, lput, ldel, lbad, alA, acat, isRf, dom, dS, dJ, isO, aTy, aLen, elAV, elR, Nat.reduceBEq, Nat.reduceAdd, Bool.or, Bool.and, Nat.add_zero, Nat.zero_add]
          try simp only [Nat.reduceLT, Nat.reduceLeDiff, Nat.reduceEqDiff, true_and, and_true, and_self, Nat.zero_le, Nat.le_refl, true_or, or_true, Bool.false_eq_true, not_false_eq_true, Nat.reduceAdd, Nat.lt_add_one, Nat.zero_lt_one, nI_add, pk_mul, ixL, vpL, ne_eq, reduceIte, wI_sA, sA_same, sA_ne, sA_sA, sA_comm, uI_at, uN_at, enc_at, uI_enc, uI_uI, itn1, itn2, itn3, itn4, itc, itc0, itc1, upM_s, upM_n]
          refine ⟨fun _ => ?_, fun q => absurd (nI_le (by omega) (by omega)) q⟩
          refine V_run hB (rt := some .int) (nL := 5) (mc := 0) rfl rfl rfl obX11_word_219 ?_
          dsimp only [bX11_word_219, ↓wpb, ↓wp1, ↓vI, ↓vL, ↓vD, ↓ldI, ↓ldL, ↓ldD, ↓ldR, ↓k1, ↓k2, ↓kI, ↓kL, ↓kD, ↓kII, ↓kLL, ↓kDD, ↓kR, ↓kIR, ↓kLR, ↓kIIR, ↓kLIR, ↓kDIR, ↓kRIR, ↓kNN, ↓kE, ↓br, ↓bn, ↓rtI, ↓gfv, ↓zchk, lput, ldel, lbad, alA, acat, isRf, dom, dS, dJ, isO, aTy, aLen, elAV, elR, Nat.reduceBEq, Nat.reduceAdd, Bool.or, Bool.and, Nat.add_zero, Nat.zero_add]
          try simp only [Nat.reduceLT, Nat.reduceLeDiff, Nat.reduceEqDiff, true_and, and_true, and_self, Nat.zero_le, Nat.le_refl, true_or, or_true, Bool.false_eq_true, not_false_eq_true, Nat.reduceAdd, Nat.lt_add_one, Nat.zero_lt_one, nI_add, pk_mul, ixL, vpL, ne_eq, reduceIte, wI_sA, sA_same, sA_ne, sA_sA, sA_comm, uI_at, uN_at, enc_at, uI_enc, uI_uI, itn1, itn2, itn3, itn4, itc, itc0, itc1, upM_s, upM_n]
          have hR2 := hR
          unfold wdR at hR2
          rw [if_pos hany] at hR2
          cases e : lwU T h (n + 1) 9 with
          | none =>
            rw [e] at hR2
            exact ih (n + 1) t (by omega) hP h39 hany hR2 _ (List.forall_mem_cons.mpr ⟨rfl, List.forall_mem_cons.mpr ⟨rfl, List.forall_mem_cons.mpr ⟨rfl, fun _ h => absurd h List.not_mem_nil⟩⟩⟩)
          | some w =>
            rw [e] at hR2
            have hw9 := (lwU_lt e).1
            refine V_run hB (rt := some .int) (nL := 5) (mc := 0) rfl rfl rfl obX11_word_25 ?_
            dsimp only [bX11_word_25, ↓wpb, ↓wp1, ↓vI, ↓vL, ↓vD, ↓ldI, ↓ldL, ↓ldD, ↓ldR, ↓k1, ↓k2, ↓kI, ↓kL, ↓kD, ↓kII, ↓kLL, ↓kDD, ↓kR, ↓kIR, ↓kLR, ↓kIIR, ↓kLIR, ↓kDIR, ↓kRIR, ↓kNN, ↓kE, ↓br, ↓bn, ↓rtI, ↓gfv, ↓zchk, lput, ldel, lbad, alA, acat, isRf, dom, dS, dJ, isO, aTy, aLen, elAV, elR, Nat.reduceBEq, Nat.reduceAdd, Bool.or, Bool.and, Nat.add_zero, Nat.zero_add]
            try simp only [Nat.reduceLT, Nat.reduceLeDiff, Nat.reduceEqDiff, true_and, and_true, and_self, Nat.zero_le, Nat.le_refl, true_or, or_true, Bool.false_eq_true, not_false_eq_true, Nat.reduceAdd, Nat.lt_add_one, Nat.zero_lt_one, nI_add, pk_mul, ixL, vpL, ne_eq, reduceIte, wI_sA, sA_same, sA_ne, sA_sA, sA_comm, uI_at, uN_at, enc_at, uI_enc, uI_uI, itn1, itn2, itn3, itn4, itc, itc0, itc1, upM_s, upM_n]
            rw [oI_some]
            refine ⟨fun _ => fin t (some w) _ hR2 hP _ (List.forall_mem_cons.mpr ⟨rfl, List.forall_mem_cons.mpr ⟨rfl, fun _ h => absurd h List.not_mem_nil⟩⟩), fun q => absurd (nI_pos' (by omega)) q⟩
        | succ v ihv =>
          intro w hw
          have hw9 : w < 9 := by omega
          have ix : (nI w).toNatClampNeg = w := ixL (by omega)
          have vx9 : vp_in (nI w) 9 = True := vpL (by omega) (by omega)
          have vx10 : vp_in (nI w) 10 = True := vpL (by omega) (by omega)
          have ix1 : (nI (w + 1)).toNatClampNeg = w + 1 := ixL (by omega)
          have vx1 : vp_in (nI (w + 1)) 10 = True := vpL (by omega) (by omega)
          have a0 := wa_at w (by omega)
          have a1 := wa_at (w + 1) (by omega)
          have aw := wl_le w hw9
          have r0 := g41 w _ a0.1
          have r1 := g41 (w + 1) _ a1.1
          have hu : lwU T h (n + 1) (w + 1) = if mt T h w (n + 1) = true ∧ n + 1 = wl w then some w else lwU T h (n + 1) w := rfl
          have ihv' := ihv (w + 1) (by omega)
          rw [hu] at ihv'
          refine V_run hB (rt := some .int) (nL := 5) (mc := 0) rfl rfl rfl obX11_word_167 ?_
          dsimp only [bX11_word_167, ↓wpb, ↓wp1, ↓vI, ↓vL, ↓vD, ↓ldI, ↓ldL, ↓ldD, ↓ldR, ↓k1, ↓k2, ↓kI, ↓kL, ↓kD, ↓kII, ↓kLL, ↓kDD, ↓kR, ↓kIR, ↓kLR, ↓kIIR, ↓kLIR, ↓kDIR, ↓kRIR, ↓kNN, ↓kE, ↓br, ↓bn, ↓rtI, ↓gfv, ↓zchk, lput, ldel, lbad, alA, acat, isRf, dom, dS, dJ, isO, aTy, aLen, elAV, elR, Nat.reduceBEq, Nat.reduceAdd, Bool.or, Bool.and, Nat.add_zero, Nat.zero_add]
          try simp only [Nat.reduceLT, Nat.reduceLeDiff, Nat.reduceEqDiff, true_and, and_true, and_self, Nat.zero_le, Nat.le_refl, true_or, or_true, Bool.false_eq_true, not_false_eq_true, Nat.reduceAdd, Nat.lt_add_one, Nat.zero_lt_one, nI_add, pk_mul, ixL, vpL, ne_eq, reduceIte, wI_sA, sA_same, sA_ne, sA_sA, sA_comm, uI_at, uN_at, enc_at, uI_enc, uI_uI, itn1, itn2, itn3, itn4, itc, itc0, itc1, upM_s, upM_n, ix, vx9, vx10, ix1, vx1, r0, r1, h39 w hw9]
          refine ⟨fun q => absurd q (nI_ge (by omega) (by omega)), fun _ => ⟨fun q => ?_, fun q => ⟨fun q2 => ?_, fun q2 => ?_⟩⟩⟩
          · rw [bN_1] at q
            rw [if_neg (fun z => q z.1)] at ihv'
            refine V_run hB (rt := some .int) (nL := 5) (mc := 0) rfl rfl rfl obX11_word_211 ?_
            dsimp only [bX11_word_211, ↓wpb, ↓wp1, ↓vI, ↓vL, ↓vD, ↓ldI, ↓ldL, ↓ldD, ↓ldR, ↓k1, ↓k2, ↓kI, ↓kL, ↓kD, ↓kII, ↓kLL, ↓kDD, ↓kR, ↓kIR, ↓kLR, ↓kIIR, ↓kLIR, ↓kDIR, ↓kRIR, ↓kNN, ↓kE, ↓br, ↓bn, ↓rtI, ↓gfv, ↓zchk, lput, ldel, lbad, alA, acat, isRf, dom, dS, dJ, isO, aTy, aLen, elAV, elR, Nat.reduceBEq, Nat.reduceAdd, Bool.or, Bool.and, Nat.add_zero, Nat.zero_add]
            try simp only [Nat.reduceLT, Nat.reduceLeDiff, Nat.reduceEqDiff, true_and, and_true, and_self, Nat.zero_le, Nat.le_refl, true_or, or_true, Bool.false_eq_true, not_false_eq_true, Nat.reduceAdd, Nat.lt_add_one, Nat.zero_lt_one, nI_add, pk_mul, ixL, vpL, ne_eq, reduceIte, wI_sA, sA_same, sA_ne, sA_sA, sA_comm, uI_at, uN_at, enc_at, uI_enc, uI_uI, itn1, itn2, itn3, itn4, itc, itc0, itc1, upM_s, upM_n]
            exact ihv'
          · rw [nI_eq (by omega) (by omega)] at q2
            rw [if_neg (fun z => q2 (by omega))] at ihv'
            refine V_run hB (rt := some .int) (nL := 5) (mc := 0) rfl rfl rfl obX11_word_211 ?_
            dsimp only [bX11_word_211, ↓wpb, ↓wp1, ↓vI, ↓vL, ↓vD, ↓ldI, ↓ldL, ↓ldD, ↓ldR, ↓k1, ↓k2, ↓kI, ↓kL, ↓kD, ↓kII, ↓kLL, ↓kDD, ↓kR, ↓kIR, ↓kLR, ↓kIIR, ↓kLIR, ↓kDIR, ↓kRIR, ↓kNN, ↓kE, ↓br, ↓bn, ↓rtI, ↓gfv, ↓zchk, lput, ldel, lbad, alA, acat, isRf, dom, dS, dJ, isO, aTy, aLen, elAV, elR, Nat.reduceBEq, Nat.reduceAdd, Bool.or, Bool.and, Nat.add_zero, Nat.zero_add]
            try simp only [Nat.reduceLT, Nat.reduceLeDiff, Nat.reduceEqDiff, true_and, and_true, and_self, Nat.zero_le, Nat.le_refl, true_or, or_true, Bool.false_eq_true, not_false_eq_true, Nat.reduceAdd, Nat.lt_add_one, Nat.zero_lt_one, nI_add, pk_mul, ixL, vpL, ne_eq, reduceIte, wI_sA, sA_same, sA_ne, sA_sA, sA_comm, uI_at, uN_at, enc_at, uI_enc, uI_uI, itn1, itn2, itn3, itn4, itc, itc0, itc1, upM_s, upM_n]
            exact ihv'
          · rw [bN_1] at q
            rw [nI_eq (by omega) (by omega)] at q2
            rw [if_pos ⟨q, by omega⟩, oI_some] at ihv'
            refine V_run hB (rt := some .int) (nL := 5) (mc := 0) rfl rfl rfl obX11_word_212 ?_
            dsimp only [bX11_word_212, ↓wpb, ↓wp1, ↓vI, ↓vL, ↓vD, ↓ldI, ↓ldL, ↓ldD, ↓ldR, ↓k1, ↓k2, ↓kI, ↓kL, ↓kD, ↓kII, ↓kLL, ↓kDD, ↓kR, ↓kIR, ↓kLR, ↓kIIR, ↓kLIR, ↓kDIR, ↓kRIR, ↓kNN, ↓kE, ↓br, ↓bn, ↓rtI, ↓gfv, ↓zchk, lput, ldel, lbad, alA, acat, isRf, dom, dS, dJ, isO, aTy, aLen, elAV, elR, Nat.reduceBEq, Nat.reduceAdd, Bool.or, Bool.and, Nat.add_zero, Nat.zero_add]
            try simp only [Nat.reduceLT, Nat.reduceLeDiff, Nat.reduceEqDiff, true_and, and_true, and_self, Nat.zero_le, Nat.le_refl, true_or, or_true, Bool.false_eq_true, not_false_eq_true, Nat.reduceAdd, Nat.lt_add_one, Nat.zero_lt_one, nI_add, pk_mul, ixL, vpL, ne_eq, reduceIte, wI_sA, sA_same, sA_ne, sA_sA, sA_comm, uI_at, uN_at, enc_at, uI_enc, uI_uI, itn1, itn2, itn3, itn4, itc, itc0, itc1, upM_s, upM_n]
            exact ihv'
      have in41 : ∀ v w t, w + v = 9 → PS τ0 T t (h + n) false d c a ρ → (∀ u, u < 9 → t.1 (39, 0, 0) u = nI (bN (if u < w then mt T h u (n + 1) else mt T h u n))) → V x t 0 41 [(0, mM), (1, aI (nI n)), (2, aI (-1)), (3, aI (nI (bN (anyU T h (n + 1) w)))), (4, aI (nI w))] [] := by
        intro v
        induction v with
        | zero =>
          intro w t hw hP h39
          have hw : w = 9 := by omega
          subst hw
          have f17 := hP.2.1.1
          refine V_run hB (rt := some .int) (nL := 5) (mc := 0) rfl rfl rfl obX11_word_41 ?_
          dsimp only [bX11_word_41, ↓wpb, ↓wp1, ↓vI, ↓vL, ↓vD, ↓ldI, ↓ldL, ↓ldD, ↓ldR, ↓k1, ↓k2, ↓kI, ↓kL, ↓kD, ↓kII, ↓kLL, ↓kDD, ↓kR, ↓kIR, ↓kLR, ↓kIIR, ↓kLIR, ↓kDIR, ↓kRIR, ↓kNN, ↓kE, ↓br, ↓bn, ↓rtI, ↓gfv, ↓zchk, lput, ldel, lbad, alA, acat, isRf, dom, dS, dJ, isO, aTy, aLen, elAV, elR, Nat.reduceBEq, Nat.reduceAdd, Bool.or, Bool.and, Nat.add_zero, Nat.zero_add]
          try simp only [Nat.reduceLT, Nat.reduceLeDiff, Nat.reduceEqDiff, true_and, and_true, and_self, Nat.zero_le, Nat.le_refl, true_or, or_true, Bool.false_eq_true, not_false_eq_true, Nat.reduceAdd, Nat.lt_add_one, Nat.zero_lt_one, nI_add, pk_mul, ixL, vpL, ne_eq, reduceIte, wI_sA, sA_same, sA_ne, sA_sA, sA_comm, uI_at, uN_at, enc_at, uI_enc, uI_uI, itn1, itn2, itn3, itn4, itc, itc0, itc1, upM_s, upM_n]
          refine ⟨fun _ => ?_, fun q => absurd (nI_le (by omega) (by omega)) q⟩
          refine V_run hB (rt := some .int) (nL := 5) (mc := 0) rfl rfl rfl obX11_word_130 ?_
          dsimp only [bX11_word_130, ↓wpb, ↓wp1, ↓vI, ↓vL, ↓vD, ↓ldI, ↓ldL, ↓ldD, ↓ldR, ↓k1, ↓k2, ↓kI, ↓kL, ↓kD, ↓kII, ↓kLL, ↓kDD, ↓kR, ↓kIR, ↓kLR, ↓kIIR, ↓kLIR, ↓kDIR, ↓kRIR, ↓kNN, ↓kE, ↓br, ↓bn, ↓rtI, ↓gfv, ↓zchk, lput, ldel, lbad, alA, acat, isRf, dom, dS, dJ, isO, aTy, aLen, elAV, elR, Nat.reduceBEq, Nat.reduceAdd, Bool.or, Bool.and, Nat.add_zero, Nat.zero_add]
          try simp only [Nat.reduceLT, Nat.reduceLeDiff, Nat.reduceEqDiff, true_and, and_true, and_self, Nat.zero_le, Nat.le_refl, true_or, or_true, Bool.false_eq_true, not_false_eq_true, Nat.reduceAdd, Nat.lt_add_one, Nat.zero_lt_one, nI_add, pk_mul, ixL, vpL, ne_eq, reduceIte, wI_sA, sA_same, sA_ne, sA_sA, sA_comm, uI_at, uN_at, enc_at, uI_enc, uI_uI, itn1, itn2, itn3, itn4, itc, itc0, itc1, upM_s, upM_n, bN_0]
          cases e : anyU T h (n + 1) 9 with
          | true =>
            refine ⟨fun q => ?_, fun q => absurd q (by decide)⟩
            refine V_run hB (rt := some .int) (nL := 5) (mc := 0) rfl rfl rfl obX11_word_139 ?_
            dsimp only [bX11_word_139, ↓wpb, ↓wp1, ↓vI, ↓vL, ↓vD, ↓ldI, ↓ldL, ↓ldD, ↓ldR, ↓k1, ↓k2, ↓kI, ↓kL, ↓kD, ↓kII, ↓kLL, ↓kDD, ↓kR, ↓kIR, ↓kLR, ↓kIIR, ↓kLIR, ↓kDIR, ↓kRIR, ↓kNN, ↓kE, ↓br, ↓bn, ↓rtI, ↓gfv, ↓zchk, lput, ldel, lbad, alA, acat, isRf, dom, dS, dJ, isO, aTy, aLen, elAV, elR, Nat.reduceBEq, Nat.reduceAdd, Bool.or, Bool.and, Nat.add_zero, Nat.zero_add]
            try simp only [Nat.reduceLT, Nat.reduceLeDiff, Nat.reduceEqDiff, true_and, and_true, and_self, Nat.zero_le, Nat.le_refl, true_or, or_true, Bool.false_eq_true, not_false_eq_true, Nat.reduceAdd, Nat.lt_add_one, Nat.zero_lt_one, nI_add, pk_mul, ixL, vpL, ne_eq, reduceIte, wI_sA, sA_same, sA_ne, sA_sA, sA_comm, uI_at, uN_at, enc_at, uI_enc, uI_uI, itn1, itn2, itn3, itn4, itc, itc0, itc1, upM_s, upM_n, f17]
            refine ⟨Or.inl rfl, fun q => absurd q (by decide), fun _ => ?_⟩
            refine V_run hB (rt := some .int) (nL := 5) (mc := 0) rfl rfl rfl obX11_word_157 ?_
            dsimp only [bX11_word_157, ↓wpb, ↓wp1, ↓vI, ↓vL, ↓vD, ↓ldI, ↓ldL, ↓ldD, ↓ldR, ↓k1, ↓k2, ↓kI, ↓kL, ↓kD, ↓kII, ↓kLL, ↓kDD, ↓kR, ↓kIR, ↓kLR, ↓kIIR, ↓kLIR, ↓kDIR, ↓kRIR, ↓kNN, ↓kE, ↓br, ↓bn, ↓rtI, ↓gfv, ↓zchk, lput, ldel, lbad, alA, acat, isRf, dom, dS, dJ, isO, aTy, aLen, elAV, elR, Nat.reduceBEq, Nat.reduceAdd, Bool.or, Bool.and, Nat.add_zero, Nat.zero_add]
            try simp only [Nat.reduceLT, Nat.reduceLeDiff, Nat.reduceEqDiff, true_and, and_true, and_self, Nat.zero_le, Nat.le_refl, true_or, or_true, Bool.false_eq_true, not_false_eq_true, Nat.reduceAdd, Nat.lt_add_one, Nat.zero_lt_one, nI_add, pk_mul, ixL, vpL, ne_eq, reduceIte, wI_sA, sA_same, sA_ne, sA_sA, sA_comm, uI_at, uN_at, enc_at, uI_enc, uI_uI, itn1, itn2, itn3, itn4, itc, itc0, itc1, upM_s, upM_n, f17]
            obtain ⟨w, w1, w2⟩ := anyU_ex e
            have hl := mt_T w2 t2
            exact in167 _ (hP.f30 rfl rfl (fun k h1 h2 => by simp only [uI, if_neg h1, if_neg h2]) (by omega)) (fun u hu => by simp only [sA_same, sA_ne, ne_eq, Nat.reduceEqDiff, not_false_eq_true, not_true_eq_false]; rw [h39 u hu, if_pos hu]) e _ 9 0 (by omega)
          | false =>
            refine ⟨fun q => absurd rfl q, fun q => ?_⟩
            refine V_run hB (rt := some .int) (nL := 5) (mc := 0) rfl rfl rfl obX11_word_140 ?_
            dsimp only [bX11_word_140, ↓wpb, ↓wp1, ↓vI, ↓vL, ↓vD, ↓ldI, ↓ldL, ↓ldD, ↓ldR, ↓k1, ↓k2, ↓kI, ↓kL, ↓kD, ↓kII, ↓kLL, ↓kDD, ↓kR, ↓kIR, ↓kLR, ↓kIIR, ↓kLIR, ↓kDIR, ↓kRIR, ↓kNN, ↓kE, ↓br, ↓bn, ↓rtI, ↓gfv, ↓zchk, lput, ldel, lbad, alA, acat, isRf, dom, dS, dJ, isO, aTy, aLen, elAV, elR, Nat.reduceBEq, Nat.reduceAdd, Bool.or, Bool.and, Nat.add_zero, Nat.zero_add]
            try simp only [Nat.reduceLT, Nat.reduceLeDiff, Nat.reduceEqDiff, true_and, and_true, and_self, Nat.zero_le, Nat.le_refl, true_or, or_true, Bool.false_eq_true, not_false_eq_true, Nat.reduceAdd, Nat.lt_add_one, Nat.zero_lt_one, nI_add, pk_mul, ixL, vpL, ne_eq, reduceIte, wI_sA, sA_same, sA_ne, sA_sA, sA_comm, uI_at, uN_at, enc_at, uI_enc, uI_uI, itn1, itn2, itn3, itn4, itc, itc0, itc1, upM_s, upM_n, f17]
            refine ⟨Or.inr rfl, fun q => ?_, fun q => absurd rfl q⟩
            refine V_run hB (rt := some .int) (nL := 5) (mc := 0) rfl rfl rfl obX11_word_156 ?_
            dsimp only [bX11_word_156, ↓wpb, ↓wp1, ↓vI, ↓vL, ↓vD, ↓ldI, ↓ldL, ↓ldD, ↓ldR, ↓k1, ↓k2, ↓kI, ↓kL, ↓kD, ↓kII, ↓kLL, ↓kDD, ↓kR, ↓kIR, ↓kLR, ↓kIIR, ↓kLIR, ↓kDIR, ↓kRIR, ↓kNN, ↓kE, ↓br, ↓bn, ↓rtI, ↓gfv, ↓zchk, lput, ldel, lbad, alA, acat, isRf, dom, dS, dJ, isO, aTy, aLen, elAV, elR, Nat.reduceBEq, Nat.reduceAdd, Bool.or, Bool.and, Nat.add_zero, Nat.zero_add]
            try simp only [Nat.reduceLT, Nat.reduceLeDiff, Nat.reduceEqDiff, true_and, and_true, and_self, Nat.zero_le, Nat.le_refl, true_or, or_true, Bool.false_eq_true, not_false_eq_true, Nat.reduceAdd, Nat.lt_add_one, Nat.zero_lt_one, nI_add, pk_mul, ixL, vpL, ne_eq, reduceIte, wI_sA, sA_same, sA_ne, sA_sA, sA_comm, uI_at, uN_at, enc_at, uI_enc, uI_uI, itn1, itn2, itn3, itn4, itc, itc0, itc1, upM_s, upM_n, f17]
            have hR2 := hR
            unfold wdR at hR2
            rw [e, if_neg (by decide)] at hR2
            have hP2 : ∀ F : Nat → Int32, F 17 = nI (h + n) → F 20 = nI (bN true) → (∀ k, k ≠ 17 → k ≠ 20 → F k = t.1 (30, 0, 0) k) → PS τ0 T (sA t 30 F) (h + n) true d c a ρ := fun F h1 h2 h3 => hP.f30 h1 h2 h3 hP.2.2.2.1.2.1
            have g : ∀ v w t, w + v = 9 → PS τ0 T t (h + n) true d c a ρ → (∀ u, u < 9 → t.1 (39, 0, 0) u = nI 0) → ∀ (y : Int32) (z : Nat), V x t 0 167 [(0, mM), (1, aI (nI (n + 1))), (2, aI (-1)), (3, aI y), (4, aI (nI w))] [] := by
              intro v
              induction v with
              | zero =>
                intro w t hw hP h0 y _
                have hw : w = 9 := by omega
                subst hw
                have f20 := hP.2.1.2.2.1
                refine V_run hB (rt := some .int) (nL := 5) (mc := 0) rfl rfl rfl obX11_word_167 ?_
                dsimp only [bX11_word_167, ↓wpb, ↓wp1, ↓vI, ↓vL, ↓vD, ↓ldI, ↓ldL, ↓ldD, ↓ldR, ↓k1, ↓k2, ↓kI, ↓kL, ↓kD, ↓kII, ↓kLL, ↓kDD, ↓kR, ↓kIR, ↓kLR, ↓kIIR, ↓kLIR, ↓kDIR, ↓kRIR, ↓kNN, ↓kE, ↓br, ↓bn, ↓rtI, ↓gfv, ↓zchk, lput, ldel, lbad, alA, acat, isRf, dom, dS, dJ, isO, aTy, aLen, elAV, elR, Nat.reduceBEq, Nat.reduceAdd, Bool.or, Bool.and, Nat.add_zero, Nat.zero_add]
                try simp only [Nat.reduceLT, Nat.reduceLeDiff, Nat.reduceEqDiff, true_and, and_true, and_self, Nat.zero_le, Nat.le_refl, true_or, or_true, Bool.false_eq_true, not_false_eq_true, Nat.reduceAdd, Nat.lt_add_one, Nat.zero_lt_one, nI_add, pk_mul, ixL, vpL, ne_eq, reduceIte, wI_sA, sA_same, sA_ne, sA_sA, sA_comm, uI_at, uN_at, enc_at, uI_enc, uI_uI, itn1, itn2, itn3, itn4, itc, itc0, itc1, upM_s, upM_n]
                refine ⟨fun _ => ?_, fun q => absurd (nI_le (by omega) (by omega)) q⟩
                refine V_run hB (rt := some .int) (nL := 5) (mc := 0) rfl rfl rfl obX11_word_219 ?_
                dsimp only [bX11_word_219, ↓wpb, ↓wp1, ↓vI, ↓vL, ↓vD, ↓ldI, ↓ldL, ↓ldD, ↓ldR, ↓k1, ↓k2, ↓kI, ↓kL, ↓kD, ↓kII, ↓kLL, ↓kDD, ↓kR, ↓kIR, ↓kLR, ↓kIIR, ↓kLIR, ↓kDIR, ↓kRIR, ↓kNN, ↓kE, ↓br, ↓bn, ↓rtI, ↓gfv, ↓zchk, lput, ldel, lbad, alA, acat, isRf, dom, dS, dJ, isO, aTy, aLen, elAV, elR, Nat.reduceBEq, Nat.reduceAdd, Bool.or, Bool.and, Nat.add_zero, Nat.zero_add]
                try simp only [Nat.reduceLT, Nat.reduceLeDiff, Nat.reduceEqDiff, true_and, and_true, and_self, Nat.zero_le, Nat.le_refl, true_or, or_true, Bool.false_eq_true, not_false_eq_true, Nat.reduceAdd, Nat.lt_add_one, Nat.zero_lt_one, nI_add, pk_mul, ixL, vpL, ne_eq, reduceIte, wI_sA, sA_same, sA_ne, sA_sA, sA_comm, uI_at, uN_at, enc_at, uI_enc, uI_uI, itn1, itn2, itn3, itn4, itc, itc0, itc1, upM_s, upM_n]
                refine V_run hB (rt := some .int) (nL := 5) (mc := 0) rfl rfl rfl obX11_word_25 ?_
                dsimp only [bX11_word_25, ↓wpb, ↓wp1, ↓vI, ↓vL, ↓vD, ↓ldI, ↓ldL, ↓ldD, ↓ldR, ↓k1, ↓k2, ↓kI, ↓kL, ↓kD, ↓kII, ↓kLL, ↓kDD, ↓kR, ↓kIR, ↓kLR, ↓kIIR, ↓kLIR, ↓kDIR, ↓kRIR, ↓kNN, ↓kE, ↓br, ↓bn, ↓rtI, ↓gfv, ↓zchk, lput, ldel, lbad, alA, acat, isRf, dom, dS, dJ, isO, aTy, aLen, elAV, elR, Nat.reduceBEq, Nat.reduceAdd, Bool.or, Bool.and, Nat.add_zero, Nat.zero_add]
                try simp only [Nat.reduceLT, Nat.reduceLeDiff, Nat.reduceEqDiff, true_and, and_true, and_self, Nat.zero_le, Nat.le_refl, true_or, or_true, Bool.false_eq_true, not_false_eq_true, Nat.reduceAdd, Nat.lt_add_one, Nat.zero_lt_one, nI_add, pk_mul, ixL, vpL, ne_eq, reduceIte, wI_sA, sA_same, sA_ne, sA_sA, sA_comm, uI_at, uN_at, enc_at, uI_enc, uI_uI, itn1, itn2, itn3, itn4, itc, itc0, itc1, upM_s, upM_n, f20]
                exact ⟨fun q => absurd q (by decide), fun _ => ⟨fun _ => fin t none _ hR2 hP _ (List.forall_mem_cons.mpr ⟨rfl, List.forall_mem_cons.mpr ⟨rfl, fun _ h => absurd h List.not_mem_nil⟩⟩), fun q => absurd q (by decide)⟩⟩
              | succ v ihv =>
                intro w t hw hP h0 y z
                have hw9 : w < 9 := by omega
                have ix : (nI w).toNatClampNeg = w := ixL (by omega)
                have vx9 : vp_in (nI w) 9 = True := vpL (by omega) (by omega)
                refine V_run hB (rt := some .int) (nL := 5) (mc := 0) rfl rfl rfl obX11_word_167 ?_
                dsimp only [bX11_word_167, ↓wpb, ↓wp1, ↓vI, ↓vL, ↓vD, ↓ldI, ↓ldL, ↓ldD, ↓ldR, ↓k1, ↓k2, ↓kI, ↓kL, ↓kD, ↓kII, ↓kLL, ↓kDD, ↓kR, ↓kIR, ↓kLR, ↓kIIR, ↓kLIR, ↓kDIR, ↓kRIR, ↓kNN, ↓kE, ↓br, ↓bn, ↓rtI, ↓gfv, ↓zchk, lput, ldel, lbad, alA, acat, isRf, dom, dS, dJ, isO, aTy, aLen, elAV, elR, Nat.reduceBEq, Nat.reduceAdd, Bool.or, Bool.and, Nat.add_zero, Nat.zero_add]
                try simp only [Nat.reduceLT, Nat.reduceLeDiff, Nat.reduceEqDiff, true_and, and_true, and_self, Nat.zero_le, Nat.le_refl, true_or, or_true, Bool.false_eq_true, not_false_eq_true, Nat.reduceAdd, Nat.lt_add_one, Nat.zero_lt_one, nI_add, pk_mul, ixL, vpL, ne_eq, reduceIte, wI_sA, sA_same, sA_ne, sA_sA, sA_comm, uI_at, uN_at, enc_at, uI_enc, uI_uI, itn1, itn2, itn3, itn4, itc, itc0, itc1, upM_s, upM_n, ix, vx9, h0 w hw9]
                refine ⟨fun q => absurd q (nI_ge (by omega) (by omega)), fun _ => ⟨fun q => ?_, fun q => absurd q (by decide)⟩⟩
                refine V_run hB (rt := some .int) (nL := 5) (mc := 0) rfl rfl rfl obX11_word_211 ?_
                dsimp only [bX11_word_211, ↓wpb, ↓wp1, ↓vI, ↓vL, ↓vD, ↓ldI, ↓ldL, ↓ldD, ↓ldR, ↓k1, ↓k2, ↓kI, ↓kL, ↓kD, ↓kII, ↓kLL, ↓kDD, ↓kR, ↓kIR, ↓kLR, ↓kIIR, ↓kLIR, ↓kDIR, ↓kRIR, ↓kNN, ↓kE, ↓br, ↓bn, ↓rtI, ↓gfv, ↓zchk, lput, ldel, lbad, alA, acat, isRf, dom, dS, dJ, isO, aTy, aLen, elAV, elR, Nat.reduceBEq, Nat.reduceAdd, Bool.or, Bool.and, Nat.add_zero, Nat.zero_add]
                try simp only [Nat.reduceLT, Nat.reduceLeDiff, Nat.reduceEqDiff, true_and, and_true, and_self, Nat.zero_le, Nat.le_refl, true_or, or_true, Bool.false_eq_true, not_false_eq_true, Nat.reduceAdd, Nat.lt_add_one, Nat.zero_lt_one, nI_add, pk_mul, ixL, vpL, ne_eq, reduceIte, wI_sA, sA_same, sA_ne, sA_sA, sA_comm, uI_at, uN_at, enc_at, uI_enc, uI_uI, itn1, itn2, itn3, itn4, itc, itc0, itc1, upM_s, upM_n]
                exact ihv (w + 1) t (by omega) hP h0 y z
            exact g 9 0 _ (by omega) (hP2 _ rfl rfl (fun k h1 h2 => by simp only [uI, if_neg h1, if_neg h2])) (fun u hu => by
              simp only [sA_same, sA_ne, ne_eq, Nat.reduceEqDiff, not_false_eq_true, not_true_eq_false]
              rw [h39 u hu, if_pos hu]
              have : mt T h u (n + 1) = false := by
                cases q : mt T h u (n + 1) with
                | false => rfl
                | true =>
                  have : ∀ k, u < k → anyU T h (n + 1) k = true := by
                    intro k
                    induction k with
                    | zero => intro z; omega
                    | succ k ik =>
                      intro z
                      unfold anyU
                      by_cases y : u = k
                      · subst y; rw [q, Bool.or_true]
                      · rw [ik (by omega), Bool.true_or]
                  rw [this 9 hu] at e
                  cases e
              rw [this]
              rfl) _ 0
        | succ v ihv =>
          intro w t hw hP h39
          have hw9 : w < 9 := by omega
          have ix : (nI w).toNatClampNeg = w := ixL (by omega)
          have vx9 : vp_in (nI w) 9 = True := vpL (by omega) (by omega)
          have vx10 : vp_in (nI w) 10 = True := vpL (by omega) (by omega)
          have ix1 : (nI (w + 1)).toNatClampNeg = w + 1 := ixL (by omega)
          have vx1 : vp_in (nI (w + 1)) 10 = True := vpL (by omega) (by omega)
          have a0 := wa_at w (by omega)
          have a1 := wa_at (w + 1) (by omega)
          have aw := wl_le w hw9
          have g41 := hP.1.2.2.2.2.2.2.2.2.2
          have g40 := hP.1.2.2.2.2.2.2.2.2.1
          have r0 := g41 w _ a0.1
          have r1 := g41 (w + 1) _ a1.1
          have m0 := h39 w hw9
          rw [if_neg (Nat.lt_irrefl w)] at m0
          have hu : anyU T h (n + 1) (w + 1) = (anyU T h (n + 1) w || mt T h w (n + 1)) := rfl
          have hm : mt T h w (n + 1) = (mt T h w n && (decide (n < wl w) && decide (T[h + n]? = some (wd w n)))) := rfl
          have nx : ∀ b : Bool, b = mt T h w (n + 1) → V x (sA t 39 (uI (t.1 (39, 0, 0)) w (nI (bN b)))) 0 41 [(0, mM), (1, aI (nI n)), (2, aI (-1)), (3, aI (nI (bN (anyU T h (n + 1) w || b)))), (4, aI (nI (w + 1)))] [] := by
            intro b hb
            subst hb
            rw [← hu]
            refine ihv (w + 1) _ (by omega) (hP.s39 _) (fun u hu9 => ?_)
            rw [sA_same]
            simp only [uI]
            by_cases y : u = w
            · subst y
              rw [if_pos rfl, if_pos (by omega)]
            · rw [if_neg y, h39 u hu9]
              by_cases z : u < w
              · rw [if_pos z, if_pos (by omega)]
              · rw [if_neg z, if_neg (by omega)]
          have k102 : mt T h w (n + 1) = false → V x t 0 102 [(0, mM), (1, aI (nI n)), (2, aI (-1)), (3, aI (nI (bN (anyU T h (n + 1) w)))), (4, aI (nI w))] [aI (nI (bN (mt T h w n))), aI (nI w), .inr (39, 0, 0)] := by
            intro hf
            have e0 : nI (bN (mt T h w n)) &&& nI 0 = nI (bN (mt T h w (n + 1))) := by rw [hf]; cases mt T h w n <;> decide
            have nx' := nx _ rfl
            rw [hf] at e0
            rw [hf] at nx'
            rw [Bool.or_false] at nx'
            refine V_run hB (rt := some .int) (nL := 5) (mc := 0) rfl rfl rfl obX11_word_102 ?_
            dsimp only [bX11_word_102, ↓wpb, ↓wp1, ↓vI, ↓vL, ↓vD, ↓ldI, ↓ldL, ↓ldD, ↓ldR, ↓k1, ↓k2, ↓kI, ↓kL, ↓kD, ↓kII, ↓kLL, ↓kDD, ↓kR, ↓kIR, ↓kLR, ↓kIIR, ↓kLIR, ↓kDIR, ↓kRIR, ↓kNN, ↓kE, ↓br, ↓bn, ↓rtI, ↓gfv, ↓zchk, lput, ldel, lbad, alA, acat, isRf, dom, dS, dJ, isO, aTy, aLen, elAV, elR, Nat.reduceBEq, Nat.reduceAdd, Bool.or, Bool.and, Nat.add_zero, Nat.zero_add]
            try simp only [Nat.reduceLT, Nat.reduceLeDiff, Nat.reduceEqDiff, true_and, and_true, and_self, Nat.zero_le, Nat.le_refl, true_or, or_true, Bool.false_eq_true, not_false_eq_true, Nat.reduceAdd, Nat.lt_add_one, Nat.zero_lt_one, nI_add, pk_mul, ixL, vpL, ne_eq, reduceIte, wI_sA, sA_same, sA_ne, sA_sA, sA_comm, uI_at, uN_at, enc_at, uI_enc, uI_uI, itn1, itn2, itn3, itn4, itc, itc0, itc1, upM_s, upM_n, ix, vx9, e0]
            refine ⟨fun q => ?_, fun q => absurd q (by decide)⟩
            refine V_run hB (rt := some .int) (nL := 5) (mc := 0) rfl rfl rfl obX11_word_121 ?_
            dsimp only [bX11_word_121, ↓wpb, ↓wp1, ↓vI, ↓vL, ↓vD, ↓ldI, ↓ldL, ↓ldD, ↓ldR, ↓k1, ↓k2, ↓kI, ↓kL, ↓kD, ↓kII, ↓kLL, ↓kDD, ↓kR, ↓kIR, ↓kLR, ↓kIIR, ↓kLIR, ↓kDIR, ↓kRIR, ↓kNN, ↓kE, ↓br, ↓bn, ↓rtI, ↓gfv, ↓zchk, lput, ldel, lbad, alA, acat, isRf, dom, dS, dJ, isO, aTy, aLen, elAV, elR, Nat.reduceBEq, Nat.reduceAdd, Bool.or, Bool.and, Nat.add_zero, Nat.zero_add]
            try simp only [Nat.reduceLT, Nat.reduceLeDiff, Nat.reduceEqDiff, true_and, and_true, and_self, Nat.zero_le, Nat.le_refl, true_or, or_true, Bool.false_eq_true, not_false_eq_true, Nat.reduceAdd, Nat.lt_add_one, Nat.zero_lt_one, nI_add, pk_mul, ixL, vpL, ne_eq, reduceIte, wI_sA, sA_same, sA_ne, sA_sA, sA_comm, uI_at, uN_at, enc_at, uI_enc, uI_uI, itn1, itn2, itn3, itn4, itc, itc0, itc1, upM_s, upM_n]
            have e1 : nI (bN (anyU T h (n + 1) w)) ||| nI 0 = nI (bN (anyU T h (n + 1) w)) := by cases anyU T h (n + 1) w <;> decide
            rw [e1]
            exact nx'
          refine V_run hB (rt := some .int) (nL := 5) (mc := 0) rfl rfl rfl obX11_word_41 ?_
          dsimp only [bX11_word_41, ↓wpb, ↓wp1, ↓vI, ↓vL, ↓vD, ↓ldI, ↓ldL, ↓ldD, ↓ldR, ↓k1, ↓k2, ↓kI, ↓kL, ↓kD, ↓kII, ↓kLL, ↓kDD, ↓kR, ↓kIR, ↓kLR, ↓kIIR, ↓kLIR, ↓kDIR, ↓kRIR, ↓kNN, ↓kE, ↓br, ↓bn, ↓rtI, ↓gfv, ↓zchk, lput, ldel, lbad, alA, acat, isRf, dom, dS, dJ, isO, aTy, aLen, elAV, elR, Nat.reduceBEq, Nat.reduceAdd, Bool.or, Bool.and, Nat.add_zero, Nat.zero_add]
          try simp only [Nat.reduceLT, Nat.reduceLeDiff, Nat.reduceEqDiff, true_and, and_true, and_self, Nat.zero_le, Nat.le_refl, true_or, or_true, Bool.false_eq_true, not_false_eq_true, Nat.reduceAdd, Nat.lt_add_one, Nat.zero_lt_one, nI_add, pk_mul, ixL, vpL, ne_eq, reduceIte, wI_sA, sA_same, sA_ne, sA_sA, sA_comm, uI_at, uN_at, enc_at, uI_enc, uI_uI, itn1, itn2, itn3, itn4, itc, itc0, itc1, upM_s, upM_n, ix, vx9, vx10, ix1, vx1, r0, r1, m0]
          refine ⟨fun q => absurd q (nI_ge (by omega) (by omega)), fun _ => ⟨fun q => ?_, fun q => ?_⟩⟩
          · rw [nI_leI (by omega) (by omega)] at q
            exact k102 (by rw [hm, decide_eq_false (show ¬ n < wl w by omega)]; simp)
          · rw [nI_leI (by omega) (by omega)] at q
            have hnw : n < wl w := by omega
            obtain ⟨d1, d2, d3⟩ := wd_at w hw9 n hnw
            have r2 := g40 _ _ d1
            have ix2 : (nI (wa w + n)).toNatClampNeg = wa w + n := ixL (by omega)
            have vx2 : vp_in (nI (wa w + n)) 53 = True := vpL (by omega) (by omega)
            simp only [ix2, vx2, r2, true_and]
            refine V_cV hB hno (q_sign hc hP) rfl (by decide +kernel) cvX11_198 (dom1 rfl) npX11_sign ⟨by decide, by decide⟩ (Nat.le_of_ble_eq_true rfl) (n' := 0) (by decide) rfl ?_
            refine V_run hB (rt := some .int) (nL := 5) (mc := 0) rfl rfl rfl obX11_word_95 ?_
            dsimp only [bX11_word_95, ↓wpb, ↓wp1, ↓vI, ↓vL, ↓vD, ↓ldI, ↓ldL, ↓ldD, ↓ldR, ↓k1, ↓k2, ↓kI, ↓kL, ↓kD, ↓kII, ↓kLL, ↓kDD, ↓kR, ↓kIR, ↓kLR, ↓kIIR, ↓kLIR, ↓kDIR, ↓kRIR, ↓kNN, ↓kE, ↓br, ↓bn, ↓rtI, ↓gfv, ↓zchk, lput, ldel, lbad, alA, acat, isRf, dom, dS, dJ, isO, aTy, aLen, elAV, elR, Nat.reduceBEq, Nat.reduceAdd, Bool.or, Bool.and, Nat.add_zero, Nat.zero_add]
            try simp only [Nat.reduceLT, Nat.reduceLeDiff, Nat.reduceEqDiff, true_and, and_true, and_self, Nat.zero_le, Nat.le_refl, true_or, or_true, Bool.false_eq_true, not_false_eq_true, Nat.reduceAdd, Nat.lt_add_one, Nat.zero_lt_one, nI_add, pk_mul, ixL, vpL, ne_eq, reduceIte, wI_sA, sA_same, sA_ne, sA_sA, sA_comm, uI_at, uN_at, enc_at, uI_enc, uI_uI, itn1, itn2, itn3, itn4, itc, itc0, itc1, upM_s, upM_n]
            refine ⟨fun q => ?_, fun q => ?_⟩
            · refine k102 ?_
              rw [hm, decide_eq_false (show ¬ T[h + n]? = some (wd w n) from fun z => q ((sg_eq t3 (by omega)).mpr z).symm)]
              simp
            · have q := (sg_eq t3 (by omega)).mp q.symm
              have hm1 : mt T h w (n + 1) = mt T h w n := by rw [hm, decide_eq_true hnw, decide_eq_true q]; simp
              have nx' := nx _ rfl
              rw [hm1] at nx'
              have e1 : nI (bN (mt T h w n)) &&& nI 1 = nI (bN (mt T h w n)) := by cases mt T h w n <;> decide
              refine V_run hB (rt := some .int) (nL := 5) (mc := 0) rfl rfl rfl obX11_word_103 ?_
              dsimp only [bX11_word_103, ↓wpb, ↓wp1, ↓vI, ↓vL, ↓vD, ↓ldI, ↓ldL, ↓ldD, ↓ldR, ↓k1, ↓k2, ↓kI, ↓kL, ↓kD, ↓kII, ↓kLL, ↓kDD, ↓kR, ↓kIR, ↓kLR, ↓kIIR, ↓kLIR, ↓kDIR, ↓kRIR, ↓kNN, ↓kE, ↓br, ↓bn, ↓rtI, ↓gfv, ↓zchk, lput, ldel, lbad, alA, acat, isRf, dom, dS, dJ, isO, aTy, aLen, elAV, elR, Nat.reduceBEq, Nat.reduceAdd, Bool.or, Bool.and, Nat.add_zero, Nat.zero_add]
              try simp only [Nat.reduceLT, Nat.reduceLeDiff, Nat.reduceEqDiff, true_and, and_true, and_self, Nat.zero_le, Nat.le_refl, true_or, or_true, Bool.false_eq_true, not_false_eq_true, Nat.reduceAdd, Nat.lt_add_one, Nat.zero_lt_one, nI_add, pk_mul, ixL, vpL, ne_eq, reduceIte, wI_sA, sA_same, sA_ne, sA_sA, sA_comm, uI_at, uN_at, enc_at, uI_enc, uI_uI, itn1, itn2, itn3, itn4, itc, itc0, itc1, upM_s, upM_n, ix, vx9, e1]
              refine ⟨fun q => ?_, fun q => ?_⟩
              · rw [bN_1] at q
                have q : mt T h w n = false := by simpa using q
                rw [q, Bool.or_false] at nx'
                refine V_run hB (rt := some .int) (nL := 5) (mc := 0) rfl rfl rfl obX11_word_121 ?_
                dsimp only [bX11_word_121, ↓wpb, ↓wp1, ↓vI, ↓vL, ↓vD, ↓ldI, ↓ldL, ↓ldD, ↓ldR, ↓k1, ↓k2, ↓kI, ↓kL, ↓kD, ↓kII, ↓kLL, ↓kDD, ↓kR, ↓kIR, ↓kLR, ↓kIIR, ↓kLIR, ↓kDIR, ↓kRIR, ↓kNN, ↓kE, ↓br, ↓bn, ↓rtI, ↓gfv, ↓zchk, lput, ldel, lbad, alA, acat, isRf, dom, dS, dJ, isO, aTy, aLen, elAV, elR, Nat.reduceBEq, Nat.reduceAdd, Bool.or, Bool.and, Nat.add_zero, Nat.zero_add]
                try simp only [Nat.reduceLT, Nat.reduceLeDiff, Nat.reduceEqDiff, true_and, and_true, and_self, Nat.zero_le, Nat.le_refl, true_or, or_true, Bool.false_eq_true, not_false_eq_true, Nat.reduceAdd, Nat.lt_add_one, Nat.zero_lt_one, nI_add, pk_mul, ixL, vpL, ne_eq, reduceIte, wI_sA, sA_same, sA_ne, sA_sA, sA_comm, uI_at, uN_at, enc_at, uI_enc, uI_uI, itn1, itn2, itn3, itn4, itc, itc0, itc1, upM_s, upM_n]
                have e1 : nI (bN (anyU T h (n + 1) w)) ||| nI 0 = nI (bN (anyU T h (n + 1) w)) := by cases anyU T h (n + 1) w <;> decide
                rw [e1, q]
                exact nx'
              · rw [bN_1] at q
                rw [q, Bool.or_true] at nx'
                refine V_run hB (rt := some .int) (nL := 5) (mc := 0) rfl rfl rfl obX11_word_122 ?_
                dsimp only [bX11_word_122, ↓wpb, ↓wp1, ↓vI, ↓vL, ↓vD, ↓ldI, ↓ldL, ↓ldD, ↓ldR, ↓k1, ↓k2, ↓kI, ↓kL, ↓kD, ↓kII, ↓kLL, ↓kDD, ↓kR, ↓kIR, ↓kLR, ↓kIIR, ↓kLIR, ↓kDIR, ↓kRIR, ↓kNN, ↓kE, ↓br, ↓bn, ↓rtI, ↓gfv, ↓zchk, lput, ldel, lbad, alA, acat, isRf, dom, dS, dJ, isO, aTy, aLen, elAV, elR, Nat.reduceBEq, Nat.reduceAdd, Bool.or, Bool.and, Nat.add_zero, Nat.zero_add]
                try simp only [Nat.reduceLT, Nat.reduceLeDiff, Nat.reduceEqDiff, true_and, and_true, and_self, Nat.zero_le, Nat.le_refl, true_or, or_true, Bool.false_eq_true, not_false_eq_true, Nat.reduceAdd, Nat.lt_add_one, Nat.zero_lt_one, nI_add, pk_mul, ixL, vpL, ne_eq, reduceIte, wI_sA, sA_same, sA_ne, sA_sA, sA_comm, uI_at, uN_at, enc_at, uI_enc, uI_uI, itn1, itn2, itn3, itn4, itc, itc0, itc1, upM_s, upM_n]
                have e1 : nI (bN (anyU T h (n + 1) w)) ||| nI 1 = nI (bN true) := by cases anyU T h (n + 1) w <;> decide
                rw [e1, q]
                exact nx'
      exact in41 9 0 t (by omega) hP (fun u hu => by rw [if_neg (by omega)]; exact h39 u hu)
  have in2 : ∀ v w t, w + v = 9 → PS τ0 T t h false d c a ρ → (∀ u, u < w → t.1 (39, 0, 0) u = nI 1) → V x t 0 2 [(0, mM), (1, aI (nI w))] [] := by
    intro v
    induction v with
    | zero =>
      intro w t hw hP h39
      have hw : w = 9 := by omega
      subst hw
      refine V_run hB (rt := some .int) (nL := 5) (mc := 0) rfl rfl rfl obX11_word_2 ?_
      dsimp only [bX11_word_2, ↓wpb, ↓wp1, ↓vI, ↓vL, ↓vD, ↓ldI, ↓ldL, ↓ldD, ↓ldR, ↓k1, ↓k2, ↓kI, ↓kL, ↓kD, ↓kII, ↓kLL, ↓kDD, ↓kR, ↓kIR, ↓kLR, ↓kIIR, ↓kLIR, ↓kDIR, ↓kRIR, ↓kNN, ↓kE, ↓br, ↓bn, ↓rtI, ↓gfv, ↓zchk, lput, ldel, lbad, alA, acat, isRf, dom, dS, dJ, isO, aTy, aLen, elAV, elR, Nat.reduceBEq, Nat.reduceAdd, Bool.or, Bool.and, Nat.add_zero, Nat.zero_add]
      try simp only [Nat.reduceLT, Nat.reduceLeDiff, Nat.reduceEqDiff, true_and, and_true, and_self, Nat.zero_le, Nat.le_refl, true_or, or_true, Bool.false_eq_true, not_false_eq_true, Nat.reduceAdd, Nat.lt_add_one, Nat.zero_lt_one, nI_add, pk_mul, ixL, vpL, ne_eq, reduceIte, wI_sA, sA_same, sA_ne, sA_sA, sA_comm, uI_at, uN_at, enc_at, uI_enc, uI_uI, itn1, itn2, itn3, itn4, itc, itc0, itc1, upM_s, upM_n]
      refine ⟨fun _ => ?_, fun q => absurd (nI_le (by omega) (by omega)) q⟩
      refine V_run hB (rt := some .int) (nL := 5) (mc := 0) rfl rfl rfl obX11_word_21 ?_
      dsimp only [bX11_word_21, ↓wpb, ↓wp1, ↓vI, ↓vL, ↓vD, ↓ldI, ↓ldL, ↓ldD, ↓ldR, ↓k1, ↓k2, ↓kI, ↓kL, ↓kD, ↓kII, ↓kLL, ↓kDD, ↓kR, ↓kIR, ↓kLR, ↓kIIR, ↓kLIR, ↓kDIR, ↓kRIR, ↓kNN, ↓kE, ↓br, ↓bn, ↓rtI, ↓gfv, ↓zchk, lput, ldel, lbad, alA, acat, isRf, dom, dS, dJ, isO, aTy, aLen, elAV, elR, Nat.reduceBEq, Nat.reduceAdd, Bool.or, Bool.and, Nat.add_zero, Nat.zero_add]
      try simp only [Nat.reduceLT, Nat.reduceLeDiff, Nat.reduceEqDiff, true_and, and_true, and_self, Nat.zero_le, Nat.le_refl, true_or, or_true, Bool.false_eq_true, not_false_eq_true, Nat.reduceAdd, Nat.lt_add_one, Nat.zero_lt_one, nI_add, pk_mul, ixL, vpL, ne_eq, reduceIte, wI_sA, sA_same, sA_ne, sA_sA, sA_comm, uI_at, uN_at, enc_at, uI_enc, uI_uI, itn1, itn2, itn3, itn4, itc, itc0, itc1, upM_s, upM_n]
      exact outer 8 0 t (by omega) hP (fun u hu => h39 u hu) rfl hR0 _ (List.forall_mem_cons.mpr ⟨rfl, List.forall_mem_cons.mpr ⟨rfl, List.forall_mem_cons.mpr ⟨rfl, fun _ h => absurd h List.not_mem_nil⟩⟩⟩)
    | succ v ihv =>
      intro w t hw hP h39
      have ix : (nI w).toNatClampNeg = w := ixL (by omega)
      have vx9 : vp_in (nI w) 9 = True := vpL (by omega) (by omega)
      refine V_run hB (rt := some .int) (nL := 5) (mc := 0) rfl rfl rfl obX11_word_2 ?_
      dsimp only [bX11_word_2, ↓wpb, ↓wp1, ↓vI, ↓vL, ↓vD, ↓ldI, ↓ldL, ↓ldD, ↓ldR, ↓k1, ↓k2, ↓kI, ↓kL, ↓kD, ↓kII, ↓kLL, ↓kDD, ↓kR, ↓kIR, ↓kLR, ↓kIIR, ↓kLIR, ↓kDIR, ↓kRIR, ↓kNN, ↓kE, ↓br, ↓bn, ↓rtI, ↓gfv, ↓zchk, lput, ldel, lbad, alA, acat, isRf, dom, dS, dJ, isO, aTy, aLen, elAV, elR, Nat.reduceBEq, Nat.reduceAdd, Bool.or, Bool.and, Nat.add_zero, Nat.zero_add]
      try simp only [Nat.reduceLT, Nat.reduceLeDiff, Nat.reduceEqDiff, true_and, and_true, and_self, Nat.zero_le, Nat.le_refl, true_or, or_true, Bool.false_eq_true, not_false_eq_true, Nat.reduceAdd, Nat.lt_add_one, Nat.zero_lt_one, nI_add, pk_mul, ixL, vpL, ne_eq, reduceIte, wI_sA, sA_same, sA_ne, sA_sA, sA_comm, uI_at, uN_at, enc_at, uI_enc, uI_uI, itn1, itn2, itn3, itn4, itc, itc0, itc1, upM_s, upM_n, ix, vx9]
      refine ⟨fun q => absurd q (nI_ge (by omega) (by omega)), fun _ => ?_⟩
      refine ihv (w + 1) _ (by omega) (hP.s39 _) (fun u hu => ?_)
      rw [sA_same]
      simp only [uI]
      by_cases y : u = w
      · rw [if_pos y]
      · rw [if_neg y]; exact h39 u (by omega)
  refine V_run hB (rt := some .int) (nL := 5) (mc := 0) rfl rfl rfl obX11_word_0 ?_
  dsimp only [bX11_word_0, ↓wpb, ↓wp1, ↓vI, ↓vL, ↓vD, ↓ldI, ↓ldL, ↓ldD, ↓ldR, ↓k1, ↓k2, ↓kI, ↓kL, ↓kD, ↓kII, ↓kLL, ↓kDD, ↓kR, ↓kIR, ↓kLR, ↓kIIR, ↓kLIR, ↓kDIR, ↓kRIR, ↓kNN, ↓kE, ↓br, ↓bn, ↓rtI, ↓gfv, ↓zchk, lput, ldel, lbad, alA, acat, isRf, dom, dS, dJ, isO, aTy, aLen, elAV, elR, Nat.reduceBEq, Nat.reduceAdd, Bool.or, Bool.and, Nat.add_zero, Nat.zero_add]
  try simp only [Nat.reduceLT, Nat.reduceLeDiff, Nat.reduceEqDiff, true_and, and_true, and_self, Nat.zero_le, Nat.le_refl, true_or, or_true, Bool.false_eq_true, not_false_eq_true, Nat.reduceAdd, Nat.lt_add_one, Nat.zero_lt_one, nI_add, pk_mul, ixL, vpL, ne_eq, reduceIte, wI_sA, sA_same, sA_ne, sA_sA, sA_comm, uI_at, uN_at, enc_at, uI_enc, uI_uI, itn1, itn2, itn3, itn4, itc, itc0, itc1, upM_s, upM_n]
  exact in2 9 0 τ (by omega) hP (fun u hu => absurd hu (Nat.not_lt_zero _))
end MO
