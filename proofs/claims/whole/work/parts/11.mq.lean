/-! ===== programs: all commands; execute ===== -/
/-- a program's reading from h on: whether it is wrong, its commands, where it ends or goes wrong -/
def pgR (T : List Nat) : Nat → Nat → Bool × List Cmd × Nat
  | 0, h => (true, [], h)
  | f + 1, h => if (cmdR T h).1 = true then (true, [], (cmdR T h).2.2) else if T.length ≤ (cmdR T h).2.2 then (false, [(cmdR T h).2.1], (cmdR T h).2.2) else
    if T[(cmdR T h).2.2]? = some 59 then ((pgR T f ((cmdR T h).2.2 + 1)).1, (cmdR T h).2.1 :: (pgR T f ((cmdR T h).2.2 + 1)).2.1, (pgR T f ((cmdR T h).2.2 + 1)).2.2) else (true, [], (cmdR T h).2.2)
/-- commands done one after the other: the code, how many were begun, the row -/
def rn (a : Nat → Nat) : List Cmd → Nat × Nat × (Nat → Nat)
  | [] => (0, 0, a)
  | m :: L => if (doS a m).1 = 0 then ((rn (doS a m).2.2 L).1, (rn (doS a m).2.2 L).2.1 + 1, (rn (doS a m).2.2 L).2.2) else ((doS a m).1, 1, (doS a m).2.2)
theorem pgR_len (T : List Nat) : ∀ f h, (pgR T f h).2.1.length ≤ f
  | 0, h => Nat.le_refl _
  | f + 1, h => by
    unfold pgR
    split
    · exact Nat.zero_le _
    · split
      · simp only [List.length_cons, List.length_nil]; omega
      · split
        · have := pgR_len T f ((cmdR T h).2.2 + 1)
          simp only [List.length_cons]; omega
        · exact Nat.zero_le _
theorem rn_len : ∀ (L : List Cmd) (a : Nat → Nat), (rn a L).2.1 ≤ L.length
  | [], a => Nat.le_refl _
  | m :: L, a => by
    unfold rn
    split
    · have := rn_len L (doS a m).2.2
      simp only [List.length_cons]; omega
    · simp only [List.length_cons]; omega
theorem rn_c : ∀ (L : List Cmd) (a : Nat → Nat), (rn a L).1 < 1000
  | [], a => by show 0 < 1000; decide
  | m :: L, a => by
    unfold rn
    split
    · exact rn_c L _
    · exact doS_c a m
theorem IV_rn : ∀ (L : List Cmd) {n : Nat} {a : Nat → Nat}, IV n a → n + L.length ≤ 1000 → IV (n + L.length) (rn a L).2.2
  | [], n, a, h, _ => h
  | m :: L, n, a, h, hn => by
    have h1 := IV_doS h (by omega) m
    simp only [List.length_cons] at hn ⊢
    unfold rn
    split
    · have := IV_rn L h1 (by omega)
      rw [show n + 1 + L.length = n + (L.length + 1) by omega] at this
      exact this
    · exact h1.mono (by omega)
section MR1
variable {l : Launch} {G : GG} {τ0 τ : Mem} {T : List Nat} {h n : Nat} {a : Nat → Nat} {ρ : Rho}
theorem q_commandsD (hc : Ctx l G) (hP0 : PS τ0 T (sA τ 30 (uI (uI (τ.1 (30, 0, 0)) 17 (nI 0)) 20 (nI 0))) 0 false false 0 a ρ) (hI : IV n a) (hn : n ≤ 1000) : Sat l G iX11_commands [mM] τ (someP (fun τ' => PS τ0 T τ' (pgR T (T.length + 1) 0).2.2 (pgR T (T.length + 1) 0).1 false 0 a ρ)) := by
  refine Sat_of hc.1 hc.2 (by decide +kernel) (Nat.le_of_ble_eq_true rfl) (fun x hB hno => ?_)
  generalize hR0 : pgR T (T.length + 1) 0 = R0 at hB
  have h16 : ∀ f h0 t y, T.length + 1 - h0 ≤ f → PS τ0 T t (cmdR T h0).2.2 (cmdR T h0).1 false 0 a ρ → ((pgR T f h0).1 = R0.1 ∧ (pgR T f h0).2.2 = R0.2.2) → V x t 0 16 [(0, mM), (1, aI y)] [] := by
    intro f
    induction f with
    | zero =>
      intro h0 t y hf hP
      have h1 := cmdR_ge T h0
      have h2 := hP.2.2.2.1.2.1
      omega
    | succ f ih =>
      intro h0 t y hf hP hR
      have f17 := hP.2.1.1
      have f18 := hP.2.1.2.1
      have f20 := hP.2.1.2.2.1
      have f0 := hP.1.2.1
      have hq := hP.2.2.2.1.2.1
      have ht1 := hP.2.2.2.1.1
      have hge := cmdR_ge T h0
      have k64 : ∀ t y h1 w1, PS τ0 T t h1 w1 false 0 a ρ → (w1 = R0.1 ∧ h1 = R0.2.2) → V x t 0 64 [(0, mM), (1, aI y)] [] := by
        intro t y h1 w1 hP e
        rw [← e.1, ← e.2] at hB
        refine V_run hB (rt := some .int) (nL := 2) (mc := 0) rfl rfl rfl obX11_commands_64 ?_
        dsimp only [bX11_commands_64, ↓wpb, ↓wp1, ↓vI, ↓vL, ↓vD, ↓ldI, ↓ldL, ↓ldD, ↓ldR, ↓k1, ↓k2, ↓kI, ↓kL, ↓kD, ↓kII, ↓kLL, ↓kDD, ↓kR, ↓kIR, ↓kLR, ↓kIIR, ↓kLIR, ↓kDIR, ↓kRIR, ↓kNN, ↓kE, ↓br, ↓bn, ↓rtI, ↓gfv, ↓zchk, lput, ldel, lbad, alA, acat, isRf, dom, dS, dJ, isO, aTy, aLen, elAV, elR, Nat.reduceBEq, Nat.reduceAdd, Bool.or, Bool.and, Nat.add_zero, Nat.zero_add]
        try simp only [Nat.reduceLT, Nat.reduceLeDiff, Nat.reduceEqDiff, true_and, and_true, and_self, Nat.zero_le, Nat.le_refl, true_or, or_true, Bool.false_eq_true, not_false_eq_true, Nat.reduceAdd, Nat.lt_add_one, Nat.zero_lt_one, nI_add, pk_mul, ixL, vpL, ne_eq, reduceIte, wI_sA, sA_same, sA_ne, sA_sA, sA_comm, uI_at, uN_at, enc_at, uI_enc, uI_uI, itn1, itn2, itn3, itn4, itc, itc0, itc1, upM_s, upM_n]
        exact ⟨⟨_, rfl⟩, hP⟩
      unfold pgR at hR
      cases ew : (cmdR T h0).1 with
      | true =>
        rw [ew] at f20 hP
        rw [if_pos ew] at hR
        refine V_run hB (rt := some .int) (nL := 2) (mc := 0) rfl rfl rfl obX11_commands_16 ?_
        dsimp only [bX11_commands_16, ↓wpb, ↓wp1, ↓vI, ↓vL, ↓vD, ↓ldI, ↓ldL, ↓ldD, ↓ldR, ↓k1, ↓k2, ↓kI, ↓kL, ↓kD, ↓kII, ↓kLL, ↓kDD, ↓kR, ↓kIR, ↓kLR, ↓kIIR, ↓kLIR, ↓kDIR, ↓kRIR, ↓kNN, ↓kE, ↓br, ↓bn, ↓rtI, ↓gfv, ↓zchk, lput, ldel, lbad, alA, acat, isRf, dom, dS, dJ, isO, aTy, aLen, elAV, elR, Nat.reduceBEq, Nat.reduceAdd, Bool.or, Bool.and, Nat.add_zero, Nat.zero_add]
        try simp only [Nat.reduceLT, Nat.reduceLeDiff, Nat.reduceEqDiff, true_and, and_true, and_self, Nat.zero_le, Nat.le_refl, true_or, or_true, Bool.false_eq_true, not_false_eq_true, Nat.reduceAdd, Nat.lt_add_one, Nat.zero_lt_one, nI_add, pk_mul, ixL, vpL, ne_eq, reduceIte, wI_sA, sA_same, sA_ne, sA_sA, sA_comm, uI_at, uN_at, enc_at, uI_enc, uI_uI, itn1, itn2, itn3, itn4, itc, itc0, itc1, upM_s, upM_n, f20]
        exact ⟨fun _ => k64 _ _ _ _ hP hR, fun q => absurd q (by decide)⟩
      | false =>
        rw [ew] at f20 hP
        rw [if_neg (by rw [ew]; decide)] at hR
        refine V_run hB (rt := some .int) (nL := 2) (mc := 0) rfl rfl rfl obX11_commands_16 ?_
        dsimp only [bX11_commands_16, ↓wpb, ↓wp1, ↓vI, ↓vL, ↓vD, ↓ldI, ↓ldL, ↓ldD, ↓ldR, ↓k1, ↓k2, ↓kI, ↓kL, ↓kD, ↓kII, ↓kLL, ↓kDD, ↓kR, ↓kIR, ↓kLR, ↓kIIR, ↓kLIR, ↓kDIR, ↓kRIR, ↓kNN, ↓kE, ↓br, ↓bn, ↓rtI, ↓gfv, ↓zchk, lput, ldel, lbad, alA, acat, isRf, dom, dS, dJ, isO, aTy, aLen, elAV, elR, Nat.reduceBEq, Nat.reduceAdd, Bool.or, Bool.and, Nat.add_zero, Nat.zero_add]
        try simp only [Nat.reduceLT, Nat.reduceLeDiff, Nat.reduceEqDiff, true_and, and_true, and_self, Nat.zero_le, Nat.le_refl, true_or, or_true, Bool.false_eq_true, not_false_eq_true, Nat.reduceAdd, Nat.lt_add_one, Nat.zero_lt_one, nI_add, pk_mul, ixL, vpL, ne_eq, reduceIte, wI_sA, sA_same, sA_ne, sA_sA, sA_comm, uI_at, uN_at, enc_at, uI_enc, uI_uI, itn1, itn2, itn3, itn4, itc, itc0, itc1, upM_s, upM_n, f20, f0, f17, f18]
        refine ⟨fun q => absurd rfl q, fun _ => ⟨fun q => absurd rfl q, fun _ => ⟨fun q => ?_, fun q => ?_⟩⟩⟩
        · rw [nI_leI (by omega) (by omega)] at q
          rw [if_pos q] at hR
          exact k64 _ _ _ _ hP hR
        · rw [nI_leI (by omega) (by omega)] at q
          rw [if_neg q] at hR
          refine V_callV hB hno (q_mark hc hP (b := 59) (by omega)) rfl (by decide +kernel) cvX11_201 (dom1 rfl) npX11_mark ⟨by decide, by decide⟩ (Nat.le_of_ble_eq_true rfl) (by decide) ?_ ?_
          rotate_left
          · intro E τ' hq; cases hq.1
          intro v t1 hq1
          obtain ⟨e1, hP1⟩ := hq1
          cases e1
          show V x t1 0 47 _ _
          by_cases e : T[(cmdR T h0).2.2]? = some 59
          · have em : mkR T (cmdR T h0).2.2 false 59 = ((cmdR T h0).2.2 + 1, false) := by unfold mkR; rw [if_neg (by decide), if_pos e]
            rw [em] at hP1
            rw [if_pos e] at hR
            have f20 := hP1.2.1.2.2.1
            refine V_run hB (rt := some .int) (nL := 2) (mc := 0) rfl rfl rfl obX11_commands_47 ?_
            dsimp only [bX11_commands_47, ↓wpb, ↓wp1, ↓vI, ↓vL, ↓vD, ↓ldI, ↓ldL, ↓ldD, ↓ldR, ↓k1, ↓k2, ↓kI, ↓kL, ↓kD, ↓kII, ↓kLL, ↓kDD, ↓kR, ↓kIR, ↓kLR, ↓kIIR, ↓kLIR, ↓kDIR, ↓kRIR, ↓kNN, ↓kE, ↓br, ↓bn, ↓rtI, ↓gfv, ↓zchk, lput, ldel, lbad, alA, acat, isRf, dom, dS, dJ, isO, aTy, aLen, elAV, elR, Nat.reduceBEq, Nat.reduceAdd, Bool.or, Bool.and, Nat.add_zero, Nat.zero_add]
            try simp only [Nat.reduceLT, Nat.reduceLeDiff, Nat.reduceEqDiff, true_and, and_true, and_self, Nat.zero_le, Nat.le_refl, true_or, or_true, Bool.false_eq_true, not_false_eq_true, Nat.reduceAdd, Nat.lt_add_one, Nat.zero_lt_one, nI_add, pk_mul, ixL, vpL, ne_eq, reduceIte, wI_sA, sA_same, sA_ne, sA_sA, sA_comm, uI_at, uN_at, enc_at, uI_enc, uI_uI, itn1, itn2, itn3, itn4, itc, itc0, itc1, upM_s, upM_n, f20]
            refine ⟨fun q => absurd rfl q, fun _ => ?_⟩
            refine V_callV hB hno (q_command hc hP1 hI hn) rfl (by decide +kernel) cvX11_220 (dom1 rfl) npX11_command ⟨by decide, by decide⟩ (Nat.le_of_ble_eq_true rfl) (by decide) ?_ ?_
            rotate_left
            · intro E τ' hq; cases hq.1
            intro v t2 hq1
            obtain ⟨e2, hP2⟩ := hq1
            cases e2
            show V x t2 0 58 _ _
            have ed : ∀ b m, dsR false b a m = (0, a) := fun b m => if_pos (Or.inr rfl)
            rw [ed] at hP2
            refine V_run hB (rt := some .int) (nL := 2) (mc := 0) rfl rfl rfl obX11_commands_58 ?_
            dsimp only [bX11_commands_58, ↓wpb, ↓wp1, ↓vI, ↓vL, ↓vD, ↓ldI, ↓ldL, ↓ldD, ↓ldR, ↓k1, ↓k2, ↓kI, ↓kL, ↓kD, ↓kII, ↓kLL, ↓kDD, ↓kR, ↓kIR, ↓kLR, ↓kIIR, ↓kLIR, ↓kDIR, ↓kRIR, ↓kNN, ↓kE, ↓br, ↓bn, ↓rtI, ↓gfv, ↓zchk, lput, ldel, lbad, alA, acat, isRf, dom, dS, dJ, isO, aTy, aLen, elAV, elR, Nat.reduceBEq, Nat.reduceAdd, Bool.or, Bool.and, Nat.add_zero, Nat.zero_add]
            try simp only [Nat.reduceLT, Nat.reduceLeDiff, Nat.reduceEqDiff, true_and, and_true, and_self, Nat.zero_le, Nat.le_refl, true_or, or_true, Bool.false_eq_true, not_false_eq_true, Nat.reduceAdd, Nat.lt_add_one, Nat.zero_lt_one, nI_add, pk_mul, ixL, vpL, ne_eq, reduceIte, wI_sA, sA_same, sA_ne, sA_sA, sA_comm, uI_at, uN_at, enc_at, uI_enc, uI_uI, itn1, itn2, itn3, itn4, itc, itc0, itc1, upM_s, upM_n]
            exact ih ((cmdR T h0).2.2 + 1) t2 (y + nI 1) (by omega) hP2 hR
          · have em : mkR T (cmdR T h0).2.2 false 59 = ((cmdR T h0).2.2, true) := by unfold mkR; rw [if_neg (by decide), if_neg e]
            rw [em] at hP1
            rw [if_neg e] at hR
            have f20 := hP1.2.1.2.2.1
            refine V_run hB (rt := some .int) (nL := 2) (mc := 0) rfl rfl rfl obX11_commands_47 ?_
            dsimp only [bX11_commands_47, ↓wpb, ↓wp1, ↓vI, ↓vL, ↓vD, ↓ldI, ↓ldL, ↓ldD, ↓ldR, ↓k1, ↓k2, ↓kI, ↓kL, ↓kD, ↓kII, ↓kLL, ↓kDD, ↓kR, ↓kIR, ↓kLR, ↓kIIR, ↓kLIR, ↓kDIR, ↓kRIR, ↓kNN, ↓kE, ↓br, ↓bn, ↓rtI, ↓gfv, ↓zchk, lput, ldel, lbad, alA, acat, isRf, dom, dS, dJ, isO, aTy, aLen, elAV, elR, Nat.reduceBEq, Nat.reduceAdd, Bool.or, Bool.and, Nat.add_zero, Nat.zero_add]
            try simp only [Nat.reduceLT, Nat.reduceLeDiff, Nat.reduceEqDiff, true_and, and_true, and_self, Nat.zero_le, Nat.le_refl, true_or, or_true, Bool.false_eq_true, not_false_eq_true, Nat.reduceAdd, Nat.lt_add_one, Nat.zero_lt_one, nI_add, pk_mul, ixL, vpL, ne_eq, reduceIte, wI_sA, sA_same, sA_ne, sA_sA, sA_comm, uI_at, uN_at, enc_at, uI_enc, uI_uI, itn1, itn2, itn3, itn4, itc, itc0, itc1, upM_s, upM_n, f20]
            refine ⟨fun _ => ?_, fun q => absurd q (by decide)⟩
            refine V_run hB (rt := some .int) (nL := 2) (mc := 0) rfl rfl rfl obX11_commands_58 ?_
            dsimp only [bX11_commands_58, ↓wpb, ↓wp1, ↓vI, ↓vL, ↓vD, ↓ldI, ↓ldL, ↓ldD, ↓ldR, ↓k1, ↓k2, ↓kI, ↓kL, ↓kD, ↓kII, ↓kLL, ↓kDD, ↓kR, ↓kIR, ↓kLR, ↓kIIR, ↓kLIR, ↓kDIR, ↓kRIR, ↓kNN, ↓kE, ↓br, ↓bn, ↓rtI, ↓gfv, ↓zchk, lput, ldel, lbad, alA, acat, isRf, dom, dS, dJ, isO, aTy, aLen, elAV, elR, Nat.reduceBEq, Nat.reduceAdd, Bool.or, Bool.and, Nat.add_zero, Nat.zero_add]
            try simp only [Nat.reduceLT, Nat.reduceLeDiff, Nat.reduceEqDiff, true_and, and_true, and_self, Nat.zero_le, Nat.le_refl, true_or, or_true, Bool.false_eq_true, not_false_eq_true, Nat.reduceAdd, Nat.lt_add_one, Nat.zero_lt_one, nI_add, pk_mul, ixL, vpL, ne_eq, reduceIte, wI_sA, sA_same, sA_ne, sA_sA, sA_comm, uI_at, uN_at, enc_at, uI_enc, uI_uI, itn1, itn2, itn3, itn4, itc, itc0, itc1, upM_s, upM_n]
            refine V_run hB (rt := some .int) (nL := 2) (mc := 0) rfl rfl rfl obX11_commands_16 ?_
            dsimp only [bX11_commands_16, ↓wpb, ↓wp1, ↓vI, ↓vL, ↓vD, ↓ldI, ↓ldL, ↓ldD, ↓ldR, ↓k1, ↓k2, ↓kI, ↓kL, ↓kD, ↓kII, ↓kLL, ↓kDD, ↓kR, ↓kIR, ↓kLR, ↓kIIR, ↓kLIR, ↓kDIR, ↓kRIR, ↓kNN, ↓kE, ↓br, ↓bn, ↓rtI, ↓gfv, ↓zchk, lput, ldel, lbad, alA, acat, isRf, dom, dS, dJ, isO, aTy, aLen, elAV, elR, Nat.reduceBEq, Nat.reduceAdd, Bool.or, Bool.and, Nat.add_zero, Nat.zero_add]
            try simp only [Nat.reduceLT, Nat.reduceLeDiff, Nat.reduceEqDiff, true_and, and_true, and_self, Nat.zero_le, Nat.le_refl, true_or, or_true, Bool.false_eq_true, not_false_eq_true, Nat.reduceAdd, Nat.lt_add_one, Nat.zero_lt_one, nI_add, pk_mul, ixL, vpL, ne_eq, reduceIte, wI_sA, sA_same, sA_ne, sA_sA, sA_comm, uI_at, uN_at, enc_at, uI_enc, uI_uI, itn1, itn2, itn3, itn4, itc, itc0, itc1, upM_s, upM_n, f20]
            exact ⟨fun _ => k64 _ _ _ _ hP1 hR, fun q => absurd q (by decide)⟩
  refine V_run hB (rt := some .int) (nL := 2) (mc := 0) rfl rfl rfl obX11_commands_0 ?_
  dsimp only [bX11_commands_0, ↓wpb, ↓wp1, ↓vI, ↓vL, ↓vD, ↓ldI, ↓ldL, ↓ldD, ↓ldR, ↓k1, ↓k2, ↓kI, ↓kL, ↓kD, ↓kII, ↓kLL, ↓kDD, ↓kR, ↓kIR, ↓kLR, ↓kIIR, ↓kLIR, ↓kDIR, ↓kRIR, ↓kNN, ↓kE, ↓br, ↓bn, ↓rtI, ↓gfv, ↓zchk, lput, ldel, lbad, alA, acat, isRf, dom, dS, dJ, isO, aTy, aLen, elAV, elR, Nat.reduceBEq, Nat.reduceAdd, Bool.or, Bool.and, Nat.add_zero, Nat.zero_add]
  try simp only [Nat.reduceLT, Nat.reduceLeDiff, Nat.reduceEqDiff, true_and, and_true, and_self, Nat.zero_le, Nat.le_refl, true_or, or_true, Bool.false_eq_true, not_false_eq_true, Nat.reduceAdd, Nat.lt_add_one, Nat.zero_lt_one, nI_add, pk_mul, ixL, vpL, ne_eq, reduceIte, wI_sA, sA_same, sA_ne, sA_sA, sA_comm, uI_at, uN_at, enc_at, uI_enc, uI_uI, itn1, itn2, itn3, itn4, itc, itc0, itc1, upM_s, upM_n]
  refine ⟨by decide, ?_⟩
  refine V_callV hB hno (q_command hc hP0 hI hn) rfl (by decide +kernel) cvX11_220 (dom1 rfl) npX11_command ⟨by decide, by decide⟩ (Nat.le_of_ble_eq_true rfl) (by decide) ?_ ?_
  rotate_left
  · intro E τ' hq; cases hq.1
  intro v t1 hq1
  obtain ⟨e1, hP1⟩ := hq1
  cases e1
  show V x t1 0 16 _ _
  have ed : ∀ b m, dsR false b a m = (0, a) := fun b m => if_pos (Or.inr rfl)
  rw [ed] at hP1
  exact h16 (T.length + 1) 0 t1 _ (by omega) hP1 (by rw [hR0]; exact ⟨rfl, rfl⟩)
theorem q_commandsX (hc : Ctx l G) (hP0 : PS τ0 T (sA τ 30 (uI (uI (τ.1 (30, 0, 0)) 17 (nI 0)) 20 (nI 0))) 0 false true 0 a ρ) (hI : IV n a) (hn : n + 100 ≤ 1000) (hg : (pgR T (T.length + 1) 0).1 = false) : Sat l G iX11_commands [mM] τ (intP (nI (rn a (pgR T (T.length + 1) 0).2.1).2.1) (fun τ' => ∃ h' w', PS τ0 T τ' h' w' true (rn a (pgR T (T.length + 1) 0).2.1).1 (rn a (pgR T (T.length + 1) 0).2.1).2.2 ρ)) := by
  have hT1 := hP0.2.2.2.1.1
  refine Sat_of hc.1 hc.2 (by decide +kernel) (Nat.le_of_ble_eq_true rfl) (fun x hB hno => ?_)
  generalize hRR : rn a (pgR T (T.length + 1) 0).2.1 = RR at hB
  have k64 : ∀ t k h1 w1, PS τ0 T t h1 w1 true RR.1 RR.2.2 ρ → k = RR.2.1 → V x t 0 64 [(0, mM), (1, aI (nI k))] [] := by
    intro t k h1 w1 hP e
    subst e
    refine V_run hB (rt := some .int) (nL := 2) (mc := 0) rfl rfl rfl obX11_commands_64 ?_
    dsimp only [bX11_commands_64, ↓wpb, ↓wp1, ↓vI, ↓vL, ↓vD, ↓ldI, ↓ldL, ↓ldD, ↓ldR, ↓k1, ↓k2, ↓kI, ↓kL, ↓kD, ↓kII, ↓kLL, ↓kDD, ↓kR, ↓kIR, ↓kLR, ↓kIIR, ↓kLIR, ↓kDIR, ↓kRIR, ↓kNN, ↓kE, ↓br, ↓bn, ↓rtI, ↓gfv, ↓zchk, lput, ldel, lbad, alA, acat, isRf, dom, dS, dJ, isO, aTy, aLen, elAV, elR, Nat.reduceBEq, Nat.reduceAdd, Bool.or, Bool.and, Nat.add_zero, Nat.zero_add]
    try simp only [Nat.reduceLT, Nat.reduceLeDiff, Nat.reduceEqDiff, true_and, and_true, and_self, Nat.zero_le, Nat.le_refl, true_or, or_true, Bool.false_eq_true, not_false_eq_true, Nat.reduceAdd, Nat.lt_add_one, Nat.zero_lt_one, nI_add, pk_mul, ixL, vpL, ne_eq, reduceIte, wI_sA, sA_same, sA_ne, sA_sA, sA_comm, uI_at, uN_at, enc_at, uI_enc, uI_uI, itn1, itn2, itn3, itn4, itc, itc0, itc1, upM_s, upM_n]
    exact ⟨rfl, _, _, hP⟩
  have h16 : ∀ f h0 t k n a, T.length + 1 - h0 ≤ f → k + f ≤ 62 → IV n a → n + f ≤ 999 → (cmdR T h0).1 = false → PS τ0 T t (cmdR T h0).2.2 false true (doS a (cmdR T h0).2.1).1 (doS a (cmdR T h0).2.1).2.2 ρ → (pgR T f h0).1 = false → ((rn a (pgR T f h0).2.1).1 = RR.1 ∧ k + (rn a (pgR T f h0).2.1).2.1 = RR.2.1 ∧ (rn a (pgR T f h0).2.1).2.2 = RR.2.2) → V x t 0 16 [(0, mM), (1, aI (nI (k + 1)))] [] := by
    intro f
    induction f with
    | zero =>
      intro h0 t k n a hf hk hI hn hw hP hb hR
      have h1 := cmdR_ge T h0
      have h2 := hP.2.2.2.1.2.1
      omega
    | succ f ih =>
      intro h0 t k n a hf hk hI hn hw hP hb hR
      have f17 := hP.2.1.1
      have f18 := hP.2.1.2.1
      have f20 := hP.2.1.2.2.1
      have f0 := hP.1.2.1
      have hq := hP.2.2.2.1.2.1
      have ht1 := hP.2.2.2.1.1
      have hge := cmdR_ge T h0
      have hc9 := doS_c a (cmdR T h0).2.1
      have hI1 := IV_doS hI (by omega) (cmdR T h0).2.1
      unfold pgR at hR hb
      rw [if_neg (by rw [hw]; decide)] at hR hb
      refine V_run hB (rt := some .int) (nL := 2) (mc := 0) rfl rfl rfl obX11_commands_16 ?_
      dsimp only [bX11_commands_16, ↓wpb, ↓wp1, ↓vI, ↓vL, ↓vD, ↓ldI, ↓ldL, ↓ldD, ↓ldR, ↓k1, ↓k2, ↓kI, ↓kL, ↓kD, ↓kII, ↓kLL, ↓kDD, ↓kR, ↓kIR, ↓kLR, ↓kIIR, ↓kLIR, ↓kDIR, ↓kRIR, ↓kNN, ↓kE, ↓br, ↓bn, ↓rtI, ↓gfv, ↓zchk, lput, ldel, lbad, alA, acat, isRf, dom, dS, dJ, isO, aTy, aLen, elAV, elR, Nat.reduceBEq, Nat.reduceAdd, Bool.or, Bool.and, Nat.add_zero, Nat.zero_add]
      try simp only [Nat.reduceLT, Nat.reduceLeDiff, Nat.reduceEqDiff, true_and, and_true, and_self, Nat.zero_le, Nat.le_refl, true_or, or_true, Bool.false_eq_true, not_false_eq_true, Nat.reduceAdd, Nat.lt_add_one, Nat.zero_lt_one, nI_add, pk_mul, ixL, vpL, ne_eq, reduceIte, wI_sA, sA_same, sA_ne, sA_sA, sA_comm, uI_at, uN_at, enc_at, uI_enc, uI_uI, itn1, itn2, itn3, itn4, itc, itc0, itc1, upM_s, upM_n, f20, f0, f17, f18]
      refine ⟨fun q => absurd rfl q, fun _ => ⟨fun q => ?_, fun q0 => ⟨fun q => ?_, fun q => ?_⟩⟩⟩
      · have hne : (doS a (cmdR T h0).2.1).1 ≠ 0 := fun z => q (by rw [z]; rfl)
        have hh : ∀ L, rn a ((cmdR T h0).2.1 :: L) = ((doS a (cmdR T h0).2.1).1, 1, (doS a (cmdR T h0).2.1).2.2) := fun L => by
          show (if (doS a (cmdR T h0).2.1).1 = 0 then _ else _) = _
          exact if_neg hne
        by_cases g1 : T.length ≤ (cmdR T h0).2.2
        · rw [if_pos g1, hh] at hR
          refine k64 t _ (cmdR T h0).2.2 false ?_ hR.2.1
          rw [← hR.1, ← hR.2.2]
          exact hP
        · rw [if_neg g1] at hR hb
          by_cases g2 : T[(cmdR T h0).2.2]? = some 59
          · rw [if_pos g2, hh] at hR
            refine k64 t _ (cmdR T h0).2.2 false ?_ hR.2.1
            rw [← hR.1, ← hR.2.2]
            exact hP
          · rw [if_neg g2] at hb
            cases hb
      · have q0 : (doS a (cmdR T h0).2.1).1 = 0 := (nI_eq (by omega) (by omega)).mp (show nI _ = nI 0 from q0)
        rw [nI_leI (by omega) (by omega)] at q
        have hh : rn a [(cmdR T h0).2.1] = (0, 1, (doS a (cmdR T h0).2.1).2.2) := by
          show (if (doS a (cmdR T h0).2.1).1 = 0 then _ else _) = _
          exact if_pos q0
        rw [if_pos q, hh] at hR
        refine k64 t _ (cmdR T h0).2.2 false ?_ hR.2.1
        rw [← hR.1, ← hR.2.2]
        rw [q0] at hP
        exact hP
      · have q0 : (doS a (cmdR T h0).2.1).1 = 0 := (nI_eq (by omega) (by omega)).mp (show nI _ = nI 0 from q0)
        rw [nI_leI (by omega) (by omega)] at q
        rw [if_neg q] at hR hb
        by_cases e : T[(cmdR T h0).2.2]? = some 59
        · rw [if_pos e] at hR hb
          have hh : ∀ L, rn a ((cmdR T h0).2.1 :: L) = ((rn (doS a (cmdR T h0).2.1).2.2 L).1, (rn (doS a (cmdR T h0).2.1).2.2 L).2.1 + 1, (rn (doS a (cmdR T h0).2.1).2.2 L).2.2) := fun L => by
            show (if (doS a (cmdR T h0).2.1).1 = 0 then _ else _) = _
            exact if_pos q0
          rw [hh] at hR
          rw [q0] at hP
          refine V_callV hB hno (q_mark hc hP (b := 59) (by omega)) rfl (by decide +kernel) cvX11_201 (dom1 rfl) npX11_mark ⟨by decide, by decide⟩ (Nat.le_of_ble_eq_true rfl) (by decide) ?_ ?_
          rotate_left
          · intro E τ' hq; cases hq.1
          intro v t1 hq1
          obtain ⟨e1, hP1⟩ := hq1
          cases e1
          show V x t1 0 47 _ _
          have em : mkR T (cmdR T h0).2.2 false 59 = ((cmdR T h0).2.2 + 1, false) := by unfold mkR; rw [if_neg (by decide), if_pos e]
          rw [em] at hP1
          have f20 := hP1.2.1.2.2.1
          refine V_run hB (rt := some .int) (nL := 2) (mc := 0) rfl rfl rfl obX11_commands_47 ?_
          dsimp only [bX11_commands_47, ↓wpb, ↓wp1, ↓vI, ↓vL, ↓vD, ↓ldI, ↓ldL, ↓ldD, ↓ldR, ↓k1, ↓k2, ↓kI, ↓kL, ↓kD, ↓kII, ↓kLL, ↓kDD, ↓kR, ↓kIR, ↓kLR, ↓kIIR, ↓kLIR, ↓kDIR, ↓kRIR, ↓kNN, ↓kE, ↓br, ↓bn, ↓rtI, ↓gfv, ↓zchk, lput, ldel, lbad, alA, acat, isRf, dom, dS, dJ, isO, aTy, aLen, elAV, elR, Nat.reduceBEq, Nat.reduceAdd, Bool.or, Bool.and, Nat.add_zero, Nat.zero_add]
          try simp only [Nat.reduceLT, Nat.reduceLeDiff, Nat.reduceEqDiff, true_and, and_true, and_self, Nat.zero_le, Nat.le_refl, true_or, or_true, Bool.false_eq_true, not_false_eq_true, Nat.reduceAdd, Nat.lt_add_one, Nat.zero_lt_one, nI_add, pk_mul, ixL, vpL, ne_eq, reduceIte, wI_sA, sA_same, sA_ne, sA_sA, sA_comm, uI_at, uN_at, enc_at, uI_enc, uI_uI, itn1, itn2, itn3, itn4, itc, itc0, itc1, upM_s, upM_n, f20]
          refine ⟨fun q => absurd rfl q, fun _ => ?_⟩
          refine V_callV hB hno (q_command hc hP1 hI1 (by omega)) rfl (by decide +kernel) cvX11_220 (dom1 rfl) npX11_command ⟨by decide, by decide⟩ (Nat.le_of_ble_eq_true rfl) (by decide) ?_ ?_
          rotate_left
          · intro E τ' hq; cases hq.1
          intro v t2 hq1
          obtain ⟨e2, hP2⟩ := hq1
          cases e2
          show V x t2 0 58 _ _
          have hf1 : ∀ f h, (pgR T f h).1 = false → (cmdR T h).1 = false := by
            intro f h z
            cases f with
            | zero => cases z
            | succ f =>
              unfold pgR at z
              cases y : (cmdR T h).1 with
              | false => rfl
              | true => rw [if_pos y] at z; cases z
          have hw2 := hf1 f _ hb
          have ed : ∀ m, dsR true false (doS a (cmdR T h0).2.1).2.2 m = ((doS (doS a (cmdR T h0).2.1).2.2 m).1, (doS (doS a (cmdR T h0).2.1).2.2 m).2.2) := fun m => if_neg (by decide)
          rw [hw2, ed] at hP2
          refine V_run hB (rt := some .int) (nL := 2) (mc := 0) rfl rfl rfl obX11_commands_58 ?_
          dsimp only [bX11_commands_58, ↓wpb, ↓wp1, ↓vI, ↓vL, ↓vD, ↓ldI, ↓ldL, ↓ldD, ↓ldR, ↓k1, ↓k2, ↓kI, ↓kL, ↓kD, ↓kII, ↓kLL, ↓kDD, ↓kR, ↓kIR, ↓kLR, ↓kIIR, ↓kLIR, ↓kDIR, ↓kRIR, ↓kNN, ↓kE, ↓br, ↓bn, ↓rtI, ↓gfv, ↓zchk, lput, ldel, lbad, alA, acat, isRf, dom, dS, dJ, isO, aTy, aLen, elAV, elR, Nat.reduceBEq, Nat.reduceAdd, Bool.or, Bool.and, Nat.add_zero, Nat.zero_add]
          try simp only [Nat.reduceLT, Nat.reduceLeDiff, Nat.reduceEqDiff, true_and, and_true, and_self, Nat.zero_le, Nat.le_refl, true_or, or_true, Bool.false_eq_true, not_false_eq_true, Nat.reduceAdd, Nat.lt_add_one, Nat.zero_lt_one, nI_add, pk_mul, ixL, vpL, ne_eq, reduceIte, wI_sA, sA_same, sA_ne, sA_sA, sA_comm, uI_at, uN_at, enc_at, uI_enc, uI_uI, itn1, itn2, itn3, itn4, itc, itc0, itc1, upM_s, upM_n]
          exact ih ((cmdR T h0).2.2 + 1) t2 (k + 1) (n + 1) _ (by omega) (by omega) hI1 (by omega) hw2 hP2 hb ⟨hR.1, (show k + 1 + (rn (doS a (cmdR T h0).2.1).2.2 (pgR T f ((cmdR T h0).2.2 + 1)).2.1).2.1 = RR.2.1 from by have h21 : k + ((rn (doS a (cmdR T h0).2.1).2.2 (pgR T f ((cmdR T h0).2.2 + 1)).2.1).2.1 + 1) = RR.2.1 := hR.2.1; omega), hR.2.2⟩
        · rw [if_neg e] at hb
          cases hb
  refine V_run hB (rt := some .int) (nL := 2) (mc := 0) rfl rfl rfl obX11_commands_0 ?_
  dsimp only [bX11_commands_0, ↓wpb, ↓wp1, ↓vI, ↓vL, ↓vD, ↓ldI, ↓ldL, ↓ldD, ↓ldR, ↓k1, ↓k2, ↓kI, ↓kL, ↓kD, ↓kII, ↓kLL, ↓kDD, ↓kR, ↓kIR, ↓kLR, ↓kIIR, ↓kLIR, ↓kDIR, ↓kRIR, ↓kNN, ↓kE, ↓br, ↓bn, ↓rtI, ↓gfv, ↓zchk, lput, ldel, lbad, alA, acat, isRf, dom, dS, dJ, isO, aTy, aLen, elAV, elR, Nat.reduceBEq, Nat.reduceAdd, Bool.or, Bool.and, Nat.add_zero, Nat.zero_add]
  try simp only [Nat.reduceLT, Nat.reduceLeDiff, Nat.reduceEqDiff, true_and, and_true, and_self, Nat.zero_le, Nat.le_refl, true_or, or_true, Bool.false_eq_true, not_false_eq_true, Nat.reduceAdd, Nat.lt_add_one, Nat.zero_lt_one, nI_add, pk_mul, ixL, vpL, ne_eq, reduceIte, wI_sA, sA_same, sA_ne, sA_sA, sA_comm, uI_at, uN_at, enc_at, uI_enc, uI_uI, itn1, itn2, itn3, itn4, itc, itc0, itc1, upM_s, upM_n]
  refine ⟨by decide, ?_⟩
  refine V_callV hB hno (q_command hc hP0 hI (by omega)) rfl (by decide +kernel) cvX11_220 (dom1 rfl) npX11_command ⟨by decide, by decide⟩ (Nat.le_of_ble_eq_true rfl) (by decide) ?_ ?_
  rotate_left
  · intro E τ' hq; cases hq.1
  intro v t1 hq1
  obtain ⟨e1, hP1⟩ := hq1
  cases e1
  show V x t1 0 16 _ _
  have hw2 : (cmdR T 0).1 = false := by
    unfold pgR at hg
    cases y : (cmdR T 0).1 with
    | false => rfl
    | true => rw [if_pos y] at hg; cases hg
  have ed : ∀ m, dsR true false a m = ((doS a m).1, (doS a m).2.2) := fun m => if_neg (by decide)
  rw [hw2, ed] at hP1
  exact h16 (T.length + 1) 0 t1 0 n a (by omega) (by omega) hI (by omega) hw2 hP1 hg (by rw [hRR]; exact ⟨rfl, Nat.zero_add _, rfl⟩)
end MR1
/-- executing the text -/
def sExe (σ : Sg) : Nat × Nat × Sg :=
  if (pgR σ.2.2.2.2.1 (σ.2.2.2.2.1.length + 1) 0).1 = true then (1, 0, (σ.1, σ.2.1, σ.2.2.1, (some (pgR σ.2.2.2.2.1 (σ.2.2.2.2.1.length + 1) 0).2.2, σ.2.2.2.1.2), [], σ.2.2.2.2.2))
  else if (rn σ.1 (pgR σ.2.2.2.2.1 (σ.2.2.2.2.1.length + 1) 0).2.1).1 = 0 then
    (0, (rn σ.1 (pgR σ.2.2.2.2.1 (σ.2.2.2.2.1.length + 1) 0).2.1).2.1, ((rn σ.1 (pgR σ.2.2.2.2.1 (σ.2.2.2.2.1.length + 1) 0).2.1).2.2, pushL σ.1 σ.2.1, σ.2.2.1, σ.2.2.2.1, [], σ.2.2.2.2.2))
  else (2, 0, (σ.1, σ.2.1, σ.2.2.1, (σ.2.2.2.1.1, some ((rn σ.1 (pgR σ.2.2.2.2.1 (σ.2.2.2.2.1.length + 1) 0).2.1).2.1 - 1)), [], σ.2.2.2.2.2))
theorem rn_pos : ∀ (L : List Cmd) (a : Nat → Nat), (rn a L).1 ≠ 0 → 1 ≤ (rn a L).2.1
  | [], a, h => absurd rfl h
  | m :: L, a, _ => by
    unfold rn
    split
    · exact Nat.le_add_left _ _
    · exact Nat.le_refl _
theorem PS.mk0 {τ0 t : Mem} {T : List Nat} {a : Nat → Nat} {ρ : Rho} {F : Nat → Int32} {d : Bool} (h31 : t.1 (31, 0, 0) = enc a) (F0 : F 0 = nI 0) (hl : ρ.1.length ≤ 8 ∧ ρ.2.2.2.1.length ≤ 60 ∧ ρ.2.2.2.2.length ≤ 80) (h30 : F30 F ρ)
    (hr : PR (t.1 (34, 0, 0)) ρ.1 ∧ (∀ s, ρ.2.1 = some s → ∀ k, k < 136 → t.1 (33, 0, 0) k = nI (s k)) ∧ ltr (t.1 (37, 0, 0)) ρ.2.2.2.1 ∧ ltr (t.1 (38, 0, 0)) ρ.2.2.2.2 ∧ ltr (t.1 (40, 0, 0)) wordsL ∧ ltr (t.1 (41, 0, 0)) wordAtL)
    (F17 : F 17 = nI 0) (F18 : F 18 = nI T.length) (F20 : F 20 = nI (bN false)) (F21 : F 21 = nI (bN d)) (gt : ltr (t.1 (37, 0, 0)) T) (t1 : T.length ≤ 60) (t3 : ∀ x ∈ T, x < 128) (hO : Oth τ0 t) (h32 : t.1 (32, 0, 0) = τ0.1 (32, 0, 0)) : PS τ0 T (sA t 30 F) 0 false d 0 a ρ := by
  refine ⟨⟨?_, ?_, hl, ?_, ?_⟩, ⟨?_, ?_, ?_, ?_⟩, ?_, ⟨t1, Nat.zero_le _, t3⟩, hO.sA _ (by decide) (by decide), ?_⟩
  · simp only [sA_same, sA_ne, ne_eq, Nat.reduceEqDiff, not_false_eq_true, not_true_eq_false]; exact h31
  · simp only [sA_same, sA_ne, ne_eq, Nat.reduceEqDiff, not_false_eq_true, not_true_eq_false]; exact F0
  · simp only [sA_same, sA_ne, ne_eq, Nat.reduceEqDiff, not_false_eq_true, not_true_eq_false]; exact h30
  · simp only [sA_same, sA_ne, ne_eq, Nat.reduceEqDiff, not_false_eq_true, not_true_eq_false]; exact hr
  · simp only [sA_same, sA_ne, ne_eq, Nat.reduceEqDiff, not_false_eq_true, not_true_eq_false]; exact F17
  · simp only [sA_same, sA_ne, ne_eq, Nat.reduceEqDiff, not_false_eq_true, not_true_eq_false]; exact F18
  · simp only [sA_same, sA_ne, ne_eq, Nat.reduceEqDiff, not_false_eq_true, not_true_eq_false]; exact F20
  · simp only [sA_same, sA_ne, ne_eq, Nat.reduceEqDiff, not_false_eq_true, not_true_eq_false]; exact F21
  · simp only [sA_same, sA_ne, ne_eq, Nat.reduceEqDiff, not_false_eq_true, not_true_eq_false]; exact gt
  · simp only [sA_same, sA_ne, ne_eq, Nat.reduceEqDiff, not_false_eq_true, not_true_eq_false]; exact h32
section MS1
variable {l : Launch} {G : GG} {τ : Mem} {c0 n : Nat} {σ : Sg}
theorem q_execute (hc : Ctx l G) (h : MW τ c0 σ) (hI : IV n σ.1) (hn : n + 100 ≤ 1000) (hT : ∀ c ∈ σ.2.2.2.2.1, c < 128) : Sat l G iX11_execute [mM] τ (Ans τ (sExe σ)) := by
  have hM := Beg_MW h
  have hT1 := h.2.2.1.2.1
  have hf16 := hM.2.2.2.1.2.2.2.2.1
  have hgl := pgR_len σ.2.2.2.2.1 (σ.2.2.2.2.1.length + 1) 0
  refine Sat_of hc.1 hc.2 (by decide +kernel) (Nat.le_of_ble_eq_true rfl) (fun x hB hno => ?_)
  refine V_run hB (rt := some .int) (nL := 2) (mc := 0) rfl rfl rfl obX11_execute_0 ?_
  dsimp only [bX11_execute_0, ↓wpb, ↓wp1, ↓vI, ↓vL, ↓vD, ↓ldI, ↓ldL, ↓ldD, ↓ldR, ↓k1, ↓k2, ↓kI, ↓kL, ↓kD, ↓kII, ↓kLL, ↓kDD, ↓kR, ↓kIR, ↓kLR, ↓kIIR, ↓kLIR, ↓kDIR, ↓kRIR, ↓kNN, ↓kE, ↓br, ↓bn, ↓rtI, ↓gfv, ↓zchk, lput, ldel, lbad, alA, acat, isRf, dom, dS, dJ, isO, aTy, aLen, elAV, elR, Nat.reduceBEq, Nat.reduceAdd, Bool.or, Bool.and, Nat.add_zero, Nat.zero_add]
  try simp only [Nat.reduceLT, Nat.reduceLeDiff, Nat.reduceEqDiff, true_and, and_true, and_self, Nat.zero_le, Nat.le_refl, true_or, or_true, Bool.false_eq_true, not_false_eq_true, Nat.reduceAdd, Nat.lt_add_one, Nat.zero_lt_one, nI_add, pk_mul, ixL, vpL, ne_eq, reduceIte, wI_sA, sA_same, sA_ne, sA_sA, sA_comm, uI_at, uN_at, enc_at, uI_enc, uI_uI, itn1, itn2, itn3, itn4, itc, itc0, itc1, upM_s, upM_n]
  refine V_cVv hB hno (q_begins2 hc τ σ) rfl (by decide +kernel) cvX11_79 (dom1 rfl) npX11_begins ⟨by decide, by decide⟩ (Nat.le_of_ble_eq_true rfl) (n' := 0) (by decide) rfl ?_
  refine V_run hB (rt := some .int) (nL := 2) (mc := 0) rfl rfl rfl obX11_execute_4 ?_
  dsimp only [bX11_execute_4, ↓wpb, ↓wp1, ↓vI, ↓vL, ↓vD, ↓ldI, ↓ldL, ↓ldD, ↓ldR, ↓k1, ↓k2, ↓kI, ↓kL, ↓kD, ↓kII, ↓kLL, ↓kDD, ↓kR, ↓kIR, ↓kLR, ↓kIIR, ↓kLIR, ↓kDIR, ↓kRIR, ↓kNN, ↓kE, ↓br, ↓bn, ↓rtI, ↓gfv, ↓zchk, lput, ldel, lbad, alA, acat, isRf, dom, dS, dJ, isO, aTy, aLen, elAV, elR, Nat.reduceBEq, Nat.reduceAdd, Bool.or, Bool.and, Nat.add_zero, Nat.zero_add]
  try simp only [Nat.reduceLT, Nat.reduceLeDiff, Nat.reduceEqDiff, true_and, and_true, and_self, Nat.zero_le, Nat.le_refl, true_or, or_true, Bool.false_eq_true, not_false_eq_true, Nat.reduceAdd, Nat.lt_add_one, Nat.zero_lt_one, nI_add, pk_mul, ixL, vpL, ne_eq, reduceIte, wI_sA, sA_same, sA_ne, sA_sA, sA_comm, uI_at, uN_at, enc_at, uI_enc, uI_uI, itn1, itn2, itn3, itn4, itc, itc0, itc1, upM_s, upM_n, hf16]
  refine ⟨by decide, ?_⟩
  have hB32 := Beg_32 h
  have hBO := Beg_Oth τ σ
  obtain ⟨g31, g0, gl, ⟨y1, y2, y3, y4, y5, y6⟩, g34, g33, g37, g38, g40, g41⟩ := hM
  generalize Beg τ σ = B at *
  obtain ⟨t0, ht0⟩ : ∃ t0, t0 = sA B 30 (uI (uI (uI (B.1 (30, 0, 0)) 18 (nI σ.2.2.2.2.1.length)) 16 (nI 0)) 21 (nI 0)) := ⟨_, rfl⟩
  have hP0 : PS B σ.2.2.2.2.1 (sA t0 30 (uI (uI (t0.1 (30, 0, 0)) 17 (nI 0)) 20 (nI 0))) 0 false false 0 σ.1 (σ.2.1, σ.2.2.1, σ.2.2.2.1, [], σ.2.2.2.2.2) := by
    rw [ht0, sA_sA, sA_same]
    exact PS.mk0 g31 g0 ⟨gl.1, Nat.zero_le _, gl.2.2⟩ ⟨y1, y2, y3, y4, rfl, y6⟩ ⟨g34, g33, fun j c hj => (nomatch hj), g38, g40, g41⟩ rfl rfl rfl rfl g37 hT1 hT (Oth.refl _) rfl
  rw [← ht0]
  refine V_callV hB hno (q_commandsD hc hP0 hI (by omega)) rfl (by decide +kernel) cvX11_223 (dom1 rfl) npX11_commands ⟨by decide, by decide⟩ (Nat.le_of_ble_eq_true rfl) (by decide) ?_ ?_
  rotate_left
  · intro E τ' hq; obtain ⟨⟨z, hz⟩, -⟩ := hq; cases hz
  intro v t1 hq
  obtain ⟨⟨z1, e1⟩, hP1⟩ := hq
  cases e1
  show V x t1 0 26 _ _
  have f20 := hP1.2.1.2.2.1
  have f17 := hP1.2.1.1
  have f18 := hP1.2.1.2.1
  have gO1 := hP1.2.2.2.2.1
  have g321 := hP1.2.2.2.2.2
  have gt1 := hP1.2.2.1
  obtain ⟨m31, m0, ml, ⟨x1, x2, x3, x4, x5, x6⟩, m34, m33, m37, m38, m40, m41⟩ := hP1.1
  refine V_run hB (rt := some .int) (nL := 2) (mc := 0) rfl rfl rfl obX11_execute_26 ?_
  dsimp only [bX11_execute_26, ↓wpb, ↓wp1, ↓vI, ↓vL, ↓vD, ↓ldI, ↓ldL, ↓ldD, ↓ldR, ↓k1, ↓k2, ↓kI, ↓kL, ↓kD, ↓kII, ↓kLL, ↓kDD, ↓kR, ↓kIR, ↓kLR, ↓kIIR, ↓kLIR, ↓kDIR, ↓kRIR, ↓kNN, ↓kE, ↓br, ↓bn, ↓rtI, ↓gfv, ↓zchk, lput, ldel, lbad, alA, acat, isRf, dom, dS, dJ, isO, aTy, aLen, elAV, elR, Nat.reduceBEq, Nat.reduceAdd, Bool.or, Bool.and, Nat.add_zero, Nat.zero_add]
  try simp only [Nat.reduceLT, Nat.reduceLeDiff, Nat.reduceEqDiff, true_and, and_true, and_self, Nat.zero_le, Nat.le_refl, true_or, or_true, Bool.false_eq_true, not_false_eq_true, Nat.reduceAdd, Nat.lt_add_one, Nat.zero_lt_one, nI_add, pk_mul, ixL, vpL, ne_eq, reduceIte, wI_sA, sA_same, sA_ne, sA_sA, sA_comm, uI_at, uN_at, enc_at, uI_enc, uI_uI, itn1, itn2, itn3, itn4, itc, itc0, itc1, upM_s, upM_n, f20, f17, bN_0]
  cases hw : (pgR σ.2.2.2.2.1 (σ.2.2.2.2.1.length + 1) 0).1 with
  | true =>
    have e : sExe σ = (1, 0, (σ.1, σ.2.1, σ.2.2.1, (some (pgR σ.2.2.2.2.1 (σ.2.2.2.2.1.length + 1) 0).2.2, σ.2.2.2.1.2), [], σ.2.2.2.2.2)) := if_pos hw
    rw [e] at hB
    refine ⟨fun q => (nomatch q), fun _ => ?_⟩
    refine V_cV hB hno (q_fail hc _ _) rfl (by decide +kernel) cvX11_76 (dom1 rfl) npX11_fail ⟨by decide, by decide⟩ (Nat.le_of_ble_eq_true rfl) (n' := 0) (by decide) rfl ?_
    refine V_run hB (rt := some .int) (nL := 2) (mc := 0) rfl rfl rfl obX11_execute_47 ?_
    dsimp only [bX11_execute_47, ↓wpb, ↓wp1, ↓vI, ↓vL, ↓vD, ↓ldI, ↓ldL, ↓ldD, ↓ldR, ↓k1, ↓k2, ↓kI, ↓kL, ↓kD, ↓kII, ↓kLL, ↓kDD, ↓kR, ↓kIR, ↓kLR, ↓kIIR, ↓kLIR, ↓kDIR, ↓kRIR, ↓kNN, ↓kE, ↓br, ↓bn, ↓rtI, ↓gfv, ↓zchk, lput, ldel, lbad, alA, acat, isRf, dom, dS, dJ, isO, aTy, aLen, elAV, elR, Nat.reduceBEq, Nat.reduceAdd, Bool.or, Bool.and, Nat.add_zero, Nat.zero_add]
    try simp only [Nat.reduceLT, Nat.reduceLeDiff, Nat.reduceEqDiff, true_and, and_true, and_self, Nat.zero_le, Nat.le_refl, true_or, or_true, Bool.false_eq_true, not_false_eq_true, Nat.reduceAdd, Nat.lt_add_one, Nat.zero_lt_one, nI_add, pk_mul, ixL, vpL, ne_eq, reduceIte, wI_sA, sA_same, sA_ne, sA_sA, sA_comm, uI_at, uN_at, enc_at, uI_enc, uI_uI, itn1, itn2, itn3, itn4, itc, itc0, itc1, upM_s, upM_n]
    refine ⟨rfl, ⟨?_, ?_, ml, ?_, ?_⟩, ?_⟩
    · simp only [sA_same, sA_ne, ne_eq, Nat.reduceEqDiff, not_false_eq_true, not_true_eq_false]; exact m31
    · simp only [sA_same, sA_ne, ne_eq, Nat.reduceEqDiff, not_false_eq_true, not_true_eq_false]; rfl
    · simp only [sA_same, sA_ne, ne_eq, Nat.reduceEqDiff, not_false_eq_true, not_true_eq_false]; exact ⟨x1, rfl, x3, x4, x5, x6⟩
    · simp only [sA_same, sA_ne, ne_eq, Nat.reduceEqDiff, not_false_eq_true, not_true_eq_false]; exact ⟨m34, m33, m37, m38, m40, m41⟩
    · exact (hBO.trans gO1).sA _ (by decide) (by decide)
  | false =>
    refine ⟨fun _ => ?_, fun q => absurd rfl q⟩
    refine V_run hB (rt := some .int) (nL := 2) (mc := 0) rfl rfl rfl obX11_execute_48 ?_
    dsimp only [bX11_execute_48, ↓wpb, ↓wp1, ↓vI, ↓vL, ↓vD, ↓ldI, ↓ldL, ↓ldD, ↓ldR, ↓k1, ↓k2, ↓kI, ↓kL, ↓kD, ↓kII, ↓kLL, ↓kDD, ↓kR, ↓kIR, ↓kLR, ↓kIIR, ↓kLIR, ↓kDIR, ↓kRIR, ↓kNN, ↓kE, ↓br, ↓bn, ↓rtI, ↓gfv, ↓zchk, lput, ldel, lbad, alA, acat, isRf, dom, dS, dJ, isO, aTy, aLen, elAV, elR, Nat.reduceBEq, Nat.reduceAdd, Bool.or, Bool.and, Nat.add_zero, Nat.zero_add]
    try simp only [Nat.reduceLT, Nat.reduceLeDiff, Nat.reduceEqDiff, true_and, and_true, and_self, Nat.zero_le, Nat.le_refl, true_or, or_true, Bool.false_eq_true, not_false_eq_true, Nat.reduceAdd, Nat.lt_add_one, Nat.zero_lt_one, nI_add, pk_mul, ixL, vpL, ne_eq, reduceIte, wI_sA, sA_same, sA_ne, sA_sA, sA_comm, uI_at, uN_at, enc_at, uI_enc, uI_uI, itn1, itn2, itn3, itn4, itc, itc0, itc1, upM_s, upM_n]
    refine ⟨by decide, ?_⟩
    obtain ⟨t2, ht2⟩ : ∃ t2, t2 = sA t1 30 (uI (t1.1 (30, 0, 0)) 21 (nI 1)) := ⟨_, rfl⟩
    have hP2 : PS B σ.2.2.2.2.1 (sA t2 30 (uI (uI (t2.1 (30, 0, 0)) 17 (nI 0)) 20 (nI 0))) 0 false true 0 σ.1 (σ.2.1, σ.2.2.1, σ.2.2.2.1, [], σ.2.2.2.2.2) := by
      rw [ht2, sA_sA, sA_same]
      exact PS.mk0 m31 m0 ml ⟨x1, x2, x3, x4, x5, x6⟩ ⟨m34, m33, m37, m38, m40, m41⟩ rfl f18 rfl rfl gt1 hT1 hT gO1 g321
    rw [← ht2]
    refine V_callV hB hno (q_commandsX hc hP2 hI hn hw) rfl (by decide +kernel) cvX11_223 (dom1 rfl) npX11_commands ⟨by decide, by decide⟩ (Nat.le_of_ble_eq_true rfl) (by decide) ?_ ?_
    rotate_left
    · intro E τ' hq; cases hq.1
    intro v t3 hq
    obtain ⟨e3, h3, w3, hP3⟩ := hq
    cases e3
    show V x t3 0 57 _ _
    have hIr := IV_rn (pgR σ.2.2.2.2.1 (σ.2.2.2.2.1.length + 1) 0).2.1 hI (by omega)
    have hrl := rn_len (pgR σ.2.2.2.2.1 (σ.2.2.2.2.1.length + 1) 0).2.1 σ.1
    have hrc := rn_c (pgR σ.2.2.2.2.1 (σ.2.2.2.2.1.length + 1) 0).2.1 σ.1
    have hrp := rn_pos (pgR σ.2.2.2.2.1 (σ.2.2.2.2.1.length + 1) 0).2.1 σ.1
    have e9 : sExe σ = _ := if_neg (by rw [hw]; decide)
    rw [e9] at hB
    generalize rn σ.1 (pgR σ.2.2.2.2.1 (σ.2.2.2.2.1.length + 1) 0).2.1 = RR at *
    obtain ⟨c, N, a'⟩ := RR
    simp only at hIr hrl hrc hrp hP3 hB
    have f0 := hP3.1.2.1
    have gO3 := hP3.2.2.2.2.1
    have g323 := hP3.2.2.2.2.2
    refine V_run hB (rt := some .int) (nL := 2) (mc := 0) rfl rfl rfl (ops := [(57, .istore_n 1, 1, (1, 0, 0, 0, 0, 0), 0), (58, .aload_n 0, 1, (0, 0, 0, 0, 0, 0), 0), (59, .getfield 50, 3, (30, 0, 0, 0, 0, 0), 0), (62, .ifCond .eq 15, 3, (77, 0, 0, 0, 0, 0), 0), (65, .aload_n 0, 1, (0, 0, 0, 0, 0, 0), 0), (66, .iload_n 1, 1, (1, 0, 0, 0, 0, 0), 0), (67, .iconst 1, 1, (0, 0, 0, 0, 0, 0), nI 1), (68, .isub, 1, (0, 0, 0, 0, 0, 0), 0), (69, .putfield 13, 3, (30, 3, 0, 0, 0, 0), 0), (72, .aload_n 0, 1, (0, 0, 0, 0, 0, 0), 0), (73, .iconst 2, 1, (0, 0, 0, 0, 0, 0), nI 2), (74, .putfield 50, 3, (30, 0, 0, 0, 0, 0), 0)]) (by decide +kernel) ?_
    dsimp only [↓wpb, ↓wp1, ↓vI, ↓vL, ↓vD, ↓ldI, ↓ldL, ↓ldD, ↓ldR, ↓k1, ↓k2, ↓kI, ↓kL, ↓kD, ↓kII, ↓kLL, ↓kDD, ↓kR, ↓kIR, ↓kLR, ↓kIIR, ↓kLIR, ↓kDIR, ↓kRIR, ↓kNN, ↓kE, ↓br, ↓bn, ↓rtI, ↓gfv, ↓zchk, lput, ldel, lbad, alA, acat, isRf, dom, dS, dJ, isO, aTy, aLen, elAV, elR, Nat.reduceBEq, Nat.reduceAdd, Bool.or, Bool.and, Nat.add_zero, Nat.zero_add]
    try simp only [Nat.reduceLT, Nat.reduceLeDiff, Nat.reduceEqDiff, true_and, and_true, and_self, Nat.zero_le, Nat.le_refl, true_or, or_true, Bool.false_eq_true, not_false_eq_true, Nat.reduceAdd, Nat.lt_add_one, Nat.zero_lt_one, nI_add, pk_mul, ixL, vpL, ne_eq, reduceIte, wI_sA, sA_same, sA_ne, sA_sA, sA_comm, uI_at, uN_at, enc_at, uI_enc, uI_uI, itn1, itn2, itn3, itn4, itc, itc0, itc1, upM_s, upM_n, f0]
    refine ⟨fun q => ?_, fun q => ?_⟩
    · have q : c = 0 := (nI_eq (by omega) (by omega)).mp (show nI c = nI 0 from q)
      subst q
      rw [if_pos rfl] at hB
      refine V_run hB (rt := some .int) (nL := 2) (mc := 0) rfl rfl rfl obX11_execute_77 ?_
      dsimp only [bX11_execute_77, ↓wpb, ↓wp1, ↓vI, ↓vL, ↓vD, ↓ldI, ↓ldL, ↓ldD, ↓ldR, ↓k1, ↓k2, ↓kI, ↓kL, ↓kD, ↓kII, ↓kLL, ↓kDD, ↓kR, ↓kIR, ↓kLR, ↓kIIR, ↓kLIR, ↓kDIR, ↓kRIR, ↓kNN, ↓kE, ↓br, ↓bn, ↓rtI, ↓gfv, ↓zchk, lput, ldel, lbad, alA, acat, isRf, dom, dS, dJ, isO, aTy, aLen, elAV, elR, Nat.reduceBEq, Nat.reduceAdd, Bool.or, Bool.and, Nat.add_zero, Nat.zero_add]
      try simp only [Nat.reduceLT, Nat.reduceLeDiff, Nat.reduceEqDiff, true_and, and_true, and_self, Nat.zero_le, Nat.le_refl, true_or, or_true, Bool.false_eq_true, not_false_eq_true, Nat.reduceAdd, Nat.lt_add_one, Nat.zero_lt_one, nI_add, pk_mul, ixL, vpL, ne_eq, reduceIte, wI_sA, sA_same, sA_ne, sA_sA, sA_comm, uI_at, uN_at, enc_at, uI_enc, uI_uI, itn1, itn2, itn3, itn4, itc, itc0, itc1, upM_s, upM_n]
      refine V_callV hB hno (q_ends2 (σ := (σ.1, σ.2.1, σ.2.2.1, σ.2.2.2.1, [], σ.2.2.2.2.2)) hc hP3.1 (fun k hk => by rw [g323]; exact hB32 k hk) hI.2.1 hIr.2.1 (by omega)) rfl (by decide +kernel) cvX11_86 (dom1 rfl) npX11_ends ⟨by decide, by decide⟩ (Nat.le_of_ble_eq_true rfl) (by decide) ?_ ?_
      rotate_left
      · intro E τ' hq; cases hq.1
      intro v5 t5 hq
      obtain ⟨e5, h1, h2⟩ := hq
      cases e5
      show V x t5 0 82 _ _
      refine V_run hB (rt := some .int) (nL := 2) (mc := 0) rfl rfl rfl obX11_execute_82 ?_
      dsimp only [bX11_execute_82, ↓wpb, ↓wp1, ↓vI, ↓vL, ↓vD, ↓ldI, ↓ldL, ↓ldD, ↓ldR, ↓k1, ↓k2, ↓kI, ↓kL, ↓kD, ↓kII, ↓kLL, ↓kDD, ↓kR, ↓kIR, ↓kLR, ↓kIIR, ↓kLIR, ↓kDIR, ↓kRIR, ↓kNN, ↓kE, ↓br, ↓bn, ↓rtI, ↓gfv, ↓zchk, lput, ldel, lbad, alA, acat, isRf, dom, dS, dJ, isO, aTy, aLen, elAV, elR, Nat.reduceBEq, Nat.reduceAdd, Bool.or, Bool.and, Nat.add_zero, Nat.zero_add]
      try simp only [Nat.reduceLT, Nat.reduceLeDiff, Nat.reduceEqDiff, true_and, and_true, and_self, Nat.zero_le, Nat.le_refl, true_or, or_true, Bool.false_eq_true, not_false_eq_true, Nat.reduceAdd, Nat.lt_add_one, Nat.zero_lt_one, nI_add, pk_mul, ixL, vpL, ne_eq, reduceIte, wI_sA, sA_same, sA_ne, sA_sA, sA_comm, uI_at, uN_at, enc_at, uI_enc, uI_uI, itn1, itn2, itn3, itn4, itc, itc0, itc1, upM_s, upM_n]
      exact ⟨rfl, h1, (hBO.trans gO3).trans h2⟩
    · have q : c ≠ 0 := fun z => q (by rw [z]; rfl)
      have hN := hrp q
      rw [if_neg q] at hB
      obtain ⟨m31, m0, ml, ⟨x1, x2, x3, x4, x5, x6⟩, m34, m33, m37, m38, m40, m41⟩ := hP3.1
      have e7 : nI N - nI 1 = nI (N - 1) := pk_sub hN
      rw [e7]
      have hM4 : MW (sA t3 30 (uI (uI (t3.1 (30, 0, 0)) 3 (nI (N - 1))) 0 (nI 2))) 2 (a', σ.2.1, σ.2.2.1, (σ.2.2.2.1.1, some (N - 1)), [], σ.2.2.2.2.2) := by
        refine ⟨?_, ?_, ml, ?_, ?_⟩
        · simp only [sA_same, sA_ne, ne_eq, Nat.reduceEqDiff, not_false_eq_true, not_true_eq_false]; exact m31
        · simp only [sA_same, sA_ne, ne_eq, Nat.reduceEqDiff, not_false_eq_true, not_true_eq_false]; rfl
        · simp only [sA_same, sA_ne, ne_eq, Nat.reduceEqDiff, not_false_eq_true, not_true_eq_false]; exact ⟨x1, x2, rfl, x4, x5, x6⟩
        · simp only [sA_same, sA_ne, ne_eq, Nat.reduceEqDiff, not_false_eq_true, not_true_eq_false]; exact ⟨m34, m33, m37, m38, m40, m41⟩
      refine V_run hB (rt := some .int) (nL := 2) (mc := 0) rfl rfl rfl obX11_execute_77 ?_
      dsimp only [bX11_execute_77, ↓wpb, ↓wp1, ↓vI, ↓vL, ↓vD, ↓ldI, ↓ldL, ↓ldD, ↓ldR, ↓k1, ↓k2, ↓kI, ↓kL, ↓kD, ↓kII, ↓kLL, ↓kDD, ↓kR, ↓kIR, ↓kLR, ↓kIIR, ↓kLIR, ↓kDIR, ↓kRIR, ↓kNN, ↓kE, ↓br, ↓bn, ↓rtI, ↓gfv, ↓zchk, lput, ldel, lbad, alA, acat, isRf, dom, dS, dJ, isO, aTy, aLen, elAV, elR, Nat.reduceBEq, Nat.reduceAdd, Bool.or, Bool.and, Nat.add_zero, Nat.zero_add]
      try simp only [Nat.reduceLT, Nat.reduceLeDiff, Nat.reduceEqDiff, true_and, and_true, and_self, Nat.zero_le, Nat.le_refl, true_or, or_true, Bool.false_eq_true, not_false_eq_true, Nat.reduceAdd, Nat.lt_add_one, Nat.zero_lt_one, nI_add, pk_mul, ixL, vpL, ne_eq, reduceIte, wI_sA, sA_same, sA_ne, sA_sA, sA_comm, uI_at, uN_at, enc_at, uI_enc, uI_uI, itn1, itn2, itn3, itn4, itc, itc0, itc1, upM_s, upM_n]
      refine V_callV hB hno (q_ends2 (σ := (σ.1, σ.2.1, σ.2.2.1, (σ.2.2.2.1.1, some (N - 1)), [], σ.2.2.2.2.2)) hc hM4 (fun k hk => by simp only [sA_same, sA_ne, ne_eq, Nat.reduceEqDiff, not_false_eq_true, not_true_eq_false]; rw [g323]; exact hB32 k hk) hI.2.1 hIr.2.1 (by omega)) rfl (by decide +kernel) cvX11_86 (dom1 rfl) npX11_ends ⟨by decide, by decide⟩ (Nat.le_of_ble_eq_true rfl) (by decide) ?_ ?_
      rotate_left
      · intro E τ' hq; cases hq.1
      intro v5 t5 hq
      obtain ⟨e5, h1, h2⟩ := hq
      cases e5
      show V x t5 0 82 _ _
      refine V_run hB (rt := some .int) (nL := 2) (mc := 0) rfl rfl rfl obX11_execute_82 ?_
      dsimp only [bX11_execute_82, ↓wpb, ↓wp1, ↓vI, ↓vL, ↓vD, ↓ldI, ↓ldL, ↓ldD, ↓ldR, ↓k1, ↓k2, ↓kI, ↓kL, ↓kD, ↓kII, ↓kLL, ↓kDD, ↓kR, ↓kIR, ↓kLR, ↓kIIR, ↓kLIR, ↓kDIR, ↓kRIR, ↓kNN, ↓kE, ↓br, ↓bn, ↓rtI, ↓gfv, ↓zchk, lput, ldel, lbad, alA, acat, isRf, dom, dS, dJ, isO, aTy, aLen, elAV, elR, Nat.reduceBEq, Nat.reduceAdd, Bool.or, Bool.and, Nat.add_zero, Nat.zero_add]
      try simp only [Nat.reduceLT, Nat.reduceLeDiff, Nat.reduceEqDiff, true_and, and_true, and_self, Nat.zero_le, Nat.le_refl, true_or, or_true, Bool.false_eq_true, not_false_eq_true, Nat.reduceAdd, Nat.lt_add_one, Nat.zero_lt_one, nI_add, pk_mul, ixL, vpL, ne_eq, reduceIte, wI_sA, sA_same, sA_ne, sA_sA, sA_comm, uI_at, uN_at, enc_at, uI_enc, uI_uI, itn1, itn2, itn3, itn4, itc, itc0, itc1, upM_s, upM_n]
      exact ⟨rfl, h1, ((hBO.trans gO3).sA _ (by decide) (by decide)).trans h2⟩
end MS1
