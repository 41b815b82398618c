/-! ===== the class: a program parsed ===== -/
theorem dgR_ok {T : List Nat} {m h : Nat} (e : (dgR T m h).1 = false) : h + 1 ≤ (dgR T m h).2.2 := by
  have h1 := dgt_ge T m h 0
  have h2 : (dgt T m h 0).2 ≠ h := beq_eq_false_iff_ne.mp e
  show h + 1 ≤ (dgt T m h 0).2
  omega
theorem bhR_ok {T : List Nat} {m h : Nat} (e : (bhR T m h).1 = false) : h + 2 ≤ (bhR T m h).2.2 := by
  unfold bhR at e ⊢
  by_cases z : T[h]? = some 32
  · rw [if_pos z] at e ⊢
    have := dgR_ok e
    omega
  · rw [if_neg z] at e; cases e
/-- a command takes six signs at least -/
theorem cmS_len {T : List Nat} {w q : Nat} (hw : w < 9) (e : (cmS T w q).1 = false) : q + 6 ≤ (cmS T w q).2.2 + wl w := by
  have hX : (cmX T w q).1 = false := e
  have hQ : (cmQ T w q).1 = false := stN_ok hX
  have hP : (cmP T w q).1 = false := stN_ok hQ
  have gX := stN_ge T (cm3 w) (cmQ T w q).1 (cmQ T w q).2.2
  have gQ := stN_ge T (cm2 w) (cmP T w q).1 (cmP T w q).2.2
  show q + 6 ≤ (cmX T w q).2.2 + wl w
  have gX : (cmQ T w q).2.2 ≤ (cmX T w q).2.2 := gX
  have gQ : (cmP T w q).2.2 ≤ (cmQ T w q).2.2 := gQ
  by_cases h8 : w = 8
  · subst h8
    have e8 : (cmP T 8 q).2.2 = q := rfl
    have w8 : wl 8 = 7 := by decide
    omega
  · have gP : q + 1 ≤ (cmP T w q).2.2 := by
      unfold cmP at hP ⊢
      rw [if_pos (by omega)] at hP ⊢
      exact dgR_ok hP
    by_cases h6 : w = 6
    · subst h6
      have w6 : wl 6 = 4 := by decide
      have e6 : cmQ T 6 q = bhR T 1 (cmP T 6 q).2.2 := by
        show stN (some 1) T (cmP T 6 q).1 (cmP T 6 q).2.2 = _
        rw [hP, stN_f]
      rw [e6] at hQ
      have := bhR_ok hQ
      rw [← e6] at this
      omega
    · have w5 : ∀ w, w < 9 → w ≠ 6 → 5 ≤ wl w := by decide
      have := w5 w hw h6
      omega
theorem cmdR_len {T : List Nat} {h : Nat} (e : (cmdR T h).1 = false) : h + 6 ≤ (cmdR T h).2.2 := by
  by_cases hx : ∃ w, w < 9 ∧ (mF T (fmL w) h).1 = true
  · obtain ⟨w, hw, hm⟩ := hx
    obtain ⟨-, h2, -, -⟩ := cmd_yes hw hm
    rw [h2] at e ⊢
    have := cmS_len hw e
    omega
  · have := (cmd_no (T := T) (h := h) (fun w hw => bool_f (fun z => hx ⟨w, hw, z⟩))).1
    rw [e] at this
    cases this
theorem cmdR_T {T : List Nat} {h : Nat} (hh : h ≤ T.length) : (cmdR T h).2.2 ≤ T.length := by
  by_cases hx : ∃ w, w < 9 ∧ (mF T (fmL w) h).1 = true
  · obtain ⟨w, hw, hm⟩ := hx
    obtain ⟨-, -, -, h2⟩ := cmd_yes hw hm
    rw [h2]
    exact (mF_ge T (fmL w) h hh).2
  · rw [(cmd_no (T := T) (h := h) (fun w hw => bool_f (fun z => hx ⟨w, hw, z⟩))).2]
    exact mxF_le hh 9 (fun i _ => (mF_ge T (fmL i) h hh).2)
theorem pgR_s (T : List Nat) (f h : Nat) : pgR T (f + 1) h = if (cmdR T h).1 = true then (true, [], (cmdR T h).2.2) else if T.length ≤ (cmdR T h).2.2 then (false, [(cmdR T h).2.1], (cmdR T h).2.2) else
    if T[(cmdR T h).2.2]? = some 59 then ((pgR T f ((cmdR T h).2.2 + 1)).1, (cmdR T h).2.1 :: (pgR T f ((cmdR T h).2.2 + 1)).2.1, (pgR T f ((cmdR T h).2.2 + 1)).2.2) else (true, [], (cmdR T h).2.2) := rfl
def pgN (nm : Nm) : Prop := nm.1 = 9 ∨ nm.1 = 27 ∨ nm.1 = 29
/-- the commands read -/
def CmR (τ : Mem) (cs : List Cmd) : Prop := τ.1 (9, 0, 0) 4 = nI cs.length ∧ ∀ j m, cs[j]? = some m → τ.1 (27, 0, 0) j = nI (m.1 + 1) ∧ ∀ i c, (argsL m)[i]? = some c → τ.1 (29, 0, j) i = nI c
def parP (P : Bool × List Cmd × Nat) (τ : Mem) : AOut → Mem → Prop := fun o τ' => o = .inl (some (aI (nI (bN (!P.1))))) ∧ (P.1 = true → τ'.1 (9, 0, 0) 5 = nI P.2.2) ∧ (P.1 = false → CmR τ' P.2.1) ∧ τ'.1 (9, 0, 0) 1 = τ.1 (9, 0, 0) 1 ∧ Same pgN τ τ'
theorem CmR.same {P : Nm → Prop} {τ τ' : Mem} {cs : List Cmd} (h : CmR τ cs) (hm : Same P τ τ') (hP : ∀ nm, P nm → ¬ pgN nm) : CmR τ' cs := by
  have n : ∀ K s j, pgN (K, s, j) → τ'.1 (K, s, j) = τ.1 (K, s, j) := fun K s j hq => (hm.2 _ (fun z => hP _ z hq)).1
  refine ⟨by rw [n 9 0 0 (Or.inl rfl)]; exact h.1, fun j m hj => ?_⟩
  rw [n 27 0 0 (Or.inr (Or.inl rfl)), n 29 0 j (Or.inr (Or.inr rfl))]
  exact h.2 j m hj
section G6
variable {l : Launch} {G : GG} {τ : Mem} {T : List Nat}
theorem c_parse (hc : CtxE l G) (hT : TxR τ T) (hl : T.length ≤ 60) (hch : ∀ c ∈ T, c < 128) : Sat l G iX7_parse [pgM] τ (parP (pgR T (T.length + 1) 0) τ) := by
  refine Sat_of hc.1.1 hc.1.2 (by decide +kernel) (Nat.le_of_ble_eq_true rfl) (fun x hB hno => ?_)
  generalize hPP : pgR T (T.length + 1) 0 = P at hB
  have loop : ∀ f h (cs : List Cmd) t al, T.length + 1 ≤ f + h → 7 * cs.length ≤ h → h ≤ T.length → (pgR T f h).1 = P.1 → (P.1 = true → (pgR T f h).2.2 = P.2.2) → (P.1 = false → cs ++ (pgR T f h).2.1 = P.2.1) → CmR t cs → t.1 (9, 0, 0) 1 = τ.1 (9, 0, 0) 1 → Same pgN τ t →
      (∀ z ∈ [(0, pgM), (1, aI (nI h)), (2, aI (nI cs.length))], lk al z.1 = some z.2) → V x t 0 9 al [] := by
    intro f
    induction f with
    | zero => intro h cs t al h1 h2 h3; omega
    | succ f ih =>
      intro h cs t al h1 h2 h3 p1 p2 p3 hR h9 hS hal
      refine V.sub ?_ hal
      have hTt : TxR t T := hT.of h9 (hS.2 _ (by rintro (z | z | z) <;> cases z)).1
      have hcs : cs.length < 9 := by omega
      rw [pgR_s] at p1 p2 p3
      have hET := cmdR_T h3
      refine V_run hB (rt := some .boolean) (nL := 4) (mc := 0) rfl rfl rfl (ops := [(9, .iload_n 2, 1, (2, 0, 0, 0, 0, 0), 0), (10, .bipush 9, 2, (0, 0, 0, 0, 0, 0), nI 9), (12, .if_icmp .ge 54, 3, (66, 0, 0, 0, 0, 0), 0), (15, .aload_n 0, 1, (0, 0, 0, 0, 0, 0), 0), (16, .iload_n 1, 1, (1, 0, 0, 0, 0, 0), 0)]) (by decide +kernel) ?_
      dsimp only [↓wpb, ↓wp1, ↓vI, ↓vL, ↓vD, ↓ldI, ↓ldL, ↓ldD, ↓ldR, ↓k1, ↓k2, ↓kI, ↓kL, ↓kD, ↓kII, ↓kLL, ↓kDD, ↓kR, ↓kIR, ↓kLR, ↓kIIR, ↓kLIR, ↓kDIR, ↓kRIR, ↓kNN, ↓kE, ↓br, ↓bn, ↓rtI, ↓gfv, ↓zchk, lput, ldel, lbad, alA, acat, isRf, dom, dS, dJ, isO, aTy, aLen, elAV, elR, Nat.reduceBEq, Nat.reduceAdd, Bool.or, Bool.and, Nat.add_zero, Nat.zero_add]
      try simp only [Nat.reduceLT, Nat.reduceLeDiff, Nat.reduceEqDiff, true_and, and_true, and_self, Nat.zero_le, Nat.le_refl, true_or, or_true, Bool.false_eq_true, not_false_eq_true, Nat.reduceAdd, Nat.lt_add_one, Nat.zero_lt_one, nI_add, pk_mul, ixL, vpL, ne_eq, reduceIte, wI_sN, wL_sM, sN_same, sN_K, sN_2, sM_1, sM_same, sM_K, sM_s, uI_at, uN_at, enc_at, uI_enc, uI_uI, upM_s, upM_n]
      refine ⟨fun q => absurd q (nI_ge (by omega) (by omega)), fun _ => ?_⟩
      refine V_callV hB hno (c_read hc hTt hl hch h3 hcs hR.1) rfl (by decide +kernel) cvX7_36 (dom1 rfl) npX7_readCommand ⟨by decide, by decide⟩ (Nat.le_of_ble_eq_true rfl) (by decide) ?_ ?_
      rotate_left
      · intro E τ' hq; cases hq.1
      intro v t1 hq
      obtain ⟨e, r1, r2, r3, hS1⟩ := hq
      cases e
      have hS2 : Same pgN τ t1 := hS.trans (hS1.mono (fun nm q => by rcases q with rfl | rfl | rfl; exact Or.inl rfl; exact Or.inr (Or.inl rfl); exact Or.inr (Or.inr rfl)))
      have hTt1 : TxR t1 T := hT.of (r3.trans h9) (hS2.2 _ (by rintro (z | z | z) <;> cases z)).1
      show V x t1 0 20 _ [aI (if (cmdR T h).1 = true then -1 else nI (cmdR T h).2.2)]
      cases hb : (cmdR T h).1 with
      | true =>
        rw [hb] at p1 p2
        rw [if_pos rfl] at p1 p2
        have p1 : P.1 = true := p1.symm
        have p2 := p2 p1
        have p2 : (cmdR T h).2.2 = P.2.2 := p2
        rw [if_pos rfl]
        refine V_run hB (rt := some .boolean) (nL := 4) (mc := 0) rfl rfl rfl (ops := [(20, .istore_n 3, 1, (3, 0, 0, 0, 0, 0), 0), (21, .iload_n 3, 1, (3, 0, 0, 0, 0, 0), 0), (22, .iconst (-1), 1, (0, 0, 0, 0, 0, 0), -1), (23, .if_icmp .ne 5, 3, (28, 0, 0, 0, 0, 0), 0)]) (by decide +kernel) ?_
        dsimp only [↓wpb, ↓wp1, ↓vI, ↓vL, ↓vD, ↓ldI, ↓ldL, ↓ldD, ↓ldR, ↓k1, ↓k2, ↓kI, ↓kL, ↓kD, ↓kII, ↓kLL, ↓kDD, ↓kR, ↓kIR, ↓kLR, ↓kIIR, ↓kLIR, ↓kDIR, ↓kRIR, ↓kNN, ↓kE, ↓br, ↓bn, ↓rtI, ↓gfv, ↓zchk, lput, ldel, lbad, alA, acat, isRf, dom, dS, dJ, isO, aTy, aLen, elAV, elR, Nat.reduceBEq, Nat.reduceAdd, Bool.or, Bool.and, Nat.add_zero, Nat.zero_add]
        try simp only [Nat.reduceLT, Nat.reduceLeDiff, Nat.reduceEqDiff, true_and, and_true, and_self, Nat.zero_le, Nat.le_refl, true_or, or_true, Bool.false_eq_true, not_false_eq_true, Nat.reduceAdd, Nat.lt_add_one, Nat.zero_lt_one, nI_add, pk_mul, ixL, vpL, ne_eq, reduceIte, wI_sN, wL_sM, sN_same, sN_K, sN_2, sM_1, sM_same, sM_K, sM_s, uI_at, uN_at, enc_at, uI_enc, uI_uI, upM_s, upM_n]
        refine ⟨fun q => absurd trivial q, fun _ => ?_⟩
        refine V_run hB (rt := some .boolean) (nL := 4) (mc := 0) rfl rfl rfl (ops := [(26, .iconst 0, 1, (0, 0, 0, 0, 0, 0), nI 0), (27, .ireturn, 1, (0, 0, 0, 0, 0, 0), 0)]) (by decide +kernel) ?_
        dsimp only [↓wpb, ↓wp1, ↓vI, ↓vL, ↓vD, ↓ldI, ↓ldL, ↓ldD, ↓ldR, ↓k1, ↓k2, ↓kI, ↓kL, ↓kD, ↓kII, ↓kLL, ↓kDD, ↓kR, ↓kIR, ↓kLR, ↓kIIR, ↓kLIR, ↓kDIR, ↓kRIR, ↓kNN, ↓kE, ↓br, ↓bn, ↓rtI, ↓gfv, ↓zchk, lput, ldel, lbad, alA, acat, isRf, dom, dS, dJ, isO, aTy, aLen, elAV, elR, Nat.reduceBEq, Nat.reduceAdd, Bool.or, Bool.and, Nat.add_zero, Nat.zero_add]
        try simp only [Nat.reduceLT, Nat.reduceLeDiff, Nat.reduceEqDiff, true_and, and_true, and_self, Nat.zero_le, Nat.le_refl, true_or, or_true, Bool.false_eq_true, not_false_eq_true, Nat.reduceAdd, Nat.lt_add_one, Nat.zero_lt_one, nI_add, pk_mul, ixL, vpL, ne_eq, reduceIte, wI_sN, wL_sM, sN_same, sN_K, sN_2, sM_1, sM_same, sM_K, sM_s, uI_at, uN_at, enc_at, uI_enc, uI_uI, upM_s, upM_n]
        unfold parP
        rw [p1]
        exact ⟨by decide, rfl, fun _ => by rw [(r1 hb).1, p2], fun z => (nomatch z), r3.trans h9, hS2⟩
      | false =>
        rw [hb] at p1 p2 p3
        rw [if_neg (by decide)] at p1 p2 p3
        rw [if_neg (by decide)]
        have hlen := cmdR_len hb
        obtain ⟨q4, q27, q29⟩ := r2 hb
        have g1 := hTt1.1
        have hR1 : CmR t1 (cs ++ [(cmdR T h).2.1]) := by
          refine ⟨by rw [q4, List.length_append]; rfl, fun j m hj => ?_⟩
          rw [q27]
          simp only [uI]
          by_cases hjn : j = cs.length
          · rw [if_pos hjn]
            subst hjn
            rw [List.getElem?_append_right (Nat.le_refl _), Nat.sub_self] at hj
            cases hj
            exact ⟨rfl, q29⟩
          · rw [if_neg hjn]
            have hl2 := (List.getElem?_eq_some_iff.mp hj).1
            rw [List.length_append] at hl2
            have hl2 : j < cs.length + 1 := hl2
            rw [List.getElem?_append_left (by omega)] at hj
            obtain ⟨g3, g4⟩ := hR.2 j m hj
            refine ⟨g3, fun i c hi => ?_⟩
            rw [(hS1.2 _ (by rintro (z | z | z) <;> injection z with z1 z2 <;> first | (cases z1; done) | (injection z2 with z3 z4; exact hjn z4))).1]
            exact g4 i c hi
        refine V_run hB (rt := some .boolean) (nL := 4) (mc := 0) rfl rfl rfl (ops := [(20, .istore_n 3, 1, (3, 0, 0, 0, 0, 0), 0), (21, .iload_n 3, 1, (3, 0, 0, 0, 0, 0), 0), (22, .iconst (-1), 1, (0, 0, 0, 0, 0, 0), -1), (23, .if_icmp .ne 5, 3, (28, 0, 0, 0, 0, 0), 0)]) (by decide +kernel) ?_
        dsimp only [↓wpb, ↓wp1, ↓vI, ↓vL, ↓vD, ↓ldI, ↓ldL, ↓ldD, ↓ldR, ↓k1, ↓k2, ↓kI, ↓kL, ↓kD, ↓kII, ↓kLL, ↓kDD, ↓kR, ↓kIR, ↓kLR, ↓kIIR, ↓kLIR, ↓kDIR, ↓kRIR, ↓kNN, ↓kE, ↓br, ↓bn, ↓rtI, ↓gfv, ↓zchk, lput, ldel, lbad, alA, acat, isRf, dom, dS, dJ, isO, aTy, aLen, elAV, elR, Nat.reduceBEq, Nat.reduceAdd, Bool.or, Bool.and, Nat.add_zero, Nat.zero_add]
        try simp only [Nat.reduceLT, Nat.reduceLeDiff, Nat.reduceEqDiff, true_and, and_true, and_self, Nat.zero_le, Nat.le_refl, true_or, or_true, Bool.false_eq_true, not_false_eq_true, Nat.reduceAdd, Nat.lt_add_one, Nat.zero_lt_one, nI_add, pk_mul, ixL, vpL, ne_eq, reduceIte, wI_sN, wL_sM, sN_same, sN_K, sN_2, sM_1, sM_same, sM_K, sM_s, uI_at, uN_at, enc_at, uI_enc, uI_uI, upM_s, upM_n]
        refine ⟨fun _ => ?_, fun q => absurd q (nI_n1 (by omega))⟩
        generalize hEE : (cmdR T h).2.2 = E at *
        by_cases hET2 : T.length ≤ E
        · rw [if_pos hET2] at p1 p3
          have p1 : P.1 = false := p1.symm
          have p3 := p3 p1
          refine V_run hB (rt := some .boolean) (nL := 4) (mc := 0) rfl rfl rfl (ops := [(28, .iload_n 3, 1, (3, 0, 0, 0, 0, 0), 0), (29, .aload_n 0, 1, (0, 0, 0, 0, 0, 0), 0), (30, .getfield 15, 3, (9, 1, 0, 0, 0, 0), 0), (33, .if_icmp .lt 5, 3, (38, 0, 0, 0, 0, 0), 0)]) (by decide +kernel) ?_
          dsimp only [↓wpb, ↓wp1, ↓vI, ↓vL, ↓vD, ↓ldI, ↓ldL, ↓ldD, ↓ldR, ↓k1, ↓k2, ↓kI, ↓kL, ↓kD, ↓kII, ↓kLL, ↓kDD, ↓kR, ↓kIR, ↓kLR, ↓kIIR, ↓kLIR, ↓kDIR, ↓kRIR, ↓kNN, ↓kE, ↓br, ↓bn, ↓rtI, ↓gfv, ↓zchk, lput, ldel, lbad, alA, acat, isRf, dom, dS, dJ, isO, aTy, aLen, elAV, elR, Nat.reduceBEq, Nat.reduceAdd, Bool.or, Bool.and, Nat.add_zero, Nat.zero_add]
          try simp only [Nat.reduceLT, Nat.reduceLeDiff, Nat.reduceEqDiff, true_and, and_true, and_self, Nat.zero_le, Nat.le_refl, true_or, or_true, Bool.false_eq_true, not_false_eq_true, Nat.reduceAdd, Nat.lt_add_one, Nat.zero_lt_one, nI_add, pk_mul, ixL, vpL, ne_eq, reduceIte, wI_sN, wL_sM, sN_same, sN_K, sN_2, sM_1, sM_same, sM_K, sM_s, uI_at, uN_at, enc_at, uI_enc, uI_uI, upM_s, upM_n, g1]
          refine ⟨fun q => absurd q (nI_nlt hET2 (by omega)), fun _ => ?_⟩
          refine V_run hB (rt := some .boolean) (nL := 4) (mc := 0) rfl rfl rfl (ops := [(36, .iconst 1, 1, (0, 0, 0, 0, 0, 0), nI 1), (37, .ireturn, 1, (0, 0, 0, 0, 0, 0), 0)]) (by decide +kernel) ?_
          dsimp only [↓wpb, ↓wp1, ↓vI, ↓vL, ↓vD, ↓ldI, ↓ldL, ↓ldD, ↓ldR, ↓k1, ↓k2, ↓kI, ↓kL, ↓kD, ↓kII, ↓kLL, ↓kDD, ↓kR, ↓kIR, ↓kLR, ↓kIIR, ↓kLIR, ↓kDIR, ↓kRIR, ↓kNN, ↓kE, ↓br, ↓bn, ↓rtI, ↓gfv, ↓zchk, lput, ldel, lbad, alA, acat, isRf, dom, dS, dJ, isO, aTy, aLen, elAV, elR, Nat.reduceBEq, Nat.reduceAdd, Bool.or, Bool.and, Nat.add_zero, Nat.zero_add]
          try simp only [Nat.reduceLT, Nat.reduceLeDiff, Nat.reduceEqDiff, true_and, and_true, and_self, Nat.zero_le, Nat.le_refl, true_or, or_true, Bool.false_eq_true, not_false_eq_true, Nat.reduceAdd, Nat.lt_add_one, Nat.zero_lt_one, nI_add, pk_mul, ixL, vpL, ne_eq, reduceIte, wI_sN, wL_sM, sN_same, sN_K, sN_2, sM_1, sM_same, sM_K, sM_s, uI_at, uN_at, enc_at, uI_enc, uI_uI, upM_s, upM_n]
          unfold parP
          rw [p1]
          exact ⟨by decide, rfl, fun z => (nomatch z), fun _ => by rw [← p3]; exact hR1, r3.trans h9, hS2⟩
        · rw [if_neg hET2] at p1 p2 p3
          have hlt : E < T.length := by omega
          have ec : T[E]? = some T[E] := List.getElem?_eq_getElem hlt
          have hcm := hch _ (List.getElem_mem hlt)
          have rc := hTt1.2 E _ ec
          rw [ec] at p1 p2 p3
          generalize T[E] = c at *
          have ix : (nI E).toNatClampNeg = E := ixL (by omega)
          have vx : vp_in (nI E) 60 = True := vpL (by omega) (by omega)
          refine V_run hB (rt := some .boolean) (nL := 4) (mc := 0) rfl rfl rfl (ops := [(28, .iload_n 3, 1, (3, 0, 0, 0, 0, 0), 0), (29, .aload_n 0, 1, (0, 0, 0, 0, 0, 0), 0), (30, .getfield 15, 3, (9, 1, 0, 0, 0, 0), 0), (33, .if_icmp .lt 5, 3, (38, 0, 0, 0, 0, 0), 0)]) (by decide +kernel) ?_
          dsimp only [↓wpb, ↓wp1, ↓vI, ↓vL, ↓vD, ↓ldI, ↓ldL, ↓ldD, ↓ldR, ↓k1, ↓k2, ↓kI, ↓kL, ↓kD, ↓kII, ↓kLL, ↓kDD, ↓kR, ↓kIR, ↓kLR, ↓kIIR, ↓kLIR, ↓kDIR, ↓kRIR, ↓kNN, ↓kE, ↓br, ↓bn, ↓rtI, ↓gfv, ↓zchk, lput, ldel, lbad, alA, acat, isRf, dom, dS, dJ, isO, aTy, aLen, elAV, elR, Nat.reduceBEq, Nat.reduceAdd, Bool.or, Bool.and, Nat.add_zero, Nat.zero_add]
          try simp only [Nat.reduceLT, Nat.reduceLeDiff, Nat.reduceEqDiff, true_and, and_true, and_self, Nat.zero_le, Nat.le_refl, true_or, or_true, Bool.false_eq_true, not_false_eq_true, Nat.reduceAdd, Nat.lt_add_one, Nat.zero_lt_one, nI_add, pk_mul, ixL, vpL, ne_eq, reduceIte, wI_sN, wL_sM, sN_same, sN_K, sN_2, sM_1, sM_same, sM_K, sM_s, uI_at, uN_at, enc_at, uI_enc, uI_uI, upM_s, upM_n, g1]
          refine ⟨fun _ => ?_, fun q => absurd (nI_lt hlt (by omega)) q⟩
          refine V_run hB (rt := some .boolean) (nL := 4) (mc := 0) rfl rfl rfl (ops := [(38, .aload_n 0, 1, (0, 0, 0, 0, 0, 0), 0), (39, .getfield 9, 3, (9, 0, 2, 26, 0, 0), 0), (42, .iload_n 3, 1, (3, 0, 0, 0, 0, 0), 0), (43, .caload, 1, (0, 0, 0, 0, 0, 0), 0), (44, .bipush 59, 2, (0, 0, 0, 0, 0, 0), nI 59), (46, .if_icmp .eq 10, 3, (56, 0, 0, 0, 0, 0), 0)]) (by decide +kernel) ?_
          dsimp only [↓wpb, ↓wp1, ↓vI, ↓vL, ↓vD, ↓ldI, ↓ldL, ↓ldD, ↓ldR, ↓k1, ↓k2, ↓kI, ↓kL, ↓kD, ↓kII, ↓kLL, ↓kDD, ↓kR, ↓kIR, ↓kLR, ↓kIIR, ↓kLIR, ↓kDIR, ↓kRIR, ↓kNN, ↓kE, ↓br, ↓bn, ↓rtI, ↓gfv, ↓zchk, lput, ldel, lbad, alA, acat, isRf, dom, dS, dJ, isO, aTy, aLen, elAV, elR, Nat.reduceBEq, Nat.reduceAdd, Bool.or, Bool.and, Nat.add_zero, Nat.zero_add]
          try simp only [Nat.reduceLT, Nat.reduceLeDiff, Nat.reduceEqDiff, true_and, and_true, and_self, Nat.zero_le, Nat.le_refl, true_or, or_true, Bool.false_eq_true, not_false_eq_true, Nat.reduceAdd, Nat.lt_add_one, Nat.zero_lt_one, nI_add, pk_mul, ixL, vpL, ne_eq, reduceIte, wI_sN, wL_sM, sN_same, sN_K, sN_2, sM_1, sM_same, sM_K, sM_s, uI_at, uN_at, enc_at, uI_enc, uI_uI, upM_s, upM_n, ix, vx, rc]
          rw [nI_eq (show c < 2147483648 by omega) (by omega)]
          refine ⟨fun q => ?_, fun q => ?_⟩
          · rw [if_pos (by rw [q])] at p1 p2 p3
            refine V_run hB (rt := some .boolean) (nL := 4) (mc := 0) rfl rfl rfl obX7_parse_56 ?_
            dsimp only [bX7_parse_56, ↓wpb, ↓wp1, ↓vI, ↓vL, ↓vD, ↓ldI, ↓ldL, ↓ldD, ↓ldR, ↓k1, ↓k2, ↓kI, ↓kL, ↓kD, ↓kII, ↓kLL, ↓kDD, ↓kR, ↓kIR, ↓kLR, ↓kIIR, ↓kLIR, ↓kDIR, ↓kRIR, ↓kNN, ↓kE, ↓br, ↓bn, ↓rtI, ↓gfv, ↓zchk, lput, ldel, lbad, alA, acat, isRf, dom, dS, dJ, isO, aTy, aLen, elAV, elR, Nat.reduceBEq, Nat.reduceAdd, Bool.or, Bool.and, Nat.add_zero, Nat.zero_add]
            try simp only [Nat.reduceLT, Nat.reduceLeDiff, Nat.reduceEqDiff, true_and, and_true, and_self, Nat.zero_le, Nat.le_refl, true_or, or_true, Bool.false_eq_true, not_false_eq_true, Nat.reduceAdd, Nat.lt_add_one, Nat.zero_lt_one, nI_add, pk_mul, ixL, vpL, ne_eq, reduceIte, wI_sN, wL_sM, sN_same, sN_K, sN_2, sM_1, sM_same, sM_K, sM_s, uI_at, uN_at, enc_at, uI_enc, uI_uI, upM_s, upM_n]
            have hl3 : (cs ++ [(cmdR T h).2.1]).length = cs.length + 1 := by rw [List.length_append]; rfl
            refine ih (E + 1) (cs ++ [(cmdR T h).2.1]) t1 _ (by omega) (by rw [hl3]; omega) (by omega) p1 p2 (fun z => by rw [List.append_assoc]; exact p3 z) hR1 (r3.trans h9) hS2 ?_
            rw [hl3]
            exact (List.forall_mem_cons.mpr ⟨rfl, List.forall_mem_cons.mpr ⟨rfl, List.forall_mem_cons.mpr ⟨rfl, fun _ h => absurd h List.not_mem_nil⟩⟩⟩)
          · have hne : ¬ some c = some 59 := fun z => q (Option.some.inj z)
            rw [if_neg hne] at p1 p2
            have p1 : P.1 = true := p1.symm
            have p2 := p2 p1
            have p2 : E = P.2.2 := p2
            refine V_run hB (rt := some .boolean) (nL := 4) (mc := 0) rfl rfl rfl (ops := [(49, .aload_n 0, 1, (0, 0, 0, 0, 0, 0), 0), (50, .iload_n 3, 1, (3, 0, 0, 0, 0, 0), 0), (51, .putfield 33, 3, (9, 5, 0, 0, 0, 0), 0), (54, .iconst 0, 1, (0, 0, 0, 0, 0, 0), nI 0), (55, .ireturn, 1, (0, 0, 0, 0, 0, 0), 0)]) (by decide +kernel) ?_
            dsimp only [↓wpb, ↓wp1, ↓vI, ↓vL, ↓vD, ↓ldI, ↓ldL, ↓ldD, ↓ldR, ↓k1, ↓k2, ↓kI, ↓kL, ↓kD, ↓kII, ↓kLL, ↓kDD, ↓kR, ↓kIR, ↓kLR, ↓kIIR, ↓kLIR, ↓kDIR, ↓kRIR, ↓kNN, ↓kE, ↓br, ↓bn, ↓rtI, ↓gfv, ↓zchk, lput, ldel, lbad, alA, acat, isRf, dom, dS, dJ, isO, aTy, aLen, elAV, elR, Nat.reduceBEq, Nat.reduceAdd, Bool.or, Bool.and, Nat.add_zero, Nat.zero_add]
            try simp only [Nat.reduceLT, Nat.reduceLeDiff, Nat.reduceEqDiff, true_and, and_true, and_self, Nat.zero_le, Nat.le_refl, true_or, or_true, Bool.false_eq_true, not_false_eq_true, Nat.reduceAdd, Nat.lt_add_one, Nat.zero_lt_one, nI_add, pk_mul, ixL, vpL, ne_eq, reduceIte, wI_sN, wL_sM, sN_same, sN_K, sN_2, sM_1, sM_same, sM_K, sM_s, uI_at, uN_at, enc_at, uI_enc, uI_uI, upM_s, upM_n]
            unfold parP
            rw [p1]
            refine ⟨by decide, rfl, fun _ => ?_, fun z => (nomatch z), ?_, hS2.sN _ (Or.inl rfl)⟩
            · rw [sN_same, ← p2]; rfl
            · rw [sN_same]
              simp only [uI]
              rw [if_neg (by decide)]
              exact r3.trans h9
  refine V_run hB (rt := some .boolean) (nL := 4) (mc := 0) rfl rfl rfl obX7_parse_0 ?_
  dsimp only [bX7_parse_0, ↓wpb, ↓wp1, ↓vI, ↓vL, ↓vD, ↓ldI, ↓ldL, ↓ldD, ↓ldR, ↓k1, ↓k2, ↓kI, ↓kL, ↓kD, ↓kII, ↓kLL, ↓kDD, ↓kR, ↓kIR, ↓kLR, ↓kIIR, ↓kLIR, ↓kDIR, ↓kRIR, ↓kNN, ↓kE, ↓br, ↓bn, ↓rtI, ↓gfv, ↓zchk, lput, ldel, lbad, alA, acat, isRf, dom, dS, dJ, isO, aTy, aLen, elAV, elR, Nat.reduceBEq, Nat.reduceAdd, Bool.or, Bool.and, Nat.add_zero, Nat.zero_add]
  try simp only [Nat.reduceLT, Nat.reduceLeDiff, Nat.reduceEqDiff, true_and, and_true, and_self, Nat.zero_le, Nat.le_refl, true_or, or_true, Bool.false_eq_true, not_false_eq_true, Nat.reduceAdd, Nat.lt_add_one, Nat.zero_lt_one, nI_add, pk_mul, ixL, vpL, ne_eq, reduceIte, wI_sN, wL_sM, sN_same, sN_K, sN_2, sM_1, sM_same, sM_K, sM_s, uI_at, uN_at, enc_at, uI_enc, uI_uI, upM_s, upM_n]
  refine loop (T.length + 1) 0 [] _ _ (by omega) (Nat.le_refl 0) (Nat.zero_le _) (by rw [hPP]) (fun _ => by rw [hPP]) (fun _ => by rw [hPP]; rfl) ⟨by rw [sN_same]; rfl, fun j m hj => (nomatch hj)⟩ (by rw [sN_same]; rfl) ((Same.refl pgN τ).sN _ (Or.inl rfl)) (List.forall_mem_cons.mpr ⟨rfl, List.forall_mem_cons.mpr ⟨rfl, List.forall_mem_cons.mpr ⟨rfl, fun _ h => absurd h List.not_mem_nil⟩⟩⟩)
end G6
