/-! ===== the class: a command read ===== -/
def argsL (m : Cmd) : List Nat := match m with
  | (w, p, q, z) => if w = 0 ∨ w = 6 then [p, q, z] else if w = 2 ∨ w = 5 then [p, q] else if w = 8 then [] else [p]
theorem nF_letters {T : List Nat} {h w : Nat} {S : List Nat} (hw : w < 9) (hf : mt T h w (wl w) = true) : ∀ m n, n + m = wl w → nF T ((List.range' n m).map (wd w) ++ S) (h + n) = nF T S (h + wl w)
  | 0, n, e => by
    have hn : n = wl w := by omega
    subst hn
    rfl
  | m + 1, n, e => by
    obtain ⟨s1, s2⟩ := wd_ns w hw n (by omega)
    have ht := (mt_ch hf (i := n) (by omega)).2
    have hms : msg T (wd w n) (h + n) = h + n + 1 := by unfold msg; rw [if_neg s1, if_neg s2, if_pos ht]
    show (if wd w n = 35 then _ else if wd w n = 42 then _ else nF T ((List.range' (n + 1) m).map (wd w) ++ S) (msg T (wd w n) (h + n))) = _
    rw [if_neg s1, if_neg s2, hms]
    exact nF_letters hw hf m (n + 1) (by omega)
theorem nF_35 (T F : List Nat) (h : Nat) : nF T (35 :: F) h = (dgR T 1 h).2.1 :: nF T F (dgR T 1 h).2.2 := rfl
theorem nF_42 (T F : List Nat) (h : Nat) : nF T (42 :: F) h = (dgR T 3 h).2.1 :: nF T F (dgR T 3 h).2.2 := rfl
theorem nF_st {T F : List Nat} {m h c : Nat} (hcm : (c = 35 ∧ m = 1) ∨ (c = 42 ∧ m = 3)) (ok : (bhR T m h).1 = false) : nF T (32 :: c :: F) h = (bhR T m h).2.1 :: nF T F (bhR T m h).2.2 := by
  have e32 : T[h]? = some 32 := by
    unfold bhR at ok
    by_cases e : T[h]? = some 32
    · exact e
    · rw [if_neg e] at ok; cases ok
  have hms : msg T 32 h = h + 1 := by
    show (if T[h]? = some 32 then h + 1 else h) = h + 1
    rw [if_pos e32]
  have hb : bhR T m h = dgR T m (h + 1) := by unfold bhR; rw [if_pos e32]
  show nF T (c :: F) (msg T 32 h) = _
  rw [hms, hb]
  rcases hcm with ⟨rfl, rfl⟩ | ⟨rfl, rfl⟩ <;> rfl
theorem stN_ok {T : List Nat} {m : Option Nat} {b : Bool} {h : Nat} (e : (stN m T b h).1 = false) : b = false := by
  cases m with
  | none => exact e
  | some m =>
    cases b with
    | false => rfl
    | true => cases e
theorem nF_sg {T : List Nat} : ∀ w, w < 9 → ∀ q, (cmS T w q).1 = false → nF T (sgL w) q = argsL (cmS T w q).2.1 := by
  have one : ∀ m q F, F = [] → (dgR T m q).2.1 :: nF T F (dgR T m q).2.2 = [(dgR T m q).2.1] := fun m q F e => by subst e; rfl
  have two : ∀ m m2 c q, ((c = 35 ∧ m2 = 1) ∨ (c = 42 ∧ m2 = 3)) → (stN (some m2) T (dgR T m q).1 (dgR T m q).2.2).1 = false → (dgR T m q).2.1 :: nF T [32, c] (dgR T m q).2.2 = [(dgR T m q).2.1, (stN (some m2) T (dgR T m q).1 (dgR T m q).2.2).2.1] := by
    intro m m2 c q hcm e
    have e1 := stN_ok e
    rw [e1, stN_f] at e ⊢
    rw [nF_st hcm e]
    rfl
  have three : ∀ m m2 c q, ((c = 35 ∧ m2 = 1) ∨ (c = 42 ∧ m2 = 3)) → (stN (some 3) T (stN (some m2) T (dgR T m q).1 (dgR T m q).2.2).1 (stN (some m2) T (dgR T m q).1 (dgR T m q).2.2).2.2).1 = false →
      (dgR T m q).2.1 :: nF T [32, c, 32, 42] (dgR T m q).2.2 = [(dgR T m q).2.1, (stN (some m2) T (dgR T m q).1 (dgR T m q).2.2).2.1, (stN (some 3) T (stN (some m2) T (dgR T m q).1 (dgR T m q).2.2).1 (stN (some m2) T (dgR T m q).1 (dgR T m q).2.2).2.2).2.1] := by
    intro m m2 c q hcm e
    have e1 := stN_ok e
    have e2 := stN_ok e1
    rw [e1, stN_f] at e ⊢
    rw [e2, stN_f] at e1 e ⊢
    rw [nF_st hcm e1, nF_st (Or.inr ⟨rfl, rfl⟩) e]
    rfl
  intro w hw q e
  rcases (by omega : w = 0 ∨ w = 1 ∨ w = 2 ∨ w = 3 ∨ w = 4 ∨ w = 5 ∨ w = 6 ∨ w = 7 ∨ w = 8) with rfl | rfl | rfl | rfl | rfl | rfl | rfl | rfl | rfl
  · exact three 1 3 42 q (Or.inr ⟨rfl, rfl⟩) e
  · rfl
  · exact two 3 3 42 q (Or.inr ⟨rfl, rfl⟩) e
  · rfl
  · rfl
  · exact two 1 1 35 q (Or.inl ⟨rfl, rfl⟩) e
  · exact three 3 1 35 q (Or.inl ⟨rfl, rfl⟩) e
  · rfl
  · rfl
theorem nF_cmd {T : List Nat} {h w : Nat} (hw : w < 9) (e : (mF T (fmL w) h).1 = true) : nF T (fmL w) h = argsL (cmdR T h).2.1 ∧ (cmdR T h).2.1.1 = w := by
  obtain ⟨h1, h2, h3, -⟩ := cmd_yes hw e
  rw [h2] at h3 ⊢
  refine ⟨?_, rfl⟩
  rw [← nF_sg w hw _ h3, fmL_w w hw]
  exact nF_letters hw (lm_full.mp h1) (wl w) 0 (by omega)
section E6
variable {x : Cx} {l : Launch} {G : GG} {y : MI} {Φ : AOut → Mem → Prop} {τ : Mem} {n pc : Nat} {al : Al} {r : List AV}
theorem V_aastC (hB : Bd x l G y Φ) {k i : Nat} (hO : ∀ U H, G.2.2.2.2 U H → va_O RX3 (G.2.1 (60, k, 0)) (AA G) U H) (hk : k < 9) (hi : i < 9) (hd : decode y.2.1 pc = .ok (.aastore, 1)) (kk : V x (wI τ (27, 0, 0) i (nI (k + 1))) n (pc + 1) al r) : V x τ n pc al (.inr (60, k, 0) :: aI (nI i) :: .inr (27, 0, 0) :: r) := by
  obtain ⟨hg, rfl, rfl, rfl, rfl⟩ := hB
  obtain ⟨l, G, p, e, s, m, args, below, meth, c, y, Φ⟩ := x
  have hG : Gok G := hg.2.2.2.2.2.2.2.2.1
  have hX : G.2.2.2.2 s s.heap := hg.2.2.2.2.2.2.2.2.2
  obtain ⟨hx, hb, -⟩ := hg
  intro H locs ls hW hS hL
  have h0 : dom (27, 0, 0) := ⟨by decide, by decide⟩
  have hc : H[G.2.1 (27, 0, 0)]? = some (vp_cell (G.2.2.2.1 5) (9, .inr (.inr (.inr (.inr (fun i => (elR τ 27 0 0 i).map G.2.1)))))) := celA_at hW h0 rfl
  have hcl : (nI i).toNatClampNeg = i := ixL (by omega)
  obtain ⟨cellV, g1, g2, g3, -⟩ := (hO _ _ hX).kept hS.2.1
  obtain ⟨kA, comp, k1, k2, k3, -⟩ := (hW.1.2 5 _ rfl).2
  obtain ⟨kE, hkE, -⟩ := Vm.findClass_spec k3
  have hcomp : comp = cellV.cls := Option.some.inj (k3.symm.trans g3)
  refine W.aast hx hb hc (fun q h => by cases h) (fun h => by cases h) k1 k2 rfl hkE ⟨nI_pos (by omega), by rw [hcl]; show _ < (arrV _ _ _).slots.size; rw [arrV_size]; exact hi⟩ g1 (fun q h => by rw [h] at g2; cases g2) (by rw [← hcomp]; exact hkE) (by rw [← hcomp]; exact va_asg _ _) rfl rfl hd fun H1 e z oq => ?_
  refine kk H1 _ ls (hW.put hG h0 rfl (fun a h => upM_nef h) (fun _ _ => rfl) ?_ z oq) (hS.put z oq (hG.2.1 _ h0)) hL
  show H1[_]? = some (vp_cell (G.2.2.2.1 5) (9, .inr (.inr (.inr (.inr (fun i => (elR _ 27 0 0 i).map G.2.1))))))
  rw [e, vp_cell_q, vp_cell_q, arrV_store]
  have hk1 : (nI (k + 1)).toNatClampNeg = k + 1 := ixL (by omega)
  have hk0 : ¬ nI (k + 1) = 0 := fun z => absurd ((nI_eq (by omega) (by omega)).mp (show nI (k + 1) = nI 0 from z)) (by omega)
  have hu : ∀ q, elR (wI τ (27, 0, 0) i (nI (k + 1))) 27 0 0 q = if q = i then some (60, k, 0) else elR τ 27 0 0 q := by
    intro q
    unfold elR
    by_cases hq : q = i
    · subst hq; simp [upM, hk1, hk0]
    · simp [upM, hq]
  congr 2
  funext q
  rw [hcl]
  by_cases hq : q = i
  · subst hq; rw [hu]; simp [updV, va_rf]
  · rw [hu]; simp [updV, hq]
end E6
def rcN (n : Nat) (nm : Nm) : Prop := nm = (9, 0, 0) ∨ nm = (27, 0, 0) ∨ nm = (29, 0, n)
/-- a command read: its end or -1, what it leaves -/
def rdP (T : List Nat) (h n : Nat) (τ : Mem) : AOut → Mem → Prop := fun o τ' => o = .inl (some (aI (if (cmdR T h).1 = true then -1 else nI (cmdR T h).2.2))) ∧
  ((cmdR T h).1 = true → τ'.1 (9, 0, 0) 5 = nI (cmdR T h).2.2 ∧ τ'.1 (9, 0, 0) 4 = nI n ∧ τ'.1 (27, 0, 0) = τ.1 (27, 0, 0)) ∧
  ((cmdR T h).1 = false → τ'.1 (9, 0, 0) 4 = nI (n + 1) ∧ τ'.1 (27, 0, 0) = uI (τ.1 (27, 0, 0)) n (nI ((cmdR T h).2.1.1 + 1)) ∧ ∀ j c, (argsL (cmdR T h).2.1)[j]? = some c → τ'.1 (29, 0, n) j = nI c) ∧
  τ'.1 (9, 0, 0) 1 = τ.1 (9, 0, 0) 1 ∧ Same (rcN n) τ τ'
section F6
variable {l : Launch} {G : GG} {τ : Mem} {T : List Nat}
theorem c_read (hc : CtxE l G) (hT : TxR τ T) (hl : T.length ≤ 60) (hch : ∀ c ∈ T, c < 128) {h n : Nat} (hh : h ≤ T.length) (hn : n < 9) (h4 : τ.1 (9, 0, 0) 4 = nI n) : Sat l G iX7_readCommand [pgM, aI (nI h)] τ (rdP T h n τ) := by
  have ixn : (nI n).toNatClampNeg = n := ixL (by omega)
  have vxn : vp_in (nI n) 9 = True := vpL (by omega) (by omega)
  have hmx : ∀ i, mxF T h i ≤ 60 := fun i => mxF_le (by omega) i (fun k _ => by have := (mF_ge T (fmL k) h hh).2; omega)
  refine Sat_of hc.1.1 hc.1.2 (by decide +kernel) (Nat.le_of_ble_eq_true rfl) (fun x hB hno => ?_)
  have loop : ∀ m i t al, i + m = 9 → (∀ w, w < i → (mF T (fmL w) h).1 = false) → t.1 (9, 0, 0) 5 = nI (mxF T h i) → (∀ k, k ≠ 5 → t.1 (9, 0, 0) k = τ.1 (9, 0, 0) k) → Same (mrN n) τ t → (∀ z ∈ [(0, pgM), (1, aI (nI h)), (2, aI (nI i))], lk al z.1 = some z.2) → V x t 0 7 al [] := by
    intro m
    induction m with
    | zero =>
      intro i t al hi hf h5 h9 hS hal
      refine V.sub ?_ hal
      have hi : i = 9 := by omega
      subst hi
      obtain ⟨r1, r2⟩ := cmd_no hf
      refine V_run hB (rt := some .int) (nL := 4) (mc := 0) rfl rfl rfl (ops := [(7, .iload_n 2, 1, (2, 0, 0, 0, 0, 0), 0)]) (by decide +kernel) ?_
      dsimp only [↓wpb, ↓wp1, ↓vI, ↓vL, ↓vD, ↓ldI, ↓ldL, ↓ldD, ↓ldR, ↓k1, ↓k2, ↓kI, ↓kL, ↓kD, ↓kII, ↓kLL, ↓kDD, ↓kR, ↓kIR, ↓kLR, ↓kIIR, ↓kLIR, ↓kDIR, ↓kRIR, ↓kNN, ↓kE, ↓br, ↓bn, ↓rtI, ↓gfv, ↓zchk, lput, ldel, lbad, alA, acat, isRf, dom, dS, dJ, isO, aTy, aLen, elAV, elR, Nat.reduceBEq, Nat.reduceAdd, Bool.or, Bool.and, Nat.add_zero, Nat.zero_add]
      try simp only [Nat.reduceLT, Nat.reduceLeDiff, Nat.reduceEqDiff, true_and, and_true, and_self, Nat.zero_le, Nat.le_refl, true_or, or_true, Bool.false_eq_true, not_false_eq_true, Nat.reduceAdd, Nat.lt_add_one, Nat.zero_lt_one, nI_add, pk_mul, ixL, vpL, ne_eq, reduceIte, wI_sN, wL_sM, sN_same, sN_K, sN_2, sM_1, sM_same, sM_K, sM_s, uI_at, uN_at, enc_at, uI_enc, uI_uI, upM_s, upM_n]
      refine V_gets hB (v := .inr (61, 0, 0)) (fun U H h => (hc.2 U H h).1.1) (idx := 40) (TBg_at 1488 (by decide +kernel)) (by decide +kernel) ?_
      refine V_tlen hB (fun U H h => (hc.2 U H h).1.2) (by decide +kernel) ?_
      refine V_run hB (rt := some .int) (nL := 4) (mc := 0) rfl rfl rfl (ops := [(12, .if_icmp .ge 72, 3, (84, 0, 0, 0, 0, 0), 0)]) (by decide +kernel) ?_
      dsimp only [↓wpb, ↓wp1, ↓vI, ↓vL, ↓vD, ↓ldI, ↓ldL, ↓ldD, ↓ldR, ↓k1, ↓k2, ↓kI, ↓kL, ↓kD, ↓kII, ↓kLL, ↓kDD, ↓kR, ↓kIR, ↓kLR, ↓kIIR, ↓kLIR, ↓kDIR, ↓kRIR, ↓kNN, ↓kE, ↓br, ↓bn, ↓rtI, ↓gfv, ↓zchk, lput, ldel, lbad, alA, acat, isRf, dom, dS, dJ, isO, aTy, aLen, elAV, elR, Nat.reduceBEq, Nat.reduceAdd, Bool.or, Bool.and, Nat.add_zero, Nat.zero_add]
      try simp only [Nat.reduceLT, Nat.reduceLeDiff, Nat.reduceEqDiff, true_and, and_true, and_self, Nat.zero_le, Nat.le_refl, true_or, or_true, Bool.false_eq_true, not_false_eq_true, Nat.reduceAdd, Nat.lt_add_one, Nat.zero_lt_one, nI_add, pk_mul, ixL, vpL, ne_eq, reduceIte, wI_sN, wL_sM, sN_same, sN_K, sN_2, sM_1, sM_same, sM_K, sM_s, uI_at, uN_at, enc_at, uI_enc, uI_uI, upM_s, upM_n]
      refine ⟨fun _ => ?_, fun q => absurd (Int32.le_refl _) q⟩
      refine V_run hB (rt := some .int) (nL := 4) (mc := 0) rfl rfl rfl obX7_readCommand_84 ?_
      dsimp only [bX7_readCommand_84, ↓wpb, ↓wp1, ↓vI, ↓vL, ↓vD, ↓ldI, ↓ldL, ↓ldD, ↓ldR, ↓k1, ↓k2, ↓kI, ↓kL, ↓kD, ↓kII, ↓kLL, ↓kDD, ↓kR, ↓kIR, ↓kLR, ↓kIIR, ↓kLIR, ↓kDIR, ↓kRIR, ↓kNN, ↓kE, ↓br, ↓bn, ↓rtI, ↓gfv, ↓zchk, lput, ldel, lbad, alA, acat, isRf, dom, dS, dJ, isO, aTy, aLen, elAV, elR, Nat.reduceBEq, Nat.reduceAdd, Bool.or, Bool.and, Nat.add_zero, Nat.zero_add]
      try simp only [Nat.reduceLT, Nat.reduceLeDiff, Nat.reduceEqDiff, true_and, and_true, and_self, Nat.zero_le, Nat.le_refl, true_or, or_true, Bool.false_eq_true, not_false_eq_true, Nat.reduceAdd, Nat.lt_add_one, Nat.zero_lt_one, nI_add, pk_mul, ixL, vpL, ne_eq, reduceIte, wI_sN, wL_sM, sN_same, sN_K, sN_2, sM_1, sM_same, sM_K, sM_s, uI_at, uN_at, enc_at, uI_enc, uI_uI, upM_s, upM_n]
      unfold rdP
      rw [r1]
      refine ⟨rfl, fun _ => ⟨by rw [h5, r2], (h9 4 (by decide)).trans h4, (hS.2 _ (by rintro (z | z) <;> injection z with z1 z2 <;> cases z1)).1⟩, fun z => (nomatch z), h9 1 (by decide), hS.mono (fun nm q => by rcases q with rfl | rfl; exact Or.inl rfl; exact Or.inr (Or.inr rfl))⟩
    | succ m ih =>
      intro i t al hi hf h5 h9 hS hal
      refine V.sub ?_ hal
      have hi9 : i < 9 := by omega
      have h4t : t.1 (9, 0, 0) 4 = nI n := (h9 4 (by decide)).trans h4
      have hTt : TxR t T := hT.of (h9 1 (by decide)) (hS.2 _ (by rintro (z | z) <;> injection z with z1 z2 <;> cases z1)).1
      refine V_run hB (rt := some .int) (nL := 4) (mc := 0) rfl rfl rfl (ops := [(7, .iload_n 2, 1, (2, 0, 0, 0, 0, 0), 0)]) (by decide +kernel) ?_
      dsimp only [↓wpb, ↓wp1, ↓vI, ↓vL, ↓vD, ↓ldI, ↓ldL, ↓ldD, ↓ldR, ↓k1, ↓k2, ↓kI, ↓kL, ↓kD, ↓kII, ↓kLL, ↓kDD, ↓kR, ↓kIR, ↓kLR, ↓kIIR, ↓kLIR, ↓kDIR, ↓kRIR, ↓kNN, ↓kE, ↓br, ↓bn, ↓rtI, ↓gfv, ↓zchk, lput, ldel, lbad, alA, acat, isRf, dom, dS, dJ, isO, aTy, aLen, elAV, elR, Nat.reduceBEq, Nat.reduceAdd, Bool.or, Bool.and, Nat.add_zero, Nat.zero_add]
      try simp only [Nat.reduceLT, Nat.reduceLeDiff, Nat.reduceEqDiff, true_and, and_true, and_self, Nat.zero_le, Nat.le_refl, true_or, or_true, Bool.false_eq_true, not_false_eq_true, Nat.reduceAdd, Nat.lt_add_one, Nat.zero_lt_one, nI_add, pk_mul, ixL, vpL, ne_eq, reduceIte, wI_sN, wL_sM, sN_same, sN_K, sN_2, sM_1, sM_same, sM_K, sM_s, uI_at, uN_at, enc_at, uI_enc, uI_uI, upM_s, upM_n]
      refine V_gets hB (v := .inr (61, 0, 0)) (fun U H h => (hc.2 U H h).1.1) (idx := 40) (TBg_at 1488 (by decide +kernel)) (by decide +kernel) ?_
      refine V_tlen hB (fun U H h => (hc.2 U H h).1.2) (by decide +kernel) ?_
      refine V_run hB (rt := some .int) (nL := 4) (mc := 0) rfl rfl rfl (ops := [(12, .if_icmp .ge 72, 3, (84, 0, 0, 0, 0, 0), 0), (15, .aload_n 0, 1, (0, 0, 0, 0, 0, 0), 0), (16, .getfield 30, 3, (9, 4, 0, 0, 0, 0), 0), (19, .bipush 9, 2, (0, 0, 0, 0, 0, 0), nI 9), (21, .if_icmp .ge 63, 3, (84, 0, 0, 0, 0, 0), 0), (24, .aload_n 0, 1, (0, 0, 0, 0, 0, 0), 0)]) (by decide +kernel) ?_
      dsimp only [↓wpb, ↓wp1, ↓vI, ↓vL, ↓vD, ↓ldI, ↓ldL, ↓ldD, ↓ldR, ↓k1, ↓k2, ↓kI, ↓kL, ↓kD, ↓kII, ↓kLL, ↓kDD, ↓kR, ↓kIR, ↓kLR, ↓kIIR, ↓kLIR, ↓kDIR, ↓kRIR, ↓kNN, ↓kE, ↓br, ↓bn, ↓rtI, ↓gfv, ↓zchk, lput, ldel, lbad, alA, acat, isRf, dom, dS, dJ, isO, aTy, aLen, elAV, elR, Nat.reduceBEq, Nat.reduceAdd, Bool.or, Bool.and, Nat.add_zero, Nat.zero_add]
      try simp only [Nat.reduceLT, Nat.reduceLeDiff, Nat.reduceEqDiff, true_and, and_true, and_self, Nat.zero_le, Nat.le_refl, true_or, or_true, Bool.false_eq_true, not_false_eq_true, Nat.reduceAdd, Nat.lt_add_one, Nat.zero_lt_one, nI_add, pk_mul, ixL, vpL, ne_eq, reduceIte, wI_sN, wL_sM, sN_same, sN_K, sN_2, sM_1, sM_same, sM_K, sM_s, uI_at, uN_at, enc_at, uI_enc, uI_uI, upM_s, upM_n, h4t]
      refine ⟨fun q => absurd q (nI_ge (by omega) (by omega)), fun _ => ⟨fun q => absurd q (nI_ge (by omega) (by omega)), fun _ => ?_⟩⟩
      refine V_gets hB (v := .inr (61, 0, 0)) (fun U H h => (hc.2 U H h).1.1) (idx := 40) (TBg_at 1488 (by decide +kernel)) (by decide +kernel) ?_
      refine V_run hB (rt := some .int) (nL := 4) (mc := 0) rfl rfl rfl (ops := [(28, .iload_n 2, 1, (2, 0, 0, 0, 0, 0), 0)]) (by decide +kernel) ?_
      dsimp only [↓wpb, ↓wp1, ↓vI, ↓vL, ↓vD, ↓ldI, ↓ldL, ↓ldD, ↓ldR, ↓k1, ↓k2, ↓kI, ↓kL, ↓kD, ↓kII, ↓kLL, ↓kDD, ↓kR, ↓kIR, ↓kLR, ↓kIIR, ↓kLIR, ↓kDIR, ↓kRIR, ↓kNN, ↓kE, ↓br, ↓bn, ↓rtI, ↓gfv, ↓zchk, lput, ldel, lbad, alA, acat, isRf, dom, dS, dJ, isO, aTy, aLen, elAV, elR, Nat.reduceBEq, Nat.reduceAdd, Bool.or, Bool.and, Nat.add_zero, Nat.zero_add]
      try simp only [Nat.reduceLT, Nat.reduceLeDiff, Nat.reduceEqDiff, true_and, and_true, and_self, Nat.zero_le, Nat.le_refl, true_or, or_true, Bool.false_eq_true, not_false_eq_true, Nat.reduceAdd, Nat.lt_add_one, Nat.zero_lt_one, nI_add, pk_mul, ixL, vpL, ne_eq, reduceIte, wI_sN, wL_sM, sN_same, sN_K, sN_2, sM_1, sM_same, sM_K, sM_s, uI_at, uN_at, enc_at, uI_enc, uI_uI, upM_s, upM_n]
      refine V_taa hB (v := .inr (60, i, 0)) (fun U H h => (hc.2 U H h).1.2) hi9 (by omega) rfl (by decide +kernel) ?_
      refine V_ogf hB (v := .inr (62, i, 0)) (fun U H h => ((hc.2 U H h).2.1 i hi9).2.2) (idx := 43) (TBg_at 2089 (by decide +kernel)) (by decide +kernel) ?_
      refine V_run hB (rt := some .int) (nL := 4) (mc := 0) rfl rfl rfl obX7_readCommand_33 ?_
      dsimp only [bX7_readCommand_33, ↓wpb, ↓wp1, ↓vI, ↓vL, ↓vD, ↓ldI, ↓ldL, ↓ldD, ↓ldR, ↓k1, ↓k2, ↓kI, ↓kL, ↓kD, ↓kII, ↓kLL, ↓kDD, ↓kR, ↓kIR, ↓kLR, ↓kIIR, ↓kLIR, ↓kDIR, ↓kRIR, ↓kNN, ↓kE, ↓br, ↓bn, ↓rtI, ↓gfv, ↓zchk, lput, ldel, lbad, alA, acat, isRf, dom, dS, dJ, isO, aTy, aLen, elAV, elR, Nat.reduceBEq, Nat.reduceAdd, Bool.or, Bool.and, Nat.add_zero, Nat.zero_add]
      try simp only [Nat.reduceLT, Nat.reduceLeDiff, Nat.reduceEqDiff, true_and, and_true, and_self, Nat.zero_le, Nat.le_refl, true_or, or_true, Bool.false_eq_true, not_false_eq_true, Nat.reduceAdd, Nat.lt_add_one, Nat.zero_lt_one, nI_add, pk_mul, ixL, vpL, ne_eq, reduceIte, wI_sN, wL_sM, sN_same, sN_K, sN_2, sM_1, sM_same, sM_K, sM_s, uI_at, uN_at, enc_at, uI_enc, uI_uI, upM_s, upM_n, h4t, ixn, vxn]
      refine V_callV hB hno (c_match hc hTt hl hch hi9 hn hh (hmx i) h5) rfl (by decide +kernel) cvX7_47 (dom1 rfl) npX7_match ⟨by decide, by decide⟩ (Nat.le_of_ble_eq_true rfl) (by decide) ?_ ?_
      rotate_left
      · intro E τ' hq; cases hq.1
      intro v t1 hq
      obtain ⟨e, hy, hf5, hk5, hS1⟩ := hq
      cases e
      show V x t1 0 46 _ [aI (if (mF T (fmL i) h).1 = true then nI (mF T (fmL i) h).2 else -1)]
      have h4t1 : t1.1 (9, 0, 0) 4 = nI n := (hk5 4 (by decide)).trans h4t
      cases hb : (mF T (fmL i) h).1 with
      | false =>
        rw [if_neg (by decide)]
        refine V_run hB (rt := some .int) (nL := 4) (mc := 0) rfl rfl rfl (ops := [(46, .istore_n 3, 1, (3, 0, 0, 0, 0, 0), 0), (47, .iload_n 3, 1, (3, 0, 0, 0, 0, 0), 0), (48, .iconst (-1), 1, (0, 0, 0, 0, 0, 0), -1), (49, .if_icmp .eq 29, 3, (78, 0, 0, 0, 0, 0), 0)]) (by decide +kernel) ?_
        dsimp only [↓wpb, ↓wp1, ↓vI, ↓vL, ↓vD, ↓ldI, ↓ldL, ↓ldD, ↓ldR, ↓k1, ↓k2, ↓kI, ↓kL, ↓kD, ↓kII, ↓kLL, ↓kDD, ↓kR, ↓kIR, ↓kLR, ↓kIIR, ↓kLIR, ↓kDIR, ↓kRIR, ↓kNN, ↓kE, ↓br, ↓bn, ↓rtI, ↓gfv, ↓zchk, lput, ldel, lbad, alA, acat, isRf, dom, dS, dJ, isO, aTy, aLen, elAV, elR, Nat.reduceBEq, Nat.reduceAdd, Bool.or, Bool.and, Nat.add_zero, Nat.zero_add]
        try simp only [Nat.reduceLT, Nat.reduceLeDiff, Nat.reduceEqDiff, true_and, and_true, and_self, Nat.zero_le, Nat.le_refl, true_or, or_true, Bool.false_eq_true, not_false_eq_true, Nat.reduceAdd, Nat.lt_add_one, Nat.zero_lt_one, nI_add, pk_mul, ixL, vpL, ne_eq, reduceIte, wI_sN, wL_sM, sN_same, sN_K, sN_2, sM_1, sM_same, sM_K, sM_s, uI_at, uN_at, enc_at, uI_enc, uI_uI, upM_s, upM_n]
        refine ⟨fun _ => ?_, fun q => absurd trivial q⟩
        refine V_run hB (rt := some .int) (nL := 4) (mc := 0) rfl rfl rfl obX7_readCommand_78 ?_
        dsimp only [bX7_readCommand_78, ↓wpb, ↓wp1, ↓vI, ↓vL, ↓vD, ↓ldI, ↓ldL, ↓ldD, ↓ldR, ↓k1, ↓k2, ↓kI, ↓kL, ↓kD, ↓kII, ↓kLL, ↓kDD, ↓kR, ↓kIR, ↓kLR, ↓kIIR, ↓kLIR, ↓kDIR, ↓kRIR, ↓kNN, ↓kE, ↓br, ↓bn, ↓rtI, ↓gfv, ↓zchk, lput, ldel, lbad, alA, acat, isRf, dom, dS, dJ, isO, aTy, aLen, elAV, elR, Nat.reduceBEq, Nat.reduceAdd, Bool.or, Bool.and, Nat.add_zero, Nat.zero_add]
        try simp only [Nat.reduceLT, Nat.reduceLeDiff, Nat.reduceEqDiff, true_and, and_true, and_self, Nat.zero_le, Nat.le_refl, true_or, or_true, Bool.false_eq_true, not_false_eq_true, Nat.reduceAdd, Nat.lt_add_one, Nat.zero_lt_one, nI_add, pk_mul, ixL, vpL, ne_eq, reduceIte, wI_sN, wL_sM, sN_same, sN_K, sN_2, sM_1, sM_same, sM_K, sM_s, uI_at, uN_at, enc_at, uI_enc, uI_uI, upM_s, upM_n]
        refine ih (i + 1) t1 _ (by omega) (fun w hw => ?_) (hf5 hb) (fun k hk => (hk5 k hk).trans (h9 k hk)) (hS.trans hS1) (List.forall_mem_cons.mpr ⟨rfl, List.forall_mem_cons.mpr ⟨rfl, List.forall_mem_cons.mpr ⟨rfl, fun _ h => absurd h List.not_mem_nil⟩⟩⟩)
        by_cases hwi : w = i
        · subst hwi; exact hb
        · exact hf w (by omega)
      | true =>
        rw [if_pos rfl]
        have hE := (mF_ge T (fmL i) h hh).2
        obtain ⟨y1, y2, y3, y4⟩ := cmd_yes hi9 hb
        obtain ⟨n1, n2⟩ := nF_cmd hi9 hb
        refine V_run hB (rt := some .int) (nL := 4) (mc := 0) rfl rfl rfl (ops := [(46, .istore_n 3, 1, (3, 0, 0, 0, 0, 0), 0), (47, .iload_n 3, 1, (3, 0, 0, 0, 0, 0), 0), (48, .iconst (-1), 1, (0, 0, 0, 0, 0, 0), -1), (49, .if_icmp .eq 29, 3, (78, 0, 0, 0, 0, 0), 0), (52, .aload_n 0, 1, (0, 0, 0, 0, 0, 0), 0), (53, .getfield 21, 3, (9, 2, 2, 27, 0, 0), 0), (56, .aload_n 0, 1, (0, 0, 0, 0, 0, 0), 0), (57, .getfield 30, 3, (9, 4, 0, 0, 0, 0), 0)]) (by decide +kernel) ?_
        dsimp only [↓wpb, ↓wp1, ↓vI, ↓vL, ↓vD, ↓ldI, ↓ldL, ↓ldD, ↓ldR, ↓k1, ↓k2, ↓kI, ↓kL, ↓kD, ↓kII, ↓kLL, ↓kDD, ↓kR, ↓kIR, ↓kLR, ↓kIIR, ↓kLIR, ↓kDIR, ↓kRIR, ↓kNN, ↓kE, ↓br, ↓bn, ↓rtI, ↓gfv, ↓zchk, lput, ldel, lbad, alA, acat, isRf, dom, dS, dJ, isO, aTy, aLen, elAV, elR, Nat.reduceBEq, Nat.reduceAdd, Bool.or, Bool.and, Nat.add_zero, Nat.zero_add]
        try simp only [Nat.reduceLT, Nat.reduceLeDiff, Nat.reduceEqDiff, true_and, and_true, and_self, Nat.zero_le, Nat.le_refl, true_or, or_true, Bool.false_eq_true, not_false_eq_true, Nat.reduceAdd, Nat.lt_add_one, Nat.zero_lt_one, nI_add, pk_mul, ixL, vpL, ne_eq, reduceIte, wI_sN, wL_sM, sN_same, sN_K, sN_2, sM_1, sM_same, sM_K, sM_s, uI_at, uN_at, enc_at, uI_enc, uI_uI, upM_s, upM_n, h4t1]
        refine ⟨fun q => absurd q (nI_n1 (by omega)), fun _ => ?_⟩
        refine V_gets hB (v := .inr (61, 0, 0)) (fun U H h => (hc.2 U H h).1.1) (idx := 40) (TBg_at 1488 (by decide +kernel)) (by decide +kernel) ?_
        refine V_run hB (rt := some .int) (nL := 4) (mc := 0) rfl rfl rfl (ops := [(63, .iload_n 2, 1, (2, 0, 0, 0, 0, 0), 0)]) (by decide +kernel) ?_
        dsimp only [↓wpb, ↓wp1, ↓vI, ↓vL, ↓vD, ↓ldI, ↓ldL, ↓ldD, ↓ldR, ↓k1, ↓k2, ↓kI, ↓kL, ↓kD, ↓kII, ↓kLL, ↓kDD, ↓kR, ↓kIR, ↓kLR, ↓kIIR, ↓kLIR, ↓kDIR, ↓kRIR, ↓kNN, ↓kE, ↓br, ↓bn, ↓rtI, ↓gfv, ↓zchk, lput, ldel, lbad, alA, acat, isRf, dom, dS, dJ, isO, aTy, aLen, elAV, elR, Nat.reduceBEq, Nat.reduceAdd, Bool.or, Bool.and, Nat.add_zero, Nat.zero_add]
        try simp only [Nat.reduceLT, Nat.reduceLeDiff, Nat.reduceEqDiff, true_and, and_true, and_self, Nat.zero_le, Nat.le_refl, true_or, or_true, Bool.false_eq_true, not_false_eq_true, Nat.reduceAdd, Nat.lt_add_one, Nat.zero_lt_one, nI_add, pk_mul, ixL, vpL, ne_eq, reduceIte, wI_sN, wL_sM, sN_same, sN_K, sN_2, sM_1, sM_same, sM_K, sM_s, uI_at, uN_at, enc_at, uI_enc, uI_uI, upM_s, upM_n]
        refine V_taa hB (v := .inr (60, i, 0)) (fun U H h => (hc.2 U H h).1.2) hi9 (by omega) rfl (by decide +kernel) ?_
        refine V_aastC hB (fun U H h => ((hc.2 U H h).2.1 i hi9).1) hi9 hn (by decide +kernel) ?_
        rw [wI_sN]
        refine V_run hB (rt := some .int) (nL := 4) (mc := 0) rfl rfl rfl (ops := [(66, .aload_n 0, 1, (0, 0, 0, 0, 0, 0), 0), (67, .dup, 1, (0, 0, 0, 0, 0, 0), 0), (68, .getfield 30, 3, (9, 4, 0, 0, 0, 0), 0), (71, .iconst 1, 1, (0, 0, 0, 0, 0, 0), nI 1), (72, .iadd, 1, (0, 0, 0, 0, 0, 0), 0), (73, .putfield 30, 3, (9, 4, 0, 0, 0, 0), 0), (76, .iload_n 3, 1, (3, 0, 0, 0, 0, 0), 0), (77, .ireturn, 1, (0, 0, 0, 0, 0, 0), 0)]) (by decide +kernel) ?_
        dsimp only [↓wpb, ↓wp1, ↓vI, ↓vL, ↓vD, ↓ldI, ↓ldL, ↓ldD, ↓ldR, ↓k1, ↓k2, ↓kI, ↓kL, ↓kD, ↓kII, ↓kLL, ↓kDD, ↓kR, ↓kIR, ↓kLR, ↓kIIR, ↓kLIR, ↓kDIR, ↓kRIR, ↓kNN, ↓kE, ↓br, ↓bn, ↓rtI, ↓gfv, ↓zchk, lput, ldel, lbad, alA, acat, isRf, dom, dS, dJ, isO, aTy, aLen, elAV, elR, Nat.reduceBEq, Nat.reduceAdd, Bool.or, Bool.and, Nat.add_zero, Nat.zero_add]
        try simp only [Nat.reduceLT, Nat.reduceLeDiff, Nat.reduceEqDiff, true_and, and_true, and_self, Nat.zero_le, Nat.le_refl, true_or, or_true, Bool.false_eq_true, not_false_eq_true, Nat.reduceAdd, Nat.lt_add_one, Nat.zero_lt_one, nI_add, pk_mul, ixL, vpL, ne_eq, reduceIte, wI_sN, wL_sM, sN_same, sN_K, sN_2, sM_1, sM_same, sM_K, sM_s, uI_at, uN_at, enc_at, uI_enc, uI_uI, upM_s, upM_n, h4t1]
        unfold rdP
        rw [y3]
        refine ⟨by rw [if_neg (by decide), y4], fun z => (nomatch z), fun _ => ⟨?_, ?_, fun j c hj => ?_⟩, ?_, ?_⟩
        · rw [sN_same]; rfl
        · rw [sN_K (by decide), sN_same, n2]
          rw [(hS1.2 _ (by rintro (z | z) <;> injection z with z1 z2 <;> cases z1)).1, (hS.2 _ (by rintro (z | z) <;> injection z with z1 z2 <;> cases z1)).1]
        · rw [sN_K (by decide), sN_K (by decide)]
          exact hy hb j c (by rw [n1]; exact hj)
        · rw [sN_same]
          simp only [uI]
          rw [if_neg (by decide)]
          exact (hk5 1 (by decide)).trans (h9 1 (by decide))
        · refine (Same.sN ?_ _ (Or.inr (Or.inl rfl))).sN _ (Or.inl rfl)
          exact (hS.trans hS1).mono (fun nm q => by rcases q with rfl | rfl; exact Or.inl rfl; exact Or.inr (Or.inr rfl))
  refine V_run hB (rt := some .int) (nL := 4) (mc := 0) rfl rfl rfl obX7_readCommand_0 ?_
  dsimp only [bX7_readCommand_0, ↓wpb, ↓wp1, ↓vI, ↓vL, ↓vD, ↓ldI, ↓ldL, ↓ldD, ↓ldR, ↓k1, ↓k2, ↓kI, ↓kL, ↓kD, ↓kII, ↓kLL, ↓kDD, ↓kR, ↓kIR, ↓kLR, ↓kIIR, ↓kLIR, ↓kDIR, ↓kRIR, ↓kNN, ↓kE, ↓br, ↓bn, ↓rtI, ↓gfv, ↓zchk, lput, ldel, lbad, alA, acat, isRf, dom, dS, dJ, isO, aTy, aLen, elAV, elR, Nat.reduceBEq, Nat.reduceAdd, Bool.or, Bool.and, Nat.add_zero, Nat.zero_add]
  try simp only [Nat.reduceLT, Nat.reduceLeDiff, Nat.reduceEqDiff, true_and, and_true, and_self, Nat.zero_le, Nat.le_refl, true_or, or_true, Bool.false_eq_true, not_false_eq_true, Nat.reduceAdd, Nat.lt_add_one, Nat.zero_lt_one, nI_add, pk_mul, ixL, vpL, ne_eq, reduceIte, wI_sN, wL_sM, sN_same, sN_K, sN_2, sM_1, sM_same, sM_K, sM_s, uI_at, uN_at, enc_at, uI_enc, uI_uI, upM_s, upM_n]
  refine loop 9 0 _ _ rfl (fun w hw => absurd hw (Nat.not_lt_zero _)) (by rw [sN_same]; rfl) (fun k hk => by rw [sN_same]; exact if_neg hk) ((Same.refl _ _).sN _ (Or.inl rfl)) (List.forall_mem_cons.mpr ⟨rfl, List.forall_mem_cons.mpr ⟨rfl, List.forall_mem_cons.mpr ⟨rfl, fun _ h => absurd h List.not_mem_nil⟩⟩⟩)
end F6
