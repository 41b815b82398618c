/-! ===== the law's loop: its pieces ===== -/
abbrev cL_law : ByteArray := code
def yL_law : MethodName := ⟨RL, "law", "([I)Z"⟩
def iL_law : MI := (yL_law, cL_law, 9, some .boolean, 603072, 2040)
abbrev scM : AV := .inr (70, 0, 0)
def ScF (G : GG) (f : Nat → Int32) (N : Nat) : Prop := ∀ U H, G.2.2.2.2 U H → va_T .int (G.2.1 (70, 0, 0)) N (fun j => .int (f j)) (AA G) U H
/-- the slip's two methods (their walks: rows of their own) -/
def SlH (l : Launch) (G : GG) : Prop := (∀ (τ : Mem) (σ : Sg) (n : Nat) (t : Int32), CW τ σ → IV n σ.1 → n ≤ 1000 → Sat l G iX10_writeSlip [moM, aI t] τ (XOp [NSE] τ (sSlp σ t))) ∧
  ∀ (τ : Mem) (σ : Sg) (p : Int32), CW τ σ → (∀ c ∈ σ.2.2.2.2.2, c < 128) → Sat l G iX10_slipAt [moM, aI p] τ (XOp [IOE] τ ((sSl σ.2.2.2.2.2 p).1, (sSl σ.2.2.2.2.2 p).2, σ))
def LCx (x : Cx) (l : Launch) (G : GG) (Φ : AOut → Mem → Prop) (f : Nat → Int32) (N : Nat) : Prop := Bd x l G iL_law Φ ∧ CtxE l G ∧ NcF G ∧ ScF G f N ∧ N ≤ 2048 ∧ SlH l G
def LK (i : Nat) : Al := [(0, scM), (1, moM), (2, mM), (3, ouM), (4, odM), (5, aI (nI i))]
def LI (c : Nat) (τ : Mem) (σ : Sg) : Prop := CW τ σ ∧ (∃ c0, MW τ c0 σ) ∧ SI c σ
/-- behind a call whose callee does not throw -/
theorem V_retN {x : Cx} {l : Launch} {G : GG} {y : MI} {Φ : AOut → Mem → Prop} (hB : Bd x l G y Φ) {z : MI} {Ψ : AOut → Mem → Prop} {τ : Mem} {n pc : Nat} {al : Al} {st r : List AV} {as9 : Array Value}
    (k : ∀ v τ', Ψ (.inl v) τ' → V x τ' (n + z.2.2.2.2.1) (pc + 3) al (v.toList ++ r)) (kx : ∀ E τ', ¬ Ψ (.inr E) τ')
    (H : Heap) (locs : List Loc) (ls : Array Slot) (hW : World x.2.1 τ x.2.2.2.2.1 H) (hS : va_S (AA x.2.1) x.2.2.2.2.1.heap H locs) (hL : Lh x.2.1 ls (xY x).2.2.1 al)
    (hr : vx_Run x.2.2.1 x.1 x.2.2.2.1 (rmI (xY x)) x.2.2.2.2.1 x.2.2.2.2.2.1 x.2.2.2.2.2.2.1 x.2.2.2.2.2.2.2.1 x.2.2.2.2.2.2.2.2.1 (xC x) H locs n (10 * n) z.2.2.2.2.1 (10 * z.2.2.2.2.1) (F0 x.2.2.2.2.2.1 pc ls (st.map (conc x.2.1))) (r.map (conc x.2.1)) (Qn x.2.1 Ψ as9) (Xn x.2.1 Ψ) (AA x.2.1)) :
    W x.2.2.1 x.1 x.2.2.2.1 (rmI (xY x)) x.2.2.2.2.1 x.2.2.2.2.2.1 x.2.2.2.2.2.2.1 x.2.2.2.2.2.2.2.1 x.2.2.2.2.2.2.2.2.1 (xC x) H locs n (10 * n) (vx_MQ x.2.2.2.2.2.2.2.1 (Qn x.2.1 (xP x)) (Xn x.2.1 (xP x)) x.2.2.2.2.2.2.1 x.2.2.2.2.1 (xY x).2.2.2.2.1 (10 * (xY x).2.2.2.2.1) (AA x.2.1)) (F0 x.2.2.2.2.2.1 pc ls (st.map (conc x.2.1))) := by
  obtain ⟨hg, rfl, rfl, rfl, rfl⟩ := hB
  obtain ⟨l, G, p, e, s, m, args, below, meth, c, y, Φ⟩ := x
  obtain ⟨hx, hb, hown, hts, hml, hlk, hret, hst, hG, hX⟩ := hg
  have hA : ∀ q, q < H.size → AA G q → AA G q := fun _ _ h => h
  intro T hT X
  rcases hr T hT X with ⟨v, st₀, t, T', L, h0, X', hL9, e1, e2, ⟨⟨w, τ', hv, hp, hw⟩, hF⟩, stp⟩ | ⟨q, st₀, t, T', L, E, ce, h0, X', hL9, e1, e2, ⟨⟨τ', hp, hw⟩, hF⟩, hce, hcv, hcl, stp⟩
  · cases hv
    obtain ⟨k1, k2, k3⟩ := vx_keep h0 e1 hS hA (fun _ h => h) hL9 hF
    have hW1 : World G τ' s T'.heap := World.grow hG hW (by rw [e1]; exact hw) k1 k2
    have kk := k w τ' hp T'.heap (locs ++ L) ls hW1 k3 hL
    rw [Nat.mul_add] at kk
    have hst9 : List.map (conc G) (w.toList ++ r) = (w.map (conc G)).toList ++ r.map (conc G) := by cases w <;> simp
    rw [hst9] at kk
    obtain ⟨t2, a1, b1⟩ := kk T' rfl X'
    exact ⟨t2, stp t2 a1, b1⟩
  · exact absurd hp (kx E τ')
theorem V_callVN {x : Cx} {l : Launch} {G : GG} {y : MI} {Φ : AOut → Mem → Prop} (hB : Bd x l G y Φ) {z : MI} {as : List AV} {Ψ : AOut → Mem → Prop} {τ : Mem} {K s' j n pc idx : Nat} {al : Al} {r st : List AV}
    (hs : Sat l G z (.inr (K, s', j) :: as) τ Ψ) (hst : st = as.reverse ++ .inr (K, s', j) :: r) (hd : decode y.2.1 pc = .ok (.invokevirtual idx, 3)) (hw : CV y.1.cls idx z K) (h0 : dom (K, s', j)) (hp : npar z as.length) (hrm : z.2.2.2.2.2 + 1 ≤ y.2.2.2.2.2 ∧ z.2.2.1 ≤ 21) (hc : acats r ≤ 8)
    (hn : n + z.2.2.2.2.1 ≤ y.2.2.2.2.1) (k : ∀ v τ', Ψ (.inl v) τ' → V x τ' (n + z.2.2.2.2.1) (pc + 3) al (v.toList ++ r)) (kx : ∀ E τ', ¬ Ψ (.inr E) τ') : V x τ n pc al st := by
  subst hst
  have hB0 := hB
  obtain ⟨hg, rfl, rfl, rfl, rfl⟩ := hB
  obtain ⟨l, G, p, e, s, m, args, below, meth, c, y, Φ⟩ := x
  obtain ⟨hx, hb, hown, hts, hml, hlk, hret, hstt, hG, hX⟩ := hg
  obtain ⟨T, N, w1, w2, w3, w4, w5, w6, w7, w8, w9⟩ := hw
  intro H locs ls hW hS hL
  refine V_retN hB0 (z := z) (Ψ := Ψ) (r := r) (as9 := (.inr (K, s', j) :: as |>.map (conc G)).toArray) k kx H locs ls hW hS hL ?_
  have hcell := hW.2.1 _ h0
  simp only [cel, w2, if_true] at hcell
  obtain ⟨rr, r1, cell, q1, q2, q3, -⟩ := hcell
  have hr : rr = (z.1.cls, T, N) := Option.some.inj (r1.symm.trans w1)
  subst hr
  have hfc := (hW.1.1 _ _ w1).2.1
  have hin : ∀ w ∈ wsV y.1.cls idx z.1.cls z.1 (Cond.code z.1 z.2.1 z.2.2.1 z.2.2.2.1 :: TBg), w ∈ TBg := by
    intro w h
    simp only [wsV, List.cons_append, List.nil_append, List.mem_cons] at h
    rcases h with rfl | rfl | rfl | rfl | rfl | h
    · exact w3
    · exact w4
    · exact w5
    · exact w6
    · exact w7
    · exact h
  have hgi : GoodIn TBg (wsV y.1.cls idx z.1.cls z.1 (Cond.code z.1 z.2.1 z.2.2.1 z.2.2.2.1 :: TBg)) := fun w h => TBg_good w (hin w h)
  refine vx_runV (As := as.map (conc G)) (n := as.length) (C := z.1.cls) ⟨hx, hb, hml, hown, hts⟩ hs (cwV as.length hts hgi rfl rfl rfl ⟨rfl, w8, w9, hp⟩ (room_ok hrm.1 hrm.2)) ⟨World.blind hG _, ⟨cell, q1, by rw [q3]; rfl, by rw [q2]; exact hfc⟩, fun U hU hWU => ⟨rfl, (show World G τ U U.heap by rw [hU]; exact hW.moved hG hWU)⟩⟩ rfl (by simp) hL.1 (by simp [conc]) (lv_room (by rw [acats_sum]; exact hc)) hd ⟨hn, by rw [← Nat.mul_add]; exact Nat.mul_le_mul_left _ hn⟩
theorem V_callSXN {x : Cx} {l : Launch} {G : GG} {y : MI} {Φ : AOut → Mem → Prop} (hB : Bd x l G y Φ) {z : MI} {hs : Hs} {as : List AV} {Ψ : AOut → Mem → Prop} {τ : Mem} {n pc idx : Nat} {al : Al} {r st : List AV}
    (hs1 : SatH l G z hs as τ Ψ) (hst : st = as.reverse ++ r) (hd : decode y.2.1 pc = .ok (.invokestatic idx, 3)) (hw : CSX y.1.cls idx z hs) (hp : npar z as.length) (hrm : z.2.2.2.2.2 + 1 ≤ y.2.2.2.2.2 ∧ z.2.2.1 ≤ 21) (hc : acats r ≤ 8)
    (hn : n + z.2.2.2.2.1 ≤ y.2.2.2.2.1) (k : ∀ v τ', Ψ (.inl v) τ' → V x τ' (n + z.2.2.2.2.1) (pc + 3) al (v.toList ++ r)) (kx : ∀ E τ', ¬ Ψ (.inr E) τ') : V x τ n pc al st := by
  subst hst
  have hB0 := hB
  obtain ⟨hg, rfl, rfl, rfl, rfl⟩ := hB
  obtain ⟨l, G, p, e, s, m, args, below, meth, c, y, Φ⟩ := x
  obtain ⟨hx, hb, hown, hts, hml, hlk, hret, hstt, hG, hX⟩ := hg
  obtain ⟨w3, w4, w6, w7, w8, w9⟩ := hw
  intro H locs ls hW hS hL
  refine V_retN hB0 (z := z) (Ψ := Ψ) (r := r) (as9 := (as.map (conc G)).toArray) k kx H locs ls hW hS hL ?_
  have hin : ∀ w ∈ va_wsS y.1.cls idx z.1 (Cond.codeWith z.1 z.2.1 z.2.2.1 z.2.2.2.1 (hsT hs) :: TBg), w ∈ TBg := by
    intro w h
    simp only [va_wsS, List.cons_append, List.nil_append, List.mem_cons] at h
    rcases h with rfl | rfl | rfl | rfl | h
    · exact w3
    · exact w4
    · exact w6
    · exact w7
    · exact h
  have hgi : GoodIn TBg (va_wsS y.1.cls idx z.1 (Cond.codeWith z.1 z.2.1 z.2.2.1 z.2.2.2.1 (hsT hs) :: TBg)) := fun w h => TBg_good w (hin w h)
  refine vx_runSX (hh := hsT hs) (As := as.map (conc G)) (n := as.length) ⟨hx, hb, hml, hown, hts⟩ hs1 (vx_cwSW as.length hts hgi rfl rfl rfl ⟨w8, w9, hp⟩ (room_ok hrm.1 hrm.2)) ⟨World.blind hG _, fun U hU hWU => ⟨rfl, (show World G τ U U.heap by rw [hU]; exact hW.moved hG hWU)⟩⟩ rfl (by simp) hL.1 (by simp) (lv_room (by rw [acats_sum]; exact hc)) hd ⟨hn, by rw [← Nat.mul_add]; exact Nat.mul_le_mul_left _ hn⟩
section LW1
variable {x : Cx} {l : Launch} {G : GG} {Φ : AOut → Mem → Prop} {τ : Mem} {n i N : Nat} {f : Nat → Int32}
/-- an int of the script -/
theorem V_scr (hB : Bd x l G iL_law Φ) (hF : ScF G f N) (hN : N ≤ 2048) {pc k : Nat} {kz : Int} {al : Al} {r : List AV} (hd : decode cL_law pc = .ok (.aload_n 0, 1) ∧ decode cL_law (pc + 1) = .ok (.iload 5, 2) ∧ decode cL_law (pc + 3) = .ok (.iconst kz, 1) ∧ decode cL_law (pc + 4) = .ok (.iadd, 1) ∧ decode cL_law (pc + 5) = .ok (.iaload, 1)) (hk : Int32.ofInt kz = nI k)
    (h0 : lk al 0 = some scM) (h5 : lk al 5 = some (aI (nI i))) (hi : i + k < N) (kk : V x τ n (pc + 6) al (aI (f (i + k)) :: r)) : V x τ n pc al r := by
  have hB0 := hB
  obtain ⟨hg, e1, e2, e3, e4⟩ := hB
  refine s_aload_n (f := 0) (i := 0) hg (by rw [e3]; exact hd.1) rfl rfl h0 ?_
  refine s_iload hg (by rw [e3]; exact hd.2.1) h5 ?_
  refine s_iconst hg hk (by rw [e3]; exact hd.2.2.1) ?_
  refine s_iadd hg (by rw [e3]; exact hd.2.2.2.1) ?_
  rw [nI_add]
  exact V_tia hB0 (f := f) hF hi (by omega) hd.2.2.2.2 kk
theorem V_scr0 (hB : Bd x l G iL_law Φ) (hF : ScF G f N) (hN : N ≤ 2048) {pc : Nat} {al : Al} {r : List AV} (hd : decode cL_law pc = .ok (.aload_n 0, 1) ∧ decode cL_law (pc + 1) = .ok (.iload 5, 2) ∧ decode cL_law (pc + 3) = .ok (.iaload, 1))
    (h0 : lk al 0 = some scM) (h5 : lk al 5 = some (aI (nI i))) (hi : i < N) (kk : V x τ n (pc + 4) al (aI (f i) :: r)) : V x τ n pc al r := by
  have hB0 := hB
  obtain ⟨hg, e1, e2, e3, e4⟩ := hB
  refine s_aload_n (f := 0) (i := 0) hg (by rw [e3]; exact hd.1) rfl rfl h0 ?_
  refine s_iload hg (by rw [e3]; exact hd.2.1) h5 ?_
  exact V_tia hB0 (f := f) hF hi (by omega) hd.2.2 kk
/-- the next round -/
theorem law_next (hB : Bd x l G iL_law Φ) {al : Al} (hal : ∀ z ∈ LK i, lk al z.1 = some z.2) (k : V x τ n 28 (LK (i + 4)) []) : V x τ n 2583 al [] := by
  refine V.sub ?_ hal
  unfold LK at k ⊢
  refine V_run hB (rt := some .boolean) (nL := 9) (mc := 603072) rfl rfl rfl (ops := [(2583, .iinc 5 4, 3, (5, 0, 0, 0, 0, 0), nI 4), (2586, .goto (-2558), 3, (28, 0, 0, 0, 0, 0), 0)]) (by decide +kernel) ?_
  dsimp only [↓wpb, ↓wp1, ↓vI, ↓vL, ↓vD, ↓ldI, ↓ldL, ↓ldD, ↓ldR, ↓k1, ↓k2, ↓kI, ↓kL, ↓kD, ↓kII, ↓kLL, ↓kDD, ↓kR, ↓kIR, ↓kLR, ↓kIIR, ↓kLIR, ↓kDIR, ↓kRIR, ↓kNN, ↓kE, ↓br, ↓bn, ↓rtI, ↓gfv, ↓zchk, lput, ldel, lbad, alA, acat, isRf, dom, dS, dJ, isO, aTy, aLen, elAV, elR, Nat.reduceBEq, Nat.reduceAdd, Bool.or, Bool.and, Nat.add_zero, Nat.zero_add]
  try simp only [Nat.reduceLT, Nat.reduceLeDiff, Nat.reduceEqDiff, true_and, and_true, and_self, Nat.zero_le, Nat.le_refl, true_or, or_true, Bool.false_eq_true, not_false_eq_true, Nat.reduceAdd, Nat.lt_add_one, Nat.zero_lt_one, nI_add, pk_mul, ixL, vpL, ne_eq, reduceIte, wI_sN, wL_sM, sN_same, sN_K, sN_2, sM_1, sM_same, sM_K, sM_s, uI_at, uN_at, enc_at, uI_enc, uI_uI, upM_s, upM_n]
  exact k
def tl1 (p : Nat) : List Op3 := [(p, .iload 6, 2, (6, 0, 0, 0, 0, 0), 0), (p + 2, .if_icmp .eq 5, 3, (p + 7, 0, 0, 0, 0, 0), 0)]
def tl2 (p : Nat) : List Op3 := [(p + 7, .iload 6, 2, (6, 0, 0, 0, 0, 0), 0), (p + 9, .ifCond .ne 15, 3, (p + 24, 0, 0, 0, 0, 0), 0)]
def tl3 (p : Nat) : List Op3 := [(p + 12, .aload_n 3, 1, (3, 0, 0, 0, 0, 0), 0), (p + 13, .iconst 0, 1, (0, 0, 0, 0, 0, 0), nI 0), (p + 14, .laload, 1, (0, 0, 0, 0, 0, 0), 0), (p + 15, .iload 7, 2, (7, 0, 0, 0, 0, 0), 0), (p + 17, .i2l, 1, (0, 0, 0, 0, 0, 0), 0), (p + 18, .lcmp, 1, (0, 0, 0, 0, 0, 0), 0), (p + 19, .ifCond .eq 5, 3, (p + 24, 0, 0, 0, 0, 0), 0)]
def tl4 (p : Nat) (o : Int) : List Op3 := [(p + 24, .goto o, 3, (2583, 0, 0, 0, 0, 0), 0)]
def TL (p : Nat) (o : Int) : Prop := dcd RL cL_law p (tl1 p) = true ∧ dcd RL cL_law (p + 7) (tl2 p) = true ∧ dcd RL cL_law (p + 12) (tl3 p) = true ∧ dcd RL cL_law (p + 24) (tl4 p o) = true
/-- the comparison behind a case's two calls -/
theorem law_tail (hB : Bd x l G iL_law Φ) {p rc rv : Nat} {o : Int} {al : Al} (hd : TL p o) (hal : ∀ z ∈ LK i, lk al z.1 = some z.2) (h6 : lk al 6 = some (aI (nI rc))) (h7 : lk al 7 = some (aI (nI rv))) (hc : rc < 1000)
    (hv : rc = 0 → τ.2.1 (42, 0, 0) 0 = (nI rv).toInt64) (k : V x τ n 28 (LK (i + 4)) []) : V x τ n p al [aI (nI rc)] := by
  obtain ⟨d1, d2, d3, d4⟩ := hd
  refine V.sub (al' := (6, aI (nI rc)) :: (7, aI (nI rv)) :: LK i) ?_ (fun z hz => by
    rcases List.mem_cons.mp hz with rfl | hz
    · exact h6
    · rcases List.mem_cons.mp hz with rfl | hz
      · exact h7
      · exact hal z hz)
  have hal2 : ∀ z ∈ LK i, lk ((6, aI (nI rc)) :: (7, aI (nI rv)) :: LK i) z.1 = some z.2 := by
    unfold LK
    exact List.forall_mem_cons.mpr ⟨rfl, List.forall_mem_cons.mpr ⟨rfl, List.forall_mem_cons.mpr ⟨rfl, List.forall_mem_cons.mpr ⟨rfl, List.forall_mem_cons.mpr ⟨rfl, List.forall_mem_cons.mpr ⟨rfl, fun _ h => absurd h List.not_mem_nil⟩⟩⟩⟩⟩⟩
  have h24 : V x τ n (p + 24) ((6, aI (nI rc)) :: (7, aI (nI rv)) :: LK i) [] := by
    refine V_run hB (rt := some .boolean) (nL := 9) (mc := 603072) rfl rfl rfl (ops := tl4 p o) d4 ?_
    dsimp only [tl4, ↓wpb, ↓wp1, ↓vI, ↓vL, ↓vD, ↓ldI, ↓ldL, ↓ldD, ↓ldR, ↓k1, ↓k2, ↓kI, ↓kL, ↓kD, ↓kII, ↓kLL, ↓kDD, ↓kR, ↓kIR, ↓kLR, ↓kIIR, ↓kLIR, ↓kDIR, ↓kRIR, ↓kNN, ↓kE, ↓br, ↓bn, ↓rtI, ↓gfv, ↓zchk, lput, ldel, lbad, alA, acat, isRf, dom, dS, dJ, isO, aTy, aLen, elAV, elR, Nat.reduceBEq, Nat.reduceAdd, Bool.or, Bool.and, Nat.add_zero, Nat.zero_add]
    exact law_next hB hal2 k
  unfold LK at h24 ⊢
  refine V_run hB (rt := some .boolean) (nL := 9) (mc := 603072) rfl rfl rfl (ops := tl1 p) d1 ?_
  dsimp only [tl1, ↓wpb, ↓wp1, ↓vI, ↓vL, ↓vD, ↓ldI, ↓ldL, ↓ldD, ↓ldR, ↓k1, ↓k2, ↓kI, ↓kL, ↓kD, ↓kII, ↓kLL, ↓kDD, ↓kR, ↓kIR, ↓kLR, ↓kIIR, ↓kLIR, ↓kDIR, ↓kRIR, ↓kNN, ↓kE, ↓br, ↓bn, ↓rtI, ↓gfv, ↓zchk, lput, ldel, lbad, alA, acat, isRf, dom, dS, dJ, isO, aTy, aLen, elAV, elR, Nat.reduceBEq, Nat.reduceAdd, Bool.or, Bool.and, Nat.add_zero, Nat.zero_add]
  refine ⟨fun _ => ?_, fun q => absurd rfl q⟩
  refine V_run hB (rt := some .boolean) (nL := 9) (mc := 603072) rfl rfl rfl (ops := tl2 p) d2 ?_
  dsimp only [tl2, ↓wpb, ↓wp1, ↓vI, ↓vL, ↓vD, ↓ldI, ↓ldL, ↓ldD, ↓ldR, ↓k1, ↓k2, ↓kI, ↓kL, ↓kD, ↓kII, ↓kLL, ↓kDD, ↓kR, ↓kIR, ↓kLR, ↓kIIR, ↓kLIR, ↓kDIR, ↓kRIR, ↓kNN, ↓kE, ↓br, ↓bn, ↓rtI, ↓gfv, ↓zchk, lput, ldel, lbad, alA, acat, isRf, dom, dS, dJ, isO, aTy, aLen, elAV, elR, Nat.reduceBEq, Nat.reduceAdd, Bool.or, Bool.and, Nat.add_zero, Nat.zero_add]
  refine ⟨fun _ => h24, fun hz => ?_⟩
  have hz0 : rc = 0 := by
    have hz9 : nI rc = nI 0 := hz
    exact (nI_eq (by omega) (by omega)).mp hz9
  have hv0 := hv hz0
  refine V_run hB (rt := some .boolean) (nL := 9) (mc := 603072) rfl rfl rfl (ops := tl3 p) d3 ?_
  dsimp only [tl3, ↓wpb, ↓wp1, ↓vI, ↓vL, ↓vD, ↓ldI, ↓ldL, ↓ldD, ↓ldR, ↓k1, ↓k2, ↓kI, ↓kL, ↓kD, ↓kII, ↓kLL, ↓kDD, ↓kR, ↓kIR, ↓kLR, ↓kIIR, ↓kLIR, ↓kDIR, ↓kRIR, ↓kNN, ↓kE, ↓br, ↓bn, ↓rtI, ↓gfv, ↓zchk, lput, ldel, lbad, alA, acat, isRf, dom, dS, dJ, isO, aTy, aLen, elAV, elR, Nat.reduceBEq, Nat.reduceAdd, Bool.or, Bool.and, Nat.add_zero, Nat.zero_add]
  try simp only [Nat.reduceLT, Nat.reduceLeDiff, Nat.reduceEqDiff, true_and, and_true, and_self, Nat.zero_le, Nat.le_refl, true_or, or_true, Bool.false_eq_true, not_false_eq_true, Nat.reduceAdd, Nat.lt_add_one, Nat.zero_lt_one, nI_add, pk_mul, ixL, vpL, ne_eq, reduceIte, wI_sN, wL_sM, sN_same, sN_K, sN_2, sM_1, sM_same, sM_K, sM_s, uI_at, uN_at, enc_at, uI_enc, uI_uI, upM_s, upM_n]
  refine ⟨fun _ => h24, fun q => absurd ?_ q⟩
  rw [cmp_0]
  exact hv0
/-- a case of a wrapper -/
theorem law_A (hc : LCx x l G Φ f N) {q1 q2 I J : Nat} {o : Int} {zL zM : MI} {hs : Hs} {as : List AV} {σ : Sg} {r : Nat × Nat × Sg} {al : Al} {c : Nat}
    (hL : SatH l G zL hs (moM :: (as ++ [ouM])) τ (LwP τ r)) (hM : ∀ τ1 c0, MW τ1 c0 σ → Sat l G zM (mM :: as) τ1 (Ans τ1 r)) (hr : r.1 < 1000)
    (d1 : decode cL_law q1 = .ok (.invokestatic I, 3)) (d2 : dcd RL cL_law (q1 + 3) [(q1 + 3, .istore 6, 2, (6, 0, 0, 0, 0, 0), 0), (q1 + 5, .aload_n 2, 1, (2, 0, 0, 0, 0, 0), 0)] = true)
    (d3 : decode cL_law q2 = .ok (.invokevirtual J, 3)) (d4 : dcd RL cL_law (q2 + 3) [(q2 + 3, .istore 7, 2, (7, 0, 0, 0, 0, 0), 0), (q2 + 5, .aload_n 2, 1, (2, 0, 0, 0, 0, 0), 0)] = true) (d5 : decode cL_law (q2 + 6) = .ok (.invokevirtual 149, 3)) (d6 : TL (q2 + 9) o)
    (w1 : CSX RL I zL hs) (w2 : CV RL J zM 30) (np1 : npar zL (as.length + 2)) (np2 : npar zM as.length) (m1 : zL.2.2.2.2.2 + 1 ≤ 2040 ∧ zL.2.2.1 ≤ 21) (m2 : zM.2.2.2.2.2 + 1 ≤ 2040 ∧ zM.2.2.1 ≤ 21) (hz : zM.2.2.2.2.1 = 0) (hz1 : zL.2.2.2.2.1 ≤ 1000) (hcc : c ≤ 512)
    (hal : al = LK i) (hcw : CW τ σ) (hmw : ∃ c0, MW τ c0 σ) (hsi : SI (c + 1) r.2.2)
    (ha : ∀ τ1 n1 al1 r1, lk al1 0 = some scM → lk al1 5 = some (aI (nI i)) → V x τ1 n1 q2 al1 (as.reverse ++ r1) → V x τ1 n1 (q1 + 6) al1 r1)
    (hk : ∀ τ' σ', LI (c + 1) τ' σ' → V x τ' (1000 * (c + 1)) 28 (LK (i + 4)) []) : V x τ (1000 * c) q1 al (ouM :: (as.reverse ++ [moM])) := by
  obtain ⟨hB, hcE, hNc, hF, hN, hSl⟩ := hc
  obtain ⟨c0, hmw⟩ := hmw
  subst hal
  refine V_callSXN hB hL (r := []) (by simp) d1 w1 (by simpa using np1) m1 (by decide) (by show 1000 * c + zL.2.2.2.2.1 ≤ 603072; omega) (fun v τ1 hq => ?_) (fun E τ1 hq => by cases hq.1)
  obtain ⟨e, h1, h2, h3⟩ := hq
  cases e
  show V x τ1 (1000 * c + zL.2.2.2.2.1) (q1 + 3) _ [aI (nI r.1)]
  have hmw1 := hmw.oth h2
  unfold LK
  refine V_run hB (rt := some .boolean) (nL := 9) (mc := 603072) rfl rfl rfl d2 ?_
  dsimp only [↓wpb, ↓wp1, ↓vI, ↓vL, ↓vD, ↓ldI, ↓ldL, ↓ldD, ↓ldR, ↓k1, ↓k2, ↓kI, ↓kL, ↓kD, ↓kII, ↓kLL, ↓kDD, ↓kR, ↓kIR, ↓kLR, ↓kIIR, ↓kLIR, ↓kDIR, ↓kRIR, ↓kNN, ↓kE, ↓br, ↓bn, ↓rtI, ↓gfv, ↓zchk, lput, ldel, lbad, alA, acat, isRf, dom, dS, dJ, isO, aTy, aLen, elAV, elR, Nat.reduceBEq, Nat.reduceAdd, Bool.or, Bool.and, Nat.add_zero, Nat.zero_add]
  try simp only [Nat.reduceLT, Nat.reduceLeDiff, Nat.reduceEqDiff, true_and, and_true, and_self, Nat.zero_le, Nat.le_refl, true_or, or_true, Bool.false_eq_true, not_false_eq_true, Nat.reduceAdd, Nat.lt_add_one, Nat.zero_lt_one, nI_add, pk_mul, ixL, vpL, ne_eq, reduceIte, wI_sN, wL_sM, sN_same, sN_K, sN_2, sM_1, sM_same, sM_K, sM_s, uI_at, uN_at, enc_at, uI_enc, uI_uI, upM_s, upM_n]
  refine ha τ1 _ _ _ rfl rfl ?_
  refine V_callVN hB (hM τ1 c0 hmw1) (r := []) rfl d3 w2 (dom1 rfl) np2 m2 (Nat.le_of_ble_eq_true rfl) (by rw [hz]; show 1000 * c + zL.2.2.2.2.1 + 0 ≤ 603072; omega) (fun v τ2 hq => ?_) (fun E τ2 hq => by cases hq.1)
  obtain ⟨e, hm2, ho2⟩ := hq
  cases e
  rw [hz]
  show V x τ2 (1000 * c + zL.2.2.2.2.1) (q2 + 3) _ [aI (nI r.2.1)]
  refine V_run hB (rt := some .boolean) (nL := 9) (mc := 603072) rfl rfl rfl d4 ?_
  dsimp only [↓wpb, ↓wp1, ↓vI, ↓vL, ↓vD, ↓ldI, ↓ldL, ↓ldD, ↓ldR, ↓k1, ↓k2, ↓kI, ↓kL, ↓kD, ↓kII, ↓kLL, ↓kDD, ↓kR, ↓kIR, ↓kLR, ↓kIIR, ↓kLIR, ↓kDIR, ↓kRIR, ↓kNN, ↓kE, ↓br, ↓bn, ↓rtI, ↓gfv, ↓zchk, lput, ldel, lbad, alA, acat, isRf, dom, dS, dJ, isO, aTy, aLen, elAV, elR, Nat.reduceBEq, Nat.reduceAdd, Bool.or, Bool.and, Nat.add_zero, Nat.zero_add]
  try simp only [Nat.reduceLT, Nat.reduceLeDiff, Nat.reduceEqDiff, true_and, and_true, and_self, Nat.zero_le, Nat.le_refl, true_or, or_true, Bool.false_eq_true, not_false_eq_true, Nat.reduceAdd, Nat.lt_add_one, Nat.zero_lt_one, nI_add, pk_mul, ixL, vpL, ne_eq, reduceIte, wI_sN, wL_sM, sN_same, sN_K, sN_2, sM_1, sM_same, sM_K, sM_s, uI_at, uN_at, enc_at, uI_enc, uI_uI, upM_s, upM_n]
  refine V_callVN hB (q_thrown hcE.1 τ2) (r := []) rfl d5 cvL_149 (dom1 rfl) npX11_thrown ⟨by decide, by decide⟩ (by decide) (by show 1000 * c + zL.2.2.2.2.1 + 0 ≤ 603072; omega) (fun v τ3 hq => ?_) (fun E τ3 hq => by cases hq.1)
  obtain ⟨e, rfl⟩ := hq
  cases e
  show V x τ3 (1000 * c + zL.2.2.2.2.1) (q2 + 9) _ [aI (τ3.1 (30, 0, 0) 0)]
  rw [hm2.2.1]
  refine law_tail hB d6 ?_ rfl rfl hr (fun hz0 => ?_) (V.widen (by omega) (hk τ3 r.2.2 ⟨h1.mod ho2, ⟨_, hm2⟩, hsi⟩))
  · unfold LK
    exact List.forall_mem_cons.mpr ⟨rfl, List.forall_mem_cons.mpr ⟨rfl, List.forall_mem_cons.mpr ⟨rfl, List.forall_mem_cons.mpr ⟨rfl, List.forall_mem_cons.mpr ⟨rfl, List.forall_mem_cons.mpr ⟨rfl, fun _ h => absurd h List.not_mem_nil⟩⟩⟩⟩⟩⟩
  · rw [show τ3.2.1 = τ1.2.1 by rw [ho2.1]]
    exact h3 hz0
def tb (p : Nat) (o : Int) : List Op3 := [(p, .if_icmp .eq o, 3, (2583, 0, 0, 0, 0, 0), 0)]
/-- a case of two reads -/
theorem law_B (hc : LCx x l G Φ f N) {p I J : Nat} {o : Int} {zX zM : MI} {σ : Sg} {r : Nat × Nat × Sg} {al : Al} {c : Nat}
    (hX : Sat l G zX [moM] τ (XOp [] τ r)) (hM : ∀ τ1 c0, MW τ1 c0 σ → Sat l G zM [mM] τ1 (Ans τ1 r)) (hr : r.1 = 0)
    (d0 : decode cL_law p = .ok (.aload_n 1, 1)) (d1 : decode cL_law (p + 1) = .ok (.invokevirtual I, 3)) (d2 : decode cL_law (p + 4) = .ok (.aload_n 2, 1)) (d3 : decode cL_law (p + 5) = .ok (.invokevirtual J, 3)) (d4 : dcd RL cL_law (p + 8) (tb (p + 8) o) = true)
    (w1 : CV RL I zX 1) (w2 : CV RL J zM 30) (np1 : npar zX 0) (np2 : npar zM 0) (m1 : zX.2.2.2.2.2 + 1 ≤ 2040 ∧ zX.2.2.1 ≤ 21) (m2 : zM.2.2.2.2.2 + 1 ≤ 2040 ∧ zM.2.2.1 ≤ 21) (hz : zM.2.2.2.2.1 = 0) (hz1 : zX.2.2.2.2.1 ≤ 1000) (hcc : c ≤ 512)
    (hal : al = LK i) (hmw : ∃ c0, MW τ c0 σ) (hsi : SI (c + 1) r.2.2)
    (hk : ∀ τ' σ', LI (c + 1) τ' σ' → V x τ' (1000 * (c + 1)) 28 (LK (i + 4)) []) : V x τ (1000 * c) p al [] := by
  obtain ⟨hB, hcE, hNc, hF, hN, hSl⟩ := hc
  obtain ⟨c0, hmw⟩ := hmw
  subst hal
  have hg := hB.1
  obtain ⟨-, -, -, e3, -⟩ := id hB
  refine s_aload_n (f := 1) (i := 1) hg (by rw [e3]; exact d0) rfl rfl rfl ?_
  refine V_callVN hB hX (r := []) rfl d1 w1 (dom1 rfl) np1 m1 (Nat.le_of_ble_eq_true rfl) (by show 1000 * c + zX.2.2.2.2.1 ≤ 603072; omega) (fun v τ1 hq => ?_) (fun E τ1 hq => by have := hq.1; rw [if_pos hr] at this; cases this)
  obtain ⟨e, h1, h2⟩ := hq
  rw [if_pos hr] at e
  cases e
  show V x τ1 (1000 * c + zX.2.2.2.2.1) (p + 4) _ [aI (nI r.2.1)]
  have hmw1 := hmw.oth h2
  refine s_aload_n (f := 2) (i := 2) hg (by rw [e3]; exact d2) rfl rfl rfl ?_
  refine V_callVN hB (hM τ1 c0 hmw1) (r := [aI (nI r.2.1)]) rfl d3 w2 (dom1 rfl) np2 m2 (Nat.le_of_ble_eq_true rfl) (by rw [hz]; show 1000 * c + zX.2.2.2.2.1 + 0 ≤ 603072; omega) (fun v τ2 hq => ?_) (fun E τ2 hq => by cases hq.1)
  obtain ⟨e, hm2, ho2⟩ := hq
  cases e
  rw [hz]
  show V x τ2 (1000 * c + zX.2.2.2.2.1) (p + 8) _ [aI (nI r.2.1), aI (nI r.2.1)]
  refine V_run hB (rt := some .boolean) (nL := 9) (mc := 603072) rfl rfl rfl (ops := tb (p + 8) o) d4 ?_
  dsimp only [tb, ↓wpb, ↓wp1, ↓vI, ↓vL, ↓vD, ↓ldI, ↓ldL, ↓ldD, ↓ldR, ↓k1, ↓k2, ↓kI, ↓kL, ↓kD, ↓kII, ↓kLL, ↓kDD, ↓kR, ↓kIR, ↓kLR, ↓kIIR, ↓kLIR, ↓kDIR, ↓kRIR, ↓kNN, ↓kE, ↓br, ↓bn, ↓rtI, ↓gfv, ↓zchk, lput, ldel, lbad, alA, acat, isRf, dom, dS, dJ, isO, aTy, aLen, elAV, elR, Nat.reduceBEq, Nat.reduceAdd, Bool.or, Bool.and, Nat.add_zero, Nat.zero_add]
  refine ⟨fun _ => ?_, fun q => absurd rfl q⟩
  refine law_next hB (i := i) ?_ (V.widen (by omega) (hk τ2 r.2.2 ⟨h1.mod ho2, ⟨_, hm2⟩, hsi⟩))
  unfold LK
  exact List.forall_mem_cons.mpr ⟨rfl, List.forall_mem_cons.mpr ⟨rfl, List.forall_mem_cons.mpr ⟨rfl, List.forall_mem_cons.mpr ⟨rfl, List.forall_mem_cons.mpr ⟨rfl, List.forall_mem_cons.mpr ⟨rfl, fun _ h => absurd h List.not_mem_nil⟩⟩⟩⟩⟩⟩
end LW1
