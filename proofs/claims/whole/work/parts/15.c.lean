/-! ===== the class: its owner's operations ===== -/
def shK (k : Nat) : Prop := k = 2 ∨ k = 3 ∨ k = 4 ∨ k = 5 ∨ k = 10 ∨ k = 11 ∨ k = 12
/-- cells that hold neither the owner's own fields nor the text nor the saved shop -/
def QN (P : Nm → Prop) : Prop := ∀ nm, P nm → nm.1 < 30 ∧ nm.1 ≠ 1 ∧ nm.1 ≠ 9 ∧ nm.1 ≠ 26 ∧ (shK nm.1 → nm.2.1 ≠ 1)
/-- and no cells of the shop or the past either -/
def RN (P : Nm → Prop) : Prop := QN P ∧ ∀ nm, P nm → ¬ shK nm.1 ∧ nm.1 ≠ 8
theorem QN_sh {s : Nat} (h : s ≠ 1) : QN (shN s) := by
  rintro ⟨K, s', j⟩ ⟨h1, h2⟩
  have h2 : s' = s := h2
  refine ⟨?_, ?_, ?_, ?_, fun _ z => h (h2.symm.trans z)⟩ <;> simp only at h1 ⊢ <;> omega
theorem QN_hi : QN hiN := by
  rintro nm rfl
  refine ⟨by decide, by decide, by decide, by decide, fun z => ?_⟩
  unfold shK at z
  simp only at z
  omega
theorem RN_no : RN NoN := ⟨fun _ h => h.elim, fun _ h => h.elim⟩
theorem RN_ev : RN evN := by
  refine ⟨fun nm h => ⟨?_, ?_, ?_, ?_, fun z => ?_⟩, fun nm h => ⟨fun z => ?_, ?_⟩⟩ <;> unfold evN at h <;> (try unfold shK at z) <;> omega
theorem RN_re : RN reN := by
  refine ⟨fun nm h => ⟨?_, ?_, ?_, ?_, fun z => ?_⟩, fun nm h => ⟨fun z => ?_, ?_⟩⟩ <;> unfold reN at h <;> (try unfold shK at z) <;> omega
theorem QN_or {P Q : Nm → Prop} (h : QN P) (h' : QN Q) : QN (fun nm => P nm ∨ Q nm) := fun nm z => z.elim (h nm) (h' nm)
theorem QN_se : QN seN := QN_or (QN_sh (by decide)) RN_ev.1
/-- the snapshot -/
def SnR (τ : Mem) (o : Option (Nat → Nat)) : Prop := (∃ π, PmR τ 1 π) ∧ τ.1 (1, 0, 0) 2 = nI (bN o.isSome) ∧ ∀ s, o = some s → ShR τ 1 s
/-- the text typed -/
def TxR (τ : Mem) (T : List Nat) : Prop := τ.1 (9, 0, 0) 1 = nI T.length ∧ ∀ j c, T[j]? = some c → τ.1 (26, 0, 0) j = nI c
/-- the slip -/
def SlR (τ : Mem) (ln : List Nat) : Prop := τ.2.2.2.2.1 = ln.length ∧ ∀ j c, ln[j]? = some c → τ.2.2.2.2.2 j = c
def RW (τ : Mem) (ρ : Option (Nat → Nat) × (Option Nat × Option Nat) × List Nat × List Nat) : Prop := SnR τ ρ.1 ∧ (τ.1 (1, 0, 0) 8 = oI ρ.2.1.1 ∧ τ.1 (1, 0, 0) 9 = oI ρ.2.1.2) ∧ TxR τ ρ.2.2.1 ∧ SlR τ ρ.2.2.2
/-- the class at a state -/
def CW (τ : Mem) (σ : Sg) : Prop := ShR τ 0 σ.1 ∧ HiR τ σ.2.1 ∧ RW τ σ.2.2
/-- what lies outside the class stands -/
def OthC (τ τ' : Mem) : Prop := ∀ nm, 30 ≤ nm.1 → τ'.1 nm = τ.1 nm
/-- an operation's answer -/
def XOp (L : List String) (τ : Mem) (r : Nat × Nat × Sg) : AOut → Mem → Prop := fun o τ' => o = (if r.1 = 0 then .inl (some (aI (nI r.2.1))) else .inr (exL L r.1)) ∧ CW τ' r.2.2 ∧ OthC τ τ'
theorem OthC.of {P : Nm → Prop} {τ τ' : Mem} (hm : Same P τ τ') (h : QN P) : OthC τ τ' := fun nm h30 => (hm.2 nm (fun z => by have := (h nm z).1; omega)).1
theorem OthC.trans {τ τ1 τ2 : Mem} (h : OthC τ τ1) (h' : OthC τ1 τ2) : OthC τ τ2 := fun nm h30 => (h' nm h30).trans (h nm h30)
theorem SnR.same {P : Nm → Prop} {τ τ' : Mem} {o : Option (Nat → Nat)} (h : SnR τ o) (hm : Same P τ τ') (hP : QN P) : SnR τ' o := by
  obtain ⟨⟨π, hπ⟩, h2, h3⟩ := h
  have hno : ∀ K j, (K = 2 ∨ K = 3 ∨ K = 4 ∨ K = 5 ∨ K = 10 ∨ K = 11 ∨ K = 12) → ¬ P (K, 1, j) := fun K j hK z => (hP _ z).2.2.2.2 hK rfl
  exact ⟨⟨π, hπ.same hm (hno 10 0 (by omega))⟩, by rw [(hm.2 _ (fun z => (hP _ z).2.1 rfl)).1]; exact h2, fun s e => (h3 s e).same hm hno⟩
theorem TxR.same {P : Nm → Prop} {τ τ' : Mem} {T : List Nat} (h : TxR τ T) (hm : Same P τ τ') (hP : QN P) : TxR τ' T := by
  unfold TxR
  rw [(hm.2 _ (fun z => (hP _ z).2.2.1 rfl)).1, (hm.2 _ (fun z => (hP _ z).2.2.2.1 rfl)).1]
  exact h
theorem RW.same {P : Nm → Prop} {τ τ' : Mem} {ρ : Option (Nat → Nat) × (Option Nat × Option Nat) × List Nat × List Nat} (h : RW τ ρ) (hm : Same P τ τ') (hP : QN P) : RW τ' ρ := by
  obtain ⟨h1, h2, h3, h4⟩ := h
  refine ⟨h1.same hm hP, ?_, h3.same hm hP, ?_⟩
  · rw [(hm.2 _ (fun z => (hP _ z).2.1 rfl)).1]; exact h2
  · unfold SlR; rw [hm.1]; exact h4
theorem CW.rd {P : Nm → Prop} {τ τ' : Mem} {σ : Sg} (h : CW τ σ) (hm : Same P τ τ') (hP : RN P) : CW τ' σ := by
  obtain ⟨h1, ⟨p, h2⟩, h3⟩ := h
  have hno : ∀ K s j, (K = 2 ∨ K = 3 ∨ K = 4 ∨ K = 5 ∨ K = 10 ∨ K = 11 ∨ K = 12) → ¬ P (K, s, j) := fun K s j hK z => (hP.2 _ z).1 hK
  obtain ⟨π, hπ⟩ := h2.2.1 (2 + p) (by omega) (by have := h2.1.1; omega)
  exact ⟨h1.same hm (fun K j => hno K 0 j), ⟨p, h2.same hm (fun z => (hP.2 _ z).2 rfl) (fun K s j _ _ hK => hno K s j hK) ⟨π, hπ.same hm (hno 10 _ 0 (by omega))⟩⟩, h3.same hm hP.1⟩
theorem rdX {L : List String} {P : Nm → Prop} {τ : Mem} {σ : Sg} {r : Nat × Nat} (h : CW τ σ) (hP : RN P) {o : AOut} {τ' : Mem} (hr : RdC L P τ r o τ') : XOp L τ (r.1, r.2, σ) o τ' := ⟨hr.1, h.rd hr.2 hP, OthC.of hr.2 hP.1⟩
theorem HiP.sh {P : Nm → Prop} {τ τ' : Mem} {ps : List (Nat → Nat)} {p : Nat} (h : HiP τ ps p) (hm : Same P τ τ') (hP : ∀ nm, P nm → nm.1 ≠ 8 ∧ (shK nm.1 → nm.2.1 = 0)) : HiP τ' ps p := by
  have hno : ∀ K s j, 2 ≤ s → (K = 2 ∨ K = 3 ∨ K = 4 ∨ K = 5 ∨ K = 10 ∨ K = 11 ∨ K = 12) → ¬ P (K, s, j) := fun K s j hs hK z => by have := (hP _ z).2 hK; simp only at this; omega
  obtain ⟨π, hπ⟩ := h.2.1 (2 + p) (by omega) (by have := h.1.1; omega)
  exact h.same hm (fun z => (hP _ z).1 rfl) (fun K s j hs _ hK => hno K s j hs hK) ⟨π, hπ.same hm (hno 10 _ 0 (by omega) (by omega))⟩
theorem shN0_8 : ∀ nm, shN 0 nm → nm.1 ≠ 8 ∧ (shK nm.1 → nm.2.1 = 0) := by
  rintro ⟨K, s, j⟩ ⟨h1, h2⟩
  refine ⟨?_, fun _ => h2⟩
  simp only at h1 ⊢
  omega
theorem seN_8 : ∀ nm, seN nm → nm.1 ≠ 8 ∧ (shK nm.1 → nm.2.1 = 0) := by
  rintro nm (h | h)
  · exact shN0_8 nm h
  · exact ⟨(RN_ev.2 nm h).2, fun z => absurd z (RN_ev.2 nm h).1⟩
section B5
variable {l : Launch} {G : GG} {τ : Mem} {n : Nat} {σ : Sg}
theorem IV.one {n : Nat} {a : Nat → Nat} (h : IV n a) : ∀ i, i < 10 → it a i 1 ≤ 1 := fun _ hi => h.l1 hi
/-- behind an operation that failed -/
theorem op_no {L : List String} {P : Nm → Prop} {τ t1 t2 : Mem} {p : Nat} {r : Nat × Nat × (Nat → Nat)} {E : String} (h : CW τ σ) (hp : HiP t1 σ.2.1 p) (hm1 : Same (shN (2 + p)) τ t1) (hP : QN P) (h8 : ∀ nm, P nm → nm.1 ≠ 8 ∧ (shK nm.1 → nm.2.1 = 0)) (hf : r.1 ≠ 0 → r.2.2 = σ.1) (hq : OpC L P t1 r (.inr E) t2) : XOp L τ (opS σ r) (.inr E) t2 := by
  obtain ⟨e, hR, hm2⟩ := hq
  have hQ : QN (shN (2 + p)) := QN_sh (by omega)
  by_cases hr : r.1 = 0
  · rw [if_pos hr] at e; cases e
  · rw [if_neg hr] at e
    have e2 : opS σ r = (r.1, 0, σ) := if_neg hr
    rw [e2]
    rw [hf hr] at hR
    refine ⟨?_, ⟨hR, ⟨p, hp.sh hm2 h8⟩, (h.2.2.same hm1 hQ).same hm2 hP⟩, (OthC.of hm1 hQ).trans (OthC.of hm2 hP)⟩
    show Sum.inr E = if r.1 = 0 then _ else _
    rw [if_neg hr]
    exact e
/-- and behind one that did -/
theorem op_yes {L : List String} {P : Nm → Prop} {τ t1 t2 t3 : Mem} {p : Nat} {r : Nat × Nat × (Nat → Nat)} (h : CW τ σ) (hm1 : Same (shN (2 + p)) τ t1) (hP : QN P) (hr : r.1 = 0) (hR : ShR t2 0 r.2.2) (hm2 : Same P t1 t2) (hH : HiR t3 (pushL σ.1 σ.2.1)) (hm3 : Same hiN t2 t3) : XOp L τ (opS σ r) (.inl (some (aI (nI r.2.1)))) t3 := by
  have hQ : QN (shN (2 + p)) := QN_sh (by omega)
  have e2 : opS σ r = (0, r.2.1, (r.2.2, pushL σ.1 σ.2.1, σ.2.2)) := if_pos hr
  rw [e2]
  refine ⟨rfl, ⟨hR.same hm3 (fun K j hK z => by injection z with z1 z2; omega), hH, ((h.2.2.same hm1 hQ).same hm2 hP).same hm3 QN_hi⟩, ((OthC.of hm1 hQ).trans (OthC.of hm2 hP)).trans (OthC.of hm3 QN_hi)⟩
theorem c_rate (hc : Ctx l G) {a π : Nat → Nat} (hS : ShP τ 0 a π) (w r : Int32) : Sat l G iX2_changeRate [.inr (3, 0, 0), aI w, aI r] τ (OpC [IAE] (shN 0) τ (sRat a w r)) := by
  refine (c_changeRate hc τ w r).mono (fun o τ' hq => ?_)
  by_cases hr : inR w 0 6 = true ∧ inR r 0 9 = true
  · have e : sRat a w r = (0, a (9 + w.toNatClampNeg), uN a (9 + w.toNatClampNeg) r.toNatClampNeg) := if_pos hr
    have e2 : (inR w 0 6 && inR r 0 9) = true := by rw [hr.1, hr.2]; rfl
    rw [e2] at hq
    obtain ⟨rfl, rfl⟩ := hq
    obtain ⟨W, rfl, -, W2⟩ := inR_N hr.1 (by omega) (by omega)
    obtain ⟨R, rfl, -, R2⟩ := inR_N hr.2 (by omega) (by omega)
    rw [e, ixL (show W < 2147483648 by omega), ixL (show R < 2147483648 by omega)]
    obtain ⟨⟨s2, s3, s5⟩, sca, sac, spi, sinj, sit⟩ := hS
    have lo : ∀ c, c ≠ 9 + W → uN a (9 + W) R c = a c := fun c hcc => if_neg hcc
    refine ⟨?_, (⟨π, ⟨?_, ?_, ?_⟩, ⟨?_, fun v hv => ?_⟩, ?_, ?_, sinj, fun i hi => ?_⟩ : ShR _ 0 (uN a (9 + W) R)), (Same.refl _ _).sN _ ⟨by decide, rfl⟩⟩
    · rw [sca.2 W (by omega)]; rfl
    · rw [sN_K (by decide), lo 1 (by omega)]; exact s2
    · rw [sN_K (by decide), lo 3 (by omega)]; exact s3
    · rw [sN_K (by decide), lo 4 (by omega)]; exact s5
    · rw [sN_K (by decide), lo 0 (by omega)]; exact sca.1
    · rw [sN_same]
      simp only [uI, uN]
      by_cases hvW : v = W
      · rw [if_pos hvW, if_pos (by omega)]
      · rw [if_neg hvW, if_neg (by omega)]; exact sca.2 v hv
    · exact sac.of (sN_K (by decide)) rfl (lo 2 (by omega)) (by show (if 5 = 9 + W then R else a 5) = a 5; rw [if_neg (by omega)]) (by show (if 6 = 9 + W then R else a 6) = a 6; rw [if_neg (by omega)]) (by show (if 7 = 9 + W then R else a 7) = a 7; rw [if_neg (by omega)]) (by show (if 8 = 9 + W then R else a 8) = a 8; rw [if_neg (by omega)])
    · intro i hi; rw [sN_K (by decide)]; exact spi i hi
    · have hi : i < a 4 := by rw [lo 4 (by omega)] at hi; exact hi
      exact (sit i hi).of (sN_K (by decide)) (sN_K (by decide)) (fun c hcc => it_lo (by omega))
  · have e : sRat a w r = (1, 0, a) := if_neg hr
    have e2 : (inR w 0 6 && inR r 0 9) = false := by
      rw [Bool.and_eq_false_iff]
      by_cases h1 : inR w 0 6 = true
      · exact Or.inr (bool_f (fun z => hr ⟨h1, z⟩))
      · exact Or.inl (bool_f h1)
    rw [e2] at hq
    obtain ⟨rfl, rfl⟩ := hq
    rw [e]
    exact ⟨rfl, ⟨π, hS⟩, Same.refl _ _⟩
theorem s0_sPl (a : Nat → Nat) (p0 p1 p2 : Int32) : (sPl a p0 p1 p2).1 ≠ 0 → (sPl a p0 p1 p2).2.2 = a := by
  unfold sPl
  repeat' split
  all_goals first | exact fun _ => rfl | exact fun h => absurd rfl h
theorem x_pledge (hc : Ctx l G) (h : CW τ σ) (hV : IV n σ.1) (hn : n ≤ 1000) (p0 p1 p2 : Int32) : Sat l G iX10_pledge [moM, aI p0, aI p1, aI p2] τ (XOp [IAE, ISE, UOE] τ (opS σ (sPl σ.1 p0 p1 p2))) := by
  obtain ⟨π, hS⟩ := h.1
  obtain ⟨p, hH⟩ := h.2.1
  have hf := s0_sPl σ.1 p0 p1 p2
  refine Sat_of hc.1 hc.2 (by decide +kernel) (Nat.le_of_ble_eq_true rfl) (fun x hB hno => ?_)
  refine V_run hB (rt := some .int) (nL := 5) (mc := 1) rfl rfl rfl obX10_pledge_0 ?_
  dsimp only [bX10_pledge_0, ↓wpb, ↓wp1, ↓vI, ↓vL, ↓vD, ↓ldI, ↓ldL, ↓ldD, ↓ldR, ↓k1, ↓k2, ↓kI, ↓kL, ↓kD, ↓kII, ↓kLL, ↓kDD, ↓kR, ↓kIR, ↓kLR, ↓kIIR, ↓kLIR, ↓kDIR, ↓kRIR, ↓kNN, ↓kE, ↓br, ↓bn, ↓rtI, ↓gfv, ↓zchk, lput, ldel, lbad, alA, acat, isRf, dom, dS, dJ, isO, aTy, aLen, elAV, elR, Nat.reduceBEq, Nat.reduceAdd, Bool.or, Bool.and, Nat.add_zero, Nat.zero_add]
  try simp only [Nat.reduceLT, Nat.reduceLeDiff, Nat.reduceEqDiff, true_and, and_true, and_self, Nat.zero_le, Nat.le_refl, true_or, or_true, Bool.false_eq_true, not_false_eq_true, Nat.reduceAdd, Nat.lt_add_one, Nat.zero_lt_one, nI_add, pk_mul, ixL, vpL, ne_eq, reduceIte, wI_sN, wL_sM, sN_same, sN_K, sN_2, sM_1, sM_same, sM_K, sM_s, uI_at, uN_at, enc_at, uI_enc, uI_uI, upM_s, upM_n]
  refine V_callV hB hno (c_prepare hc hS hH hV.1.1 hV.one) rfl (by decide +kernel) cvX10_65 (dom1 rfl) npX5_prepare ⟨by decide, by decide⟩ (Nat.le_of_ble_eq_true rfl) (by decide) ?_ ?_
  rotate_left
  · intro E τ' hq; cases hq.1
  intro v t1 hq
  obtain ⟨e, hSp, hS1, hH1, hm1⟩ := hq
  cases e
  show V x t1 0 11 _ []
  refine V_run hB (rt := some .int) (nL := 5) (mc := 1) rfl rfl rfl obX10_pledge_11 ?_
  dsimp only [bX10_pledge_11, ↓wpb, ↓wp1, ↓vI, ↓vL, ↓vD, ↓ldI, ↓ldL, ↓ldD, ↓ldR, ↓k1, ↓k2, ↓kI, ↓kL, ↓kD, ↓kII, ↓kLL, ↓kDD, ↓kR, ↓kIR, ↓kLR, ↓kIIR, ↓kLIR, ↓kDIR, ↓kRIR, ↓kNN, ↓kE, ↓br, ↓bn, ↓rtI, ↓gfv, ↓zchk, lput, ldel, lbad, alA, acat, isRf, dom, dS, dJ, isO, aTy, aLen, elAV, elR, Nat.reduceBEq, Nat.reduceAdd, Bool.or, Bool.and, Nat.add_zero, Nat.zero_add]
  try simp only [Nat.reduceLT, Nat.reduceLeDiff, Nat.reduceEqDiff, true_and, and_true, and_self, Nat.zero_le, Nat.le_refl, true_or, or_true, Bool.false_eq_true, not_false_eq_true, Nat.reduceAdd, Nat.lt_add_one, Nat.zero_lt_one, nI_add, pk_mul, ixL, vpL, ne_eq, reduceIte, wI_sN, wL_sM, sN_same, sN_K, sN_2, sM_1, sM_same, sM_K, sM_s, uI_at, uN_at, enc_at, uI_enc, uI_uI, upM_s, upM_n]
  refine V_callV hB hno (c_take hc hS1 hV hn p0 p1 p2) rfl (by decide +kernel) cvX10_69 (dom1 rfl) npX9_takePledge ⟨by decide, by decide⟩ (Nat.le_of_ble_eq_true rfl) (by decide) ?_ ?_
  rotate_left
  · intro E τ' hq
    exact op_no h hH1 hm1 (QN_sh (by decide)) shN0_8 hf hq
  intro v t2 hq
  obtain ⟨e, hR2, hm2⟩ := hq
  by_cases hr : (sPl σ.1 p0 p1 p2).1 = 0
  rotate_left
  · rw [if_neg hr] at e; cases e
  rw [if_pos hr] at e
  cases e
  show V x t2 1 21 _ [aI (nI (sPl σ.1 p0 p1 p2).2.1)]
  generalize sPl σ.1 p0 p1 p2 = R at *
  refine V_run hB (rt := some .int) (nL := 5) (mc := 1) rfl rfl rfl obX10_pledge_21 ?_
  dsimp only [bX10_pledge_21, ↓wpb, ↓wp1, ↓vI, ↓vL, ↓vD, ↓ldI, ↓ldL, ↓ldD, ↓ldR, ↓k1, ↓k2, ↓kI, ↓kL, ↓kD, ↓kII, ↓kLL, ↓kDD, ↓kR, ↓kIR, ↓kLR, ↓kIIR, ↓kLIR, ↓kDIR, ↓kRIR, ↓kNN, ↓kE, ↓br, ↓bn, ↓rtI, ↓gfv, ↓zchk, lput, ldel, lbad, alA, acat, isRf, dom, dS, dJ, isO, aTy, aLen, elAV, elR, Nat.reduceBEq, Nat.reduceAdd, Bool.or, Bool.and, Nat.add_zero, Nat.zero_add]
  try simp only [Nat.reduceLT, Nat.reduceLeDiff, Nat.reduceEqDiff, true_and, and_true, and_self, Nat.zero_le, Nat.le_refl, true_or, or_true, Bool.false_eq_true, not_false_eq_true, Nat.reduceAdd, Nat.lt_add_one, Nat.zero_lt_one, nI_add, pk_mul, ixL, vpL, ne_eq, reduceIte, wI_sN, wL_sM, sN_same, sN_K, sN_2, sM_1, sM_same, sM_K, sM_s, uI_at, uN_at, enc_at, uI_enc, uI_uI, upM_s, upM_n]
  refine V_callV hB hno (c_keep hc (hH1.sh hm2 shN0_8) (hSp.same hm2 (fun K j hK z => by have := (shN0_8 _ z).2 hK; simp only at this; omega))) rfl (by decide +kernel) cvX10_73 (dom1 rfl) npX5_keepPrepared ⟨by decide, by decide⟩ (Nat.le_of_ble_eq_true rfl) (by decide) ?_ ?_
  rotate_left
  · intro E τ' hq; cases hq.1
  intro v t3 hq
  obtain ⟨e, hH3, hm3⟩ := hq
  cases e
  show V x t3 1 30 _ []
  refine V_run hB (rt := some .int) (nL := 5) (mc := 1) rfl rfl rfl obX10_pledge_30 ?_
  dsimp only [bX10_pledge_30, ↓wpb, ↓wp1, ↓vI, ↓vL, ↓vD, ↓ldI, ↓ldL, ↓ldD, ↓ldR, ↓k1, ↓k2, ↓kI, ↓kL, ↓kD, ↓kII, ↓kLL, ↓kDD, ↓kR, ↓kIR, ↓kLR, ↓kIIR, ↓kLIR, ↓kDIR, ↓kRIR, ↓kNN, ↓kE, ↓br, ↓bn, ↓rtI, ↓gfv, ↓zchk, lput, ldel, lbad, alA, acat, isRf, dom, dS, dJ, isO, aTy, aLen, elAV, elR, Nat.reduceBEq, Nat.reduceAdd, Bool.or, Bool.and, Nat.add_zero, Nat.zero_add]
  try simp only [Nat.reduceLT, Nat.reduceLeDiff, Nat.reduceEqDiff, true_and, and_true, and_self, Nat.zero_le, Nat.le_refl, true_or, or_true, Bool.false_eq_true, not_false_eq_true, Nat.reduceAdd, Nat.lt_add_one, Nat.zero_lt_one, nI_add, pk_mul, ixL, vpL, ne_eq, reduceIte, wI_sN, wL_sM, sN_same, sN_K, sN_2, sM_1, sM_same, sM_K, sM_s, uI_at, uN_at, enc_at, uI_enc, uI_uI, upM_s, upM_n]
  exact op_yes h hm1 (QN_sh (by decide)) hr hR2 hm2 hH3 hm3
theorem s0_sRed (a : Nat → Nat) (t : Int32) : (sRed a (findO a t false)).1 ≠ 0 → (sRed a (findO a t false)).2.2 = a := by
  unfold sRed
  repeat' split
  all_goals first | exact fun _ => rfl | exact fun h => absurd rfl h
theorem x_redeem (hc : Ctx l G) (h : CW τ σ) (hV : IV n σ.1) (hn : n ≤ 1000) (t : Int32) : Sat l G iX10_redeem [moM, aI t] τ (XOp [NSE] τ (opS σ (sRed σ.1 (findO σ.1 t false)))) := by
  obtain ⟨π, hS⟩ := h.1
  obtain ⟨p, hH⟩ := h.2.1
  have hf := s0_sRed σ.1 t
  refine Sat_of hc.1 hc.2 (by decide +kernel) (Nat.le_of_ble_eq_true rfl) (fun x hB hno => ?_)
  refine V_run hB (rt := some .int) (nL := 3) (mc := 1) rfl rfl rfl obX10_redeem_0 ?_
  dsimp only [bX10_redeem_0, ↓wpb, ↓wp1, ↓vI, ↓vL, ↓vD, ↓ldI, ↓ldL, ↓ldD, ↓ldR, ↓k1, ↓k2, ↓kI, ↓kL, ↓kD, ↓kII, ↓kLL, ↓kDD, ↓kR, ↓kIR, ↓kLR, ↓kIIR, ↓kLIR, ↓kDIR, ↓kRIR, ↓kNN, ↓kE, ↓br, ↓bn, ↓rtI, ↓gfv, ↓zchk, lput, ldel, lbad, alA, acat, isRf, dom, dS, dJ, isO, aTy, aLen, elAV, elR, Nat.reduceBEq, Nat.reduceAdd, Bool.or, Bool.and, Nat.add_zero, Nat.zero_add]
  try simp only [Nat.reduceLT, Nat.reduceLeDiff, Nat.reduceEqDiff, true_and, and_true, and_self, Nat.zero_le, Nat.le_refl, true_or, or_true, Bool.false_eq_true, not_false_eq_true, Nat.reduceAdd, Nat.lt_add_one, Nat.zero_lt_one, nI_add, pk_mul, ixL, vpL, ne_eq, reduceIte, wI_sN, wL_sM, sN_same, sN_K, sN_2, sM_1, sM_same, sM_K, sM_s, uI_at, uN_at, enc_at, uI_enc, uI_uI, upM_s, upM_n]
  refine V_callV hB hno (c_prepare hc hS hH hV.1.1 hV.one) rfl (by decide +kernel) cvX10_65 (dom1 rfl) npX5_prepare ⟨by decide, by decide⟩ (Nat.le_of_ble_eq_true rfl) (by decide) ?_ ?_
  rotate_left
  · intro E τ' hq; cases hq.1
  intro v t1 hq
  obtain ⟨e, hSp, hS1, hH1, hm1⟩ := hq
  cases e
  show V x t1 0 11 _ []
  refine V_run hB (rt := some .int) (nL := 3) (mc := 1) rfl rfl rfl obX10_redeem_11 ?_
  dsimp only [bX10_redeem_11, ↓wpb, ↓wp1, ↓vI, ↓vL, ↓vD, ↓ldI, ↓ldL, ↓ldD, ↓ldR, ↓k1, ↓k2, ↓kI, ↓kL, ↓kD, ↓kII, ↓kLL, ↓kDD, ↓kR, ↓kIR, ↓kLR, ↓kIIR, ↓kLIR, ↓kDIR, ↓kRIR, ↓kNN, ↓kE, ↓br, ↓bn, ↓rtI, ↓gfv, ↓zchk, lput, ldel, lbad, alA, acat, isRf, dom, dS, dJ, isO, aTy, aLen, elAV, elR, Nat.reduceBEq, Nat.reduceAdd, Bool.or, Bool.and, Nat.add_zero, Nat.zero_add]
  try simp only [Nat.reduceLT, Nat.reduceLeDiff, Nat.reduceEqDiff, true_and, and_true, and_self, Nat.zero_le, Nat.le_refl, true_or, or_true, Bool.false_eq_true, not_false_eq_true, Nat.reduceAdd, Nat.lt_add_one, Nat.zero_lt_one, nI_add, pk_mul, ixL, vpL, ne_eq, reduceIte, wI_sN, wL_sM, sN_same, sN_K, sN_2, sM_1, sM_same, sM_K, sM_s, uI_at, uN_at, enc_at, uI_enc, uI_uI, upM_s, upM_n]
  refine V_callV hB hno (c_redeem hc hS1 hV hn t) rfl (by decide +kernel) cvX10_76 (dom1 rfl) npX9_redeemPledge ⟨by decide, by decide⟩ (Nat.le_of_ble_eq_true rfl) (by decide) ?_ ?_
  rotate_left
  · intro E τ' hq
    exact op_no h hH1 hm1 (QN_sh (by decide)) shN0_8 hf hq
  intro v t2 hq
  obtain ⟨e, hR2, hm2⟩ := hq
  by_cases hr : (sRed σ.1 (findO σ.1 t false)).1 = 0
  rotate_left
  · rw [if_neg hr] at e; cases e
  rw [if_pos hr] at e
  cases e
  show V x t2 1 19 _ [aI (nI (sRed σ.1 (findO σ.1 t false)).2.1)]
  generalize sRed σ.1 (findO σ.1 t false) = R at *
  refine V_run hB (rt := some .int) (nL := 3) (mc := 1) rfl rfl rfl obX10_redeem_19 ?_
  dsimp only [bX10_redeem_19, ↓wpb, ↓wp1, ↓vI, ↓vL, ↓vD, ↓ldI, ↓ldL, ↓ldD, ↓ldR, ↓k1, ↓k2, ↓kI, ↓kL, ↓kD, ↓kII, ↓kLL, ↓kDD, ↓kR, ↓kIR, ↓kLR, ↓kIIR, ↓kLIR, ↓kDIR, ↓kRIR, ↓kNN, ↓kE, ↓br, ↓bn, ↓rtI, ↓gfv, ↓zchk, lput, ldel, lbad, alA, acat, isRf, dom, dS, dJ, isO, aTy, aLen, elAV, elR, Nat.reduceBEq, Nat.reduceAdd, Bool.or, Bool.and, Nat.add_zero, Nat.zero_add]
  try simp only [Nat.reduceLT, Nat.reduceLeDiff, Nat.reduceEqDiff, true_and, and_true, and_self, Nat.zero_le, Nat.le_refl, true_or, or_true, Bool.false_eq_true, not_false_eq_true, Nat.reduceAdd, Nat.lt_add_one, Nat.zero_lt_one, nI_add, pk_mul, ixL, vpL, ne_eq, reduceIte, wI_sN, wL_sM, sN_same, sN_K, sN_2, sM_1, sM_same, sM_K, sM_s, uI_at, uN_at, enc_at, uI_enc, uI_uI, upM_s, upM_n]
  refine V_callV hB hno (c_keep hc (hH1.sh hm2 shN0_8) (hSp.same hm2 (fun K j hK z => by have := (shN0_8 _ z).2 hK; simp only at this; omega))) rfl (by decide +kernel) cvX10_73 (dom1 rfl) npX5_keepPrepared ⟨by decide, by decide⟩ (Nat.le_of_ble_eq_true rfl) (by decide) ?_ ?_
  rotate_left
  · intro E τ' hq; cases hq.1
  intro v t3 hq
  obtain ⟨e, hH3, hm3⟩ := hq
  cases e
  show V x t3 1 27 _ []
  refine V_run hB (rt := some .int) (nL := 3) (mc := 1) rfl rfl rfl obX10_redeem_27 ?_
  dsimp only [bX10_redeem_27, ↓wpb, ↓wp1, ↓vI, ↓vL, ↓vD, ↓ldI, ↓ldL, ↓ldD, ↓ldR, ↓k1, ↓k2, ↓kI, ↓kL, ↓kD, ↓kII, ↓kLL, ↓kDD, ↓kR, ↓kIR, ↓kLR, ↓kIIR, ↓kLIR, ↓kDIR, ↓kRIR, ↓kNN, ↓kE, ↓br, ↓bn, ↓rtI, ↓gfv, ↓zchk, lput, ldel, lbad, alA, acat, isRf, dom, dS, dJ, isO, aTy, aLen, elAV, elR, Nat.reduceBEq, Nat.reduceAdd, Bool.or, Bool.and, Nat.add_zero, Nat.zero_add]
  try simp only [Nat.reduceLT, Nat.reduceLeDiff, Nat.reduceEqDiff, true_and, and_true, and_self, Nat.zero_le, Nat.le_refl, true_or, or_true, Bool.false_eq_true, not_false_eq_true, Nat.reduceAdd, Nat.lt_add_one, Nat.zero_lt_one, nI_add, pk_mul, ixL, vpL, ne_eq, reduceIte, wI_sN, wL_sM, sN_same, sN_K, sN_2, sM_1, sM_same, sM_K, sM_s, uI_at, uN_at, enc_at, uI_enc, uI_uI, upM_s, upM_n]
  exact op_yes h hm1 (QN_sh (by decide)) hr hR2 hm2 hH3 hm3
theorem s0_sExt (a : Nat → Nat) (t d : Int32) : (sExt a (findO a t false) d).1 ≠ 0 → (sExt a (findO a t false) d).2.2 = a := by
  unfold sExt
  repeat' split
  all_goals first | exact fun _ => rfl | exact fun h => absurd rfl h
theorem x_extend (hc : Ctx l G) (h : CW τ σ) (hV : IV n σ.1) (hn : n ≤ 1000) (t d : Int32) : Sat l G iX10_extend [moM, aI t, aI d] τ (XOp [NSE, IAE] τ (opS σ (sExt σ.1 (findO σ.1 t false) d))) := by
  obtain ⟨π, hS⟩ := h.1
  obtain ⟨p, hH⟩ := h.2.1
  have hf := s0_sExt σ.1 t d
  refine Sat_of hc.1 hc.2 (by decide +kernel) (Nat.le_of_ble_eq_true rfl) (fun x hB hno => ?_)
  refine V_run hB (rt := some .int) (nL := 4) (mc := 2) rfl rfl rfl obX10_extend_0 ?_
  dsimp only [bX10_extend_0, ↓wpb, ↓wp1, ↓vI, ↓vL, ↓vD, ↓ldI, ↓ldL, ↓ldD, ↓ldR, ↓k1, ↓k2, ↓kI, ↓kL, ↓kD, ↓kII, ↓kLL, ↓kDD, ↓kR, ↓kIR, ↓kLR, ↓kIIR, ↓kLIR, ↓kDIR, ↓kRIR, ↓kNN, ↓kE, ↓br, ↓bn, ↓rtI, ↓gfv, ↓zchk, lput, ldel, lbad, alA, acat, isRf, dom, dS, dJ, isO, aTy, aLen, elAV, elR, Nat.reduceBEq, Nat.reduceAdd, Bool.or, Bool.and, Nat.add_zero, Nat.zero_add]
  try simp only [Nat.reduceLT, Nat.reduceLeDiff, Nat.reduceEqDiff, true_and, and_true, and_self, Nat.zero_le, Nat.le_refl, true_or, or_true, Bool.false_eq_true, not_false_eq_true, Nat.reduceAdd, Nat.lt_add_one, Nat.zero_lt_one, nI_add, pk_mul, ixL, vpL, ne_eq, reduceIte, wI_sN, wL_sM, sN_same, sN_K, sN_2, sM_1, sM_same, sM_K, sM_s, uI_at, uN_at, enc_at, uI_enc, uI_uI, upM_s, upM_n]
  refine V_callV hB hno (c_prepare hc hS hH hV.1.1 hV.one) rfl (by decide +kernel) cvX10_65 (dom1 rfl) npX5_prepare ⟨by decide, by decide⟩ (Nat.le_of_ble_eq_true rfl) (by decide) ?_ ?_
  rotate_left
  · intro E τ' hq; cases hq.1
  intro v t1 hq
  obtain ⟨e, hSp, hS1, hH1, hm1⟩ := hq
  cases e
  show V x t1 0 11 _ []
  refine V_run hB (rt := some .int) (nL := 4) (mc := 2) rfl rfl rfl obX10_extend_11 ?_
  dsimp only [bX10_extend_11, ↓wpb, ↓wp1, ↓vI, ↓vL, ↓vD, ↓ldI, ↓ldL, ↓ldD, ↓ldR, ↓k1, ↓k2, ↓kI, ↓kL, ↓kD, ↓kII, ↓kLL, ↓kDD, ↓kR, ↓kIR, ↓kLR, ↓kIIR, ↓kLIR, ↓kDIR, ↓kRIR, ↓kNN, ↓kE, ↓br, ↓bn, ↓rtI, ↓gfv, ↓zchk, lput, ldel, lbad, alA, acat, isRf, dom, dS, dJ, isO, aTy, aLen, elAV, elR, Nat.reduceBEq, Nat.reduceAdd, Bool.or, Bool.and, Nat.add_zero, Nat.zero_add]
  try simp only [Nat.reduceLT, Nat.reduceLeDiff, Nat.reduceEqDiff, true_and, and_true, and_self, Nat.zero_le, Nat.le_refl, true_or, or_true, Bool.false_eq_true, not_false_eq_true, Nat.reduceAdd, Nat.lt_add_one, Nat.zero_lt_one, nI_add, pk_mul, ixL, vpL, ne_eq, reduceIte, wI_sN, wL_sM, sN_same, sN_K, sN_2, sM_1, sM_same, sM_K, sM_s, uI_at, uN_at, enc_at, uI_enc, uI_uI, upM_s, upM_n]
  refine V_callV hB hno (c_extend hc hS1 hV hn t d) rfl (by decide +kernel) cvX10_80 (dom1 rfl) npX9_extendPledge ⟨by decide, by decide⟩ (Nat.le_of_ble_eq_true rfl) (by decide) ?_ ?_
  rotate_left
  · intro E τ' hq
    exact op_no h hH1 hm1 (QN_sh (by decide)) shN0_8 hf hq
  intro v t2 hq
  obtain ⟨e, hR2, hm2⟩ := hq
  by_cases hr : (sExt σ.1 (findO σ.1 t false) d).1 = 0
  rotate_left
  · rw [if_neg hr] at e; cases e
  rw [if_pos hr] at e
  cases e
  show V x t2 2 20 _ [aI (nI (sExt σ.1 (findO σ.1 t false) d).2.1)]
  generalize sExt σ.1 (findO σ.1 t false) d = R at *
  refine V_run hB (rt := some .int) (nL := 4) (mc := 2) rfl rfl rfl obX10_extend_20 ?_
  dsimp only [bX10_extend_20, ↓wpb, ↓wp1, ↓vI, ↓vL, ↓vD, ↓ldI, ↓ldL, ↓ldD, ↓ldR, ↓k1, ↓k2, ↓kI, ↓kL, ↓kD, ↓kII, ↓kLL, ↓kDD, ↓kR, ↓kIR, ↓kLR, ↓kIIR, ↓kLIR, ↓kDIR, ↓kRIR, ↓kNN, ↓kE, ↓br, ↓bn, ↓rtI, ↓gfv, ↓zchk, lput, ldel, lbad, alA, acat, isRf, dom, dS, dJ, isO, aTy, aLen, elAV, elR, Nat.reduceBEq, Nat.reduceAdd, Bool.or, Bool.and, Nat.add_zero, Nat.zero_add]
  try simp only [Nat.reduceLT, Nat.reduceLeDiff, Nat.reduceEqDiff, true_and, and_true, and_self, Nat.zero_le, Nat.le_refl, true_or, or_true, Bool.false_eq_true, not_false_eq_true, Nat.reduceAdd, Nat.lt_add_one, Nat.zero_lt_one, nI_add, pk_mul, ixL, vpL, ne_eq, reduceIte, wI_sN, wL_sM, sN_same, sN_K, sN_2, sM_1, sM_same, sM_K, sM_s, uI_at, uN_at, enc_at, uI_enc, uI_uI, upM_s, upM_n]
  refine V_callV hB hno (c_keep hc (hH1.sh hm2 shN0_8) (hSp.same hm2 (fun K j hK z => by have := (shN0_8 _ z).2 hK; simp only at this; omega))) rfl (by decide +kernel) cvX10_73 (dom1 rfl) npX5_keepPrepared ⟨by decide, by decide⟩ (Nat.le_of_ble_eq_true rfl) (by decide) ?_ ?_
  rotate_left
  · intro E τ' hq; cases hq.1
  intro v t3 hq
  obtain ⟨e, hH3, hm3⟩ := hq
  cases e
  show V x t3 2 28 _ []
  refine V_run hB (rt := some .int) (nL := 4) (mc := 2) rfl rfl rfl obX10_extend_28 ?_
  dsimp only [bX10_extend_28, ↓wpb, ↓wp1, ↓vI, ↓vL, ↓vD, ↓ldI, ↓ldL, ↓ldD, ↓ldR, ↓k1, ↓k2, ↓kI, ↓kL, ↓kD, ↓kII, ↓kLL, ↓kDD, ↓kR, ↓kIR, ↓kLR, ↓kIIR, ↓kLIR, ↓kDIR, ↓kRIR, ↓kNN, ↓kE, ↓br, ↓bn, ↓rtI, ↓gfv, ↓zchk, lput, ldel, lbad, alA, acat, isRf, dom, dS, dJ, isO, aTy, aLen, elAV, elR, Nat.reduceBEq, Nat.reduceAdd, Bool.or, Bool.and, Nat.add_zero, Nat.zero_add]
  try simp only [Nat.reduceLT, Nat.reduceLeDiff, Nat.reduceEqDiff, true_and, and_true, and_self, Nat.zero_le, Nat.le_refl, true_or, or_true, Bool.false_eq_true, not_false_eq_true, Nat.reduceAdd, Nat.lt_add_one, Nat.zero_lt_one, nI_add, pk_mul, ixL, vpL, ne_eq, reduceIte, wI_sN, wL_sM, sN_same, sN_K, sN_2, sM_1, sM_same, sM_K, sM_s, uI_at, uN_at, enc_at, uI_enc, uI_uI, upM_s, upM_n]
  exact op_yes h hm1 (QN_sh (by decide)) hr hR2 hm2 hH3 hm3
theorem s0_sPas (a : Nat → Nat) (d : Int32) : (sPas a d).1 ≠ 0 → (sPas a d).2.2 = a := by
  unfold sPas
  repeat' split
  all_goals first | exact fun _ => rfl | exact fun h => absurd rfl h
theorem x_passDays (hc : Ctx l G) (h : CW τ σ) (hV : IV n σ.1) (hn : n ≤ 1000) (d : Int32) : Sat l G iX10_passDays [moM, aI d] τ (XOp [IAE] τ (opS σ (sPas σ.1 d))) := by
  obtain ⟨π, hS⟩ := h.1
  obtain ⟨p, hH⟩ := h.2.1
  have hf := s0_sPas σ.1 d
  refine Sat_of hc.1 hc.2 (by decide +kernel) (Nat.le_of_ble_eq_true rfl) (fun x hB hno => ?_)
  refine V_run hB (rt := some .int) (nL := 3) (mc := 1) rfl rfl rfl obX10_passDays_0 ?_
  dsimp only [bX10_passDays_0, ↓wpb, ↓wp1, ↓vI, ↓vL, ↓vD, ↓ldI, ↓ldL, ↓ldD, ↓ldR, ↓k1, ↓k2, ↓kI, ↓kL, ↓kD, ↓kII, ↓kLL, ↓kDD, ↓kR, ↓kIR, ↓kLR, ↓kIIR, ↓kLIR, ↓kDIR, ↓kRIR, ↓kNN, ↓kE, ↓br, ↓bn, ↓rtI, ↓gfv, ↓zchk, lput, ldel, lbad, alA, acat, isRf, dom, dS, dJ, isO, aTy, aLen, elAV, elR, Nat.reduceBEq, Nat.reduceAdd, Bool.or, Bool.and, Nat.add_zero, Nat.zero_add]
  try simp only [Nat.reduceLT, Nat.reduceLeDiff, Nat.reduceEqDiff, true_and, and_true, and_self, Nat.zero_le, Nat.le_refl, true_or, or_true, Bool.false_eq_true, not_false_eq_true, Nat.reduceAdd, Nat.lt_add_one, Nat.zero_lt_one, nI_add, pk_mul, ixL, vpL, ne_eq, reduceIte, wI_sN, wL_sM, sN_same, sN_K, sN_2, sM_1, sM_same, sM_K, sM_s, uI_at, uN_at, enc_at, uI_enc, uI_uI, upM_s, upM_n]
  refine V_callV hB hno (c_prepare hc hS hH hV.1.1 hV.one) rfl (by decide +kernel) cvX10_65 (dom1 rfl) npX5_prepare ⟨by decide, by decide⟩ (Nat.le_of_ble_eq_true rfl) (by decide) ?_ ?_
  rotate_left
  · intro E τ' hq; cases hq.1
  intro v t1 hq
  obtain ⟨e, hSp, hS1, hH1, hm1⟩ := hq
  cases e
  show V x t1 0 11 _ []
  refine V_run hB (rt := some .int) (nL := 3) (mc := 1) rfl rfl rfl obX10_passDays_11 ?_
  dsimp only [bX10_passDays_11, ↓wpb, ↓wp1, ↓vI, ↓vL, ↓vD, ↓ldI, ↓ldL, ↓ldD, ↓ldR, ↓k1, ↓k2, ↓kI, ↓kL, ↓kD, ↓kII, ↓kLL, ↓kDD, ↓kR, ↓kIR, ↓kLR, ↓kIIR, ↓kLIR, ↓kDIR, ↓kRIR, ↓kNN, ↓kE, ↓br, ↓bn, ↓rtI, ↓gfv, ↓zchk, lput, ldel, lbad, alA, acat, isRf, dom, dS, dJ, isO, aTy, aLen, elAV, elR, Nat.reduceBEq, Nat.reduceAdd, Bool.or, Bool.and, Nat.add_zero, Nat.zero_add]
  try simp only [Nat.reduceLT, Nat.reduceLeDiff, Nat.reduceEqDiff, true_and, and_true, and_self, Nat.zero_le, Nat.le_refl, true_or, or_true, Bool.false_eq_true, not_false_eq_true, Nat.reduceAdd, Nat.lt_add_one, Nat.zero_lt_one, nI_add, pk_mul, ixL, vpL, ne_eq, reduceIte, wI_sN, wL_sM, sN_same, sN_K, sN_2, sM_1, sM_same, sM_K, sM_s, uI_at, uN_at, enc_at, uI_enc, uI_uI, upM_s, upM_n]
  refine V_callV hB hno (c_days hc hS1 hV hn d) rfl (by decide +kernel) cvX10_84 (dom1 rfl) npX9_letDaysPass ⟨by decide, by decide⟩ (Nat.le_of_ble_eq_true rfl) (by decide) ?_ ?_
  rotate_left
  · intro E τ' hq
    exact op_no h hH1 hm1 (QN_sh (by decide)) shN0_8 hf hq
  intro v t2 hq
  obtain ⟨e, hR2, hm2⟩ := hq
  by_cases hr : (sPas σ.1 d).1 = 0
  rotate_left
  · rw [if_neg hr] at e; cases e
  rw [if_pos hr] at e
  cases e
  show V x t2 1 19 _ [aI (nI (sPas σ.1 d).2.1)]
  generalize sPas σ.1 d = R at *
  refine V_run hB (rt := some .int) (nL := 3) (mc := 1) rfl rfl rfl obX10_passDays_19 ?_
  dsimp only [bX10_passDays_19, ↓wpb, ↓wp1, ↓vI, ↓vL, ↓vD, ↓ldI, ↓ldL, ↓ldD, ↓ldR, ↓k1, ↓k2, ↓kI, ↓kL, ↓kD, ↓kII, ↓kLL, ↓kDD, ↓kR, ↓kIR, ↓kLR, ↓kIIR, ↓kLIR, ↓kDIR, ↓kRIR, ↓kNN, ↓kE, ↓br, ↓bn, ↓rtI, ↓gfv, ↓zchk, lput, ldel, lbad, alA, acat, isRf, dom, dS, dJ, isO, aTy, aLen, elAV, elR, Nat.reduceBEq, Nat.reduceAdd, Bool.or, Bool.and, Nat.add_zero, Nat.zero_add]
  try simp only [Nat.reduceLT, Nat.reduceLeDiff, Nat.reduceEqDiff, true_and, and_true, and_self, Nat.zero_le, Nat.le_refl, true_or, or_true, Bool.false_eq_true, not_false_eq_true, Nat.reduceAdd, Nat.lt_add_one, Nat.zero_lt_one, nI_add, pk_mul, ixL, vpL, ne_eq, reduceIte, wI_sN, wL_sM, sN_same, sN_K, sN_2, sM_1, sM_same, sM_K, sM_s, uI_at, uN_at, enc_at, uI_enc, uI_uI, upM_s, upM_n]
  refine V_callV hB hno (c_keep hc (hH1.sh hm2 shN0_8) (hSp.same hm2 (fun K j hK z => by have := (shN0_8 _ z).2 hK; simp only at this; omega))) rfl (by decide +kernel) cvX10_73 (dom1 rfl) npX5_keepPrepared ⟨by decide, by decide⟩ (Nat.le_of_ble_eq_true rfl) (by decide) ?_ ?_
  rotate_left
  · intro E τ' hq; cases hq.1
  intro v t3 hq
  obtain ⟨e, hH3, hm3⟩ := hq
  cases e
  show V x t3 1 27 _ []
  refine V_run hB (rt := some .int) (nL := 3) (mc := 1) rfl rfl rfl obX10_passDays_27 ?_
  dsimp only [bX10_passDays_27, ↓wpb, ↓wp1, ↓vI, ↓vL, ↓vD, ↓ldI, ↓ldL, ↓ldD, ↓ldR, ↓k1, ↓k2, ↓kI, ↓kL, ↓kD, ↓kII, ↓kLL, ↓kDD, ↓kR, ↓kIR, ↓kLR, ↓kIIR, ↓kLIR, ↓kDIR, ↓kRIR, ↓kNN, ↓kE, ↓br, ↓bn, ↓rtI, ↓gfv, ↓zchk, lput, ldel, lbad, alA, acat, isRf, dom, dS, dJ, isO, aTy, aLen, elAV, elR, Nat.reduceBEq, Nat.reduceAdd, Bool.or, Bool.and, Nat.add_zero, Nat.zero_add]
  try simp only [Nat.reduceLT, Nat.reduceLeDiff, Nat.reduceEqDiff, true_and, and_true, and_self, Nat.zero_le, Nat.le_refl, true_or, or_true, Bool.false_eq_true, not_false_eq_true, Nat.reduceAdd, Nat.lt_add_one, Nat.zero_lt_one, nI_add, pk_mul, ixL, vpL, ne_eq, reduceIte, wI_sN, wL_sM, sN_same, sN_K, sN_2, sM_1, sM_same, sM_K, sM_s, uI_at, uN_at, enc_at, uI_enc, uI_uI, upM_s, upM_n]
  exact op_yes h hm1 (QN_sh (by decide)) hr hR2 hm2 hH3 hm3
theorem s0_sPri (a : Nat → Nat) (d : Int32) : (sPri a d).1 ≠ 0 → (sPri a d).2.2 = a := by
  unfold sPri
  repeat' split
  all_goals first | exact fun _ => rfl | exact fun h => absurd rfl h
theorem x_setPrice (hc : Ctx l G) (h : CW τ σ) (hV : IV n σ.1) (hn : n ≤ 1000) (d : Int32) : Sat l G iX10_setPrice [moM, aI d] τ (XOp [IAE] τ (opS σ (sPri σ.1 d))) := by
  obtain ⟨π, hS⟩ := h.1
  obtain ⟨p, hH⟩ := h.2.1
  have hf := s0_sPri σ.1 d
  refine Sat_of hc.1 hc.2 (by decide +kernel) (Nat.le_of_ble_eq_true rfl) (fun x hB hno => ?_)
  refine V_run hB (rt := some .int) (nL := 3) (mc := 1) rfl rfl rfl obX10_setPrice_0 ?_
  dsimp only [bX10_setPrice_0, ↓wpb, ↓wp1, ↓vI, ↓vL, ↓vD, ↓ldI, ↓ldL, ↓ldD, ↓ldR, ↓k1, ↓k2, ↓kI, ↓kL, ↓kD, ↓kII, ↓kLL, ↓kDD, ↓kR, ↓kIR, ↓kLR, ↓kIIR, ↓kLIR, ↓kDIR, ↓kRIR, ↓kNN, ↓kE, ↓br, ↓bn, ↓rtI, ↓gfv, ↓zchk, lput, ldel, lbad, alA, acat, isRf, dom, dS, dJ, isO, aTy, aLen, elAV, elR, Nat.reduceBEq, Nat.reduceAdd, Bool.or, Bool.and, Nat.add_zero, Nat.zero_add]
  try simp only [Nat.reduceLT, Nat.reduceLeDiff, Nat.reduceEqDiff, true_and, and_true, and_self, Nat.zero_le, Nat.le_refl, true_or, or_true, Bool.false_eq_true, not_false_eq_true, Nat.reduceAdd, Nat.lt_add_one, Nat.zero_lt_one, nI_add, pk_mul, ixL, vpL, ne_eq, reduceIte, wI_sN, wL_sM, sN_same, sN_K, sN_2, sM_1, sM_same, sM_K, sM_s, uI_at, uN_at, enc_at, uI_enc, uI_uI, upM_s, upM_n]
  refine V_callV hB hno (c_prepare hc hS hH hV.1.1 hV.one) rfl (by decide +kernel) cvX10_65 (dom1 rfl) npX5_prepare ⟨by decide, by decide⟩ (Nat.le_of_ble_eq_true rfl) (by decide) ?_ ?_
  rotate_left
  · intro E τ' hq; cases hq.1
  intro v t1 hq
  obtain ⟨e, hSp, hS1, hH1, hm1⟩ := hq
  cases e
  show V x t1 0 11 _ []
  refine V_run hB (rt := some .int) (nL := 3) (mc := 1) rfl rfl rfl obX10_setPrice_11 ?_
  dsimp only [bX10_setPrice_11, ↓wpb, ↓wp1, ↓vI, ↓vL, ↓vD, ↓ldI, ↓ldL, ↓ldD, ↓ldR, ↓k1, ↓k2, ↓kI, ↓kL, ↓kD, ↓kII, ↓kLL, ↓kDD, ↓kR, ↓kIR, ↓kLR, ↓kIIR, ↓kLIR, ↓kDIR, ↓kRIR, ↓kNN, ↓kE, ↓br, ↓bn, ↓rtI, ↓gfv, ↓zchk, lput, ldel, lbad, alA, acat, isRf, dom, dS, dJ, isO, aTy, aLen, elAV, elR, Nat.reduceBEq, Nat.reduceAdd, Bool.or, Bool.and, Nat.add_zero, Nat.zero_add]
  try simp only [Nat.reduceLT, Nat.reduceLeDiff, Nat.reduceEqDiff, true_and, and_true, and_self, Nat.zero_le, Nat.le_refl, true_or, or_true, Bool.false_eq_true, not_false_eq_true, Nat.reduceAdd, Nat.lt_add_one, Nat.zero_lt_one, nI_add, pk_mul, ixL, vpL, ne_eq, reduceIte, wI_sN, wL_sM, sN_same, sN_K, sN_2, sM_1, sM_same, sM_K, sM_s, uI_at, uN_at, enc_at, uI_enc, uI_uI, upM_s, upM_n]
  refine V_callV hB hno (c_price1 hc hS1 d) rfl (by decide +kernel) cvX10_87 (dom1 rfl) npX9_changePrice ⟨by decide, by decide⟩ (Nat.le_of_ble_eq_true rfl) (by decide) ?_ ?_
  rotate_left
  · intro E τ' hq
    exact op_no h hH1 hm1 (QN_sh (by decide)) shN0_8 hf hq
  intro v t2 hq
  obtain ⟨e, hR2, hm2⟩ := hq
  by_cases hr : (sPri σ.1 d).1 = 0
  rotate_left
  · rw [if_neg hr] at e; cases e
  rw [if_pos hr] at e
  cases e
  show V x t2 1 19 _ [aI (nI (sPri σ.1 d).2.1)]
  generalize sPri σ.1 d = R at *
  refine V_run hB (rt := some .int) (nL := 3) (mc := 1) rfl rfl rfl obX10_setPrice_19 ?_
  dsimp only [bX10_setPrice_19, ↓wpb, ↓wp1, ↓vI, ↓vL, ↓vD, ↓ldI, ↓ldL, ↓ldD, ↓ldR, ↓k1, ↓k2, ↓kI, ↓kL, ↓kD, ↓kII, ↓kLL, ↓kDD, ↓kR, ↓kIR, ↓kLR, ↓kIIR, ↓kLIR, ↓kDIR, ↓kRIR, ↓kNN, ↓kE, ↓br, ↓bn, ↓rtI, ↓gfv, ↓zchk, lput, ldel, lbad, alA, acat, isRf, dom, dS, dJ, isO, aTy, aLen, elAV, elR, Nat.reduceBEq, Nat.reduceAdd, Bool.or, Bool.and, Nat.add_zero, Nat.zero_add]
  try simp only [Nat.reduceLT, Nat.reduceLeDiff, Nat.reduceEqDiff, true_and, and_true, and_self, Nat.zero_le, Nat.le_refl, true_or, or_true, Bool.false_eq_true, not_false_eq_true, Nat.reduceAdd, Nat.lt_add_one, Nat.zero_lt_one, nI_add, pk_mul, ixL, vpL, ne_eq, reduceIte, wI_sN, wL_sM, sN_same, sN_K, sN_2, sM_1, sM_same, sM_K, sM_s, uI_at, uN_at, enc_at, uI_enc, uI_uI, upM_s, upM_n]
  refine V_callV hB hno (c_keep hc (hH1.sh hm2 shN0_8) (hSp.same hm2 (fun K j hK z => by have := (shN0_8 _ z).2 hK; simp only at this; omega))) rfl (by decide +kernel) cvX10_73 (dom1 rfl) npX5_keepPrepared ⟨by decide, by decide⟩ (Nat.le_of_ble_eq_true rfl) (by decide) ?_ ?_
  rotate_left
  · intro E τ' hq; cases hq.1
  intro v t3 hq
  obtain ⟨e, hH3, hm3⟩ := hq
  cases e
  show V x t3 1 27 _ []
  refine V_run hB (rt := some .int) (nL := 3) (mc := 1) rfl rfl rfl obX10_setPrice_27 ?_
  dsimp only [bX10_setPrice_27, ↓wpb, ↓wp1, ↓vI, ↓vL, ↓vD, ↓ldI, ↓ldL, ↓ldD, ↓ldR, ↓k1, ↓k2, ↓kI, ↓kL, ↓kD, ↓kII, ↓kLL, ↓kDD, ↓kR, ↓kIR, ↓kLR, ↓kIIR, ↓kLIR, ↓kDIR, ↓kRIR, ↓kNN, ↓kE, ↓br, ↓bn, ↓rtI, ↓gfv, ↓zchk, lput, ldel, lbad, alA, acat, isRf, dom, dS, dJ, isO, aTy, aLen, elAV, elR, Nat.reduceBEq, Nat.reduceAdd, Bool.or, Bool.and, Nat.add_zero, Nat.zero_add]
  try simp only [Nat.reduceLT, Nat.reduceLeDiff, Nat.reduceEqDiff, true_and, and_true, and_self, Nat.zero_le, Nat.le_refl, true_or, or_true, Bool.false_eq_true, not_false_eq_true, Nat.reduceAdd, Nat.lt_add_one, Nat.zero_lt_one, nI_add, pk_mul, ixL, vpL, ne_eq, reduceIte, wI_sN, wL_sM, sN_same, sN_K, sN_2, sM_1, sM_same, sM_K, sM_s, uI_at, uN_at, enc_at, uI_enc, uI_uI, upM_s, upM_n]
  exact op_yes h hm1 (QN_sh (by decide)) hr hR2 hm2 hH3 hm3
theorem s0_sRat (a : Nat → Nat) (w d : Int32) : (sRat a w d).1 ≠ 0 → (sRat a w d).2.2 = a := by
  unfold sRat
  repeat' split
  all_goals first | exact fun _ => rfl | exact fun h => absurd rfl h
theorem x_setRate (hc : Ctx l G) (h : CW τ σ) (hV : IV n σ.1) (hn : n ≤ 1000) (w d : Int32) : Sat l G iX10_setRate [moM, aI w, aI d] τ (XOp [IAE] τ (opS σ (sRat σ.1 w d))) := by
  obtain ⟨π, hS⟩ := h.1
  obtain ⟨p, hH⟩ := h.2.1
  have hf := s0_sRat σ.1 w d
  refine Sat_of hc.1 hc.2 (by decide +kernel) (Nat.le_of_ble_eq_true rfl) (fun x hB hno => ?_)
  refine V_run hB (rt := some .int) (nL := 4) (mc := 1) rfl rfl rfl obX10_setRate_0 ?_
  dsimp only [bX10_setRate_0, ↓wpb, ↓wp1, ↓vI, ↓vL, ↓vD, ↓ldI, ↓ldL, ↓ldD, ↓ldR, ↓k1, ↓k2, ↓kI, ↓kL, ↓kD, ↓kII, ↓kLL, ↓kDD, ↓kR, ↓kIR, ↓kLR, ↓kIIR, ↓kLIR, ↓kDIR, ↓kRIR, ↓kNN, ↓kE, ↓br, ↓bn, ↓rtI, ↓gfv, ↓zchk, lput, ldel, lbad, alA, acat, isRf, dom, dS, dJ, isO, aTy, aLen, elAV, elR, Nat.reduceBEq, Nat.reduceAdd, Bool.or, Bool.and, Nat.add_zero, Nat.zero_add]
  try simp only [Nat.reduceLT, Nat.reduceLeDiff, Nat.reduceEqDiff, true_and, and_true, and_self, Nat.zero_le, Nat.le_refl, true_or, or_true, Bool.false_eq_true, not_false_eq_true, Nat.reduceAdd, Nat.lt_add_one, Nat.zero_lt_one, nI_add, pk_mul, ixL, vpL, ne_eq, reduceIte, wI_sN, wL_sM, sN_same, sN_K, sN_2, sM_1, sM_same, sM_K, sM_s, uI_at, uN_at, enc_at, uI_enc, uI_uI, upM_s, upM_n]
  refine V_callV hB hno (c_prepare hc hS hH hV.1.1 hV.one) rfl (by decide +kernel) cvX10_65 (dom1 rfl) npX5_prepare ⟨by decide, by decide⟩ (Nat.le_of_ble_eq_true rfl) (by decide) ?_ ?_
  rotate_left
  · intro E τ' hq; cases hq.1
  intro v t1 hq
  obtain ⟨e, hSp, hS1, hH1, hm1⟩ := hq
  cases e
  show V x t1 0 11 _ []
  refine V_run hB (rt := some .int) (nL := 4) (mc := 1) rfl rfl rfl obX10_setRate_11 ?_
  dsimp only [bX10_setRate_11, ↓wpb, ↓wp1, ↓vI, ↓vL, ↓vD, ↓ldI, ↓ldL, ↓ldD, ↓ldR, ↓k1, ↓k2, ↓kI, ↓kL, ↓kD, ↓kII, ↓kLL, ↓kDD, ↓kR, ↓kIR, ↓kLR, ↓kIIR, ↓kLIR, ↓kDIR, ↓kRIR, ↓kNN, ↓kE, ↓br, ↓bn, ↓rtI, ↓gfv, ↓zchk, lput, ldel, lbad, alA, acat, isRf, dom, dS, dJ, isO, aTy, aLen, elAV, elR, Nat.reduceBEq, Nat.reduceAdd, Bool.or, Bool.and, Nat.add_zero, Nat.zero_add]
  try simp only [Nat.reduceLT, Nat.reduceLeDiff, Nat.reduceEqDiff, true_and, and_true, and_self, Nat.zero_le, Nat.le_refl, true_or, or_true, Bool.false_eq_true, not_false_eq_true, Nat.reduceAdd, Nat.lt_add_one, Nat.zero_lt_one, nI_add, pk_mul, ixL, vpL, ne_eq, reduceIte, wI_sN, wL_sM, sN_same, sN_K, sN_2, sM_1, sM_same, sM_K, sM_s, uI_at, uN_at, enc_at, uI_enc, uI_uI, upM_s, upM_n]
  refine V_callV hB hno (c_rate hc hS1 w d) rfl (by decide +kernel) cvX10_94 (dom1 rfl) npX2_changeRate ⟨by decide, by decide⟩ (Nat.le_of_ble_eq_true rfl) (by decide) ?_ ?_
  rotate_left
  · intro E τ' hq
    exact op_no h hH1 hm1 (QN_sh (by decide)) shN0_8 hf hq
  intro v t2 hq
  obtain ⟨e, hR2, hm2⟩ := hq
  by_cases hr : (sRat σ.1 w d).1 = 0
  rotate_left
  · rw [if_neg hr] at e; cases e
  rw [if_pos hr] at e
  cases e
  show V x t2 1 23 _ [aI (nI (sRat σ.1 w d).2.1)]
  generalize sRat σ.1 w d = R at *
  refine V_run hB (rt := some .int) (nL := 4) (mc := 1) rfl rfl rfl obX10_setRate_23 ?_
  dsimp only [bX10_setRate_23, ↓wpb, ↓wp1, ↓vI, ↓vL, ↓vD, ↓ldI, ↓ldL, ↓ldD, ↓ldR, ↓k1, ↓k2, ↓kI, ↓kL, ↓kD, ↓kII, ↓kLL, ↓kDD, ↓kR, ↓kIR, ↓kLR, ↓kIIR, ↓kLIR, ↓kDIR, ↓kRIR, ↓kNN, ↓kE, ↓br, ↓bn, ↓rtI, ↓gfv, ↓zchk, lput, ldel, lbad, alA, acat, isRf, dom, dS, dJ, isO, aTy, aLen, elAV, elR, Nat.reduceBEq, Nat.reduceAdd, Bool.or, Bool.and, Nat.add_zero, Nat.zero_add]
  try simp only [Nat.reduceLT, Nat.reduceLeDiff, Nat.reduceEqDiff, true_and, and_true, and_self, Nat.zero_le, Nat.le_refl, true_or, or_true, Bool.false_eq_true, not_false_eq_true, Nat.reduceAdd, Nat.lt_add_one, Nat.zero_lt_one, nI_add, pk_mul, ixL, vpL, ne_eq, reduceIte, wI_sN, wL_sM, sN_same, sN_K, sN_2, sM_1, sM_same, sM_K, sM_s, uI_at, uN_at, enc_at, uI_enc, uI_uI, upM_s, upM_n]
  refine V_callV hB hno (c_keep hc (hH1.sh hm2 shN0_8) (hSp.same hm2 (fun K j hK z => by have := (shN0_8 _ z).2 hK; simp only at this; omega))) rfl (by decide +kernel) cvX10_73 (dom1 rfl) npX5_keepPrepared ⟨by decide, by decide⟩ (Nat.le_of_ble_eq_true rfl) (by decide) ?_ ?_
  rotate_left
  · intro E τ' hq; cases hq.1
  intro v t3 hq
  obtain ⟨e, hH3, hm3⟩ := hq
  cases e
  show V x t3 1 31 _ []
  refine V_run hB (rt := some .int) (nL := 4) (mc := 1) rfl rfl rfl obX10_setRate_31 ?_
  dsimp only [bX10_setRate_31, ↓wpb, ↓wp1, ↓vI, ↓vL, ↓vD, ↓ldI, ↓ldL, ↓ldD, ↓ldR, ↓k1, ↓k2, ↓kI, ↓kL, ↓kD, ↓kII, ↓kLL, ↓kDD, ↓kR, ↓kIR, ↓kLR, ↓kIIR, ↓kLIR, ↓kDIR, ↓kRIR, ↓kNN, ↓kE, ↓br, ↓bn, ↓rtI, ↓gfv, ↓zchk, lput, ldel, lbad, alA, acat, isRf, dom, dS, dJ, isO, aTy, aLen, elAV, elR, Nat.reduceBEq, Nat.reduceAdd, Bool.or, Bool.and, Nat.add_zero, Nat.zero_add]
  try simp only [Nat.reduceLT, Nat.reduceLeDiff, Nat.reduceEqDiff, true_and, and_true, and_self, Nat.zero_le, Nat.le_refl, true_or, or_true, Bool.false_eq_true, not_false_eq_true, Nat.reduceAdd, Nat.lt_add_one, Nat.zero_lt_one, nI_add, pk_mul, ixL, vpL, ne_eq, reduceIte, wI_sN, wL_sM, sN_same, sN_K, sN_2, sM_1, sM_same, sM_K, sM_s, uI_at, uN_at, enc_at, uI_enc, uI_uI, upM_s, upM_n]
  exact op_yes h hm1 (QN_sh (by decide)) hr hR2 hm2 hH3 hm3
theorem s0_sBid (a : Nat → Nat) (t y d : Int32) : (sBid a (findO a t true) y d).1 ≠ 0 → (sBid a (findO a t true) y d).2.2 = a := by
  unfold sBid
  repeat' split
  all_goals first | exact fun _ => rfl | exact fun h => absurd rfl h
theorem x_bid (hc : Ctx l G) (h : CW τ σ) (hV : IV n σ.1) (hn : n ≤ 1000) (t y d : Int32) : Sat l G iX10_bid [moM, aI t, aI y, aI d] τ (XOp [NSE, IAE] τ (opS σ (sBid σ.1 (findO σ.1 t true) y d))) := by
  obtain ⟨π, hS⟩ := h.1
  obtain ⟨p, hH⟩ := h.2.1
  have hf := s0_sBid σ.1 t y d
  refine Sat_of hc.1 hc.2 (by decide +kernel) (Nat.le_of_ble_eq_true rfl) (fun x hB hno => ?_)
  refine V_run hB (rt := some .int) (nL := 5) (mc := 2) rfl rfl rfl obX10_bid_0 ?_
  dsimp only [bX10_bid_0, ↓wpb, ↓wp1, ↓vI, ↓vL, ↓vD, ↓ldI, ↓ldL, ↓ldD, ↓ldR, ↓k1, ↓k2, ↓kI, ↓kL, ↓kD, ↓kII, ↓kLL, ↓kDD, ↓kR, ↓kIR, ↓kLR, ↓kIIR, ↓kLIR, ↓kDIR, ↓kRIR, ↓kNN, ↓kE, ↓br, ↓bn, ↓rtI, ↓gfv, ↓zchk, lput, ldel, lbad, alA, acat, isRf, dom, dS, dJ, isO, aTy, aLen, elAV, elR, Nat.reduceBEq, Nat.reduceAdd, Bool.or, Bool.and, Nat.add_zero, Nat.zero_add]
  try simp only [Nat.reduceLT, Nat.reduceLeDiff, Nat.reduceEqDiff, true_and, and_true, and_self, Nat.zero_le, Nat.le_refl, true_or, or_true, Bool.false_eq_true, not_false_eq_true, Nat.reduceAdd, Nat.lt_add_one, Nat.zero_lt_one, nI_add, pk_mul, ixL, vpL, ne_eq, reduceIte, wI_sN, wL_sM, sN_same, sN_K, sN_2, sM_1, sM_same, sM_K, sM_s, uI_at, uN_at, enc_at, uI_enc, uI_uI, upM_s, upM_n]
  refine V_callV hB hno (c_prepare hc hS hH hV.1.1 hV.one) rfl (by decide +kernel) cvX10_65 (dom1 rfl) npX5_prepare ⟨by decide, by decide⟩ (Nat.le_of_ble_eq_true rfl) (by decide) ?_ ?_
  rotate_left
  · intro E τ' hq; cases hq.1
  intro v t1 hq
  obtain ⟨e, hSp, hS1, hH1, hm1⟩ := hq
  cases e
  show V x t1 0 11 _ []
  refine V_run hB (rt := some .int) (nL := 5) (mc := 2) rfl rfl rfl obX10_bid_11 ?_
  dsimp only [bX10_bid_11, ↓wpb, ↓wp1, ↓vI, ↓vL, ↓vD, ↓ldI, ↓ldL, ↓ldD, ↓ldR, ↓k1, ↓k2, ↓kI, ↓kL, ↓kD, ↓kII, ↓kLL, ↓kDD, ↓kR, ↓kIR, ↓kLR, ↓kIIR, ↓kLIR, ↓kDIR, ↓kRIR, ↓kNN, ↓kE, ↓br, ↓bn, ↓rtI, ↓gfv, ↓zchk, lput, ldel, lbad, alA, acat, isRf, dom, dS, dJ, isO, aTy, aLen, elAV, elR, Nat.reduceBEq, Nat.reduceAdd, Bool.or, Bool.and, Nat.add_zero, Nat.zero_add]
  try simp only [Nat.reduceLT, Nat.reduceLeDiff, Nat.reduceEqDiff, true_and, and_true, and_self, Nat.zero_le, Nat.le_refl, true_or, or_true, Bool.false_eq_true, not_false_eq_true, Nat.reduceAdd, Nat.lt_add_one, Nat.zero_lt_one, nI_add, pk_mul, ixL, vpL, ne_eq, reduceIte, wI_sN, wL_sM, sN_same, sN_K, sN_2, sM_1, sM_same, sM_K, sM_s, uI_at, uN_at, enc_at, uI_enc, uI_uI, upM_s, upM_n]
  refine V_callV hB hno (c_bid hc hS1 hV t y d) rfl (by decide +kernel) cvX10_210 (dom1 rfl) npX9_placeBid ⟨by decide, by decide⟩ (Nat.le_of_ble_eq_true rfl) (by decide) ?_ ?_
  rotate_left
  · intro E τ' hq
    exact op_no h hH1 hm1 (QN_sh (by decide)) shN0_8 hf hq
  intro v t2 hq
  obtain ⟨e, hR2, hm2⟩ := hq
  by_cases hr : (sBid σ.1 (findO σ.1 t true) y d).1 = 0
  rotate_left
  · rw [if_neg hr] at e; cases e
  rw [if_pos hr] at e
  cases e
  show V x t2 2 21 _ [aI (nI (sBid σ.1 (findO σ.1 t true) y d).2.1)]
  generalize sBid σ.1 (findO σ.1 t true) y d = R at *
  refine V_run hB (rt := some .int) (nL := 5) (mc := 2) rfl rfl rfl obX10_bid_21 ?_
  dsimp only [bX10_bid_21, ↓wpb, ↓wp1, ↓vI, ↓vL, ↓vD, ↓ldI, ↓ldL, ↓ldD, ↓ldR, ↓k1, ↓k2, ↓kI, ↓kL, ↓kD, ↓kII, ↓kLL, ↓kDD, ↓kR, ↓kIR, ↓kLR, ↓kIIR, ↓kLIR, ↓kDIR, ↓kRIR, ↓kNN, ↓kE, ↓br, ↓bn, ↓rtI, ↓gfv, ↓zchk, lput, ldel, lbad, alA, acat, isRf, dom, dS, dJ, isO, aTy, aLen, elAV, elR, Nat.reduceBEq, Nat.reduceAdd, Bool.or, Bool.and, Nat.add_zero, Nat.zero_add]
  try simp only [Nat.reduceLT, Nat.reduceLeDiff, Nat.reduceEqDiff, true_and, and_true, and_self, Nat.zero_le, Nat.le_refl, true_or, or_true, Bool.false_eq_true, not_false_eq_true, Nat.reduceAdd, Nat.lt_add_one, Nat.zero_lt_one, nI_add, pk_mul, ixL, vpL, ne_eq, reduceIte, wI_sN, wL_sM, sN_same, sN_K, sN_2, sM_1, sM_same, sM_K, sM_s, uI_at, uN_at, enc_at, uI_enc, uI_uI, upM_s, upM_n]
  refine V_callV hB hno (c_keep hc (hH1.sh hm2 shN0_8) (hSp.same hm2 (fun K j hK z => by have := (shN0_8 _ z).2 hK; simp only at this; omega))) rfl (by decide +kernel) cvX10_73 (dom1 rfl) npX5_keepPrepared ⟨by decide, by decide⟩ (Nat.le_of_ble_eq_true rfl) (by decide) ?_ ?_
  rotate_left
  · intro E τ' hq; cases hq.1
  intro v t3 hq
  obtain ⟨e, hH3, hm3⟩ := hq
  cases e
  show V x t3 2 30 _ []
  refine V_run hB (rt := some .int) (nL := 5) (mc := 2) rfl rfl rfl obX10_bid_30 ?_
  dsimp only [bX10_bid_30, ↓wpb, ↓wp1, ↓vI, ↓vL, ↓vD, ↓ldI, ↓ldL, ↓ldD, ↓ldR, ↓k1, ↓k2, ↓kI, ↓kL, ↓kD, ↓kII, ↓kLL, ↓kDD, ↓kR, ↓kIR, ↓kLR, ↓kIIR, ↓kLIR, ↓kDIR, ↓kRIR, ↓kNN, ↓kE, ↓br, ↓bn, ↓rtI, ↓gfv, ↓zchk, lput, ldel, lbad, alA, acat, isRf, dom, dS, dJ, isO, aTy, aLen, elAV, elR, Nat.reduceBEq, Nat.reduceAdd, Bool.or, Bool.and, Nat.add_zero, Nat.zero_add]
  try simp only [Nat.reduceLT, Nat.reduceLeDiff, Nat.reduceEqDiff, true_and, and_true, and_self, Nat.zero_le, Nat.le_refl, true_or, or_true, Bool.false_eq_true, not_false_eq_true, Nat.reduceAdd, Nat.lt_add_one, Nat.zero_lt_one, nI_add, pk_mul, ixL, vpL, ne_eq, reduceIte, wI_sN, wL_sM, sN_same, sN_K, sN_2, sM_1, sM_same, sM_K, sM_s, uI_at, uN_at, enc_at, uI_enc, uI_uI, upM_s, upM_n]
  exact op_yes h hm1 (QN_sh (by decide)) hr hR2 hm2 hH3 hm3
theorem s0_sSel (a : Nat → Nat) (t : Int32) : (sSel a (findO a t true)).1 ≠ 0 → (sSel a (findO a t true)).2.2 = a := by
  unfold sSel
  repeat' split
  all_goals first | exact fun _ => rfl | exact fun h => absurd rfl h
theorem x_sell (hc : Ctx l G) (h : CW τ σ) (hV : IV n σ.1) (hn : n ≤ 1000) (t : Int32) : Sat l G iX10_sell [moM, aI t] τ (XOp [NSE, ISE] τ (opS σ (sSel σ.1 (findO σ.1 t true)))) := by
  obtain ⟨π, hS⟩ := h.1
  obtain ⟨p, hH⟩ := h.2.1
  have hf := s0_sSel σ.1 t
  refine Sat_of hc.1 hc.2 (by decide +kernel) (Nat.le_of_ble_eq_true rfl) (fun x hB hno => ?_)
  refine V_run hB (rt := some .int) (nL := 3) (mc := 2) rfl rfl rfl obX10_sell_0 ?_
  dsimp only [bX10_sell_0, ↓wpb, ↓wp1, ↓vI, ↓vL, ↓vD, ↓ldI, ↓ldL, ↓ldD, ↓ldR, ↓k1, ↓k2, ↓kI, ↓kL, ↓kD, ↓kII, ↓kLL, ↓kDD, ↓kR, ↓kIR, ↓kLR, ↓kIIR, ↓kLIR, ↓kDIR, ↓kRIR, ↓kNN, ↓kE, ↓br, ↓bn, ↓rtI, ↓gfv, ↓zchk, lput, ldel, lbad, alA, acat, isRf, dom, dS, dJ, isO, aTy, aLen, elAV, elR, Nat.reduceBEq, Nat.reduceAdd, Bool.or, Bool.and, Nat.add_zero, Nat.zero_add]
  try simp only [Nat.reduceLT, Nat.reduceLeDiff, Nat.reduceEqDiff, true_and, and_true, and_self, Nat.zero_le, Nat.le_refl, true_or, or_true, Bool.false_eq_true, not_false_eq_true, Nat.reduceAdd, Nat.lt_add_one, Nat.zero_lt_one, nI_add, pk_mul, ixL, vpL, ne_eq, reduceIte, wI_sN, wL_sM, sN_same, sN_K, sN_2, sM_1, sM_same, sM_K, sM_s, uI_at, uN_at, enc_at, uI_enc, uI_uI, upM_s, upM_n]
  refine V_callV hB hno (c_prepare hc hS hH hV.1.1 hV.one) rfl (by decide +kernel) cvX10_65 (dom1 rfl) npX5_prepare ⟨by decide, by decide⟩ (Nat.le_of_ble_eq_true rfl) (by decide) ?_ ?_
  rotate_left
  · intro E τ' hq; cases hq.1
  intro v t1 hq
  obtain ⟨e, hSp, hS1, hH1, hm1⟩ := hq
  cases e
  show V x t1 0 11 _ []
  refine V_run hB (rt := some .int) (nL := 3) (mc := 2) rfl rfl rfl obX10_sell_11 ?_
  dsimp only [bX10_sell_11, ↓wpb, ↓wp1, ↓vI, ↓vL, ↓vD, ↓ldI, ↓ldL, ↓ldD, ↓ldR, ↓k1, ↓k2, ↓kI, ↓kL, ↓kD, ↓kII, ↓kLL, ↓kDD, ↓kR, ↓kIR, ↓kLR, ↓kIIR, ↓kLIR, ↓kDIR, ↓kRIR, ↓kNN, ↓kE, ↓br, ↓bn, ↓rtI, ↓gfv, ↓zchk, lput, ldel, lbad, alA, acat, isRf, dom, dS, dJ, isO, aTy, aLen, elAV, elR, Nat.reduceBEq, Nat.reduceAdd, Bool.or, Bool.and, Nat.add_zero, Nat.zero_add]
  try simp only [Nat.reduceLT, Nat.reduceLeDiff, Nat.reduceEqDiff, true_and, and_true, and_self, Nat.zero_le, Nat.le_refl, true_or, or_true, Bool.false_eq_true, not_false_eq_true, Nat.reduceAdd, Nat.lt_add_one, Nat.zero_lt_one, nI_add, pk_mul, ixL, vpL, ne_eq, reduceIte, wI_sN, wL_sM, sN_same, sN_K, sN_2, sM_1, sM_same, sM_K, sM_s, uI_at, uN_at, enc_at, uI_enc, uI_uI, upM_s, upM_n]
  refine V_callV hB hno (c_sell hc hS1 hV hn t) rfl (by decide +kernel) cvX10_213 (dom1 rfl) npX9_sellLot ⟨by decide, by decide⟩ (Nat.le_of_ble_eq_true rfl) (by decide) ?_ ?_
  rotate_left
  · intro E τ' hq
    exact op_no h hH1 hm1 (QN_sh (by decide)) shN0_8 hf hq
  intro v t2 hq
  obtain ⟨e, hR2, hm2⟩ := hq
  by_cases hr : (sSel σ.1 (findO σ.1 t true)).1 = 0
  rotate_left
  · rw [if_neg hr] at e; cases e
  rw [if_pos hr] at e
  cases e
  show V x t2 2 19 _ [aI (nI (sSel σ.1 (findO σ.1 t true)).2.1)]
  generalize sSel σ.1 (findO σ.1 t true) = R at *
  refine V_run hB (rt := some .int) (nL := 3) (mc := 2) rfl rfl rfl obX10_sell_19 ?_
  dsimp only [bX10_sell_19, ↓wpb, ↓wp1, ↓vI, ↓vL, ↓vD, ↓ldI, ↓ldL, ↓ldD, ↓ldR, ↓k1, ↓k2, ↓kI, ↓kL, ↓kD, ↓kII, ↓kLL, ↓kDD, ↓kR, ↓kIR, ↓kLR, ↓kIIR, ↓kLIR, ↓kDIR, ↓kRIR, ↓kNN, ↓kE, ↓br, ↓bn, ↓rtI, ↓gfv, ↓zchk, lput, ldel, lbad, alA, acat, isRf, dom, dS, dJ, isO, aTy, aLen, elAV, elR, Nat.reduceBEq, Nat.reduceAdd, Bool.or, Bool.and, Nat.add_zero, Nat.zero_add]
  try simp only [Nat.reduceLT, Nat.reduceLeDiff, Nat.reduceEqDiff, true_and, and_true, and_self, Nat.zero_le, Nat.le_refl, true_or, or_true, Bool.false_eq_true, not_false_eq_true, Nat.reduceAdd, Nat.lt_add_one, Nat.zero_lt_one, nI_add, pk_mul, ixL, vpL, ne_eq, reduceIte, wI_sN, wL_sM, sN_same, sN_K, sN_2, sM_1, sM_same, sM_K, sM_s, uI_at, uN_at, enc_at, uI_enc, uI_uI, upM_s, upM_n]
  refine V_callV hB hno (c_keep hc (hH1.sh hm2 shN0_8) (hSp.same hm2 (fun K j hK z => by have := (shN0_8 _ z).2 hK; simp only at this; omega))) rfl (by decide +kernel) cvX10_73 (dom1 rfl) npX5_keepPrepared ⟨by decide, by decide⟩ (Nat.le_of_ble_eq_true rfl) (by decide) ?_ ?_
  rotate_left
  · intro E τ' hq; cases hq.1
  intro v t3 hq
  obtain ⟨e, hH3, hm3⟩ := hq
  cases e
  show V x t3 2 27 _ []
  refine V_run hB (rt := some .int) (nL := 3) (mc := 2) rfl rfl rfl obX10_sell_27 ?_
  dsimp only [bX10_sell_27, ↓wpb, ↓wp1, ↓vI, ↓vL, ↓vD, ↓ldI, ↓ldL, ↓ldD, ↓ldR, ↓k1, ↓k2, ↓kI, ↓kL, ↓kD, ↓kII, ↓kLL, ↓kDD, ↓kR, ↓kIR, ↓kLR, ↓kIIR, ↓kLIR, ↓kDIR, ↓kRIR, ↓kNN, ↓kE, ↓br, ↓bn, ↓rtI, ↓gfv, ↓zchk, lput, ldel, lbad, alA, acat, isRf, dom, dS, dJ, isO, aTy, aLen, elAV, elR, Nat.reduceBEq, Nat.reduceAdd, Bool.or, Bool.and, Nat.add_zero, Nat.zero_add]
  try simp only [Nat.reduceLT, Nat.reduceLeDiff, Nat.reduceEqDiff, true_and, and_true, and_self, Nat.zero_le, Nat.le_refl, true_or, or_true, Bool.false_eq_true, not_false_eq_true, Nat.reduceAdd, Nat.lt_add_one, Nat.zero_lt_one, nI_add, pk_mul, ixL, vpL, ne_eq, reduceIte, wI_sN, wL_sM, sN_same, sN_K, sN_2, sM_1, sM_same, sM_K, sM_s, uI_at, uN_at, enc_at, uI_enc, uI_uI, upM_s, upM_n]
  exact op_yes h hm1 (QN_sh (by decide)) hr hR2 hm2 hH3 hm3
theorem s0_sEve (a : Nat → Nat) : (sEve a).1 ≠ 0 → (sEve a).2.2 = a := by
  unfold sEve
  repeat' split
  all_goals first | exact fun _ => rfl | exact fun h => absurd rfl h
theorem x_sellEvening (hc : Ctx l G) (h : CW τ σ) (hV : IV n σ.1) (hn : n ≤ 1000) : Sat l G iX10_sellEvening [moM] τ (XOp [ISE] τ (opS σ (sEve σ.1))) := by
  obtain ⟨π, hS⟩ := h.1
  obtain ⟨p, hH⟩ := h.2.1
  have hf := s0_sEve σ.1
  refine Sat_of hc.1 hc.2 (by decide +kernel) (Nat.le_of_ble_eq_true rfl) (fun x hB hno => ?_)
  refine V_run hB (rt := some .int) (nL := 2) (mc := 1) rfl rfl rfl obX10_sellEvening_0 ?_
  dsimp only [bX10_sellEvening_0, ↓wpb, ↓wp1, ↓vI, ↓vL, ↓vD, ↓ldI, ↓ldL, ↓ldD, ↓ldR, ↓k1, ↓k2, ↓kI, ↓kL, ↓kD, ↓kII, ↓kLL, ↓kDD, ↓kR, ↓kIR, ↓kLR, ↓kIIR, ↓kLIR, ↓kDIR, ↓kRIR, ↓kNN, ↓kE, ↓br, ↓bn, ↓rtI, ↓gfv, ↓zchk, lput, ldel, lbad, alA, acat, isRf, dom, dS, dJ, isO, aTy, aLen, elAV, elR, Nat.reduceBEq, Nat.reduceAdd, Bool.or, Bool.and, Nat.add_zero, Nat.zero_add]
  try simp only [Nat.reduceLT, Nat.reduceLeDiff, Nat.reduceEqDiff, true_and, and_true, and_self, Nat.zero_le, Nat.le_refl, true_or, or_true, Bool.false_eq_true, not_false_eq_true, Nat.reduceAdd, Nat.lt_add_one, Nat.zero_lt_one, nI_add, pk_mul, ixL, vpL, ne_eq, reduceIte, wI_sN, wL_sM, sN_same, sN_K, sN_2, sM_1, sM_same, sM_K, sM_s, uI_at, uN_at, enc_at, uI_enc, uI_uI, upM_s, upM_n]
  refine V_callV hB hno (c_prepare hc hS hH hV.1.1 hV.one) rfl (by decide +kernel) cvX10_65 (dom1 rfl) npX5_prepare ⟨by decide, by decide⟩ (Nat.le_of_ble_eq_true rfl) (by decide) ?_ ?_
  rotate_left
  · intro E τ' hq; cases hq.1
  intro v t1 hq
  obtain ⟨e, hSp, hS1, hH1, hm1⟩ := hq
  cases e
  show V x t1 0 11 _ []
  refine V_run hB (rt := some .int) (nL := 2) (mc := 1) rfl rfl rfl obX10_sellEvening_11 ?_
  dsimp only [bX10_sellEvening_11, ↓wpb, ↓wp1, ↓vI, ↓vL, ↓vD, ↓ldI, ↓ldL, ↓ldD, ↓ldR, ↓k1, ↓k2, ↓kI, ↓kL, ↓kD, ↓kII, ↓kLL, ↓kDD, ↓kR, ↓kIR, ↓kLR, ↓kIIR, ↓kLIR, ↓kDIR, ↓kRIR, ↓kNN, ↓kE, ↓br, ↓bn, ↓rtI, ↓gfv, ↓zchk, lput, ldel, lbad, alA, acat, isRf, dom, dS, dJ, isO, aTy, aLen, elAV, elR, Nat.reduceBEq, Nat.reduceAdd, Bool.or, Bool.and, Nat.add_zero, Nat.zero_add]
  try simp only [Nat.reduceLT, Nat.reduceLeDiff, Nat.reduceEqDiff, true_and, and_true, and_self, Nat.zero_le, Nat.le_refl, true_or, or_true, Bool.false_eq_true, not_false_eq_true, Nat.reduceAdd, Nat.lt_add_one, Nat.zero_lt_one, nI_add, pk_mul, ixL, vpL, ne_eq, reduceIte, wI_sN, wL_sM, sN_same, sN_K, sN_2, sM_1, sM_same, sM_K, sM_s, uI_at, uN_at, enc_at, uI_enc, uI_uI, upM_s, upM_n]
  refine V_callV hB hno (c_sellEve hc hS1 hV hn) rfl (by decide +kernel) cvX10_216 (dom1 rfl) npX9_sellLotsOf ⟨by decide, by decide⟩ (Nat.le_of_ble_eq_true rfl) (by decide) ?_ ?_
  rotate_left
  · intro E τ' hq
    exact op_no h hH1 hm1 QN_se seN_8 hf hq
  intro v t2 hq
  obtain ⟨e, hR2, hm2⟩ := hq
  by_cases hr : (sEve σ.1).1 = 0
  rotate_left
  · rw [if_neg hr] at e; cases e
  rw [if_pos hr] at e
  cases e
  show V x t2 1 22 _ [aI (nI (sEve σ.1).2.1)]
  generalize sEve σ.1 = R at *
  refine V_run hB (rt := some .int) (nL := 2) (mc := 1) rfl rfl rfl obX10_sellEvening_22 ?_
  dsimp only [bX10_sellEvening_22, ↓wpb, ↓wp1, ↓vI, ↓vL, ↓vD, ↓ldI, ↓ldL, ↓ldD, ↓ldR, ↓k1, ↓k2, ↓kI, ↓kL, ↓kD, ↓kII, ↓kLL, ↓kDD, ↓kR, ↓kIR, ↓kLR, ↓kIIR, ↓kLIR, ↓kDIR, ↓kRIR, ↓kNN, ↓kE, ↓br, ↓bn, ↓rtI, ↓gfv, ↓zchk, lput, ldel, lbad, alA, acat, isRf, dom, dS, dJ, isO, aTy, aLen, elAV, elR, Nat.reduceBEq, Nat.reduceAdd, Bool.or, Bool.and, Nat.add_zero, Nat.zero_add]
  try simp only [Nat.reduceLT, Nat.reduceLeDiff, Nat.reduceEqDiff, true_and, and_true, and_self, Nat.zero_le, Nat.le_refl, true_or, or_true, Bool.false_eq_true, not_false_eq_true, Nat.reduceAdd, Nat.lt_add_one, Nat.zero_lt_one, nI_add, pk_mul, ixL, vpL, ne_eq, reduceIte, wI_sN, wL_sM, sN_same, sN_K, sN_2, sM_1, sM_same, sM_K, sM_s, uI_at, uN_at, enc_at, uI_enc, uI_uI, upM_s, upM_n]
  refine V_callV hB hno (c_keep hc (hH1.sh hm2 seN_8) (hSp.same hm2 (fun K j hK z => by have := (seN_8 _ z).2 hK; simp only at this; omega))) rfl (by decide +kernel) cvX10_73 (dom1 rfl) npX5_keepPrepared ⟨by decide, by decide⟩ (Nat.le_of_ble_eq_true rfl) (by decide) ?_ ?_
  rotate_left
  · intro E τ' hq; cases hq.1
  intro v t3 hq
  obtain ⟨e, hH3, hm3⟩ := hq
  cases e
  show V x t3 1 30 _ []
  refine V_run hB (rt := some .int) (nL := 2) (mc := 1) rfl rfl rfl obX10_sellEvening_30 ?_
  dsimp only [bX10_sellEvening_30, ↓wpb, ↓wp1, ↓vI, ↓vL, ↓vD, ↓ldI, ↓ldL, ↓ldD, ↓ldR, ↓k1, ↓k2, ↓kI, ↓kL, ↓kD, ↓kII, ↓kLL, ↓kDD, ↓kR, ↓kIR, ↓kLR, ↓kIIR, ↓kLIR, ↓kDIR, ↓kRIR, ↓kNN, ↓kE, ↓br, ↓bn, ↓rtI, ↓gfv, ↓zchk, lput, ldel, lbad, alA, acat, isRf, dom, dS, dJ, isO, aTy, aLen, elAV, elR, Nat.reduceBEq, Nat.reduceAdd, Bool.or, Bool.and, Nat.add_zero, Nat.zero_add]
  try simp only [Nat.reduceLT, Nat.reduceLeDiff, Nat.reduceEqDiff, true_and, and_true, and_self, Nat.zero_le, Nat.le_refl, true_or, or_true, Bool.false_eq_true, not_false_eq_true, Nat.reduceAdd, Nat.lt_add_one, Nat.zero_lt_one, nI_add, pk_mul, ixL, vpL, ne_eq, reduceIte, wI_sN, wL_sM, sN_same, sN_K, sN_2, sM_1, sM_same, sM_K, sM_s, uI_at, uN_at, enc_at, uI_enc, uI_uI, upM_s, upM_n]
  exact op_yes h hm1 QN_se hr hR2 hm2 hH3 hm3
theorem x_undo (hc : Ctx l G) (h : CW τ σ) (hV : ∀ b ∈ σ.2.1, b 4 ≤ 10 ∧ ∀ i, i < 10 → it b i 1 ≤ 1) : Sat l G iX10_undo [moM] τ (XOp [ISE] τ (sUnd σ)) := by
  obtain ⟨a, ps, ρ⟩ := σ
  obtain ⟨⟨π, hS⟩, ⟨p, hH⟩, hR⟩ := h
  have hH : HiP τ ps p := hH
  have h8 := hH.1.2.2.1
  have hl8 := hH.1.2.2.2
  cases ps with
  | nil =>
    have e : sUnd (a, [], ρ) = (1, 0, (a, [], ρ)) := rfl
    rw [e]
    refine Sat_of hc.1 hc.2 (by decide +kernel) (Nat.le_of_ble_eq_true rfl) (fun x hB hno => ?_)
    refine V_run hB (rt := some .int) (nL := 1) (mc := 1) rfl rfl rfl obX10_undo_0 ?_
    dsimp only [bX10_undo_0, ↓wpb, ↓wp1, ↓vI, ↓vL, ↓vD, ↓ldI, ↓ldL, ↓ldD, ↓ldR, ↓k1, ↓k2, ↓kI, ↓kL, ↓kD, ↓kII, ↓kLL, ↓kDD, ↓kR, ↓kIR, ↓kLR, ↓kIIR, ↓kLIR, ↓kDIR, ↓kRIR, ↓kNN, ↓kE, ↓br, ↓bn, ↓rtI, ↓gfv, ↓zchk, lput, ldel, lbad, alA, acat, isRf, dom, dS, dJ, isO, aTy, aLen, elAV, elR, Nat.reduceBEq, Nat.reduceAdd, Bool.or, Bool.and, Nat.add_zero, Nat.zero_add]
    try simp only [Nat.reduceLT, Nat.reduceLeDiff, Nat.reduceEqDiff, true_and, and_true, and_self, Nat.zero_le, Nat.le_refl, true_or, or_true, Bool.false_eq_true, not_false_eq_true, Nat.reduceAdd, Nat.lt_add_one, Nat.zero_lt_one, nI_add, pk_mul, ixL, vpL, ne_eq, reduceIte, wI_sN, wL_sM, sN_same, sN_K, sN_2, sM_1, sM_same, sM_K, sM_s, uI_at, uN_at, enc_at, uI_enc, uI_uI, upM_s, upM_n, h8]
    refine ⟨fun q => absurd rfl q, fun _ => ?_⟩
    refine V_throwW hB hno thX10_388_329 ⟨by decide +kernel, by decide +kernel, by decide +kernel, by decide +kernel, by decide +kernel⟩ (by decide) (Nat.le_of_ble_eq_true rfl) ?_
    exact ⟨rfl, ⟨⟨π, hS⟩, ⟨p, hH⟩, hR⟩, fun _ _ => rfl⟩
  | cons b ps =>
    have e : sUnd (a, b :: ps, ρ) = (0, ps.length, (b, ps, ρ)) := rfl
    rw [e]
    have hb := hV b (List.mem_cons_self)
    rw [List.length_cons] at h8 hl8
    refine Sat_of hc.1 hc.2 (by decide +kernel) (Nat.le_of_ble_eq_true rfl) (fun x hB hno => ?_)
    refine V_run hB (rt := some .int) (nL := 1) (mc := 1) rfl rfl rfl obX10_undo_0 ?_
    dsimp only [bX10_undo_0, ↓wpb, ↓wp1, ↓vI, ↓vL, ↓vD, ↓ldI, ↓ldL, ↓ldD, ↓ldR, ↓k1, ↓k2, ↓kI, ↓kL, ↓kD, ↓kII, ↓kLL, ↓kDD, ↓kR, ↓kIR, ↓kLR, ↓kIIR, ↓kLIR, ↓kDIR, ↓kRIR, ↓kNN, ↓kE, ↓br, ↓bn, ↓rtI, ↓gfv, ↓zchk, lput, ldel, lbad, alA, acat, isRf, dom, dS, dJ, isO, aTy, aLen, elAV, elR, Nat.reduceBEq, Nat.reduceAdd, Bool.or, Bool.and, Nat.add_zero, Nat.zero_add]
    try simp only [Nat.reduceLT, Nat.reduceLeDiff, Nat.reduceEqDiff, true_and, and_true, and_self, Nat.zero_le, Nat.le_refl, true_or, or_true, Bool.false_eq_true, not_false_eq_true, Nat.reduceAdd, Nat.lt_add_one, Nat.zero_lt_one, nI_add, pk_mul, ixL, vpL, ne_eq, reduceIte, wI_sN, wL_sM, sN_same, sN_K, sN_2, sM_1, sM_same, sM_K, sM_s, uI_at, uN_at, enc_at, uI_enc, uI_uI, upM_s, upM_n, h8]
    refine ⟨fun _ => ?_, fun q => absurd ((nI_eq (by omega) (by omega)).mp (show nI _ = nI 0 from q)) (by omega)⟩
    refine V_run hB (rt := some .int) (nL := 1) (mc := 1) rfl rfl rfl obX10_undo_21 ?_
    dsimp only [bX10_undo_21, ↓wpb, ↓wp1, ↓vI, ↓vL, ↓vD, ↓ldI, ↓ldL, ↓ldD, ↓ldR, ↓k1, ↓k2, ↓kI, ↓kL, ↓kD, ↓kII, ↓kLL, ↓kDD, ↓kR, ↓kIR, ↓kLR, ↓kIIR, ↓kLIR, ↓kDIR, ↓kRIR, ↓kNN, ↓kE, ↓br, ↓bn, ↓rtI, ↓gfv, ↓zchk, lput, ldel, lbad, alA, acat, isRf, dom, dS, dJ, isO, aTy, aLen, elAV, elR, Nat.reduceBEq, Nat.reduceAdd, Bool.or, Bool.and, Nat.add_zero, Nat.zero_add]
    try simp only [Nat.reduceLT, Nat.reduceLeDiff, Nat.reduceEqDiff, true_and, and_true, and_self, Nat.zero_le, Nat.le_refl, true_or, or_true, Bool.false_eq_true, not_false_eq_true, Nat.reduceAdd, Nat.lt_add_one, Nat.zero_lt_one, nI_add, pk_mul, ixL, vpL, ne_eq, reduceIte, wI_sN, wL_sM, sN_same, sN_K, sN_2, sM_1, sM_same, sM_K, sM_s, uI_at, uN_at, enc_at, uI_enc, uI_uI, upM_s, upM_n]
    refine V_callV hB hno (c_back hc ⟨π, hS.pm⟩ hH hb.1 hb.2) rfl (by decide +kernel) cvX10_390 (dom1 rfl) npX5_stepBack ⟨by decide, by decide⟩ (Nat.le_of_ble_eq_true rfl) (by decide) ?_ ?_
    rotate_left
    · intro E τ' hq; cases hq.1
    intro v t1 hq
    obtain ⟨e1, hS1, ⟨p1, hH1⟩, hm1⟩ := hq
    cases e1
    show V x t1 0 32 _ []
    refine V_run hB (rt := some .int) (nL := 1) (mc := 1) rfl rfl rfl obX10_undo_32 ?_
    dsimp only [bX10_undo_32, ↓wpb, ↓wp1, ↓vI, ↓vL, ↓vD, ↓ldI, ↓ldL, ↓ldD, ↓ldR, ↓k1, ↓k2, ↓kI, ↓kL, ↓kD, ↓kII, ↓kLL, ↓kDD, ↓kR, ↓kIR, ↓kLR, ↓kIIR, ↓kLIR, ↓kDIR, ↓kRIR, ↓kNN, ↓kE, ↓br, ↓bn, ↓rtI, ↓gfv, ↓zchk, lput, ldel, lbad, alA, acat, isRf, dom, dS, dJ, isO, aTy, aLen, elAV, elR, Nat.reduceBEq, Nat.reduceAdd, Bool.or, Bool.and, Nat.add_zero, Nat.zero_add]
    try simp only [Nat.reduceLT, Nat.reduceLeDiff, Nat.reduceEqDiff, true_and, and_true, and_self, Nat.zero_le, Nat.le_refl, true_or, or_true, Bool.false_eq_true, not_false_eq_true, Nat.reduceAdd, Nat.lt_add_one, Nat.zero_lt_one, nI_add, pk_mul, ixL, vpL, ne_eq, reduceIte, wI_sN, wL_sM, sN_same, sN_K, sN_2, sM_1, sM_same, sM_K, sM_s, uI_at, uN_at, enc_at, uI_enc, uI_uI, upM_s, upM_n, hH1.1.2.2.1]
    have hQ := QN_or (QN_sh (s := 0) (by decide)) QN_hi
    exact ⟨rfl, ⟨hS1, ⟨p1, hH1⟩, hR.same hm1 hQ⟩, OthC.of hm1 hQ⟩
theorem RW.sn {τ τ' : Mem} {ρ : Option (Nat → Nat) × (Option Nat × Option Nat) × List Nat × List Nat} {o : Option (Nat → Nat)} (h : RW τ ρ) (hs : SnR τ' o) (h8 : τ'.1 (1, 0, 0) 8 = τ.1 (1, 0, 0) 8) (h9 : τ'.1 (1, 0, 0) 9 = τ.1 (1, 0, 0) 9) (ht : τ'.1 (9, 0, 0) = τ.1 (9, 0, 0)) (hx : τ'.1 (26, 0, 0) = τ.1 (26, 0, 0)) (h2 : τ'.2.2 = τ.2.2) : RW τ' (o, ρ.2) := by
  obtain ⟨h1, ⟨f8, f9⟩, h3, h4⟩ := h
  refine ⟨hs, ⟨h8.trans f8, h9.trans f9⟩, ?_, ?_⟩
  · unfold TxR; rw [ht, hx]; exact h3
  · unfold SlR; rw [h2]; exact h4
theorem x_save (hc : Ctx l G) (h : CW τ σ) (hV : IV n σ.1) : Sat l G iX10_save [moM] τ (XOp [] τ (sSav σ)) := by
  obtain ⟨a, ps, ρ⟩ := σ
  obtain ⟨⟨π, hS⟩, ⟨p, hH⟩, hR⟩ := h
  obtain ⟨π1, h1⟩ := hR.1.1
  refine Sat_of hc.1 hc.2 (by decide +kernel) (Nat.le_of_ble_eq_true rfl) (fun x hB hno => ?_)
  refine V_run hB (rt := some .int) (nL := 1) (mc := 0) rfl rfl rfl obX10_save_0 ?_
  dsimp only [bX10_save_0, ↓wpb, ↓wp1, ↓vI, ↓vL, ↓vD, ↓ldI, ↓ldL, ↓ldD, ↓ldR, ↓k1, ↓k2, ↓kI, ↓kL, ↓kD, ↓kII, ↓kLL, ↓kDD, ↓kR, ↓kIR, ↓kLR, ↓kIIR, ↓kLIR, ↓kDIR, ↓kRIR, ↓kNN, ↓kE, ↓br, ↓bn, ↓rtI, ↓gfv, ↓zchk, lput, ldel, lbad, alA, acat, isRf, dom, dS, dJ, isO, aTy, aLen, elAV, elR, Nat.reduceBEq, Nat.reduceAdd, Bool.or, Bool.and, Nat.add_zero, Nat.zero_add]
  try simp only [Nat.reduceLT, Nat.reduceLeDiff, Nat.reduceEqDiff, true_and, and_true, and_self, Nat.zero_le, Nat.le_refl, true_or, or_true, Bool.false_eq_true, not_false_eq_true, Nat.reduceAdd, Nat.lt_add_one, Nat.zero_lt_one, nI_add, pk_mul, ixL, vpL, ne_eq, reduceIte, wI_sN, wL_sM, sN_same, sN_K, sN_2, sM_1, sM_same, sM_K, sM_s, uI_at, uN_at, enc_at, uI_enc, uI_uI, upM_s, upM_n]
  refine V_callV hB hno (c_shCopy hc (s := 1) (s' := 0) (by decide) (by decide) (by decide) hS h1 hV.1.1 hV.one) rfl (by decide +kernel) cvX10_393 ⟨(by decide : (1 : Nat) < 11), (by decide : (0 : Nat) < 1)⟩ npX9_copyFrom ⟨by decide, by decide⟩ (Nat.le_of_ble_eq_true rfl) (by decide) ?_ ?_
  rotate_left
  · intro E τ' hq; cases hq.1
  intro v t1 hq
  obtain ⟨e1, hS1, hm1⟩ := hq
  cases e1
  show V x t1 0 11 _ []
  have no0 : ∀ K s j, s ≠ 1 → ¬ shN 1 (K, s, j) := fun K s j hs z => hs z.2
  have nK : ∀ K j, K ≠ 2 → K ≠ 3 → K ≠ 4 → K ≠ 5 → K ≠ 10 → K ≠ 11 → K ≠ 12 → t1.1 (K, 0, j) = τ.1 (K, 0, j) := fun K j _ _ _ _ _ _ _ => (hm1.2 (K, 0, j) (no0 K 0 j (by decide))).1
  have hS0 := hS.same hm1 (fun K j _ => no0 K 0 j (by decide))
  have gd := hS0.2.1.1
  refine V_run hB (rt := some .int) (nL := 1) (mc := 0) rfl rfl rfl obX10_save_11 ?_
  dsimp only [bX10_save_11, ↓wpb, ↓wp1, ↓vI, ↓vL, ↓vD, ↓ldI, ↓ldL, ↓ldD, ↓ldR, ↓k1, ↓k2, ↓kI, ↓kL, ↓kD, ↓kII, ↓kLL, ↓kDD, ↓kR, ↓kIR, ↓kLR, ↓kIIR, ↓kLIR, ↓kDIR, ↓kRIR, ↓kNN, ↓kE, ↓br, ↓bn, ↓rtI, ↓gfv, ↓zchk, lput, ldel, lbad, alA, acat, isRf, dom, dS, dJ, isO, aTy, aLen, elAV, elR, Nat.reduceBEq, Nat.reduceAdd, Bool.or, Bool.and, Nat.add_zero, Nat.zero_add]
  try simp only [Nat.reduceLT, Nat.reduceLeDiff, Nat.reduceEqDiff, true_and, and_true, and_self, Nat.zero_le, Nat.le_refl, true_or, or_true, Bool.false_eq_true, not_false_eq_true, Nat.reduceAdd, Nat.lt_add_one, Nat.zero_lt_one, nI_add, pk_mul, ixL, vpL, ne_eq, reduceIte, wI_sN, wL_sM, sN_same, sN_K, sN_2, sM_1, sM_same, sM_K, sM_s, uI_at, uN_at, enc_at, uI_enc, uI_uI, upM_s, upM_n, gd]
  refine ⟨by decide, ?_⟩
  have hm2 : Same (fun nm => nm = (1, 0, 0)) t1 (sN t1 (1, 0, 0) (uI (t1.1 (1, 0, 0)) 2 (nI 1))) := (Same.refl _ _).sN _ rfl
  have n1 : ∀ K s j, (K = 2 ∨ K = 3 ∨ K = 4 ∨ K = 5 ∨ K = 10 ∨ K = 11 ∨ K = 12) → ¬ ((K, s, j) = ((1, 0, 0) : Nm)) := fun K s j hK z => by injection z with z1 z2; omega
  refine ⟨rfl, ⟨⟨π, hS0.same hm2 (fun K j hK => n1 K 0 j hK)⟩, ⟨p, ?_⟩, ?_⟩, fun nm h30 => ?_⟩
  · have hH1 := hH.same hm1 (no0 8 0 0 (by decide)) (fun K s j hs _ _ => no0 K s j (by omega)) (by
      obtain ⟨π2, hT⟩ := hH.2.1 (2 + p) (by omega) (by have := hH.1.1; omega)
      exact ⟨π2, hT.same hm1 (no0 _ _ _ (by omega))⟩)
    exact hH1.same hm2 (fun z => by injection z with z1 z2; cases z1) (fun K s j _ _ hK => n1 K s j hK) (by
      obtain ⟨π2, hT⟩ := hH1.2.1 (2 + p) (by omega) (by have := hH.1.1; omega)
      exact ⟨π2, hT.same hm2 (n1 _ _ _ (by omega))⟩)
  · refine RW.sn hR ⟨⟨π1, (hS1.same hm2 (fun K j hK => n1 K 1 j hK)).pm⟩, ?_, fun s e => ?_⟩ ?_ ?_ ?_ ?_ ?_
    · rw [sN_same]; rfl
    · cases e; exact ⟨π1, hS1.same hm2 (fun K j hK => n1 K 1 j hK)⟩
    · rw [sN_same]; exact congrFun (nK 1 0 (by decide) (by decide) (by decide) (by decide) (by decide) (by decide) (by decide)) 8
    · rw [sN_same]; exact congrFun (nK 1 0 (by decide) (by decide) (by decide) (by decide) (by decide) (by decide) (by decide)) 9
    · rw [sN_K (by decide)]; exact nK 9 0 (by decide) (by decide) (by decide) (by decide) (by decide) (by decide) (by decide)
    · rw [sN_K (by decide)]; exact nK 26 0 (by decide) (by decide) (by decide) (by decide) (by decide) (by decide) (by decide)
    · exact hm1.1
  · rw [(hm2.2 nm (fun z => by subst z; simp only at h30; omega)).1]
    exact (hm1.2 nm (fun z => by have := z.1; omega)).1
theorem x_restore (hc : Ctx l G) (h : CW τ σ) (hV : ∀ s, σ.2.2.1 = some s → s 4 ≤ 10 ∧ ∀ i, i < 10 → it s i 1 ≤ 1) : Sat l G iX10_restore [moM] τ (XOp [ISE] τ (sRes σ)) := by
  obtain ⟨a, ps, o, ρ⟩ := σ
  obtain ⟨⟨π, hS⟩, ⟨p, hH⟩, hR⟩ := h
  have hb := hR.1.2.1
  cases o with
  | none =>
    have e : sRes (a, ps, none, ρ) = (1, 0, (a, ps, none, ρ)) := rfl
    rw [e]
    have hb : τ.1 (1, 0, 0) 2 = nI 0 := hb
    refine Sat_of hc.1 hc.2 (by decide +kernel) (Nat.le_of_ble_eq_true rfl) (fun x hB hno => ?_)
    refine V_run hB (rt := some .int) (nL := 1) (mc := 1) rfl rfl rfl obX10_restore_0 ?_
    dsimp only [bX10_restore_0, ↓wpb, ↓wp1, ↓vI, ↓vL, ↓vD, ↓ldI, ↓ldL, ↓ldD, ↓ldR, ↓k1, ↓k2, ↓kI, ↓kL, ↓kD, ↓kII, ↓kLL, ↓kDD, ↓kR, ↓kIR, ↓kLR, ↓kIIR, ↓kLIR, ↓kDIR, ↓kRIR, ↓kNN, ↓kE, ↓br, ↓bn, ↓rtI, ↓gfv, ↓zchk, lput, ldel, lbad, alA, acat, isRf, dom, dS, dJ, isO, aTy, aLen, elAV, elR, Nat.reduceBEq, Nat.reduceAdd, Bool.or, Bool.and, Nat.add_zero, Nat.zero_add]
    try simp only [Nat.reduceLT, Nat.reduceLeDiff, Nat.reduceEqDiff, true_and, and_true, and_self, Nat.zero_le, Nat.le_refl, true_or, or_true, Bool.false_eq_true, not_false_eq_true, Nat.reduceAdd, Nat.lt_add_one, Nat.zero_lt_one, nI_add, pk_mul, ixL, vpL, ne_eq, reduceIte, wI_sN, wL_sM, sN_same, sN_K, sN_2, sM_1, sM_same, sM_K, sM_s, uI_at, uN_at, enc_at, uI_enc, uI_uI, upM_s, upM_n, hb]
    refine ⟨fun q => absurd rfl q, fun _ => ?_⟩
    refine V_throwW hB hno thX10_396_329 ⟨by decide +kernel, by decide +kernel, by decide +kernel, by decide +kernel, by decide +kernel⟩ (by decide) (Nat.le_of_ble_eq_true rfl) ?_
    exact ⟨rfl, ⟨⟨π, hS⟩, ⟨p, hH⟩, hR⟩, fun _ _ => rfl⟩
  | some s =>
    have e : sRes (a, ps, some s, ρ) = (0, s 0, (s, [], some s, ρ)) := rfl
    rw [e]
    have hb : τ.1 (1, 0, 0) 2 = nI 1 := hb
    obtain ⟨hv4, hv1⟩ := hV s rfl
    obtain ⟨π1, hS1⟩ := hR.1.2.2 s rfl
    refine Sat_of hc.1 hc.2 (by decide +kernel) (Nat.le_of_ble_eq_true rfl) (fun x hB hno => ?_)
    refine V_run hB (rt := some .int) (nL := 1) (mc := 1) rfl rfl rfl obX10_restore_0 ?_
    dsimp only [bX10_restore_0, ↓wpb, ↓wp1, ↓vI, ↓vL, ↓vD, ↓ldI, ↓ldL, ↓ldD, ↓ldR, ↓k1, ↓k2, ↓kI, ↓kL, ↓kD, ↓kII, ↓kLL, ↓kDD, ↓kR, ↓kIR, ↓kLR, ↓kIIR, ↓kLIR, ↓kDIR, ↓kRIR, ↓kNN, ↓kE, ↓br, ↓bn, ↓rtI, ↓gfv, ↓zchk, lput, ldel, lbad, alA, acat, isRf, dom, dS, dJ, isO, aTy, aLen, elAV, elR, Nat.reduceBEq, Nat.reduceAdd, Bool.or, Bool.and, Nat.add_zero, Nat.zero_add]
    try simp only [Nat.reduceLT, Nat.reduceLeDiff, Nat.reduceEqDiff, true_and, and_true, and_self, Nat.zero_le, Nat.le_refl, true_or, or_true, Bool.false_eq_true, not_false_eq_true, Nat.reduceAdd, Nat.lt_add_one, Nat.zero_lt_one, nI_add, pk_mul, ixL, vpL, ne_eq, reduceIte, wI_sN, wL_sM, sN_same, sN_K, sN_2, sM_1, sM_same, sM_K, sM_s, uI_at, uN_at, enc_at, uI_enc, uI_uI, upM_s, upM_n, hb]
    refine ⟨fun _ => ?_, fun q => absurd q (by decide)⟩
    refine V_run hB (rt := some .int) (nL := 1) (mc := 1) rfl rfl rfl obX10_restore_18 ?_
    dsimp only [bX10_restore_18, ↓wpb, ↓wp1, ↓vI, ↓vL, ↓vD, ↓ldI, ↓ldL, ↓ldD, ↓ldR, ↓k1, ↓k2, ↓kI, ↓kL, ↓kD, ↓kII, ↓kLL, ↓kDD, ↓kR, ↓kIR, ↓kLR, ↓kIIR, ↓kLIR, ↓kDIR, ↓kRIR, ↓kNN, ↓kE, ↓br, ↓bn, ↓rtI, ↓gfv, ↓zchk, lput, ldel, lbad, alA, acat, isRf, dom, dS, dJ, isO, aTy, aLen, elAV, elR, Nat.reduceBEq, Nat.reduceAdd, Bool.or, Bool.and, Nat.add_zero, Nat.zero_add]
    try simp only [Nat.reduceLT, Nat.reduceLeDiff, Nat.reduceEqDiff, true_and, and_true, and_self, Nat.zero_le, Nat.le_refl, true_or, or_true, Bool.false_eq_true, not_false_eq_true, Nat.reduceAdd, Nat.lt_add_one, Nat.zero_lt_one, nI_add, pk_mul, ixL, vpL, ne_eq, reduceIte, wI_sN, wL_sM, sN_same, sN_K, sN_2, sM_1, sM_same, sM_K, sM_s, uI_at, uN_at, enc_at, uI_enc, uI_uI, upM_s, upM_n]
    refine V_callV hB hno (c_shCopy hc (s := 0) (s' := 1) (by decide) (by decide) (by decide) hS1 hS.pm hv4 hv1) rfl (by decide +kernel) cvX10_393 (dom1 rfl) npX9_copyFrom ⟨by decide, by decide⟩ (Nat.le_of_ble_eq_true rfl) (by decide) ?_ ?_
    rotate_left
    · intro E τ' hq; cases hq.1
    intro v t1 hq
    obtain ⟨e1, hS2, hm1⟩ := hq
    cases e1
    show V x t1 0 29 _ []
    have hH1 := hH.sh hm1 shN0_8
    refine V_run hB (rt := some .int) (nL := 1) (mc := 1) rfl rfl rfl obX10_restore_29 ?_
    dsimp only [bX10_restore_29, ↓wpb, ↓wp1, ↓vI, ↓vL, ↓vD, ↓ldI, ↓ldL, ↓ldD, ↓ldR, ↓k1, ↓k2, ↓kI, ↓kL, ↓kD, ↓kII, ↓kLL, ↓kDD, ↓kR, ↓kIR, ↓kLR, ↓kIIR, ↓kLIR, ↓kDIR, ↓kRIR, ↓kNN, ↓kE, ↓br, ↓bn, ↓rtI, ↓gfv, ↓zchk, lput, ldel, lbad, alA, acat, isRf, dom, dS, dJ, isO, aTy, aLen, elAV, elR, Nat.reduceBEq, Nat.reduceAdd, Bool.or, Bool.and, Nat.add_zero, Nat.zero_add]
    try simp only [Nat.reduceLT, Nat.reduceLeDiff, Nat.reduceEqDiff, true_and, and_true, and_self, Nat.zero_le, Nat.le_refl, true_or, or_true, Bool.false_eq_true, not_false_eq_true, Nat.reduceAdd, Nat.lt_add_one, Nat.zero_lt_one, nI_add, pk_mul, ixL, vpL, ne_eq, reduceIte, wI_sN, wL_sM, sN_same, sN_K, sN_2, sM_1, sM_same, sM_K, sM_s, uI_at, uN_at, enc_at, uI_enc, uI_uI, upM_s, upM_n]
    refine V_callV hB hno (c_forget hc hH1) rfl (by decide +kernel) cvX10_398 (dom1 rfl) npX5_forget ⟨by decide, by decide⟩ (Nat.le_of_ble_eq_true rfl) (by decide) ?_ ?_
    rotate_left
    · intro E τ' hq; cases hq.1
    intro v t2 hq
    obtain ⟨e1, hH2, hm2⟩ := hq
    cases e1
    show V x t2 0 36 _ []
    have hS3 := hS2.same hm2 (fun K j hK z => by injection z with z1 z2; omega)
    have gd := hS3.2.1.1
    refine V_run hB (rt := some .int) (nL := 1) (mc := 1) rfl rfl rfl obX10_restore_36 ?_
    dsimp only [bX10_restore_36, ↓wpb, ↓wp1, ↓vI, ↓vL, ↓vD, ↓ldI, ↓ldL, ↓ldD, ↓ldR, ↓k1, ↓k2, ↓kI, ↓kL, ↓kD, ↓kII, ↓kLL, ↓kDD, ↓kR, ↓kIR, ↓kLR, ↓kIIR, ↓kLIR, ↓kDIR, ↓kRIR, ↓kNN, ↓kE, ↓br, ↓bn, ↓rtI, ↓gfv, ↓zchk, lput, ldel, lbad, alA, acat, isRf, dom, dS, dJ, isO, aTy, aLen, elAV, elR, Nat.reduceBEq, Nat.reduceAdd, Bool.or, Bool.and, Nat.add_zero, Nat.zero_add]
    try simp only [Nat.reduceLT, Nat.reduceLeDiff, Nat.reduceEqDiff, true_and, and_true, and_self, Nat.zero_le, Nat.le_refl, true_or, or_true, Bool.false_eq_true, not_false_eq_true, Nat.reduceAdd, Nat.lt_add_one, Nat.zero_lt_one, nI_add, pk_mul, ixL, vpL, ne_eq, reduceIte, wI_sN, wL_sM, sN_same, sN_K, sN_2, sM_1, sM_same, sM_K, sM_s, uI_at, uN_at, enc_at, uI_enc, uI_uI, upM_s, upM_n, gd]
    exact ⟨rfl, ⟨⟨π, hS3⟩, hH2, (hR.same hm1 (QN_sh (by decide))).same hm2 QN_hi⟩, (OthC.of hm1 (QN_sh (by decide))).trans (OthC.of hm2 QN_hi)⟩
theorem x_errorPosition (hc : Ctx l G) (h : CW τ σ) (hb : ∀ p, σ.2.2.2.1.1 = some p → p < 1000) : Sat l G iX10_errorPosition [moM] τ (XOp [NSE] τ ((sEp σ.2.2.2.1.1).1, (sEp σ.2.2.2.1.1).2, σ)) := by
  have g := h.2.2.2.1.1
  cases ho : σ.2.2.2.1.1 with
  | none =>
    rw [ho] at g
    have g : τ.1 (1, 0, 0) 8 = -1 := g
    refine Sat_of hc.1 hc.2 (by decide +kernel) (Nat.le_of_ble_eq_true rfl) (fun x hB hno => ?_)
    refine V_run hB (rt := some .int) (nL := 1) (mc := 1) rfl rfl rfl obX10_errorPosition_0 ?_
    dsimp only [bX10_errorPosition_0, ↓wpb, ↓wp1, ↓vI, ↓vL, ↓vD, ↓ldI, ↓ldL, ↓ldD, ↓ldR, ↓k1, ↓k2, ↓kI, ↓kL, ↓kD, ↓kII, ↓kLL, ↓kDD, ↓kR, ↓kIR, ↓kLR, ↓kIIR, ↓kLIR, ↓kDIR, ↓kRIR, ↓kNN, ↓kE, ↓br, ↓bn, ↓rtI, ↓gfv, ↓zchk, lput, ldel, lbad, alA, acat, isRf, dom, dS, dJ, isO, aTy, aLen, elAV, elR, Nat.reduceBEq, Nat.reduceAdd, Bool.or, Bool.and, Nat.add_zero, Nat.zero_add]
    try simp only [Nat.reduceLT, Nat.reduceLeDiff, Nat.reduceEqDiff, true_and, and_true, and_self, Nat.zero_le, Nat.le_refl, true_or, or_true, Bool.false_eq_true, not_false_eq_true, Nat.reduceAdd, Nat.lt_add_one, Nat.zero_lt_one, nI_add, pk_mul, ixL, vpL, ne_eq, reduceIte, wI_sN, wL_sM, sN_same, sN_K, sN_2, sM_1, sM_same, sM_K, sM_s, uI_at, uN_at, enc_at, uI_enc, uI_uI, upM_s, upM_n, g]
    refine ⟨fun q => absurd trivial q, fun _ => ?_⟩
    refine V_throwW hB hno thX10_381_173 ⟨by decide +kernel, by decide +kernel, by decide +kernel, by decide +kernel, by decide +kernel⟩ (by decide) (Nat.le_of_ble_eq_true rfl) ?_
    exact ⟨rfl, h, fun _ _ => rfl⟩
  | some p =>
    rw [ho] at g
    have g : τ.1 (1, 0, 0) 8 = nI p := g
    have hp := hb p ho
    refine Sat_of hc.1 hc.2 (by decide +kernel) (Nat.le_of_ble_eq_true rfl) (fun x hB hno => ?_)
    refine V_run hB (rt := some .int) (nL := 1) (mc := 1) rfl rfl rfl obX10_errorPosition_0 ?_
    dsimp only [bX10_errorPosition_0, ↓wpb, ↓wp1, ↓vI, ↓vL, ↓vD, ↓ldI, ↓ldL, ↓ldD, ↓ldR, ↓k1, ↓k2, ↓kI, ↓kL, ↓kD, ↓kII, ↓kLL, ↓kDD, ↓kR, ↓kIR, ↓kLR, ↓kIIR, ↓kLIR, ↓kDIR, ↓kRIR, ↓kNN, ↓kE, ↓br, ↓bn, ↓rtI, ↓gfv, ↓zchk, lput, ldel, lbad, alA, acat, isRf, dom, dS, dJ, isO, aTy, aLen, elAV, elR, Nat.reduceBEq, Nat.reduceAdd, Bool.or, Bool.and, Nat.add_zero, Nat.zero_add]
    try simp only [Nat.reduceLT, Nat.reduceLeDiff, Nat.reduceEqDiff, true_and, and_true, and_self, Nat.zero_le, Nat.le_refl, true_or, or_true, Bool.false_eq_true, not_false_eq_true, Nat.reduceAdd, Nat.lt_add_one, Nat.zero_lt_one, nI_add, pk_mul, ixL, vpL, ne_eq, reduceIte, wI_sN, wL_sM, sN_same, sN_K, sN_2, sM_1, sM_same, sM_K, sM_s, uI_at, uN_at, enc_at, uI_enc, uI_uI, upM_s, upM_n, g]
    refine ⟨fun _ => ?_, fun q => absurd q (nI_n1 (by omega))⟩
    refine V_run hB (rt := some .int) (nL := 1) (mc := 1) rfl rfl rfl obX10_errorPosition_19 ?_
    dsimp only [bX10_errorPosition_19, ↓wpb, ↓wp1, ↓vI, ↓vL, ↓vD, ↓ldI, ↓ldL, ↓ldD, ↓ldR, ↓k1, ↓k2, ↓kI, ↓kL, ↓kD, ↓kII, ↓kLL, ↓kDD, ↓kR, ↓kIR, ↓kLR, ↓kIIR, ↓kLIR, ↓kDIR, ↓kRIR, ↓kNN, ↓kE, ↓br, ↓bn, ↓rtI, ↓gfv, ↓zchk, lput, ldel, lbad, alA, acat, isRf, dom, dS, dJ, isO, aTy, aLen, elAV, elR, Nat.reduceBEq, Nat.reduceAdd, Bool.or, Bool.and, Nat.add_zero, Nat.zero_add]
    try simp only [Nat.reduceLT, Nat.reduceLeDiff, Nat.reduceEqDiff, true_and, and_true, and_self, Nat.zero_le, Nat.le_refl, true_or, or_true, Bool.false_eq_true, not_false_eq_true, Nat.reduceAdd, Nat.lt_add_one, Nat.zero_lt_one, nI_add, pk_mul, ixL, vpL, ne_eq, reduceIte, wI_sN, wL_sM, sN_same, sN_K, sN_2, sM_1, sM_same, sM_K, sM_s, uI_at, uN_at, enc_at, uI_enc, uI_uI, upM_s, upM_n, g]
    exact ⟨rfl, h, fun _ _ => rfl⟩
theorem x_failedCommand (hc : Ctx l G) (h : CW τ σ) (hb : ∀ p, σ.2.2.2.1.2 = some p → p < 1000) : Sat l G iX10_failedCommand [moM] τ (XOp [NSE] τ ((sEp σ.2.2.2.1.2).1, (sEp σ.2.2.2.1.2).2, σ)) := by
  have g := h.2.2.2.1.2
  cases ho : σ.2.2.2.1.2 with
  | none =>
    rw [ho] at g
    have g : τ.1 (1, 0, 0) 9 = -1 := g
    refine Sat_of hc.1 hc.2 (by decide +kernel) (Nat.le_of_ble_eq_true rfl) (fun x hB hno => ?_)
    refine V_run hB (rt := some .int) (nL := 1) (mc := 1) rfl rfl rfl obX10_failedCommand_0 ?_
    dsimp only [bX10_failedCommand_0, ↓wpb, ↓wp1, ↓vI, ↓vL, ↓vD, ↓ldI, ↓ldL, ↓ldD, ↓ldR, ↓k1, ↓k2, ↓kI, ↓kL, ↓kD, ↓kII, ↓kLL, ↓kDD, ↓kR, ↓kIR, ↓kLR, ↓kIIR, ↓kLIR, ↓kDIR, ↓kRIR, ↓kNN, ↓kE, ↓br, ↓bn, ↓rtI, ↓gfv, ↓zchk, lput, ldel, lbad, alA, acat, isRf, dom, dS, dJ, isO, aTy, aLen, elAV, elR, Nat.reduceBEq, Nat.reduceAdd, Bool.or, Bool.and, Nat.add_zero, Nat.zero_add]
    try simp only [Nat.reduceLT, Nat.reduceLeDiff, Nat.reduceEqDiff, true_and, and_true, and_self, Nat.zero_le, Nat.le_refl, true_or, or_true, Bool.false_eq_true, not_false_eq_true, Nat.reduceAdd, Nat.lt_add_one, Nat.zero_lt_one, nI_add, pk_mul, ixL, vpL, ne_eq, reduceIte, wI_sN, wL_sM, sN_same, sN_K, sN_2, sM_1, sM_same, sM_K, sM_s, uI_at, uN_at, enc_at, uI_enc, uI_uI, upM_s, upM_n, g]
    refine ⟨fun q => absurd trivial q, fun _ => ?_⟩
    refine V_throwW hB hno thX10_383_173 ⟨by decide +kernel, by decide +kernel, by decide +kernel, by decide +kernel, by decide +kernel⟩ (by decide) (Nat.le_of_ble_eq_true rfl) ?_
    exact ⟨rfl, h, fun _ _ => rfl⟩
  | some p =>
    rw [ho] at g
    have g : τ.1 (1, 0, 0) 9 = nI p := g
    have hp := hb p ho
    refine Sat_of hc.1 hc.2 (by decide +kernel) (Nat.le_of_ble_eq_true rfl) (fun x hB hno => ?_)
    refine V_run hB (rt := some .int) (nL := 1) (mc := 1) rfl rfl rfl obX10_failedCommand_0 ?_
    dsimp only [bX10_failedCommand_0, ↓wpb, ↓wp1, ↓vI, ↓vL, ↓vD, ↓ldI, ↓ldL, ↓ldD, ↓ldR, ↓k1, ↓k2, ↓kI, ↓kL, ↓kD, ↓kII, ↓kLL, ↓kDD, ↓kR, ↓kIR, ↓kLR, ↓kIIR, ↓kLIR, ↓kDIR, ↓kRIR, ↓kNN, ↓kE, ↓br, ↓bn, ↓rtI, ↓gfv, ↓zchk, lput, ldel, lbad, alA, acat, isRf, dom, dS, dJ, isO, aTy, aLen, elAV, elR, Nat.reduceBEq, Nat.reduceAdd, Bool.or, Bool.and, Nat.add_zero, Nat.zero_add]
    try simp only [Nat.reduceLT, Nat.reduceLeDiff, Nat.reduceEqDiff, true_and, and_true, and_self, Nat.zero_le, Nat.le_refl, true_or, or_true, Bool.false_eq_true, not_false_eq_true, Nat.reduceAdd, Nat.lt_add_one, Nat.zero_lt_one, nI_add, pk_mul, ixL, vpL, ne_eq, reduceIte, wI_sN, wL_sM, sN_same, sN_K, sN_2, sM_1, sM_same, sM_K, sM_s, uI_at, uN_at, enc_at, uI_enc, uI_uI, upM_s, upM_n, g]
    refine ⟨fun _ => ?_, fun q => absurd q (nI_n1 (by omega))⟩
    refine V_run hB (rt := some .int) (nL := 1) (mc := 1) rfl rfl rfl obX10_failedCommand_19 ?_
    dsimp only [bX10_failedCommand_19, ↓wpb, ↓wp1, ↓vI, ↓vL, ↓vD, ↓ldI, ↓ldL, ↓ldD, ↓ldR, ↓k1, ↓k2, ↓kI, ↓kL, ↓kD, ↓kII, ↓kLL, ↓kDD, ↓kR, ↓kIR, ↓kLR, ↓kIIR, ↓kLIR, ↓kDIR, ↓kRIR, ↓kNN, ↓kE, ↓br, ↓bn, ↓rtI, ↓gfv, ↓zchk, lput, ldel, lbad, alA, acat, isRf, dom, dS, dJ, isO, aTy, aLen, elAV, elR, Nat.reduceBEq, Nat.reduceAdd, Bool.or, Bool.and, Nat.add_zero, Nat.zero_add]
    try simp only [Nat.reduceLT, Nat.reduceLeDiff, Nat.reduceEqDiff, true_and, and_true, and_self, Nat.zero_le, Nat.le_refl, true_or, or_true, Bool.false_eq_true, not_false_eq_true, Nat.reduceAdd, Nat.lt_add_one, Nat.zero_lt_one, nI_add, pk_mul, ixL, vpL, ne_eq, reduceIte, wI_sN, wL_sM, sN_same, sN_K, sN_2, sM_1, sM_same, sM_K, sM_s, uI_at, uN_at, enc_at, uI_enc, uI_uI, upM_s, upM_n, g]
    exact ⟨rfl, h, fun _ _ => rfl⟩
end B5
