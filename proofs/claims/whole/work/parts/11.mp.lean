/-! ===== programs: what a command does ===== -/
abbrev Cmd := Nat × Nat × Nat × Nat
def doS (a : Nat → Nat) (m : Cmd) : Nat × Nat × (Nat → Nat) := match m with
  | (0, p, q, r) => sPl a (nI p) (nI q) (nI r)
  | (1, p, _, _) => sRed a (findO a (nI p) false)
  | (2, p, q, _) => sExt a (findO a (nI p) false) (nI q)
  | (3, p, _, _) => sPas a (nI p)
  | (4, p, _, _) => sPri a (nI p)
  | (5, p, q, _) => sRat a (nI p) (nI q)
  | (6, p, q, r) => sBid a (findO a (nI p) true) (nI q) (nI r)
  | (7, p, _, _) => sSel a (findO a (nI p) true)
  | _ => sEve a
theorem doS_8 (a : Nat → Nat) (p q r : Nat) : doS a (8, p, q, r) = sEve a := rfl
theorem doS_c (a : Nat → Nat) (m : Cmd) : (doS a m).1 < 1000 := by
  unfold doS
  split
  · exact sPl_c _ _ _ _
  · exact sRed_c _ _
  · exact sExt_c _ _ _
  · exact sPas_c _ _
  · exact sPri_c _ _
  · exact sRat_c _ _ _
  · exact sBid_c _ _ _ _
  · exact sSel_c _ _
  · exact sEve_c _
theorem IV_doS {n : Nat} {a : Nat → Nat} (h : IV n a) (hn : n ≤ 1000) (m : Cmd) : IV (n + 1) (doS a m).2.2 := by
  unfold doS
  split
  · exact IV_sPl h _ _ _
  · exact IV_sRed h (fun i hi => findO_lt hi)
  · exact IV_sExt h _ (fun i hi => findO_lt hi)
  · exact IV_sPas h _
  · exact IV_sPri h _
  · exact IV_sRat h _ _
  · exact IV_sBid h _ _ (fun i hi => findO_lt hi)
  · exact IV_sSel h (fun i hi => (findO_lt hi).1)
  · exact IV_sEve h hn
theorem V_tabI {x : Cx} {l : Launch} {G : GG} {y : MI} {Φ : AOut → Mem → Prop} (hB : Bd x l G y Φ) {τ : Mem} {n pc : Nat} {al : Al} {r : List AV} {dflt lo hi : Int} {offs : Array Int} {len : Nat} {v : Int32} {off : Int} {tgt : Nat}
    (hd : decode y.2.1 pc = .ok (.tableswitch dflt lo hi offs, len)) (h1 : ¬ v.toInt < lo) (h2 : ¬ hi < v.toInt) (ho : offs[(v.toInt - lo).toNat]? = some off) (ht : (pc : Int) + off = (tgt : Int)) (k : V x τ n tgt al r) : V x τ n pc al (.inl (.int v) :: r) := by
  obtain ⟨hg, -, -, rfl, -⟩ := hB
  obtain ⟨l, G, p, e, s, m, args, below, meth, c, y, Φ⟩ := x
  obtain ⟨hx, hb, -⟩ := hg
  exact fun H locs ls hW hS hL => lv_tableIn hx hb hd h1 h2 ho ht (k H locs ls hW hS hL)
theorem V_tabO {x : Cx} {l : Launch} {G : GG} {y : MI} {Φ : AOut → Mem → Prop} (hB : Bd x l G y Φ) {τ : Mem} {n pc : Nat} {al : Al} {r : List AV} {dflt lo hi : Int} {offs : Array Int} {len : Nat} {v : Int32} {tgt : Nat}
    (hd : decode y.2.1 pc = .ok (.tableswitch dflt lo hi offs, len)) (h : v.toInt < lo ∨ hi < v.toInt) (ht : (pc : Int) + dflt = (tgt : Int)) (k : V x τ n tgt al r) : V x τ n pc al (.inl (.int v) :: r) := by
  obtain ⟨hg, -, -, rfl, -⟩ := hB
  obtain ⟨l, G, p, e, s, m, args, below, meth, c, y, Φ⟩ := x
  obtain ⟨hx, hb, -⟩ := hg
  exact fun H locs ls hW hS hL => lv_tableOut hx hb hd h ht (k H locs ls hW hS hL)
theorem PS.op {τ0 τ : Mem} {T : List Nat} {h : Nat} {w d : Bool} {a : Nat → Nat} {ρ : Rho} (hP : PS τ0 T τ h w d 0 a ρ) (c : Nat) (a' : Nat → Nat) : PS τ0 T (opM τ c a') h w d c a' ρ := by
  obtain ⟨hM, ⟨f17, f18, f20, f21⟩, gt, g4, gO, g32⟩ := hP
  refine ⟨op_MW hM a', ⟨?_, ?_, ?_, ?_⟩, ?_, g4, op_Oth gO _ _, by rw [op_32]; exact g32⟩
  · unfold opM; simp only [sA_same, sA_ne, ne_eq, Nat.reduceEqDiff, not_false_eq_true, not_true_eq_false]; exact f17
  · unfold opM; simp only [sA_same, sA_ne, ne_eq, Nat.reduceEqDiff, not_false_eq_true, not_true_eq_false]; exact f18
  · unfold opM; simp only [sA_same, sA_ne, ne_eq, Nat.reduceEqDiff, not_false_eq_true, not_true_eq_false]; exact f20
  · unfold opM; simp only [sA_same, sA_ne, ne_eq, Nat.reduceEqDiff, not_false_eq_true, not_true_eq_false]; exact f21
  · unfold opM; simp only [sA_same, sA_ne, ne_eq, Nat.reduceEqDiff, not_false_eq_true, not_true_eq_false]; exact gt
theorem PS.sX {τ0 τ : Mem} {T : List Nat} {h c : Nat} {w d : Bool} {a : Nat → Nat} {ρ : Rho} (hP : PS τ0 T τ h w d c a ρ) {K : Nat} (F : Nat → Int32) (hK : K = 35 ∨ K = 36) : PS τ0 T (sA τ K F) h w d c a ρ := by
  obtain ⟨⟨g1, g2, g3⟩, ⟨f17, f18, f20, f21⟩, gt, g4, gO, g32⟩ := hP
  have n30 : ∀ K', K' ≠ K → (sA τ K F).1 (K', 0, 0) = τ.1 (K', 0, 0) := fun K' q => sA_ne q 0 0
  refine ⟨⟨?_, ?_, g3.sX _ (by omega)⟩, ⟨?_, ?_, ?_, ?_⟩, ?_, g4, gO.sA _ (by omega) (by omega), ?_⟩
  · rw [n30 31 (by omega)]; exact g1
  · rw [n30 30 (by omega)]; exact g2
  · rw [n30 30 (by omega)]; exact f17
  · rw [n30 30 (by omega)]; exact f18
  · rw [n30 30 (by omega)]; exact f20
  · rw [n30 30 (by omega)]; exact f21
  · rw [n30 37 (by omega)]; exact gt
  · rw [n30 32 (by omega)]; exact g32
section MP
variable {l : Launch} {G : GG} {τ0 τ : Mem} {T : List Nat} {h n : Nat} {a : Nat → Nat} {ρ : Rho}
theorem q_does (hc : Ctx l G) {wr d : Bool} (hP : PS τ0 T τ h wr d 0 a ρ) (hI : IV n a) (hn : n ≤ 1000) {w p q r : Nat} (hw : w < 9) : Sat l G iX11_does [mM, aI (nI w), aI (nI p), aI (nI q), aI (nI r)] τ (someP (fun τ' => PS τ0 T τ' h wr d (doS a (w, p, q, r)).1 (doS a (w, p, q, r)).2.2 ρ)) := by
  have hM := hP.1
  have hS : MS τ a := MS_of (σ := (a, ρ)) hM hI hn
  have ht := hM.2.1
  rcases (by omega : w = 0 ∨ w = 1 ∨ w = 2 ∨ w = 3 ∨ w = 4 ∨ w = 5 ∨ w = 6 ∨ w = 7 ∨ w = 8) with rfl | rfl | rfl | rfl | rfl | rfl | rfl | rfl | rfl
  · refine Sat_of hc.1 hc.2 (by decide +kernel) (Nat.le_of_ble_eq_true rfl) (fun x hB hno => ?_)
    refine V_run hB (rt := some .int) (nL := 5) (mc := 0) rfl rfl rfl obX11_does_0 ?_
    dsimp only [bX11_does_0, ↓wpb, ↓wp1, ↓vI, ↓vL, ↓vD, ↓ldI, ↓ldL, ↓ldD, ↓ldR, ↓k1, ↓k2, ↓kI, ↓kL, ↓kD, ↓kII, ↓kLL, ↓kDD, ↓kR, ↓kIR, ↓kLR, ↓kIIR, ↓kLIR, ↓kDIR, ↓kRIR, ↓kNN, ↓kE, ↓br, ↓bn, ↓rtI, ↓gfv, ↓zchk, lput, ldel, lbad, alA, acat, isRf, dom, dS, dJ, isO, aTy, aLen, elAV, elR, Nat.reduceBEq, Nat.reduceAdd, Bool.or, Bool.and, Nat.add_zero, Nat.zero_add]
    try simp only [Nat.reduceLT, Nat.reduceLeDiff, Nat.reduceEqDiff, true_and, and_true, and_self, Nat.zero_le, Nat.le_refl, true_or, or_true, Bool.false_eq_true, not_false_eq_true, Nat.reduceAdd, Nat.lt_add_one, Nat.zero_lt_one, nI_add, pk_mul, ixL, vpL, ne_eq, reduceIte, wI_sA, sA_same, sA_ne, sA_sA, sA_comm, uI_at, uN_at, enc_at, uI_enc, uI_uI, itn1, itn2, itn3, itn4, itc, itc0, itc1, upM_s, upM_n]
    refine V_tabI hB (dflt := 123) (lo := 0) (hi := 7) (offs := #[47, 56, 67, 79, 85, 91, 98, 112]) (len := 47) (off := 47) (tgt := 48) (by decide +kernel) (by decide) (by decide) (by decide) (by decide) ?_
    refine V_run hB (rt := some .int) (nL := 5) (mc := 0) rfl rfl rfl obX11_does_48 ?_
    dsimp only [bX11_does_48, ↓wpb, ↓wp1, ↓vI, ↓vL, ↓vD, ↓ldI, ↓ldL, ↓ldD, ↓ldR, ↓k1, ↓k2, ↓kI, ↓kL, ↓kD, ↓kII, ↓kLL, ↓kDD, ↓kR, ↓kIR, ↓kLR, ↓kIIR, ↓kLIR, ↓kDIR, ↓kRIR, ↓kNN, ↓kE, ↓br, ↓bn, ↓rtI, ↓gfv, ↓zchk, lput, ldel, lbad, alA, acat, isRf, dom, dS, dJ, isO, aTy, aLen, elAV, elR, Nat.reduceBEq, Nat.reduceAdd, Bool.or, Bool.and, Nat.add_zero, Nat.zero_add]
    try simp only [Nat.reduceLT, Nat.reduceLeDiff, Nat.reduceEqDiff, true_and, and_true, and_self, Nat.zero_le, Nat.le_refl, true_or, or_true, Bool.false_eq_true, not_false_eq_true, Nat.reduceAdd, Nat.lt_add_one, Nat.zero_lt_one, nI_add, pk_mul, ixL, vpL, ne_eq, reduceIte, wI_sA, sA_same, sA_ne, sA_sA, sA_comm, uI_at, uN_at, enc_at, uI_enc, uI_uI, itn1, itn2, itn3, itn4, itc, itc0, itc1, upM_s, upM_n]
    refine V_cV hB hno (q_pledges hc hS ht hI.2.2.1.2 (nI p) (nI q) (nI r)) rfl (by decide +kernel) cvX11_82 (dom1 rfl) npX11_pledges ⟨by decide, by decide⟩ (Nat.le_of_ble_eq_true rfl) (n' := 0) (by decide) rfl ?_
    refine V_run hB (rt := some .int) (nL := 5) (mc := 0) rfl rfl rfl obX11_does_56 ?_
    dsimp only [bX11_does_56, ↓wpb, ↓wp1, ↓vI, ↓vL, ↓vD, ↓ldI, ↓ldL, ↓ldD, ↓ldR, ↓k1, ↓k2, ↓kI, ↓kL, ↓kD, ↓kII, ↓kLL, ↓kDD, ↓kR, ↓kIR, ↓kLR, ↓kIIR, ↓kLIR, ↓kDIR, ↓kRIR, ↓kNN, ↓kE, ↓br, ↓bn, ↓rtI, ↓gfv, ↓zchk, lput, ldel, lbad, alA, acat, isRf, dom, dS, dJ, isO, aTy, aLen, elAV, elR, Nat.reduceBEq, Nat.reduceAdd, Bool.or, Bool.and, Nat.add_zero, Nat.zero_add]
    try simp only [Nat.reduceLT, Nat.reduceLeDiff, Nat.reduceEqDiff, true_and, and_true, and_self, Nat.zero_le, Nat.le_refl, true_or, or_true, Bool.false_eq_true, not_false_eq_true, Nat.reduceAdd, Nat.lt_add_one, Nat.zero_lt_one, nI_add, pk_mul, ixL, vpL, ne_eq, reduceIte, wI_sA, sA_same, sA_ne, sA_sA, sA_comm, uI_at, uN_at, enc_at, uI_enc, uI_uI, itn1, itn2, itn3, itn4, itc, itc0, itc1, upM_s, upM_n]
    exact ⟨⟨_, rfl⟩, hP.op _ _⟩
  · refine Sat_of hc.1 hc.2 (by decide +kernel) (Nat.le_of_ble_eq_true rfl) (fun x hB hno => ?_)
    refine V_run hB (rt := some .int) (nL := 5) (mc := 0) rfl rfl rfl obX11_does_0 ?_
    dsimp only [bX11_does_0, ↓wpb, ↓wp1, ↓vI, ↓vL, ↓vD, ↓ldI, ↓ldL, ↓ldD, ↓ldR, ↓k1, ↓k2, ↓kI, ↓kL, ↓kD, ↓kII, ↓kLL, ↓kDD, ↓kR, ↓kIR, ↓kLR, ↓kIIR, ↓kLIR, ↓kDIR, ↓kRIR, ↓kNN, ↓kE, ↓br, ↓bn, ↓rtI, ↓gfv, ↓zchk, lput, ldel, lbad, alA, acat, isRf, dom, dS, dJ, isO, aTy, aLen, elAV, elR, Nat.reduceBEq, Nat.reduceAdd, Bool.or, Bool.and, Nat.add_zero, Nat.zero_add]
    try simp only [Nat.reduceLT, Nat.reduceLeDiff, Nat.reduceEqDiff, true_and, and_true, and_self, Nat.zero_le, Nat.le_refl, true_or, or_true, Bool.false_eq_true, not_false_eq_true, Nat.reduceAdd, Nat.lt_add_one, Nat.zero_lt_one, nI_add, pk_mul, ixL, vpL, ne_eq, reduceIte, wI_sA, sA_same, sA_ne, sA_sA, sA_comm, uI_at, uN_at, enc_at, uI_enc, uI_uI, itn1, itn2, itn3, itn4, itc, itc0, itc1, upM_s, upM_n]
    refine V_tabI hB (dflt := 123) (lo := 0) (hi := 7) (offs := #[47, 56, 67, 79, 85, 91, 98, 112]) (len := 47) (off := 56) (tgt := 57) (by decide +kernel) (by decide) (by decide) (by decide) (by decide) ?_
    refine V_run hB (rt := some .int) (nL := 5) (mc := 0) rfl rfl rfl obX11_does_57 ?_
    dsimp only [bX11_does_57, ↓wpb, ↓wp1, ↓vI, ↓vL, ↓vD, ↓ldI, ↓ldL, ↓ldD, ↓ldR, ↓k1, ↓k2, ↓kI, ↓kL, ↓kD, ↓kII, ↓kLL, ↓kDD, ↓kR, ↓kIR, ↓kLR, ↓kIIR, ↓kLIR, ↓kDIR, ↓kRIR, ↓kNN, ↓kE, ↓br, ↓bn, ↓rtI, ↓gfv, ↓zchk, lput, ldel, lbad, alA, acat, isRf, dom, dS, dJ, isO, aTy, aLen, elAV, elR, Nat.reduceBEq, Nat.reduceAdd, Bool.or, Bool.and, Nat.add_zero, Nat.zero_add]
    try simp only [Nat.reduceLT, Nat.reduceLeDiff, Nat.reduceEqDiff, true_and, and_true, and_self, Nat.zero_le, Nat.le_refl, true_or, or_true, Bool.false_eq_true, not_false_eq_true, Nat.reduceAdd, Nat.lt_add_one, Nat.zero_lt_one, nI_add, pk_mul, ixL, vpL, ne_eq, reduceIte, wI_sA, sA_same, sA_ne, sA_sA, sA_comm, uI_at, uN_at, enc_at, uI_enc, uI_uI, itn1, itn2, itn3, itn4, itc, itc0, itc1, upM_s, upM_n]
    refine V_cV hB hno (q_findOf hc hS (nI p) false) rfl (by decide +kernel) cvX11_99 (dom1 rfl) npX11_findOf ⟨by decide, by decide⟩ (Nat.le_of_ble_eq_true rfl) (n' := 0) (by decide) rfl ?_
    refine V_cV hB hno (q_redeems hc hS ht (fun i hi => ⟨(findO_lt hi).1, hI.okD (e := 0) (findO_lt hi).1 (findO_lt hi).2 (by omega)⟩) (fun i hi => by have h1 := hI.dbt (findO_lt hi).1 (findO_lt hi).2; have h2 := hI.bd hn 2; have h3 := hI.bd hn 5; have h4 := hI.bd hn (16 + 12 * i + 3); unfold it; omega)) rfl (by decide +kernel) cvX11_103 (dom1 rfl) npX11_redeems ⟨by decide, by decide⟩ (Nat.le_of_ble_eq_true rfl) (n' := 0) (by decide) rfl ?_
    refine V_run hB (rt := some .int) (nL := 5) (mc := 0) rfl rfl rfl obX11_does_67 ?_
    dsimp only [bX11_does_67, ↓wpb, ↓wp1, ↓vI, ↓vL, ↓vD, ↓ldI, ↓ldL, ↓ldD, ↓ldR, ↓k1, ↓k2, ↓kI, ↓kL, ↓kD, ↓kII, ↓kLL, ↓kDD, ↓kR, ↓kIR, ↓kLR, ↓kIIR, ↓kLIR, ↓kDIR, ↓kRIR, ↓kNN, ↓kE, ↓br, ↓bn, ↓rtI, ↓gfv, ↓zchk, lput, ldel, lbad, alA, acat, isRf, dom, dS, dJ, isO, aTy, aLen, elAV, elR, Nat.reduceBEq, Nat.reduceAdd, Bool.or, Bool.and, Nat.add_zero, Nat.zero_add]
    try simp only [Nat.reduceLT, Nat.reduceLeDiff, Nat.reduceEqDiff, true_and, and_true, and_self, Nat.zero_le, Nat.le_refl, true_or, or_true, Bool.false_eq_true, not_false_eq_true, Nat.reduceAdd, Nat.lt_add_one, Nat.zero_lt_one, nI_add, pk_mul, ixL, vpL, ne_eq, reduceIte, wI_sA, sA_same, sA_ne, sA_sA, sA_comm, uI_at, uN_at, enc_at, uI_enc, uI_uI, itn1, itn2, itn3, itn4, itc, itc0, itc1, upM_s, upM_n]
    exact ⟨⟨_, rfl⟩, hP.op _ _⟩
  · refine Sat_of hc.1 hc.2 (by decide +kernel) (Nat.le_of_ble_eq_true rfl) (fun x hB hno => ?_)
    refine V_run hB (rt := some .int) (nL := 5) (mc := 0) rfl rfl rfl obX11_does_0 ?_
    dsimp only [bX11_does_0, ↓wpb, ↓wp1, ↓vI, ↓vL, ↓vD, ↓ldI, ↓ldL, ↓ldD, ↓ldR, ↓k1, ↓k2, ↓kI, ↓kL, ↓kD, ↓kII, ↓kLL, ↓kDD, ↓kR, ↓kIR, ↓kLR, ↓kIIR, ↓kLIR, ↓kDIR, ↓kRIR, ↓kNN, ↓kE, ↓br, ↓bn, ↓rtI, ↓gfv, ↓zchk, lput, ldel, lbad, alA, acat, isRf, dom, dS, dJ, isO, aTy, aLen, elAV, elR, Nat.reduceBEq, Nat.reduceAdd, Bool.or, Bool.and, Nat.add_zero, Nat.zero_add]
    try simp only [Nat.reduceLT, Nat.reduceLeDiff, Nat.reduceEqDiff, true_and, and_true, and_self, Nat.zero_le, Nat.le_refl, true_or, or_true, Bool.false_eq_true, not_false_eq_true, Nat.reduceAdd, Nat.lt_add_one, Nat.zero_lt_one, nI_add, pk_mul, ixL, vpL, ne_eq, reduceIte, wI_sA, sA_same, sA_ne, sA_sA, sA_comm, uI_at, uN_at, enc_at, uI_enc, uI_uI, itn1, itn2, itn3, itn4, itc, itc0, itc1, upM_s, upM_n]
    refine V_tabI hB (dflt := 123) (lo := 0) (hi := 7) (offs := #[47, 56, 67, 79, 85, 91, 98, 112]) (len := 47) (off := 67) (tgt := 68) (by decide +kernel) (by decide) (by decide) (by decide) (by decide) ?_
    refine V_run hB (rt := some .int) (nL := 5) (mc := 0) rfl rfl rfl obX11_does_68 ?_
    dsimp only [bX11_does_68, ↓wpb, ↓wp1, ↓vI, ↓vL, ↓vD, ↓ldI, ↓ldL, ↓ldD, ↓ldR, ↓k1, ↓k2, ↓kI, ↓kL, ↓kD, ↓kII, ↓kLL, ↓kDD, ↓kR, ↓kIR, ↓kLR, ↓kIIR, ↓kLIR, ↓kDIR, ↓kRIR, ↓kNN, ↓kE, ↓br, ↓bn, ↓rtI, ↓gfv, ↓zchk, lput, ldel, lbad, alA, acat, isRf, dom, dS, dJ, isO, aTy, aLen, elAV, elR, Nat.reduceBEq, Nat.reduceAdd, Bool.or, Bool.and, Nat.add_zero, Nat.zero_add]
    try simp only [Nat.reduceLT, Nat.reduceLeDiff, Nat.reduceEqDiff, true_and, and_true, and_self, Nat.zero_le, Nat.le_refl, true_or, or_true, Bool.false_eq_true, not_false_eq_true, Nat.reduceAdd, Nat.lt_add_one, Nat.zero_lt_one, nI_add, pk_mul, ixL, vpL, ne_eq, reduceIte, wI_sA, sA_same, sA_ne, sA_sA, sA_comm, uI_at, uN_at, enc_at, uI_enc, uI_uI, itn1, itn2, itn3, itn4, itc, itc0, itc1, upM_s, upM_n]
    refine V_cV hB hno (q_findOf hc hS (nI p) false) rfl (by decide +kernel) cvX11_99 (dom1 rfl) npX11_findOf ⟨by decide, by decide⟩ (Nat.le_of_ble_eq_true rfl) (n' := 0) (by decide) rfl ?_
    refine V_run hB (rt := some .int) (nL := 5) (mc := 0) rfl rfl rfl obX11_does_75 ?_
    dsimp only [bX11_does_75, ↓wpb, ↓wp1, ↓vI, ↓vL, ↓vD, ↓ldI, ↓ldL, ↓ldD, ↓ldR, ↓k1, ↓k2, ↓kI, ↓kL, ↓kD, ↓kII, ↓kLL, ↓kDD, ↓kR, ↓kIR, ↓kLR, ↓kIIR, ↓kLIR, ↓kDIR, ↓kRIR, ↓kNN, ↓kE, ↓br, ↓bn, ↓rtI, ↓gfv, ↓zchk, lput, ldel, lbad, alA, acat, isRf, dom, dS, dJ, isO, aTy, aLen, elAV, elR, Nat.reduceBEq, Nat.reduceAdd, Bool.or, Bool.and, Nat.add_zero, Nat.zero_add]
    try simp only [Nat.reduceLT, Nat.reduceLeDiff, Nat.reduceEqDiff, true_and, and_true, and_self, Nat.zero_le, Nat.le_refl, true_or, or_true, Bool.false_eq_true, not_false_eq_true, Nat.reduceAdd, Nat.lt_add_one, Nat.zero_lt_one, nI_add, pk_mul, ixL, vpL, ne_eq, reduceIte, wI_sA, sA_same, sA_ne, sA_sA, sA_comm, uI_at, uN_at, enc_at, uI_enc, uI_uI, itn1, itn2, itn3, itn4, itc, itc0, itc1, upM_s, upM_n]
    refine V_cV hB hno (q_extends hc hS ht (nI q) (fun i hi => ⟨(findO_lt hi).1, hI.okD (e := 0) (findO_lt hi).1 (findO_lt hi).2 (by omega)⟩)) rfl (by decide +kernel) cvX11_106 (dom1 rfl) npX11_extends1 ⟨by decide, by decide⟩ (Nat.le_of_ble_eq_true rfl) (n' := 0) (by decide) rfl ?_
    refine V_run hB (rt := some .int) (nL := 5) (mc := 0) rfl rfl rfl obX11_does_79 ?_
    dsimp only [bX11_does_79, ↓wpb, ↓wp1, ↓vI, ↓vL, ↓vD, ↓ldI, ↓ldL, ↓ldD, ↓ldR, ↓k1, ↓k2, ↓kI, ↓kL, ↓kD, ↓kII, ↓kLL, ↓kDD, ↓kR, ↓kIR, ↓kLR, ↓kIIR, ↓kLIR, ↓kDIR, ↓kRIR, ↓kNN, ↓kE, ↓br, ↓bn, ↓rtI, ↓gfv, ↓zchk, lput, ldel, lbad, alA, acat, isRf, dom, dS, dJ, isO, aTy, aLen, elAV, elR, Nat.reduceBEq, Nat.reduceAdd, Bool.or, Bool.and, Nat.add_zero, Nat.zero_add]
    try simp only [Nat.reduceLT, Nat.reduceLeDiff, Nat.reduceEqDiff, true_and, and_true, and_self, Nat.zero_le, Nat.le_refl, true_or, or_true, Bool.false_eq_true, not_false_eq_true, Nat.reduceAdd, Nat.lt_add_one, Nat.zero_lt_one, nI_add, pk_mul, ixL, vpL, ne_eq, reduceIte, wI_sA, sA_same, sA_ne, sA_sA, sA_comm, uI_at, uN_at, enc_at, uI_enc, uI_uI, itn1, itn2, itn3, itn4, itc, itc0, itc1, upM_s, upM_n]
    exact ⟨⟨_, rfl⟩, hP.op _ _⟩
  · refine Sat_of hc.1 hc.2 (by decide +kernel) (Nat.le_of_ble_eq_true rfl) (fun x hB hno => ?_)
    refine V_run hB (rt := some .int) (nL := 5) (mc := 0) rfl rfl rfl obX11_does_0 ?_
    dsimp only [bX11_does_0, ↓wpb, ↓wp1, ↓vI, ↓vL, ↓vD, ↓ldI, ↓ldL, ↓ldD, ↓ldR, ↓k1, ↓k2, ↓kI, ↓kL, ↓kD, ↓kII, ↓kLL, ↓kDD, ↓kR, ↓kIR, ↓kLR, ↓kIIR, ↓kLIR, ↓kDIR, ↓kRIR, ↓kNN, ↓kE, ↓br, ↓bn, ↓rtI, ↓gfv, ↓zchk, lput, ldel, lbad, alA, acat, isRf, dom, dS, dJ, isO, aTy, aLen, elAV, elR, Nat.reduceBEq, Nat.reduceAdd, Bool.or, Bool.and, Nat.add_zero, Nat.zero_add]
    try simp only [Nat.reduceLT, Nat.reduceLeDiff, Nat.reduceEqDiff, true_and, and_true, and_self, Nat.zero_le, Nat.le_refl, true_or, or_true, Bool.false_eq_true, not_false_eq_true, Nat.reduceAdd, Nat.lt_add_one, Nat.zero_lt_one, nI_add, pk_mul, ixL, vpL, ne_eq, reduceIte, wI_sA, sA_same, sA_ne, sA_sA, sA_comm, uI_at, uN_at, enc_at, uI_enc, uI_uI, itn1, itn2, itn3, itn4, itc, itc0, itc1, upM_s, upM_n]
    refine V_tabI hB (dflt := 123) (lo := 0) (hi := 7) (offs := #[47, 56, 67, 79, 85, 91, 98, 112]) (len := 47) (off := 79) (tgt := 80) (by decide +kernel) (by decide) (by decide) (by decide) (by decide) ?_
    refine V_run hB (rt := some .int) (nL := 5) (mc := 0) rfl rfl rfl obX11_does_80 ?_
    dsimp only [bX11_does_80, ↓wpb, ↓wp1, ↓vI, ↓vL, ↓vD, ↓ldI, ↓ldL, ↓ldD, ↓ldR, ↓k1, ↓k2, ↓kI, ↓kL, ↓kD, ↓kII, ↓kLL, ↓kDD, ↓kR, ↓kIR, ↓kLR, ↓kIIR, ↓kLIR, ↓kDIR, ↓kRIR, ↓kNN, ↓kE, ↓br, ↓bn, ↓rtI, ↓gfv, ↓zchk, lput, ldel, lbad, alA, acat, isRf, dom, dS, dJ, isO, aTy, aLen, elAV, elR, Nat.reduceBEq, Nat.reduceAdd, Bool.or, Bool.and, Nat.add_zero, Nat.zero_add]
    try simp only [Nat.reduceLT, Nat.reduceLeDiff, Nat.reduceEqDiff, true_and, and_true, and_self, Nat.zero_le, Nat.le_refl, true_or, or_true, Bool.false_eq_true, not_false_eq_true, Nat.reduceAdd, Nat.lt_add_one, Nat.zero_lt_one, nI_add, pk_mul, ixL, vpL, ne_eq, reduceIte, wI_sA, sA_same, sA_ne, sA_sA, sA_comm, uI_at, uN_at, enc_at, uI_enc, uI_uI, itn1, itn2, itn3, itn4, itc, itc0, itc1, upM_s, upM_n]
    refine V_cV hB hno (q_passes hc hS ht hI.min (fun k => by have := hI.bd hn k; omega) (nI p)) rfl (by decide +kernel) cvX11_109 (dom1 rfl) npX11_passes ⟨by decide, by decide⟩ (Nat.le_of_ble_eq_true rfl) (n' := 0) (by decide) rfl ?_
    refine V_run hB (rt := some .int) (nL := 5) (mc := 0) rfl rfl rfl obX11_does_85 ?_
    dsimp only [bX11_does_85, ↓wpb, ↓wp1, ↓vI, ↓vL, ↓vD, ↓ldI, ↓ldL, ↓ldD, ↓ldR, ↓k1, ↓k2, ↓kI, ↓kL, ↓kD, ↓kII, ↓kLL, ↓kDD, ↓kR, ↓kIR, ↓kLR, ↓kIIR, ↓kLIR, ↓kDIR, ↓kRIR, ↓kNN, ↓kE, ↓br, ↓bn, ↓rtI, ↓gfv, ↓zchk, lput, ldel, lbad, alA, acat, isRf, dom, dS, dJ, isO, aTy, aLen, elAV, elR, Nat.reduceBEq, Nat.reduceAdd, Bool.or, Bool.and, Nat.add_zero, Nat.zero_add]
    try simp only [Nat.reduceLT, Nat.reduceLeDiff, Nat.reduceEqDiff, true_and, and_true, and_self, Nat.zero_le, Nat.le_refl, true_or, or_true, Bool.false_eq_true, not_false_eq_true, Nat.reduceAdd, Nat.lt_add_one, Nat.zero_lt_one, nI_add, pk_mul, ixL, vpL, ne_eq, reduceIte, wI_sA, sA_same, sA_ne, sA_sA, sA_comm, uI_at, uN_at, enc_at, uI_enc, uI_uI, itn1, itn2, itn3, itn4, itc, itc0, itc1, upM_s, upM_n]
    exact ⟨⟨_, rfl⟩, hP.op _ _⟩
  · refine Sat_of hc.1 hc.2 (by decide +kernel) (Nat.le_of_ble_eq_true rfl) (fun x hB hno => ?_)
    refine V_run hB (rt := some .int) (nL := 5) (mc := 0) rfl rfl rfl obX11_does_0 ?_
    dsimp only [bX11_does_0, ↓wpb, ↓wp1, ↓vI, ↓vL, ↓vD, ↓ldI, ↓ldL, ↓ldD, ↓ldR, ↓k1, ↓k2, ↓kI, ↓kL, ↓kD, ↓kII, ↓kLL, ↓kDD, ↓kR, ↓kIR, ↓kLR, ↓kIIR, ↓kLIR, ↓kDIR, ↓kRIR, ↓kNN, ↓kE, ↓br, ↓bn, ↓rtI, ↓gfv, ↓zchk, lput, ldel, lbad, alA, acat, isRf, dom, dS, dJ, isO, aTy, aLen, elAV, elR, Nat.reduceBEq, Nat.reduceAdd, Bool.or, Bool.and, Nat.add_zero, Nat.zero_add]
    try simp only [Nat.reduceLT, Nat.reduceLeDiff, Nat.reduceEqDiff, true_and, and_true, and_self, Nat.zero_le, Nat.le_refl, true_or, or_true, Bool.false_eq_true, not_false_eq_true, Nat.reduceAdd, Nat.lt_add_one, Nat.zero_lt_one, nI_add, pk_mul, ixL, vpL, ne_eq, reduceIte, wI_sA, sA_same, sA_ne, sA_sA, sA_comm, uI_at, uN_at, enc_at, uI_enc, uI_uI, itn1, itn2, itn3, itn4, itc, itc0, itc1, upM_s, upM_n]
    refine V_tabI hB (dflt := 123) (lo := 0) (hi := 7) (offs := #[47, 56, 67, 79, 85, 91, 98, 112]) (len := 47) (off := 85) (tgt := 86) (by decide +kernel) (by decide) (by decide) (by decide) (by decide) ?_
    refine V_run hB (rt := some .int) (nL := 5) (mc := 0) rfl rfl rfl obX11_does_86 ?_
    dsimp only [bX11_does_86, ↓wpb, ↓wp1, ↓vI, ↓vL, ↓vD, ↓ldI, ↓ldL, ↓ldD, ↓ldR, ↓k1, ↓k2, ↓kI, ↓kL, ↓kD, ↓kII, ↓kLL, ↓kDD, ↓kR, ↓kIR, ↓kLR, ↓kIIR, ↓kLIR, ↓kDIR, ↓kRIR, ↓kNN, ↓kE, ↓br, ↓bn, ↓rtI, ↓gfv, ↓zchk, lput, ldel, lbad, alA, acat, isRf, dom, dS, dJ, isO, aTy, aLen, elAV, elR, Nat.reduceBEq, Nat.reduceAdd, Bool.or, Bool.and, Nat.add_zero, Nat.zero_add]
    try simp only [Nat.reduceLT, Nat.reduceLeDiff, Nat.reduceEqDiff, true_and, and_true, and_self, Nat.zero_le, Nat.le_refl, true_or, or_true, Bool.false_eq_true, not_false_eq_true, Nat.reduceAdd, Nat.lt_add_one, Nat.zero_lt_one, nI_add, pk_mul, ixL, vpL, ne_eq, reduceIte, wI_sA, sA_same, sA_ne, sA_sA, sA_comm, uI_at, uN_at, enc_at, uI_enc, uI_uI, itn1, itn2, itn3, itn4, itc, itc0, itc1, upM_s, upM_n]
    refine V_cV hB hno (q_prices hc hS ht (nI p)) rfl (by decide +kernel) cvX11_112 (dom1 rfl) npX11_prices ⟨by decide, by decide⟩ (Nat.le_of_ble_eq_true rfl) (n' := 0) (by decide) rfl ?_
    refine V_run hB (rt := some .int) (nL := 5) (mc := 0) rfl rfl rfl obX11_does_91 ?_
    dsimp only [bX11_does_91, ↓wpb, ↓wp1, ↓vI, ↓vL, ↓vD, ↓ldI, ↓ldL, ↓ldD, ↓ldR, ↓k1, ↓k2, ↓kI, ↓kL, ↓kD, ↓kII, ↓kLL, ↓kDD, ↓kR, ↓kIR, ↓kLR, ↓kIIR, ↓kLIR, ↓kDIR, ↓kRIR, ↓kNN, ↓kE, ↓br, ↓bn, ↓rtI, ↓gfv, ↓zchk, lput, ldel, lbad, alA, acat, isRf, dom, dS, dJ, isO, aTy, aLen, elAV, elR, Nat.reduceBEq, Nat.reduceAdd, Bool.or, Bool.and, Nat.add_zero, Nat.zero_add]
    try simp only [Nat.reduceLT, Nat.reduceLeDiff, Nat.reduceEqDiff, true_and, and_true, and_self, Nat.zero_le, Nat.le_refl, true_or, or_true, Bool.false_eq_true, not_false_eq_true, Nat.reduceAdd, Nat.lt_add_one, Nat.zero_lt_one, nI_add, pk_mul, ixL, vpL, ne_eq, reduceIte, wI_sA, sA_same, sA_ne, sA_sA, sA_comm, uI_at, uN_at, enc_at, uI_enc, uI_uI, itn1, itn2, itn3, itn4, itc, itc0, itc1, upM_s, upM_n]
    exact ⟨⟨_, rfl⟩, hP.op _ _⟩
  · refine Sat_of hc.1 hc.2 (by decide +kernel) (Nat.le_of_ble_eq_true rfl) (fun x hB hno => ?_)
    refine V_run hB (rt := some .int) (nL := 5) (mc := 0) rfl rfl rfl obX11_does_0 ?_
    dsimp only [bX11_does_0, ↓wpb, ↓wp1, ↓vI, ↓vL, ↓vD, ↓ldI, ↓ldL, ↓ldD, ↓ldR, ↓k1, ↓k2, ↓kI, ↓kL, ↓kD, ↓kII, ↓kLL, ↓kDD, ↓kR, ↓kIR, ↓kLR, ↓kIIR, ↓kLIR, ↓kDIR, ↓kRIR, ↓kNN, ↓kE, ↓br, ↓bn, ↓rtI, ↓gfv, ↓zchk, lput, ldel, lbad, alA, acat, isRf, dom, dS, dJ, isO, aTy, aLen, elAV, elR, Nat.reduceBEq, Nat.reduceAdd, Bool.or, Bool.and, Nat.add_zero, Nat.zero_add]
    try simp only [Nat.reduceLT, Nat.reduceLeDiff, Nat.reduceEqDiff, true_and, and_true, and_self, Nat.zero_le, Nat.le_refl, true_or, or_true, Bool.false_eq_true, not_false_eq_true, Nat.reduceAdd, Nat.lt_add_one, Nat.zero_lt_one, nI_add, pk_mul, ixL, vpL, ne_eq, reduceIte, wI_sA, sA_same, sA_ne, sA_sA, sA_comm, uI_at, uN_at, enc_at, uI_enc, uI_uI, itn1, itn2, itn3, itn4, itc, itc0, itc1, upM_s, upM_n]
    refine V_tabI hB (dflt := 123) (lo := 0) (hi := 7) (offs := #[47, 56, 67, 79, 85, 91, 98, 112]) (len := 47) (off := 91) (tgt := 92) (by decide +kernel) (by decide) (by decide) (by decide) (by decide) ?_
    refine V_run hB (rt := some .int) (nL := 5) (mc := 0) rfl rfl rfl obX11_does_92 ?_
    dsimp only [bX11_does_92, ↓wpb, ↓wp1, ↓vI, ↓vL, ↓vD, ↓ldI, ↓ldL, ↓ldD, ↓ldR, ↓k1, ↓k2, ↓kI, ↓kL, ↓kD, ↓kII, ↓kLL, ↓kDD, ↓kR, ↓kIR, ↓kLR, ↓kIIR, ↓kLIR, ↓kDIR, ↓kRIR, ↓kNN, ↓kE, ↓br, ↓bn, ↓rtI, ↓gfv, ↓zchk, lput, ldel, lbad, alA, acat, isRf, dom, dS, dJ, isO, aTy, aLen, elAV, elR, Nat.reduceBEq, Nat.reduceAdd, Bool.or, Bool.and, Nat.add_zero, Nat.zero_add]
    try simp only [Nat.reduceLT, Nat.reduceLeDiff, Nat.reduceEqDiff, true_and, and_true, and_self, Nat.zero_le, Nat.le_refl, true_or, or_true, Bool.false_eq_true, not_false_eq_true, Nat.reduceAdd, Nat.lt_add_one, Nat.zero_lt_one, nI_add, pk_mul, ixL, vpL, ne_eq, reduceIte, wI_sA, sA_same, sA_ne, sA_sA, sA_comm, uI_at, uN_at, enc_at, uI_enc, uI_uI, itn1, itn2, itn3, itn4, itc, itc0, itc1, upM_s, upM_n]
    refine V_cV hB hno (q_rates hc hS ht (nI p) (nI q)) rfl (by decide +kernel) cvX11_115 (dom1 rfl) npX11_rates ⟨by decide, by decide⟩ (Nat.le_of_ble_eq_true rfl) (n' := 0) (by decide) rfl ?_
    refine V_run hB (rt := some .int) (nL := 5) (mc := 0) rfl rfl rfl obX11_does_98 ?_
    dsimp only [bX11_does_98, ↓wpb, ↓wp1, ↓vI, ↓vL, ↓vD, ↓ldI, ↓ldL, ↓ldD, ↓ldR, ↓k1, ↓k2, ↓kI, ↓kL, ↓kD, ↓kII, ↓kLL, ↓kDD, ↓kR, ↓kIR, ↓kLR, ↓kIIR, ↓kLIR, ↓kDIR, ↓kRIR, ↓kNN, ↓kE, ↓br, ↓bn, ↓rtI, ↓gfv, ↓zchk, lput, ldel, lbad, alA, acat, isRf, dom, dS, dJ, isO, aTy, aLen, elAV, elR, Nat.reduceBEq, Nat.reduceAdd, Bool.or, Bool.and, Nat.add_zero, Nat.zero_add]
    try simp only [Nat.reduceLT, Nat.reduceLeDiff, Nat.reduceEqDiff, true_and, and_true, and_self, Nat.zero_le, Nat.le_refl, true_or, or_true, Bool.false_eq_true, not_false_eq_true, Nat.reduceAdd, Nat.lt_add_one, Nat.zero_lt_one, nI_add, pk_mul, ixL, vpL, ne_eq, reduceIte, wI_sA, sA_same, sA_ne, sA_sA, sA_comm, uI_at, uN_at, enc_at, uI_enc, uI_uI, itn1, itn2, itn3, itn4, itc, itc0, itc1, upM_s, upM_n]
    exact ⟨⟨_, rfl⟩, hP.op _ _⟩
  · refine Sat_of hc.1 hc.2 (by decide +kernel) (Nat.le_of_ble_eq_true rfl) (fun x hB hno => ?_)
    refine V_run hB (rt := some .int) (nL := 5) (mc := 0) rfl rfl rfl obX11_does_0 ?_
    dsimp only [bX11_does_0, ↓wpb, ↓wp1, ↓vI, ↓vL, ↓vD, ↓ldI, ↓ldL, ↓ldD, ↓ldR, ↓k1, ↓k2, ↓kI, ↓kL, ↓kD, ↓kII, ↓kLL, ↓kDD, ↓kR, ↓kIR, ↓kLR, ↓kIIR, ↓kLIR, ↓kDIR, ↓kRIR, ↓kNN, ↓kE, ↓br, ↓bn, ↓rtI, ↓gfv, ↓zchk, lput, ldel, lbad, alA, acat, isRf, dom, dS, dJ, isO, aTy, aLen, elAV, elR, Nat.reduceBEq, Nat.reduceAdd, Bool.or, Bool.and, Nat.add_zero, Nat.zero_add]
    try simp only [Nat.reduceLT, Nat.reduceLeDiff, Nat.reduceEqDiff, true_and, and_true, and_self, Nat.zero_le, Nat.le_refl, true_or, or_true, Bool.false_eq_true, not_false_eq_true, Nat.reduceAdd, Nat.lt_add_one, Nat.zero_lt_one, nI_add, pk_mul, ixL, vpL, ne_eq, reduceIte, wI_sA, sA_same, sA_ne, sA_sA, sA_comm, uI_at, uN_at, enc_at, uI_enc, uI_uI, itn1, itn2, itn3, itn4, itc, itc0, itc1, upM_s, upM_n]
    refine V_tabI hB (dflt := 123) (lo := 0) (hi := 7) (offs := #[47, 56, 67, 79, 85, 91, 98, 112]) (len := 47) (off := 98) (tgt := 99) (by decide +kernel) (by decide) (by decide) (by decide) (by decide) ?_
    refine V_run hB (rt := some .int) (nL := 5) (mc := 0) rfl rfl rfl obX11_does_99 ?_
    dsimp only [bX11_does_99, ↓wpb, ↓wp1, ↓vI, ↓vL, ↓vD, ↓ldI, ↓ldL, ↓ldD, ↓ldR, ↓k1, ↓k2, ↓kI, ↓kL, ↓kD, ↓kII, ↓kLL, ↓kDD, ↓kR, ↓kIR, ↓kLR, ↓kIIR, ↓kLIR, ↓kDIR, ↓kRIR, ↓kNN, ↓kE, ↓br, ↓bn, ↓rtI, ↓gfv, ↓zchk, lput, ldel, lbad, alA, acat, isRf, dom, dS, dJ, isO, aTy, aLen, elAV, elR, Nat.reduceBEq, Nat.reduceAdd, Bool.or, Bool.and, Nat.add_zero, Nat.zero_add]
    try simp only [Nat.reduceLT, Nat.reduceLeDiff, Nat.reduceEqDiff, true_and, and_true, and_self, Nat.zero_le, Nat.le_refl, true_or, or_true, Bool.false_eq_true, not_false_eq_true, Nat.reduceAdd, Nat.lt_add_one, Nat.zero_lt_one, nI_add, pk_mul, ixL, vpL, ne_eq, reduceIte, wI_sA, sA_same, sA_ne, sA_sA, sA_comm, uI_at, uN_at, enc_at, uI_enc, uI_uI, itn1, itn2, itn3, itn4, itc, itc0, itc1, upM_s, upM_n]
    refine V_cV hB hno (q_findOf hc hS (nI p) true) rfl (by decide +kernel) cvX11_99 (dom1 rfl) npX11_findOf ⟨by decide, by decide⟩ (Nat.le_of_ble_eq_true rfl) (n' := 0) (by decide) rfl ?_
    refine V_run hB (rt := some .int) (nL := 5) (mc := 0) rfl rfl rfl obX11_does_106 ?_
    dsimp only [bX11_does_106, ↓wpb, ↓wp1, ↓vI, ↓vL, ↓vD, ↓ldI, ↓ldL, ↓ldD, ↓ldR, ↓k1, ↓k2, ↓kI, ↓kL, ↓kD, ↓kII, ↓kLL, ↓kDD, ↓kR, ↓kIR, ↓kLR, ↓kIIR, ↓kLIR, ↓kDIR, ↓kRIR, ↓kNN, ↓kE, ↓br, ↓bn, ↓rtI, ↓gfv, ↓zchk, lput, ldel, lbad, alA, acat, isRf, dom, dS, dJ, isO, aTy, aLen, elAV, elR, Nat.reduceBEq, Nat.reduceAdd, Bool.or, Bool.and, Nat.add_zero, Nat.zero_add]
    try simp only [Nat.reduceLT, Nat.reduceLeDiff, Nat.reduceEqDiff, true_and, and_true, and_self, Nat.zero_le, Nat.le_refl, true_or, or_true, Bool.false_eq_true, not_false_eq_true, Nat.reduceAdd, Nat.lt_add_one, Nat.zero_lt_one, nI_add, pk_mul, ixL, vpL, ne_eq, reduceIte, wI_sA, sA_same, sA_ne, sA_sA, sA_comm, uI_at, uN_at, enc_at, uI_enc, uI_uI, itn1, itn2, itn3, itn4, itc, itc0, itc1, upM_s, upM_n]
    refine V_cV hB hno (q_bids hc hS ht (nI q) (nI r) (fun i hi => by have h0 := (findO_lt (t := nI p) (b := true) (a := a) hi).1; have := hI.1.1; omega)) rfl (by decide +kernel) cvX11_140 (dom1 rfl) npX11_bids ⟨by decide, by decide⟩ (Nat.le_of_ble_eq_true rfl) (n' := 0) (by decide) rfl ?_
    refine V_run hB (rt := some .int) (nL := 5) (mc := 0) rfl rfl rfl obX11_does_112 ?_
    dsimp only [bX11_does_112, ↓wpb, ↓wp1, ↓vI, ↓vL, ↓vD, ↓ldI, ↓ldL, ↓ldD, ↓ldR, ↓k1, ↓k2, ↓kI, ↓kL, ↓kD, ↓kII, ↓kLL, ↓kDD, ↓kR, ↓kIR, ↓kLR, ↓kIIR, ↓kLIR, ↓kDIR, ↓kRIR, ↓kNN, ↓kE, ↓br, ↓bn, ↓rtI, ↓gfv, ↓zchk, lput, ldel, lbad, alA, acat, isRf, dom, dS, dJ, isO, aTy, aLen, elAV, elR, Nat.reduceBEq, Nat.reduceAdd, Bool.or, Bool.and, Nat.add_zero, Nat.zero_add]
    try simp only [Nat.reduceLT, Nat.reduceLeDiff, Nat.reduceEqDiff, true_and, and_true, and_self, Nat.zero_le, Nat.le_refl, true_or, or_true, Bool.false_eq_true, not_false_eq_true, Nat.reduceAdd, Nat.lt_add_one, Nat.zero_lt_one, nI_add, pk_mul, ixL, vpL, ne_eq, reduceIte, wI_sA, sA_same, sA_ne, sA_sA, sA_comm, uI_at, uN_at, enc_at, uI_enc, uI_uI, itn1, itn2, itn3, itn4, itc, itc0, itc1, upM_s, upM_n]
    exact ⟨⟨_, rfl⟩, hP.op _ _⟩
  · refine Sat_of hc.1 hc.2 (by decide +kernel) (Nat.le_of_ble_eq_true rfl) (fun x hB hno => ?_)
    refine V_run hB (rt := some .int) (nL := 5) (mc := 0) rfl rfl rfl obX11_does_0 ?_
    dsimp only [bX11_does_0, ↓wpb, ↓wp1, ↓vI, ↓vL, ↓vD, ↓ldI, ↓ldL, ↓ldD, ↓ldR, ↓k1, ↓k2, ↓kI, ↓kL, ↓kD, ↓kII, ↓kLL, ↓kDD, ↓kR, ↓kIR, ↓kLR, ↓kIIR, ↓kLIR, ↓kDIR, ↓kRIR, ↓kNN, ↓kE, ↓br, ↓bn, ↓rtI, ↓gfv, ↓zchk, lput, ldel, lbad, alA, acat, isRf, dom, dS, dJ, isO, aTy, aLen, elAV, elR, Nat.reduceBEq, Nat.reduceAdd, Bool.or, Bool.and, Nat.add_zero, Nat.zero_add]
    try simp only [Nat.reduceLT, Nat.reduceLeDiff, Nat.reduceEqDiff, true_and, and_true, and_self, Nat.zero_le, Nat.le_refl, true_or, or_true, Bool.false_eq_true, not_false_eq_true, Nat.reduceAdd, Nat.lt_add_one, Nat.zero_lt_one, nI_add, pk_mul, ixL, vpL, ne_eq, reduceIte, wI_sA, sA_same, sA_ne, sA_sA, sA_comm, uI_at, uN_at, enc_at, uI_enc, uI_uI, itn1, itn2, itn3, itn4, itc, itc0, itc1, upM_s, upM_n]
    refine V_tabI hB (dflt := 123) (lo := 0) (hi := 7) (offs := #[47, 56, 67, 79, 85, 91, 98, 112]) (len := 47) (off := 112) (tgt := 113) (by decide +kernel) (by decide) (by decide) (by decide) (by decide) ?_
    refine V_run hB (rt := some .int) (nL := 5) (mc := 0) rfl rfl rfl obX11_does_113 ?_
    dsimp only [bX11_does_113, ↓wpb, ↓wp1, ↓vI, ↓vL, ↓vD, ↓ldI, ↓ldL, ↓ldD, ↓ldR, ↓k1, ↓k2, ↓kI, ↓kL, ↓kD, ↓kII, ↓kLL, ↓kDD, ↓kR, ↓kIR, ↓kLR, ↓kIIR, ↓kLIR, ↓kDIR, ↓kRIR, ↓kNN, ↓kE, ↓br, ↓bn, ↓rtI, ↓gfv, ↓zchk, lput, ldel, lbad, alA, acat, isRf, dom, dS, dJ, isO, aTy, aLen, elAV, elR, Nat.reduceBEq, Nat.reduceAdd, Bool.or, Bool.and, Nat.add_zero, Nat.zero_add]
    try simp only [Nat.reduceLT, Nat.reduceLeDiff, Nat.reduceEqDiff, true_and, and_true, and_self, Nat.zero_le, Nat.le_refl, true_or, or_true, Bool.false_eq_true, not_false_eq_true, Nat.reduceAdd, Nat.lt_add_one, Nat.zero_lt_one, nI_add, pk_mul, ixL, vpL, ne_eq, reduceIte, wI_sA, sA_same, sA_ne, sA_sA, sA_comm, uI_at, uN_at, enc_at, uI_enc, uI_uI, itn1, itn2, itn3, itn4, itc, itc0, itc1, upM_s, upM_n]
    refine V_cV hB hno (q_findOf hc hS (nI p) true) rfl (by decide +kernel) cvX11_99 (dom1 rfl) npX11_findOf ⟨by decide, by decide⟩ (Nat.le_of_ble_eq_true rfl) (n' := 0) (by decide) rfl ?_
    refine V_cV hB hno (q_sells hc hS ht (fun i hi => ⟨(findO_lt hi).1, fun c hc => by have := hI.bd hn 2; omega⟩) (fun i y hi hy => by have h0 := (findO_lt hi).1; have hm := hI.1.1; have h1 := paid_le hI (y := y) (show i < 10 by omega); have h2 := hI.bd hn 2; have h3 := hI.bd hn 7; have h4 := hI.min i (by omega); omega)) rfl (by decide +kernel) cvX11_153 (dom1 rfl) npX11_sells ⟨by decide, by decide⟩ (Nat.le_of_ble_eq_true rfl) (n' := 0) (by decide) rfl ?_
    refine V_run hB (rt := some .int) (nL := 5) (mc := 0) rfl rfl rfl obX11_does_123 ?_
    dsimp only [bX11_does_123, ↓wpb, ↓wp1, ↓vI, ↓vL, ↓vD, ↓ldI, ↓ldL, ↓ldD, ↓ldR, ↓k1, ↓k2, ↓kI, ↓kL, ↓kD, ↓kII, ↓kLL, ↓kDD, ↓kR, ↓kIR, ↓kLR, ↓kIIR, ↓kLIR, ↓kDIR, ↓kRIR, ↓kNN, ↓kE, ↓br, ↓bn, ↓rtI, ↓gfv, ↓zchk, lput, ldel, lbad, alA, acat, isRf, dom, dS, dJ, isO, aTy, aLen, elAV, elR, Nat.reduceBEq, Nat.reduceAdd, Bool.or, Bool.and, Nat.add_zero, Nat.zero_add]
    try simp only [Nat.reduceLT, Nat.reduceLeDiff, Nat.reduceEqDiff, true_and, and_true, and_self, Nat.zero_le, Nat.le_refl, true_or, or_true, Bool.false_eq_true, not_false_eq_true, Nat.reduceAdd, Nat.lt_add_one, Nat.zero_lt_one, nI_add, pk_mul, ixL, vpL, ne_eq, reduceIte, wI_sA, sA_same, sA_ne, sA_sA, sA_comm, uI_at, uN_at, enc_at, uI_enc, uI_uI, itn1, itn2, itn3, itn4, itc, itc0, itc1, upM_s, upM_n]
    exact ⟨⟨_, rfl⟩, hP.op _ _⟩
  · refine Sat_of hc.1 hc.2 (by decide +kernel) (Nat.le_of_ble_eq_true rfl) (fun x hB hno => ?_)
    refine V_run hB (rt := some .int) (nL := 5) (mc := 0) rfl rfl rfl obX11_does_0 ?_
    dsimp only [bX11_does_0, ↓wpb, ↓wp1, ↓vI, ↓vL, ↓vD, ↓ldI, ↓ldL, ↓ldD, ↓ldR, ↓k1, ↓k2, ↓kI, ↓kL, ↓kD, ↓kII, ↓kLL, ↓kDD, ↓kR, ↓kIR, ↓kLR, ↓kIIR, ↓kLIR, ↓kDIR, ↓kRIR, ↓kNN, ↓kE, ↓br, ↓bn, ↓rtI, ↓gfv, ↓zchk, lput, ldel, lbad, alA, acat, isRf, dom, dS, dJ, isO, aTy, aLen, elAV, elR, Nat.reduceBEq, Nat.reduceAdd, Bool.or, Bool.and, Nat.add_zero, Nat.zero_add]
    try simp only [Nat.reduceLT, Nat.reduceLeDiff, Nat.reduceEqDiff, true_and, and_true, and_self, Nat.zero_le, Nat.le_refl, true_or, or_true, Bool.false_eq_true, not_false_eq_true, Nat.reduceAdd, Nat.lt_add_one, Nat.zero_lt_one, nI_add, pk_mul, ixL, vpL, ne_eq, reduceIte, wI_sA, sA_same, sA_ne, sA_sA, sA_comm, uI_at, uN_at, enc_at, uI_enc, uI_uI, itn1, itn2, itn3, itn4, itc, itc0, itc1, upM_s, upM_n]
    refine V_tabO hB (dflt := 123) (lo := 0) (hi := 7) (offs := #[47, 56, 67, 79, 85, 91, 98, 112]) (len := 47) (tgt := 124) (by decide +kernel) (by decide) (by decide) ?_
    refine V_run hB (rt := some .int) (nL := 5) (mc := 0) rfl rfl rfl obX11_does_124 ?_
    dsimp only [bX11_does_124, ↓wpb, ↓wp1, ↓vI, ↓vL, ↓vD, ↓ldI, ↓ldL, ↓ldD, ↓ldR, ↓k1, ↓k2, ↓kI, ↓kL, ↓kD, ↓kII, ↓kLL, ↓kDD, ↓kR, ↓kIR, ↓kLR, ↓kIIR, ↓kLIR, ↓kDIR, ↓kRIR, ↓kNN, ↓kE, ↓br, ↓bn, ↓rtI, ↓gfv, ↓zchk, lput, ldel, lbad, alA, acat, isRf, dom, dS, dJ, isO, aTy, aLen, elAV, elR, Nat.reduceBEq, Nat.reduceAdd, Bool.or, Bool.and, Nat.add_zero, Nat.zero_add]
    try simp only [Nat.reduceLT, Nat.reduceLeDiff, Nat.reduceEqDiff, true_and, and_true, and_self, Nat.zero_le, Nat.le_refl, true_or, or_true, Bool.false_eq_true, not_false_eq_true, Nat.reduceAdd, Nat.lt_add_one, Nat.zero_lt_one, nI_add, pk_mul, ixL, vpL, ne_eq, reduceIte, wI_sA, sA_same, sA_ne, sA_sA, sA_comm, uI_at, uN_at, enc_at, uI_enc, uI_uI, itn1, itn2, itn3, itn4, itc, itc0, itc1, upM_s, upM_n]
    refine V_callV hB hno (q_sellsAll hc hS ht hI.bidOk hI.min (fun k => by have := hI.bd hn k; omega)) rfl (by decide +kernel) cvX11_165 (dom1 rfl) npX11_sellsAll ⟨by decide, by decide⟩ (Nat.le_of_ble_eq_true rfl) (by decide) ?_ ?_
    rotate_left
    · intro E τ' hq; cases hq.1
    intro v τ' hq
    obtain ⟨e1, r9, q9, rfl⟩ := hq
    cases e1
    show V x _ 0 128 _ _
    refine V_run hB (rt := some .int) (nL := 5) (mc := 0) rfl rfl rfl obX11_does_128 ?_
    dsimp only [bX11_does_128, ↓wpb, ↓wp1, ↓vI, ↓vL, ↓vD, ↓ldI, ↓ldL, ↓ldD, ↓ldR, ↓k1, ↓k2, ↓kI, ↓kL, ↓kD, ↓kII, ↓kLL, ↓kDD, ↓kR, ↓kIR, ↓kLR, ↓kIIR, ↓kLIR, ↓kDIR, ↓kRIR, ↓kNN, ↓kE, ↓br, ↓bn, ↓rtI, ↓gfv, ↓zchk, lput, ldel, lbad, alA, acat, isRf, dom, dS, dJ, isO, aTy, aLen, elAV, elR, Nat.reduceBEq, Nat.reduceAdd, Bool.or, Bool.and, Nat.add_zero, Nat.zero_add]
    try simp only [Nat.reduceLT, Nat.reduceLeDiff, Nat.reduceEqDiff, true_and, and_true, and_self, Nat.zero_le, Nat.le_refl, true_or, or_true, Bool.false_eq_true, not_false_eq_true, Nat.reduceAdd, Nat.lt_add_one, Nat.zero_lt_one, nI_add, pk_mul, ixL, vpL, ne_eq, reduceIte, wI_sA, sA_same, sA_ne, sA_sA, sA_comm, uI_at, uN_at, enc_at, uI_enc, uI_uI, itn1, itn2, itn3, itn4, itc, itc0, itc1, upM_s, upM_n]
    exact ⟨⟨_, rfl⟩, ((hP.op _ _).sX r9 (Or.inl rfl)).sX q9 (Or.inr rfl)⟩
end MP
/-! ===== programs: a command ===== -/
def m1 (w : Nat) : Nat := if w = 0 ∨ w = 4 ∨ w = 5 then 1 else 3
def stN (m : Option Nat) (T : List Nat) (b : Bool) (h : Nat) : Bool × Nat × Nat := match m with
  | none => (b, 0, h)
  | some m => if b = true then (true, 0, h) else bhR T m h
def cmA (w : Nat) : Option Nat := if w = 0 ∨ w = 2 then some 3 else none
def cm2 (w : Nat) : Option Nat := if w = 5 ∨ w = 6 then some 1 else cmA w
def cm3 (w : Nat) : Option Nat := if w = 0 ∨ w = 6 then some 3 else none
def cmP (T : List Nat) (w h : Nat) : Bool × Nat × Nat := if w < 8 then dgR T (m1 w) h else (false, 0, h)
def cmQ (T : List Nat) (w h : Nat) : Bool × Nat × Nat := stN (cm2 w) T (cmP T w h).1 (cmP T w h).2.2
def cmX (T : List Nat) (w h : Nat) : Bool × Nat × Nat := stN (cm3 w) T (cmQ T w h).1 (cmQ T w h).2.2
def cmS (T : List Nat) (w h : Nat) : Bool × Cmd × Nat := ((cmX T w h).1, (w, (cmP T w h).2.1, (cmQ T w h).2.1, (cmX T w h).2.1), (cmX T w h).2.2)
def cmdR (T : List Nat) (h : Nat) : Bool × Cmd × Nat := match wdR T h 8 0 with
  | (none, q) => (true, (0, 0, 0, 0), q)
  | (some w, q) => cmS T w q
theorem dgt_ge (T : List Nat) : ∀ m h n, h ≤ (dgt T m h n).2
  | 0, h, n => Nat.le_refl _
  | m + 1, h, n => by
    unfold dgt
    split
    · exact Nat.le_refl _
    · split
      · have := dgt_ge T m (h + 1); exact Nat.le_trans (Nat.le_succ h) (this _)
      · exact Nat.le_refl _
theorem wdR_ge (T : List Nat) (h : Nat) : ∀ f n, h ≤ (wdR T h f n).2
  | 0, n => Nat.le_add_right _ _
  | f + 1, n => by
    unfold wdR
    split
    · split
      · exact Nat.le_add_right _ _
      · exact wdR_ge T h f (n + 1)
    · exact Nat.le_add_right _ _
theorem stN_ge (T : List Nat) (m : Option Nat) (b : Bool) (h : Nat) : h ≤ (stN m T b h).2.2 := by
  unfold stN
  split
  · exact Nat.le_refl _
  · split
    · exact Nat.le_refl _
    · unfold bhR
      split
      · have := dgt_ge T ‹Nat› (h + 1) 0
        exact Nat.le_trans (Nat.le_succ h) this
      · exact Nat.le_refl _
theorem cmdR_ge (T : List Nat) (h : Nat) : h ≤ (cmdR T h).2.2 := by
  have h0 := wdR_ge T h 8 0
  unfold cmdR
  split
  · rename_i q e; rw [e] at h0; exact h0
  · rename_i w q e
    rw [e] at h0
    refine Nat.le_trans h0 ?_
    unfold cmS
    refine Nat.le_trans ?_ (stN_ge T _ _ _)
    refine Nat.le_trans ?_ (stN_ge T _ _ _)
    unfold cmP
    split
    · exact dgt_ge T _ _ _
    · exact Nat.le_refl _
/-- what a command leaves of the code and the row -/
def dsR (d w : Bool) (a : Nat → Nat) (m : Cmd) : Nat × (Nat → Nat) := if w = true ∨ d = false then (0, a) else ((doS a m).1, (doS a m).2.2)
theorem wdR_lt {T : List Nat} {h w q : Nat} : ∀ {f n}, wdR T h f n = (some w, q) → w < 9
  | 0, n, e => by cases e
  | f + 1, n, e => by
    unfold wdR at e
    split at e
    · split at e
      · rename_i w' hw; cases e; exact (lwU_lt hw).1
      · exact wdR_lt e
    · cases e
section MQ
variable {l : Launch} {G : GG} {τ0 τ : Mem} {T : List Nat} {h n : Nat} {a : Nat → Nat} {ρ : Rho}
theorem q_command (hc : Ctx l G) {d : Bool} (hP : PS τ0 T τ h false d 0 a ρ) (hI : IV n a) (hn : n ≤ 1000) : Sat l G iX11_command [mM] τ (voidP (fun τ' => PS τ0 T τ' (cmdR T h).2.2 (cmdR T h).1 d (dsR d (cmdR T h).1 a (cmdR T h).2.1).1 (dsR d (cmdR T h).1 a (cmdR T h).2.1).2 ρ)) := by
  refine Sat_of hc.1 hc.2 (by decide +kernel) (Nat.le_of_ble_eq_true rfl) (fun x hB hno => ?_)
  refine V_run hB (rt := none) (nL := 6) (mc := 0) rfl rfl rfl obX11_command_0 ?_
  dsimp only [bX11_command_0, ↓wpb, ↓wp1, ↓vI, ↓vL, ↓vD, ↓ldI, ↓ldL, ↓ldD, ↓ldR, ↓k1, ↓k2, ↓kI, ↓kL, ↓kD, ↓kII, ↓kLL, ↓kDD, ↓kR, ↓kIR, ↓kLR, ↓kIIR, ↓kLIR, ↓kDIR, ↓kRIR, ↓kNN, ↓kE, ↓br, ↓bn, ↓rtI, ↓gfv, ↓zchk, lput, ldel, lbad, alA, acat, isRf, dom, dS, dJ, isO, aTy, aLen, elAV, elR, Nat.reduceBEq, Nat.reduceAdd, Bool.or, Bool.and, Nat.add_zero, Nat.zero_add]
  try simp only [Nat.reduceLT, Nat.reduceLeDiff, Nat.reduceEqDiff, true_and, and_true, and_self, Nat.zero_le, Nat.le_refl, true_or, or_true, Bool.false_eq_true, not_false_eq_true, Nat.reduceAdd, Nat.lt_add_one, Nat.zero_lt_one, nI_add, pk_mul, ixL, vpL, ne_eq, reduceIte, wI_sA, sA_same, sA_ne, sA_sA, sA_comm, uI_at, uN_at, enc_at, uI_enc, uI_uI, itn1, itn2, itn3, itn4, itc, itc0, itc1, upM_s, upM_n]
  refine V_callV hB hno (q_word hc hP) rfl (by decide +kernel) cvX11_207 (dom1 rfl) npX11_word ⟨by decide, by decide⟩ (Nat.le_of_ble_eq_true rfl) (by decide) ?_ ?_
  rotate_left
  · intro E τ' hq; cases hq.1
  intro v t hq
  obtain ⟨e1, hP1⟩ := hq
  cases e1
  show V x t 0 4 _ _
  have f20 := hP1.2.1.2.2.1
  refine V_run hB (rt := none) (nL := 6) (mc := 0) rfl rfl rfl obX11_command_4 ?_
  dsimp only [bX11_command_4, ↓wpb, ↓wp1, ↓vI, ↓vL, ↓vD, ↓ldI, ↓ldL, ↓ldD, ↓ldR, ↓k1, ↓k2, ↓kI, ↓kL, ↓kD, ↓kII, ↓kLL, ↓kDD, ↓kR, ↓kIR, ↓kLR, ↓kIIR, ↓kLIR, ↓kDIR, ↓kRIR, ↓kNN, ↓kE, ↓br, ↓bn, ↓rtI, ↓gfv, ↓zchk, lput, ldel, lbad, alA, acat, isRf, dom, dS, dJ, isO, aTy, aLen, elAV, elR, Nat.reduceBEq, Nat.reduceAdd, Bool.or, Bool.and, Nat.add_zero, Nat.zero_add]
  try simp only [Nat.reduceLT, Nat.reduceLeDiff, Nat.reduceEqDiff, true_and, and_true, and_self, Nat.zero_le, Nat.le_refl, true_or, or_true, Bool.false_eq_true, not_false_eq_true, Nat.reduceAdd, Nat.lt_add_one, Nat.zero_lt_one, nI_add, pk_mul, ixL, vpL, ne_eq, reduceIte, wI_sA, sA_same, sA_ne, sA_sA, sA_comm, uI_at, uN_at, enc_at, uI_enc, uI_uI, itn1, itn2, itn3, itn4, itc, itc0, itc1, upM_s, upM_n, f20, bN_0]
  rcases e : wdR T h 8 0 with ⟨_ | w, q0⟩
  · have ec : cmdR T h = (true, (0, 0, 0, 0), q0) := by unfold cmdR; rw [e]
    rw [ec] at hB
    rw [e] at hP1
    exact ⟨fun q => (nomatch q), fun _ => ⟨rfl, by rw [ec]; exact hP1⟩⟩
  have hw := wdR_lt e
  rw [e] at hP1
  refine ⟨fun _ => ?_, fun q => absurd rfl q⟩
  have ec : cmdR T h = cmS T w q0 := by unfold cmdR; rw [e]
  rw [ec] at hB
  rw [oI_some]
  have hP1 : PS τ0 T t q0 false d 0 a ρ := hP1
  have wk : ∀ k, k < 9 → (nI w = nI k ↔ w = k) := fun k hk => nI_eq (by omega) (by omega)
  have w0 : nI w = 0 ↔ w = 0 := wk 0 (by omega)
  have k120 : ∀ t4, PS τ0 T t4 (cmX T w q0).2.2 (cmX T w q0).1 d 0 a ρ → V x t4 0 120 [(0, mM), (1, aI (nI w)), (2, aI (nI (cmP T w q0).2.1)), (3, aI (nI (cmQ T w q0).2.1)), (4, aI (nI (cmX T w q0).2.1))] [] := by
    intro t4 hP4
    have f20 := hP4.2.1.2.2.1
    have f21 := hP4.2.1.2.2.2
    have e134 : (cmX T w q0).1 = true ∨ d = false → V x t4 0 134 [(0, mM), (1, aI (nI w)), (2, aI (nI (cmP T w q0).2.1)), (3, aI (nI (cmQ T w q0).2.1)), (4, aI (nI (cmX T w q0).2.1))] [] := by
      intro hwd
      have e9 : dsR d (cmS T w q0).1 a (cmS T w q0).2.1 = (0, a) := if_pos hwd
      rw [e9] at hB
      refine V_run hB (rt := none) (nL := 6) (mc := 0) rfl rfl rfl obX11_command_134 ?_
      dsimp only [bX11_command_134, ↓wpb, ↓wp1, ↓vI, ↓vL, ↓vD, ↓ldI, ↓ldL, ↓ldD, ↓ldR, ↓k1, ↓k2, ↓kI, ↓kL, ↓kD, ↓kII, ↓kLL, ↓kDD, ↓kR, ↓kIR, ↓kLR, ↓kIIR, ↓kLIR, ↓kDIR, ↓kRIR, ↓kNN, ↓kE, ↓br, ↓bn, ↓rtI, ↓gfv, ↓zchk, lput, ldel, lbad, alA, acat, isRf, dom, dS, dJ, isO, aTy, aLen, elAV, elR, Nat.reduceBEq, Nat.reduceAdd, Bool.or, Bool.and, Nat.add_zero, Nat.zero_add]
      try simp only [Nat.reduceLT, Nat.reduceLeDiff, Nat.reduceEqDiff, true_and, and_true, and_self, Nat.zero_le, Nat.le_refl, true_or, or_true, Bool.false_eq_true, not_false_eq_true, Nat.reduceAdd, Nat.lt_add_one, Nat.zero_lt_one, nI_add, pk_mul, ixL, vpL, ne_eq, reduceIte, wI_sA, sA_same, sA_ne, sA_sA, sA_comm, uI_at, uN_at, enc_at, uI_enc, uI_uI, itn1, itn2, itn3, itn4, itc, itc0, itc1, upM_s, upM_n]
      exact ⟨rfl, hP4⟩
    refine V_run hB (rt := none) (nL := 6) (mc := 0) rfl rfl rfl (ops := [(120, .aload_n 0, 1, (0, 0, 0, 0, 0, 0), 0), (121, .getfield 194, 3, (30, 20, 0, 0, 0, 0), 0), (124, .ifCond .ne 10, 3, (134, 0, 0, 0, 0, 0), 0), (127, .aload_n 0, 1, (0, 0, 0, 0, 0, 0), 0), (128, .getfield 213, 3, (30, 21, 0, 0, 0, 0), 0), (131, .ifCond .ne 4, 3, (135, 0, 0, 0, 0, 0), 0)]) (by decide +kernel) ?_
    dsimp only [↓wpb, ↓wp1, ↓vI, ↓vL, ↓vD, ↓ldI, ↓ldL, ↓ldD, ↓ldR, ↓k1, ↓k2, ↓kI, ↓kL, ↓kD, ↓kII, ↓kLL, ↓kDD, ↓kR, ↓kIR, ↓kLR, ↓kIIR, ↓kLIR, ↓kDIR, ↓kRIR, ↓kNN, ↓kE, ↓br, ↓bn, ↓rtI, ↓gfv, ↓zchk, lput, ldel, lbad, alA, acat, isRf, dom, dS, dJ, isO, aTy, aLen, elAV, elR, Nat.reduceBEq, Nat.reduceAdd, Bool.or, Bool.and, Nat.add_zero, Nat.zero_add]
    try simp only [Nat.reduceLT, Nat.reduceLeDiff, Nat.reduceEqDiff, true_and, and_true, and_self, Nat.zero_le, Nat.le_refl, true_or, or_true, Bool.false_eq_true, not_false_eq_true, Nat.reduceAdd, Nat.lt_add_one, Nat.zero_lt_one, nI_add, pk_mul, ixL, vpL, ne_eq, reduceIte, wI_sA, sA_same, sA_ne, sA_sA, sA_comm, uI_at, uN_at, enc_at, uI_enc, uI_uI, itn1, itn2, itn3, itn4, itc, itc0, itc1, upM_s, upM_n, f20, f21, bN_0]
    refine ⟨fun z => e134 (Or.inl (by simpa using z)), fun z => ⟨fun z2 => ?_, fun z2 => e134 (Or.inr z2)⟩⟩
    have z2 : d = true := by simpa using z2
    subst z2
    have e9 : dsR true (cmS T w q0).1 a (cmS T w q0).2.1 = ((doS a (cmS T w q0).2.1).1, (doS a (cmS T w q0).2.1).2.2) := if_neg (fun y => by rcases y with y | y; exact absurd (z.symm.trans y) (by decide); cases y)
    rw [e9] at hB
    refine V_run hB (rt := none) (nL := 6) (mc := 0) rfl rfl rfl obX11_command_135 ?_
    dsimp only [bX11_command_135, ↓wpb, ↓wp1, ↓vI, ↓vL, ↓vD, ↓ldI, ↓ldL, ↓ldD, ↓ldR, ↓k1, ↓k2, ↓kI, ↓kL, ↓kD, ↓kII, ↓kLL, ↓kDD, ↓kR, ↓kIR, ↓kLR, ↓kIIR, ↓kLIR, ↓kDIR, ↓kRIR, ↓kNN, ↓kE, ↓br, ↓bn, ↓rtI, ↓gfv, ↓zchk, lput, ldel, lbad, alA, acat, isRf, dom, dS, dJ, isO, aTy, aLen, elAV, elR, Nat.reduceBEq, Nat.reduceAdd, Bool.or, Bool.and, Nat.add_zero, Nat.zero_add]
    try simp only [Nat.reduceLT, Nat.reduceLeDiff, Nat.reduceEqDiff, true_and, and_true, and_self, Nat.zero_le, Nat.le_refl, true_or, or_true, Bool.false_eq_true, not_false_eq_true, Nat.reduceAdd, Nat.lt_add_one, Nat.zero_lt_one, nI_add, pk_mul, ixL, vpL, ne_eq, reduceIte, wI_sA, sA_same, sA_ne, sA_sA, sA_comm, uI_at, uN_at, enc_at, uI_enc, uI_uI, itn1, itn2, itn3, itn4, itc, itc0, itc1, upM_s, upM_n]
    refine V_callV hB hno (q_does hc hP4 hI hn hw (p := (cmP T w q0).2.1) (q := (cmQ T w q0).2.1) (r := (cmX T w q0).2.1)) rfl (by decide +kernel) cvX11_216 (dom1 rfl) npX11_does ⟨by decide, by decide⟩ (Nat.le_of_ble_eq_true rfl) (by decide) ?_ ?_
    rotate_left
    · intro E τ' hq; obtain ⟨⟨z, hz⟩, -⟩ := hq; cases hz
    intro v5 t5 hq
    obtain ⟨⟨z5, e5⟩, hP5⟩ := hq
    cases e5
    show V x t5 0 144 _ _
    refine V_run hB (rt := none) (nL := 6) (mc := 0) rfl rfl rfl obX11_command_144 ?_
    dsimp only [bX11_command_144, ↓wpb, ↓wp1, ↓vI, ↓vL, ↓vD, ↓ldI, ↓ldL, ↓ldD, ↓ldR, ↓k1, ↓k2, ↓kI, ↓kL, ↓kD, ↓kII, ↓kLL, ↓kDD, ↓kR, ↓kIR, ↓kLR, ↓kIIR, ↓kLIR, ↓kDIR, ↓kRIR, ↓kNN, ↓kE, ↓br, ↓bn, ↓rtI, ↓gfv, ↓zchk, lput, ldel, lbad, alA, acat, isRf, dom, dS, dJ, isO, aTy, aLen, elAV, elR, Nat.reduceBEq, Nat.reduceAdd, Bool.or, Bool.and, Nat.add_zero, Nat.zero_add]
    try simp only [Nat.reduceLT, Nat.reduceLeDiff, Nat.reduceEqDiff, true_and, and_true, and_self, Nat.zero_le, Nat.le_refl, true_or, or_true, Bool.false_eq_true, not_false_eq_true, Nat.reduceAdd, Nat.lt_add_one, Nat.zero_lt_one, nI_add, pk_mul, ixL, vpL, ne_eq, reduceIte, wI_sA, sA_same, sA_ne, sA_sA, sA_comm, uI_at, uN_at, enc_at, uI_enc, uI_uI, itn1, itn2, itn3, itn4, itc, itc0, itc1, upM_s, upM_n]
    exact ⟨rfl, hP5⟩
  have k96 : ∀ t3, PS τ0 T t3 (cmQ T w q0).2.2 (cmQ T w q0).1 d 0 a ρ → V x t3 0 96 [(0, mM), (1, aI (nI w)), (2, aI (nI (cmP T w q0).2.1)), (3, aI (nI (cmQ T w q0).2.1)), (4, aI (nI 0))] [] := by
    intro t3 hP3
    have f20 := hP3.2.1.2.2.1
    have k106 : w = 0 ∨ w = 6 → V x t3 0 106 [(0, mM), (1, aI (nI w)), (2, aI (nI (cmP T w q0).2.1)), (3, aI (nI (cmQ T w q0).2.1)), (4, aI (nI 0))] [] := by
      intro hq
      have em : cm3 w = some 3 := if_pos hq
      refine V_run hB (rt := none) (nL := 6) (mc := 0) rfl rfl rfl obX11_command_106 ?_
      dsimp only [bX11_command_106, ↓wpb, ↓wp1, ↓vI, ↓vL, ↓vD, ↓ldI, ↓ldL, ↓ldD, ↓ldR, ↓k1, ↓k2, ↓kI, ↓kL, ↓kD, ↓kII, ↓kLL, ↓kDD, ↓kR, ↓kIR, ↓kLR, ↓kIIR, ↓kLIR, ↓kDIR, ↓kRIR, ↓kNN, ↓kE, ↓br, ↓bn, ↓rtI, ↓gfv, ↓zchk, lput, ldel, lbad, alA, acat, isRf, dom, dS, dJ, isO, aTy, aLen, elAV, elR, Nat.reduceBEq, Nat.reduceAdd, Bool.or, Bool.and, Nat.add_zero, Nat.zero_add]
      try simp only [Nat.reduceLT, Nat.reduceLeDiff, Nat.reduceEqDiff, true_and, and_true, and_self, Nat.zero_le, Nat.le_refl, true_or, or_true, Bool.false_eq_true, not_false_eq_true, Nat.reduceAdd, Nat.lt_add_one, Nat.zero_lt_one, nI_add, pk_mul, ixL, vpL, ne_eq, reduceIte, wI_sA, sA_same, sA_ne, sA_sA, sA_comm, uI_at, uN_at, enc_at, uI_enc, uI_uI, itn1, itn2, itn3, itn4, itc, itc0, itc1, upM_s, upM_n, f20, bN_0]
      refine ⟨fun z => ?_, fun z => ?_⟩
      · have z : (cmQ T w q0).1 = true := by simpa using z
        have ex : cmX T w q0 = (true, 0, (cmQ T w q0).2.2) := by unfold cmX stN; rw [em]; exact if_pos z
        have k := k120 t3
        rw [ex] at k
        rw [z] at hP3
        exact k hP3
      · have ex : cmX T w q0 = bhR T 3 (cmQ T w q0).2.2 := by unfold cmX stN; rw [em]; exact if_neg (by rw [z]; decide)
        rw [z] at hP3
        refine V_callV hB hno (q_behind hc hP3 (m := 3) (by omega)) rfl (by decide +kernel) cvX11_210 (dom1 rfl) npX11_behind ⟨by decide, by decide⟩ (Nat.le_of_ble_eq_true rfl) (by decide) ?_ ?_
        rotate_left
        · intro E τ' hq; cases hq.1
        intro v5 t5 hq
        obtain ⟨e5, hP5⟩ := hq
        cases e5
        show V x t5 0 118 _ _
        refine V_run hB (rt := none) (nL := 6) (mc := 0) rfl rfl rfl (ops := [(118, .istore 4, 2, (4, 0, 0, 0, 0, 0), 0)]) (by decide +kernel) ?_
        dsimp only [↓wpb, ↓wp1, ↓vI, ↓vL, ↓vD, ↓ldI, ↓ldL, ↓ldD, ↓ldR, ↓k1, ↓k2, ↓kI, ↓kL, ↓kD, ↓kII, ↓kLL, ↓kDD, ↓kR, ↓kIR, ↓kLR, ↓kIIR, ↓kLIR, ↓kDIR, ↓kRIR, ↓kNN, ↓kE, ↓br, ↓bn, ↓rtI, ↓gfv, ↓zchk, lput, ldel, lbad, alA, acat, isRf, dom, dS, dJ, isO, aTy, aLen, elAV, elR, Nat.reduceBEq, Nat.reduceAdd, Bool.or, Bool.and, Nat.add_zero, Nat.zero_add]
        try simp only [Nat.reduceLT, Nat.reduceLeDiff, Nat.reduceEqDiff, true_and, and_true, and_self, Nat.zero_le, Nat.le_refl, true_or, or_true, Bool.false_eq_true, not_false_eq_true, Nat.reduceAdd, Nat.lt_add_one, Nat.zero_lt_one, nI_add, pk_mul, ixL, vpL, ne_eq, reduceIte, wI_sA, sA_same, sA_ne, sA_sA, sA_comm, uI_at, uN_at, enc_at, uI_enc, uI_uI, itn1, itn2, itn3, itn4, itc, itc0, itc1, upM_s, upM_n]
        rw [← ex] at hP5 ⊢
        exact k120 t5 hP5
    have k0 : cm3 w = none → V x t3 0 120 [(0, mM), (1, aI (nI w)), (2, aI (nI (cmP T w q0).2.1)), (3, aI (nI (cmQ T w q0).2.1)), (4, aI (nI 0))] [] := by
      intro em
      have ex : cmX T w q0 = ((cmQ T w q0).1, 0, (cmQ T w q0).2.2) := by unfold cmX stN; rw [em]
      have k := k120 t3
      rw [ex] at k
      exact k hP3
    refine V_run hB (rt := none) (nL := 6) (mc := 0) rfl rfl rfl (ops := [(96, .iload_n 1, 1, (1, 0, 0, 0, 0, 0), 0), (97, .ifCond .eq 9, 3, (106, 0, 0, 0, 0, 0), 0), (100, .iload_n 1, 1, (1, 0, 0, 0, 0, 0), 0), (101, .bipush 6, 2, (0, 0, 0, 0, 0, 0), nI 6), (103, .if_icmp .ne 17, 3, (120, 0, 0, 0, 0, 0), 0)]) (by decide +kernel) ?_
    dsimp only [↓wpb, ↓wp1, ↓vI, ↓vL, ↓vD, ↓ldI, ↓ldL, ↓ldD, ↓ldR, ↓k1, ↓k2, ↓kI, ↓kL, ↓kD, ↓kII, ↓kLL, ↓kDD, ↓kR, ↓kIR, ↓kLR, ↓kIIR, ↓kLIR, ↓kDIR, ↓kRIR, ↓kNN, ↓kE, ↓br, ↓bn, ↓rtI, ↓gfv, ↓zchk, lput, ldel, lbad, alA, acat, isRf, dom, dS, dJ, isO, aTy, aLen, elAV, elR, Nat.reduceBEq, Nat.reduceAdd, Bool.or, Bool.and, Nat.add_zero, Nat.zero_add]
    try simp only [Nat.reduceLT, Nat.reduceLeDiff, Nat.reduceEqDiff, true_and, and_true, and_self, Nat.zero_le, Nat.le_refl, true_or, or_true, Bool.false_eq_true, not_false_eq_true, Nat.reduceAdd, Nat.lt_add_one, Nat.zero_lt_one, nI_add, pk_mul, ixL, vpL, ne_eq, reduceIte, wI_sA, sA_same, sA_ne, sA_sA, sA_comm, uI_at, uN_at, enc_at, uI_enc, uI_uI, itn1, itn2, itn3, itn4, itc, itc0, itc1, upM_s, upM_n, w0]
    refine ⟨fun z => k106 (Or.inl z), fun z => ⟨fun z2 => k0 (if_neg ?_), fun z2 => k106 (Or.inr ((wk 6 (by omega)).mp z2))⟩⟩
    exact fun y => y.elim z (fun y => z2 ((wk 6 (by omega)).mpr y))
  have k72 : ∀ t3 two b q, PS τ0 T t3 q b d 0 a ρ → (b, two, q) = stN (cmA w) T (cmP T w q0).1 (cmP T w q0).2.2 → V x t3 0 72 [(0, mM), (1, aI (nI w)), (2, aI (nI (cmP T w q0).2.1)), (3, aI (nI two)), (4, aI (nI 0))] [] := by
    intro t3 two b q hP3 e3
    have f20 := hP3.2.1.2.2.1
    have k83 : w = 5 ∨ w = 6 → V x t3 0 83 [(0, mM), (1, aI (nI w)), (2, aI (nI (cmP T w q0).2.1)), (3, aI (nI two)), (4, aI (nI 0))] [] := by
      intro hq
      have em : cm2 w = some 1 := if_pos hq
      have ea : cmA w = none := if_neg (by omega)
      rw [ea] at e3
      have e3 : (b, two, q) = ((cmP T w q0).1, 0, (cmP T w q0).2.2) := e3
      cases e3
      refine V_run hB (rt := none) (nL := 6) (mc := 0) rfl rfl rfl obX11_command_83 ?_
      dsimp only [bX11_command_83, ↓wpb, ↓wp1, ↓vI, ↓vL, ↓vD, ↓ldI, ↓ldL, ↓ldD, ↓ldR, ↓k1, ↓k2, ↓kI, ↓kL, ↓kD, ↓kII, ↓kLL, ↓kDD, ↓kR, ↓kIR, ↓kLR, ↓kIIR, ↓kLIR, ↓kDIR, ↓kRIR, ↓kNN, ↓kE, ↓br, ↓bn, ↓rtI, ↓gfv, ↓zchk, lput, ldel, lbad, alA, acat, isRf, dom, dS, dJ, isO, aTy, aLen, elAV, elR, Nat.reduceBEq, Nat.reduceAdd, Bool.or, Bool.and, Nat.add_zero, Nat.zero_add]
      try simp only [Nat.reduceLT, Nat.reduceLeDiff, Nat.reduceEqDiff, true_and, and_true, and_self, Nat.zero_le, Nat.le_refl, true_or, or_true, Bool.false_eq_true, not_false_eq_true, Nat.reduceAdd, Nat.lt_add_one, Nat.zero_lt_one, nI_add, pk_mul, ixL, vpL, ne_eq, reduceIte, wI_sA, sA_same, sA_ne, sA_sA, sA_comm, uI_at, uN_at, enc_at, uI_enc, uI_uI, itn1, itn2, itn3, itn4, itc, itc0, itc1, upM_s, upM_n, f20, bN_0]
      refine ⟨fun z => ?_, fun z => ?_⟩
      · have z : (cmP T w q0).1 = true := by simpa using z
        have ex : cmQ T w q0 = (true, 0, (cmP T w q0).2.2) := by unfold cmQ stN; rw [em]; exact if_pos z
        have k := k96 t3
        rw [ex] at k
        rw [z] at hP3
        exact k hP3
      · have ex : cmQ T w q0 = bhR T 1 (cmP T w q0).2.2 := by unfold cmQ stN; rw [em]; exact if_neg (by rw [z]; decide)
        rw [z] at hP3
        refine V_callV hB hno (q_behind hc hP3 (m := 1) (by omega)) rfl (by decide +kernel) cvX11_210 (dom1 rfl) npX11_behind ⟨by decide, by decide⟩ (Nat.le_of_ble_eq_true rfl) (by decide) ?_ ?_
        rotate_left
        · intro E τ' hq; cases hq.1
        intro v5 t5 hq
        obtain ⟨e5, hP5⟩ := hq
        cases e5
        show V x t5 0 95 _ _
        refine V_run hB (rt := none) (nL := 6) (mc := 0) rfl rfl rfl (ops := [(95, .istore_n 3, 1, (3, 0, 0, 0, 0, 0), 0)]) (by decide +kernel) ?_
        dsimp only [↓wpb, ↓wp1, ↓vI, ↓vL, ↓vD, ↓ldI, ↓ldL, ↓ldD, ↓ldR, ↓k1, ↓k2, ↓kI, ↓kL, ↓kD, ↓kII, ↓kLL, ↓kDD, ↓kR, ↓kIR, ↓kLR, ↓kIIR, ↓kLIR, ↓kDIR, ↓kRIR, ↓kNN, ↓kE, ↓br, ↓bn, ↓rtI, ↓gfv, ↓zchk, lput, ldel, lbad, alA, acat, isRf, dom, dS, dJ, isO, aTy, aLen, elAV, elR, Nat.reduceBEq, Nat.reduceAdd, Bool.or, Bool.and, Nat.add_zero, Nat.zero_add]
        try simp only [Nat.reduceLT, Nat.reduceLeDiff, Nat.reduceEqDiff, true_and, and_true, and_self, Nat.zero_le, Nat.le_refl, true_or, or_true, Bool.false_eq_true, not_false_eq_true, Nat.reduceAdd, Nat.lt_add_one, Nat.zero_lt_one, nI_add, pk_mul, ixL, vpL, ne_eq, reduceIte, wI_sA, sA_same, sA_ne, sA_sA, sA_comm, uI_at, uN_at, enc_at, uI_enc, uI_uI, itn1, itn2, itn3, itn4, itc, itc0, itc1, upM_s, upM_n]
        rw [← ex] at hP5 ⊢
        exact k96 t5 hP5
    have k0 : ¬ (w = 5 ∨ w = 6) → V x t3 0 96 [(0, mM), (1, aI (nI w)), (2, aI (nI (cmP T w q0).2.1)), (3, aI (nI two)), (4, aI (nI 0))] [] := by
      intro em
      have ex : cmQ T w q0 = (b, two, q) := by rw [e3]; unfold cmQ; rw [show cm2 w = cmA w from if_neg em]
      have k := k96 t3
      rw [ex] at k
      exact k hP3
    refine V_run hB (rt := none) (nL := 6) (mc := 0) rfl rfl rfl (ops := [(72, .iload_n 1, 1, (1, 0, 0, 0, 0, 0), 0), (73, .iconst 5, 1, (0, 0, 0, 0, 0, 0), nI 5), (74, .if_icmp .eq 9, 3, (83, 0, 0, 0, 0, 0), 0), (77, .iload_n 1, 1, (1, 0, 0, 0, 0, 0), 0), (78, .bipush 6, 2, (0, 0, 0, 0, 0, 0), nI 6), (80, .if_icmp .ne 16, 3, (96, 0, 0, 0, 0, 0), 0)]) (by decide +kernel) ?_
    dsimp only [↓wpb, ↓wp1, ↓vI, ↓vL, ↓vD, ↓ldI, ↓ldL, ↓ldD, ↓ldR, ↓k1, ↓k2, ↓kI, ↓kL, ↓kD, ↓kII, ↓kLL, ↓kDD, ↓kR, ↓kIR, ↓kLR, ↓kIIR, ↓kLIR, ↓kDIR, ↓kRIR, ↓kNN, ↓kE, ↓br, ↓bn, ↓rtI, ↓gfv, ↓zchk, lput, ldel, lbad, alA, acat, isRf, dom, dS, dJ, isO, aTy, aLen, elAV, elR, Nat.reduceBEq, Nat.reduceAdd, Bool.or, Bool.and, Nat.add_zero, Nat.zero_add]
    try simp only [Nat.reduceLT, Nat.reduceLeDiff, Nat.reduceEqDiff, true_and, and_true, and_self, Nat.zero_le, Nat.le_refl, true_or, or_true, Bool.false_eq_true, not_false_eq_true, Nat.reduceAdd, Nat.lt_add_one, Nat.zero_lt_one, nI_add, pk_mul, ixL, vpL, ne_eq, reduceIte, wI_sA, sA_same, sA_ne, sA_sA, sA_comm, uI_at, uN_at, enc_at, uI_enc, uI_uI, itn1, itn2, itn3, itn4, itc, itc0, itc1, upM_s, upM_n]
    refine ⟨fun z => k83 (Or.inl ((wk 5 (by omega)).mp z)), fun z => ⟨fun z2 => k0 ?_, fun z2 => k83 (Or.inr ((wk 6 (by omega)).mp z2))⟩⟩
    exact fun y => y.elim (fun y => z ((wk 5 (by omega)).mpr y)) (fun y => z2 ((wk 6 (by omega)).mpr y))
  have k50 : ∀ t2, PS τ0 T t2 (cmP T w q0).2.2 (cmP T w q0).1 d 0 a ρ → V x t2 0 50 [(0, mM), (1, aI (nI w)), (2, aI (nI (cmP T w q0).2.1)), (3, aI (nI 0)), (4, aI (nI 0))] [] := by
    intro t2 hP2
    have f20 := hP2.2.1.2.2.1
    have k59 : w = 0 ∨ w = 2 → V x t2 0 59 [(0, mM), (1, aI (nI w)), (2, aI (nI (cmP T w q0).2.1)), (3, aI (nI 0)), (4, aI (nI 0))] [] := by
      intro hq
      have em : cmA w = some 3 := if_pos hq
      have k := k72
      rw [em] at k
      refine V_run hB (rt := none) (nL := 6) (mc := 0) rfl rfl rfl obX11_command_59 ?_
      dsimp only [bX11_command_59, ↓wpb, ↓wp1, ↓vI, ↓vL, ↓vD, ↓ldI, ↓ldL, ↓ldD, ↓ldR, ↓k1, ↓k2, ↓kI, ↓kL, ↓kD, ↓kII, ↓kLL, ↓kDD, ↓kR, ↓kIR, ↓kLR, ↓kIIR, ↓kLIR, ↓kDIR, ↓kRIR, ↓kNN, ↓kE, ↓br, ↓bn, ↓rtI, ↓gfv, ↓zchk, lput, ldel, lbad, alA, acat, isRf, dom, dS, dJ, isO, aTy, aLen, elAV, elR, Nat.reduceBEq, Nat.reduceAdd, Bool.or, Bool.and, Nat.add_zero, Nat.zero_add]
      try simp only [Nat.reduceLT, Nat.reduceLeDiff, Nat.reduceEqDiff, true_and, and_true, and_self, Nat.zero_le, Nat.le_refl, true_or, or_true, Bool.false_eq_true, not_false_eq_true, Nat.reduceAdd, Nat.lt_add_one, Nat.zero_lt_one, nI_add, pk_mul, ixL, vpL, ne_eq, reduceIte, wI_sA, sA_same, sA_ne, sA_sA, sA_comm, uI_at, uN_at, enc_at, uI_enc, uI_uI, itn1, itn2, itn3, itn4, itc, itc0, itc1, upM_s, upM_n, f20, bN_0]
      refine ⟨fun z => ?_, fun z => ?_⟩
      · have z : (cmP T w q0).1 = true := by simpa using z
        rw [z] at hP2
        refine k t2 0 true _ hP2 ?_
        unfold stN
        exact (if_pos z).symm
      · rw [z] at hP2
        refine V_callV hB hno (q_behind hc hP2 (m := 3) (by omega)) rfl (by decide +kernel) cvX11_210 (dom1 rfl) npX11_behind ⟨by decide, by decide⟩ (Nat.le_of_ble_eq_true rfl) (by decide) ?_ ?_
        rotate_left
        · intro E τ' hq; cases hq.1
        intro v5 t5 hq
        obtain ⟨e5, hP5⟩ := hq
        cases e5
        show V x t5 0 71 _ _
        refine V_run hB (rt := none) (nL := 6) (mc := 0) rfl rfl rfl (ops := [(71, .istore_n 3, 1, (3, 0, 0, 0, 0, 0), 0)]) (by decide +kernel) ?_
        dsimp only [↓wpb, ↓wp1, ↓vI, ↓vL, ↓vD, ↓ldI, ↓ldL, ↓ldD, ↓ldR, ↓k1, ↓k2, ↓kI, ↓kL, ↓kD, ↓kII, ↓kLL, ↓kDD, ↓kR, ↓kIR, ↓kLR, ↓kIIR, ↓kLIR, ↓kDIR, ↓kRIR, ↓kNN, ↓kE, ↓br, ↓bn, ↓rtI, ↓gfv, ↓zchk, lput, ldel, lbad, alA, acat, isRf, dom, dS, dJ, isO, aTy, aLen, elAV, elR, Nat.reduceBEq, Nat.reduceAdd, Bool.or, Bool.and, Nat.add_zero, Nat.zero_add]
        try simp only [Nat.reduceLT, Nat.reduceLeDiff, Nat.reduceEqDiff, true_and, and_true, and_self, Nat.zero_le, Nat.le_refl, true_or, or_true, Bool.false_eq_true, not_false_eq_true, Nat.reduceAdd, Nat.lt_add_one, Nat.zero_lt_one, nI_add, pk_mul, ixL, vpL, ne_eq, reduceIte, wI_sA, sA_same, sA_ne, sA_sA, sA_comm, uI_at, uN_at, enc_at, uI_enc, uI_uI, itn1, itn2, itn3, itn4, itc, itc0, itc1, upM_s, upM_n]
        refine k t5 _ _ _ hP5 ?_
        unfold stN
        exact (if_neg (by rw [z]; decide)).symm
    have k0 : ¬ (w = 0 ∨ w = 2) → V x t2 0 72 [(0, mM), (1, aI (nI w)), (2, aI (nI (cmP T w q0).2.1)), (3, aI (nI 0)), (4, aI (nI 0))] [] := by
      intro em
      have k := k72
      rw [show cmA w = none from if_neg em] at k
      exact k t2 0 _ _ hP2 rfl
    refine V_run hB (rt := none) (nL := 6) (mc := 0) rfl rfl rfl (ops := [(50, .iload_n 1, 1, (1, 0, 0, 0, 0, 0), 0), (51, .ifCond .eq 8, 3, (59, 0, 0, 0, 0, 0), 0), (54, .iload_n 1, 1, (1, 0, 0, 0, 0, 0), 0), (55, .iconst 2, 1, (0, 0, 0, 0, 0, 0), nI 2), (56, .if_icmp .ne 16, 3, (72, 0, 0, 0, 0, 0), 0)]) (by decide +kernel) ?_
    dsimp only [↓wpb, ↓wp1, ↓vI, ↓vL, ↓vD, ↓ldI, ↓ldL, ↓ldD, ↓ldR, ↓k1, ↓k2, ↓kI, ↓kL, ↓kD, ↓kII, ↓kLL, ↓kDD, ↓kR, ↓kIR, ↓kLR, ↓kIIR, ↓kLIR, ↓kDIR, ↓kRIR, ↓kNN, ↓kE, ↓br, ↓bn, ↓rtI, ↓gfv, ↓zchk, lput, ldel, lbad, alA, acat, isRf, dom, dS, dJ, isO, aTy, aLen, elAV, elR, Nat.reduceBEq, Nat.reduceAdd, Bool.or, Bool.and, Nat.add_zero, Nat.zero_add]
    try simp only [Nat.reduceLT, Nat.reduceLeDiff, Nat.reduceEqDiff, true_and, and_true, and_self, Nat.zero_le, Nat.le_refl, true_or, or_true, Bool.false_eq_true, not_false_eq_true, Nat.reduceAdd, Nat.lt_add_one, Nat.zero_lt_one, nI_add, pk_mul, ixL, vpL, ne_eq, reduceIte, wI_sA, sA_same, sA_ne, sA_sA, sA_comm, uI_at, uN_at, enc_at, uI_enc, uI_uI, itn1, itn2, itn3, itn4, itc, itc0, itc1, upM_s, upM_n, w0]
    refine ⟨fun z => k59 (Or.inl z), fun z => ⟨fun z2 => k0 ?_, fun z2 => k59 (Or.inr ((wk 2 (by omega)).mp z2))⟩⟩
    exact fun y => y.elim z (fun y => z2 ((wk 2 (by omega)).mpr y))
  have k46 : ∀ m, w < 8 → m = m1 w → V x t 0 46 [(0, mM), (1, aI (nI w)), (2, aI (nI 0)), (3, aI (nI 0)), (4, aI (nI 0))] [aI (nI m), mM] := by
    intro m hw8 hm
    have ep : cmP T w q0 = dgR T m q0 := by unfold cmP; rw [if_pos hw8, hm]
    have hm3 : m ≤ 3 := by rw [hm]; unfold m1; split <;> omega
    refine V_callV hB hno (q_digits hc hP1 hm3) rfl (by decide +kernel) cvX11_204 (dom1 rfl) npX11_digits ⟨by decide, by decide⟩ (Nat.le_of_ble_eq_true rfl) (by decide) ?_ ?_
    rotate_left
    · intro E τ' hq; cases hq.1
    intro v5 t5 hq
    obtain ⟨e5, hP5⟩ := hq
    cases e5
    show V x t5 0 49 _ _
    refine V_run hB (rt := none) (nL := 6) (mc := 0) rfl rfl rfl (ops := [(49, .istore_n 2, 1, (2, 0, 0, 0, 0, 0), 0)]) (by decide +kernel) ?_
    dsimp only [↓wpb, ↓wp1, ↓vI, ↓vL, ↓vD, ↓ldI, ↓ldL, ↓ldD, ↓ldR, ↓k1, ↓k2, ↓kI, ↓kL, ↓kD, ↓kII, ↓kLL, ↓kDD, ↓kR, ↓kIR, ↓kLR, ↓kIIR, ↓kLIR, ↓kDIR, ↓kRIR, ↓kNN, ↓kE, ↓br, ↓bn, ↓rtI, ↓gfv, ↓zchk, lput, ldel, lbad, alA, acat, isRf, dom, dS, dJ, isO, aTy, aLen, elAV, elR, Nat.reduceBEq, Nat.reduceAdd, Bool.or, Bool.and, Nat.add_zero, Nat.zero_add]
    try simp only [Nat.reduceLT, Nat.reduceLeDiff, Nat.reduceEqDiff, true_and, and_true, and_self, Nat.zero_le, Nat.le_refl, true_or, or_true, Bool.false_eq_true, not_false_eq_true, Nat.reduceAdd, Nat.lt_add_one, Nat.zero_lt_one, nI_add, pk_mul, ixL, vpL, ne_eq, reduceIte, wI_sA, sA_same, sA_ne, sA_sA, sA_comm, uI_at, uN_at, enc_at, uI_enc, uI_uI, itn1, itn2, itn3, itn4, itc, itc0, itc1, upM_s, upM_n]
    rw [← ep] at hP5 ⊢
    exact k50 t5 hP5
  have k41 : w < 8 → w = 0 ∨ w = 4 ∨ w = 5 → V x t 0 41 [(0, mM), (1, aI (nI w)), (2, aI (nI 0)), (3, aI (nI 0)), (4, aI (nI 0))] [mM] := by
    intro h8 hq
    refine V_run hB (rt := none) (nL := 6) (mc := 0) rfl rfl rfl obX11_command_41 ?_
    dsimp only [bX11_command_41, ↓wpb, ↓wp1, ↓vI, ↓vL, ↓vD, ↓ldI, ↓ldL, ↓ldD, ↓ldR, ↓k1, ↓k2, ↓kI, ↓kL, ↓kD, ↓kII, ↓kLL, ↓kDD, ↓kR, ↓kIR, ↓kLR, ↓kIIR, ↓kLIR, ↓kDIR, ↓kRIR, ↓kNN, ↓kE, ↓br, ↓bn, ↓rtI, ↓gfv, ↓zchk, lput, ldel, lbad, alA, acat, isRf, dom, dS, dJ, isO, aTy, aLen, elAV, elR, Nat.reduceBEq, Nat.reduceAdd, Bool.or, Bool.and, Nat.add_zero, Nat.zero_add]
    try simp only [Nat.reduceLT, Nat.reduceLeDiff, Nat.reduceEqDiff, true_and, and_true, and_self, Nat.zero_le, Nat.le_refl, true_or, or_true, Bool.false_eq_true, not_false_eq_true, Nat.reduceAdd, Nat.lt_add_one, Nat.zero_lt_one, nI_add, pk_mul, ixL, vpL, ne_eq, reduceIte, wI_sA, sA_same, sA_ne, sA_sA, sA_comm, uI_at, uN_at, enc_at, uI_enc, uI_uI, itn1, itn2, itn3, itn4, itc, itc0, itc1, upM_s, upM_n]
    exact k46 1 h8 (if_pos hq).symm
  refine V_run hB (rt := none) (nL := 6) (mc := 0) rfl rfl rfl (ops := [(20, .iload_n 1, 1, (1, 0, 0, 0, 0, 0), 0), (21, .bipush 8, 2, (0, 0, 0, 0, 0, 0), nI 8), (23, .if_icmp .ge 27, 3, (50, 0, 0, 0, 0, 0), 0), (26, .aload_n 0, 1, (0, 0, 0, 0, 0, 0), 0), (27, .iload_n 1, 1, (1, 0, 0, 0, 0, 0), 0), (28, .ifCond .eq 13, 3, (41, 0, 0, 0, 0, 0), 0), (31, .iload_n 1, 1, (1, 0, 0, 0, 0, 0), 0), (32, .iconst 4, 1, (0, 0, 0, 0, 0, 0), nI 4), (33, .if_icmp .eq 8, 3, (41, 0, 0, 0, 0, 0), 0), (36, .iload_n 1, 1, (1, 0, 0, 0, 0, 0), 0), (37, .iconst 5, 1, (0, 0, 0, 0, 0, 0), nI 5), (38, .if_icmp .ne 7, 3, (45, 0, 0, 0, 0, 0), 0)]) (by decide +kernel) ?_
  dsimp only [↓wpb, ↓wp1, ↓vI, ↓vL, ↓vD, ↓ldI, ↓ldL, ↓ldD, ↓ldR, ↓k1, ↓k2, ↓kI, ↓kL, ↓kD, ↓kII, ↓kLL, ↓kDD, ↓kR, ↓kIR, ↓kLR, ↓kIIR, ↓kLIR, ↓kDIR, ↓kRIR, ↓kNN, ↓kE, ↓br, ↓bn, ↓rtI, ↓gfv, ↓zchk, lput, ldel, lbad, alA, acat, isRf, dom, dS, dJ, isO, aTy, aLen, elAV, elR, Nat.reduceBEq, Nat.reduceAdd, Bool.or, Bool.and, Nat.add_zero, Nat.zero_add]
  try simp only [Nat.reduceLT, Nat.reduceLeDiff, Nat.reduceEqDiff, true_and, and_true, and_self, Nat.zero_le, Nat.le_refl, true_or, or_true, Bool.false_eq_true, not_false_eq_true, Nat.reduceAdd, Nat.lt_add_one, Nat.zero_lt_one, nI_add, pk_mul, ixL, vpL, ne_eq, reduceIte, wI_sA, sA_same, sA_ne, sA_sA, sA_comm, uI_at, uN_at, enc_at, uI_enc, uI_uI, itn1, itn2, itn3, itn4, itc, itc0, itc1, upM_s, upM_n, w0]
  refine ⟨fun z => ?_, fun z => ?_⟩
  · rw [nI_leI (by omega) (by omega)] at z
    have ep : cmP T w q0 = (false, 0, q0) := if_neg (by omega)
    have k := k50 t
    rw [ep] at k
    exact k hP1
  · rw [nI_leI (by omega) (by omega)] at z
    refine ⟨fun y => k41 (by omega) (Or.inl y), fun y => ⟨fun y2 => k41 (by omega) (Or.inr (Or.inl ((wk 4 (by omega)).mp y2))), fun y2 => ⟨fun y3 => ?_, fun y3 => k41 (by omega) (Or.inr (Or.inr ((wk 5 (by omega)).mp y3)))⟩⟩⟩
    refine V_run hB (rt := none) (nL := 6) (mc := 0) rfl rfl rfl obX11_command_45 ?_
    dsimp only [bX11_command_45, ↓wpb, ↓wp1, ↓vI, ↓vL, ↓vD, ↓ldI, ↓ldL, ↓ldD, ↓ldR, ↓k1, ↓k2, ↓kI, ↓kL, ↓kD, ↓kII, ↓kLL, ↓kDD, ↓kR, ↓kIR, ↓kLR, ↓kIIR, ↓kLIR, ↓kDIR, ↓kRIR, ↓kNN, ↓kE, ↓br, ↓bn, ↓rtI, ↓gfv, ↓zchk, lput, ldel, lbad, alA, acat, isRf, dom, dS, dJ, isO, aTy, aLen, elAV, elR, Nat.reduceBEq, Nat.reduceAdd, Bool.or, Bool.and, Nat.add_zero, Nat.zero_add]
    try simp only [Nat.reduceLT, Nat.reduceLeDiff, Nat.reduceEqDiff, true_and, and_true, and_self, Nat.zero_le, Nat.le_refl, true_or, or_true, Bool.false_eq_true, not_false_eq_true, Nat.reduceAdd, Nat.lt_add_one, Nat.zero_lt_one, nI_add, pk_mul, ixL, vpL, ne_eq, reduceIte, wI_sA, sA_same, sA_ne, sA_sA, sA_comm, uI_at, uN_at, enc_at, uI_enc, uI_uI, itn1, itn2, itn3, itn4, itc, itc0, itc1, upM_s, upM_n]
    refine k46 3 (by omega) (if_neg ?_).symm
    rintro (y4 | y4 | y4)
    · exact y y4
    · exact y2 ((wk 4 (by omega)).mpr y4)
    · exact y3 ((wk 5 (by omega)).mpr y4)
end MQ
