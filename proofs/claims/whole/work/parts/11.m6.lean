/-! ===== the reference's methods: an evening sold ===== -/
def uA (a : Nat → Nat) : Nat → Nat
  | 0 => 0
  | k + 1 => match gts a k (uA a k) with
    | none => uA a k
    | some b => uA a k ||| 2 ^ b
def gk (a : Nat → Nat) (k : Nat) : Option Nat := gts a k (uA a k)
def sD (a : Nat → Nat) : Nat → (Nat → Nat)
  | 0 => a
  | d + 1 => match gk a (a 4 - (d + 1)) with
    | none => sD a d
    | some b => soldA (sD a d) (a 4 - (d + 1)) (it (sD a d) (a 4 - (d + 1)) (7 + b))
def sEve (a : Nat → Nat) : Nat × Nat × (Nat → Nat) := if bR a (a 4) 0 = 0 then (1, 0, a) else (0, bR a (a 4) 0, sD a (a 4))
theorem gk_lt {a : Nat → Nat} {k b : Nat} (h : gk a k = some b) : b < 5 := by have := gt_lt h; omega
theorem uA_lt (a : Nat → Nat) : ∀ k, uA a k < 32
  | 0 => by simp [uA]
  | k + 1 => by
    have h := uA_lt a k
    unfold uA
    split
    · exact h
    · rename_i b hb
      exact or5_lt _ h _ (gk_lt (k := k) hb)
theorem goesA_lo {a : Nat → Nat} {i k : Nat} (h : k < 16) (h4 : k ≠ 4) : goesA a i k = a k := by
  simp only [goesA, uN, gU]
  rw [if_neg h4, if_neg (by omega)]
theorem goesA_it {a : Nat → Nat} {i j c : Nat} (h : j < i) (hc : c < 12) : it (goesA a i) j c = it a j c := by
  simp only [it, goesA, uN, gU]
  rw [if_neg (by omega), if_neg (by omega)]
theorem goesA_le {a : Nat → Nat} {i M : Nat} (h : ∀ k, 16 ≤ k → a k ≤ M) : ∀ k, 16 ≤ k → goesA a i k ≤ M := by
  intro k hk
  simp only [goesA, uN, gU]
  rw [if_neg (by omega)]
  split
  · split
    · exact h _ (by omega)
    · omega
  · exact h _ hk
theorem sD_bd {a : Nat → Nat} (hb : bidOk a) (hmn : ∀ j, j < 10 → it a j 3 ≤ 240) (hm : a 4 ≤ 10) {M : Nat} (hM : ∀ k, 16 ≤ k → a k ≤ M) : ∀ d, d ≤ a 4 → a 4 - d ≤ (sD a d) 4 ∧ (sD a d) 4 ≤ a 4 ∧ (∀ j, j < a 4 - d → ∀ c, c < 12 → it (sD a d) j c = it a j c) ∧ (∀ k, k < 16 → k ≠ 2 → k ≠ 7 → k ≠ 4 → (sD a d) k = a k) ∧ (∀ k, 16 ≤ k → (sD a d) k ≤ M) ∧ (sD a d) 2 ≤ a 2 + 999 * d ∧ (sD a d) 7 ≤ a 7 + 240 * d
  | 0, _ => ⟨by simp [sD], by simp [sD], fun _ _ _ _ => rfl, fun _ _ _ _ _ => rfl, hM, by simp [sD], by simp [sD]⟩
  | d + 1, hd => by
    obtain ⟨h1, h2, h3, h4, h5, h6, h7⟩ := sD_bd hb hmn hm hM d (by omega)
    cases hg : gk a (a 4 - (d + 1)) with
    | none =>
      have e : sD a (d + 1) = sD a d := by show (match gk a (a 4 - (d + 1)) with | none => _ | some b => _) = _; rw [hg]
      rw [e]
      exact ⟨by omega, h2, fun j hj c hc => h3 j (by omega) c hc, h4, h5, by omega, by omega⟩
    | some b =>
      have hb5 := gk_lt hg
      have e : sD a (d + 1) = soldA (sD a d) (a 4 - (d + 1)) (it (sD a d) (a 4 - (d + 1)) (7 + b)) := by show (match gk a (a 4 - (d + 1)) with | none => _ | some b => _) = _; rw [hg]
      rw [e]
      obtain ⟨i, hi⟩ : ∃ i, i = a 4 - (d + 1) := ⟨_, rfl⟩
      rw [← hi]
      have h8 := h3 i (by omega) (7 + b) (by omega)
      have h9 := h3 i (by omega) 3 (by omega)
      have h10 := hb i (by omega) b hb5
      have h11 := hmn i (by omega)
      have e4 : (soldA (sD a d) i (it (sD a d) i (7 + b))) 4 = (sD a d) 4 - 1 := rfl
      have e2 : (soldA (sD a d) i (it (sD a d) i (7 + b))) 2 = (sD a d) 2 + it (sD a d) i (7 + b) := goesA_lo (by omega) (by omega)
      have e7 : (soldA (sD a d) i (it (sD a d) i (7 + b))) 7 = (sD a d) 7 + it (sD a d) i 3 := goesA_lo (by omega) (by omega)
      refine ⟨by rw [e4]; omega, by rw [e4]; omega, fun j hj c hc => ?_, fun k k16 k2 k7 k4 => ?_, ?_, by rw [e2]; omega, by rw [e7]; omega⟩
      · rw [← h3 j (by omega) c hc]
        unfold soldA
        rw [goesA_it (by omega) hc]
        simp only [it, uN]
        rw [if_neg (by omega), if_neg (by omega)]
      · unfold soldA
        rw [goesA_lo k16 k4]
        simp only [uN]
        rw [if_neg k7, if_neg k2]
        exact h4 k k16 k2 k7 k4
      · refine goesA_le (fun k hk => ?_)
        simp only [uN]
        rw [if_neg (by omega), if_neg (by omega)]
        exact h5 k hk
theorem MS.put' {τ : Mem} {a b : Nat → Nat} (h : MS τ a) (h4 : b 4 ≤ 10) (hb : ∀ k, b k < 1073741824) : MS (sA τ 31 (enc b)) b := MS.s31 ⟨h4, hb⟩
theorem or0 : ∀ u, u < 32 → nI u ||| nI 0 = nI u := by decide +kernel
theorem oI_none : oI none = -1 := rfl
theorem oI_some (i : Nat) : oI (some i) = nI i := rfl
section M6
variable {l : Launch} {G : GG}
theorem q_sellsAll (hc : Ctx l G) {τ : Mem} {a : Nat → Nat} (hS : MS τ a) (ht : τ.1 (30, 0, 0) 0 = nI 0) (hb : bidOk a) (hmn : ∀ j, j < 10 → it a j 3 ≤ 240) (hbd : ∀ k, a k < 1073000000) : Sat l G iX11_sellsAll [mM] τ (fun o τ' => o = .inl (some (aI (nI (sEve a).2.1))) ∧ ∃ r q, τ' = sA (sA (opM τ (sEve a).1 (sEve a).2.2) 35 r) 36 q) := by
  have hv := hS.1
  have hm := hS.2.1
  have hR := bR_bd hb hm (a 4) (Nat.le_refl _) 0
  refine Sat_of hc.1 hc.2 (by decide +kernel) (Nat.le_of_ble_eq_true rfl) (fun x hB hno => ?_)
  refine V_run hB (rt := some .int) (nL := 5) (mc := 0) rfl rfl rfl obX11_sellsAll_0 ?_
  dsimp only [bX11_sellsAll_0, ↓wpb, ↓wp1, ↓vI, ↓vL, ↓vD, ↓ldI, ↓ldL, ↓ldD, ↓ldR, ↓k1, ↓k2, ↓kI, ↓kL, ↓kD, ↓kII, ↓kLL, ↓kDD, ↓kR, ↓kIR, ↓kLR, ↓kIIR, ↓kLIR, ↓kDIR, ↓kRIR, ↓kNN, ↓kE, ↓br, ↓bn, ↓rtI, ↓gfv, ↓zchk, lput, ldel, lbad, alA, acat, isRf, dom, dS, dJ, isO, aTy, aLen, elAV, elR, Nat.reduceBEq, Nat.reduceAdd, Bool.or, Bool.and, Nat.add_zero, Nat.zero_add]
  try simp only [Nat.reduceLT, Nat.reduceLeDiff, Nat.reduceEqDiff, true_and, and_true, and_self, Nat.zero_le, Nat.le_refl, true_or, or_true, Bool.false_eq_true, not_false_eq_true, Nat.reduceAdd, Nat.lt_add_one, Nat.zero_lt_one, nI_add, pk_mul, ixL, vpL, ne_eq, reduceIte, wI_sA, sA_same, sA_ne, sA_sA, sA_comm, uI_at, uN_at, enc_at, uI_enc, uI_uI, itn1, itn2, itn3, itn4, itc, itc0, itc1, upM_s, upM_n]
  refine V_callV hB hno (q_evenings hc hS hb) rfl (by decide +kernel) cvX11_159 (dom1 rfl) npX11_evenings ⟨by decide, by decide⟩ (Nat.le_of_ble_eq_true rfl) (by decide) ?_ ?_
  rotate_left
  · intro E τ' h; cases h.1
  intro v τ' h
  obtain ⟨h1, r, rfl, hr⟩ := h
  cases h1
  have hr0 : r 0 = nI (bR a (a 4) 0) := hr 0 (Nat.zero_le _) (Nat.zero_le _) 0 (by decide)
  show V x (sA τ 35 r) 0 4 [(0, mM)] []
  refine V_run hB (rt := some .int) (nL := 5) (mc := 0) rfl rfl rfl obX11_sellsAll_4 ?_
  dsimp only [bX11_sellsAll_4, ↓wpb, ↓wp1, ↓vI, ↓vL, ↓vD, ↓ldI, ↓ldL, ↓ldD, ↓ldR, ↓k1, ↓k2, ↓kI, ↓kL, ↓kD, ↓kII, ↓kLL, ↓kDD, ↓kR, ↓kIR, ↓kLR, ↓kIIR, ↓kLIR, ↓kDIR, ↓kRIR, ↓kNN, ↓kE, ↓br, ↓bn, ↓rtI, ↓gfv, ↓zchk, lput, ldel, lbad, alA, acat, isRf, dom, dS, dJ, isO, aTy, aLen, elAV, elR, Nat.reduceBEq, Nat.reduceAdd, Bool.or, Bool.and, Nat.add_zero, Nat.zero_add]
  try simp only [Nat.reduceLT, Nat.reduceLeDiff, Nat.reduceEqDiff, true_and, and_true, and_self, Nat.zero_le, Nat.le_refl, true_or, or_true, Bool.false_eq_true, not_false_eq_true, Nat.reduceAdd, Nat.lt_add_one, Nat.zero_lt_one, nI_add, pk_mul, ixL, vpL, ne_eq, reduceIte, wI_sA, sA_same, sA_ne, sA_sA, sA_comm, uI_at, uN_at, enc_at, uI_enc, uI_uI, itn1, itn2, itn3, itn4, itc, itc0, itc1, upM_s, upM_n, hr0]
  refine ⟨fun h => ?_, fun h => ?_⟩
  · have h0 : bR a (a 4) 0 ≠ 0 := fun q => h (by rw [q]; rfl)
    have e : sEve a = (0, bR a (a 4) 0, sD a (a 4)) := if_neg h0
    rw [e] at hB
    have hS2 : MS (sA τ 35 r) a := hS.s35
    have h33 : ∀ w k, k + w = a 4 → ∀ q, (∀ i, i < k → q i = oI (gk a i)) → ∀ al, (∀ z ∈ [(0, mM), (1, aI (nI (bR a (a 4) 0))), (2, aI (nI (uA a k))), (3, aI (nI (a 4))), (4, aI (nI k))], lk al z.1 = some z.2) → V x (sA (sA τ 35 r) 36 q) 0 33 al [] := by
      intro w
      induction w with
      | zero =>
        intro k hk q hq al hal
        have hk : k = a 4 := by omega
        subst hk
        refine V.sub ?_ hal
        have h90 : ∀ i d, i + d = a 4 → ∀ al, (∀ z ∈ [(0, mM), (1, aI (nI (bR a (a 4) 0))), (4, aI (dI i))], lk al z.1 = some z.2) → V x (sA (sA (sA τ 31 (enc (sD a d))) 35 r) 36 q) 0 90 al [] := by
          intro i
          induction i with
          | zero =>
            intro d hd al hal
            have hd : d = a 4 := by omega
            subst hd
            refine V.sub ?_ hal
            refine V_run hB (rt := some .int) (nL := 5) (mc := 0) rfl rfl rfl obX11_sellsAll_90 ?_
            dsimp only [bX11_sellsAll_90, ↓wpb, ↓wp1, ↓vI, ↓vL, ↓vD, ↓ldI, ↓ldL, ↓ldD, ↓ldR, ↓k1, ↓k2, ↓kI, ↓kL, ↓kD, ↓kII, ↓kLL, ↓kDD, ↓kR, ↓kIR, ↓kLR, ↓kIIR, ↓kLIR, ↓kDIR, ↓kRIR, ↓kNN, ↓kE, ↓br, ↓bn, ↓rtI, ↓gfv, ↓zchk, lput, ldel, lbad, alA, acat, isRf, dom, dS, dJ, isO, aTy, aLen, elAV, elR, Nat.reduceBEq, Nat.reduceAdd, Bool.or, Bool.and, Nat.add_zero, Nat.zero_add]
            try simp only [Nat.reduceLT, Nat.reduceLeDiff, Nat.reduceEqDiff, true_and, and_true, and_self, Nat.zero_le, Nat.le_refl, true_or, or_true, Bool.false_eq_true, not_false_eq_true, Nat.reduceAdd, Nat.lt_add_one, Nat.zero_lt_one, nI_add, pk_mul, ixL, vpL, ne_eq, reduceIte, wI_sA, sA_same, sA_ne, sA_sA, sA_comm, uI_at, uN_at, enc_at, uI_enc, uI_uI, itn1, itn2, itn3, itn4, itc, itc0, itc1, upM_s, upM_n, dI]
            refine ⟨fun _ => ?_, fun h => absurd (by decide) h⟩
            refine V_run hB (rt := some .int) (nL := 5) (mc := 0) rfl rfl rfl obX11_sellsAll_130 ?_
            dsimp only [bX11_sellsAll_130, ↓wpb, ↓wp1, ↓vI, ↓vL, ↓vD, ↓ldI, ↓ldL, ↓ldD, ↓ldR, ↓k1, ↓k2, ↓kI, ↓kL, ↓kD, ↓kII, ↓kLL, ↓kDD, ↓kR, ↓kIR, ↓kLR, ↓kIIR, ↓kLIR, ↓kDIR, ↓kRIR, ↓kNN, ↓kE, ↓br, ↓bn, ↓rtI, ↓gfv, ↓zchk, lput, ldel, lbad, alA, acat, isRf, dom, dS, dJ, isO, aTy, aLen, elAV, elR, Nat.reduceBEq, Nat.reduceAdd, Bool.or, Bool.and, Nat.add_zero, Nat.zero_add]
            try simp only [Nat.reduceLT, Nat.reduceLeDiff, Nat.reduceEqDiff, true_and, and_true, and_self, Nat.zero_le, Nat.le_refl, true_or, or_true, Bool.false_eq_true, not_false_eq_true, Nat.reduceAdd, Nat.lt_add_one, Nat.zero_lt_one, nI_add, pk_mul, ixL, vpL, ne_eq, reduceIte, wI_sA, sA_same, sA_ne, sA_sA, sA_comm, uI_at, uN_at, enc_at, uI_enc, uI_uI, itn1, itn2, itn3, itn4, itc, itc0, itc1, upM_s, upM_n]
            exact ⟨r, q, by rw [opM_ok ht]⟩
          | succ i ih =>
            intro d hd al hal
            refine V.sub ?_ hal
            have hi10 : i < 10 := by omega
            have hqi := hq i (by omega)
            have hi : i = a 4 - (d + 1) := by omega
            have ix : (nI i).toNatClampNeg = i := ixL (by omega)
            have vx : vp_in (nI i) 10 = True := vpL (by omega) (by omega)
            obtain ⟨b1, b2, b3, b4, b5, b6, b7⟩ := sD_bd hb hmn hm (M := 1073000000) (fun k _ => Nat.le_of_lt (hbd k)) d (by omega)
            have hS3 : MS (sA (sA (sA τ 31 (enc (sD a d))) 35 r) 36 q) (sD a d) := ((hS.put' (b := sD a d) (by omega) (fun k => by
              by_cases k16 : 16 ≤ k
              · have := b5 k k16; omega
              · by_cases k2 : k = 2
                · subst k2; have := hbd 2; omega
                · by_cases k7 : k = 7
                  · subst k7; have := hbd 7; omega
                  · by_cases k4 : k = 4
                    · subst k4; omega
                    · rw [b4 k (by omega) k2 k7 k4]; have := hbd k; omega)).s35).s36
            have hsd : sD a (d + 1) = match gk a i with | none => sD a d | some b => soldA (sD a d) i (it (sD a d) i (7 + b)) := by rw [hi]; rfl
            have ih' := ih (d + 1) (by omega)
            rw [hsd] at ih'
            have h124 : ∀ s, (match gk a i with | none => sD a d | some b => soldA (sD a d) i (it (sD a d) i (7 + b))) = s → ∀ al, (∀ z ∈ [(0, mM), (1, aI (nI (bR a (a 4) 0))), (4, aI (nI i))], lk al z.1 = some z.2) → V x (sA (sA (sA τ 31 (enc s)) 35 r) 36 q) 0 124 al [] := by
              intro s hs al hal
              refine V.sub ?_ hal
              refine V_run hB (rt := some .int) (nL := 5) (mc := 0) rfl rfl rfl obX11_sellsAll_124 ?_
              dsimp only [bX11_sellsAll_124, ↓wpb, ↓wp1, ↓vI, ↓vL, ↓vD, ↓ldI, ↓ldL, ↓ldD, ↓ldR, ↓k1, ↓k2, ↓kI, ↓kL, ↓kD, ↓kII, ↓kLL, ↓kDD, ↓kR, ↓kIR, ↓kLR, ↓kIIR, ↓kLIR, ↓kDIR, ↓kRIR, ↓kNN, ↓kE, ↓br, ↓bn, ↓rtI, ↓gfv, ↓zchk, lput, ldel, lbad, alA, acat, isRf, dom, dS, dJ, isO, aTy, aLen, elAV, elR, Nat.reduceBEq, Nat.reduceAdd, Bool.or, Bool.and, Nat.add_zero, Nat.zero_add]
              try simp only [Nat.reduceLT, Nat.reduceLeDiff, Nat.reduceEqDiff, true_and, and_true, and_self, Nat.zero_le, Nat.le_refl, true_or, or_true, Bool.false_eq_true, not_false_eq_true, Nat.reduceAdd, Nat.lt_add_one, Nat.zero_lt_one, nI_add, pk_mul, ixL, vpL, ne_eq, reduceIte, wI_sA, sA_same, sA_ne, sA_sA, sA_comm, uI_at, uN_at, enc_at, uI_enc, uI_uI, itn1, itn2, itn3, itn4, itc, itc0, itc1, upM_s, upM_n, dI_dec]
              rw [← hs]
              exact ih' _ (List.forall_mem_cons.mpr ⟨rfl, List.forall_mem_cons.mpr ⟨rfl, List.forall_mem_cons.mpr ⟨rfl, fun _ h => absurd h List.not_mem_nil⟩⟩⟩)
            refine V_run hB (rt := some .int) (nL := 5) (mc := 0) rfl rfl rfl obX11_sellsAll_90 ?_
            dsimp only [bX11_sellsAll_90, ↓wpb, ↓wp1, ↓vI, ↓vL, ↓vD, ↓ldI, ↓ldL, ↓ldD, ↓ldR, ↓k1, ↓k2, ↓kI, ↓kL, ↓kD, ↓kII, ↓kLL, ↓kDD, ↓kR, ↓kIR, ↓kLR, ↓kIIR, ↓kLIR, ↓kDIR, ↓kRIR, ↓kNN, ↓kE, ↓br, ↓bn, ↓rtI, ↓gfv, ↓zchk, lput, ldel, lbad, alA, acat, isRf, dom, dS, dJ, isO, aTy, aLen, elAV, elR, Nat.reduceBEq, Nat.reduceAdd, Bool.or, Bool.and, Nat.add_zero, Nat.zero_add]
            try simp only [Nat.reduceLT, Nat.reduceLeDiff, Nat.reduceEqDiff, true_and, and_true, and_self, Nat.zero_le, Nat.le_refl, true_or, or_true, Bool.false_eq_true, not_false_eq_true, Nat.reduceAdd, Nat.lt_add_one, Nat.zero_lt_one, nI_add, pk_mul, ixL, vpL, ne_eq, reduceIte, wI_sA, sA_same, sA_ne, sA_sA, sA_comm, uI_at, uN_at, enc_at, uI_enc, uI_uI, itn1, itn2, itn3, itn4, itc, itc0, itc1, upM_s, upM_n, dI, hqi, ix, vx]
            refine ⟨fun h => absurd h (nI_pos (by omega)), fun _ => ?_⟩
            cases hg : gk a i with
            | none =>
              rw [hg] at h124
              simp only [oI_none]
              exact ⟨fun _ => h124 _ rfl _ (List.forall_mem_cons.mpr ⟨rfl, List.forall_mem_cons.mpr ⟨rfl, List.forall_mem_cons.mpr ⟨rfl, fun _ h => absurd h List.not_mem_nil⟩⟩⟩), fun h => absurd (by decide) h⟩
            | some b =>
              have hb5 := gk_lt hg
              rw [hg] at h124
              simp only [oI_some]
              refine ⟨fun h => absurd h (nI_pos (by omega)), fun _ => ?_⟩
              rw [hg] at hqi
              have hoff := b3 i (by omega) (7 + b) (by omega)
              have hmin := b3 i (by omega) 3 (by omega)
              have c1 := hb i hi10 b hb5
              have c2 := hmn i hi10
              have c3 := hbd 2
              have c4 := hbd 7
              refine V_cV hB hno (q_offer hc hS3 hi10 hb5) rfl (by decide +kernel) cvX11_137 (dom1 rfl) npX11_offer ⟨by decide, by decide⟩ (Nat.le_of_ble_eq_true rfl) (n' := 0) (by decide) rfl ?_
              refine V_cVv hB hno (q_sold hc hS3 (i := i) (c := it (sD a d) i (7 + b)) (by omega) (by omega) (by omega)) rfl (by decide +kernel) cvX11_149 (dom1 rfl) npX11_sold ⟨by decide, by decide⟩ (Nat.le_of_ble_eq_true rfl) (n' := 0) (by decide) rfl ?_
              rw [sA_comm (K := 36) (by decide), sA_comm (K := 35) (by decide), sA_sA]
              exact h124 _ rfl _ (List.forall_mem_cons.mpr ⟨rfl, List.forall_mem_cons.mpr ⟨rfl, List.forall_mem_cons.mpr ⟨rfl, fun _ h => absurd h List.not_mem_nil⟩⟩⟩)
        refine V_run hB (rt := some .int) (nL := 5) (mc := 0) rfl rfl rfl obX11_sellsAll_33 ?_
        dsimp only [bX11_sellsAll_33, ↓wpb, ↓wp1, ↓vI, ↓vL, ↓vD, ↓ldI, ↓ldL, ↓ldD, ↓ldR, ↓k1, ↓k2, ↓kI, ↓kL, ↓kD, ↓kII, ↓kLL, ↓kDD, ↓kR, ↓kIR, ↓kLR, ↓kIIR, ↓kLIR, ↓kDIR, ↓kRIR, ↓kNN, ↓kE, ↓br, ↓bn, ↓rtI, ↓gfv, ↓zchk, lput, ldel, lbad, alA, acat, isRf, dom, dS, dJ, isO, aTy, aLen, elAV, elR, Nat.reduceBEq, Nat.reduceAdd, Bool.or, Bool.and, Nat.add_zero, Nat.zero_add]
        try simp only [Nat.reduceLT, Nat.reduceLeDiff, Nat.reduceEqDiff, true_and, and_true, and_self, Nat.zero_le, Nat.le_refl, true_or, or_true, Bool.false_eq_true, not_false_eq_true, Nat.reduceAdd, Nat.lt_add_one, Nat.zero_lt_one, nI_add, pk_mul, ixL, vpL, ne_eq, reduceIte, wI_sA, sA_same, sA_ne, sA_sA, sA_comm, uI_at, uN_at, enc_at, uI_enc, uI_uI, itn1, itn2, itn3, itn4, itc, itc0, itc1, upM_s, upM_n]
        refine ⟨fun _ => ?_, fun h => absurd (nI_le (by omega) (by omega)) h⟩
        refine V_run hB (rt := some .int) (nL := 5) (mc := 0) rfl rfl rfl obX11_sellsAll_85 ?_
        dsimp only [bX11_sellsAll_85, ↓wpb, ↓wp1, ↓vI, ↓vL, ↓vD, ↓ldI, ↓ldL, ↓ldD, ↓ldR, ↓k1, ↓k2, ↓kI, ↓kL, ↓kD, ↓kII, ↓kLL, ↓kDD, ↓kR, ↓kIR, ↓kLR, ↓kIIR, ↓kLIR, ↓kDIR, ↓kRIR, ↓kNN, ↓kE, ↓br, ↓bn, ↓rtI, ↓gfv, ↓zchk, lput, ldel, lbad, alA, acat, isRf, dom, dS, dJ, isO, aTy, aLen, elAV, elR, Nat.reduceBEq, Nat.reduceAdd, Bool.or, Bool.and, Nat.add_zero, Nat.zero_add]
        try simp only [Nat.reduceLT, Nat.reduceLeDiff, Nat.reduceEqDiff, true_and, and_true, and_self, Nat.zero_le, Nat.le_refl, true_or, or_true, Bool.false_eq_true, not_false_eq_true, Nat.reduceAdd, Nat.lt_add_one, Nat.zero_lt_one, nI_add, pk_mul, ixL, vpL, ne_eq, reduceIte, wI_sA, sA_same, sA_ne, sA_sA, sA_comm, uI_at, uN_at, enc_at, uI_enc, uI_uI, itn1, itn2, itn3, itn4, itc, itc0, itc1, upM_s, upM_n, dI_sub]
        have h := h90 (a 4) 0 (by omega) [(0, mM), (1, aI (nI (bR a (a 4) 0))), (4, aI (dI (a 4)))] (List.forall_mem_cons.mpr ⟨rfl, List.forall_mem_cons.mpr ⟨rfl, List.forall_mem_cons.mpr ⟨rfl, fun _ h => absurd h List.not_mem_nil⟩⟩⟩)
        have e0 : sA τ 31 (enc (sD a 0)) = τ := sA_id hv
        rw [e0] at h
        exact V.sub h (List.forall_mem_cons.mpr ⟨rfl, List.forall_mem_cons.mpr ⟨rfl, List.forall_mem_cons.mpr ⟨rfl, fun _ h => absurd h List.not_mem_nil⟩⟩⟩)
      | succ w ih =>
        intro k hk q hq al hal
        refine V.sub ?_ hal
        have hk10 : k < 10 := by omega
        have hu32 := uA_lt a k
        have ix : (nI k).toNatClampNeg = k := ixL (by omega)
        have vx : vp_in (nI k) 10 = True := vpL (by omega) (by omega)
        have hS3 : MS (sA (sA τ 35 r) 36 q) a := hS2.s36
        have ih' := fun z hz => ih (k + 1) (by omega) (uI q k (oI (gk a k))) (fun i hi => by
          rw [uI_at]
          by_cases e : i = k
          · subst e; rw [if_pos rfl]
          · rw [if_neg e]; exact hq i (by omega)) z hz
        have hua : uA a (k + 1) = match gk a k with | none => uA a k | some b => uA a k ||| 2 ^ b := rfl
        rw [hua] at ih'
        refine V_run hB (rt := some .int) (nL := 5) (mc := 0) rfl rfl rfl obX11_sellsAll_33 ?_
        dsimp only [bX11_sellsAll_33, ↓wpb, ↓wp1, ↓vI, ↓vL, ↓vD, ↓ldI, ↓ldL, ↓ldD, ↓ldR, ↓k1, ↓k2, ↓kI, ↓kL, ↓kD, ↓kII, ↓kLL, ↓kDD, ↓kR, ↓kIR, ↓kLR, ↓kIIR, ↓kLIR, ↓kDIR, ↓kRIR, ↓kNN, ↓kE, ↓br, ↓bn, ↓rtI, ↓gfv, ↓zchk, lput, ldel, lbad, alA, acat, isRf, dom, dS, dJ, isO, aTy, aLen, elAV, elR, Nat.reduceBEq, Nat.reduceAdd, Bool.or, Bool.and, Nat.add_zero, Nat.zero_add]
        try simp only [Nat.reduceLT, Nat.reduceLeDiff, Nat.reduceEqDiff, true_and, and_true, and_self, Nat.zero_le, Nat.le_refl, true_or, or_true, Bool.false_eq_true, not_false_eq_true, Nat.reduceAdd, Nat.lt_add_one, Nat.zero_lt_one, nI_add, pk_mul, ixL, vpL, ne_eq, reduceIte, wI_sA, sA_same, sA_ne, sA_sA, sA_comm, uI_at, uN_at, enc_at, uI_enc, uI_uI, itn1, itn2, itn3, itn4, itc, itc0, itc1, upM_s, upM_n]
        refine ⟨fun h => absurd h (nI_ge (by omega) (by omega)), fun _ => ?_⟩
        refine V_cV hB hno (q_gets hc hS3 hb (by rw [sA_ne (by decide), sA_same]; exact hr) (by omega) hu32) rfl (by decide +kernel) cvX11_162 (dom1 rfl) npX11_gets ⟨by decide, by decide⟩ (Nat.le_of_ble_eq_true rfl) (n' := 0) (by decide) rfl ?_
        refine V_run hB (rt := some .int) (nL := 5) (mc := 0) rfl rfl rfl obX11_sellsAll_52 ?_
        dsimp only [bX11_sellsAll_52, ↓wpb, ↓wp1, ↓vI, ↓vL, ↓vD, ↓ldI, ↓ldL, ↓ldD, ↓ldR, ↓k1, ↓k2, ↓kI, ↓kL, ↓kD, ↓kII, ↓kLL, ↓kDD, ↓kR, ↓kIR, ↓kLR, ↓kIIR, ↓kLIR, ↓kDIR, ↓kRIR, ↓kNN, ↓kE, ↓br, ↓bn, ↓rtI, ↓gfv, ↓zchk, lput, ldel, lbad, alA, acat, isRf, dom, dS, dJ, isO, aTy, aLen, elAV, elR, Nat.reduceBEq, Nat.reduceAdd, Bool.or, Bool.and, Nat.add_zero, Nat.zero_add]
        try simp only [Nat.reduceLT, Nat.reduceLeDiff, Nat.reduceEqDiff, true_and, and_true, and_self, Nat.zero_le, Nat.le_refl, true_or, or_true, Bool.false_eq_true, not_false_eq_true, Nat.reduceAdd, Nat.lt_add_one, Nat.zero_lt_one, nI_add, pk_mul, ixL, vpL, ne_eq, reduceIte, wI_sA, sA_same, sA_ne, sA_sA, sA_comm, uI_at, uN_at, enc_at, uI_enc, uI_uI, itn1, itn2, itn3, itn4, itc, itc0, itc1, upM_s, upM_n, ix, vx]
        have hgk : gts a k (uA a k) = gk a k := rfl
        rw [hgk]
        cases hg : gk a k with
        | none =>
          rw [hg] at ih'
          simp only [oI_none]
          refine ⟨fun h => absurd h (by decide), fun _ => ?_⟩
          refine V_run hB (rt := some .int) (nL := 5) (mc := 0) rfl rfl rfl obX11_sellsAll_77 ?_
          dsimp only [bX11_sellsAll_77, ↓wpb, ↓wp1, ↓vI, ↓vL, ↓vD, ↓ldI, ↓ldL, ↓ldD, ↓ldR, ↓k1, ↓k2, ↓kI, ↓kL, ↓kD, ↓kII, ↓kLL, ↓kDD, ↓kR, ↓kIR, ↓kLR, ↓kIIR, ↓kLIR, ↓kDIR, ↓kRIR, ↓kNN, ↓kE, ↓br, ↓bn, ↓rtI, ↓gfv, ↓zchk, lput, ldel, lbad, alA, acat, isRf, dom, dS, dJ, isO, aTy, aLen, elAV, elR, Nat.reduceBEq, Nat.reduceAdd, Bool.or, Bool.and, Nat.add_zero, Nat.zero_add]
          try simp only [Nat.reduceLT, Nat.reduceLeDiff, Nat.reduceEqDiff, true_and, and_true, and_self, Nat.zero_le, Nat.le_refl, true_or, or_true, Bool.false_eq_true, not_false_eq_true, Nat.reduceAdd, Nat.lt_add_one, Nat.zero_lt_one, nI_add, pk_mul, ixL, vpL, ne_eq, reduceIte, wI_sA, sA_same, sA_ne, sA_sA, sA_comm, uI_at, uN_at, enc_at, uI_enc, uI_uI, itn1, itn2, itn3, itn4, itc, itc0, itc1, upM_s, upM_n]
          rw [show nI (uA a k) ||| nI 0 = nI (uA a k) from or0 _ hu32]
          exact ih' _ (List.forall_mem_cons.mpr ⟨rfl, List.forall_mem_cons.mpr ⟨rfl, List.forall_mem_cons.mpr ⟨rfl, List.forall_mem_cons.mpr ⟨rfl, List.forall_mem_cons.mpr ⟨rfl, fun _ h => absurd h List.not_mem_nil⟩⟩⟩⟩⟩)
        | some b =>
          have hb5 := gk_lt hg
          rw [hg] at ih'
          simp only [oI_some]
          refine ⟨fun _ => ?_, fun h => absurd (nI_pos' (by omega)) h⟩
          refine V_run hB (rt := some .int) (nL := 5) (mc := 0) rfl rfl rfl obX11_sellsAll_68 ?_
          dsimp only [bX11_sellsAll_68, ↓wpb, ↓wp1, ↓vI, ↓vL, ↓vD, ↓ldI, ↓ldL, ↓ldD, ↓ldR, ↓k1, ↓k2, ↓kI, ↓kL, ↓kD, ↓kII, ↓kLL, ↓kDD, ↓kR, ↓kIR, ↓kLR, ↓kIIR, ↓kLIR, ↓kDIR, ↓kRIR, ↓kNN, ↓kE, ↓br, ↓bn, ↓rtI, ↓gfv, ↓zchk, lput, ldel, lbad, alA, acat, isRf, dom, dS, dJ, isO, aTy, aLen, elAV, elR, Nat.reduceBEq, Nat.reduceAdd, Bool.or, Bool.and, Nat.add_zero, Nat.zero_add]
          try simp only [Nat.reduceLT, Nat.reduceLeDiff, Nat.reduceEqDiff, true_and, and_true, and_self, Nat.zero_le, Nat.le_refl, true_or, or_true, Bool.false_eq_true, not_false_eq_true, Nat.reduceAdd, Nat.lt_add_one, Nat.zero_lt_one, nI_add, pk_mul, ixL, vpL, ne_eq, reduceIte, wI_sA, sA_same, sA_ne, sA_sA, sA_comm, uI_at, uN_at, enc_at, uI_enc, uI_uI, itn1, itn2, itn3, itn4, itc, itc0, itc1, upM_s, upM_n, ix, vx, shl5 b hb5, or5 _ hu32 b hb5]
          exact ih' _ (List.forall_mem_cons.mpr ⟨rfl, List.forall_mem_cons.mpr ⟨rfl, List.forall_mem_cons.mpr ⟨rfl, List.forall_mem_cons.mpr ⟨rfl, List.forall_mem_cons.mpr ⟨rfl, fun _ h => absurd h List.not_mem_nil⟩⟩⟩⟩⟩)
    refine V_run hB (rt := some .int) (nL := 5) (mc := 0) rfl rfl rfl obX11_sellsAll_23 ?_
    dsimp only [bX11_sellsAll_23, ↓wpb, ↓wp1, ↓vI, ↓vL, ↓vD, ↓ldI, ↓ldL, ↓ldD, ↓ldR, ↓k1, ↓k2, ↓kI, ↓kL, ↓kD, ↓kII, ↓kLL, ↓kDD, ↓kR, ↓kIR, ↓kLR, ↓kIIR, ↓kLIR, ↓kDIR, ↓kRIR, ↓kNN, ↓kE, ↓br, ↓bn, ↓rtI, ↓gfv, ↓zchk, lput, ldel, lbad, alA, acat, isRf, dom, dS, dJ, isO, aTy, aLen, elAV, elR, Nat.reduceBEq, Nat.reduceAdd, Bool.or, Bool.and, Nat.add_zero, Nat.zero_add]
    try simp only [Nat.reduceLT, Nat.reduceLeDiff, Nat.reduceEqDiff, true_and, and_true, and_self, Nat.zero_le, Nat.le_refl, true_or, or_true, Bool.false_eq_true, not_false_eq_true, Nat.reduceAdd, Nat.lt_add_one, Nat.zero_lt_one, nI_add, pk_mul, ixL, vpL, ne_eq, reduceIte, wI_sA, sA_same, sA_ne, sA_sA, sA_comm, uI_at, uN_at, enc_at, uI_enc, uI_uI, itn1, itn2, itn3, itn4, itc, itc0, itc1, upM_s, upM_n, hv]
    have h := h33 (a 4) 0 (by omega) (τ.1 (36, 0, 0)) (fun i hi => absurd hi (Nat.not_lt_zero _)) [(0, mM), (1, aI (nI (bR a (a 4) 0))), (2, aI (nI (uA a 0))), (3, aI (nI (a 4))), (4, aI (nI 0))] (List.forall_mem_cons.mpr ⟨rfl, List.forall_mem_cons.mpr ⟨rfl, List.forall_mem_cons.mpr ⟨rfl, List.forall_mem_cons.mpr ⟨rfl, List.forall_mem_cons.mpr ⟨rfl, fun _ h => absurd h List.not_mem_nil⟩⟩⟩⟩⟩)
    rw [sA_id (K := 36) (by rw [sA_ne (by decide)])] at h
    exact h
  · have h0 : bR a (a 4) 0 = 0 := by
      have h1 : nI (bR a (a 4) 0) = nI 0 := h
      exact (nI_eq (by omega) (by omega)).mp h1
    have e : sEve a = (1, 0, a) := if_pos h0
    rw [e] at hB
    refine V_cV hB hno (q_failM hc hS.s35 1) rfl (by decide +kernel) cvX11_76 (dom1 rfl) npX11_fail ⟨by decide, by decide⟩ (Nat.le_of_ble_eq_true rfl) (n' := 0) (by decide) rfl ?_
    refine V_run hB (rt := some .int) (nL := 5) (mc := 0) rfl rfl rfl obX11_sellsAll_22 ?_
    dsimp only [bX11_sellsAll_22, ↓wpb, ↓wp1, ↓vI, ↓vL, ↓vD, ↓ldI, ↓ldL, ↓ldD, ↓ldR, ↓k1, ↓k2, ↓kI, ↓kL, ↓kD, ↓kII, ↓kLL, ↓kDD, ↓kR, ↓kIR, ↓kLR, ↓kIIR, ↓kLIR, ↓kDIR, ↓kRIR, ↓kNN, ↓kE, ↓br, ↓bn, ↓rtI, ↓gfv, ↓zchk, lput, ldel, lbad, alA, acat, isRf, dom, dS, dJ, isO, aTy, aLen, elAV, elR, Nat.reduceBEq, Nat.reduceAdd, Bool.or, Bool.and, Nat.add_zero, Nat.zero_add]
    try simp only [Nat.reduceLT, Nat.reduceLeDiff, Nat.reduceEqDiff, true_and, and_true, and_self, Nat.zero_le, Nat.le_refl, true_or, or_true, Bool.false_eq_true, not_false_eq_true, Nat.reduceAdd, Nat.lt_add_one, Nat.zero_lt_one, nI_add, pk_mul, ixL, vpL, ne_eq, reduceIte, wI_sA, sA_same, sA_ne, sA_sA, sA_comm, uI_at, uN_at, enc_at, uI_enc, uI_uI, itn1, itn2, itn3, itn4, itc, itc0, itc1, upM_s, upM_n]
    refine ⟨r, τ.1 (36, 0, 0), ?_⟩
    rw [opM_fail (by rw [sA_ne (by decide)]; exact hv), opM_fail hv, sA_ne (by decide), sA_comm (by decide)]
    exact (sA_id (by rw [sA_ne (by decide), sA_ne (by decide)])).symm
end M6
