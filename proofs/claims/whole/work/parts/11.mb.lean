/-! ===== .. the longer ones ===== -/
theorem zU_it {a : Nat → Nat} {n j c : Nat} (hc : c < 12) : it (zU a n 12) j c = if j = n then 0 else it a j c := by
  simp only [it, zU]
  by_cases h : j = n
  · rw [if_pos (by omega), if_pos h]
  · rw [if_neg (by omega), if_neg h]
theorem plA_it {a : Nat → Nat} {x m t j c : Nat} (hc : c < 12) : it (plA a x m t) j c = if j = a 4 then (if c = 0 then a 3 else if c = 2 then x else if c = 3 then m else if c = 4 then m * a 1 else if c = 5 then a 0 else if c = 6 then a 0 + t else 0) else it a j c := by
  have h0 : ∀ (b : Nat → Nat) (i y : Nat), it (uN b (16 + 12 * i) y) j c = if j = i ∧ c = 0 then y else it b j c := fun b i y => it_hi (c := 0) (by omega) hc
  unfold plA
  rw [it_lo (by omega), it_lo (by omega), it_lo (by omega), it_lo (by omega), it_hi (by omega) hc, it_hi (by omega) hc, it_hi (by omega) hc, it_hi (by omega) hc, it_hi (by omega) hc, h0, zU_it hc]
  by_cases h : j = a 4
  · simp only [h, true_and, if_true]
    by_cases c0 : c = 0
    · subst c0; rfl
    · by_cases c2 : c = 2
      · subst c2; rfl
      · by_cases c3 : c = 3
        · subst c3; rfl
        · by_cases c4 : c = 4
          · subst c4; rfl
          · by_cases c5 : c = 5
            · subst c5; rfl
            · by_cases c6 : c = 6
              · subst c6; rfl
              · simp only [c0, c2, c3, c4, c5, c6, if_false]
  · simp only [h, false_and, if_false]
theorem plA_lo {a : Nat → Nat} {x m t k : Nat} (hk : k < 16) : (plA a x m t) k = if k = 3 then a 3 + 1 else if k = 4 then a 4 + 1 else if k = 8 then a 8 + m else if k = 2 then a 2 - m * a 1 else a k := by
  have h0 : ∀ (b : Nat → Nat) (i y : Nat), (uN b (16 + 12 * i) y) k = b k := fun b i y => by simp only [uN]; rw [if_neg (by omega)]
  unfold plA
  have e : ∀ (b : Nat → Nat) (q y : Nat), uN b q y k = if k = q then y else b k := fun b q y => rfl
  rw [e, e, e, e, lo_hi hk, lo_hi hk, lo_hi hk, lo_hi hk, lo_hi hk, h0, zU_lo hk]
theorem plA_Zr {a : Nat → Nat} {x m t : Nat} (hZ : Zr a) (h : a 4 < 10) : Zr (plA a x m t) := by
  unfold plA
  refine Zr_uN (Zr_uN (Zr_uN (Zr_uN (Zr_uN (Zr_uN (Zr_uN (Zr_uN (Zr_uN (Zr_uN ?_ (by omega)) (by omega)) (by omega)) (by omega)) (by omega)) (by omega)) (by omega)) (by omega)) (by omega)) (by omega)
  intro k hk
  unfold zU
  rw [if_neg (by omega)]
  exact hZ k hk
theorem IV_sPl {n : Nat} {a : Nat → Nat} (h : IV n a) (p0 p1 p2 : Int32) : IV (n + 1) (sPl a p0 p1 p2).2.2 := by
  unfold sPl
  split
  · rename_i hp
    obtain ⟨x, rfl, -, x2⟩ := inR_N hp.1 (by omega) (by omega)
    obtain ⟨m, rfl, m1, m2⟩ := inR_N hp.2.1 (by omega) (by omega)
    obtain ⟨t, rfl, t1, t2⟩ := inR_N hp.2.2 (by omega) (by omega)
    rw [ixL (by omega), ixL (by omega), ixL (by omega)]
    split
    · exact h.mono (by omega)
    · rename_i h10
      split
      · exact h.mono (by omega)
      · show IV (n + 1) (plA a x m t)
        obtain ⟨hI, hZ, ⟨s1, s1'⟩, s2, s3, s4, s5, s6, s7, s8, s9⟩ := h
        have h4 : a 4 < 10 := by have := hI.1; omega
        have hml : m * a 1 ≤ 2160 := by
          have : m * a 1 ≤ 240 * 9 := Nat.mul_le_mul m2 s1'
          omega
        have hm1 : 1 ≤ m * a 1 := Nat.mul_pos (by omega) (by omega)
        have f : ∀ c, c < 12 → it (plA a x m t) (a 4) c = if c = 0 then a 3 else if c = 2 then x else if c = 3 then m else if c = 4 then m * a 1 else if c = 5 then a 0 else if c = 6 then a 0 + t else 0 := fun c hc => by rw [plA_it hc, if_pos rfl]
        have f0 : it (plA a x m t) (a 4) 0 = a 3 := f 0 (by omega)
        have f1 : it (plA a x m t) (a 4) 1 = 0 := f 1 (by omega)
        have f2 : it (plA a x m t) (a 4) 2 = x := f 2 (by omega)
        have f3 : it (plA a x m t) (a 4) 3 = m := f 3 (by omega)
        have f4 : it (plA a x m t) (a 4) 4 = m * a 1 := f 4 (by omega)
        have f5 : it (plA a x m t) (a 4) 5 = a 0 := f 5 (by omega)
        have f6 : it (plA a x m t) (a 4) 6 = a 0 + t := f 6 (by omega)
        have f7 : ∀ b, b < 5 → it (plA a x m t) (a 4) (7 + b) = 0 := fun b hb => by
          rw [f _ (by omega), if_neg (by omega), if_neg (by omega), if_neg (by omega), if_neg (by omega), if_neg (by omega), if_neg (by omega)]
        have e0 : (plA a x m t) 0 = a 0 := plA_lo (by omega)
        have e3 : (plA a x m t) 3 = a 3 + 1 := plA_lo (by omega)
        have e4 : (plA a x m t) 4 = a 4 + 1 := plA_lo (by omega)
        refine ⟨?_, plA_Zr hZ h4, ?_⟩
        · rw [e0, e3, e4]
          refine hI.add h4 (fun j hj hjm c hc => by rw [plA_it hc, if_neg hjm]) ?_ ?_ f0
          · refine ⟨?_, ?_, ?_, ?_, ?_, ?_, ?_, ?_⟩
            · rw [f1]; omega
            · rw [f2]; omega
            · rw [f3]; omega
            · rw [f4]; omega
            · rw [f5]; omega
            · rw [f6, f5]; omega
            · intro b hb; rw [f7 b hb]; omega
            · intro _ b hb; exact f7 b hb
          · refine ⟨?_, ?_, ?_, ?_⟩
            · rw [f0]; omega
            · rw [f3]; omega
            · rw [f4]; omega
            · intro _; rw [f6]; omega
        · have g : ∀ k, k < 16 → k ≠ 3 → k ≠ 4 → k ≠ 8 → k ≠ 2 → (plA a x m t) k = a k := fun k hk k3 k4 k8 k2 => by rw [plA_lo hk, if_neg k3, if_neg k4, if_neg k8, if_neg k2]
          refine ⟨?_, ?_, ?_, ?_, ?_, ?_, ?_, ?_, ?_⟩
          · rw [g 1 (by omega) (by omega) (by omega) (by omega) (by omega)]; exact ⟨s1, s1'⟩
          · intro w hw; rw [g _ (by omega) (by omega) (by omega) (by omega) (by omega)]; exact s2 w hw
          · rw [e0]; omega
          · have : (plA a x m t) 2 = a 2 - m * a 1 := plA_lo (by omega)
            rw [this]; omega
          · rw [e3]; omega
          · rw [g 5 (by omega) (by omega) (by omega) (by omega) (by omega)]; omega
          · rw [g 6 (by omega) (by omega) (by omega) (by omega) (by omega)]; omega
          · rw [g 7 (by omega) (by omega) (by omega) (by omega) (by omega)]; omega
          · have : (plA a x m t) 8 = a 8 + m := plA_lo (by omega)
            rw [this]; omega
  · exact h.mono (by omega)
/-- one day -/
def dyA (a : Nat → Nat) : Nat → Nat := (fA (uN a 0 (a 0 + 1)) (a 4)).1
theorem dyA_it {a : Nat → Nat} (h : a 4 ≤ 10) : (∀ c, c < 16 → c ≠ 6 → c ≠ 0 → dyA a c = a c) ∧ dyA a 0 = a 0 + 1 ∧ (∀ c, 136 ≤ c → dyA a c = a c) ∧ ∀ i, i < 10 → ∀ c, c < 12 → it (dyA a) i c = if c = 1 ∧ i < a 4 ∧ it a i 1 ≠ 1 ∧ it a i 6 < a 0 + 1 then 1 else it a i c := by
  obtain ⟨h1, h2, h3⟩ := fA_it (uN a 0 (a 0 + 1)) (a 4) h
  refine ⟨fun c hc c6 c0 => ?_, h1 0 (by omega) (by omega), fun c hc => ?_, fun i hi c hc => ?_⟩
  · unfold dyA; rw [h1 c hc c6]; simp only [uN]; rw [if_neg c0]
  · unfold dyA; rw [h2 c hc]; simp only [uN]; rw [if_neg (by omega)]
  · unfold dyA
    rw [h3 i hi c hc, it_lo (by omega), it_lo (by omega), it_lo (by omega)]
    rfl
theorem pA_dy {a : Nat → Nat} (hm : ∀ j, j < 10 → it a j 3 ≤ 240) (h10 : a 4 ≤ 10) (d : Nat) : (pA a (d + 1)).1 = dyA (pA a d).1 := by
  have := (pA_bd hm h10 d).1
  unfold dyA
  rw [this]
  rfl
theorem IV_pA {n : Nat} {a : Nat → Nat} (h : IV n a) : ∀ d, ITS ((pA a d).1 0) ((pA a d).1 3) ((pA a d).1 4) (it (pA a d).1) ∧ Zr (pA a d).1 ∧ ∀ k, k < 16 → k ≠ 0 → k ≠ 6 → (pA a d).1 k = a k
  | 0 => ⟨h.1, h.2.1, fun _ _ _ _ => rfl⟩
  | d + 1 => by
    obtain ⟨h1, h2, h3⟩ := IV_pA h d
    rw [pA_dy (fun j hj => (h.1.2.1 j hj).2.2.1) h.1.1]
    obtain ⟨g1, g2, g3, g4⟩ := dyA_it h1.1
    refine ⟨?_, fun k hk => by rw [g3 k hk]; exact h2 k hk, fun k hk k0 k6 => by rw [g1 k hk k6 k0]; exact h3 k hk k0 k6⟩
    rw [g2, g1 3 (by omega) (by omega) (by omega), g1 4 (by omega) (by omega) (by omega)]
    exact h1.next g4
theorem IV_sPas {n : Nat} {a : Nat → Nat} (h : IV n a) (p : Int32) : IV (n + 1) (sPas a p).2.2 := by
  unfold sPas
  split
  · rename_i hp
    obtain ⟨d, rfl, d1, d2⟩ := inR_N hp (by omega) (by omega)
    rw [ixL (by omega)]
    show IV (n + 1) (pA a d).1
    obtain ⟨g1, g2, g3⟩ := IV_pA h d
    obtain ⟨b1, b2, b3, b4, b5, b6⟩ := pA_bd (fun j hj => (h.1.2.1 j hj).2.2.1) h.1.1 d
    obtain ⟨s1, s2, s3, s4, s5, s6, s7, s8, s9⟩ := h.2.2
    refine ⟨g1, g2, ?_, ?_, ?_, ?_, ?_, ?_, ?_, ?_, ?_⟩
    · rw [g3 1 (by omega) (by omega) (by omega)]; exact s1
    · intro w hw; rw [g3 _ (by omega) (by omega) (by omega)]; exact s2 w hw
    · rw [b2]; omega
    · rw [g3 2 (by omega) (by omega) (by omega)]; omega
    · rw [g3 3 (by omega) (by omega) (by omega)]; omega
    · rw [g3 5 (by omega) (by omega) (by omega)]; omega
    · omega
    · rw [g3 7 (by omega) (by omega) (by omega)]; omega
    · rw [g3 8 (by omega) (by omega) (by omega)]; omega
  · exact h.mono (by omega)
theorem IV_sD {n : Nat} {a : Nat → Nat} (h : IV n a) (hn : n ≤ 1000) : ∀ d, d ≤ a 4 → ITS ((sD a d) 0) ((sD a d) 3) ((sD a d) 4) (it (sD a d)) ∧ Zr (sD a d)
  | 0, _ => ⟨h.1, h.2.1⟩
  | d + 1, hd => by
    obtain ⟨h1, h2⟩ := IV_sD h hn d (by omega)
    have hbd : bidOk a := fun i hi b hb => (h.1.2.1 i hi).2.2.2.2.2.2.1 b hb
    obtain ⟨c1, c2, c3, c4, c5, c6, c7⟩ := sD_bd hbd (fun j hj => (h.1.2.1 j hj).2.2.1) h.1.1 (M := 216000000) (fun k hk => h.bd hn k) d (by omega)
    cases hg : gk a (a 4 - (d + 1)) with
    | none =>
      have e : sD a (d + 1) = sD a d := by show (match gk a (a 4 - (d + 1)) with | none => _ | some b => _) = _; rw [hg]
      rw [e]
      exact ⟨h1, h2⟩
    | some b =>
      have e : sD a (d + 1) = soldA (sD a d) (a 4 - (d + 1)) (it (sD a d) (a 4 - (d + 1)) (7 + b)) := by show (match gk a (a 4 - (d + 1)) with | none => _ | some b => _) = _; rw [hg]
      rw [e]
      have hi : a 4 - (d + 1) < (sD a d) 4 := by omega
      generalize sD a d = s at *
      generalize a 4 - (d + 1) = i at *
      have h10 := h1.1
      have e0 : (soldA s i (it s i (7 + b))) 0 = s 0 := goesA_lo (by omega) (by omega)
      have e3 : (soldA s i (it s i (7 + b))) 3 = s 3 := goesA_lo (by omega) (by omega)
      have e4 : (soldA s i (it s i (7 + b))) 4 = s 4 - 1 := rfl
      refine ⟨?_, ?_⟩
      · rw [e0, e3, e4]
        refine h1.goes hi (fun j hj c hc => ?_)
        unfold soldA
        rw [it_goes (by omega) hj hc, it_lo (by omega), it_lo (by omega), it_lo (by omega), it_lo (by omega)]
      · exact Zr_goes (Zr_uN (Zr_uN h2 (by omega)) (by omega))
theorem IV.bidOk {n : Nat} {a : Nat → Nat} (h : IV n a) : bidOk a := fun i hi b hb => (h.1.2.1 i hi).2.2.2.2.2.2.1 b hb
theorem IV.min {n : Nat} {a : Nat → Nat} (h : IV n a) : ∀ j, j < 10 → it a j 3 ≤ 240 := fun j hj => (h.1.2.1 j hj).2.2.1
theorem IV_sEve {n : Nat} {a : Nat → Nat} (h : IV n a) (hn : n ≤ 1000) : IV (n + 1) (sEve a).2.2 := by
  unfold sEve
  split
  · exact h.mono (by omega)
  · show IV (n + 1) (sD a (a 4))
    obtain ⟨g1, g2⟩ := IV_sD h hn (a 4) (Nat.le_refl _)
    obtain ⟨c1, c2, c3, c4, c5, c6, c7⟩ := sD_bd h.bidOk h.min h.1.1 (M := 216000000) (fun k hk => h.bd hn k) (a 4) (Nat.le_refl _)
    have h10 := h.1.1
    obtain ⟨s1, s2, s3, s4, s5, s6, s7, s8, s9⟩ := h.2.2
    refine ⟨g1, g2, ?_, ?_, ?_, ?_, ?_, ?_, ?_, ?_, ?_⟩
    · rw [c4 1 (by omega) (by omega) (by omega) (by omega)]; exact s1
    · intro w hw; rw [c4 _ (by omega) (by omega) (by omega) (by omega)]; exact s2 w hw
    · rw [c4 0 (by omega) (by omega) (by omega) (by omega)]; omega
    · omega
    · rw [c4 3 (by omega) (by omega) (by omega) (by omega)]; omega
    · rw [c4 5 (by omega) (by omega) (by omega) (by omega)]; omega
    · rw [c4 6 (by omega) (by omega) (by omega) (by omega)]; omega
    · omega
    · rw [c4 8 (by omega) (by omega) (by omega) (by omega)]; omega
