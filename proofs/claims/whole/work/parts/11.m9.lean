/-! ===== what every state of a run keeps ===== -/
def ItB (d : Nat) (t : Nat → Nat) : Prop := t 1 ≤ 1 ∧ t 2 ≤ 5 ∧ t 3 ≤ 240 ∧ t 4 ≤ 2160 ∧ t 5 ≤ d ∧ t 6 ≤ t 5 + 60 ∧ (∀ b, b < 5 → t (7 + b) ≤ 999) ∧ (t 1 = 0 → ∀ b, b < 5 → t (7 + b) = 0)
def ItU (d nx : Nat) (t : Nat → Nat) : Prop := t 0 < nx ∧ 1 ≤ t 3 ∧ 1 ≤ t 4 ∧ (t 1 = 0 → d ≤ t 6)
def ITS (d nx m : Nat) (t : Nat → Nat → Nat) : Prop := m ≤ 10 ∧ (∀ i, i < 10 → ItB d (t i)) ∧ (∀ i, i < m → ItU d nx (t i)) ∧ (∀ i j, i < j → j < m → t i 0 < t j 0) ∧ (∀ i, m ≤ i → i < 10 → ∀ c, c < 12 → t i c = 0)
def SC (n : Nat) (a : Nat → Nat) : Prop := (1 ≤ a 1 ∧ a 1 ≤ 9) ∧ (∀ w, w < 7 → a (9 + w) ≤ 9) ∧ a 0 ≤ 90 * n ∧ a 2 ≤ 2000 + 20000 * n ∧ a 3 ≤ n ∧ a 5 ≤ 240 * n ∧ a 6 ≤ 216000 * n ∧ a 7 ≤ 2400 * n ∧ a 8 ≤ 240 * n
def IV (n : Nat) (a : Nat → Nat) : Prop := ITS (a 0) (a 3) (a 4) (it a) ∧ Zr a ∧ SC n a
theorem ItB.of {d : Nat} {t t' : Nat → Nat} (h : ItB d t) (e : ∀ c, c < 12 → t' c = t c) : ItB d t' := by
  obtain ⟨h1, h2, h3, h4, h5, h6, h7, h8⟩ := h
  refine ⟨?_, ?_, ?_, ?_, ?_, ?_, ?_, ?_⟩
  · rw [e 1 (by omega)]; exact h1
  · rw [e 2 (by omega)]; exact h2
  · rw [e 3 (by omega)]; exact h3
  · rw [e 4 (by omega)]; exact h4
  · rw [e 5 (by omega)]; exact h5
  · rw [e 6 (by omega), e 5 (by omega)]; exact h6
  · intro b hb; rw [e _ (by omega)]; exact h7 b hb
  · intro h b hb; rw [e 1 (by omega)] at h; rw [e _ (by omega)]; exact h8 h b hb
theorem ItU.of {d nx : Nat} {t t' : Nat → Nat} (h : ItU d nx t) (e : ∀ c, c < 12 → t' c = t c) : ItU d nx t' := by
  obtain ⟨h1, h2, h3, h4⟩ := h
  refine ⟨?_, ?_, ?_, ?_⟩
  · rw [e 0 (by omega)]; exact h1
  · rw [e 3 (by omega)]; exact h2
  · rw [e 4 (by omega)]; exact h3
  · rw [e 1 (by omega), e 6 (by omega)]; exact h4
theorem ItB.zero {d : Nat} {t : Nat → Nat} (h : ∀ c, c < 12 → t c = 0) : ItB d t := by
  refine ⟨?_, ?_, ?_, ?_, ?_, ?_, ?_, ?_⟩
  · rw [h 1 (by omega)]; omega
  · rw [h 2 (by omega)]; omega
  · rw [h 3 (by omega)]; omega
  · rw [h 4 (by omega)]; omega
  · rw [h 5 (by omega)]; omega
  · rw [h 6 (by omega)]; omega
  · intro b hb; rw [h _ (by omega)]; omega
  · intro _ b hb; exact h _ (by omega)
theorem ItB.day {d e : Nat} {t : Nat → Nat} (h : ItB d t) (hd : d ≤ e) : ItB e t := ⟨h.1, h.2.1, h.2.2.1, h.2.2.2.1, Nat.le_trans h.2.2.2.2.1 hd, h.2.2.2.2.2⟩
theorem ITS.of {d nx m : Nat} {t t' : Nat → Nat → Nat} (h : ITS d nx m t) (e : ∀ i, i < 10 → ∀ c, c < 12 → t' i c = t i c) : ITS d nx m t' := by
  obtain ⟨h1, h2, h3, h4, h5⟩ := h
  refine ⟨h1, fun i hi => (h2 i hi).of (e i hi), fun i hi => (h3 i hi).of (e i (by omega)), fun i j hij hj => ?_, fun i hm hi c hc => ?_⟩
  · rw [e i (by omega) 0 (by omega), e j (by omega) 0 (by omega)]; exact h4 i j hij hj
  · rw [e i hi c hc]; exact h5 i hm hi c hc
theorem ITS.goes {d nx m i : Nat} {t t' : Nat → Nat → Nat} (h : ITS d nx m t) (hi : i < m) (e : ∀ j, j < 10 → ∀ c, c < 12 → t' j c = if j < i then t j c else if j + 1 < 10 then t (j + 1) c else 0) : ITS d nx (m - 1) t' := by
  obtain ⟨h1, h2, h3, h4, h5⟩ := h
  have f : ∀ j, j < 10 → (∀ c, c < 12 → t' j c = t j c) ∧ j < i ∨ (∀ c, c < 12 → t' j c = t (j + 1) c) ∧ i ≤ j ∧ j < 9 ∨ (∀ c, c < 12 → t' j c = 0) ∧ j = 9 := by
    intro j hj
    by_cases h : j < i
    · exact Or.inl ⟨fun c hc => by rw [e j hj c hc, if_pos h], h⟩
    · by_cases g : j < 9
      · exact Or.inr (Or.inl ⟨fun c hc => by rw [e j hj c hc, if_neg h, if_pos (by omega)], by omega, g⟩)
      · exact Or.inr (Or.inr ⟨fun c hc => by rw [e j hj c hc, if_neg h, if_neg (by omega)], by omega⟩)
  refine ⟨by omega, fun j hj => ?_, fun j hj => ?_, fun j k hjk hk => ?_, fun j hm hj c hc => ?_⟩
  · rcases f j hj with ⟨q, q1⟩ | ⟨q, q1, q2⟩ | ⟨q, q1⟩
    · exact (h2 j hj).of q
    · exact (h2 (j + 1) (by omega)).of q
    · exact ItB.zero q
  · rcases f j (by omega) with ⟨q, q1⟩ | ⟨q, q1, q2⟩ | ⟨q, q1⟩
    · exact (h3 j (by omega)).of q
    · exact (h3 (j + 1) (by omega)).of q
    · omega
  · rcases f j (by omega) with ⟨q, q1⟩ | ⟨q, q1, q2⟩ | ⟨q, q1⟩
    · rcases f k (by omega) with ⟨r, r1⟩ | ⟨r, r1, r2⟩ | ⟨r, r1⟩
      · rw [q 0 (by omega), r 0 (by omega)]; exact h4 j k hjk (by omega)
      · rw [q 0 (by omega), r 0 (by omega)]; exact h4 j (k + 1) (by omega) (by omega)
      · omega
    · rcases f k (by omega) with ⟨r, r1⟩ | ⟨r, r1, r2⟩ | ⟨r, r1⟩
      · omega
      · rw [q 0 (by omega), r 0 (by omega)]; exact h4 (j + 1) (k + 1) (by omega) (by omega)
      · omega
    · omega
  · rcases f j hj with ⟨q, q1⟩ | ⟨q, q1, q2⟩ | ⟨q, q1⟩
    · omega
    · rw [q c hc]; exact h5 (j + 1) (by omega) (by omega) c hc
    · exact q c hc
theorem ITS.put {d nx m i : Nat} {t t' : Nat → Nat → Nat} (h : ITS d nx m t) (hi : i < m) (e : ∀ j, j < 10 → j ≠ i → ∀ c, c < 12 → t' j c = t j c) (hb : ItB d (t' i)) (hu : ItU d nx (t' i)) (h0 : t' i 0 = t i 0) : ITS d nx m t' := by
  obtain ⟨h1, h2, h3, h4, h5⟩ := h
  have f0 : ∀ j, j < 10 → t' j 0 = t j 0 := fun j hj => by
    by_cases hji : j = i
    · subst hji; exact h0
    · exact e j hj hji 0 (by omega)
  refine ⟨h1, fun j hj => ?_, fun j hj => ?_, fun j k hjk hk => ?_, fun j hm hj c hc => ?_⟩
  · by_cases hji : j = i
    · subst hji; exact hb
    · exact (h2 j hj).of (e j hj hji)
  · by_cases hji : j = i
    · subst hji; exact hu
    · exact (h3 j hj).of (e j (by omega) hji)
  · rw [f0 j (by omega), f0 k (by omega)]; exact h4 j k hjk hk
  · rw [e j hj (by omega) c hc]; exact h5 j hm hj c hc
theorem ITS.add {d nx m : Nat} {t t' : Nat → Nat → Nat} (h : ITS d nx m t) (hm : m < 10) (e : ∀ j, j < 10 → j ≠ m → ∀ c, c < 12 → t' j c = t j c) (hb : ItB d (t' m)) (hu : ItU d (nx + 1) (t' m)) (h0 : t' m 0 = nx) : ITS d (nx + 1) (m + 1) t' := by
  obtain ⟨h1, h2, h3, h4, h5⟩ := h
  refine ⟨hm, fun j hj => ?_, fun j hj => ?_, fun j k hjk hk => ?_, fun j hj1 hj c hc => ?_⟩
  · by_cases hji : j = m
    · subst hji; exact hb
    · exact (h2 j hj).of (e j hj hji)
  · by_cases hji : j = m
    · subst hji; exact hu
    · have := (h3 j (by omega)).of (e j (by omega) hji)
      exact ⟨by have := this.1; omega, this.2⟩
  · by_cases hkm : k = m
    · subst hkm
      rw [h0, e j (by omega) (by omega) 0 (by omega)]
      exact (h3 j (by omega)).1
    · rw [e j (by omega) (by omega) 0 (by omega), e k (by omega) hkm 0 (by omega)]; exact h4 j k hjk (by omega)
  · rw [e j hj (by omega) c hc]; exact h5 j (by omega) hj c hc
/-- a day more, the overdue forfeit -/
theorem ITS.next {d nx m : Nat} {t t' : Nat → Nat → Nat} (h : ITS d nx m t) (e : ∀ i, i < 10 → ∀ c, c < 12 → t' i c = if c = 1 ∧ i < m ∧ t i 1 ≠ 1 ∧ t i 6 < d + 1 then 1 else t i c) : ITS (d + 1) nx m t' := by
  obtain ⟨h1, h2, h3, h4, h5⟩ := h
  have f : ∀ i, i < 10 → ∀ c, c < 12 → c ≠ 1 → t' i c = t i c := fun i hi c hc hc1 => by rw [e i hi c hc, if_neg (by omega)]
  refine ⟨h1, fun i hi => ?_, fun i hi => ?_, fun i j hij hj => ?_, fun i hm hi c hc => ?_⟩
  · obtain ⟨b1, b2, b3, b4, b5, b6, b7, b8⟩ := h2 i hi
    refine ⟨?_, ?_, ?_, ?_, ?_, ?_, ?_, ?_⟩
    · rw [e i hi 1 (by omega)]; split <;> omega
    · rw [f i hi 2 (by omega) (by omega)]; exact b2
    · rw [f i hi 3 (by omega) (by omega)]; exact b3
    · rw [f i hi 4 (by omega) (by omega)]; exact b4
    · rw [f i hi 5 (by omega) (by omega)]; omega
    · rw [f i hi 6 (by omega) (by omega), f i hi 5 (by omega) (by omega)]; exact b6
    · intro b hb; rw [f i hi _ (by omega) (by omega)]; exact b7 b hb
    · intro h b hb
      rw [f i hi _ (by omega) (by omega)]
      refine b8 ?_ b hb
      rw [e i hi 1 (by omega)] at h
      split at h
      · omega
      · exact h
  · obtain ⟨b1, b2, b3, b4⟩ := h3 i hi
    refine ⟨?_, ?_, ?_, ?_⟩
    · rw [f i (by omega) 0 (by omega) (by omega)]; exact b1
    · rw [f i (by omega) 3 (by omega) (by omega)]; exact b2
    · rw [f i (by omega) 4 (by omega) (by omega)]; exact b3
    · intro h
      rw [f i (by omega) 6 (by omega) (by omega)]
      rw [e i (by omega) 1 (by omega)] at h
      split at h
      · omega
      · omega
  · rw [f i (by omega) 0 (by omega) (by omega), f j (by omega) 0 (by omega) (by omega)]; exact h4 i j hij hj
  · rw [e i hi c hc, if_neg (by omega)]; exact h5 i hm hi c hc
theorem it_lo {a : Nat → Nat} {k x i c : Nat} (h : k < 16) : it (uN a k x) i c = it a i c := by
  simp only [it, uN]
  rw [if_neg (by omega)]
theorem it_hi {a : Nat → Nat} {j c d x i : Nat} (h : c < 12) (h2 : d < 12) : it (uN a (16 + 12 * i + c) x) j d = if j = i ∧ d = c then x else it a j d := by
  simp only [it, uN]
  by_cases q : j = i ∧ d = c
  · rw [if_pos (by omega), if_pos q]
  · rw [if_neg (by omega), if_neg q]
theorem lo_hi {a : Nat → Nat} {k x i c : Nat} (h : k < 16) : (uN a (16 + 12 * i + c) x) k = a k := by
  simp only [uN]
  rw [if_neg (by omega)]
theorem it_goes {a : Nat → Nat} {i j c : Nat} (hi : i < 10) (hj : j < 10) (hc : c < 12) : it (goesA a i) j c = if j < i then it a j c else if j + 1 < 10 then it a (j + 1) c else 0 := by
  simp only [it, goesA, uN, gU]
  rw [if_neg (by omega)]
  by_cases h : j < i
  · rw [if_neg (by omega), if_pos h]
  · rw [if_pos (by omega), if_neg h]
    by_cases g : j + 1 < 10
    · rw [if_pos (by omega), if_pos g]
      congr 1
      omega
    · rw [if_neg (by omega), if_neg g]
theorem Zr_goes {a : Nat → Nat} {i : Nat} (h : Zr a) : Zr (goesA a i) := by
  intro k hk
  simp only [goesA, uN, gU]
  rw [if_neg (by omega), if_neg (by omega)]
  exact h k hk
theorem Zr_uN {a : Nat → Nat} {k x : Nat} (h : Zr a) (hk : k < 136) : Zr (uN a k x) := by
  intro j hj
  simp only [uN]
  rw [if_neg (by omega)]
  exact h j hj
theorem fA_it (a : Nat → Nat) : ∀ k, k ≤ 10 → (∀ c, c < 16 → c ≠ 6 → (fA a k).1 c = a c) ∧ (∀ c, 136 ≤ c → (fA a k).1 c = a c) ∧ ∀ i, i < 10 → ∀ c, c < 12 → it (fA a k).1 i c = if c = 1 ∧ i < k ∧ it a i 1 ≠ 1 ∧ it a i 6 < a 0 then 1 else it a i c
  | 0, _ => ⟨fun _ _ _ => rfl, fun _ _ => rfl, fun i hi c hc => by rw [if_neg (by omega)]; rfl⟩
  | k + 1, hk => by
    obtain ⟨h1, h2, h3⟩ := fA_it a k (by omega)
    have hu : fA a (k + 1) = if isLot (fA a k).1 k = true ∨ (fA a k).1 0 ≤ it (fA a k).1 k 6 then fA a k else (uN (uN (fA a k).1 (16 + 12 * k + 1) 1) 6 ((fA a k).1 6 + it (fA a k).1 k 3), (fA a k).2 + 1) := rfl
    have e1 : it (fA a k).1 k 1 = it a k 1 := by rw [h3 k (by omega) 1 (by omega), if_neg (by omega)]
    have e6 : it (fA a k).1 k 6 = it a k 6 := by rw [h3 k (by omega) 6 (by omega), if_neg (by omega)]
    have e0 := h1 0 (by omega) (by omega)
    have eL : isLot (fA a k).1 k = true ↔ it a k 1 = 1 := by unfold isLot; rw [e1]; exact beq_iff_eq
    by_cases hcnd : isLot (fA a k).1 k = true ∨ (fA a k).1 0 ≤ it (fA a k).1 k 6
    · rw [hu, if_pos hcnd]
      rw [eL, e0, e6] at hcnd
      refine ⟨h1, h2, fun i hi c hc => ?_⟩
      rw [h3 i hi c hc]
      by_cases hik : i = k
      · subst hik
        rw [if_neg (by omega), if_neg (by omega)]
      · by_cases q : c = 1 ∧ i < k ∧ it a i 1 ≠ 1 ∧ it a i 6 < a 0
        · rw [if_pos q, if_pos (by omega)]
        · rw [if_neg q, if_neg (by omega)]
    · rw [hu, if_neg hcnd]
      rw [eL, e0, e6] at hcnd
      refine ⟨fun c hc hc6 => ?_, fun c hc => ?_, fun i hi c hc => ?_⟩
      · show (uN (uN (fA a k).1 (16 + 12 * k + 1) 1) 6 _) c = _
        simp only [uN]
        rw [if_neg hc6, if_neg (by omega)]
        exact h1 c hc hc6
      · show (uN (uN (fA a k).1 (16 + 12 * k + 1) 1) 6 _) c = _
        simp only [uN]
        rw [if_neg (by omega), if_neg (by omega)]
        exact h2 c hc
      · show it (uN (uN (fA a k).1 (16 + 12 * k + 1) 1) 6 _) i c = _
        rw [it_lo (by omega), it_hi (by omega) hc, h3 i hi c hc]
        by_cases hik : i = k ∧ c = 1
        · rw [if_pos hik, if_pos (by obtain ⟨rfl, rfl⟩ := hik; omega)]
        · rw [if_neg hik]
          by_cases q : c = 1 ∧ i < k ∧ it a i 1 ≠ 1 ∧ it a i 6 < a 0
          · rw [if_pos q, if_pos (by omega)]
          · rw [if_neg q, if_neg (by omega)]
