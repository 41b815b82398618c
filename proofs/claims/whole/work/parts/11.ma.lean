/-! ===== each operation keeps it ===== -/
theorem IV.it0 {n : Nat} {a : Nat → Nat} (h : IV n a) {i : Nat} (hi : i < 10) : it a i 0 ≤ a 3 := by
  by_cases g : i < a 4
  · exact Nat.le_of_lt (h.1.2.2.1 i g).1
  · rw [h.1.2.2.2.2 i (by omega) hi 0 (by omega)]; omega
theorem IV.bd {n : Nat} {a : Nat → Nat} (h : IV n a) (hn : n ≤ 1000) (k : Nat) : a k ≤ 216000000 := by
  have h4 := h.1.1
  obtain ⟨⟨s1, s1'⟩, s2, s3, s4, s5, s6, s7, s8, s9⟩ := h.2.2
  by_cases h136 : 136 ≤ k
  · rw [h.2.1 k h136]; omega
  · by_cases h16 : k < 16
    · by_cases h9 : 9 ≤ k
      · have := s2 (k - 9) (by omega)
        rw [show 9 + (k - 9) = k from by omega] at this
        omega
      · rcases (by omega : k = 0 ∨ k = 1 ∨ k = 2 ∨ k = 3 ∨ k = 4 ∨ k = 5 ∨ k = 6 ∨ k = 7 ∨ k = 8) with rfl | rfl | rfl | rfl | rfl | rfl | rfl | rfl | rfl <;> omega
    · obtain ⟨i, hi⟩ : ∃ i, i = (k - 16) / 12 := ⟨_, rfl⟩
      obtain ⟨c, hc⟩ : ∃ c, c = (k - 16) % 12 := ⟨_, rfl⟩
      have hk : k = 16 + 12 * i + c := by omega
      have hi10 : i < 10 := by omega
      have hc12 : c < 12 := by omega
      have e : a k = it a i c := by rw [hk]; rfl
      rw [e]
      obtain ⟨b1, b2, b3, b4, b5, b6, b7, b8⟩ := h.1.2.1 i hi10
      have b0 := h.it0 hi10
      by_cases h7 : 7 ≤ c
      · have := b7 (c - 7) (by omega)
        rw [show 7 + (c - 7) = c from by omega] at this
        omega
      · rcases (by omega : c = 0 ∨ c = 1 ∨ c = 2 ∨ c = 3 ∨ c = 4 ∨ c = 5 ∨ c = 6) with rfl | rfl | rfl | rfl | rfl | rfl | rfl <;> omega
theorem IV.mono {n m : Nat} {a : Nat → Nat} (h : IV n a) (hm : n ≤ m) : IV m a := by
  obtain ⟨h1, h2, s1, s2, s3, s4, s5, s6, s7, s8, s9⟩ := h
  exact ⟨h1, h2, s1, s2, by omega, by omega, by omega, by omega, by omega, by omega, by omega⟩
theorem rsU_le {a : Nat → Nat} (h : ∀ w, w < 7 → a (9 + w) ≤ 9) (f : Nat) : ∀ c, rsU a f c ≤ 9 * c
  | 0 => by simp [rsU]
  | c + 1 => by
    have h1 := rsU_le h f c
    have h2 := h ((f + 1 + c) % 7) (Nat.mod_lt _ (by omega))
    unfold rsU
    omega
theorem intr_le {n : Nat} {a : Nat → Nat} (h : IV n a) {i day e : Nat} (hi : i < 10) (hd : day ≤ it a i 5 + e) : it a i 4 * rsU a (it a i 5) (day - it a i 5) ≤ 19440 * e ∧ intr a i day ≤ 195 * e := by
  have h4 := (h.1.2.1 i hi).2.2.2.1
  have hr := rsU_le h.2.2.2.1 (it a i 5) (day - it a i 5)
  have h1 : it a i 4 * rsU a (it a i 5) (day - it a i 5) ≤ 2160 * (9 * e) := Nat.mul_le_mul h4 (by omega)
  unfold intr
  generalize it a i 4 * rsU a (it a i 5) (day - it a i 5) = x at *
  omega
theorem IV.young {n : Nat} {a : Nat → Nat} (h : IV n a) {i : Nat} (hi : i < a 4) (hl : isLot a i = false) : a 0 ≤ it a i 5 + 60 := by
  have h1 := (h.1.2.1 i (by have := h.1.1; omega)).2.2.2.2.2.1
  have h2 := (h.1.2.2.1 i hi).2.2.2
  have h3 : it a i 1 = 0 := by
    have := (h.1.2.1 i (by have := h.1.1; omega)).1
    have h5 : it a i 1 ≠ 1 := by
      intro e
      unfold isLot at hl
      rw [e] at hl
      cases hl
    omega
  have := h2 h3
  omega
theorem IV.dbt {n : Nat} {a : Nat → Nat} (h : IV n a) {i : Nat} (hi : i < a 4) (hl : isLot a i = false) : debt a i ≤ 13860 := by
  have := h.young hi hl
  have h10 : i < 10 := by have := h.1.1; omega
  have h1 := (intr_le h h10 this).2
  have h4 := (h.1.2.1 i h10).2.2.2.1
  unfold debt
  omega
theorem IV.okD {n : Nat} {a : Nat → Nat} (h : IV n a) {i e : Nat} (hi : i < a 4) (hl : isLot a i = false) (he : e ≤ 90) : okI a i (a 0 + e) := by
  have := h.young hi hl
  have h10 : i < 10 := by have := h.1.1; omega
  have h1 := (intr_le h h10 (show a 0 + e ≤ it a i 5 + 150 by omega)).1
  unfold okI
  omega
theorem goes_sc {n : Nat} {a b : Nat → Nat} {i : Nat} (h : SC n b) (hi : i < 10) (e : ∀ k, k < 16 → k ≠ 4 → a k = b k) : SC n a := by
  obtain ⟨s1, s2, s3, s4, s5, s6, s7, s8, s9⟩ := h
  refine ⟨?_, ?_, ?_, ?_, ?_, ?_, ?_, ?_, ?_⟩
  · rw [e 1 (by omega) (by omega)]; exact s1
  · intro w hw; rw [e _ (by omega) (by omega)]; exact s2 w hw
  all_goals rw [e _ (by omega) (by omega)]; assumption
theorem IV_go {n : Nat} {a b : Nat → Nat} {i : Nat} (hI : ITS (a 0) (a 3) (a 4) (it a)) (hZ : Zr a) (hi : i < a 4) (hb : ∀ k, 8 < k → b k = a k) (h0 : b 0 = a 0) (h3 : b 3 = a 3) (h4 : b 4 = a 4) (hs : SC n b) : IV n (goesA b i) := by
  have h10 := hI.1
  have e0 : (goesA b i) 0 = a 0 := (goesA_lo (by omega) (by omega)).trans h0
  have e3 : (goesA b i) 3 = a 3 := (goesA_lo (by omega) (by omega)).trans h3
  have e4 : (goesA b i) 4 = a 4 - 1 := by
    show (uN (gU b i 136) 4 (b 4 - 1)) 4 = _
    rw [← h4]
    exact if_pos rfl
  refine ⟨?_, ?_, goes_sc hs (i := i) (by omega) (fun k hk k4 => goesA_lo hk k4)⟩
  · rw [e0, e3, e4]
    refine hI.goes hi (fun j hj c hc => ?_)
    rw [it_goes (by omega) hj hc]
    simp only [it]
    rw [hb _ (by omega), hb _ (by omega)]
  · exact Zr_goes (fun k hk => by rw [hb k (by omega)]; exact hZ k hk)
theorem IV_red {n : Nat} {a : Nat → Nat} (h : IV n a) {i : Nat} (hi : i < a 4) (hl : isLot a i = false) : IV (n + 1) (redA a i) := by
  have hd := h.dbt hi hl
  have h3 := (h.1.2.1 i (by have := h.1.1; omega)).2.2.1
  refine IV_go h.1 h.2.1 hi (fun k hk => ?_) rfl rfl rfl ?_
  · simp only [uN]; rw [if_neg (by omega), if_neg (by omega)]
  · obtain ⟨s1, s2, s3, s4, s5, s6, s7, s8, s9⟩ := h.2.2
    refine ⟨s1, (fun w hw => by simp only [uN]; rw [if_neg (by omega), if_neg (by omega)]; exact s2 w hw), ?_, ?_, ?_, ?_, ?_, ?_, ?_⟩
    · show a 0 ≤ _; omega
    · show a 2 + debt a i ≤ _; omega
    · show a 3 ≤ _; omega
    · show a 5 + it a i 3 ≤ _; omega
    · show a 6 ≤ _; omega
    · show a 7 ≤ _; omega
    · show a 8 ≤ _; omega
theorem IV_sRed {n : Nat} {a : Nat → Nat} (h : IV n a) {o : Option Nat} (ho : ∀ i, o = some i → i < a 4 ∧ isLot a i = false) : IV (n + 1) (sRed a o).2.2 := by
  cases o with
  | none => exact h.mono (by omega)
  | some i => exact IV_red h (ho i rfl).1 (ho i rfl).2
theorem paid_le {n : Nat} {a : Nat → Nat} (h : IV n a) {i y : Nat} (hi : i < 10) : paid a i y ≤ 2160 := by
  have hb := h.1.2.1 i hi
  have : ∀ b, b ≤ 5 → paidU a i y b ≤ 2160 := by
    intro b
    induction b with
    | zero => intro _; exact hb.2.2.2.1
    | succ b ih =>
      intro hb5
      have h1 := ih (by omega)
      have h2 := hb.2.2.2.2.2.2.1 b (by omega)
      unfold paidU
      split <;> omega
  exact this 5 (by omega)
theorem IV_soldK {n M : Nat} {a : Nat → Nat} (hI : ITS (a 0) (a 3) (a 4) (it a)) (hZ : Zr a) {i c : Nat} (hi : i < a 4) (hs : SC n (uN (uN a 2 (a 2 + c)) 7 (a 7 + it a i 3))) : IV n (soldA a i c) := by
  refine IV_go hI hZ hi (fun k hk => ?_) rfl rfl rfl hs
  simp only [uN]; rw [if_neg (by omega), if_neg (by omega)]
theorem IV_sSel {n : Nat} {a : Nat → Nat} (h : IV n a) {o : Option Nat} (ho : ∀ i, o = some i → i < a 4) : IV (n + 1) (sSel a o).2.2 := by
  cases o with
  | none => exact h.mono (by omega)
  | some i =>
    have hi := ho i rfl
    have h10 : i < 10 := by have := h.1.1; omega
    cases hy : buyer a i with
    | none =>
      have e : sSel a (some i) = (2, 0, a) := by simp only [sSel, hy]
      rw [e]
      exact h.mono (by omega)
    | some y =>
      have e : sSel a (some i) = (0, paid a i y, soldA a i (paid a i y)) := by simp only [sSel, hy]
      rw [e]
      have hp := paid_le h (y := y) h10
      have h3 := (h.1.2.1 i h10).2.2.1
      refine IV_soldK (M := 0) h.1 h.2.1 hi ?_
      obtain ⟨s1, s2, s3, s4, s5, s6, s7, s8, s9⟩ := h.2.2
      refine ⟨s1, (fun w hw => by simp only [uN]; rw [if_neg (by omega), if_neg (by omega)]; exact s2 w hw), ?_, ?_, ?_, ?_, ?_, ?_, ?_⟩
      · show a 0 ≤ _; omega
      · show a 2 + paid a i y ≤ _; omega
      · show a 3 ≤ _; omega
      · show a 5 ≤ _; omega
      · show a 6 ≤ _; omega
      · show a 7 + it a i 3 ≤ _; omega
      · show a 8 ≤ _; omega
theorem IV_sPri {n : Nat} {a : Nat → Nat} (h : IV n a) (p : Int32) : IV (n + 1) (sPri a p).2.2 := by
  unfold sPri
  split
  · rename_i hp
    obtain ⟨c, rfl, h1, h2⟩ := inR_N hp (by omega) (by omega)
    rw [ixL (by omega)]
    obtain ⟨hI, hZ, s1, s2, s3, s4, s5, s6, s7, s8, s9⟩ := h
    refine ⟨hI.of (fun i hi c hc => it_lo (by omega)), Zr_uN hZ (by omega), ⟨h1, h2⟩, (fun w hw => by simp only [uN]; rw [if_neg (by omega)]; exact s2 w hw), ?_, ?_, ?_, ?_, ?_, ?_, ?_⟩
    · show a 0 ≤ _; omega
    · show a 2 ≤ _; omega
    · show a 3 ≤ _; omega
    · show a 5 ≤ _; omega
    · show a 6 ≤ _; omega
    · show a 7 ≤ _; omega
    · show a 8 ≤ _; omega
  · exact h.mono (by omega)
theorem IV_sRat {n : Nat} {a : Nat → Nat} (h : IV n a) (w p : Int32) : IV (n + 1) (sRat a w p).2.2 := by
  unfold sRat
  split
  · rename_i hp
    obtain ⟨c, rfl, h1, h2⟩ := inR_N hp.2 (by omega) (by omega)
    obtain ⟨d, rfl, h3, h4⟩ := inR_N hp.1 (by omega) (by omega)
    rw [ixL (by omega), ixL (by omega)]
    obtain ⟨hI, hZ, s1, s2, s3, s4, s5, s6, s7, s8, s9⟩ := h
    have e : ∀ k, k < 9 → (uN a (9 + d) c) k = a k := fun k hk => by simp only [uN]; rw [if_neg (by omega)]
    refine ⟨?_, Zr_uN hZ (by omega), ?_, ?_, ?_, ?_, ?_, ?_, ?_, ?_, ?_⟩
    · show ITS ((uN a (9 + d) c) 0) ((uN a (9 + d) c) 3) ((uN a (9 + d) c) 4) _
      rw [e 0 (by omega), e 3 (by omega), e 4 (by omega)]
      exact hI.of (fun i hi c hc => it_lo (by omega))
    · show 1 ≤ (uN a (9 + d) c) 1 ∧ (uN a (9 + d) c) 1 ≤ 9
      rw [e 1 (by omega)]; exact s1
    · intro w hw
      show (uN a (9 + d) c) (9 + w) ≤ 9
      simp only [uN]
      split
      · omega
      · exact s2 w hw
    · show (uN a (9 + d) c) 0 ≤ _; rw [e 0 (by omega)]; omega
    · show (uN a (9 + d) c) 2 ≤ _; rw [e 2 (by omega)]; omega
    · show (uN a (9 + d) c) 3 ≤ _; rw [e 3 (by omega)]; omega
    · show (uN a (9 + d) c) 5 ≤ _; rw [e 5 (by omega)]; omega
    · show (uN a (9 + d) c) 6 ≤ _; rw [e 6 (by omega)]; omega
    · show (uN a (9 + d) c) 7 ≤ _; rw [e 7 (by omega)]; omega
    · show (uN a (9 + d) c) 8 ≤ _; rw [e 8 (by omega)]; omega
  · exact h.mono (by omega)
theorem IV_put {n : Nat} {a b : Nat → Nat} {i : Nat} (hI : ITS (a 0) (a 3) (a 4) (it a)) (hi : i < a 4) (h0 : b 0 = a 0) (h3 : b 3 = a 3) (h4 : b 4 = a 4) (e : ∀ j, j < 10 → j ≠ i → ∀ c, c < 12 → it b j c = it a j c) (hb : ItB (a 0) (it b i)) (hu : ItU (a 0) (a 3) (it b i)) (hz : it b i 0 = it a i 0) (hZ : Zr b) (hs : SC n b) : IV n b := by
  refine ⟨?_, hZ, hs⟩
  rw [h0, h3, h4]
  exact hI.put hi e hb hu hz
theorem IV_sBid {n : Nat} {a : Nat → Nat} (h : IV n a) {o : Option Nat} (y c : Int32) (ho : ∀ i, o = some i → i < a 4 ∧ isLot a i = true) : IV (n + 1) (sBid a o y c).2.2 := by
  cases o with
  | none => exact h.mono (by omega)
  | some i =>
    unfold sBid
    simp only
    split
    · rename_i hp
      obtain ⟨b, rfl, h1, h2⟩ := inR_N hp.1 (by omega) (by omega)
      obtain ⟨x, rfl, h3, h4⟩ := inR_N hp.2 (by omega) (by omega)
      rw [ixL (by omega), ixL (by omega)]
      obtain ⟨hi, hl⟩ := ho i rfl
      have h10 : i < 10 := by have := h.1.1; omega
      have hl1 : it a i 1 = 1 := by
        unfold isLot at hl
        exact beq_iff_eq.mp hl
      obtain ⟨b1, b2, b3, b4, b5, b6, b7, b8⟩ := h.1.2.1 i h10
      have hu := h.1.2.2.1 i hi
      have e : ∀ c, c < 12 → it (uN a (16 + 12 * i + (7 + b)) x) i c = if c = 7 + b then x else it a i c := fun c hc => by
        rw [it_hi (by omega) hc]
        by_cases q : c = 7 + b
        · rw [if_pos ⟨rfl, q⟩, if_pos q]
        · rw [if_neg (by omega), if_neg q]
      have f : ∀ c, c < 7 → it (uN a (16 + 12 * i + (7 + b)) x) i c = it a i c := fun c hc => by rw [e c (by omega), if_neg (by omega)]
      have lo : ∀ k, k < 16 → (uN a (16 + 12 * i + (7 + b)) x) k = a k := fun k hk => lo_hi hk
      refine IV_put h.1 hi (lo 0 (by omega)) (lo 3 (by omega)) (lo 4 (by omega)) (fun j hj hji c hc => ?_) ?_ ?_ (f 0 (by omega)) (Zr_uN h.2.1 (by omega)) ?_
      · rw [it_hi (by omega) hc, if_neg (by omega)]
      · refine ⟨?_, ?_, ?_, ?_, ?_, ?_, ?_, ?_⟩
        · rw [f 1 (by omega)]; exact b1
        · rw [f 2 (by omega)]; exact b2
        · rw [f 3 (by omega)]; exact b3
        · rw [f 4 (by omega)]; exact b4
        · rw [f 5 (by omega)]; exact b5
        · rw [f 5 (by omega), f 6 (by omega)]; exact b6
        · intro q hq
          rw [e _ (by omega)]
          split
          · omega
          · exact b7 q hq
        · intro h
          rw [f 1 (by omega)] at h
          omega
      · refine ⟨?_, ?_, ?_, ?_⟩
        · rw [f 0 (by omega)]; exact hu.1
        · rw [f 3 (by omega)]; exact hu.2.1
        · rw [f 4 (by omega)]; exact hu.2.2.1
        · rw [f 1 (by omega), f 6 (by omega)]; exact hu.2.2.2
      · exact goes_sc (h.mono (Nat.le_succ n)).2.2 h10 (fun k hk _ => lo k hk)
    · exact h.mono (by omega)
theorem IV_sExt {n : Nat} {a : Nat → Nat} (h : IV n a) {o : Option Nat} (d : Int32) (ho : ∀ i, o = some i → i < a 4 ∧ isLot a i = false) : IV (n + 1) (sExt a o d).2.2 := by
  cases o with
  | none => exact h.mono (by omega)
  | some i =>
    unfold sExt
    simp only
    split
    · rename_i hp
      obtain ⟨x, rfl, h3, h4⟩ := inR_N hp (by omega) (by omega)
      rw [ixL (by omega)]
      obtain ⟨hi, hl⟩ := ho i rfl
      have h10 : i < 10 := by have := h.1.1; omega
      obtain ⟨b1, b2, b3, b4, b5, b6, b7, b8⟩ := h.1.2.1 i h10
      have hu := h.1.2.2.1 i hi
      have hin := (intr_le h h10 (h.young hi hl)).2
      generalize hP : intr a i (a 0) = p at *
      have e : ∀ j, ∀ c, c < 12 → it (uN (uN (uN a 2 (a 2 + p)) (16 + 12 * i + 5) (a 0)) (16 + 12 * i + 6) (a 0 + x)) j c = if j = i ∧ c = 6 then a 0 + x else if j = i ∧ c = 5 then a 0 else it a j c := fun j c hc => by
        rw [it_hi (by omega) hc, it_hi (by omega) hc, it_lo (by omega)]
      have lo : ∀ k, k < 16 → (uN (uN (uN a 2 (a 2 + p)) (16 + 12 * i + 5) (a 0)) (16 + 12 * i + 6) (a 0 + x)) k = if k = 2 then a 2 + p else a k := fun k hk => by
        rw [lo_hi hk, lo_hi hk]; rfl
      have f : ∀ c, c < 12 → c ≠ 5 → c ≠ 6 → it (uN (uN (uN a 2 (a 2 + p)) (16 + 12 * i + 5) (a 0)) (16 + 12 * i + 6) (a 0 + x)) i c = it a i c := fun c hc c5 c6 => by rw [e i c hc, if_neg (by omega), if_neg (by omega)]
      have f5 : it (uN (uN (uN a 2 (a 2 + p)) (16 + 12 * i + 5) (a 0)) (16 + 12 * i + 6) (a 0 + x)) i 5 = a 0 := by rw [e i 5 (by omega), if_neg (by omega), if_pos ⟨rfl, rfl⟩]
      have f6 : it (uN (uN (uN a 2 (a 2 + p)) (16 + 12 * i + 5) (a 0)) (16 + 12 * i + 6) (a 0 + x)) i 6 = a 0 + x := by rw [e i 6 (by omega), if_pos ⟨rfl, rfl⟩]
      refine IV_put h.1 hi (lo 0 (by omega)) (lo 3 (by omega)) (lo 4 (by omega)) (fun j hj hji c hc => ?_) ?_ ?_ (f 0 (by omega) (by omega) (by omega)) (Zr_uN (Zr_uN (Zr_uN h.2.1 (by omega)) (by omega)) (by omega)) ?_
      · rw [e j c hc, if_neg (by omega), if_neg (by omega)]
      · refine ⟨?_, ?_, ?_, ?_, ?_, ?_, ?_, ?_⟩
        · rw [f 1 (by omega) (by omega) (by omega)]; exact b1
        · rw [f 2 (by omega) (by omega) (by omega)]; exact b2
        · rw [f 3 (by omega) (by omega) (by omega)]; exact b3
        · rw [f 4 (by omega) (by omega) (by omega)]; exact b4
        · rw [f5]; omega
        · rw [f5, f6]; omega
        · intro q hq; rw [f _ (by omega) (by omega) (by omega)]; exact b7 q hq
        · intro h q hq
          rw [f 1 (by omega) (by omega) (by omega)] at h
          rw [f _ (by omega) (by omega) (by omega)]
          exact b8 h q hq
      · refine ⟨?_, ?_, ?_, ?_⟩
        · rw [f 0 (by omega) (by omega) (by omega)]; exact hu.1
        · rw [f 3 (by omega) (by omega) (by omega)]; exact hu.2.1
        · rw [f 4 (by omega) (by omega) (by omega)]; exact hu.2.2.1
        · intro _; rw [f6]; omega
      · show SC (n + 1) (uN (uN (uN a 2 (a 2 + p)) (16 + 12 * i + 5) (a 0)) (16 + 12 * i + 6) (a 0 + x))
        obtain ⟨s1, s2, t3, t4, t5, t6, t7, t8, t9⟩ := h.2.2
        have g : ∀ k, k < 16 → k ≠ 2 → (uN (uN (uN a 2 (a 2 + p)) (16 + 12 * i + 5) (a 0)) (16 + 12 * i + 6) (a 0 + x)) k = a k := fun k hk k2 => by rw [lo k hk, if_neg k2]
        refine ⟨?_, ?_, ?_, ?_, ?_, ?_, ?_, ?_, ?_⟩
        · rw [g 1 (by omega) (by omega)]; exact s1
        · intro w hw; rw [g _ (by omega) (by omega)]; exact s2 w hw
        · rw [g 0 (by omega) (by omega)]; omega
        · rw [lo 2 (by omega), if_pos rfl]; omega
        · rw [g 3 (by omega) (by omega)]; omega
        · rw [g 5 (by omega) (by omega)]; omega
        · rw [g 6 (by omega) (by omega)]; omega
        · rw [g 7 (by omega) (by omega)]; omega
        · rw [g 8 (by omega) (by omega)]; omega
    · exact h.mono (by omega)
