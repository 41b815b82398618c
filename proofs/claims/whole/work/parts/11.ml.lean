/-! ===== the slip ===== -/
def bidsL (a : Nat → Nat) (i : Nat) : Nat → List Nat
  | 0 => []
  | b + 1 => bidsL a i b ++ (if it a i (7 + b) = 0 then [] else [32, 48 + b, 58] ++ dgL (it a i (7 + b)))
def slipL (a : Nat → Nat) (i : Nat) : List Nat :=
  [35] ++ dgL (it a i 0) ++ [32] ++ dgL (it a i 3) ++ [109, 105, 110] ++ [32] ++ dgL (it a i 4) ++ [99] ++ [32] ++
  (if isLot a i = true then [108, 111, 116] ++ bidsL a i 5 else [98, 121, 32] ++ dgL (it a i 6) ++ (if it a i 6 = a 0 then [63] else []))
def sSlp (σ : Sg) (t : Int32) : Nat × Nat × Sg := match find σ.1 t with
  | none => (1, 0, σ)
  | some i => (0, (slipL σ.1 i).length, (σ.1, σ.2.1, σ.2.2.1, σ.2.2.2.1, σ.2.2.2.2.1, slipL σ.1 i))
theorem fnd_t {a : Nat → Nat} {t : Int32} : ∀ {k i j : Nat}, fnd a t i k = some j → nI (it a j 0) = t
  | 0, i, j, h => by simp [fnd] at h
  | k + 1, i, j, h => by
    unfold fnd at h
    split at h
    · rename_i hq; cases h; exact hq
    · exact fnd_t h
theorem dgL_len (v : Nat) : (dgL v).length = sb_dg v := by unfold dgL; rw [List.length_map, List.length_range]
theorem bidsL_len {a : Nat → Nat} {i : Nat} (h : ∀ b, b < 5 → it a i (7 + b) ≤ 999) : ∀ b, b ≤ 5 → (bidsL a i b).length ≤ 6 * b
  | 0, _ => Nat.le_refl _
  | b + 1, hb => by
    have h1 := bidsL_len h b (by omega)
    have h2 := h b (by omega)
    unfold bidsL
    rw [List.length_append]
    split
    · simp only [List.length_nil]; omega
    · rw [List.length_append, dgL_len]
      simp only [List.length_cons, List.length_nil]
      have : sb_dg (it a i (7 + b)) ≤ 3 := by
        unfold sb_dg
        repeat' split
        all_goals omega
      omega
theorem LnS.MS {τ0 τ : Mem} {L : List Nat} {a : Nat → Nat} (h : LnS τ0 τ L) (hS : MS τ0 a) : MS τ a := by
  obtain ⟨f, rfl, -, -⟩ := h
  exact ⟨by rw [sA_ne (by decide), sA_ne (by decide)]; exact hS.1, hS.2⟩
theorem LnS.f19 {τ0 τ : Mem} {L : List Nat} (h : LnS τ0 τ L) : τ.1 (30, 0, 0) 19 = nI L.length := by
  obtain ⟨f, rfl, -, -⟩ := h
  rw [sA_ne (by decide), sA_same]
  rfl
theorem LnS.row31 {τ0 τ : Mem} {L : List Nat} (h : LnS τ0 τ L) : τ.1 (31, 0, 0) = τ0.1 (31, 0, 0) := by
  obtain ⟨f, rfl, -, -⟩ := h
  rw [sA_ne (by decide), sA_ne (by decide)]
theorem LnS.MW {τ0 τ : Mem} {L : List Nat} {c : Nat} {σ : Sg} (h : LnS τ0 τ L) (hM : MW τ0 c σ) : MW τ c (σ.1, σ.2.1, σ.2.2.1, σ.2.2.2.1, σ.2.2.2.2.1, L) := by
  obtain ⟨f, rfl, hf, hl⟩ := h
  obtain ⟨g1, g2, g3, g4, g5, g6, g7, g8, g9⟩ := hM
  refine ⟨?_, ?_, ⟨g3.1, g3.2.1, hl⟩, ?_, ?_, ?_, ?_, ?_, ?_⟩
  · simp only [sA_same, sA_ne, ne_eq, Nat.reduceEqDiff, not_false_eq_true, not_true_eq_false]; exact g1
  · simp only [sA_same, sA_ne, ne_eq, Nat.reduceEqDiff, not_false_eq_true, not_true_eq_false]; exact g2
  · simp only [sA_same, sA_ne, ne_eq, Nat.reduceEqDiff, not_false_eq_true, not_true_eq_false]; exact ⟨g4.1, g4.2.1, g4.2.2.1, g4.2.2.2.1, g4.2.2.2.2.1, rfl⟩
  · simp only [sA_same, sA_ne, ne_eq, Nat.reduceEqDiff, not_false_eq_true, not_true_eq_false]; exact g5
  · intro s hs k hk
    simp only [sA_same, sA_ne, ne_eq, Nat.reduceEqDiff, not_false_eq_true, not_true_eq_false]
    exact g6 s hs k hk
  · simp only [sA_same, sA_ne, ne_eq, Nat.reduceEqDiff, not_false_eq_true, not_true_eq_false]; exact g7
  · simp only [sA_same, sA_ne, ne_eq, Nat.reduceEqDiff, not_false_eq_true, not_true_eq_false]; exact hf
  · simp only [sA_same, sA_ne, ne_eq, Nat.reduceEqDiff, not_false_eq_true, not_true_eq_false]; exact g9
theorem LnS.Oth {τ0 τ τ1 : Mem} {L : List Nat} (h : LnS τ0 τ L) (hO : Oth τ1 τ0) : Oth τ1 τ := by
  obtain ⟨f, rfl, -, -⟩ := h
  exact (hO.sA _ (by decide) (by decide)).sA _ (by decide) (by decide)
