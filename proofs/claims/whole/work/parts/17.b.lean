/-! ===== what stays true: slips ===== -/
theorem dgL_lt {v c : Nat} (h : c ∈ dgL v) : c < 128 := by
  obtain ⟨i, -, rfl⟩ := List.mem_map.mp h
  show 48 + v / 10 ^ (sb_dg v - 1 - i) % 10 < 128
  have := Nat.mod_lt (v / 10 ^ (sb_dg v - 1 - i)) (show 0 < 10 by omega)
  omega
theorem bidsL_lt (a : Nat → Nat) (i : Nat) : ∀ b, b ≤ 5 → ∀ c ∈ bidsL a i b, c < 128
  | 0, _, c, h => by cases h
  | b + 1, hb, c, h => by
    have hu : bidsL a i (b + 1) = bidsL a i b ++ (if it a i (7 + b) = 0 then [] else [32, 48 + b, 58] ++ dgL (it a i (7 + b))) := rfl
    rw [hu] at h
    rcases List.mem_append.mp h with z | z
    · exact bidsL_lt a i b (by omega) c z
    · by_cases e : it a i (7 + b) = 0
      · rw [if_pos e] at z; cases z
      · rw [if_neg e] at z
        rcases List.mem_append.mp z with y | y
        · simp only [List.mem_cons, List.not_mem_nil, or_false] at y; omega
        · exact dgL_lt y
theorem app128 {x y : List Nat} (hx : ∀ c ∈ x, c < 128) (hy : ∀ c ∈ y, c < 128) : ∀ c ∈ x ++ y, c < 128 := fun c h => (List.mem_append.mp h).elim (hx c) (hy c)
theorem slipL_lt (a : Nat → Nat) (i : Nat) : ∀ c ∈ slipL a i, c < 128 := by
  have hd : ∀ v, ∀ c ∈ dgL v, c < 128 := fun v c h => dgL_lt h
  unfold slipL
  refine app128 (app128 (app128 (app128 (app128 (app128 (app128 (app128 (app128 ?_ (hd _)) ?_) (hd _)) ?_) ?_) (hd _)) ?_) ?_) ?_
  · decide
  · decide
  · decide
  · decide
  · decide
  · decide
  · split
    · exact app128 (by decide) (bidsL_lt a i 5 (Nat.le_refl 5))
    · refine app128 (app128 (by decide) (hd _)) ?_
      split
      · decide
      · exact fun c h => (nomatch h)
theorem SI.slp {c : Nat} {σ : Sg} (h : SI c σ) (t : Int32) : SI (c + 1) (sSlp σ t).2.2 := by
  obtain ⟨n, h1, h2, h3, h4, h5, h6, h8⟩ := h
  unfold sSlp
  cases find σ.1 t with
  | none => exact ⟨n, Nat.le_succ_of_le h1, h2, h3, h4, h5, h6, h8⟩
  | some i => exact ⟨n, Nat.le_succ_of_le h1, h2, h3, h4, h5, h6, slipL_lt σ.1 i⟩
