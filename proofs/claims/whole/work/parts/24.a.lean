/-! ===== the start: where the cells lie, the first memory ===== -/
def soA (z s : Nat) : Nat := if s = 0 then z + 1 else if s = 1 then z + 1 + 25 else z + 1 + 51 + 1 + 25 * (s - 2)
def adN (z : Nat) (ka : Nat → Nat → Nat) : Nm → Nat
  | (1, _, _) => z
  | (2, s, _) => soA z s
  | (3, s, _) => soA z s + 1
  | (4, s, _) => soA z s + 1 + 2
  | (5, s, j) => soA z s + 1 + 4 + 2 * j
  | (6, _, _) => z + 1 + 277
  | (7, _, _) => z + 1 + 283
  | (8, _, _) => z + 1 + 50
  | (9, _, _) => z + 1 + 320
  | (10, s, _) => soA z s + 1 + 3
  | (11, s, _) => soA z s + 1 + 1
  | (12, s, j) => soA z s + 1 + 5 + 2 * j
  | (13, _, _) => z + 1 + 278
  | (14, _, _) => z + 1 + 278 + 1
  | (15, _, _) => z + 1 + 278 + 2
  | (16, _, _) => z + 1 + 278 + 3
  | (17, _, _) => z + 1 + 278 + 4
  | (18, _, _) => z + 1 + 284
  | (19, _, j) => z + 1 + 284 + 1 + j
  | (20, _, _) => z + 1 + 284 + 11
  | (21, _, j) => z + 1 + 284 + 11 + 1 + j
  | (22, _, _) => z + 1 + 284 + 23
  | (23, _, j) => z + 1 + 284 + 23 + 1 + j
  | (24, _, _) => z + 1 + 284 + 35
  | (25, _, _) => z + 1 + 51
  | (26, _, _) => z + 1 + 321
  | (27, _, _) => z + 1 + 321 + 1
  | (28, _, _) => z + 1 + 321 + 2
  | (29, _, j) => z + 1 + 321 + 2 + 1 + j
  | (30, _, _) => z + 336
  | (31, _, _) => z + 337
  | (32, _, _) => z + 337 + 1
  | (33, _, _) => z + 337 + 2
  | (34, _, _) => z + 337 + 3
  | (35, _, _) => z + 337 + 4
  | (36, _, _) => z + 337 + 5
  | (37, _, _) => z + 337 + 6
  | (38, _, _) => z + 337 + 7
  | (39, _, _) => z + 337 + 8
  | (40, _, _) => z + 337 + 9
  | (41, _, _) => z + 337 + 10
  | (42, _, _) => z + 348
  | (43, _, _) => z + 349
  | (50, _, _) => z + 1 + 333
  | (K, s, _) => ka K s
def a0S : Nat → Nat := fun k => if k = 1 then 2 else if k = 2 then 2000 else if 9 ≤ k ∧ k < 16 then 1 else 0
def t0I : Nm → Nat → Int32
  | (1, _, _) => fun k => if k = 8 then -1 else if k = 9 then -1 else 0
  | (2, _, _) => fun k => if k = 2 then 2 else 0
  | (4, _, _) => fun k => if k = 0 then 2000 else 0
  | (10, _, _) => nI
  | (11, _, _) => fun _ => 1
  | (30, _, _) => fun k => if k = 2 then -1 else if k = 3 then -1 else 0
  | (31, _, _) => enc a0S
  | (40, _, _) => lstI wordsI
  | (41, _, _) => lstI wordAtI
  | _ => fun _ => 0
def mem0 (z : Nat) : Mem := (t0I, fun _ _ => 0, (z + 1 + 334, 16, 0, fun _ => 0))
abbrev GS (D : va_G) (z : Nat) (ka : Nat → Nat → Nat) (tt : Nat → ClassId) (X : State → Heap → Prop) : GG := (D, adN z ka, z, tt, X)
theorem dS_big {K : Nat} (h : 44 ≤ K) : dS K = 0 := by
  unfold dS
  split <;> first | rfl | omega
theorem dom_cases {K s j : Nat} (h : dom (K, s, j)) : (K = 1 ∧ s < 1 ∧ j < 1) ∨ (K = 2 ∧ s < 11 ∧ j < 1) ∨ (K = 3 ∧ s < 11 ∧ j < 1) ∨ (K = 4 ∧ s < 11 ∧ j < 1) ∨ (K = 5 ∧ s < 11 ∧ j < 10) ∨ (K = 6 ∧ s < 1 ∧ j < 1) ∨ (K = 7 ∧ s < 1 ∧ j < 1) ∨ (K = 8 ∧ s < 1 ∧ j < 1) ∨ (K = 9 ∧ s < 1 ∧ j < 1) ∨ (K = 10 ∧ s < 11 ∧ j < 1) ∨ (K = 11 ∧ s < 11 ∧ j < 1) ∨ (K = 12 ∧ s < 11 ∧ j < 10) ∨ (K = 13 ∧ s < 1 ∧ j < 1) ∨ (K = 14 ∧ s < 1 ∧ j < 1) ∨ (K = 15 ∧ s < 1 ∧ j < 1) ∨ (K = 16 ∧ s < 1 ∧ j < 1) ∨ (K = 17 ∧ s < 1 ∧ j < 1) ∨ (K = 18 ∧ s < 1 ∧ j < 1) ∨ (K = 19 ∧ s < 1 ∧ j < 10) ∨ (K = 20 ∧ s < 1 ∧ j < 1) ∨ (K = 21 ∧ s < 1 ∧ j < 11) ∨ (K = 22 ∧ s < 1 ∧ j < 1) ∨ (K = 23 ∧ s < 1 ∧ j < 11) ∨ (K = 24 ∧ s < 1 ∧ j < 1) ∨ (K = 25 ∧ s < 1 ∧ j < 1) ∨ (K = 26 ∧ s < 1 ∧ j < 1) ∨ (K = 27 ∧ s < 1 ∧ j < 1) ∨ (K = 28 ∧ s < 1 ∧ j < 1) ∨ (K = 29 ∧ s < 1 ∧ j < 9) ∨ (K = 30 ∧ s < 1 ∧ j < 1) ∨ (K = 31 ∧ s < 1 ∧ j < 1) ∨ (K = 32 ∧ s < 1 ∧ j < 1) ∨ (K = 33 ∧ s < 1 ∧ j < 1) ∨ (K = 34 ∧ s < 1 ∧ j < 1) ∨ (K = 35 ∧ s < 1 ∧ j < 1) ∨ (K = 36 ∧ s < 1 ∧ j < 1) ∨ (K = 37 ∧ s < 1 ∧ j < 1) ∨ (K = 38 ∧ s < 1 ∧ j < 1) ∨ (K = 39 ∧ s < 1 ∧ j < 1) ∨ (K = 40 ∧ s < 1 ∧ j < 1) ∨ (K = 41 ∧ s < 1 ∧ j < 1) ∨ (K = 42 ∧ s < 1 ∧ j < 1) ∨ (K = 43 ∧ s < 1 ∧ j < 1) := by
  obtain ⟨h1, h2⟩ := h
  have h1 : s < dS K := h1
  have h2 : j < dJ K := h2
  by_cases hb : 44 ≤ K
  · rw [dS_big hb] at h1; omega
  rcases (by omega : K = 0 ∨ K = 1 ∨ K = 2 ∨ K = 3 ∨ K = 4 ∨ K = 5 ∨ K = 6 ∨ K = 7 ∨ K = 8 ∨ K = 9 ∨ K = 10 ∨ K = 11 ∨ K = 12 ∨ K = 13 ∨ K = 14 ∨ K = 15 ∨ K = 16 ∨ K = 17 ∨ K = 18 ∨ K = 19 ∨ K = 20 ∨ K = 21 ∨ K = 22 ∨ K = 23 ∨ K = 24 ∨ K = 25 ∨ K = 26 ∨ K = 27 ∨ K = 28 ∨ K = 29 ∨ K = 30 ∨ K = 31 ∨ K = 32 ∨ K = 33 ∨ K = 34 ∨ K = 35 ∨ K = 36 ∨ K = 37 ∨ K = 38 ∨ K = 39 ∨ K = 40 ∨ K = 41 ∨ K = 42 ∨ K = 43) with rfl | rfl | rfl | rfl | rfl | rfl | rfl | rfl | rfl | rfl | rfl | rfl | rfl | rfl | rfl | rfl | rfl | rfl | rfl | rfl | rfl | rfl | rfl | rfl | rfl | rfl | rfl | rfl | rfl | rfl | rfl | rfl | rfl | rfl | rfl | rfl | rfl | rfl | rfl | rfl | rfl | rfl | rfl | rfl
  · exact absurd h1 (Nat.not_lt_zero _)
  · exact Or.inl ⟨rfl, h1, h2⟩
  · exact Or.inr (Or.inl ⟨rfl, h1, h2⟩)
  · exact Or.inr (Or.inr (Or.inl ⟨rfl, h1, h2⟩))
  · exact Or.inr (Or.inr (Or.inr (Or.inl ⟨rfl, h1, h2⟩)))
  · exact Or.inr (Or.inr (Or.inr (Or.inr (Or.inl ⟨rfl, h1, h2⟩))))
  · exact Or.inr (Or.inr (Or.inr (Or.inr (Or.inr (Or.inl ⟨rfl, h1, h2⟩)))))
  · exact Or.inr (Or.inr (Or.inr (Or.inr (Or.inr (Or.inr (Or.inl ⟨rfl, h1, h2⟩))))))
  · exact Or.inr (Or.inr (Or.inr (Or.inr (Or.inr (Or.inr (Or.inr (Or.inl ⟨rfl, h1, h2⟩)))))))
  · exact Or.inr (Or.inr (Or.inr (Or.inr (Or.inr (Or.inr (Or.inr (Or.inr (Or.inl ⟨rfl, h1, h2⟩))))))))
  · exact Or.inr (Or.inr (Or.inr (Or.inr (Or.inr (Or.inr (Or.inr (Or.inr (Or.inr (Or.inl ⟨rfl, h1, h2⟩)))))))))
  · exact Or.inr (Or.inr (Or.inr (Or.inr (Or.inr (Or.inr (Or.inr (Or.inr (Or.inr (Or.inr (Or.inl ⟨rfl, h1, h2⟩))))))))))
  · exact Or.inr (Or.inr (Or.inr (Or.inr (Or.inr (Or.inr (Or.inr (Or.inr (Or.inr (Or.inr (Or.inr (Or.inl ⟨rfl, h1, h2⟩)))))))))))
  · exact Or.inr (Or.inr (Or.inr (Or.inr (Or.inr (Or.inr (Or.inr (Or.inr (Or.inr (Or.inr (Or.inr (Or.inr (Or.inl ⟨rfl, h1, h2⟩))))))))))))
  · exact Or.inr (Or.inr (Or.inr (Or.inr (Or.inr (Or.inr (Or.inr (Or.inr (Or.inr (Or.inr (Or.inr (Or.inr (Or.inr (Or.inl ⟨rfl, h1, h2⟩)))))))))))))
  · exact Or.inr (Or.inr (Or.inr (Or.inr (Or.inr (Or.inr (Or.inr (Or.inr (Or.inr (Or.inr (Or.inr (Or.inr (Or.inr (Or.inr (Or.inl ⟨rfl, h1, h2⟩))))))))))))))
  · exact Or.inr (Or.inr (Or.inr (Or.inr (Or.inr (Or.inr (Or.inr (Or.inr (Or.inr (Or.inr (Or.inr (Or.inr (Or.inr (Or.inr (Or.inr (Or.inl ⟨rfl, h1, h2⟩)))))))))))))))
  · exact Or.inr (Or.inr (Or.inr (Or.inr (Or.inr (Or.inr (Or.inr (Or.inr (Or.inr (Or.inr (Or.inr (Or.inr (Or.inr (Or.inr (Or.inr (Or.inr (Or.inl ⟨rfl, h1, h2⟩))))))))))))))))
  · exact Or.inr (Or.inr (Or.inr (Or.inr (Or.inr (Or.inr (Or.inr (Or.inr (Or.inr (Or.inr (Or.inr (Or.inr (Or.inr (Or.inr (Or.inr (Or.inr (Or.inr (Or.inl ⟨rfl, h1, h2⟩)))))))))))))))))
  · exact Or.inr (Or.inr (Or.inr (Or.inr (Or.inr (Or.inr (Or.inr (Or.inr (Or.inr (Or.inr (Or.inr (Or.inr (Or.inr (Or.inr (Or.inr (Or.inr (Or.inr (Or.inr (Or.inl ⟨rfl, h1, h2⟩))))))))))))))))))
  · exact Or.inr (Or.inr (Or.inr (Or.inr (Or.inr (Or.inr (Or.inr (Or.inr (Or.inr (Or.inr (Or.inr (Or.inr (Or.inr (Or.inr (Or.inr (Or.inr (Or.inr (Or.inr (Or.inr (Or.inl ⟨rfl, h1, h2⟩)))))))))))))))))))
  · exact Or.inr (Or.inr (Or.inr (Or.inr (Or.inr (Or.inr (Or.inr (Or.inr (Or.inr (Or.inr (Or.inr (Or.inr (Or.inr (Or.inr (Or.inr (Or.inr (Or.inr (Or.inr (Or.inr (Or.inr (Or.inl ⟨rfl, h1, h2⟩))))))))))))))))))))
  · exact Or.inr (Or.inr (Or.inr (Or.inr (Or.inr (Or.inr (Or.inr (Or.inr (Or.inr (Or.inr (Or.inr (Or.inr (Or.inr (Or.inr (Or.inr (Or.inr (Or.inr (Or.inr (Or.inr (Or.inr (Or.inr (Or.inl ⟨rfl, h1, h2⟩)))))))))))))))))))))
  · exact Or.inr (Or.inr (Or.inr (Or.inr (Or.inr (Or.inr (Or.inr (Or.inr (Or.inr (Or.inr (Or.inr (Or.inr (Or.inr (Or.inr (Or.inr (Or.inr (Or.inr (Or.inr (Or.inr (Or.inr (Or.inr (Or.inr (Or.inl ⟨rfl, h1, h2⟩))))))))))))))))))))))
  · exact Or.inr (Or.inr (Or.inr (Or.inr (Or.inr (Or.inr (Or.inr (Or.inr (Or.inr (Or.inr (Or.inr (Or.inr (Or.inr (Or.inr (Or.inr (Or.inr (Or.inr (Or.inr (Or.inr (Or.inr (Or.inr (Or.inr (Or.inr (Or.inl ⟨rfl, h1, h2⟩)))))))))))))))))))))))
  · exact Or.inr (Or.inr (Or.inr (Or.inr (Or.inr (Or.inr (Or.inr (Or.inr (Or.inr (Or.inr (Or.inr (Or.inr (Or.inr (Or.inr (Or.inr (Or.inr (Or.inr (Or.inr (Or.inr (Or.inr (Or.inr (Or.inr (Or.inr (Or.inr (Or.inl ⟨rfl, h1, h2⟩))))))))))))))))))))))))
  · exact Or.inr (Or.inr (Or.inr (Or.inr (Or.inr (Or.inr (Or.inr (Or.inr (Or.inr (Or.inr (Or.inr (Or.inr (Or.inr (Or.inr (Or.inr (Or.inr (Or.inr (Or.inr (Or.inr (Or.inr (Or.inr (Or.inr (Or.inr (Or.inr (Or.inr (Or.inl ⟨rfl, h1, h2⟩)))))))))))))))))))))))))
  · exact Or.inr (Or.inr (Or.inr (Or.inr (Or.inr (Or.inr (Or.inr (Or.inr (Or.inr (Or.inr (Or.inr (Or.inr (Or.inr (Or.inr (Or.inr (Or.inr (Or.inr (Or.inr (Or.inr (Or.inr (Or.inr (Or.inr (Or.inr (Or.inr (Or.inr (Or.inr (Or.inl ⟨rfl, h1, h2⟩))))))))))))))))))))))))))
  · exact Or.inr (Or.inr (Or.inr (Or.inr (Or.inr (Or.inr (Or.inr (Or.inr (Or.inr (Or.inr (Or.inr (Or.inr (Or.inr (Or.inr (Or.inr (Or.inr (Or.inr (Or.inr (Or.inr (Or.inr (Or.inr (Or.inr (Or.inr (Or.inr (Or.inr (Or.inr (Or.inr (Or.inl ⟨rfl, h1, h2⟩)))))))))))))))))))))))))))
  · exact Or.inr (Or.inr (Or.inr (Or.inr (Or.inr (Or.inr (Or.inr (Or.inr (Or.inr (Or.inr (Or.inr (Or.inr (Or.inr (Or.inr (Or.inr (Or.inr (Or.inr (Or.inr (Or.inr (Or.inr (Or.inr (Or.inr (Or.inr (Or.inr (Or.inr (Or.inr (Or.inr (Or.inr (Or.inl ⟨rfl, h1, h2⟩))))))))))))))))))))))))))))
  · exact Or.inr (Or.inr (Or.inr (Or.inr (Or.inr (Or.inr (Or.inr (Or.inr (Or.inr (Or.inr (Or.inr (Or.inr (Or.inr (Or.inr (Or.inr (Or.inr (Or.inr (Or.inr (Or.inr (Or.inr (Or.inr (Or.inr (Or.inr (Or.inr (Or.inr (Or.inr (Or.inr (Or.inr (Or.inr (Or.inl ⟨rfl, h1, h2⟩)))))))))))))))))))))))))))))
  · exact Or.inr (Or.inr (Or.inr (Or.inr (Or.inr (Or.inr (Or.inr (Or.inr (Or.inr (Or.inr (Or.inr (Or.inr (Or.inr (Or.inr (Or.inr (Or.inr (Or.inr (Or.inr (Or.inr (Or.inr (Or.inr (Or.inr (Or.inr (Or.inr (Or.inr (Or.inr (Or.inr (Or.inr (Or.inr (Or.inr (Or.inl ⟨rfl, h1, h2⟩))))))))))))))))))))))))))))))
  · exact Or.inr (Or.inr (Or.inr (Or.inr (Or.inr (Or.inr (Or.inr (Or.inr (Or.inr (Or.inr (Or.inr (Or.inr (Or.inr (Or.inr (Or.inr (Or.inr (Or.inr (Or.inr (Or.inr (Or.inr (Or.inr (Or.inr (Or.inr (Or.inr (Or.inr (Or.inr (Or.inr (Or.inr (Or.inr (Or.inr (Or.inr (Or.inl ⟨rfl, h1, h2⟩)))))))))))))))))))))))))))))))
  · exact Or.inr (Or.inr (Or.inr (Or.inr (Or.inr (Or.inr (Or.inr (Or.inr (Or.inr (Or.inr (Or.inr (Or.inr (Or.inr (Or.inr (Or.inr (Or.inr (Or.inr (Or.inr (Or.inr (Or.inr (Or.inr (Or.inr (Or.inr (Or.inr (Or.inr (Or.inr (Or.inr (Or.inr (Or.inr (Or.inr (Or.inr (Or.inr (Or.inl ⟨rfl, h1, h2⟩))))))))))))))))))))))))))))))))
  · exact Or.inr (Or.inr (Or.inr (Or.inr (Or.inr (Or.inr (Or.inr (Or.inr (Or.inr (Or.inr (Or.inr (Or.inr (Or.inr (Or.inr (Or.inr (Or.inr (Or.inr (Or.inr (Or.inr (Or.inr (Or.inr (Or.inr (Or.inr (Or.inr (Or.inr (Or.inr (Or.inr (Or.inr (Or.inr (Or.inr (Or.inr (Or.inr (Or.inr (Or.inl ⟨rfl, h1, h2⟩)))))))))))))))))))))))))))))))))
  · exact Or.inr (Or.inr (Or.inr (Or.inr (Or.inr (Or.inr (Or.inr (Or.inr (Or.inr (Or.inr (Or.inr (Or.inr (Or.inr (Or.inr (Or.inr (Or.inr (Or.inr (Or.inr (Or.inr (Or.inr (Or.inr (Or.inr (Or.inr (Or.inr (Or.inr (Or.inr (Or.inr (Or.inr (Or.inr (Or.inr (Or.inr (Or.inr (Or.inr (Or.inr (Or.inl ⟨rfl, h1, h2⟩))))))))))))))))))))))))))))))))))
  · exact Or.inr (Or.inr (Or.inr (Or.inr (Or.inr (Or.inr (Or.inr (Or.inr (Or.inr (Or.inr (Or.inr (Or.inr (Or.inr (Or.inr (Or.inr (Or.inr (Or.inr (Or.inr (Or.inr (Or.inr (Or.inr (Or.inr (Or.inr (Or.inr (Or.inr (Or.inr (Or.inr (Or.inr (Or.inr (Or.inr (Or.inr (Or.inr (Or.inr (Or.inr (Or.inr (Or.inl ⟨rfl, h1, h2⟩)))))))))))))))))))))))))))))))))))
  · exact Or.inr (Or.inr (Or.inr (Or.inr (Or.inr (Or.inr (Or.inr (Or.inr (Or.inr (Or.inr (Or.inr (Or.inr (Or.inr (Or.inr (Or.inr (Or.inr (Or.inr (Or.inr (Or.inr (Or.inr (Or.inr (Or.inr (Or.inr (Or.inr (Or.inr (Or.inr (Or.inr (Or.inr (Or.inr (Or.inr (Or.inr (Or.inr (Or.inr (Or.inr (Or.inr (Or.inr (Or.inl ⟨rfl, h1, h2⟩))))))))))))))))))))))))))))))))))))
  · exact Or.inr (Or.inr (Or.inr (Or.inr (Or.inr (Or.inr (Or.inr (Or.inr (Or.inr (Or.inr (Or.inr (Or.inr (Or.inr (Or.inr (Or.inr (Or.inr (Or.inr (Or.inr (Or.inr (Or.inr (Or.inr (Or.inr (Or.inr (Or.inr (Or.inr (Or.inr (Or.inr (Or.inr (Or.inr (Or.inr (Or.inr (Or.inr (Or.inr (Or.inr (Or.inr (Or.inr (Or.inr (Or.inl ⟨rfl, h1, h2⟩)))))))))))))))))))))))))))))))))))))
  · exact Or.inr (Or.inr (Or.inr (Or.inr (Or.inr (Or.inr (Or.inr (Or.inr (Or.inr (Or.inr (Or.inr (Or.inr (Or.inr (Or.inr (Or.inr (Or.inr (Or.inr (Or.inr (Or.inr (Or.inr (Or.inr (Or.inr (Or.inr (Or.inr (Or.inr (Or.inr (Or.inr (Or.inr (Or.inr (Or.inr (Or.inr (Or.inr (Or.inr (Or.inr (Or.inr (Or.inr (Or.inr (Or.inr (Or.inl ⟨rfl, h1, h2⟩))))))))))))))))))))))))))))))))))))))
  · exact Or.inr (Or.inr (Or.inr (Or.inr (Or.inr (Or.inr (Or.inr (Or.inr (Or.inr (Or.inr (Or.inr (Or.inr (Or.inr (Or.inr (Or.inr (Or.inr (Or.inr (Or.inr (Or.inr (Or.inr (Or.inr (Or.inr (Or.inr (Or.inr (Or.inr (Or.inr (Or.inr (Or.inr (Or.inr (Or.inr (Or.inr (Or.inr (Or.inr (Or.inr (Or.inr (Or.inr (Or.inr (Or.inr (Or.inr (Or.inl ⟨rfl, h1, h2⟩)))))))))))))))))))))))))))))))))))))))
  · exact Or.inr (Or.inr (Or.inr (Or.inr (Or.inr (Or.inr (Or.inr (Or.inr (Or.inr (Or.inr (Or.inr (Or.inr (Or.inr (Or.inr (Or.inr (Or.inr (Or.inr (Or.inr (Or.inr (Or.inr (Or.inr (Or.inr (Or.inr (Or.inr (Or.inr (Or.inr (Or.inr (Or.inr (Or.inr (Or.inr (Or.inr (Or.inr (Or.inr (Or.inr (Or.inr (Or.inr (Or.inr (Or.inr (Or.inr (Or.inr (Or.inl ⟨rfl, h1, h2⟩))))))))))))))))))))))))))))))))))))))))
  · exact Or.inr (Or.inr (Or.inr (Or.inr (Or.inr (Or.inr (Or.inr (Or.inr (Or.inr (Or.inr (Or.inr (Or.inr (Or.inr (Or.inr (Or.inr (Or.inr (Or.inr (Or.inr (Or.inr (Or.inr (Or.inr (Or.inr (Or.inr (Or.inr (Or.inr (Or.inr (Or.inr (Or.inr (Or.inr (Or.inr (Or.inr (Or.inr (Or.inr (Or.inr (Or.inr (Or.inr (Or.inr (Or.inr (Or.inr (Or.inr (Or.inr (Or.inl ⟨rfl, h1, h2⟩)))))))))))))))))))))))))))))))))))))))))
  · exact Or.inr (Or.inr (Or.inr (Or.inr (Or.inr (Or.inr (Or.inr (Or.inr (Or.inr (Or.inr (Or.inr (Or.inr (Or.inr (Or.inr (Or.inr (Or.inr (Or.inr (Or.inr (Or.inr (Or.inr (Or.inr (Or.inr (Or.inr (Or.inr (Or.inr (Or.inr (Or.inr (Or.inr (Or.inr (Or.inr (Or.inr (Or.inr (Or.inr (Or.inr (Or.inr (Or.inr (Or.inr (Or.inr (Or.inr (Or.inr (Or.inr (Or.inr (⟨rfl, h1, h2⟩))))))))))))))))))))))))))))))))))))))))))
def nmL : List Nm := (List.range 44).flatMap (fun K => (List.range (dS K)).flatMap (fun s => (List.range (dJ K)).map (fun j => (K, s, j))))
theorem nmL_mem {K s j : Nat} (h : dom (K, s, j)) : (K, s, j) ∈ nmL := by
  have hK : K < 44 := by
    by_cases hb : 44 ≤ K
    · have h1 : s < dS K := h.1
      rw [dS_big hb] at h1
      omega
    · omega
  exact List.mem_flatMap.mpr ⟨K, List.mem_range.mpr hK, List.mem_flatMap.mpr ⟨s, List.mem_range.mpr h.1, List.mem_map.mpr ⟨j, List.mem_range.mpr h.2, rfl⟩⟩⟩
def ad0 : Nm → Nat := adN 0 (fun _ _ => 0)
theorem ad0_inv : nmL.all (fun nm => (nmL.find? (fun q => ad0 q == ad0 nm)) == some nm) = true := by decide +kernel
theorem ad0_lt : nmL.all (fun nm => decide (ad0 nm < 350) && decide (ad0 nm ≠ 334) && decide (ad0 nm ≠ 335)) = true := by decide +kernel
theorem ad0_inj {nm nm' : Nm} (h : nm ∈ nmL) (h' : nm' ∈ nmL) (e : ad0 nm = ad0 nm') : nm = nm' := by
  have h1 := eq_of_beq (List.all_eq_true.mp ad0_inv nm h)
  have h2 := eq_of_beq (List.all_eq_true.mp ad0_inv nm' h')
  rw [e] at h1
  exact Option.some.inj (h1.symm.trans h2)
theorem soA_0 (z s : Nat) : soA z s = z + soA 0 s := by
  unfold soA
  split
  · omega
  · split <;> omega
theorem adN_0 {z : Nat} {ka : Nat → Nat → Nat} {K s j : Nat} (h : dom (K, s, j)) : adN z ka (K, s, j) = z + ad0 (K, s, j) := by
  have e := soA_0 z s
  rcases dom_cases h with ⟨rfl, -, -⟩ | ⟨rfl, -, -⟩ | ⟨rfl, -, -⟩ | ⟨rfl, -, -⟩ | ⟨rfl, -, -⟩ | ⟨rfl, -, -⟩ | ⟨rfl, -, -⟩ | ⟨rfl, -, -⟩ | ⟨rfl, -, -⟩ | ⟨rfl, -, -⟩ | ⟨rfl, -, -⟩ | ⟨rfl, -, -⟩ | ⟨rfl, -, -⟩ | ⟨rfl, -, -⟩ | ⟨rfl, -, -⟩ | ⟨rfl, -, -⟩ | ⟨rfl, -, -⟩ | ⟨rfl, -, -⟩ | ⟨rfl, -, -⟩ | ⟨rfl, -, -⟩ | ⟨rfl, -, -⟩ | ⟨rfl, -, -⟩ | ⟨rfl, -, -⟩ | ⟨rfl, -, -⟩ | ⟨rfl, -, -⟩ | ⟨rfl, -, -⟩ | ⟨rfl, -, -⟩ | ⟨rfl, -, -⟩ | ⟨rfl, -, -⟩ | ⟨rfl, -, -⟩ | ⟨rfl, -, -⟩ | ⟨rfl, -, -⟩ | ⟨rfl, -, -⟩ | ⟨rfl, -, -⟩ | ⟨rfl, -, -⟩ | ⟨rfl, -, -⟩ | ⟨rfl, -, -⟩ | ⟨rfl, -, -⟩ | ⟨rfl, -, -⟩ | ⟨rfl, -, -⟩ | ⟨rfl, -, -⟩ | ⟨rfl, -, -⟩ | ⟨rfl, -, -⟩
  · show z = z + (0); omega
  · show soA z s = z + (soA 0 s); omega
  · show soA z s + 1 = z + (soA 0 s + 1); omega
  · show soA z s + 1 + 2 = z + (soA 0 s + 1 + 2); omega
  · show soA z s + 1 + 4 + 2 * j = z + (soA 0 s + 1 + 4 + 2 * j); omega
  · show z + 1 + 277 = z + (0 + 1 + 277); omega
  · show z + 1 + 283 = z + (0 + 1 + 283); omega
  · show z + 1 + 50 = z + (0 + 1 + 50); omega
  · show z + 1 + 320 = z + (0 + 1 + 320); omega
  · show soA z s + 1 + 3 = z + (soA 0 s + 1 + 3); omega
  · show soA z s + 1 + 1 = z + (soA 0 s + 1 + 1); omega
  · show soA z s + 1 + 5 + 2 * j = z + (soA 0 s + 1 + 5 + 2 * j); omega
  · show z + 1 + 278 = z + (0 + 1 + 278); omega
  · show z + 1 + 278 + 1 = z + (0 + 1 + 278 + 1); omega
  · show z + 1 + 278 + 2 = z + (0 + 1 + 278 + 2); omega
  · show z + 1 + 278 + 3 = z + (0 + 1 + 278 + 3); omega
  · show z + 1 + 278 + 4 = z + (0 + 1 + 278 + 4); omega
  · show z + 1 + 284 = z + (0 + 1 + 284); omega
  · show z + 1 + 284 + 1 + j = z + (0 + 1 + 284 + 1 + j); omega
  · show z + 1 + 284 + 11 = z + (0 + 1 + 284 + 11); omega
  · show z + 1 + 284 + 11 + 1 + j = z + (0 + 1 + 284 + 11 + 1 + j); omega
  · show z + 1 + 284 + 23 = z + (0 + 1 + 284 + 23); omega
  · show z + 1 + 284 + 23 + 1 + j = z + (0 + 1 + 284 + 23 + 1 + j); omega
  · show z + 1 + 284 + 35 = z + (0 + 1 + 284 + 35); omega
  · show z + 1 + 51 = z + (0 + 1 + 51); omega
  · show z + 1 + 321 = z + (0 + 1 + 321); omega
  · show z + 1 + 321 + 1 = z + (0 + 1 + 321 + 1); omega
  · show z + 1 + 321 + 2 = z + (0 + 1 + 321 + 2); omega
  · show z + 1 + 321 + 2 + 1 + j = z + (0 + 1 + 321 + 2 + 1 + j); omega
  · show z + 336 = z + (0 + 336); omega
  · show z + 337 = z + (0 + 337); omega
  · show z + 337 + 1 = z + (0 + 337 + 1); omega
  · show z + 337 + 2 = z + (0 + 337 + 2); omega
  · show z + 337 + 3 = z + (0 + 337 + 3); omega
  · show z + 337 + 4 = z + (0 + 337 + 4); omega
  · show z + 337 + 5 = z + (0 + 337 + 5); omega
  · show z + 337 + 6 = z + (0 + 337 + 6); omega
  · show z + 337 + 7 = z + (0 + 337 + 7); omega
  · show z + 337 + 8 = z + (0 + 337 + 8); omega
  · show z + 337 + 9 = z + (0 + 337 + 9); omega
  · show z + 337 + 10 = z + (0 + 337 + 10); omega
  · show z + 348 = z + (0 + 348); omega
  · show z + 349 = z + (0 + 349); omega
theorem adN_50 {z : Nat} {ka : Nat → Nat → Nat} : adN z ka (50, 0, 0) = z + 334 := rfl
theorem adN_inj {z : Nat} {ka : Nat → Nat → Nat} {nm nm' : Nm} (h : dom nm) (h' : dom nm') (e : adN z ka nm = adN z ka nm') : nm = nm' := by
  obtain ⟨K, s, j⟩ := nm
  obtain ⟨K', s', j'⟩ := nm'
  rw [adN_0 h, adN_0 h'] at e
  exact ad0_inj (nmL_mem h) (nmL_mem h') (by omega)
theorem adN_lt {z : Nat} {ka : Nat → Nat → Nat} {nm : Nm} (h : dom nm) : z ≤ adN z ka nm ∧ adN z ka nm < z + 350 ∧ adN z ka nm ≠ z + 334 ∧ adN z ka nm ≠ z + 335 := by
  obtain ⟨K, s, j⟩ := nm
  have h1 := List.all_eq_true.mp ad0_lt _ (nmL_mem h)
  simp only [Bool.and_eq_true, decide_eq_true_eq] at h1
  rw [adN_0 h]
  omega
