/-! ===== what stays true of the states ===== -/
/-- a state after at most c calls -/
def SI (c : Nat) (σ : Sg) : Prop := ∃ n, n + σ.2.2.2.2.1.length ≤ c ∧ IV n σ.1 ∧ (∀ b ∈ σ.2.1, IV n b) ∧ (∀ s, σ.2.2.1 = some s → IV n s) ∧ ((∀ p, σ.2.2.2.1.1 = some p → p ≤ 60) ∧ ∀ p, σ.2.2.2.1.2 = some p → p ≤ 60) ∧ (σ.2.2.2.2.1.length ≤ 60 ∧ ∀ c ∈ σ.2.2.2.2.1, c < 128) ∧ ∀ c ∈ σ.2.2.2.2.2, c < 128
theorem SI.mono {c c' : Nat} {σ : Sg} (h : SI c σ) (hc : c ≤ c') : SI c' σ := by
  obtain ⟨n, h1, h2⟩ := h
  exact ⟨n, by omega, h2⟩
theorem pushL_mem {b x : Nat → Nat} {ps : List (Nat → Nat)} (h : x ∈ pushL b ps) : x = b ∨ x ∈ ps := by
  rcases List.mem_cons.mp h with z | z
  · exact Or.inl z
  · exact Or.inr (List.mem_of_mem_take z)
theorem SI.op {c : Nat} {σ : Sg} {r : Nat × Nat × (Nat → Nat)} (h : SI c σ) (hr : ∀ n, n ≤ c → IV n σ.1 → IV (n + 1) r.2.2) : SI (c + 1) (opS σ r).2.2 := by
  obtain ⟨n, h1, h2, h3, h4, h5⟩ := h
  by_cases e : r.1 = 0
  · have e2 : opS σ r = (0, r.2.1, (r.2.2, pushL σ.1 σ.2.1, σ.2.2)) := if_pos e
    rw [e2]
    refine ⟨n + 1, by show n + 1 + σ.2.2.2.2.1.length ≤ c + 1; omega, hr n (by omega) h2, fun b hb => ?_, fun s hs => (h4 s hs).mono (by omega), h5⟩
    rcases pushL_mem hb with rfl | z
    · exact h2.mono (by omega)
    · exact (h3 b z).mono (by omega)
  · have e2 : opS σ r = (r.1, 0, σ) := if_neg e
    rw [e2]
    exact ⟨n, by show n + σ.2.2.2.2.1.length ≤ c + 1; omega, h2, h3, h4, h5⟩
theorem SI.und {c : Nat} {σ : Sg} (h : SI c σ) : SI (c + 1) (sUnd σ).2.2 := by
  obtain ⟨n, h1, h2, h3, h4, h5⟩ := h
  obtain ⟨a, ps, ρ⟩ := σ
  cases ps with
  | nil => exact ⟨n, Nat.le_succ_of_le h1, h2, h3, h4, h5⟩
  | cons b t => exact ⟨n, Nat.le_succ_of_le h1, h3 b List.mem_cons_self, fun x hx => h3 x (List.mem_cons_of_mem _ hx), h4, h5⟩
theorem SI.sav {c : Nat} {σ : Sg} (h : SI c σ) : SI (c + 1) (sSav σ).2.2 := by
  obtain ⟨n, h1, h2, h3, h4, h5⟩ := h
  exact ⟨n, Nat.le_succ_of_le h1, h2, h3, fun s hs => by cases hs; exact h2, h5⟩
theorem SI.res {c : Nat} {σ : Sg} (h : SI c σ) : SI (c + 1) (sRes σ).2.2 := by
  obtain ⟨n, h1, h2, h3, h4, h5⟩ := h
  obtain ⟨a, ps, o, ρ⟩ := σ
  cases o with
  | none => exact ⟨n, Nat.le_succ_of_le h1, h2, h3, h4, h5⟩
  | some s => exact ⟨n, Nat.le_succ_of_le h1, h4 s rfl, fun x hx => (nomatch hx), h4, h5⟩
theorem SI.typ {c : Nat} {σ : Sg} (h : SI c σ) (d : Nat) : SI (c + 1) (sTyp σ d).2.2 := by
  obtain ⟨n, h1, h2, h3, h4, h5, ⟨h6, h7⟩, h8⟩ := h
  unfold sTyp
  by_cases hd : 32 ≤ d ∧ d ≤ 126
  · rw [if_pos hd]
    by_cases h60 : σ.2.2.2.2.1.length = 60
    · rw [if_pos h60]
      exact ⟨n, by show n + σ.2.2.2.2.1.length ≤ c + 1; omega, h2, h3, h4, h5, ⟨h6, h7⟩, h8⟩
    · rw [if_neg h60]
      refine ⟨n, ?_, h2, h3, h4, h5, ⟨?_, fun x hx => ?_⟩, h8⟩
      · show n + (σ.2.2.2.2.1 ++ [d]).length ≤ c + 1
        rw [List.length_append]
        show n + (σ.2.2.2.2.1.length + 1) ≤ c + 1
        omega
      · show (σ.2.2.2.2.1 ++ [d]).length ≤ 60
        rw [List.length_append]
        show σ.2.2.2.2.1.length + 1 ≤ 60
        omega
      · rcases List.mem_append.mp hx with z | z
        · exact h7 x z
        · rcases List.mem_cons.mp z with rfl | z
          · omega
          · cases z
  · rw [if_neg hd]
    exact ⟨n, by show n + σ.2.2.2.2.1.length ≤ c + 1; omega, h2, h3, h4, h5, ⟨h6, h7⟩, h8⟩
theorem IV_rnL : ∀ (L : List Cmd) {n : Nat} {a : Nat → Nat}, IV n a → n + L.length ≤ 1000 → IV (n + L.length) (rn a L).2.2
  | [], n, a, h, _ => h
  | m :: L, n, a, h, hn => by
    rw [List.length_cons] at hn ⊢
    rw [rn_cons]
    have h1 := IV_doS h (by omega) m
    by_cases e : (doS a m).1 = 0
    · rw [if_pos e]
      have := IV_rnL L h1 (by omega)
      rw [show n + (L.length + 1) = n + 1 + L.length by omega]
      exact this
    · rw [if_neg e]
      exact h1.mono (by omega)
theorem SI.exe {c : Nat} {σ : Sg} (h : SI c σ) (hc : c ≤ 900) : SI (c + 1) (sExe σ).2.2 := by
  obtain ⟨n, h1, h2, h3, h4, h5, ⟨h6, h7⟩, h8⟩ := h
  obtain ⟨a, ps, sn, ⟨eA, fA⟩, T, ln⟩ := σ
  have h1 : n + T.length ≤ c := h1
  have h6 : T.length ≤ 60 := h6
  have hl := pgR_8 h6 (T.length + 1) 0 (Nat.zero_le _)
  have esx : sExe (a, ps, sn, (eA, fA), T, ln) = if (pgR T (T.length + 1) 0).1 = true then (1, 0, (a, ps, sn, (some (pgR T (T.length + 1) 0).2.2, fA), [], ln)) else if (rn a (pgR T (T.length + 1) 0).2.1).1 = 0 then (0, (rn a (pgR T (T.length + 1) 0).2.1).2.1, ((rn a (pgR T (T.length + 1) 0).2.1).2.2, pushL a ps, sn, (eA, fA), [], ln)) else (2, 0, (a, ps, sn, (eA, some ((rn a (pgR T (T.length + 1) 0).2.1).2.1 - 1)), [], ln)) := rfl
  rw [esx]
  have hT := pgR_T (T := T) (T.length + 1) 0 (Nat.zero_le _)
  by_cases e1 : (pgR T (T.length + 1) 0).1 = true
  · rw [if_pos e1]
    refine ⟨n, by show n + 0 ≤ c + 1; omega, h2, h3, h4, ⟨fun p hp => ?_, h5.2⟩, ⟨Nat.zero_le _, fun x hx => (nomatch hx)⟩, h8⟩
    cases hp
    omega
  · rw [if_neg e1]
    have hrl := rn_len (pgR T (T.length + 1) 0).2.1 a
    generalize pgR T (T.length + 1) 0 = P at *
    by_cases hz : P.2.1.length = 0
    · have hnil : P.2.1 = [] := List.length_eq_zero_iff.mp hz
      rw [hnil, if_pos (show (rn a []).1 = 0 from rfl)]
      refine ⟨n, by show n + 0 ≤ c + 1; omega, h2, fun b hb => ?_, h4, h5, ⟨Nat.zero_le _, fun x hx => (nomatch hx)⟩, h8⟩
      rcases pushL_mem hb with rfl | z
      · exact h2
      · exact h3 b z
    · by_cases e2 : (rn a P.2.1).1 = 0
      · rw [if_pos e2]
        refine ⟨n + P.2.1.length, by show n + P.2.1.length + 0 ≤ c + 1; omega, IV_rnL P.2.1 h2 (by omega), fun b hb => ?_, fun s hs => (h4 s hs).mono (by omega), h5, ⟨Nat.zero_le _, fun x hx => (nomatch hx)⟩, h8⟩
        rcases pushL_mem hb with rfl | z
        · exact h2.mono (by omega)
        · exact (h3 b z).mono (by omega)
      · rw [if_neg e2]
        refine ⟨n, by show n + 0 ≤ c + 1; omega, h2, h3, h4, ⟨h5.1, fun p hp => ?_⟩, ⟨Nat.zero_le _, fun x hx => (nomatch hx)⟩, h8⟩
        cases hp
        omega
where
  pgR_T {T : List Nat} : ∀ f h, h ≤ T.length → (pgR T f h).2.2 ≤ T.length
    | 0, h, hh => hh
    | f + 1, h, hh => by
      rw [pgR_s]
      have h5 := cmdR_T (T := T) hh
      by_cases h1 : (cmdR T h).1 = true
      · rw [if_pos h1]; exact h5
      · rw [if_neg h1]
        by_cases h2 : T.length ≤ (cmdR T h).2.2
        · rw [if_pos h2]; exact h5
        · rw [if_neg h2]
          by_cases h3 : T[(cmdR T h).2.2]? = some 59
          · rw [if_pos h3]
            exact pgR_T f ((cmdR T h).2.2 + 1) (by omega)
          · rw [if_neg h3]; exact h5
