/-! ===== the reference's methods: its whole state; the operations ===== -/
theorem Sat.mono {l : Launch} {G : GG} {y : MI} {as : List AV} {τ : Mem} {Φ Ψ : AOut → Mem → Prop} (h : Sat l G y as τ Φ) (hi : ∀ o τ', Φ o τ' → Ψ o τ') : Sat l G y as τ Ψ := by
  unfold Sat vx_Met MetFree at *
  intro p e a1 a2 a3 s m args below a4 a5 a6 a7
  obtain ⟨n, o, b1, b2, b3, b4⟩ := h p e a1 a2 a3 s m args below a4 a5 a6 a7
  refine ⟨n, o, b1, b2, b3, ?_⟩
  rcases b4 with ⟨⟨⟨v, τ1, c1, c2, c3⟩, c4⟩, c5⟩ | ⟨q, c0, E, ce, L, ⟨⟨τ1, c1, c2⟩, c3⟩, c4⟩
  · exact Or.inl ⟨⟨⟨v, τ1, c1, hi _ _ c2, c3⟩, c4⟩, c5⟩
  · exact Or.inr ⟨q, c0, E, ce, L, ⟨⟨τ1, hi _ _ c1, c2⟩, c3⟩, c4⟩
abbrev Rho := List (Nat → Nat) × Option (Nat → Nat) × (Option Nat × Option Nat) × List Nat × List Nat
abbrev Sg := (Nat → Nat) × Rho
def Oth (τ τ' : Mem) : Prop := τ'.2 = τ.2 ∧ ∀ K s j, (K < 30 ∨ 41 < K) → τ'.1 (K, s, j) = τ.1 (K, s, j)
def PR (r : Nat → Int32) (ps : List (Nat → Nat)) : Prop := ∀ j b, ps[j]? = some b → ∀ k, k < 136 → r (136 * (ps.length - 1 - j) + k) = nI (b k)
def ltr (r : Nat → Int32) (t : List Nat) : Prop := ∀ j c, t[j]? = some c → r j = nI c
def wordsL : List Nat := [112, 108, 101, 100, 103, 101, 32, 114, 101, 100, 101, 101, 109, 32, 101, 120, 116, 101, 110, 100, 32, 100, 97, 121, 115, 32, 112, 114, 105, 99, 101, 32, 114, 97, 116, 101, 32, 98, 105, 100, 32, 115, 101, 108, 108, 32, 101, 118, 101, 110, 105, 110, 103]
def wordAtL : List Nat := [0, 7, 14, 21, 26, 32, 37, 41, 46, 53]
def F30 (f : Nat → Int32) (ρ : Rho) : Prop := f 1 = nI ρ.1.length ∧ f 2 = oI ρ.2.2.1.1 ∧ f 3 = oI ρ.2.2.1.2 ∧ f 4 = nI (bN ρ.2.1.isSome) ∧ f 16 = nI ρ.2.2.2.1.length ∧ f 19 = nI ρ.2.2.2.2.length
def MR (τ : Mem) (ρ : Rho) : Prop :=
  (ρ.1.length ≤ 8 ∧ ρ.2.2.2.1.length ≤ 60 ∧ ρ.2.2.2.2.length ≤ 80) ∧ F30 (τ.1 (30, 0, 0)) ρ ∧ (PR (τ.1 (34, 0, 0)) ρ.1 ∧ (∀ s, ρ.2.1 = some s → ∀ k, k < 136 → τ.1 (33, 0, 0) k = nI (s k)) ∧
  ltr (τ.1 (37, 0, 0)) ρ.2.2.2.1 ∧ ltr (τ.1 (38, 0, 0)) ρ.2.2.2.2 ∧ ltr (τ.1 (40, 0, 0)) wordsL ∧ ltr (τ.1 (41, 0, 0)) wordAtL)
def MW (τ : Mem) (c : Nat) (σ : Sg) : Prop := τ.1 (31, 0, 0) = enc σ.1 ∧ τ.1 (30, 0, 0) 0 = nI c ∧ MR τ σ.2
/-- what an answer of the reference's says, and what it leaves -/
def Ans (τ : Mem) (r : Nat × Nat × Sg) : AOut → Mem → Prop := fun o τ' => o = .inl (some (aI (nI r.2.1))) ∧ MW τ' r.1 r.2.2 ∧ Oth τ τ'
def Zr (a : Nat → Nat) : Prop := ∀ k, 136 ≤ k → a k = 0
def pushL (b : Nat → Nat) (ps : List (Nat → Nat)) : List (Nat → Nat) := b :: ps.take 7
def opS (σ : Sg) (r : Nat × Nat × (Nat → Nat)) : Nat × Nat × Sg := if r.1 = 0 then (0, r.2.1, (r.2.2, pushL σ.1 σ.2.1, σ.2.2)) else (r.1, 0, σ)
theorem Oth.refl (τ : Mem) : Oth τ τ := ⟨rfl, fun _ _ _ _ => rfl⟩
theorem Oth.trans {τ τ1 τ2 : Mem} (h : Oth τ τ1) (g : Oth τ1 τ2) : Oth τ τ2 := ⟨g.1.trans h.1, fun K s j hk => (g.2 K s j hk).trans (h.2 K s j hk)⟩
theorem Oth.sA {τ τ1 : Mem} (h : Oth τ τ1) {K : Nat} (f : Nat → Int32) (h1 : 30 ≤ K) (h2 : K ≤ 41) : Oth τ (sA τ1 K f) := ⟨h.1, fun K' s j hk => (sA_ne (by omega) s j).trans (h.2 K' s j hk)⟩
theorem MR.of {τ τ' : Mem} {ρ : Rho} (h : MR τ ρ) (h30 : F30 (τ.1 (30, 0, 0)) ρ → F30 (τ'.1 (30, 0, 0)) ρ) (h33 : τ'.1 (33, 0, 0) = τ.1 (33, 0, 0)) (h34 : τ'.1 (34, 0, 0) = τ.1 (34, 0, 0)) (h37 : τ'.1 (37, 0, 0) = τ.1 (37, 0, 0)) (h38 : τ'.1 (38, 0, 0) = τ.1 (38, 0, 0)) (h40 : τ'.1 (40, 0, 0) = τ.1 (40, 0, 0)) (h41 : τ'.1 (41, 0, 0) = τ.1 (41, 0, 0)) : MR τ' ρ := by
  refine ⟨h.1, h30 h.2.1, ?_⟩
  rw [h33, h34, h37, h38, h40, h41]
  exact h.2.2
theorem F30.put {f : Nat → Int32} {ρ : Rho} (h : F30 f ρ) {k : Nat} (x : Int32) (hk : k = 0 ∨ k = 17 ∨ k = 18 ∨ k = 20 ∨ k = 21) : F30 (uI f k x) ρ := by
  refine ⟨?_, ?_, ?_, ?_, ?_, ?_⟩ <;> simp only [uI] <;> rw [if_neg (by omega)]
  · exact h.1
  · exact h.2.1
  · exact h.2.2.1
  · exact h.2.2.2.1
  · exact h.2.2.2.2.1
  · exact h.2.2.2.2.2
theorem MR.s30 {τ : Mem} {ρ : Rho} (h : MR τ ρ) {k : Nat} (x : Int32) (hk : k = 0 ∨ k = 17 ∨ k = 18 ∨ k = 20 ∨ k = 21) : MR (sA τ 30 (uI (τ.1 (30, 0, 0)) k x)) ρ :=
  h.of (fun g => by rw [sA_same]; exact g.put x hk) (sA_ne (by decide) _ _) (sA_ne (by decide) _ _) (sA_ne (by decide) _ _) (sA_ne (by decide) _ _) (sA_ne (by decide) _ _) (sA_ne (by decide) _ _)
theorem MR.sX {τ : Mem} {ρ : Rho} (h : MR τ ρ) {K : Nat} (f : Nat → Int32) (hk : K = 31 ∨ K = 32 ∨ K = 35 ∨ K = 36 ∨ K = 39) : MR (sA τ K f) ρ :=
  h.of (fun g => by rw [sA_ne (by omega)]; exact g) (sA_ne (by omega) _ _) (sA_ne (by omega) _ _) (sA_ne (by omega) _ _) (sA_ne (by omega) _ _) (sA_ne (by omega) _ _) (sA_ne (by omega) _ _)
section M8
variable {l : Launch} {G : GG}
/-- after `begins`: the row's copy -/
def Beg (τ : Mem) (σ : Sg) : Mem := sA (sA τ 30 (uI (τ.1 (30, 0, 0)) 0 (nI 0))) 32 (cpR τ 32 31)
theorem Beg_MW {τ : Mem} {c : Nat} {σ : Sg} (h : MW τ c σ) : MW (Beg τ σ) 0 σ := by
  refine ⟨?_, ?_, (h.2.2.s30 _ (Or.inl rfl)).sX _ (by omega)⟩
  · unfold Beg; rw [sA_ne (by decide), sA_ne (by decide)]; exact h.1
  · unfold Beg; rw [sA_ne (by decide), sA_same]; rfl
theorem Beg_32 {τ : Mem} {c : Nat} {σ : Sg} (h : MW τ c σ) : ∀ k, k < 136 → (Beg τ σ).1 (32, 0, 0) k = nI (σ.1 k) := by
  intro k hk
  unfold Beg
  rw [sA_same]
  unfold cpR
  rw [if_pos hk, h.1]
  rfl
theorem Beg_Oth (τ : Mem) (σ : Sg) : Oth τ (Beg τ σ) := ((Oth.refl τ).sA _ (by decide) (by decide)).sA _ (by decide) (by decide)
theorem q_begins2 (hc : Ctx l G) (τ : Mem) (σ : Sg) : Sat l G iX11_begins [mM] τ (retV (Beg τ σ)) := q_begins hc τ
/-- `ends` behind an inner operation that began at σ and left code c and the row a' -/
theorem PR_push {r r' : Nat → Int32} {ps : List (Nat → Nat)} {b : Nat → Nat} {f : Nat → Int32} (h : PR r ps) (h8 : ps.length ≤ 8) (hf : ∀ k, k < 136 → f k = nI (b k))
    (hr : ∀ j, j < pushN ps.length → ∀ k, k < 136 → r' (136 * j + k) = if j + 1 = pushN ps.length then f k else r (136 * (if ps.length = 8 then j + 1 else j) + k)) : PR r' (pushL b ps) := by
  have hl : (pushL b ps).length = pushN ps.length := by
    unfold pushL pushN
    rw [List.length_cons, List.length_take]
    split <;> omega
  have hp1 : 1 ≤ pushN ps.length := by unfold pushN; split <;> omega
  intro j
  cases j with
  | zero =>
    intro b' hb k hk
    have hb : b = b' := by simpa [pushL] using hb
    subst hb
    rw [hl, Nat.sub_zero, hr _ (by omega) k hk, if_pos (by omega)]
    exact hf k hk
  | succ j =>
    intro b' hb k hk
    have hb : (ps.take 7)[j]? = some b' := by simpa [pushL] using hb
    have hj : j < 7 ∧ j < ps.length := by
      have := (List.getElem?_eq_some_iff.mp hb).1
      rw [List.length_take] at this
      omega
    have hb2 : ps[j]? = some b' := by rw [List.getElem?_take] at hb; rwa [if_pos hj.1] at hb
    have h2 := h j b' hb2 k hk
    rw [hl, hr _ (by omega) k hk]
    by_cases h9 : ps.length = 8
    · rw [if_pos h9]
      have e : pushN ps.length = 8 := if_pos h9
      rw [e, if_neg (by omega), ← h2]
      congr 2
      omega
    · rw [if_neg h9]
      have e : pushN ps.length = ps.length + 1 := if_neg h9
      rw [e, if_neg (by omega), ← h2]
      congr 2
      omega
theorem pushL_le (b : Nat → Nat) (ps : List (Nat → Nat)) : (pushL b ps).length ≤ 8 := by
  unfold pushL
  rw [List.length_cons, List.length_take]
  omega
theorem pushL_len (b : Nat → Nat) {ps : List (Nat → Nat)} (h : ps.length ≤ 8) : (pushL b ps).length = pushN ps.length := by
  unfold pushL pushN
  rw [List.length_cons, List.length_take]
  split <;> omega
theorem q_ends2 (hc : Ctx l G) {τ : Mem} {σ : Sg} {c z : Nat} {a' : Nat → Nat} (h : MW τ c (a', σ.2)) (h32 : ∀ k, k < 136 → τ.1 (32, 0, 0) k = nI (σ.1 k)) (hz : Zr σ.1) (hz' : Zr a') (h0 : c < 1000) : Sat l G iX11_ends [mM, aI (nI z)] τ (Ans τ (opS σ (c, z, a'))) := by
  obtain ⟨g1, g2, g3, g4, g5, g6, g7⟩ := h
  by_cases h1 : c = 0
  · subst h1
    refine Sat.mono (q_endsO hc g2 g4.1 g3.1 (nI z)) ?_
    intro o τ' hq
    obtain ⟨rfl, r, rfl, hr⟩ := hq
    refine ⟨rfl, ⟨?_, ?_, ⟨pushL_le _ _, g3.2⟩, ?_, PR_push g5 g3.1 h32 ?_, ?_⟩, ((Oth.refl _).sA _ (by decide) (by decide)).sA _ (by decide) (by decide)⟩
    · rw [sA_ne (by decide), sA_ne (by decide)]; exact g1
    · rw [sA_ne (by decide), sA_same]; exact g2
    · rw [sA_ne (by decide), sA_same]
      refine ⟨?_, g4.2⟩
      rw [uI_at, if_pos rfl]
      exact congrArg nI (pushL_len _ g3.1).symm
    · rw [sA_same]; exact hr
    · refine ⟨?_, ?_, ?_, ?_, ?_⟩
      · rw [sA_ne (by decide), sA_ne (by decide)]; exact g6
      · rw [sA_ne (by decide), sA_ne (by decide)]; exact g7.1
      · rw [sA_ne (by decide), sA_ne (by decide)]; exact g7.2.1
      · rw [sA_ne (by decide), sA_ne (by decide)]; exact g7.2.2.1
      · rw [sA_ne (by decide), sA_ne (by decide)]; exact g7.2.2.2
  · have e : opS σ (c, z, a') = (c, 0, σ) := if_neg h1
    rw [e]
    refine Sat.mono (q_endsF hc g2 h1 h0 (nI z)) ?_
    intro o τ' hq
    obtain ⟨rfl, rfl⟩ := hq
    refine ⟨rfl, ⟨?_, ?_, ?_⟩, (Oth.refl _).sA _ (by decide) (by decide)⟩
    · rw [sA_same]
      funext k
      unfold cpR
      by_cases hk : k < 136
      · rw [if_pos hk, h32 k hk]; rfl
      · rw [if_neg hk, g1]
        show nI (a' k) = nI (σ.1 k)
        rw [hz k (by omega), hz' k (by omega)]
    · rw [sA_ne (by decide)]; exact g2
    · exact MR.sX ⟨g3, g4, g5, g6, g7⟩ _ (by omega)
end M8
