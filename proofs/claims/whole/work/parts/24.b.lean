/-! ===== the start: the first world ===== -/
section W0
variable {D : va_G} {z : Nat} {ka : Nat → Nat → Nat} {tt : Nat → ClassId} {X : State → Heap → Prop} {H : Heap}
theorem ShC.eq {G : GG} {a b a' b' : Nat} (h : ShC G a b H) (ha : a = a') (hb : b = b') : ShC G a' b' H := by subst ha hb; exact h
theorem a0S_nI : ∀ j, j < 136 → vI0 7 j = enc a0S j := by decide +kernel
theorem sh_at (hM : MoC (GS D z ka tt X) z (z + 1) H) {s : Nat} (hs : s < 11) : ShC (GS D z ka tt X) (soA z s) (soA z s + 1) H := by
  obtain ⟨-, m0, m1, mH, -⟩ := hM
  by_cases h0 : s = 0
  · subst h0; exact m0
  by_cases h1 : s = 1
  · subst h1; exact m1
  have e : soA z s = z + 1 + 51 + 1 + 25 * (s - 2) := by unfold soA; rw [if_neg h0, if_neg h1]
  exact (mH.2.2 (s - 2) (by omega)).eq e.symm (by omega)
theorem world0 (hM : MoC (GS D z ka tt X) z (z + 1) H) (hR : MdC (GS D z ka tt X) (z + 336) (z + 337) H) (hO : va_at D vwCl (z + 348, .inl (tt 2, 1, .inr (.inl (fun _ => 0)))) H) (hO2 : va_at D vwCl (z + 349, .inl (tt 3, 1, .inr (.inr (.inr (.inl (fun _ => 0)))))) H) : ∀ nm, dom nm → va_at D vwCl (adN z ka nm, cel (GS D z ka tt X) (mem0 z) nm) H := by
  rintro ⟨K, s, j⟩ hd
  have hs := fun (h : s < 11) => sh_at hM h
  obtain ⟨m1, -, -, ⟨h8, h25, -⟩, ⟨r6, r13, r14, r15, r16, r17⟩, ⟨e7, ⟨e18, e19⟩, ⟨e20, e21⟩, ⟨e22, e23⟩, e24⟩, ⟨p9, p26, p27, p28, p29⟩, -⟩ := hM
  obtain ⟨d30, d31, d32, d33, d34, d35, d36, d37, d38, d39, d40, d41⟩ := hR
  rcases dom_cases hd with ⟨rfl, h1, h2⟩ | ⟨rfl, h1, h2⟩ | ⟨rfl, h1, h2⟩ | ⟨rfl, h1, h2⟩ | ⟨rfl, h1, h2⟩ | ⟨rfl, h1, h2⟩ | ⟨rfl, h1, h2⟩ | ⟨rfl, h1, h2⟩ | ⟨rfl, h1, h2⟩ | ⟨rfl, h1, h2⟩ | ⟨rfl, h1, h2⟩ | ⟨rfl, h1, h2⟩ | ⟨rfl, h1, h2⟩ | ⟨rfl, h1, h2⟩ | ⟨rfl, h1, h2⟩ | ⟨rfl, h1, h2⟩ | ⟨rfl, h1, h2⟩ | ⟨rfl, h1, h2⟩ | ⟨rfl, h1, h2⟩ | ⟨rfl, h1, h2⟩ | ⟨rfl, h1, h2⟩ | ⟨rfl, h1, h2⟩ | ⟨rfl, h1, h2⟩ | ⟨rfl, h1, h2⟩ | ⟨rfl, h1, h2⟩ | ⟨rfl, h1, h2⟩ | ⟨rfl, h1, h2⟩ | ⟨rfl, h1, h2⟩ | ⟨rfl, h1, h2⟩ | ⟨rfl, h1, h2⟩ | ⟨rfl, h1, h2⟩ | ⟨rfl, h1, h2⟩ | ⟨rfl, h1, h2⟩ | ⟨rfl, h1, h2⟩ | ⟨rfl, h1, h2⟩ | ⟨rfl, h1, h2⟩ | ⟨rfl, h1, h2⟩ | ⟨rfl, h1, h2⟩ | ⟨rfl, h1, h2⟩ | ⟨rfl, h1, h2⟩ | ⟨rfl, h1, h2⟩ | ⟨rfl, h1, h2⟩ | ⟨rfl, h1, h2⟩
  · obtain rfl : s = 0 := by omega
    obtain rfl : j = 0 := by omega
    exact m1
  · obtain rfl : j = 0 := by omega
    exact (hs h1).1
  · obtain rfl : j = 0 := by omega
    exact (hs h1).2.1.1
  · obtain rfl : j = 0 := by omega
    exact (hs h1).2.2.1
  · exact ((hs h1).2.2.2.2 j h2).1
  · obtain rfl : s = 0 := by omega
    obtain rfl : j = 0 := by omega
    exact r6
  · obtain rfl : s = 0 := by omega
    obtain rfl : j = 0 := by omega
    exact e7
  · obtain rfl : s = 0 := by omega
    obtain rfl : j = 0 := by omega
    exact h8
  · obtain rfl : s = 0 := by omega
    obtain rfl : j = 0 := by omega
    exact p9
  · obtain rfl : j = 0 := by omega
    have hq := fun i (hi : i < 10) => (show (Option.map (adN z ka) (some ((5 : Nat), s, (nI i).toNatClampNeg))) = some (soA z s + 1 + 4 + 2 * i) by rw [nI_clamp (by omega)]; rfl)
    exact cQ.congr (hs h1).2.2.2.1 (fun i hi => (hq i hi).symm)
  · obtain rfl : j = 0 := by omega
    exact (hs h1).2.1.2
  · exact ((hs h1).2.2.2.2 j h2).2
  · obtain rfl : s = 0 := by omega
    obtain rfl : j = 0 := by omega
    exact r13
  · obtain rfl : s = 0 := by omega
    obtain rfl : j = 0 := by omega
    exact r14
  · obtain rfl : s = 0 := by omega
    obtain rfl : j = 0 := by omega
    exact r15
  · obtain rfl : s = 0 := by omega
    obtain rfl : j = 0 := by omega
    exact r16
  · obtain rfl : s = 0 := by omega
    obtain rfl : j = 0 := by omega
    exact r17
  · obtain rfl : s = 0 := by omega
    obtain rfl : j = 0 := by omega
    exact e18
  · obtain rfl : s = 0 := by omega
    exact e19 j h2
  · obtain rfl : s = 0 := by omega
    obtain rfl : j = 0 := by omega
    exact e20
  · obtain rfl : s = 0 := by omega
    exact e21 j h2
  · obtain rfl : s = 0 := by omega
    obtain rfl : j = 0 := by omega
    exact e22
  · obtain rfl : s = 0 := by omega
    exact e23 j h2
  · obtain rfl : s = 0 := by omega
    obtain rfl : j = 0 := by omega
    exact e24
  · obtain rfl : s = 0 := by omega
    obtain rfl : j = 0 := by omega
    refine cQ.congr h25 (fun i hi => ?_)
    show some (z + 1 + 51 + 1 + 25 * i) = some (soA z (i + 2))
    unfold soA
    rw [if_neg (by omega), if_neg (by omega)]
    rfl
  · obtain rfl : s = 0 := by omega
    obtain rfl : j = 0 := by omega
    exact p26
  · obtain rfl : s = 0 := by omega
    obtain rfl : j = 0 := by omega
    exact p27
  · obtain rfl : s = 0 := by omega
    obtain rfl : j = 0 := by omega
    exact p28
  · obtain rfl : s = 0 := by omega
    exact p29 j h2
  · obtain rfl : s = 0 := by omega
    obtain rfl : j = 0 := by omega
    exact d30
  · obtain rfl : s = 0 := by omega
    obtain rfl : j = 0 := by omega
    exact cI.congr d31 a0S_nI
  · obtain rfl : s = 0 := by omega
    obtain rfl : j = 0 := by omega
    exact d32
  · obtain rfl : s = 0 := by omega
    obtain rfl : j = 0 := by omega
    exact d33
  · obtain rfl : s = 0 := by omega
    obtain rfl : j = 0 := by omega
    exact d34
  · obtain rfl : s = 0 := by omega
    obtain rfl : j = 0 := by omega
    exact d35
  · obtain rfl : s = 0 := by omega
    obtain rfl : j = 0 := by omega
    exact d36
  · obtain rfl : s = 0 := by omega
    obtain rfl : j = 0 := by omega
    exact d37
  · obtain rfl : s = 0 := by omega
    obtain rfl : j = 0 := by omega
    exact d38
  · obtain rfl : s = 0 := by omega
    obtain rfl : j = 0 := by omega
    exact d39
  · obtain rfl : s = 0 := by omega
    obtain rfl : j = 0 := by omega
    exact d40
  · obtain rfl : s = 0 := by omega
    obtain rfl : j = 0 := by omega
    exact d41
  · obtain rfl : s = 0 := by omega
    obtain rfl : j = 0 := by omega
    exact hO
  · obtain rfl : s = 0 := by omega
    obtain rfl : j = 0 := by omega
    exact hO2
end W0
