/-! ===== the law: memory outside the class ===== -/
def o4N (nm : Nm) : Prop := 30 ≤ nm.1
theorem CW.o4 {τ τ' : Mem} {σ : Sg} (h : CW τ σ) (hm : Same o4N τ τ') : CW τ' σ := by
  have no : ∀ K s j, K < 30 → ¬ o4N (K, s, j) := fun K s j hK z => by unfold o4N at z; simp only at z; omega
  obtain ⟨h1, ⟨p, h2⟩, ⟨⟨⟨π1, hπ1⟩, s2, s3⟩, e12, tx, sl⟩⟩ := h
  obtain ⟨π, hπ⟩ := h2.2.1 (2 + p) (by omega) (by have := h2.1.1; omega)
  refine ⟨h1.same hm (fun K j hK => no K 0 j (by omega)), ⟨p, h2.same hm (no _ _ _ (by decide)) (fun K s j _ _ hK => no K s j (by omega)) ⟨π, hπ.same hm (no _ _ _ (by decide))⟩⟩, ⟨⟨π1, hπ1.same hm (no _ _ _ (by decide))⟩, ?_, fun s e => (s3 s e).same hm (fun K j hK => no K 1 j (by omega))⟩, ?_, ?_, ?_⟩
  · rw [(hm.2 _ (no 1 0 0 (by decide))).1]; exact s2
  · rw [(hm.2 _ (no 1 0 0 (by decide))).1]; exact e12
  · unfold TxR; rw [(hm.2 _ (no 9 0 0 (by decide))).1, (hm.2 _ (no 26 0 0 (by decide))).1]; exact tx
  · unfold SlR; rw [hm.1]; exact sl
theorem MW.oth {τ τ' : Mem} {c : Nat} {σ : Sg} (h : MW τ c σ) (hm : OthC τ τ') : MW τ' c σ := by
  obtain ⟨h1, h2, h3⟩ := h
  exact ⟨by rw [hm _ (by decide)]; exact h1, by rw [hm _ (by decide)]; exact h2, h3.of (fun g => by rw [hm _ (by decide)]; exact g) (hm _ (by decide)) (hm _ (by decide)) (hm _ (by decide)) (hm _ (by decide)) (hm _ (by decide)) (hm _ (by decide))⟩
theorem Oth.same {τ τ' : Mem} (h : Oth τ τ') : Same o4N τ τ' :=
  ⟨by rw [h.1], fun a ha => ⟨h.2 a.1 a.2.1 a.2.2 (by unfold o4N at ha; omega), by rw [h.1]⟩⟩
theorem CW.mod {τ τ' : Mem} {σ : Sg} (h : CW τ σ) (hm : Oth τ τ') : CW τ' σ := h.o4 hm.same
abbrev ouM : AV := .inr (42, 0, 0)
abbrev odM : AV := .inr (43, 0, 0)
/-- what a wrapper of the law's answers -/
def LwP (τ : Mem) (r : Nat × Nat × Sg) : AOut → Mem → Prop := fun o τ' => o = .inl (some (aI (nI r.1))) ∧ CW τ' r.2.2 ∧ OthC τ τ' ∧ (r.1 = 0 → τ'.2.1 (42, 0, 0) 0 = (nI r.2.1).toInt64)
theorem Lw_ok {τ t1 : Mem} {r : Nat × Nat × Sg} (h1 : CW t1 r.2.2) (h2 : OthC τ t1) (hz : r.1 = 0) : LwP τ r (.inl (some (aI (nI 0)))) (sM t1 (42, 0, 0) (uL (t1.2.1 (42, 0, 0)) 0 (nI r.2.1).toInt64)) :=
  ⟨by rw [hz], h1.o4 ((Same.refl _ _).sM _ (by unfold o4N; decide)), h2, fun _ => by rw [sM_same]; simp [uL]⟩
theorem Lw_no {τ t1 : Mem} {r : Nat × Nat × Sg} (h1 : CW t1 r.2.2) (h2 : OthC τ t1) (hz : ¬ r.1 = 0) {k : Nat} (hk : r.1 = k) : LwP τ r (.inl (some (aI (nI k)))) t1 :=
  ⟨by rw [hk], h1, h2, fun z => absurd z hz⟩
def LdP (τ : Mem) (σ : Sg) (r : Nat × UInt64) : AOut → Mem → Prop := fun o τ' => o = .inl (some (aI (nI r.1))) ∧ CW τ' σ ∧ OthC τ τ' ∧ (r.1 = 0 → τ'.2.1 (43, 0, 0) 0 = r.2.toInt64)
theorem Ld_ok {τ t1 : Mem} {σ : Sg} {r : Nat × UInt64} (h1 : CW t1 σ) (h2 : OthC τ t1) (hz : r.1 = 0) : LdP τ σ r (.inl (some (aI (nI 0)))) (sM t1 (43, 0, 0) (uL (t1.2.1 (43, 0, 0)) 0 r.2.toInt64)) :=
  ⟨by rw [hz], h1.o4 ((Same.refl _ _).sM _ (by unfold o4N; decide)), h2, fun _ => by rw [sM_same]; simp [uL]⟩
theorem Ld_no {τ t1 : Mem} {σ : Sg} {r : Nat × UInt64} (h1 : CW t1 σ) (h2 : OthC τ t1) (hz : ¬ r.1 = 0) {k : Nat} (hk : r.1 = k) : LdP τ σ r (.inl (some (aI (nI k)))) t1 :=
  ⟨by rw [hk], h1, h2, fun z => absurd z hz⟩
