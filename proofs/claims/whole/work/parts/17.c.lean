/-! ===== what stays true: the nine operations ===== -/
theorem SI_pledge {c : Nat} {σ : Sg} (h : SI c σ) (p0 p1 p2 : Int32) : SI (c + 1) (opS σ (sPl σ.1 p0 p1 p2)).2.2 := h.op (fun n _ hI => IV_sPl hI p0 p1 p2)
theorem SI_redeem {c : Nat} {σ : Sg} (h : SI c σ) (t : Int32) : SI (c + 1) (opS σ (sRed σ.1 (findO σ.1 t false))).2.2 := h.op (fun n _ hI => IV_sRed hI (fun i hi => findO_lt hi))
theorem SI_extend {c : Nat} {σ : Sg} (h : SI c σ) (t d : Int32) : SI (c + 1) (opS σ (sExt σ.1 (findO σ.1 t false) d)).2.2 := h.op (fun n _ hI => IV_sExt hI d (fun i hi => findO_lt hi))
theorem SI_passDays {c : Nat} {σ : Sg} (h : SI c σ) (d : Int32) : SI (c + 1) (opS σ (sPas σ.1 d)).2.2 := h.op (fun n _ hI => IV_sPas hI d)
theorem SI_setPrice {c : Nat} {σ : Sg} (h : SI c σ) (d : Int32) : SI (c + 1) (opS σ (sPri σ.1 d)).2.2 := h.op (fun n _ hI => IV_sPri hI d)
theorem SI_setRate {c : Nat} {σ : Sg} (h : SI c σ) (w d : Int32) : SI (c + 1) (opS σ (sRat σ.1 w d)).2.2 := h.op (fun n _ hI => IV_sRat hI w d)
theorem SI_bid {c : Nat} {σ : Sg} (h : SI c σ) (t y d : Int32) : SI (c + 1) (opS σ (sBid σ.1 (findO σ.1 t true) y d)).2.2 := h.op (fun n _ hI => IV_sBid hI y d (fun i hi => findO_lt hi))
theorem SI_sell {c : Nat} {σ : Sg} (h : SI c σ) (t : Int32) : SI (c + 1) (opS σ (sSel σ.1 (findO σ.1 t true))).2.2 := h.op (fun n _ hI => IV_sSel hI (fun i hi => (findO_lt hi).1))
theorem SI_sellEvening {c : Nat} {σ : Sg} (h : SI c σ) (hc : c ≤ 900)  : SI (c + 1) (opS σ (sEve σ.1)).2.2 := h.op (fun n hn hI => IV_sEve hI (by omega))
/-- of a state after few calls what the methods ask -/
theorem SI.get {c : Nat} {σ : Sg} (h : SI c σ) (hc : c ≤ 900) : ∃ n, n + 100 ≤ 1000 ∧ IV n σ.1 ∧ (∀ b ∈ σ.2.1, b 4 ≤ 10 ∧ ∀ i, i < 10 → it b i 1 ≤ 1) ∧ (∀ s, σ.2.2.1 = some s → s 4 ≤ 10 ∧ ∀ i, i < 10 → it s i 1 ≤ 1) ∧ (Zr σ.1 ∧ (∀ b ∈ σ.2.1, Zr b) ∧ ∀ s, σ.2.2.1 = some s → Zr s) ∧ ((∀ p, σ.2.2.2.1.1 = some p → p < 1000) ∧ ∀ p, σ.2.2.2.1.2 = some p → p < 1000) ∧ (σ.2.2.2.2.1.length ≤ 60 ∧ ∀ c ∈ σ.2.2.2.2.1, c < 128) ∧ ∀ c ∈ σ.2.2.2.2.2, c < 128 := by
  obtain ⟨n, h1, h2, h3, h4, ⟨h5, h6⟩, h7, h8⟩ := h
  exact ⟨n, by omega, h2, fun b hb => ⟨(h3 b hb).1.1, (h3 b hb).one⟩, fun s hs => ⟨(h4 s hs).1.1, (h4 s hs).one⟩, ⟨h2.2.1, fun b hb => (h3 b hb).2.1, fun s hs => (h4 s hs).2.1⟩, ⟨fun p hp => by have := h5 p hp; omega, fun p hp => by have := h6 p hp; omega⟩, h7, h8⟩
