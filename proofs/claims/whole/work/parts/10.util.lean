/-! ===== calls of methods that always answer ===== -/
abbrev aI (x : Int32) : AV := .inl (.int x)
abbrev mM : AV := .inr (30, 0, 0)
def Ctx (l : Launch) (G : GG) : Prop := Gok G ∧ l.stackTraces = false
def retA (a : AV) (τ : Mem) : AOut → Mem → Prop := fun o τ' => o = .inl (some a) ∧ τ' = τ
abbrev retI (x : Int32) (τ : Mem) : AOut → Mem → Prop := retA (aI x) τ
def retV (τ : Mem) : AOut → Mem → Prop := fun o τ' => o = .inl none ∧ τ' = τ
def thr (E : String) (τ : Mem) : AOut → Mem → Prop := fun o τ' => o = .inr E ∧ τ' = τ
theorem V_cV {x : Cx} {l : Launch} {G : GG} {y : MI} {Φ : AOut → Mem → Prop} (hB : Bd x l G y Φ) (hno : NoH x) {z : MI} {as : List AV} {τ τ1 : Mem} {K s' j n n' pc idx : Nat} {al : Al} {r st : List AV} {a : AV}
    (hs : Sat l G z (.inr (K, s', j) :: as) τ (retA a τ1)) (hst : st = as.reverse ++ .inr (K, s', j) :: r) (hd : decode y.2.1 pc = .ok (.invokevirtual idx, 3)) (hw : CV y.1.cls idx z K) (h0 : dom (K, s', j)) (hp : npar z as.length) (hrm : z.2.2.2.2.2 + 1 ≤ y.2.2.2.2.2 ∧ z.2.2.1 ≤ 21) (hc : acats r ≤ 8)
    (hn : n' ≤ y.2.2.2.2.1) (hnn : n + z.2.2.2.2.1 = n') (k : V x τ1 n' (pc + 3) al (a :: r)) : V x τ n pc al st :=
  V_callV hB hno hs hst hd hw h0 hp hrm hc (hnn ▸ hn) (fun v τ' h => by obtain ⟨e1, rfl⟩ := h; cases e1; exact hnn ▸ k) (fun E τ' h => by cases h.1)
theorem V_cVv {x : Cx} {l : Launch} {G : GG} {y : MI} {Φ : AOut → Mem → Prop} (hB : Bd x l G y Φ) (hno : NoH x) {z : MI} {as : List AV} {τ τ1 : Mem} {K s' j n n' pc idx : Nat} {al : Al} {r st : List AV}
    (hs : Sat l G z (.inr (K, s', j) :: as) τ (retV τ1)) (hst : st = as.reverse ++ .inr (K, s', j) :: r) (hd : decode y.2.1 pc = .ok (.invokevirtual idx, 3)) (hw : CV y.1.cls idx z K) (h0 : dom (K, s', j)) (hp : npar z as.length) (hrm : z.2.2.2.2.2 + 1 ≤ y.2.2.2.2.2 ∧ z.2.2.1 ≤ 21) (hc : acats r ≤ 8)
    (hn : n' ≤ y.2.2.2.2.1) (hnn : n + z.2.2.2.2.1 = n') (k : V x τ1 n' (pc + 3) al r) : V x τ n pc al st :=
  V_callV hB hno hs hst hd hw h0 hp hrm hc (hnn ▸ hn) (fun v τ' h => by obtain ⟨e1, rfl⟩ := h; cases e1; exact hnn ▸ k) (fun E τ' h => by cases h.1)
theorem V_cS {x : Cx} {l : Launch} {G : GG} {y : MI} {Φ : AOut → Mem → Prop} (hB : Bd x l G y Φ) (hno : NoH x) {z : MI} {as : List AV} {τ τ1 : Mem} {n n' pc idx : Nat} {al : Al} {r st : List AV} {a : AV}
    (hs : Sat l G z as τ (retA a τ1)) (hst : st = as.reverse ++ r) (hd : decode y.2.1 pc = .ok (.invokestatic idx, 3)) (hw : CS y.1.cls idx z) (hp : npar z as.length) (hrm : z.2.2.2.2.2 + 1 ≤ y.2.2.2.2.2 ∧ z.2.2.1 ≤ 21) (hc : acats r ≤ 8)
    (hn : n' ≤ y.2.2.2.2.1) (hnn : n + z.2.2.2.2.1 = n') (k : V x τ1 n' (pc + 3) al (a :: r)) : V x τ n pc al st :=
  V_callS hB hno hs hst hd hw hp hrm hc (hnn ▸ hn) (fun v τ' h => by obtain ⟨e1, rfl⟩ := h; cases e1; exact hnn ▸ k) (fun E τ' h => by cases h.1)
theorem V_cSv {x : Cx} {l : Launch} {G : GG} {y : MI} {Φ : AOut → Mem → Prop} (hB : Bd x l G y Φ) (hno : NoH x) {z : MI} {as : List AV} {τ τ1 : Mem} {n n' pc idx : Nat} {al : Al} {r st : List AV}
    (hs : Sat l G z as τ (retV τ1)) (hst : st = as.reverse ++ r) (hd : decode y.2.1 pc = .ok (.invokestatic idx, 3)) (hw : CS y.1.cls idx z) (hp : npar z as.length) (hrm : z.2.2.2.2.2 + 1 ≤ y.2.2.2.2.2 ∧ z.2.2.1 ≤ 21) (hc : acats r ≤ 8)
    (hn : n' ≤ y.2.2.2.2.1) (hnn : n + z.2.2.2.2.1 = n') (k : V x τ1 n' (pc + 3) al r) : V x τ n pc al st :=
  V_callS hB hno hs hst hd hw hp hrm hc (hnn ▸ hn) (fun v τ' h => by obtain ⟨e1, rfl⟩ := h; cases e1; exact hnn ▸ k) (fun E τ' h => by cases h.1)
/-! ===== places ===== -/
theorem ix_in {k n : Nat} (h : k < n) (hn : n < 2 ^ 31) : vp_in (nI k) n := vp_in_nI h hn
theorem ix_e {k : Nat} (h : k < 2 ^ 31) : (nI k).toNatClampNeg = k := nI_clamp h
theorem ixL {k : Nat} (h : k < 2147483648) : (nI k).toNatClampNeg = k := nI_clamp h
theorem vpL {k n : Nat} (h : k < n) (hn : n < 2147483648) : vp_in (nI k) n = True := eq_true (vp_in_nI h hn)
theorem ixI {i c : Nat} (h : i < 10) (hc : c < 1000) : (nI (16 + 12 * i + c)).toNatClampNeg = 16 + 12 * i + c := nI_clamp (by omega)
theorem ixI0 {i : Nat} (h : i < 10) : (nI (16 + 12 * i)).toNatClampNeg = 16 + 12 * i := nI_clamp (by omega)
theorem vpI0 {i : Nat} (h : i < 10) : vp_in (nI (16 + 12 * i)) 136 = True := eq_true (vp_in_nI (by omega) (by omega))
theorem vpI {i c : Nat} (h : i < 10) (hc : c < 12) : vp_in (nI (16 + 12 * i + c)) 136 = True := eq_true (vp_in_nI (by omega) (by omega))
theorem upM_at {f : Nm → Nat → Int32} {nm : Nm} {k : Nat} {v : Int32} : upM f nm k v nm = fun i => if i = k then v else f nm i := by funext i; simp [upM]
theorem dom1 {K : Nat} (h : (Nat.blt 0 (dS K) && Nat.blt 0 (dJ K)) = true) : dom (K, 0, 0) := by
  simp only [Bool.and_eq_true] at h
  exact ⟨Nat.le_of_ble_eq_true h.1, Nat.le_of_ble_eq_true h.2⟩
