/-! ===== the constructors: what they leave ===== -/
def lstI (L : List Int32) : Nat → Int32 := fun j => L.getD j 0
theorem cI.snoc {G : GG} {t a N k : Nat} {L : List Int32} {v : Int32} {H : Heap} (h : cI G t a N (uI (lstI L) k v) H) (hk : k = L.length) : cI G t a N (lstI (L ++ [v])) H := by
  refine h.congr (fun j hj => ?_)
  subst hk
  unfold lstI uI
  by_cases e : j = L.length
  · subst e; simp
  · rw [if_neg e]
    simp only [List.getD_eq_getElem?_getD]
    by_cases e2 : j < L.length
    · rw [List.getElem?_append_left e2]
    · rw [List.getElem?_append_right (by omega), List.getElem?_eq_none (by omega), List.getElem?_eq_none (by simp; omega)]
theorem cI.nil {G : GG} {t a N : Nat} {H : Heap} (h : cI G t a N (fun _ => 0) H) : cI G t a N (lstI []) H := h.congr (fun j hj => rfl)
theorem cI.nil1 {G : GG} {t a N : Nat} {H : Heap} (h : cI G t a N (fun _ => 0) H) : cI G t a N (lstI [0]) H := h.congr (fun j hj => by cases j <;> rfl)
def ItC (G : GG) (a b : Nat) (H : Heap) : Prop := cO G a 8 [.int 0, .int 0, .int 0, .int 0, .int 0, .int 0, .int 0, .ref b] H ∧ cI G 0 b 5 (fun _ => 0) H
def CaC (G : GG) (a b : Nat) (H : Heap) : Prop := cO G a 5 [.int (0), .ref b] H ∧ cI G 0 b 7 (fun _ => 1) H
def AcC (G : GG) (a _b : Nat) (H : Heap) : Prop := cO G a 4 [.int (2000), .int (0), .int (0), .int (0), .int (0), .long 0, .int (0), .int (0), .int (0)] H
def ShC (G : GG) (a b : Nat) (H : Heap) : Prop := cO G a 11 [.ref b, .ref (b + 2), .int (2), .int (0), .ref (b + 3), .int (0)] H ∧ CaC G b (b + 1) H ∧ AcC G (b + 2) (b + 3) H ∧ cQ G 4 (b + 3) 10 (fun j => some (b + 4 + 2 * j)) H ∧ ∀ j, j < 10 → ItC G (b + 4 + 2 * j) (b + 5 + 2 * j) H
def HiC (G : GG) (a b : Nat) (H : Heap) : Prop := cO G a 7 [.ref b, .int (0), .int (0)] H ∧ cQ G 6 b 9 (fun j => some (b + 1 + 25 * j)) H ∧ ∀ j, j < 9 → ShC G (b + 1 + 25 * j) (b + 2 + 25 * j) H
def ReC (G : GG) (a b : Nat) (H : Heap) : Prop := cO G a 10 [.ref b, .ref (b + 1), .int (0), .ref (b + 2), .ref (b + 3), .ref (b + 4)] H ∧ cI G 0 b 10 (fun _ => 0) H ∧ cI G 0 (b + 1) 10 (fun _ => 0) H ∧ cI G 0 (b + 2) 1024 (fun _ => 0) H ∧ cI G 0 (b + 3) 1024 (fun _ => 0) H ∧ cI G 0 (b + 4) 2401 (fun _ => 0) H
def EvC (G : GG) (a b : Nat) (H : Heap) : Prop := cO G a 6 [.ref b, .ref (b + 11), .ref (b + 23), .ref (b + 35), .int (0)] H ∧ (cQ G 7 b 10 (fun j => some (b + 1 + j)) H ∧ ∀ j, j < 10 → cI G 0 (b + 1 + j) 5 (fun _ => 0) H) ∧ (cQ G 7 (b + 11) 11 (fun j => some (b + 11 + 1 + j)) H ∧ ∀ j, j < 11 → cI G 0 (b + 11 + 1 + j) 32 (fun _ => 0) H) ∧ (cQ G 7 (b + 23) 11 (fun j => some (b + 23 + 1 + j)) H ∧ ∀ j, j < 11 → cI G 0 (b + 23 + 1 + j) 5 (fun _ => 0) H) ∧ cI G 0 (b + 35) 10 (fun _ => 0) H
def PrC (G : GG) (a b : Nat) (H : Heap) : Prop := cO G a 9 [.ref b, .int (0), .ref (b + 1), .ref (b + 2), .int (0), .int (0)] H ∧ cI G 1 b 60 (fun _ => 0) H ∧ cQ G 5 (b + 1) 9 (fun _ => none) H ∧ cQ G 7 (b + 2) 9 (fun j => some (b + 2 + 1 + j)) H ∧ ∀ j, j < 9 → cI G 0 (b + 2 + 1 + j) 3 (fun _ => 0) H
def SbC (G : GG) (a b : Nat) (H : Heap) : Prop := cO G a 1 [.ref b, .int (0), .int 0, .int 0] H ∧ cI G 8 b 16 (fun _ => 0) H
section KEPT
variable {G : GG} {a b : Nat} {H H1 : Heap}
theorem ItC.kept (h : ItC G a b H) (ho : H1[a]? = H[a]?) (hq : ∀ q, b ≤ q → q < b + 1 → H1[q]? = H[q]?) : ItC G a b H1 := ⟨h.1.kept ho, h.2.kept (hq _ (by omega) (by omega))⟩
theorem CaC.kept (h : CaC G a b H) (ho : H1[a]? = H[a]?) (hq : ∀ q, b ≤ q → q < b + 1 → H1[q]? = H[q]?) : CaC G a b H1 := ⟨h.1.kept ho, h.2.kept (hq _ (by omega) (by omega))⟩
theorem AcC.kept (h : AcC G a b H) (ho : H1[a]? = H[a]?) (_hq : ∀ q, b ≤ q → q < b + 0 → H1[q]? = H[q]?) : AcC G a b H1 := cO.kept h ho
theorem ShC.kept (h : ShC G a b H) (ho : H1[a]? = H[a]?) (hq : ∀ q, b ≤ q → q < b + 24 → H1[q]? = H[q]?) : ShC G a b H1 :=
  ⟨h.1.kept ho, h.2.1.kept (hq _ (by omega) (by omega)) (fun q h1 h2 => hq q (by omega) (by omega)), h.2.2.1.kept (hq _ (by omega) (by omega)) (fun q h1 h2 => hq q (by omega) (by omega)), h.2.2.2.1.kept (hq _ (by omega) (by omega)), fun j hj => (h.2.2.2.2 j hj).kept (hq _ (by omega) (by omega)) (fun q h1 h2 => hq q (by omega) (by omega))⟩
theorem HiC.kept (h : HiC G a b H) (ho : H1[a]? = H[a]?) (hq : ∀ q, b ≤ q → q < b + 226 → H1[q]? = H[q]?) : HiC G a b H1 :=
  ⟨h.1.kept ho, h.2.1.kept (hq _ (by omega) (by omega)), fun j hj => (h.2.2 j hj).kept (hq _ (by omega) (by omega)) (fun q h1 h2 => hq q (by omega) (by omega))⟩
theorem ReC.kept (h : ReC G a b H) (ho : H1[a]? = H[a]?) (hq : ∀ q, b ≤ q → q < b + 5 → H1[q]? = H[q]?) : ReC G a b H1 :=
  ⟨h.1.kept ho, h.2.1.kept (hq _ (by omega) (by omega)), h.2.2.1.kept (hq _ (by omega) (by omega)), h.2.2.2.1.kept (hq _ (by omega) (by omega)), h.2.2.2.2.1.kept (hq _ (by omega) (by omega)), h.2.2.2.2.2.kept (hq _ (by omega) (by omega))⟩
theorem EvC.kept (h : EvC G a b H) (ho : H1[a]? = H[a]?) (hq : ∀ q, b ≤ q → q < b + 36 → H1[q]? = H[q]?) : EvC G a b H1 :=
  ⟨h.1.kept ho, ⟨h.2.1.1.kept (hq _ (by omega) (by omega)), fun j hj => (h.2.1.2 j hj).kept (hq _ (by omega) (by omega))⟩, ⟨h.2.2.1.1.kept (hq _ (by omega) (by omega)), fun j hj => (h.2.2.1.2 j hj).kept (hq _ (by omega) (by omega))⟩, ⟨h.2.2.2.1.1.kept (hq _ (by omega) (by omega)), fun j hj => (h.2.2.2.1.2 j hj).kept (hq _ (by omega) (by omega))⟩, h.2.2.2.2.kept (hq _ (by omega) (by omega))⟩
theorem PrC.kept (h : PrC G a b H) (ho : H1[a]? = H[a]?) (hq : ∀ q, b ≤ q → q < b + 12 → H1[q]? = H[q]?) : PrC G a b H1 :=
  ⟨h.1.kept ho, h.2.1.kept (hq _ (by omega) (by omega)), h.2.2.1.kept (hq _ (by omega) (by omega)), h.2.2.2.1.kept (hq _ (by omega) (by omega)), fun j hj => (h.2.2.2.2 j hj).kept (hq _ (by omega) (by omega))⟩
theorem SbC.kept (h : SbC G a b H) (ho : H1[a]? = H[a]?) (hq : ∀ q, b ≤ q → q < b + 1 → H1[q]? = H[q]?) : SbC G a b H1 := ⟨h.1.kept ho, h.2.kept (hq _ (by omega) (by omega))⟩
end KEPT
section KMORE
variable {x : Cw} {H : Heap} {locs : List Loc} {n m0 n' m0' pc : Nat} {al : Al} {r : List AV}
theorem k_nm (h : n = n') (h' : m0 = m0') (k : KW x H locs n' m0' pc al r) : KW x H locs n m0 pc al r := by subst h h'; exact k
theorem k_iastk {y9 : MX} {G9 : GG} {a N k : Nat} {i v : Int32} {f : Nat → Int32} (hg : Gw x) (hy : wY x = y9) (hG9 : wG x = G9) (hd : decode y9.2.1 pc = .ok (.iastore, 1)) (hat : cI G9 0 a N f H) (hi : vp_in i N) (hk : i.toNatClampNeg = k) (haA : AA G9 a) (hS : va_S (AA G9) (wS x).heap H locs)
    (kk : ∀ H1 locs1, cI G9 0 a N (uI f k v) H1 → H1.size = H.size → (∀ q : Nat, q ≠ a → H1[q]? = H[q]?) → va_S (AA G9) (wS x).heap H1 locs1 → KW x H1 locs1 n m0 (pc + 1) al r) : KW x H locs n m0 pc al (.inl (.int v) :: .inl (.int i) :: .inl (.ref a) :: r) := by
  subst hk
  exact k_iast hg hy hG9 hd hat hi haA hS kk
end KMORE

/-! ===== the constructors ===== -/
def kX6 : MX := (yX6_init, cX6_init, 1, none, 1, 5, 3)
def kX2 : MX := (yX2_init, cX2_init, 1, none, 1, 7, 4)
def kX1 : MX := (yX1_init, cX1_init, 1, none, 0, 0, 3)
def kX9 : MX := (yX9_init, cX9_init, 2, none, 24, 158, 5)
def kX5 : MX := (yX5_init, cX5_init, 2, none, 226, 1485, 6)
def kX8 : MX := (yX8_init, cX8_init, 1, none, 5, 4469, 3)
def kX4 : MX := (yX4_init, cX4_init, 1, none, 36, 499, 3)
def kX7 : MX := (yX7_init, cX7_init, 1, none, 12, 105, 3)
def kJ5 : MX := (yJ5_init_d00df, cJ5_init_d00df, 2, none, 1, 16, 3)
def kJ4 : MX := (yJ4_init_da8c8, cJ4_init_da8c8, 1, none, 1, 16, 4)
def kX10 : MX := (yX10_init, cX10_init, 1, none, 335, 6926, 7)
def kX11 : MX := (yX11_init, cX11_init, 2, none, 11, 2070, 3)
def kFI : MX := (yJ7_fill_53178, cJ7_fill_53178, 4, none, 0, 0, 3)
theorem lay_J4 : ∀ w ∈ u_ws RJ4 TJ4 4, w ∈ TBg := by
  show ∀ w ∈ [u_lay RJ4 TJ4 0, u_lay RJ4 TJ4 1, u_lay RJ4 TJ4 2, u_lay RJ4 TJ4 3], w ∈ TBg
  exact List.forall_mem_cons.mpr ⟨TBg_at 377 (by decide +kernel), List.forall_mem_cons.mpr ⟨TBg_at 379 (by decide +kernel), List.forall_mem_cons.mpr ⟨TBg_at 381 (by decide +kernel), List.forall_mem_cons.mpr ⟨TBg_at 383 (by decide +kernel), fun _ h => absurd h List.not_mem_nil⟩⟩⟩⟩
