/-! ===== arrays of references made ===== -/
/-- the words on arrays of references that the constructors need -/
def arW : List Cond := [Cond.arrayOver (.object "MinutePawnshop$Item"), Cond.arrayOver (.object "MinutePawnshop$Command"), Cond.arrayOver (.object "MinutePawnshop$Shop"), Cond.arrayOver (.array .int)]
def ArF (G : GG) : Prop := ∀ U H, G.2.2.2.2 U H → ∀ ty, Cond.arrayOver ty ∈ arW → (Cond.arrayOver ty).before #[] U = true
theorem ArF.use {G : GG} {U : State} {H : Heap} {ty : FieldType} {A : Array Value} (h : ArF G) (hX : G.2.2.2.2 U H) (hw : Cond.arrayOver ty ∈ arW) : (Cond.arrayOver ty).before A U = true := h U H hX ty hw
section KARR
variable {x : Cw} {H : Heap} {locs : List Loc} {n m0 pc : Nat} {al : Al} {r : List AV}
theorem va_S.more {A : Nat → Prop} {H0 H H1 : Heap} {locs : List Loc} (hS : va_S A H0 H locs) (z : H.size ≤ H1.size) (o : ∀ q : Nat, q < H.size → H1[q]? = H[q]?) : va_S A H0 H1 locs :=
  ⟨Nat.le_trans hS.1 z, fun q h1 h2 => (o q (Nat.lt_of_lt_of_le h1 hS.1)).trans (hS.2.1 q h1 h2), hS.2.2⟩
theorem outer_arr (c : ClassId) (N h0 : Nat) : ∀ i, Jvm.Free.Multi.outerC c N h0 i = arrV c N (fun j => va_rf (if j < i then some (h0 + 1 + j) else none))
  | 0 => by
    show ({ cls := c, slots := Array.replicate N .null, vm := .none } : Cell) = _
    rw [arrV_new]
    congr 1
  | i + 1 => by
    show (Jvm.Free.Multi.outerC c N h0 i).setSlot i (.ref (h0 + 1 + i)) = _
    rw [outer_arr c N h0 i, arrV_store]
    congr 1
    funext j
    unfold updV
    by_cases e : j = i
    · subst e
      rw [if_pos rfl, if_pos (by omega)]
      rfl
    · rw [if_neg e]
      show va_rf (if j < i then some (h0 + 1 + j) else none) = va_rf (if j < i + 1 then some (h0 + 1 + j) else none)
      by_cases e2 : j < i
      · rw [if_pos e2, if_pos (by omega)]
      · rw [if_neg e2, if_neg (by omega)]
theorem k_multi {y9 : MX} {G9 : GG} {idx N K : Nat} {n1 k1 : Int32} (hg : Gw x) (hy : wY x = y9) (hG9 : wG x = G9) (hAr : ArF G9) (hd : decode y9.2.1 pc = .ok (.multianewarray idx 2, 4))
    (hw : Cond.classLink y9.1.cls idx "[[I" ∈ TBg ∧ Cond.arrayOver (.array .int) ∈ arW ∧ Cond.arrayClass .int ∈ TBg) (h1 : ¬ n1 < 0 ∧ n1.toNatClampNeg = N ∧ N ≤ 1000) (h2 : ¬ k1 < 0 ∧ k1.toNatClampNeg = K ∧ K ≤ 1000) (hS : va_S (AA G9) (wS x).heap H locs) (hn : n + (1 + N) ≤ y9.2.2.2.2.1) (hm : m0 + (N + N * K) ≤ y9.2.2.2.2.2.1)
    (kk : ∀ H1, cQ G9 7 H.size N (fun j => some (H.size + 1 + j)) H1 → (∀ j, j < N → cI G9 0 (H.size + 1 + j) K (fun _ => 0) H1) → H1.size = H.size + 1 + N → (∀ q : Nat, q < H.size → H1[q]? = H[q]?) → va_S (AA G9) (wS x).heap H1 locs → KW x H1 locs (n + 1 + N) (m0 + N + N * K) (pc + 4) al (.inl (.ref H.size) :: r)) :
    KW x H locs n m0 pc al (.inl (.int k1) :: .inl (.int n1) :: r) := by
  subst hy hG9
  obtain ⟨l, G, p, e, s, m, args, below, meth, c, y, Q⟩ := x
  obtain ⟨hx, hb, hown, hts, hml, hK, hX⟩ := hg
  obtain ⟨h1a, rfl, h1c⟩ := h1
  obtain ⟨h2a, rfl, h2c⟩ := h2
  intro ls hL T hT X
  subst hT
  obtain ⟨vm₁, cA, comp, hW1, hfA, hfC, hO, hI, X1, step⟩ := X.multianewarray2F hx (own := y.1.cls) (index := idx) (ty := .int) hown (hts _ hw.1) (hAr.use hX hw.2.1) (hts _ hw.2.2) (g := F0 m pc ls (((.inl (.int k1) :: .inl (.int n1) :: r : List AV)).map (conc G))) rfl (by rw [hb]; exact hd) (n := n1) (k := k1) (rest := r.map (conc G)) rfl h1a h2a
    (by omega) (by show k1.toNatClampNeg * 4 ≤ _; omega) (by omega) rfl rfl hn hm
  obtain ⟨f1, f2, f3, f4⟩ := Jvm.Free.Multi.fill_facts (T.setVm vm₁) cA comp n1.toNatClampNeg k1.toNatClampNeg (defaultValue .int) n1.toNatClampNeg
  have hold := fun (q : Nat) (hq : q < T.heap.size) => Jvm.Free.Multi.fill_old (T.setVm vm₁) cA comp n1.toNatClampNeg k1.toNatClampNeg (defaultValue .int) hq n1.toNatClampNeg
  have hin := fun (j : Nat) (hj : j < n1.toNatClampNeg) => Jvm.Free.Multi.fill_inner (T.setVm vm₁) cA comp n1.toNatClampNeg k1.toNatClampNeg (defaultValue .int) n1.toNatClampNeg j hj
  have hc0 : comp = G.2.2.2.1 0 := Option.some.inj (hfC.symm.trans (hK.2 0 _ rfl).2)
  have hc7 : cA = G.2.2.2.1 7 := Option.some.inj (hfA.symm.trans (hK.2 7 _ rfl).2)
  subst hc0 hc7
  generalize Jvm.Free.Multi.fill (T.setVm vm₁) (G.2.2.2.1 7) (G.2.2.2.1 0) n1.toNatClampNeg k1.toNatClampNeg (defaultValue .int) n1.toNatClampNeg = T1 at *
  have f1 : T1.heap.size = T.heap.size + 1 + n1.toNatClampNeg := f1
  obtain ⟨t2, a1, b1⟩ := kk T1.heap (by
      show T1.heap[T.heap.size]? = some (vp_cell _ _)
      have f2 : T1.heap[T.heap.size]? = some (Jvm.Free.Multi.outerC (G.2.2.2.1 7) n1.toNatClampNeg T.heap.size n1.toNatClampNeg) := f2
      rw [f2, vp_cell_q, outer_arr]
      congr 1
      exact arrV_eq (fun j hj => by rw [if_pos hj])) (fun j hj => by
      show T1.heap[T.heap.size + 1 + j]? = some (vp_cell _ _)
      have h9 : T1.heap[T.heap.size + 1 + j]? = some (Jvm.Free.Multi.innerC (G.2.2.2.1 0) k1.toNatClampNeg (defaultValue .int)) := hin j hj
      rw [h9, vp_cell_i, ← arrV_new]
      rfl) f1 hold (hS.more (by omega) hold) ls hL T1 rfl X1
  exact ⟨t2, step _ a1, b1⟩
theorem k_anew {y9 : MX} {G9 : GG} {idx t N : Nat} {C : String} {n1 : Int32} (hg : Gw x) (hy : wY x = y9) (hG9 : wG x = G9) (hAr : ArF G9) (hd : decode y9.2.1 pc = .ok (.anewarray idx, 3))
    (hw : Cond.classLink y9.1.cls idx C ∈ TBg ∧ Cond.arrayOver (.object C) ∈ arW) (ht : (tysG G9)[t]? = some (G9.2.2.2.1 t, .object C)) (h1 : ¬ n1 < 0 ∧ n1.toNatClampNeg = N ∧ N ≤ 1000) (hS : va_S (AA G9) (wS x).heap H locs) (hn : n + 1 ≤ y9.2.2.2.2.1) (hm : m0 + N ≤ y9.2.2.2.2.2.1)
    (kk : ∀ H1, cQ G9 t H.size N (fun _ => none) H1 → H1.size = H.size + 1 → (∀ q : Nat, q < H.size → H1[q]? = H[q]?) → va_S (AA G9) (wS x).heap H1 locs → KW x H1 locs (n + 1) (m0 + N) (pc + 3) al (.inl (.ref H.size) :: r)) :
    KW x H locs n m0 pc al (.inl (.int n1) :: r) := by
  subst hy hG9
  obtain ⟨l, G, p, e, s, m, args, below, meth, c, y, Q⟩ := x
  obtain ⟨hx, hb, hown, hts, hml, hK, hX⟩ := hg
  obtain ⟨h1a, rfl, h1c⟩ := h1
  intro ls hL
  refine W.anew hx hb hown (hts _ hw.1) (hAr.use hX hw.2) rfl hd rfl h1a (by omega) hn hm fun cA kA comp e1 e2 e3 e4 => ?_
  obtain ⟨kA', comp', k1, k2, k3, k4⟩ := (hK.2 t _ ht).2
  have hc : cA = G.2.2.2.1 t := Option.some.inj (e1.symm.trans k4)
  subst hc
  refine kk _ ?_ (by simp) (fun q hq => by rw [Array.getElem?_push, if_neg (Nat.ne_of_lt hq)]) (hS.more (by simp) (fun q hq => by rw [Array.getElem?_push, if_neg (Nat.ne_of_lt hq)])) ls hL
  show _ = some (vp_cell _ _)
  rw [vp_cell_q]
  show _ = some (arrV _ _ (fun _ => Value.null))
  rw [← arrV_new]
  simp
/-- a reference to an object stored in an array -/
theorem k_aast {y9 : MX} {G9 : GG} {a v t N ci : Nat} {i : Int32} {f : Nat → Option Nat} {fs : List Value} {rr : vw_C} (hg : Gw x) (hy : wY x = y9) (hG9 : wG x = G9) (hd : decode y9.2.1 pc = .ok (.aastore, 1)) (hat : cQ G9 t a N f H) (ht : (tysG G9)[t]? = some (G9.2.2.2.1 t, .object rr.1)) (hv : cO G9 v ci fs H) (hc : vwCl[ci]? = some rr) (hi : vp_in i N) (haA : AA G9 a) (hS : va_S (AA G9) (wS x).heap H locs)
    (kk : ∀ H1 locs1, cQ G9 t a N (va_up f i.toNatClampNeg (some v)) H1 → H1.size = H.size → (∀ q : Nat, q ≠ a → H1[q]? = H[q]?) → va_S (AA G9) (wS x).heap H1 locs1 → KW x H1 locs1 n m0 (pc + 1) al r) : KW x H locs n m0 pc al (.inl (.ref v) :: .inl (.int i) :: .inl (.ref a) :: r) := by
  subst hy hG9
  obtain ⟨l, G, p, e, s, m, args, below, meth, c, y, Q⟩ := x
  obtain ⟨hx, hb, hown, hts, hml, hK, hX⟩ := hg
  intro ls hL
  have hlt : i.toNatClampNeg < N := Nat.not_le.mp fun q => hi (Or.inr q)
  have h0 : ¬ i < 0 := fun q => hi (Or.inl q)
  obtain ⟨r', hr', cellV, g1, g2, g3, -⟩ := hv
  have hcls := (hK.1 ci rr hc).2
  obtain ⟨kA, comp, k1, k2, k3, -⟩ := (hK.2 t _ ht).2
  have hcomp : comp = G.1.1 ci := Option.some.inj (k3.symm.trans hcls.1)
  subst hcomp
  obtain ⟨kC, hkC, -⟩ := hcls.2
  refine W.aast hx hb hat (fun q h => by cases h) (fun h => by cases h) k1 k2 rfl hkC ⟨h0, by show _ < (arrV _ _ _).slots.size; rw [arrV_size]; exact hlt⟩ g1 (fun q h => by rw [g3] at h; cases h) (by rw [g2]; exact hkC) (by rw [g2]; exact va_assign hcls) rfl rfl hd fun H1 e z oq => ?_
  refine kk H1 _ ?_ z oq (hS.put z oq haA) ls hL
  show H1[a]? = some (vp_cell _ _)
  rw [e]
  show some ((vp_cell _ (N, .inr (.inr (.inr (.inr f))))).setSlot _ _) = _
  rw [vp_cell_q, vp_cell_q, arrV_store]
  congr 2
  funext q
  by_cases hq : q = i.toNatClampNeg
  · subst hq
    simp [updV, va_up, va_rf]
  · simp [updV, va_up, hq]
/-- a static read -/
theorem k_gets {y9 : MX} {G9 : GG} {idx : Nat} {C nme d : String} {v : AV} (hg : Gw x) (hy : wY x = y9) (hG9 : wG x = G9) (hd : decode y9.2.1 pc = .ok (.getstatic idx, 3)) (hl : Cond.fieldLink y9.1.cls idx C nme d ∈ TBg) (hZ : ∀ U H, G9.2.2.2.2 U H → va_Z C nme d (conc G9 v) (AA G9) U H) (hS : va_S (AA G9) (wS x).heap H locs) (kk : KW x H locs n m0 (pc + 3) al (v :: r)) : KW x H locs n m0 pc al r := by
  subst hy hG9
  obtain ⟨l, G, p, e, s, m, args, below, meth, c, y, Q⟩ := x
  obtain ⟨hx, hb, hown, hts, hml, hK, hX⟩ := hg
  exact fun ls hL => va_gets hx hb (hZ _ _ hX) hS hown (hts _ hl) (fun _ h => h) hd (kk ls hL)
end KARR
