/-! ===== the constructors: the leaves ===== -/
section CN
variable {l : Launch} {G : GG}
/-- a row of ints filled -/
theorem n_FI {a N : Nat} {f : Nat → Int32} (v : Int32) (hN : N < 2147483648) : KC l G kFI [.inl (.ref a), .inl (.int v)] (fun H => cI G 0 a N f H ∧ AA G a) (fun H H1 => H1.size = H.size ∧ (∀ q : Nat, q ≠ a → H1[q]? = H[q]?) ∧ cI G 0 a N (fun _ => v) H1) := by
  refine KC_of (by decide +kernel) (Nat.le_of_ble_eq_true rfl) (fun x hB hpre => ?_)
  obtain ⟨hr, haA⟩ := hpre
  obtain ⟨hg, hl, hy, hwG, hnm, hrt, hlk, hQ, hz⟩ := id hB
  have loop : ∀ m i (g : Nat → Int32) H locs al, i + m = N → cI G 0 a N g H → (∀ j, j < i → g j = v) → H.size = (wS x).heap.size → (∀ q : Nat, q ≠ a → H[q]? = (wS x).heap[q]?) → va_S (AA G) (wS x).heap H locs → (∀ z ∈ ([(0, .inl (.ref a)), (1, aI v), (2, aI (nI i)), (3, aI (nI N))] : Al), lk al z.1 = some z.2) → KW x H locs 0 0 5 al [] := by
    intro m
    induction m with
    | zero =>
      intro i g H locs al hi hr hv zc oC hS hal
      refine KW.sub ?_ hal
      refine k_iload_n (f := 2) (i := 2) hg hy (by decide +kernel) rfl rfl ?_
      refine k_iload_n (f := 3) (i := 3) hg hy (by decide +kernel) rfl rfl ?_
      refine k_icmp_ge (off := 13) (tgt := 20) hg hy (by decide +kernel) (by decide) (fun _ => ?_) (fun q => absurd (by rw [show i = N by omega]; exact Int32.le_refl _) q)
      exact k_ret hB (by decide +kernel) rfl hS (Nat.le_refl _) (Nat.le_refl _) ⟨zc, oC, hr.congr (fun j hj => hv j (by omega))⟩
    | succ m ih =>
      intro i g H locs al hi hr hv zc oC hS hal
      refine KW.sub ?_ hal
      refine k_iload_n (f := 2) (i := 2) hg hy (by decide +kernel) rfl rfl ?_
      refine k_iload_n (f := 3) (i := 3) hg hy (by decide +kernel) rfl rfl ?_
      refine k_icmp_ge (off := 13) (tgt := 20) hg hy (by decide +kernel) (by decide) (fun q => absurd q (fun q2 => absurd ((nI_leI (by omega) (by omega)).mp q2) (by omega))) (fun _ => ?_)
      refine k_aload_n (f := 0) (i := 0) hg hy (by decide +kernel) rfl rfl rfl ?_
      refine k_iload_n (f := 2) (i := 2) hg hy (by decide +kernel) rfl rfl ?_
      refine k_iload_n (f := 1) (i := 1) hg hy (by decide +kernel) rfl rfl ?_
      refine k_iastk (k := i) hg hy hwG (by decide +kernel) hr (vpL (show i < N by omega) (by omega) ▸ trivial) (ixL (by omega)) haA hS (fun H2 locs2 c2 z2 o2 hS => ?_)
      refine k_iinc (i := 2) (z := 1) (w := nI 1) hg hy (by decide +kernel) (by decide) rfl (by decide) ?_
      refine k_goto (off := -12) (tgt := 5) hg hy (by decide +kernel) (by decide) ?_
      rw [nI_add]
      refine ih (i + 1) _ H2 locs2 _ (by omega) c2 (fun j hj => ?_) (z2.trans zc) (fun q hq => (o2 q hq).trans (oC q hq)) hS (List.forall_mem_cons.mpr ⟨rfl, List.forall_mem_cons.mpr ⟨rfl, List.forall_mem_cons.mpr ⟨rfl, List.forall_mem_cons.mpr ⟨rfl, fun _ h => absurd h List.not_mem_nil⟩⟩⟩⟩)
      unfold uI
      by_cases e : j = i
      · rw [if_pos e]
      · rw [if_neg e]; exact hv j (by omega)
  refine k_iconst (z := 0) (v := (0 : Int32)) hg hy (by decide) (by decide +kernel) ?_
  refine k_istore_n (f := 2) (i := 2) hg hy (by decide +kernel) rfl (by decide) ?_
  refine k_aload_n (f := 0) (i := 0) hg hy (by decide +kernel) rfl rfl rfl ?_
  refine k_alen (t := 0) (N := N) (ty := .int) hg hy hwG (by decide +kernel) hr rfl ?_
  refine k_istore_n (f := 3) (i := 3) hg hy (by decide +kernel) rfl (by decide) ?_
  exact loop N 0 f _ [] _ (Nat.zero_add N) hr (fun j hj => absurd hj (Nat.not_lt_zero j)) rfl (fun _ _ => rfl) va_S.rf (List.forall_mem_cons.mpr ⟨rfl, List.forall_mem_cons.mpr ⟨rfl, List.forall_mem_cons.mpr ⟨rfl, List.forall_mem_cons.mpr ⟨rfl, fun _ h => absurd h List.not_mem_nil⟩⟩⟩⟩)
theorem n_X6 (a : Nat) : KC l G kX6 [.inl (.ref a)] (fun H => cO G a 8 [.int 0, .int 0, .int 0, .int 0, .int 0, .int 0, .int 0, .null] H ∧ AA G a) (fun H H1 => H1.size = H.size + 1 ∧ (∀ q : Nat, q < H.size → q ≠ a → H1[q]? = H[q]?) ∧ ItC G a H.size H1) := by
  refine KC_of (by decide +kernel) (Nat.le_of_ble_eq_true rfl) (fun x hB hpre => ?_)
  obtain ⟨ha, haA⟩ := hpre
  obtain ⟨hg, hl, hy, hwG, hnm, hrt, hlk, hQ, hz⟩ := id hB
  have hS : va_S (AA G) (wS x).heap (wS x).heap [] := va_S.rf
  have hab : a < (wS x).heap.size := va_at.lt ha
  obtain ⟨b, zc⟩ : ∃ b, (wS x).heap.size = b := ⟨_, rfl⟩
  have hb := zc
  rw [zc] at hab
  have hzb : G.2.2.1 ≤ b := by rw [← zc]; exact hz
  have oC : ∀ q : Nat, q < b → q ≠ a → (wS x).heap[q]? = (wS x).heap[q]? := fun _ _ _ => rfl
  have ha : cO G a 8 [.int 0, .int 0, .int 0, .int 0, .int 0, .int 0, .int 0, .null] (wS x).heap := ha
  refine k_aload_n (f := 0) (i := 0) hg hy (by decide +kernel) rfl rfl rfl ?_
  refine k_obj (idx := 3) hg hy (by decide +kernel) ⟨(TBg_at 177 (by decide +kernel)), (TBg_at 102 (by decide +kernel)), (TBg_at 103 (by decide +kernel))⟩ (Nat.le_of_ble_eq_true rfl) ?_
  refine k_aload_n (f := 0) (i := 0) hg hy (by decide +kernel) rfl rfl rfl ?_
  refine k_iconst (z := 5) (v := (5 : Int32)) hg hy (by decide) (by decide +kernel) ?_
  show KW x _ _ _ _ 6 _ _
  refine k_newa (atype := .int) (t := 0) (N := 5) (a0 := (5, .inl (fun _ => 0))) hg hy hwG (by decide +kernel) (TBg_at 129 (by decide +kernel)) rfl (fun _ => rfl) (by decide) (by decide) (Nat.le_of_ble_eq_true rfl) hS (Nat.le_of_ble_eq_true rfl) (Nat.le_of_ble_eq_true rfl) (fun H2 c2 z2 o2 hS => ?_)
  rw [zc] at c2 z2 o2 ⊢
  have ha := ha.kept (o2 _ (by omega))
  have oC : ∀ q : Nat, q < b → q ≠ a → H2[q]? = (wS x).heap[q]? := fun q h1 h2 => (o2 q (by omega)).trans (oC q h1 h2)
  have zc : H2.size = b + 1 := by omega
  have r1 : cI G 0 b 5 (fun _ => 0) H2 := c2
  clear c2 z2 o2
  show KW x _ _ _ _ 8 _ _
  refine k_put (idx := 9) (ci := 8) (k := 7) (a := a) (fs := [.int 0, .int 0, .int 0, .int 0, .int 0, .int 0, .int 0, .null]) hg hy hwG hnm (by decide +kernel) ⟨RX6, TX6, 8, tyX6, (.array .int), rfl, by decide, (TBg_at 204 (by decide +kernel)), lay_X6, tyX6_ok, nmX6, rfl, rfl, rfl, rfl⟩ ha (Nat.le_of_ble_eq_true rfl) haA hS (fun H2 locs2 ha z2 o2 hS => ?_)
  have ha : cO G a 8 [.int 0, .int 0, .int 0, .int 0, .int 0, .int 0, .int 0, .ref b] H2 := ha
  have r1 := r1.kept (o2 _ (by omega))
  have oC : ∀ q : Nat, q < b → q ≠ a → H2[q]? = (wS x).heap[q]? := fun q h1 h2 => (o2 q h2).trans (oC q h1 h2)
  have zc : H2.size = b + 1 := z2.trans zc
  clear z2 o2
  subst hb
  show KW x _ _ _ _ 11 _ _
  exact k_ret hB (by decide +kernel) rfl hS (Nat.le_of_ble_eq_true rfl) (Nat.le_of_ble_eq_true rfl) ⟨zc, oC, ⟨ha, r1⟩⟩
theorem n_X2 (hG : Gok G) (a : Nat) : KC l G kX2 [.inl (.ref a)] (fun H => cO G a 5 [.int 0, .null] H ∧ AA G a) (fun H H1 => H1.size = H.size + 1 ∧ (∀ q : Nat, q < H.size → q ≠ a → H1[q]? = H[q]?) ∧ CaC G a H.size H1) := by
  refine KC_of (by decide +kernel) (Nat.le_of_ble_eq_true rfl) (fun x hB hpre => ?_)
  obtain ⟨ha, haA⟩ := hpre
  obtain ⟨hg, hl, hy, hwG, hnm, hrt, hlk, hQ, hz⟩ := id hB
  have hS : va_S (AA G) (wS x).heap (wS x).heap [] := va_S.rf
  have hab : a < (wS x).heap.size := va_at.lt ha
  obtain ⟨b, zc⟩ : ∃ b, (wS x).heap.size = b := ⟨_, rfl⟩
  have hb := zc
  rw [zc] at hab
  have hzb : G.2.2.1 ≤ b := by rw [← zc]; exact hz
  have oC : ∀ q : Nat, q < b → q ≠ a → (wS x).heap[q]? = (wS x).heap[q]? := fun _ _ _ => rfl
  have ha : cO G a 5 [.int 0, .null] (wS x).heap := ha
  refine k_aload_n (f := 0) (i := 0) hg hy (by decide +kernel) rfl rfl rfl ?_
  refine k_obj (idx := 3) hg hy (by decide +kernel) ⟨(TBg_at 115 (by decide +kernel)), (TBg_at 102 (by decide +kernel)), (TBg_at 103 (by decide +kernel))⟩ (Nat.le_of_ble_eq_true rfl) ?_
  refine k_aload_n (f := 0) (i := 0) hg hy (by decide +kernel) rfl rfl rfl ?_
  refine k_iconst (z := 0) (v := (0 : Int32)) hg hy (by decide) (by decide +kernel) ?_
  show KW x _ _ _ _ 6 _ _
  refine k_put (idx := 9) (ci := 5) (k := 0) (a := a) (fs := [.int 0, .null]) hg hy hwG hnm (by decide +kernel) ⟨RX2, TX2, 2, tyX2, .int, rfl, by decide, (TBg_at 119 (by decide +kernel)), lay_X2, tyX2_ok, nmX2, rfl, rfl, rfl, rfl⟩ ha (Nat.le_of_ble_eq_true rfl) haA hS (fun H2 locs2 ha z2 o2 hS => ?_)
  have ha : cO G a 5 [.int (0), .null] H2 := ha
  have oC : ∀ q : Nat, q < b → q ≠ a → H2[q]? = (wS x).heap[q]? := fun q h1 h2 => (o2 q h2).trans (oC q h1 h2)
  have zc : H2.size = b := z2.trans zc
  clear z2 o2
  refine k_aload_n (f := 0) (i := 0) hg hy (by decide +kernel) rfl rfl rfl ?_
  refine k_bipush (z := 7) (v := (7 : Int32)) hg hy (by decide) (by decide +kernel) ?_
  show KW x _ _ _ _ 12 _ _
  refine k_newa (atype := .int) (t := 0) (N := 7) (a0 := (7, .inl (fun _ => 0))) hg hy hwG (by decide +kernel) (TBg_at 129 (by decide +kernel)) rfl (fun _ => rfl) (by decide) (by decide) (Nat.le_of_ble_eq_true rfl) hS (Nat.le_of_ble_eq_true rfl) (Nat.le_of_ble_eq_true rfl) (fun H2 c2 z2 o2 hS => ?_)
  rw [zc] at c2 z2 o2 ⊢
  have ha := ha.kept (o2 _ (by omega))
  have oC : ∀ q : Nat, q < b → q ≠ a → H2[q]? = (wS x).heap[q]? := fun q h1 h2 => (o2 q (by omega)).trans (oC q h1 h2)
  have zc : H2.size = b + 1 := by omega
  have r1 : cI G 0 b 7 (fun _ => 0) H2 := c2
  clear c2 z2 o2
  show KW x _ _ _ _ 14 _ _
  refine k_put (idx := 15) (ci := 5) (k := 1) (a := a) (fs := [.int (0), .null]) hg hy hwG hnm (by decide +kernel) ⟨RX2, TX2, 2, tyX2, (.array .int), rfl, by decide, (TBg_at 122 (by decide +kernel)), lay_X2, tyX2_ok, nmX2, rfl, rfl, rfl, rfl⟩ ha (Nat.le_of_ble_eq_true rfl) haA hS (fun H2 locs2 ha z2 o2 hS => ?_)
  have ha : cO G a 5 [.int (0), .ref b] H2 := ha
  have r1 := r1.kept (o2 _ (by omega))
  have oC : ∀ q : Nat, q < b → q ≠ a → H2[q]? = (wS x).heap[q]? := fun q h1 h2 => (o2 q h2).trans (oC q h1 h2)
  have zc : H2.size = b + 1 := z2.trans zc
  clear z2 o2
  refine k_aload_n (f := 0) (i := 0) hg hy (by decide +kernel) rfl rfl rfl ?_
  refine k_get (idx := 15) (ci := 5) (k := 1) (v := .inl (.ref b)) hg hy hwG (by decide +kernel) ⟨RX2, TX2, 2, rfl, by decide, (TBg_at 122 (by decide +kernel)), lay_X2⟩ ha rfl ?_
  refine k_iconst (z := 1) (v := (1 : Int32)) hg hy (by decide) (by decide +kernel) ?_
  show KW x _ _ _ _ 22 _ _
  refine k_stat (idx := 19) (z := kFI) (as := [.inl (.ref b), .inl (.int 1)]) hg hy hwG hl hG (n_FI (1 : Int32) (by decide)) rfl (by decide +kernel) ⟨(TBg_at 116 (by decide +kernel)), (TBg_at 117 (by decide +kernel)), (TBg_at 65 (by decide +kernel)), (TBg_at 118 (by decide +kernel)), by decide +kernel, by decide +kernel, by show _ = some 2; decide +kernel⟩ ⟨by decide, by decide⟩ (Nat.le_of_ble_eq_true rfl) (Nat.le_of_ble_eq_true rfl) (Nat.le_of_ble_eq_true rfl) hz hS ⟨r1, (show G.2.2.1 ≤ b by omega)⟩ (fun H2 locs2 hp hS => ?_)
  obtain ⟨z2, o2, r1⟩ := hp
  have ha := ha.kept (o2 _ (by omega))
  have oC : ∀ q : Nat, q < b → q ≠ a → H2[q]? = (wS x).heap[q]? := fun q h1 h2 => (o2 q (by omega)).trans (oC q h1 h2)
  have zc : H2.size = b + 1 := z2.trans zc
  subst hb
  show KW x _ _ _ _ 25 _ _
  exact k_ret hB (by decide +kernel) rfl hS (Nat.le_of_ble_eq_true rfl) (Nat.le_of_ble_eq_true rfl) ⟨zc, oC, ha, r1⟩
theorem n_X1 (a : Nat) : KC l G kX1 [.inl (.ref a)] (fun H => cO G a 4 [.int 0, .int 0, .int 0, .int 0, .int 0, .long 0, .int 0, .int 0, .int 0] H ∧ AA G a) (fun H H1 => H1.size = H.size ∧ (∀ q : Nat, q < H.size → q ≠ a → H1[q]? = H[q]?) ∧ AcC G a H.size H1) := by
  refine KC_of (by decide +kernel) (Nat.le_of_ble_eq_true rfl) (fun x hB hpre => ?_)
  obtain ⟨ha, haA⟩ := hpre
  obtain ⟨hg, hl, hy, hwG, hnm, hrt, hlk, hQ, hz⟩ := id hB
  have hS : va_S (AA G) (wS x).heap (wS x).heap [] := va_S.rf
  have hab : a < (wS x).heap.size := va_at.lt ha
  obtain ⟨b, zc⟩ : ∃ b, (wS x).heap.size = b := ⟨_, rfl⟩
  have hb := zc
  rw [zc] at hab
  have hzb : G.2.2.1 ≤ b := by rw [← zc]; exact hz
  have oC : ∀ q : Nat, q < b → q ≠ a → (wS x).heap[q]? = (wS x).heap[q]? := fun _ _ _ => rfl
  have ha : cO G a 4 [.int 0, .int 0, .int 0, .int 0, .int 0, .long 0, .int 0, .int 0, .int 0] (wS x).heap := ha
  refine k_aload_n (f := 0) (i := 0) hg hy (by decide +kernel) rfl rfl rfl ?_
  refine k_obj (idx := 3) hg hy (by decide +kernel) ⟨(TBg_at 135 (by decide +kernel)), (TBg_at 102 (by decide +kernel)), (TBg_at 103 (by decide +kernel))⟩ (Nat.le_of_ble_eq_true rfl) ?_
  refine k_aload_n (f := 0) (i := 0) hg hy (by decide +kernel) rfl rfl rfl ?_
  refine k_sipush (z := 2000) (v := (2000 : Int32)) hg hy (by decide) (by decide +kernel) ?_
  show KW x _ _ _ _ 8 _ _
  refine k_put (idx := 9) (ci := 4) (k := 0) (a := a) (fs := [.int 0, .int 0, .int 0, .int 0, .int 0, .long 0, .int 0, .int 0, .int 0]) hg hy hwG hnm (by decide +kernel) ⟨RX1, TX1, 9, tyX1, .int, rfl, by decide, (TBg_at 136 (by decide +kernel)), lay_X1, tyX1_ok, nmX1, rfl, rfl, rfl, rfl⟩ ha (Nat.le_of_ble_eq_true rfl) haA hS (fun H2 locs2 ha z2 o2 hS => ?_)
  have ha : cO G a 4 [.int (2000), .int 0, .int 0, .int 0, .int 0, .long 0, .int 0, .int 0, .int 0] H2 := ha
  have oC : ∀ q : Nat, q < b → q ≠ a → H2[q]? = (wS x).heap[q]? := fun q h1 h2 => (o2 q h2).trans (oC q h1 h2)
  have zc : H2.size = b := z2.trans zc
  clear z2 o2
  refine k_aload_n (f := 0) (i := 0) hg hy (by decide +kernel) rfl rfl rfl ?_
  refine k_iconst (z := 0) (v := (0 : Int32)) hg hy (by decide) (by decide +kernel) ?_
  show KW x _ _ _ _ 13 _ _
  refine k_put (idx := 15) (ci := 4) (k := 1) (a := a) (fs := [.int (2000), .int 0, .int 0, .int 0, .int 0, .long 0, .int 0, .int 0, .int 0]) hg hy hwG hnm (by decide +kernel) ⟨RX1, TX1, 9, tyX1, .int, rfl, by decide, (TBg_at 139 (by decide +kernel)), lay_X1, tyX1_ok, nmX1, rfl, rfl, rfl, rfl⟩ ha (Nat.le_of_ble_eq_true rfl) haA hS (fun H2 locs2 ha z2 o2 hS => ?_)
  have ha : cO G a 4 [.int (2000), .int (0), .int 0, .int 0, .int 0, .long 0, .int 0, .int 0, .int 0] H2 := ha
  have oC : ∀ q : Nat, q < b → q ≠ a → H2[q]? = (wS x).heap[q]? := fun q h1 h2 => (o2 q h2).trans (oC q h1 h2)
  have zc : H2.size = b := z2.trans zc
  clear z2 o2
  refine k_aload_n (f := 0) (i := 0) hg hy (by decide +kernel) rfl rfl rfl ?_
  refine k_iconst (z := 0) (v := (0 : Int32)) hg hy (by decide) (by decide +kernel) ?_
  show KW x _ _ _ _ 18 _ _
  refine k_put (idx := 18) (ci := 4) (k := 2) (a := a) (fs := [.int (2000), .int (0), .int 0, .int 0, .int 0, .long 0, .int 0, .int 0, .int 0]) hg hy hwG hnm (by decide +kernel) ⟨RX1, TX1, 9, tyX1, .int, rfl, by decide, (TBg_at 140 (by decide +kernel)), lay_X1, tyX1_ok, nmX1, rfl, rfl, rfl, rfl⟩ ha (Nat.le_of_ble_eq_true rfl) haA hS (fun H2 locs2 ha z2 o2 hS => ?_)
  have ha : cO G a 4 [.int (2000), .int (0), .int (0), .int 0, .int 0, .long 0, .int 0, .int 0, .int 0] H2 := ha
  have oC : ∀ q : Nat, q < b → q ≠ a → H2[q]? = (wS x).heap[q]? := fun q h1 h2 => (o2 q h2).trans (oC q h1 h2)
  have zc : H2.size = b := z2.trans zc
  clear z2 o2
  refine k_aload_n (f := 0) (i := 0) hg hy (by decide +kernel) rfl rfl rfl ?_
  refine k_iconst (z := 0) (v := (0 : Int32)) hg hy (by decide) (by decide +kernel) ?_
  show KW x _ _ _ _ 23 _ _
  refine k_put (idx := 21) (ci := 4) (k := 3) (a := a) (fs := [.int (2000), .int (0), .int (0), .int 0, .int 0, .long 0, .int 0, .int 0, .int 0]) hg hy hwG hnm (by decide +kernel) ⟨RX1, TX1, 9, tyX1, .int, rfl, by decide, (TBg_at 141 (by decide +kernel)), lay_X1, tyX1_ok, nmX1, rfl, rfl, rfl, rfl⟩ ha (Nat.le_of_ble_eq_true rfl) haA hS (fun H2 locs2 ha z2 o2 hS => ?_)
  have ha : cO G a 4 [.int (2000), .int (0), .int (0), .int (0), .int 0, .long 0, .int 0, .int 0, .int 0] H2 := ha
  have oC : ∀ q : Nat, q < b → q ≠ a → H2[q]? = (wS x).heap[q]? := fun q h1 h2 => (o2 q h2).trans (oC q h1 h2)
  have zc : H2.size = b := z2.trans zc
  clear z2 o2
  refine k_aload_n (f := 0) (i := 0) hg hy (by decide +kernel) rfl rfl rfl ?_
  refine k_iconst (z := 0) (v := (0 : Int32)) hg hy (by decide) (by decide +kernel) ?_
  show KW x _ _ _ _ 28 _ _
  refine k_put (idx := 24) (ci := 4) (k := 4) (a := a) (fs := [.int (2000), .int (0), .int (0), .int (0), .int 0, .long 0, .int 0, .int 0, .int 0]) hg hy hwG hnm (by decide +kernel) ⟨RX1, TX1, 9, tyX1, .int, rfl, by decide, (TBg_at 142 (by decide +kernel)), lay_X1, tyX1_ok, nmX1, rfl, rfl, rfl, rfl⟩ ha (Nat.le_of_ble_eq_true rfl) haA hS (fun H2 locs2 ha z2 o2 hS => ?_)
  have ha : cO G a 4 [.int (2000), .int (0), .int (0), .int (0), .int (0), .long 0, .int 0, .int 0, .int 0] H2 := ha
  have oC : ∀ q : Nat, q < b → q ≠ a → H2[q]? = (wS x).heap[q]? := fun q h1 h2 => (o2 q h2).trans (oC q h1 h2)
  have zc : H2.size = b := z2.trans zc
  clear z2 o2
  refine k_aload_n (f := 0) (i := 0) hg hy (by decide +kernel) rfl rfl rfl ?_
  refine k_lconst0 hg hy (by decide +kernel) ?_
  show KW x _ _ _ _ 33 _ _
  refine k_put (idx := 27) (ci := 4) (k := 5) (a := a) (fs := [.int (2000), .int (0), .int (0), .int (0), .int (0), .long 0, .int 0, .int 0, .int 0]) hg hy hwG hnm (by decide +kernel) ⟨RX1, TX1, 9, tyX1, .long, rfl, by decide, (TBg_at 143 (by decide +kernel)), lay_X1, tyX1_ok, nmX1, rfl, rfl, rfl, rfl⟩ ha (Nat.le_of_ble_eq_true rfl) haA hS (fun H2 locs2 ha z2 o2 hS => ?_)
  have ha : cO G a 4 [.int (2000), .int (0), .int (0), .int (0), .int (0), .long 0, .int 0, .int 0, .int 0] H2 := ha
  have oC : ∀ q : Nat, q < b → q ≠ a → H2[q]? = (wS x).heap[q]? := fun q h1 h2 => (o2 q h2).trans (oC q h1 h2)
  have zc : H2.size = b := z2.trans zc
  clear z2 o2
  refine k_aload_n (f := 0) (i := 0) hg hy (by decide +kernel) rfl rfl rfl ?_
  refine k_iconst (z := 0) (v := (0 : Int32)) hg hy (by decide) (by decide +kernel) ?_
  show KW x _ _ _ _ 38 _ _
  refine k_put (idx := 31) (ci := 4) (k := 6) (a := a) (fs := [.int (2000), .int (0), .int (0), .int (0), .int (0), .long 0, .int 0, .int 0, .int 0]) hg hy hwG hnm (by decide +kernel) ⟨RX1, TX1, 9, tyX1, .int, rfl, by decide, (TBg_at 145 (by decide +kernel)), lay_X1, tyX1_ok, nmX1, rfl, rfl, rfl, rfl⟩ ha (Nat.le_of_ble_eq_true rfl) haA hS (fun H2 locs2 ha z2 o2 hS => ?_)
  have ha : cO G a 4 [.int (2000), .int (0), .int (0), .int (0), .int (0), .long 0, .int (0), .int 0, .int 0] H2 := ha
  have oC : ∀ q : Nat, q < b → q ≠ a → H2[q]? = (wS x).heap[q]? := fun q h1 h2 => (o2 q h2).trans (oC q h1 h2)
  have zc : H2.size = b := z2.trans zc
  clear z2 o2
  refine k_aload_n (f := 0) (i := 0) hg hy (by decide +kernel) rfl rfl rfl ?_
  refine k_iconst (z := 0) (v := (0 : Int32)) hg hy (by decide) (by decide +kernel) ?_
  show KW x _ _ _ _ 43 _ _
  refine k_put (idx := 34) (ci := 4) (k := 7) (a := a) (fs := [.int (2000), .int (0), .int (0), .int (0), .int (0), .long 0, .int (0), .int 0, .int 0]) hg hy hwG hnm (by decide +kernel) ⟨RX1, TX1, 9, tyX1, .int, rfl, by decide, (TBg_at 147 (by decide +kernel)), lay_X1, tyX1_ok, nmX1, rfl, rfl, rfl, rfl⟩ ha (Nat.le_of_ble_eq_true rfl) haA hS (fun H2 locs2 ha z2 o2 hS => ?_)
  have ha : cO G a 4 [.int (2000), .int (0), .int (0), .int (0), .int (0), .long 0, .int (0), .int (0), .int 0] H2 := ha
  have oC : ∀ q : Nat, q < b → q ≠ a → H2[q]? = (wS x).heap[q]? := fun q h1 h2 => (o2 q h2).trans (oC q h1 h2)
  have zc : H2.size = b := z2.trans zc
  clear z2 o2
  refine k_aload_n (f := 0) (i := 0) hg hy (by decide +kernel) rfl rfl rfl ?_
  refine k_iconst (z := 0) (v := (0 : Int32)) hg hy (by decide) (by decide +kernel) ?_
  show KW x _ _ _ _ 48 _ _
  refine k_put (idx := 37) (ci := 4) (k := 8) (a := a) (fs := [.int (2000), .int (0), .int (0), .int (0), .int (0), .long 0, .int (0), .int (0), .int 0]) hg hy hwG hnm (by decide +kernel) ⟨RX1, TX1, 9, tyX1, .int, rfl, by decide, (TBg_at 150 (by decide +kernel)), lay_X1, tyX1_ok, nmX1, rfl, rfl, rfl, rfl⟩ ha (Nat.le_of_ble_eq_true rfl) haA hS (fun H2 locs2 ha z2 o2 hS => ?_)
  have ha : cO G a 4 [.int (2000), .int (0), .int (0), .int (0), .int (0), .long 0, .int (0), .int (0), .int (0)] H2 := ha
  have oC : ∀ q : Nat, q < b → q ≠ a → H2[q]? = (wS x).heap[q]? := fun q h1 h2 => (o2 q h2).trans (oC q h1 h2)
  have zc : H2.size = b := z2.trans zc
  clear z2 o2
  subst hb
  show KW x _ _ _ _ 51 _ _
  exact k_ret hB (by decide +kernel) rfl hS (Nat.le_of_ble_eq_true rfl) (Nat.le_of_ble_eq_true rfl) ⟨zc, oC, ha⟩
theorem n_X8 (a : Nat) : KC l G kX8 [.inl (.ref a)] (fun H => cO G a 10 [.null, .null, .int 0, .null, .null, .null] H ∧ AA G a) (fun H H1 => H1.size = H.size + 5 ∧ (∀ q : Nat, q < H.size → q ≠ a → H1[q]? = H[q]?) ∧ ReC G a H.size H1) := by
  refine KC_of (by decide +kernel) (Nat.le_of_ble_eq_true rfl) (fun x hB hpre => ?_)
  obtain ⟨ha, haA⟩ := hpre
  obtain ⟨hg, hl, hy, hwG, hnm, hrt, hlk, hQ, hz⟩ := id hB
  have hS : va_S (AA G) (wS x).heap (wS x).heap [] := va_S.rf
  have hab : a < (wS x).heap.size := va_at.lt ha
  obtain ⟨b, zc⟩ : ∃ b, (wS x).heap.size = b := ⟨_, rfl⟩
  have hb := zc
  rw [zc] at hab
  have hzb : G.2.2.1 ≤ b := by rw [← zc]; exact hz
  have oC : ∀ q : Nat, q < b → q ≠ a → (wS x).heap[q]? = (wS x).heap[q]? := fun _ _ _ => rfl
  have ha : cO G a 10 [.null, .null, .int 0, .null, .null, .null] (wS x).heap := ha
  refine k_aload_n (f := 0) (i := 0) hg hy (by decide +kernel) rfl rfl rfl ?_
  refine k_obj (idx := 3) hg hy (by decide +kernel) ⟨(TBg_at 276 (by decide +kernel)), (TBg_at 102 (by decide +kernel)), (TBg_at 103 (by decide +kernel))⟩ (Nat.le_of_ble_eq_true rfl) ?_
  refine k_aload_n (f := 0) (i := 0) hg hy (by decide +kernel) rfl rfl rfl ?_
  refine k_bipush (z := 10) (v := (10 : Int32)) hg hy (by decide) (by decide +kernel) ?_
  show KW x _ _ _ _ 7 _ _
  refine k_newa (atype := .int) (t := 0) (N := 10) (a0 := (10, .inl (fun _ => 0))) hg hy hwG (by decide +kernel) (TBg_at 129 (by decide +kernel)) rfl (fun _ => rfl) (by decide) (by decide) (Nat.le_of_ble_eq_true rfl) hS (Nat.le_of_ble_eq_true rfl) (Nat.le_of_ble_eq_true rfl) (fun H2 c2 z2 o2 hS => ?_)
  rw [zc] at c2 z2 o2 ⊢
  have ha := ha.kept (o2 _ (by omega))
  have oC : ∀ q : Nat, q < b → q ≠ a → H2[q]? = (wS x).heap[q]? := fun q h1 h2 => (o2 q (by omega)).trans (oC q h1 h2)
  have zc : H2.size = b + 1 := by omega
  have r1 : cI G 0 b 10 (fun _ => 0) H2 := c2
  clear c2 z2 o2
  show KW x _ _ _ _ 9 _ _
  refine k_put (idx := 9) (ci := 10) (k := 0) (a := a) (fs := [.null, .null, .int 0, .null, .null, .null]) hg hy hwG hnm (by decide +kernel) ⟨RX8, TX8, 6, tyX8, (.array .int), rfl, by decide, (TBg_at 277 (by decide +kernel)), lay_X8, tyX8_ok, nmX8, rfl, rfl, rfl, rfl⟩ ha (Nat.le_of_ble_eq_true rfl) haA hS (fun H2 locs2 ha z2 o2 hS => ?_)
  have ha : cO G a 10 [.ref b, .null, .int 0, .null, .null, .null] H2 := ha
  have r1 := r1.kept (o2 _ (by omega))
  have oC : ∀ q : Nat, q < b → q ≠ a → H2[q]? = (wS x).heap[q]? := fun q h1 h2 => (o2 q h2).trans (oC q h1 h2)
  have zc : H2.size = b + 1 := z2.trans zc
  clear z2 o2
  refine k_aload_n (f := 0) (i := 0) hg hy (by decide +kernel) rfl rfl rfl ?_
  refine k_bipush (z := 10) (v := (10 : Int32)) hg hy (by decide) (by decide +kernel) ?_
  show KW x _ _ _ _ 15 _ _
  refine k_newa (atype := .int) (t := 0) (N := 10) (a0 := (10, .inl (fun _ => 0))) hg hy hwG (by decide +kernel) (TBg_at 129 (by decide +kernel)) rfl (fun _ => rfl) (by decide) (by decide) (Nat.le_of_ble_eq_true rfl) hS (Nat.le_of_ble_eq_true rfl) (Nat.le_of_ble_eq_true rfl) (fun H2 c2 z2 o2 hS => ?_)
  rw [zc] at c2 z2 o2 ⊢
  have ha := ha.kept (o2 _ (by omega))
  have r1 := r1.kept (o2 _ (by omega))
  have oC : ∀ q : Nat, q < b → q ≠ a → H2[q]? = (wS x).heap[q]? := fun q h1 h2 => (o2 q (by omega)).trans (oC q h1 h2)
  have zc : H2.size = b + 2 := by omega
  have r2 : cI G 0 (b + 1) 10 (fun _ => 0) H2 := c2
  clear c2 z2 o2
  show KW x _ _ _ _ 17 _ _
  refine k_put (idx := 15) (ci := 10) (k := 1) (a := a) (fs := [.ref b, .null, .int 0, .null, .null, .null]) hg hy hwG hnm (by decide +kernel) ⟨RX8, TX8, 6, tyX8, (.array .int), rfl, by decide, (TBg_at 278 (by decide +kernel)), lay_X8, tyX8_ok, nmX8, rfl, rfl, rfl, rfl⟩ ha (Nat.le_of_ble_eq_true rfl) haA hS (fun H2 locs2 ha z2 o2 hS => ?_)
  have ha : cO G a 10 [.ref b, .ref (b + 1), .int 0, .null, .null, .null] H2 := ha
  have r1 := r1.kept (o2 _ (by omega))
  have r2 := r2.kept (o2 _ (by omega))
  have oC : ∀ q : Nat, q < b → q ≠ a → H2[q]? = (wS x).heap[q]? := fun q h1 h2 => (o2 q h2).trans (oC q h1 h2)
  have zc : H2.size = b + 2 := z2.trans zc
  clear z2 o2
  refine k_aload_n (f := 0) (i := 0) hg hy (by decide +kernel) rfl rfl rfl ?_
  refine k_iconst (z := 0) (v := (0 : Int32)) hg hy (by decide) (by decide +kernel) ?_
  show KW x _ _ _ _ 22 _ _
  refine k_put (idx := 18) (ci := 10) (k := 2) (a := a) (fs := [.ref b, .ref (b + 1), .int 0, .null, .null, .null]) hg hy hwG hnm (by decide +kernel) ⟨RX8, TX8, 6, tyX8, .int, rfl, by decide, (TBg_at 279 (by decide +kernel)), lay_X8, tyX8_ok, nmX8, rfl, rfl, rfl, rfl⟩ ha (Nat.le_of_ble_eq_true rfl) haA hS (fun H2 locs2 ha z2 o2 hS => ?_)
  have ha : cO G a 10 [.ref b, .ref (b + 1), .int (0), .null, .null, .null] H2 := ha
  have r1 := r1.kept (o2 _ (by omega))
  have r2 := r2.kept (o2 _ (by omega))
  have oC : ∀ q : Nat, q < b → q ≠ a → H2[q]? = (wS x).heap[q]? := fun q h1 h2 => (o2 q h2).trans (oC q h1 h2)
  have zc : H2.size = b + 2 := z2.trans zc
  clear z2 o2
  refine k_aload_n (f := 0) (i := 0) hg hy (by decide +kernel) rfl rfl rfl ?_
  refine k_sipush (z := 1024) (v := (1024 : Int32)) hg hy (by decide) (by decide +kernel) ?_
  show KW x _ _ _ _ 29 _ _
  refine k_newa (atype := .int) (t := 0) (N := 1024) (a0 := (1024, .inl (fun _ => 0))) hg hy hwG (by decide +kernel) (TBg_at 129 (by decide +kernel)) rfl (fun _ => rfl) (by decide) (by decide) (Nat.le_of_ble_eq_true rfl) hS (Nat.le_of_ble_eq_true rfl) (Nat.le_of_ble_eq_true rfl) (fun H2 c2 z2 o2 hS => ?_)
  rw [zc] at c2 z2 o2 ⊢
  have ha := ha.kept (o2 _ (by omega))
  have r1 := r1.kept (o2 _ (by omega))
  have r2 := r2.kept (o2 _ (by omega))
  have oC : ∀ q : Nat, q < b → q ≠ a → H2[q]? = (wS x).heap[q]? := fun q h1 h2 => (o2 q (by omega)).trans (oC q h1 h2)
  have zc : H2.size = b + 3 := by omega
  have r3 : cI G 0 (b + 2) 1024 (fun _ => 0) H2 := c2
  clear c2 z2 o2
  show KW x _ _ _ _ 31 _ _
  refine k_put (idx := 22) (ci := 10) (k := 3) (a := a) (fs := [.ref b, .ref (b + 1), .int (0), .null, .null, .null]) hg hy hwG hnm (by decide +kernel) ⟨RX8, TX8, 6, tyX8, (.array .int), rfl, by decide, (TBg_at 280 (by decide +kernel)), lay_X8, tyX8_ok, nmX8, rfl, rfl, rfl, rfl⟩ ha (Nat.le_of_ble_eq_true rfl) haA hS (fun H2 locs2 ha z2 o2 hS => ?_)
  have ha : cO G a 10 [.ref b, .ref (b + 1), .int (0), .ref (b + 2), .null, .null] H2 := ha
  have r1 := r1.kept (o2 _ (by omega))
  have r2 := r2.kept (o2 _ (by omega))
  have r3 := r3.kept (o2 _ (by omega))
  have oC : ∀ q : Nat, q < b → q ≠ a → H2[q]? = (wS x).heap[q]? := fun q h1 h2 => (o2 q h2).trans (oC q h1 h2)
  have zc : H2.size = b + 3 := z2.trans zc
  clear z2 o2
  refine k_aload_n (f := 0) (i := 0) hg hy (by decide +kernel) rfl rfl rfl ?_
  refine k_sipush (z := 1024) (v := (1024 : Int32)) hg hy (by decide) (by decide +kernel) ?_
  show KW x _ _ _ _ 38 _ _
  refine k_newa (atype := .int) (t := 0) (N := 1024) (a0 := (1024, .inl (fun _ => 0))) hg hy hwG (by decide +kernel) (TBg_at 129 (by decide +kernel)) rfl (fun _ => rfl) (by decide) (by decide) (Nat.le_of_ble_eq_true rfl) hS (Nat.le_of_ble_eq_true rfl) (Nat.le_of_ble_eq_true rfl) (fun H2 c2 z2 o2 hS => ?_)
  rw [zc] at c2 z2 o2 ⊢
  have ha := ha.kept (o2 _ (by omega))
  have r1 := r1.kept (o2 _ (by omega))
  have r2 := r2.kept (o2 _ (by omega))
  have r3 := r3.kept (o2 _ (by omega))
  have oC : ∀ q : Nat, q < b → q ≠ a → H2[q]? = (wS x).heap[q]? := fun q h1 h2 => (o2 q (by omega)).trans (oC q h1 h2)
  have zc : H2.size = b + 4 := by omega
  have r4 : cI G 0 (b + 3) 1024 (fun _ => 0) H2 := c2
  clear c2 z2 o2
  show KW x _ _ _ _ 40 _ _
  refine k_put (idx := 25) (ci := 10) (k := 4) (a := a) (fs := [.ref b, .ref (b + 1), .int (0), .ref (b + 2), .null, .null]) hg hy hwG hnm (by decide +kernel) ⟨RX8, TX8, 6, tyX8, (.array .int), rfl, by decide, (TBg_at 281 (by decide +kernel)), lay_X8, tyX8_ok, nmX8, rfl, rfl, rfl, rfl⟩ ha (Nat.le_of_ble_eq_true rfl) haA hS (fun H2 locs2 ha z2 o2 hS => ?_)
  have ha : cO G a 10 [.ref b, .ref (b + 1), .int (0), .ref (b + 2), .ref (b + 3), .null] H2 := ha
  have r1 := r1.kept (o2 _ (by omega))
  have r2 := r2.kept (o2 _ (by omega))
  have r3 := r3.kept (o2 _ (by omega))
  have r4 := r4.kept (o2 _ (by omega))
  have oC : ∀ q : Nat, q < b → q ≠ a → H2[q]? = (wS x).heap[q]? := fun q h1 h2 => (o2 q h2).trans (oC q h1 h2)
  have zc : H2.size = b + 4 := z2.trans zc
  clear z2 o2
  refine k_aload_n (f := 0) (i := 0) hg hy (by decide +kernel) rfl rfl rfl ?_
  refine k_sipush (z := 2401) (v := (2401 : Int32)) hg hy (by decide) (by decide +kernel) ?_
  show KW x _ _ _ _ 47 _ _
  refine k_newa (atype := .int) (t := 0) (N := 2401) (a0 := (2401, .inl (fun _ => 0))) hg hy hwG (by decide +kernel) (TBg_at 129 (by decide +kernel)) rfl (fun _ => rfl) (by decide) (by decide) (Nat.le_of_ble_eq_true rfl) hS (Nat.le_of_ble_eq_true rfl) (Nat.le_of_ble_eq_true rfl) (fun H2 c2 z2 o2 hS => ?_)
  rw [zc] at c2 z2 o2 ⊢
  have ha := ha.kept (o2 _ (by omega))
  have r1 := r1.kept (o2 _ (by omega))
  have r2 := r2.kept (o2 _ (by omega))
  have r3 := r3.kept (o2 _ (by omega))
  have r4 := r4.kept (o2 _ (by omega))
  have oC : ∀ q : Nat, q < b → q ≠ a → H2[q]? = (wS x).heap[q]? := fun q h1 h2 => (o2 q (by omega)).trans (oC q h1 h2)
  have zc : H2.size = b + 5 := by omega
  have r5 : cI G 0 (b + 4) 2401 (fun _ => 0) H2 := c2
  clear c2 z2 o2
  show KW x _ _ _ _ 49 _ _
  refine k_put (idx := 28) (ci := 10) (k := 5) (a := a) (fs := [.ref b, .ref (b + 1), .int (0), .ref (b + 2), .ref (b + 3), .null]) hg hy hwG hnm (by decide +kernel) ⟨RX8, TX8, 6, tyX8, (.array .int), rfl, by decide, (TBg_at 282 (by decide +kernel)), lay_X8, tyX8_ok, nmX8, rfl, rfl, rfl, rfl⟩ ha (Nat.le_of_ble_eq_true rfl) haA hS (fun H2 locs2 ha z2 o2 hS => ?_)
  have ha : cO G a 10 [.ref b, .ref (b + 1), .int (0), .ref (b + 2), .ref (b + 3), .ref (b + 4)] H2 := ha
  have r1 := r1.kept (o2 _ (by omega))
  have r2 := r2.kept (o2 _ (by omega))
  have r3 := r3.kept (o2 _ (by omega))
  have r4 := r4.kept (o2 _ (by omega))
  have r5 := r5.kept (o2 _ (by omega))
  have oC : ∀ q : Nat, q < b → q ≠ a → H2[q]? = (wS x).heap[q]? := fun q h1 h2 => (o2 q h2).trans (oC q h1 h2)
  have zc : H2.size = b + 5 := z2.trans zc
  clear z2 o2
  subst hb
  show KW x _ _ _ _ 52 _ _
  exact k_ret hB (by decide +kernel) rfl hS (Nat.le_of_ble_eq_true rfl) (Nat.le_of_ble_eq_true rfl) ⟨zc, oC, ⟨ha, r1, r2, r3, r4, r5⟩⟩
theorem n_X4 (hAr : ArF G) (a : Nat) : KC l G kX4 [.inl (.ref a)] (fun H => cO G a 6 [.null, .null, .null, .null, .int 0] H ∧ AA G a) (fun H H1 => H1.size = H.size + 36 ∧ (∀ q : Nat, q < H.size → q ≠ a → H1[q]? = H[q]?) ∧ EvC G a H.size H1) := by
  refine KC_of (by decide +kernel) (Nat.le_of_ble_eq_true rfl) (fun x hB hpre => ?_)
  obtain ⟨ha, haA⟩ := hpre
  obtain ⟨hg, hl, hy, hwG, hnm, hrt, hlk, hQ, hz⟩ := id hB
  have hS : va_S (AA G) (wS x).heap (wS x).heap [] := va_S.rf
  have hab : a < (wS x).heap.size := va_at.lt ha
  obtain ⟨b, zc⟩ : ∃ b, (wS x).heap.size = b := ⟨_, rfl⟩
  have hb := zc
  rw [zc] at hab
  have hzb : G.2.2.1 ≤ b := by rw [← zc]; exact hz
  have oC : ∀ q : Nat, q < b → q ≠ a → (wS x).heap[q]? = (wS x).heap[q]? := fun _ _ _ => rfl
  have ha : cO G a 6 [.null, .null, .null, .null, .int 0] (wS x).heap := ha
  refine k_aload_n (f := 0) (i := 0) hg hy (by decide +kernel) rfl rfl rfl ?_
  refine k_obj (idx := 3) hg hy (by decide +kernel) ⟨(TBg_at 301 (by decide +kernel)), (TBg_at 102 (by decide +kernel)), (TBg_at 103 (by decide +kernel))⟩ (Nat.le_of_ble_eq_true rfl) ?_
  refine k_aload_n (f := 0) (i := 0) hg hy (by decide +kernel) rfl rfl rfl ?_
  refine k_bipush (z := 10) (v := (10 : Int32)) hg hy (by decide) (by decide +kernel) ?_
  refine k_iconst (z := 5) (v := (5 : Int32)) hg hy (by decide) (by decide +kernel) ?_
  show KW x _ _ _ _ 8 _ _
  refine k_multi (idx := 9) (N := 10) (K := 5) hg hy hwG hAr (by decide +kernel) ⟨(TBg_at 302 (by decide +kernel)), by decide +kernel, (TBg_at 129 (by decide +kernel))⟩ ⟨by decide, by decide, by decide⟩ ⟨by decide, by decide, by decide⟩ hS (Nat.le_of_ble_eq_true rfl) (Nat.le_of_ble_eq_true rfl) (fun H2 c2 c3 z2 o2 hS => ?_)
  rw [zc] at c2 z2 o2 ⊢
  simp only [zc] at c3
  have ha := ha.kept (o2 _ (by omega))
  have oC : ∀ q : Nat, q < b → q ≠ a → H2[q]? = (wS x).heap[q]? := fun q h1 h2 => (o2 q (by omega)).trans (oC q h1 h2)
  have zc : H2.size = b + 11 := by omega
  have r1 : cQ G 7 b 10 (fun j => some (b + 1 + j)) H2 := c2
  have s1 : ∀ j, j < 10 → cI G 0 (b + 1 + j) 5 (fun _ => 0) H2 := c3
  clear c2 c3 z2 o2
  show KW x _ _ _ _ 12 _ _
  refine k_put (idx := 11) (ci := 6) (k := 0) (a := a) (fs := [.null, .null, .null, .null, .int 0]) hg hy hwG hnm (by decide +kernel) ⟨RX4, TX4, 5, tyX4, (.array (.array .int)), rfl, by decide, (TBg_at 304 (by decide +kernel)), lay_X4, tyX4_ok, nmX4, rfl, rfl, rfl, rfl⟩ ha (Nat.le_of_ble_eq_true rfl) haA hS (fun H2 locs2 ha z2 o2 hS => ?_)
  have ha : cO G a 6 [.ref b, .null, .null, .null, .int 0] H2 := ha
  have r1 := r1.kept (o2 _ (by omega))
  have s1 := fun j hj => (s1 j hj).kept (o2 _ (by omega))
  have oC : ∀ q : Nat, q < b → q ≠ a → H2[q]? = (wS x).heap[q]? := fun q h1 h2 => (o2 q h2).trans (oC q h1 h2)
  have zc : H2.size = b + 11 := z2.trans zc
  clear z2 o2
  refine k_aload_n (f := 0) (i := 0) hg hy (by decide +kernel) rfl rfl rfl ?_
  refine k_bipush (z := 11) (v := (11 : Int32)) hg hy (by decide) (by decide +kernel) ?_
  refine k_bipush (z := 32) (v := (32 : Int32)) hg hy (by decide) (by decide +kernel) ?_
  show KW x _ _ _ _ 20 _ _
  refine k_multi (idx := 9) (N := 11) (K := 32) hg hy hwG hAr (by decide +kernel) ⟨(TBg_at 302 (by decide +kernel)), by decide +kernel, (TBg_at 129 (by decide +kernel))⟩ ⟨by decide, by decide, by decide⟩ ⟨by decide, by decide, by decide⟩ hS (Nat.le_of_ble_eq_true rfl) (Nat.le_of_ble_eq_true rfl) (fun H2 c2 c3 z2 o2 hS => ?_)
  rw [zc] at c2 z2 o2 ⊢
  simp only [zc] at c3
  have ha := ha.kept (o2 _ (by omega))
  have r1 := r1.kept (o2 _ (by omega))
  have s1 := fun j hj => (s1 j hj).kept (o2 _ (by omega))
  have oC : ∀ q : Nat, q < b → q ≠ a → H2[q]? = (wS x).heap[q]? := fun q h1 h2 => (o2 q (by omega)).trans (oC q h1 h2)
  have zc : H2.size = b + 23 := by omega
  have r2 : cQ G 7 (b + 11) 11 (fun j => some (b + 11 + 1 + j)) H2 := c2
  have s2 : ∀ j, j < 11 → cI G 0 (b + 11 + 1 + j) 32 (fun _ => 0) H2 := c3
  clear c2 c3 z2 o2
  show KW x _ _ _ _ 24 _ _
  refine k_put (idx := 16) (ci := 6) (k := 1) (a := a) (fs := [.ref b, .null, .null, .null, .int 0]) hg hy hwG hnm (by decide +kernel) ⟨RX4, TX4, 5, tyX4, (.array (.array .int)), rfl, by decide, (TBg_at 305 (by decide +kernel)), lay_X4, tyX4_ok, nmX4, rfl, rfl, rfl, rfl⟩ ha (Nat.le_of_ble_eq_true rfl) haA hS (fun H2 locs2 ha z2 o2 hS => ?_)
  have ha : cO G a 6 [.ref b, .ref (b + 11), .null, .null, .int 0] H2 := ha
  have r1 := r1.kept (o2 _ (by omega))
  have s1 := fun j hj => (s1 j hj).kept (o2 _ (by omega))
  have r2 := r2.kept (o2 _ (by omega))
  have s2 := fun j hj => (s2 j hj).kept (o2 _ (by omega))
  have oC : ∀ q : Nat, q < b → q ≠ a → H2[q]? = (wS x).heap[q]? := fun q h1 h2 => (o2 q h2).trans (oC q h1 h2)
  have zc : H2.size = b + 23 := z2.trans zc
  clear z2 o2
  refine k_aload_n (f := 0) (i := 0) hg hy (by decide +kernel) rfl rfl rfl ?_
  refine k_bipush (z := 11) (v := (11 : Int32)) hg hy (by decide) (by decide +kernel) ?_
  refine k_iconst (z := 5) (v := (5 : Int32)) hg hy (by decide) (by decide +kernel) ?_
  show KW x _ _ _ _ 31 _ _
  refine k_multi (idx := 9) (N := 11) (K := 5) hg hy hwG hAr (by decide +kernel) ⟨(TBg_at 302 (by decide +kernel)), by decide +kernel, (TBg_at 129 (by decide +kernel))⟩ ⟨by decide, by decide, by decide⟩ ⟨by decide, by decide, by decide⟩ hS (Nat.le_of_ble_eq_true rfl) (Nat.le_of_ble_eq_true rfl) (fun H2 c2 c3 z2 o2 hS => ?_)
  rw [zc] at c2 z2 o2 ⊢
  simp only [zc] at c3
  have ha := ha.kept (o2 _ (by omega))
  have r1 := r1.kept (o2 _ (by omega))
  have s1 := fun j hj => (s1 j hj).kept (o2 _ (by omega))
  have r2 := r2.kept (o2 _ (by omega))
  have s2 := fun j hj => (s2 j hj).kept (o2 _ (by omega))
  have oC : ∀ q : Nat, q < b → q ≠ a → H2[q]? = (wS x).heap[q]? := fun q h1 h2 => (o2 q (by omega)).trans (oC q h1 h2)
  have zc : H2.size = b + 35 := by omega
  have r3 : cQ G 7 (b + 23) 11 (fun j => some (b + 23 + 1 + j)) H2 := c2
  have s3 : ∀ j, j < 11 → cI G 0 (b + 23 + 1 + j) 5 (fun _ => 0) H2 := c3
  clear c2 c3 z2 o2
  show KW x _ _ _ _ 35 _ _
  refine k_put (idx := 19) (ci := 6) (k := 2) (a := a) (fs := [.ref b, .ref (b + 11), .null, .null, .int 0]) hg hy hwG hnm (by decide +kernel) ⟨RX4, TX4, 5, tyX4, (.array (.array .int)), rfl, by decide, (TBg_at 306 (by decide +kernel)), lay_X4, tyX4_ok, nmX4, rfl, rfl, rfl, rfl⟩ ha (Nat.le_of_ble_eq_true rfl) haA hS (fun H2 locs2 ha z2 o2 hS => ?_)
  have ha : cO G a 6 [.ref b, .ref (b + 11), .ref (b + 23), .null, .int 0] H2 := ha
  have r1 := r1.kept (o2 _ (by omega))
  have s1 := fun j hj => (s1 j hj).kept (o2 _ (by omega))
  have r2 := r2.kept (o2 _ (by omega))
  have s2 := fun j hj => (s2 j hj).kept (o2 _ (by omega))
  have r3 := r3.kept (o2 _ (by omega))
  have s3 := fun j hj => (s3 j hj).kept (o2 _ (by omega))
  have oC : ∀ q : Nat, q < b → q ≠ a → H2[q]? = (wS x).heap[q]? := fun q h1 h2 => (o2 q h2).trans (oC q h1 h2)
  have zc : H2.size = b + 35 := z2.trans zc
  clear z2 o2
  refine k_aload_n (f := 0) (i := 0) hg hy (by decide +kernel) rfl rfl rfl ?_
  refine k_bipush (z := 10) (v := (10 : Int32)) hg hy (by decide) (by decide +kernel) ?_
  show KW x _ _ _ _ 41 _ _
  refine k_newa (atype := .int) (t := 0) (N := 10) (a0 := (10, .inl (fun _ => 0))) hg hy hwG (by decide +kernel) (TBg_at 129 (by decide +kernel)) rfl (fun _ => rfl) (by decide) (by decide) (Nat.le_of_ble_eq_true rfl) hS (Nat.le_of_ble_eq_true rfl) (Nat.le_of_ble_eq_true rfl) (fun H2 c2 z2 o2 hS => ?_)
  rw [zc] at c2 z2 o2 ⊢
  have ha := ha.kept (o2 _ (by omega))
  have r1 := r1.kept (o2 _ (by omega))
  have s1 := fun j hj => (s1 j hj).kept (o2 _ (by omega))
  have r2 := r2.kept (o2 _ (by omega))
  have s2 := fun j hj => (s2 j hj).kept (o2 _ (by omega))
  have r3 := r3.kept (o2 _ (by omega))
  have s3 := fun j hj => (s3 j hj).kept (o2 _ (by omega))
  have oC : ∀ q : Nat, q < b → q ≠ a → H2[q]? = (wS x).heap[q]? := fun q h1 h2 => (o2 q (by omega)).trans (oC q h1 h2)
  have zc : H2.size = b + 36 := by omega
  have r4 : cI G 0 (b + 35) 10 (fun _ => 0) H2 := c2
  clear c2 z2 o2
  show KW x _ _ _ _ 43 _ _
  refine k_put (idx := 22) (ci := 6) (k := 3) (a := a) (fs := [.ref b, .ref (b + 11), .ref (b + 23), .null, .int 0]) hg hy hwG hnm (by decide +kernel) ⟨RX4, TX4, 5, tyX4, (.array .int), rfl, by decide, (TBg_at 307 (by decide +kernel)), lay_X4, tyX4_ok, nmX4, rfl, rfl, rfl, rfl⟩ ha (Nat.le_of_ble_eq_true rfl) haA hS (fun H2 locs2 ha z2 o2 hS => ?_)
  have ha : cO G a 6 [.ref b, .ref (b + 11), .ref (b + 23), .ref (b + 35), .int 0] H2 := ha
  have r1 := r1.kept (o2 _ (by omega))
  have s1 := fun j hj => (s1 j hj).kept (o2 _ (by omega))
  have r2 := r2.kept (o2 _ (by omega))
  have s2 := fun j hj => (s2 j hj).kept (o2 _ (by omega))
  have r3 := r3.kept (o2 _ (by omega))
  have s3 := fun j hj => (s3 j hj).kept (o2 _ (by omega))
  have r4 := r4.kept (o2 _ (by omega))
  have oC : ∀ q : Nat, q < b → q ≠ a → H2[q]? = (wS x).heap[q]? := fun q h1 h2 => (o2 q h2).trans (oC q h1 h2)
  have zc : H2.size = b + 36 := z2.trans zc
  clear z2 o2
  refine k_aload_n (f := 0) (i := 0) hg hy (by decide +kernel) rfl rfl rfl ?_
  refine k_iconst (z := 0) (v := (0 : Int32)) hg hy (by decide) (by decide +kernel) ?_
  show KW x _ _ _ _ 48 _ _
  refine k_put (idx := 26) (ci := 6) (k := 4) (a := a) (fs := [.ref b, .ref (b + 11), .ref (b + 23), .ref (b + 35), .int 0]) hg hy hwG hnm (by decide +kernel) ⟨RX4, TX4, 5, tyX4, .int, rfl, by decide, (TBg_at 308 (by decide +kernel)), lay_X4, tyX4_ok, nmX4, rfl, rfl, rfl, rfl⟩ ha (Nat.le_of_ble_eq_true rfl) haA hS (fun H2 locs2 ha z2 o2 hS => ?_)
  have ha : cO G a 6 [.ref b, .ref (b + 11), .ref (b + 23), .ref (b + 35), .int (0)] H2 := ha
  have r1 := r1.kept (o2 _ (by omega))
  have s1 := fun j hj => (s1 j hj).kept (o2 _ (by omega))
  have r2 := r2.kept (o2 _ (by omega))
  have s2 := fun j hj => (s2 j hj).kept (o2 _ (by omega))
  have r3 := r3.kept (o2 _ (by omega))
  have s3 := fun j hj => (s3 j hj).kept (o2 _ (by omega))
  have r4 := r4.kept (o2 _ (by omega))
  have oC : ∀ q : Nat, q < b → q ≠ a → H2[q]? = (wS x).heap[q]? := fun q h1 h2 => (o2 q h2).trans (oC q h1 h2)
  have zc : H2.size = b + 36 := z2.trans zc
  clear z2 o2
  subst hb
  show KW x _ _ _ _ 51 _ _
  exact k_ret hB (by decide +kernel) rfl hS (Nat.le_of_ble_eq_true rfl) (Nat.le_of_ble_eq_true rfl) ⟨zc, oC, ⟨ha, ⟨r1, s1⟩, ⟨r2, s2⟩, ⟨r3, s3⟩, r4⟩⟩
theorem n_X7 (hAr : ArF G) (a : Nat) : KC l G kX7 [.inl (.ref a)] (fun H => cO G a 9 [.null, .int 0, .null, .null, .int 0, .int 0] H ∧ AA G a) (fun H H1 => H1.size = H.size + 12 ∧ (∀ q : Nat, q < H.size → q ≠ a → H1[q]? = H[q]?) ∧ PrC G a H.size H1) := by
  refine KC_of (by decide +kernel) (Nat.le_of_ble_eq_true rfl) (fun x hB hpre => ?_)
  obtain ⟨ha, haA⟩ := hpre
  obtain ⟨hg, hl, hy, hwG, hnm, hrt, hlk, hQ, hz⟩ := id hB
  have hS : va_S (AA G) (wS x).heap (wS x).heap [] := va_S.rf
  have hab : a < (wS x).heap.size := va_at.lt ha
  obtain ⟨b, zc⟩ : ∃ b, (wS x).heap.size = b := ⟨_, rfl⟩
  have hb := zc
  rw [zc] at hab
  have hzb : G.2.2.1 ≤ b := by rw [← zc]; exact hz
  have oC : ∀ q : Nat, q < b → q ≠ a → (wS x).heap[q]? = (wS x).heap[q]? := fun _ _ _ => rfl
  have ha : cO G a 9 [.null, .int 0, .null, .null, .int 0, .int 0] (wS x).heap := ha
  refine k_aload_n (f := 0) (i := 0) hg hy (by decide +kernel) rfl rfl rfl ?_
  refine k_obj (idx := 3) hg hy (by decide +kernel) ⟨(TBg_at 325 (by decide +kernel)), (TBg_at 102 (by decide +kernel)), (TBg_at 103 (by decide +kernel))⟩ (Nat.le_of_ble_eq_true rfl) ?_
  refine k_aload_n (f := 0) (i := 0) hg hy (by decide +kernel) rfl rfl rfl ?_
  refine k_bipush (z := 60) (v := (60 : Int32)) hg hy (by decide) (by decide +kernel) ?_
  show KW x _ _ _ _ 7 _ _
  refine k_newa (atype := .char) (t := 1) (N := 60) (a0 := (60, .inl (fun _ => 0))) hg hy hwG (by decide +kernel) (TBg_at 353 (by decide +kernel)) rfl (fun _ => rfl) (by decide) (by decide) (Nat.le_of_ble_eq_true rfl) hS (Nat.le_of_ble_eq_true rfl) (Nat.le_of_ble_eq_true rfl) (fun H2 c2 z2 o2 hS => ?_)
  rw [zc] at c2 z2 o2 ⊢
  have ha := ha.kept (o2 _ (by omega))
  have oC : ∀ q : Nat, q < b → q ≠ a → H2[q]? = (wS x).heap[q]? := fun q h1 h2 => (o2 q (by omega)).trans (oC q h1 h2)
  have zc : H2.size = b + 1 := by omega
  have r1 : cI G 1 b 60 (fun _ => 0) H2 := c2
  clear c2 z2 o2
  show KW x _ _ _ _ 9 _ _
  refine k_put (idx := 9) (ci := 9) (k := 0) (a := a) (fs := [.null, .int 0, .null, .null, .int 0, .int 0]) hg hy hwG hnm (by decide +kernel) ⟨RX7, TX7, 6, tyX7, (.array .char), rfl, by decide, (TBg_at 329 (by decide +kernel)), lay_X7, tyX7_ok, nmX7, rfl, rfl, rfl, rfl⟩ ha (Nat.le_of_ble_eq_true rfl) haA hS (fun H2 locs2 ha z2 o2 hS => ?_)
  have ha : cO G a 9 [.ref b, .int 0, .null, .null, .int 0, .int 0] H2 := ha
  have r1 := r1.kept (o2 _ (by omega))
  have oC : ∀ q : Nat, q < b → q ≠ a → H2[q]? = (wS x).heap[q]? := fun q h1 h2 => (o2 q h2).trans (oC q h1 h2)
  have zc : H2.size = b + 1 := z2.trans zc
  clear z2 o2
  refine k_aload_n (f := 0) (i := 0) hg hy (by decide +kernel) rfl rfl rfl ?_
  refine k_iconst (z := 0) (v := (0 : Int32)) hg hy (by decide) (by decide +kernel) ?_
  show KW x _ _ _ _ 14 _ _
  refine k_put (idx := 15) (ci := 9) (k := 1) (a := a) (fs := [.ref b, .int 0, .null, .null, .int 0, .int 0]) hg hy hwG hnm (by decide +kernel) ⟨RX7, TX7, 6, tyX7, .int, rfl, by decide, (TBg_at 330 (by decide +kernel)), lay_X7, tyX7_ok, nmX7, rfl, rfl, rfl, rfl⟩ ha (Nat.le_of_ble_eq_true rfl) haA hS (fun H2 locs2 ha z2 o2 hS => ?_)
  have ha : cO G a 9 [.ref b, .int (0), .null, .null, .int 0, .int 0] H2 := ha
  have r1 := r1.kept (o2 _ (by omega))
  have oC : ∀ q : Nat, q < b → q ≠ a → H2[q]? = (wS x).heap[q]? := fun q h1 h2 => (o2 q h2).trans (oC q h1 h2)
  have zc : H2.size = b + 1 := z2.trans zc
  clear z2 o2
  refine k_aload_n (f := 0) (i := 0) hg hy (by decide +kernel) rfl rfl rfl ?_
  refine k_bipush (z := 9) (v := (9 : Int32)) hg hy (by decide) (by decide +kernel) ?_
  show KW x _ _ _ _ 20 _ _
  refine k_anew (idx := 19) (t := 5) (N := 9) hg hy hwG hAr (by decide +kernel) ⟨(TBg_at 326 (by decide +kernel)), by decide +kernel⟩ rfl ⟨by decide, by decide, by decide⟩ hS (Nat.le_of_ble_eq_true rfl) (Nat.le_of_ble_eq_true rfl) (fun H2 c2 z2 o2 hS => ?_)
  rw [zc] at c2 z2 o2 ⊢
  have ha := ha.kept (o2 _ (by omega))
  have r1 := r1.kept (o2 _ (by omega))
  have oC : ∀ q : Nat, q < b → q ≠ a → H2[q]? = (wS x).heap[q]? := fun q h1 h2 => (o2 q (by omega)).trans (oC q h1 h2)
  have zc : H2.size = b + 2 := by omega
  have r2 : cQ G 5 (b + 1) 9 (fun _ => none) H2 := c2
  clear c2 z2 o2
  show KW x _ _ _ _ 23 _ _
  refine k_put (idx := 21) (ci := 9) (k := 2) (a := a) (fs := [.ref b, .int (0), .null, .null, .int 0, .int 0]) hg hy hwG hnm (by decide +kernel) ⟨RX7, TX7, 6, tyX7, (.array (.object "MinutePawnshop$Command")), rfl, by decide, (TBg_at 332 (by decide +kernel)), lay_X7, tyX7_ok, nmX7, rfl, rfl, rfl, rfl⟩ ha (Nat.le_of_ble_eq_true rfl) haA hS (fun H2 locs2 ha z2 o2 hS => ?_)
  have ha : cO G a 9 [.ref b, .int (0), .ref (b + 1), .null, .int 0, .int 0] H2 := ha
  have r1 := r1.kept (o2 _ (by omega))
  have r2 := r2.kept (o2 _ (by omega))
  have oC : ∀ q : Nat, q < b → q ≠ a → H2[q]? = (wS x).heap[q]? := fun q h1 h2 => (o2 q h2).trans (oC q h1 h2)
  have zc : H2.size = b + 2 := z2.trans zc
  clear z2 o2
  refine k_aload_n (f := 0) (i := 0) hg hy (by decide +kernel) rfl rfl rfl ?_
  refine k_bipush (z := 9) (v := (9 : Int32)) hg hy (by decide) (by decide +kernel) ?_
  refine k_iconst (z := 3) (v := (3 : Int32)) hg hy (by decide) (by decide +kernel) ?_
  show KW x _ _ _ _ 30 _ _
  refine k_multi (idx := 25) (N := 9) (K := 3) hg hy hwG hAr (by decide +kernel) ⟨(TBg_at 328 (by decide +kernel)), by decide +kernel, (TBg_at 129 (by decide +kernel))⟩ ⟨by decide, by decide, by decide⟩ ⟨by decide, by decide, by decide⟩ hS (Nat.le_of_ble_eq_true rfl) (Nat.le_of_ble_eq_true rfl) (fun H2 c2 c3 z2 o2 hS => ?_)
  rw [zc] at c2 z2 o2 ⊢
  simp only [zc] at c3
  have ha := ha.kept (o2 _ (by omega))
  have r1 := r1.kept (o2 _ (by omega))
  have r2 := r2.kept (o2 _ (by omega))
  have oC : ∀ q : Nat, q < b → q ≠ a → H2[q]? = (wS x).heap[q]? := fun q h1 h2 => (o2 q (by omega)).trans (oC q h1 h2)
  have zc : H2.size = b + 12 := by omega
  have r3 : cQ G 7 (b + 2) 9 (fun j => some (b + 2 + 1 + j)) H2 := c2
  have s3 : ∀ j, j < 9 → cI G 0 (b + 2 + 1 + j) 3 (fun _ => 0) H2 := c3
  clear c2 c3 z2 o2
  show KW x _ _ _ _ 34 _ _
  refine k_put (idx := 27) (ci := 9) (k := 3) (a := a) (fs := [.ref b, .int (0), .ref (b + 1), .null, .int 0, .int 0]) hg hy hwG hnm (by decide +kernel) ⟨RX7, TX7, 6, tyX7, (.array (.array .int)), rfl, by decide, (TBg_at 334 (by decide +kernel)), lay_X7, tyX7_ok, nmX7, rfl, rfl, rfl, rfl⟩ ha (Nat.le_of_ble_eq_true rfl) haA hS (fun H2 locs2 ha z2 o2 hS => ?_)
  have ha : cO G a 9 [.ref b, .int (0), .ref (b + 1), .ref (b + 2), .int 0, .int 0] H2 := ha
  have r1 := r1.kept (o2 _ (by omega))
  have r2 := r2.kept (o2 _ (by omega))
  have r3 := r3.kept (o2 _ (by omega))
  have s3 := fun j hj => (s3 j hj).kept (o2 _ (by omega))
  have oC : ∀ q : Nat, q < b → q ≠ a → H2[q]? = (wS x).heap[q]? := fun q h1 h2 => (o2 q h2).trans (oC q h1 h2)
  have zc : H2.size = b + 12 := z2.trans zc
  clear z2 o2
  refine k_aload_n (f := 0) (i := 0) hg hy (by decide +kernel) rfl rfl rfl ?_
  refine k_iconst (z := 0) (v := (0 : Int32)) hg hy (by decide) (by decide +kernel) ?_
  show KW x _ _ _ _ 39 _ _
  refine k_put (idx := 30) (ci := 9) (k := 4) (a := a) (fs := [.ref b, .int (0), .ref (b + 1), .ref (b + 2), .int 0, .int 0]) hg hy hwG hnm (by decide +kernel) ⟨RX7, TX7, 6, tyX7, .int, rfl, by decide, (TBg_at 336 (by decide +kernel)), lay_X7, tyX7_ok, nmX7, rfl, rfl, rfl, rfl⟩ ha (Nat.le_of_ble_eq_true rfl) haA hS (fun H2 locs2 ha z2 o2 hS => ?_)
  have ha : cO G a 9 [.ref b, .int (0), .ref (b + 1), .ref (b + 2), .int (0), .int 0] H2 := ha
  have r1 := r1.kept (o2 _ (by omega))
  have r2 := r2.kept (o2 _ (by omega))
  have r3 := r3.kept (o2 _ (by omega))
  have s3 := fun j hj => (s3 j hj).kept (o2 _ (by omega))
  have oC : ∀ q : Nat, q < b → q ≠ a → H2[q]? = (wS x).heap[q]? := fun q h1 h2 => (o2 q h2).trans (oC q h1 h2)
  have zc : H2.size = b + 12 := z2.trans zc
  clear z2 o2
  refine k_aload_n (f := 0) (i := 0) hg hy (by decide +kernel) rfl rfl rfl ?_
  refine k_iconst (z := 0) (v := (0 : Int32)) hg hy (by decide) (by decide +kernel) ?_
  show KW x _ _ _ _ 44 _ _
  refine k_put (idx := 33) (ci := 9) (k := 5) (a := a) (fs := [.ref b, .int (0), .ref (b + 1), .ref (b + 2), .int (0), .int 0]) hg hy hwG hnm (by decide +kernel) ⟨RX7, TX7, 6, tyX7, .int, rfl, by decide, (TBg_at 338 (by decide +kernel)), lay_X7, tyX7_ok, nmX7, rfl, rfl, rfl, rfl⟩ ha (Nat.le_of_ble_eq_true rfl) haA hS (fun H2 locs2 ha z2 o2 hS => ?_)
  have ha : cO G a 9 [.ref b, .int (0), .ref (b + 1), .ref (b + 2), .int (0), .int (0)] H2 := ha
  have r1 := r1.kept (o2 _ (by omega))
  have r2 := r2.kept (o2 _ (by omega))
  have r3 := r3.kept (o2 _ (by omega))
  have s3 := fun j hj => (s3 j hj).kept (o2 _ (by omega))
  have oC : ∀ q : Nat, q < b → q ≠ a → H2[q]? = (wS x).heap[q]? := fun q h1 h2 => (o2 q h2).trans (oC q h1 h2)
  have zc : H2.size = b + 12 := z2.trans zc
  clear z2 o2
  subst hb
  show KW x _ _ _ _ 47 _ _
  exact k_ret hB (by decide +kernel) rfl hS (Nat.le_of_ble_eq_true rfl) (Nat.le_of_ble_eq_true rfl) ⟨zc, oC, ⟨ha, r1, r2, r3, s3⟩⟩
end CN
