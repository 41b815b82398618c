/-! ===== the constructors: shops, the past, the slip, the owner, the reference ===== -/
section CN
variable {l : Launch} {G : GG}
set_option maxHeartbeats 8000000 in
theorem n_X9 (hG : Gok G) (hNs : NsF G) (hAr : ArF G) (a : Nat) : KC l G kX9 [.inl (.ref a)] (fun H => cO G a 11 [.null, .null, .int 0, .int 0, .null, .int 0] H ∧ AA G a) (fun H H1 => H1.size = H.size + 24 ∧ (∀ q : Nat, q < H.size → q ≠ a → H1[q]? = H[q]?) ∧ ShC G a H.size H1) := by
  refine KC_of (by decide +kernel) (Nat.le_of_ble_eq_true rfl) (fun x hB hpre => ?_)
  obtain ⟨ha, haA⟩ := hpre
  obtain ⟨hg, hl, hy, hwG, hnm, hrt, hlk, hQ, hz⟩ := id hB
  have hS : va_S (AA G) (wS x).heap (wS x).heap [] := va_S.rf
  have hab : a < (wS x).heap.size := va_at.lt ha
  obtain ⟨b, zc⟩ : ∃ b, (wS x).heap.size = b := ⟨_, rfl⟩
  have hb := zc
  rw [zc] at hab
  have hzb : G.2.2.1 ≤ b := by rw [← zc]; exact hz
  have oC : ∀ q : Nat, q < b → q ≠ a → (wS x).heap[q]? = (wS x).heap[q]? := fun _ _ _ => rfl
  have ha : cO G a 11 [.null, .null, .int 0, .int 0, .null, .int 0] (wS x).heap := ha
  have loop : ∀ m i H locs al, i + m = 10 → cO G a 11 [.ref b, .ref (b + 2), .int (2), .int (0), .ref (b + 3), .int (0)] H → CaC G b (b + 1) H → AcC G (b + 2) (b + 3) H → cQ G 4 (b + 3) 10 (fun j => if j < i then some (b + 4 + 2 * j) else none) H → (∀ j, j < i → ItC G (b + 4 + 2 * j) (b + 5 + 2 * j) H) → H.size = b + 4 + 2 * i → (∀ q : Nat, q < b → q ≠ a → H[q]? = (wS x).heap[q]?) → va_S (AA G) (wS x).heap H locs → (∀ z ∈ ([(0, .inl (.ref a)), (1, aI (nI i))] : Al), lk al z.1 = some z.2) → KW x H locs (4 + 2 * i) (28 + 13 * i) 52 al [] := by
    intro m
    induction m with
    | zero =>
      intro i H locs al hi ha w1 w2 r3 hF zc oC hS hal
      have hi : i = 10 := by omega
      subst hi
      refine KW.sub ?_ hal
      refine k_iload_n (f := 1) (i := 1) hg hy (by decide +kernel) rfl rfl ?_
      refine k_bipush (z := 10) (v := (10 : Int32)) hg hy (by decide) (by decide +kernel) ?_
      refine k_icmp_ge (off := 22) (tgt := 77) hg hy (by decide +kernel) (by decide) (fun _ => ?_) (fun q => absurd (by decide) q)
      subst hb
      exact k_ret hB (by decide +kernel) rfl hS (Nat.le_of_ble_eq_true rfl) (Nat.le_of_ble_eq_true rfl) ⟨zc, oC, ⟨ha, w1, w2, r3.congr (fun j hj => by rw [if_pos hj]), fun j hj => hF j hj⟩⟩
    | succ m ih =>
      intro i H locs al hi ha w1 w2 r3 hF zc oC hS hal
      refine KW.sub ?_ hal
      refine k_iload_n (f := 1) (i := 1) hg hy (by decide +kernel) rfl rfl ?_
      refine k_bipush (z := 10) (v := nI 10) hg hy (by decide) (by decide +kernel) ?_
      refine k_icmp_ge (off := 22) (tgt := 77) hg hy (by decide +kernel) (by decide) (fun q => absurd q (fun q2 => absurd ((nI_leI (by omega) (by omega)).mp q2) (by omega))) (fun _ => ?_)
      refine k_aload_n (f := 0) (i := 0) hg hy (by decide +kernel) rfl rfl rfl ?_
      refine k_get (idx := 34) (ci := 11) (k := 4) (v := .inl (.ref (b + 3))) hg hy hwG (by decide +kernel) ⟨RX9, TX9, 6, rfl, by decide, (TBg_at 232 (by decide +kernel)), lay_X9⟩ ha rfl ?_
      refine k_iload_n (f := 1) (i := 1) hg hy (by decide +kernel) rfl rfl ?_
      show KW x _ _ _ _ 63 _ _
      refine k_new (idx := 32) (ci := 8) (N := 8) (fs := [.int 0, .int 0, .int 0, .int 0, .int 0, .int 0, .int 0, .null]) hg hy hwG (by decide +kernel) ⟨RX6, TX6, tyX6, rfl, (TBg_at 171 (by decide +kernel)), (TBg_at 173 (by decide +kernel)), (TBg_at 67 (by decide +kernel)), lay_X6, tyX6_ok, fun j hj => by rcases (by omega : j = 0 ∨ j = 1 ∨ j = 2 ∨ j = 3 ∨ j = 4 ∨ j = 5 ∨ j = 6 ∨ j = 7) with rfl | rfl | rfl | rfl | rfl | rfl | rfl | rfl <;> rfl⟩ hS (show 4 + 2 * i + 1 ≤ 24 by omega) (show 28 + 13 * i + 8 ≤ 158 by omega) (fun H2 c2 z2 o2 hS => ?_)
      rw [zc] at c2 z2 o2 ⊢
      have ha := ha.kept (o2 _ (by omega))
      have w1 := w1.kept (o2 _ (by omega)) (fun q h1 h2 => o2 q (by omega))
      have w2 := w2.kept (o2 _ (by omega)) (fun q h1 h2 => o2 q (by omega))
      have r3 := r3.kept (o2 _ (by omega))
      have hF := fun j (hj : j < i) => (hF j hj).kept (o2 _ (by omega)) (fun q h1 h2 => o2 q (by omega))
      have oC : ∀ q : Nat, q < b → q ≠ a → H2[q]? = (wS x).heap[q]? := fun q h1 h2 => (o2 q (by omega)).trans (oC q h1 h2)
      have zc : H2.size = b + 5 + 2 * i := by omega
      clear z2 o2
      refine k_dup hg hy rfl (by decide +kernel) ?_
      show KW x _ _ _ _ 67 _ _
      refine k_initN (idx := 41) (z := kX6) hg hy hwG hl hG hNs (n_X6 (b + 4 + 2 * i)) (by decide +kernel) ⟨by decide +kernel, (TBg_at 67 (by decide +kernel)), (TBg_at 175 (by decide +kernel)), (TBg_at 176 (by decide +kernel)), rfl, by decide +kernel, by decide +kernel, rfl, by decide +kernel⟩ ⟨by decide, by decide⟩ (Nat.le_of_ble_eq_true rfl) (show 4 + 2 * i + 1 + 1 ≤ 24 by omega) (show 28 + 13 * i + 8 + 5 ≤ 158 by omega) hz hS ⟨c2, (show G.2.2.1 ≤ (b + 4 + 2 * i) by omega)⟩ (fun H2 locs2 hp hS => ?_)
      clear c2
      obtain ⟨z2, o2, c2⟩ := hp
      rw [zc] at z2 o2 c2
      have ha := ha.kept (o2 _ (by omega) (by omega))
      have w1 := w1.kept (o2 _ (by omega) (by omega)) (fun q h1 h2 => o2 q (by omega) (by omega))
      have w2 := w2.kept (o2 _ (by omega) (by omega)) (fun q h1 h2 => o2 q (by omega) (by omega))
      have r3 := r3.kept (o2 _ (by omega) (by omega))
      have hF := fun j (hj : j < i) => (hF j hj).kept (o2 _ (by omega) (by omega)) (fun q h1 h2 => o2 q (by omega) (by omega))
      have oC : ∀ q : Nat, q < b → q ≠ a → H2[q]? = (wS x).heap[q]? := fun q h1 h2 => (o2 q (by omega) (by omega)).trans (oC q h1 h2)
      have zc : H2.size = b + 4 + 2 * (i + 1) := by omega
      clear z2 o2
      show KW x _ _ _ _ 70 _ _
      refine k_aast (t := 4) (ci := 8) (rr := (RX6, TX6, 8)) hg hy hwG (by decide +kernel) r3 rfl c2.1 rfl (vpL (show i < 10 by omega) (by omega) ▸ trivial) (show G.2.2.1 ≤ (b + 3) by omega) hS (fun H2 locs2 c3 z2 o2 hS => ?_)
      rw [ixL (show i < 2147483648 by omega)] at c3
      have ha := ha.kept (o2 _ (by omega))
      have w1 := w1.kept (o2 _ (by omega)) (fun q h1 h2 => o2 q (by omega))
      have w2 := w2.kept (o2 _ (by omega)) (fun q h1 h2 => o2 q (by omega))
      have hF := fun j (hj : j < i) => (hF j hj).kept (o2 _ (by omega)) (fun q h1 h2 => o2 q (by omega))
      have c2 := c2.kept (o2 _ (by omega)) (fun q h1 h2 => o2 q (by omega))
      have oC : ∀ q : Nat, q < b → q ≠ a → H2[q]? = (wS x).heap[q]? := fun q h1 h2 => (o2 q (by omega)).trans (oC q h1 h2)
      have zc := z2.trans zc
      clear z2 o2
      refine k_iinc (i := 1) (z := 1) (w := nI 1) hg hy (by decide +kernel) (by decide) rfl (by decide) ?_
      refine k_goto (off := -22) (tgt := 52) hg hy (by decide +kernel) (by decide) ?_
      rw [nI_add]
      refine k_nm (n' := 4 + 2 * (i + 1)) (m0' := 28 + 13 * (i + 1)) (by show 4 + 2 * i + 1 + 1 = _; omega) (by show 28 + 13 * i + 8 + 5 = _; omega) ?_
      refine ih (i + 1) H2 locs2 _ (by omega) ha w1 w2 (c3.congr (fun j hj => ?_)) (fun j hj => ?_) zc oC hS (List.forall_mem_cons.mpr ⟨rfl, List.forall_mem_cons.mpr ⟨rfl, fun _ h => absurd h List.not_mem_nil⟩⟩)
      · unfold va_up
        by_cases e : j = i
        · subst e; rw [if_pos rfl, if_pos (by omega)]
        · rw [if_neg e]
          show (if j < i then some (b + 4 + 2 * j) else none) = if j < i + 1 then some (b + 4 + 2 * j) else none
          by_cases e2 : j < i
          · rw [if_pos e2, if_pos (by omega)]
          · rw [if_neg e2, if_neg (by omega)]
      · by_cases e : j = i
        · subst e; exact c2
        · exact hF j (by omega)
  refine k_aload_n (f := 0) (i := 0) hg hy (by decide +kernel) rfl rfl rfl ?_
  refine k_obj (idx := 3) hg hy (by decide +kernel) ⟨(TBg_at 109 (by decide +kernel)), (TBg_at 102 (by decide +kernel)), (TBg_at 103 (by decide +kernel))⟩ (Nat.le_of_ble_eq_true rfl) ?_
  refine k_aload_n (f := 0) (i := 0) hg hy (by decide +kernel) rfl rfl rfl ?_
  show KW x _ _ _ _ 5 _ _
  refine k_new (idx := 9) (ci := 5) (N := 2) (fs := [.int 0, .null]) hg hy hwG (by decide +kernel) ⟨RX2, TX2, tyX2, rfl, (TBg_at 110 (by decide +kernel)), (TBg_at 111 (by decide +kernel)), (TBg_at 64 (by decide +kernel)), lay_X2, tyX2_ok, fun j hj => by rcases (by omega : j = 0 ∨ j = 1) with rfl | rfl <;> rfl⟩ hS (Nat.le_of_ble_eq_true rfl) (Nat.le_of_ble_eq_true rfl) (fun H2 c2 z2 o2 hS => ?_)
  rw [zc] at c2 z2 o2 ⊢
  have ha := ha.kept (o2 _ (by omega))
  have oC : ∀ q : Nat, q < b → q ≠ a → H2[q]? = (wS x).heap[q]? := fun q h1 h2 => (o2 q (by omega)).trans (oC q h1 h2)
  have zc : H2.size = b + 1 := by omega
  have w1 : cO G b 5 [.int 0, .null] H2 := c2
  clear c2 z2 o2
  refine k_dup hg hy rfl (by decide +kernel) ?_
  show KW x _ _ _ _ 9 _ _
  refine k_init (idx := 11) (z := kX2) (as := []) hg hy hwG hl hG (n_X2 hG b) rfl (by decide +kernel) ⟨(TBg_at 112 (by decide +kernel)), (TBg_at 64 (by decide +kernel)), (TBg_at 113 (by decide +kernel)), (TBg_at 114 (by decide +kernel)), rfl, by decide +kernel, by decide +kernel, rfl, by decide +kernel⟩ ⟨by decide, by decide⟩ (Nat.le_of_ble_eq_true rfl) (Nat.le_of_ble_eq_true rfl) (Nat.le_of_ble_eq_true rfl) hz hS ⟨w1, (show G.2.2.1 ≤ b by omega)⟩ (fun H2 locs2 hp hS => ?_)
  obtain ⟨z2, o2, c2⟩ := hp
  rw [zc] at z2 o2 c2
  have ha := ha.kept (o2 _ (by omega) (by omega))
  have oC : ∀ q : Nat, q < b → q ≠ a → H2[q]? = (wS x).heap[q]? := fun q h1 h2 => (o2 q (by omega) (by omega)).trans (oC q h1 h2)
  have zc : H2.size = b + 2 := by omega
  have w1 : CaC G b (b + 1) H2 := c2
  clear c2 z2 o2
  show KW x _ _ _ _ 12 _ _
  refine k_put (idx := 12) (ci := 11) (k := 0) (a := a) (fs := [.null, .null, .int 0, .int 0, .null, .int 0]) hg hy hwG hnm (by decide +kernel) ⟨RX9, TX9, 6, tyX9, (.object "MinutePawnshop$Calendar"), rfl, by decide, (TBg_at 225 (by decide +kernel)), lay_X9, tyX9_ok, nmX9, rfl, rfl, rfl, rfl⟩ ha (Nat.le_of_ble_eq_true rfl) haA hS (fun H2 locs2 ha z2 o2 hS => ?_)
  have ha : cO G a 11 [.ref b, .null, .int 0, .int 0, .null, .int 0] H2 := ha
  have w1 := w1.kept (o2 _ (by omega)) (fun q h1 h2 => o2 q (by omega))
  have oC : ∀ q : Nat, q < b → q ≠ a → H2[q]? = (wS x).heap[q]? := fun q h1 h2 => (o2 q h2).trans (oC q h1 h2)
  have zc : H2.size = b + 2 := z2.trans zc
  clear z2 o2
  refine k_aload_n (f := 0) (i := 0) hg hy (by decide +kernel) rfl rfl rfl ?_
  show KW x _ _ _ _ 16 _ _
  refine k_new (idx := 18) (ci := 4) (N := 9) (fs := [.int 0, .int 0, .int 0, .int 0, .int 0, .long 0, .int 0, .int 0, .int 0]) hg hy hwG (by decide +kernel) ⟨RX1, TX1, tyX1, rfl, (TBg_at 130 (by decide +kernel)), (TBg_at 131 (by decide +kernel)), (TBg_at 66 (by decide +kernel)), lay_X1, tyX1_ok, fun j hj => by rcases (by omega : j = 0 ∨ j = 1 ∨ j = 2 ∨ j = 3 ∨ j = 4 ∨ j = 5 ∨ j = 6 ∨ j = 7 ∨ j = 8) with rfl | rfl | rfl | rfl | rfl | rfl | rfl | rfl | rfl <;> rfl⟩ hS (Nat.le_of_ble_eq_true rfl) (Nat.le_of_ble_eq_true rfl) (fun H2 c2 z2 o2 hS => ?_)
  rw [zc] at c2 z2 o2 ⊢
  have ha := ha.kept (o2 _ (by omega))
  have w1 := w1.kept (o2 _ (by omega)) (fun q h1 h2 => o2 q (by omega))
  have oC : ∀ q : Nat, q < b → q ≠ a → H2[q]? = (wS x).heap[q]? := fun q h1 h2 => (o2 q (by omega)).trans (oC q h1 h2)
  have zc : H2.size = b + 3 := by omega
  have w2 : cO G (b + 2) 4 [.int 0, .int 0, .int 0, .int 0, .int 0, .long 0, .int 0, .int 0, .int 0] H2 := c2
  clear c2 z2 o2
  refine k_dup hg hy rfl (by decide +kernel) ?_
  show KW x _ _ _ _ 20 _ _
  refine k_initN (idx := 20) (z := kX1) hg hy hwG hl hG hNs (n_X1 (b + 2)) (by decide +kernel) ⟨by decide +kernel, (TBg_at 66 (by decide +kernel)), (TBg_at 133 (by decide +kernel)), (TBg_at 134 (by decide +kernel)), rfl, by decide +kernel, by decide +kernel, rfl, by decide +kernel⟩ ⟨by decide, by decide⟩ (Nat.le_of_ble_eq_true rfl) (Nat.le_of_ble_eq_true rfl) (Nat.le_of_ble_eq_true rfl) hz hS ⟨w2, (show G.2.2.1 ≤ (b + 2) by omega)⟩ (fun H2 locs2 hp hS => ?_)
  obtain ⟨z2, o2, c2⟩ := hp
  rw [zc] at z2 o2 c2
  have w1 := w1.kept (o2 _ (by omega) (by omega)) (fun q h1 h2 => o2 q (by omega) (by omega))
  have ha := ha.kept (o2 _ (by omega) (by omega))
  have oC : ∀ q : Nat, q < b → q ≠ a → H2[q]? = (wS x).heap[q]? := fun q h1 h2 => (o2 q (by omega) (by omega)).trans (oC q h1 h2)
  have zc : H2.size = b + 3 := by omega
  have w2 : AcC G (b + 2) (b + 3) H2 := c2
  clear c2 z2 o2
  show KW x _ _ _ _ 23 _ _
  refine k_put (idx := 21) (ci := 11) (k := 1) (a := a) (fs := [.ref b, .null, .int 0, .int 0, .null, .int 0]) hg hy hwG hnm (by decide +kernel) ⟨RX9, TX9, 6, tyX9, (.object "MinutePawnshop$Accounts"), rfl, by decide, (TBg_at 227 (by decide +kernel)), lay_X9, tyX9_ok, nmX9, rfl, rfl, rfl, rfl⟩ ha (Nat.le_of_ble_eq_true rfl) haA hS (fun H2 locs2 ha z2 o2 hS => ?_)
  have ha : cO G a 11 [.ref b, .ref (b + 2), .int 0, .int 0, .null, .int 0] H2 := ha
  have w1 := w1.kept (o2 _ (by omega)) (fun q h1 h2 => o2 q (by omega))
  have w2 := w2.kept (o2 _ (by omega)) (fun q h1 h2 => o2 q (by omega))
  have oC : ∀ q : Nat, q < b → q ≠ a → H2[q]? = (wS x).heap[q]? := fun q h1 h2 => (o2 q h2).trans (oC q h1 h2)
  have zc : H2.size = b + 3 := z2.trans zc
  clear z2 o2
  refine k_aload_n (f := 0) (i := 0) hg hy (by decide +kernel) rfl rfl rfl ?_
  refine k_iconst (z := 2) (v := (2 : Int32)) hg hy (by decide) (by decide +kernel) ?_
  show KW x _ _ _ _ 28 _ _
  refine k_put (idx := 25) (ci := 11) (k := 2) (a := a) (fs := [.ref b, .ref (b + 2), .int 0, .int 0, .null, .int 0]) hg hy hwG hnm (by decide +kernel) ⟨RX9, TX9, 6, tyX9, .int, rfl, by decide, (TBg_at 229 (by decide +kernel)), lay_X9, tyX9_ok, nmX9, rfl, rfl, rfl, rfl⟩ ha (Nat.le_of_ble_eq_true rfl) haA hS (fun H2 locs2 ha z2 o2 hS => ?_)
  have ha : cO G a 11 [.ref b, .ref (b + 2), .int (2), .int 0, .null, .int 0] H2 := ha
  have w1 := w1.kept (o2 _ (by omega)) (fun q h1 h2 => o2 q (by omega))
  have w2 := w2.kept (o2 _ (by omega)) (fun q h1 h2 => o2 q (by omega))
  have oC : ∀ q : Nat, q < b → q ≠ a → H2[q]? = (wS x).heap[q]? := fun q h1 h2 => (o2 q h2).trans (oC q h1 h2)
  have zc : H2.size = b + 3 := z2.trans zc
  clear z2 o2
  refine k_aload_n (f := 0) (i := 0) hg hy (by decide +kernel) rfl rfl rfl ?_
  refine k_iconst (z := 0) (v := (0 : Int32)) hg hy (by decide) (by decide +kernel) ?_
  show KW x _ _ _ _ 33 _ _
  refine k_put (idx := 29) (ci := 11) (k := 3) (a := a) (fs := [.ref b, .ref (b + 2), .int (2), .int 0, .null, .int 0]) hg hy hwG hnm (by decide +kernel) ⟨RX9, TX9, 6, tyX9, .int, rfl, by decide, (TBg_at 231 (by decide +kernel)), lay_X9, tyX9_ok, nmX9, rfl, rfl, rfl, rfl⟩ ha (Nat.le_of_ble_eq_true rfl) haA hS (fun H2 locs2 ha z2 o2 hS => ?_)
  have ha : cO G a 11 [.ref b, .ref (b + 2), .int (2), .int (0), .null, .int 0] H2 := ha
  have w1 := w1.kept (o2 _ (by omega)) (fun q h1 h2 => o2 q (by omega))
  have w2 := w2.kept (o2 _ (by omega)) (fun q h1 h2 => o2 q (by omega))
  have oC : ∀ q : Nat, q < b → q ≠ a → H2[q]? = (wS x).heap[q]? := fun q h1 h2 => (o2 q h2).trans (oC q h1 h2)
  have zc : H2.size = b + 3 := z2.trans zc
  clear z2 o2
  refine k_aload_n (f := 0) (i := 0) hg hy (by decide +kernel) rfl rfl rfl ?_
  refine k_bipush (z := 10) (v := (10 : Int32)) hg hy (by decide) (by decide +kernel) ?_
  show KW x _ _ _ _ 39 _ _
  refine k_anew (idx := 32) (t := 4) (N := 10) hg hy hwG hAr (by decide +kernel) ⟨(TBg_at 171 (by decide +kernel)), by decide +kernel⟩ rfl ⟨by decide, by decide, by decide⟩ hS (Nat.le_of_ble_eq_true rfl) (Nat.le_of_ble_eq_true rfl) (fun H2 c2 z2 o2 hS => ?_)
  rw [zc] at c2 z2 o2 ⊢
  have ha := ha.kept (o2 _ (by omega))
  have w1 := w1.kept (o2 _ (by omega)) (fun q h1 h2 => o2 q (by omega))
  have w2 := w2.kept (o2 _ (by omega)) (fun q h1 h2 => o2 q (by omega))
  have oC : ∀ q : Nat, q < b → q ≠ a → H2[q]? = (wS x).heap[q]? := fun q h1 h2 => (o2 q (by omega)).trans (oC q h1 h2)
  have zc : H2.size = b + 4 := by omega
  have r3 : cQ G 4 (b + 3) 10 (fun _ => none) H2 := c2
  clear c2 z2 o2
  show KW x _ _ _ _ 42 _ _
  refine k_put (idx := 34) (ci := 11) (k := 4) (a := a) (fs := [.ref b, .ref (b + 2), .int (2), .int (0), .null, .int 0]) hg hy hwG hnm (by decide +kernel) ⟨RX9, TX9, 6, tyX9, (.array (.object "MinutePawnshop$Item")), rfl, by decide, (TBg_at 232 (by decide +kernel)), lay_X9, tyX9_ok, nmX9, rfl, rfl, rfl, rfl⟩ ha (Nat.le_of_ble_eq_true rfl) haA hS (fun H2 locs2 ha z2 o2 hS => ?_)
  have ha : cO G a 11 [.ref b, .ref (b + 2), .int (2), .int (0), .ref (b + 3), .int 0] H2 := ha
  have w1 := w1.kept (o2 _ (by omega)) (fun q h1 h2 => o2 q (by omega))
  have w2 := w2.kept (o2 _ (by omega)) (fun q h1 h2 => o2 q (by omega))
  have r3 := r3.kept (o2 _ (by omega))
  have oC : ∀ q : Nat, q < b → q ≠ a → H2[q]? = (wS x).heap[q]? := fun q h1 h2 => (o2 q h2).trans (oC q h1 h2)
  have zc : H2.size = b + 4 := z2.trans zc
  clear z2 o2
  refine k_aload_n (f := 0) (i := 0) hg hy (by decide +kernel) rfl rfl rfl ?_
  refine k_iconst (z := 0) (v := (0 : Int32)) hg hy (by decide) (by decide +kernel) ?_
  show KW x _ _ _ _ 47 _ _
  refine k_put (idx := 38) (ci := 11) (k := 5) (a := a) (fs := [.ref b, .ref (b + 2), .int (2), .int (0), .ref (b + 3), .int 0]) hg hy hwG hnm (by decide +kernel) ⟨RX9, TX9, 6, tyX9, .int, rfl, by decide, (TBg_at 235 (by decide +kernel)), lay_X9, tyX9_ok, nmX9, rfl, rfl, rfl, rfl⟩ ha (Nat.le_of_ble_eq_true rfl) haA hS (fun H2 locs2 ha z2 o2 hS => ?_)
  have ha : cO G a 11 [.ref b, .ref (b + 2), .int (2), .int (0), .ref (b + 3), .int (0)] H2 := ha
  have w1 := w1.kept (o2 _ (by omega)) (fun q h1 h2 => o2 q (by omega))
  have w2 := w2.kept (o2 _ (by omega)) (fun q h1 h2 => o2 q (by omega))
  have r3 := r3.kept (o2 _ (by omega))
  have oC : ∀ q : Nat, q < b → q ≠ a → H2[q]? = (wS x).heap[q]? := fun q h1 h2 => (o2 q h2).trans (oC q h1 h2)
  have zc : H2.size = b + 4 := z2.trans zc
  clear z2 o2
  refine k_iconst (z := 0) (v := (0 : Int32)) hg hy (by decide) (by decide +kernel) ?_
  refine k_istore_n (f := 1) (i := 1) hg hy (by decide +kernel) rfl (by decide) ?_
  show KW x _ _ _ _ 52 _ _
  exact loop 10 0 _ _ _ (Nat.zero_add 10) ha w1 w2 (r3.congr (fun j hj => by rw [if_neg (Nat.not_lt_zero j)])) (fun j hj => absurd hj (Nat.not_lt_zero j)) zc oC hS (List.forall_mem_cons.mpr ⟨rfl, List.forall_mem_cons.mpr ⟨rfl, fun _ h => absurd h List.not_mem_nil⟩⟩)
set_option maxHeartbeats 8000000 in
theorem n_X5 (hG : Gok G) (hNs : NsF G) (hAr : ArF G) (a : Nat) : KC l G kX5 [.inl (.ref a)] (fun H => cO G a 7 [.null, .int 0, .int 0] H ∧ AA G a) (fun H H1 => H1.size = H.size + 226 ∧ (∀ q : Nat, q < H.size → q ≠ a → H1[q]? = H[q]?) ∧ HiC G a H.size H1) := by
  refine KC_of (by decide +kernel) (Nat.le_of_ble_eq_true rfl) (fun x hB hpre => ?_)
  obtain ⟨ha, haA⟩ := hpre
  obtain ⟨hg, hl, hy, hwG, hnm, hrt, hlk, hQ, hz⟩ := id hB
  have hS : va_S (AA G) (wS x).heap (wS x).heap [] := va_S.rf
  have hab : a < (wS x).heap.size := va_at.lt ha
  obtain ⟨b, zc⟩ : ∃ b, (wS x).heap.size = b := ⟨_, rfl⟩
  have hb := zc
  rw [zc] at hab
  have hzb : G.2.2.1 ≤ b := by rw [← zc]; exact hz
  have oC : ∀ q : Nat, q < b → q ≠ a → (wS x).heap[q]? = (wS x).heap[q]? := fun _ _ _ => rfl
  have ha : cO G a 7 [.null, .int 0, .int 0] (wS x).heap := ha
  have loop : ∀ m i H locs al, i + m = 9 → cO G a 7 [.ref b, .int (0), .int (0)] H → cQ G 6 b 9 (fun j => if j < i then some (b + 1 + 25 * j) else none) H → (∀ j, j < i → ShC G (b + 1 + 25 * j) (b + 2 + 25 * j) H) → H.size = b + 1 + 25 * i → (∀ q : Nat, q < b → q ≠ a → H[q]? = (wS x).heap[q]?) → va_S (AA G) (wS x).heap H locs → (∀ z ∈ ([(0, .inl (.ref a)), (1, aI (nI i))] : Al), lk al z.1 = some z.2) → KW x H locs (1 + 25 * i) (9 + 164 * i) 25 al [] := by
    intro m
    induction m with
    | zero =>
      intro i H locs al hi ha r1 hF zc oC hS hal
      have hi : i = 9 := by omega
      subst hi
      refine KW.sub ?_ hal
      refine k_iload_n (f := 1) (i := 1) hg hy (by decide +kernel) rfl rfl ?_
      refine k_bipush (z := 9) (v := (9 : Int32)) hg hy (by decide) (by decide +kernel) ?_
      refine k_icmp_ge (off := 22) (tgt := 50) hg hy (by decide +kernel) (by decide) (fun _ => ?_) (fun q => absurd (by decide) q)
      subst hb
      exact k_ret hB (by decide +kernel) rfl hS (Nat.le_of_ble_eq_true rfl) (Nat.le_of_ble_eq_true rfl) ⟨zc, oC, ⟨ha, r1.congr (fun j hj => by rw [if_pos hj]), fun j hj => hF j hj⟩⟩
    | succ m ih =>
      intro i H locs al hi ha r1 hF zc oC hS hal
      refine KW.sub ?_ hal
      refine k_iload_n (f := 1) (i := 1) hg hy (by decide +kernel) rfl rfl ?_
      refine k_bipush (z := 9) (v := nI 9) hg hy (by decide) (by decide +kernel) ?_
      refine k_icmp_ge (off := 22) (tgt := 50) hg hy (by decide +kernel) (by decide) (fun q => absurd q (fun q2 => absurd ((nI_leI (by omega) (by omega)).mp q2) (by omega))) (fun _ => ?_)
      refine k_aload_n (f := 0) (i := 0) hg hy (by decide +kernel) rfl rfl rfl ?_
      refine k_get (idx := 13) (ci := 7) (k := 0) (v := .inl (.ref b)) hg hy hwG (by decide +kernel) ⟨RX5, TX5, 3, rfl, by decide, (TBg_at 260 (by decide +kernel)), lay_X5⟩ ha rfl ?_
      refine k_iload_n (f := 1) (i := 1) hg hy (by decide +kernel) rfl rfl ?_
      show KW x _ _ _ _ 36 _ _
      refine k_new (idx := 11) (ci := 11) (N := 6) (fs := [.null, .null, .int 0, .int 0, .null, .int 0]) hg hy hwG (by decide +kernel) ⟨RX9, TX9, tyX9, rfl, (TBg_at 257 (by decide +kernel)), (TBg_at 105 (by decide +kernel)), (TBg_at 63 (by decide +kernel)), lay_X9, tyX9_ok, fun j hj => by rcases (by omega : j = 0 ∨ j = 1 ∨ j = 2 ∨ j = 3 ∨ j = 4 ∨ j = 5) with rfl | rfl | rfl | rfl | rfl | rfl <;> rfl⟩ hS (show 1 + 25 * i + 1 ≤ 226 by omega) (show 9 + 164 * i + 6 ≤ 1485 by omega) (fun H2 c2 z2 o2 hS => ?_)
      rw [zc] at c2 z2 o2 ⊢
      have ha := ha.kept (o2 _ (by omega))
      have r1 := r1.kept (o2 _ (by omega))
      have hF := fun j (hj : j < i) => (hF j hj).kept (o2 _ (by omega)) (fun q h1 h2 => o2 q (by omega))
      have oC : ∀ q : Nat, q < b → q ≠ a → H2[q]? = (wS x).heap[q]? := fun q h1 h2 => (o2 q (by omega)).trans (oC q h1 h2)
      have zc : H2.size = b + 2 + 25 * i := by omega
      clear z2 o2
      refine k_dup hg hy rfl (by decide +kernel) ?_
      show KW x _ _ _ _ 40 _ _
      refine k_init (idx := 24) (z := kX9) (as := []) hg hy hwG hl hG (n_X9 hG hNs hAr (b + 1 + 25 * i)) rfl (by decide +kernel) ⟨(TBg_at 259 (by decide +kernel)), (TBg_at 63 (by decide +kernel)), (TBg_at 107 (by decide +kernel)), (TBg_at 108 (by decide +kernel)), rfl, by decide +kernel, by decide +kernel, rfl, by decide +kernel⟩ ⟨by decide, by decide⟩ (Nat.le_of_ble_eq_true rfl) (show 1 + 25 * i + 1 + 24 ≤ 226 by omega) (show 9 + 164 * i + 6 + 158 ≤ 1485 by omega) hz hS ⟨c2, (show G.2.2.1 ≤ (b + 1 + 25 * i) by omega)⟩ (fun H2 locs2 hp hS => ?_)
      clear c2
      obtain ⟨z2, o2, c2⟩ := hp
      rw [zc] at z2 o2 c2
      have ha := ha.kept (o2 _ (by omega) (by omega))
      have r1 := r1.kept (o2 _ (by omega) (by omega))
      have hF := fun j (hj : j < i) => (hF j hj).kept (o2 _ (by omega) (by omega)) (fun q h1 h2 => o2 q (by omega) (by omega))
      have oC : ∀ q : Nat, q < b → q ≠ a → H2[q]? = (wS x).heap[q]? := fun q h1 h2 => (o2 q (by omega) (by omega)).trans (oC q h1 h2)
      have zc : H2.size = b + 1 + 25 * (i + 1) := by omega
      clear z2 o2
      show KW x _ _ _ _ 43 _ _
      refine k_aast (t := 6) (ci := 11) (rr := (RX9, TX9, 6)) hg hy hwG (by decide +kernel) r1 rfl c2.1 rfl (vpL (show i < 9 by omega) (by omega) ▸ trivial) (show G.2.2.1 ≤ b by omega) hS (fun H2 locs2 c3 z2 o2 hS => ?_)
      rw [ixL (show i < 2147483648 by omega)] at c3
      have ha := ha.kept (o2 _ (by omega))
      have hF := fun j (hj : j < i) => (hF j hj).kept (o2 _ (by omega)) (fun q h1 h2 => o2 q (by omega))
      have c2 := c2.kept (o2 _ (by omega)) (fun q h1 h2 => o2 q (by omega))
      have oC : ∀ q : Nat, q < b → q ≠ a → H2[q]? = (wS x).heap[q]? := fun q h1 h2 => (o2 q (by omega)).trans (oC q h1 h2)
      have zc := z2.trans zc
      clear z2 o2
      refine k_iinc (i := 1) (z := 1) (w := nI 1) hg hy (by decide +kernel) (by decide) rfl (by decide) ?_
      refine k_goto (off := -22) (tgt := 25) hg hy (by decide +kernel) (by decide) ?_
      rw [nI_add]
      refine k_nm (n' := 1 + 25 * (i + 1)) (m0' := 9 + 164 * (i + 1)) (by show 1 + 25 * i + 1 + 24 = _; omega) (by show 9 + 164 * i + 6 + 158 = _; omega) ?_
      refine ih (i + 1) H2 locs2 _ (by omega) ha  (c3.congr (fun j hj => ?_)) (fun j hj => ?_) zc oC hS (List.forall_mem_cons.mpr ⟨rfl, List.forall_mem_cons.mpr ⟨rfl, fun _ h => absurd h List.not_mem_nil⟩⟩)
      · unfold va_up
        by_cases e : j = i
        · subst e; rw [if_pos rfl, if_pos (by omega)]
        · rw [if_neg e]
          show (if j < i then some (b + 1 + 25 * j) else none) = if j < i + 1 then some (b + 1 + 25 * j) else none
          by_cases e2 : j < i
          · rw [if_pos e2, if_pos (by omega)]
          · rw [if_neg e2, if_neg (by omega)]
      · by_cases e : j = i
        · subst e; exact c2
        · exact hF j (by omega)
  refine k_aload_n (f := 0) (i := 0) hg hy (by decide +kernel) rfl rfl rfl ?_
  refine k_obj (idx := 3) hg hy (by decide +kernel) ⟨(TBg_at 256 (by decide +kernel)), (TBg_at 102 (by decide +kernel)), (TBg_at 103 (by decide +kernel))⟩ (Nat.le_of_ble_eq_true rfl) ?_
  refine k_aload_n (f := 0) (i := 0) hg hy (by decide +kernel) rfl rfl rfl ?_
  refine k_bipush (z := 9) (v := (9 : Int32)) hg hy (by decide) (by decide +kernel) ?_
  show KW x _ _ _ _ 7 _ _
  refine k_anew (idx := 11) (t := 6) (N := 9) hg hy hwG hAr (by decide +kernel) ⟨(TBg_at 257 (by decide +kernel)), by decide +kernel⟩ rfl ⟨by decide, by decide, by decide⟩ hS (Nat.le_of_ble_eq_true rfl) (Nat.le_of_ble_eq_true rfl) (fun H2 c2 z2 o2 hS => ?_)
  rw [zc] at c2 z2 o2 ⊢
  have ha := ha.kept (o2 _ (by omega))
  have oC : ∀ q : Nat, q < b → q ≠ a → H2[q]? = (wS x).heap[q]? := fun q h1 h2 => (o2 q (by omega)).trans (oC q h1 h2)
  have zc : H2.size = b + 1 := by omega
  have r1 : cQ G 6 b 9 (fun _ => none) H2 := c2
  clear c2 z2 o2
  show KW x _ _ _ _ 10 _ _
  refine k_put (idx := 13) (ci := 7) (k := 0) (a := a) (fs := [.null, .int 0, .int 0]) hg hy hwG hnm (by decide +kernel) ⟨RX5, TX5, 3, tyX5, (.array (.object "MinutePawnshop$Shop")), rfl, by decide, (TBg_at 260 (by decide +kernel)), lay_X5, tyX5_ok, nmX5, rfl, rfl, rfl, rfl⟩ ha (Nat.le_of_ble_eq_true rfl) haA hS (fun H2 locs2 ha z2 o2 hS => ?_)
  have ha : cO G a 7 [.ref b, .int 0, .int 0] H2 := ha
  have r1 := r1.kept (o2 _ (by omega))
  have oC : ∀ q : Nat, q < b → q ≠ a → H2[q]? = (wS x).heap[q]? := fun q h1 h2 => (o2 q h2).trans (oC q h1 h2)
  have zc : H2.size = b + 1 := z2.trans zc
  clear z2 o2
  refine k_aload_n (f := 0) (i := 0) hg hy (by decide +kernel) rfl rfl rfl ?_
  refine k_iconst (z := 0) (v := (0 : Int32)) hg hy (by decide) (by decide +kernel) ?_
  show KW x _ _ _ _ 15 _ _
  refine k_put (idx := 17) (ci := 7) (k := 1) (a := a) (fs := [.ref b, .int 0, .int 0]) hg hy hwG hnm (by decide +kernel) ⟨RX5, TX5, 3, tyX5, .int, rfl, by decide, (TBg_at 261 (by decide +kernel)), lay_X5, tyX5_ok, nmX5, rfl, rfl, rfl, rfl⟩ ha (Nat.le_of_ble_eq_true rfl) haA hS (fun H2 locs2 ha z2 o2 hS => ?_)
  have ha : cO G a 7 [.ref b, .int (0), .int 0] H2 := ha
  have r1 := r1.kept (o2 _ (by omega))
  have oC : ∀ q : Nat, q < b → q ≠ a → H2[q]? = (wS x).heap[q]? := fun q h1 h2 => (o2 q h2).trans (oC q h1 h2)
  have zc : H2.size = b + 1 := z2.trans zc
  clear z2 o2
  refine k_aload_n (f := 0) (i := 0) hg hy (by decide +kernel) rfl rfl rfl ?_
  refine k_iconst (z := 0) (v := (0 : Int32)) hg hy (by decide) (by decide +kernel) ?_
  show KW x _ _ _ _ 20 _ _
  refine k_put (idx := 21) (ci := 7) (k := 2) (a := a) (fs := [.ref b, .int (0), .int 0]) hg hy hwG hnm (by decide +kernel) ⟨RX5, TX5, 3, tyX5, .int, rfl, by decide, (TBg_at 262 (by decide +kernel)), lay_X5, tyX5_ok, nmX5, rfl, rfl, rfl, rfl⟩ ha (Nat.le_of_ble_eq_true rfl) haA hS (fun H2 locs2 ha z2 o2 hS => ?_)
  have ha : cO G a 7 [.ref b, .int (0), .int (0)] H2 := ha
  have r1 := r1.kept (o2 _ (by omega))
  have oC : ∀ q : Nat, q < b → q ≠ a → H2[q]? = (wS x).heap[q]? := fun q h1 h2 => (o2 q h2).trans (oC q h1 h2)
  have zc : H2.size = b + 1 := z2.trans zc
  clear z2 o2
  refine k_iconst (z := 0) (v := (0 : Int32)) hg hy (by decide) (by decide +kernel) ?_
  refine k_istore_n (f := 1) (i := 1) hg hy (by decide +kernel) rfl (by decide) ?_
  show KW x _ _ _ _ 25 _ _
  exact loop 9 0 _ _ _ (Nat.zero_add 9) ha  (r1.congr (fun j hj => by rw [if_neg (Nat.not_lt_zero j)])) (fun j hj => absurd hj (Nat.not_lt_zero j)) zc oC hS (List.forall_mem_cons.mpr ⟨rfl, List.forall_mem_cons.mpr ⟨rfl, fun _ h => absurd h List.not_mem_nil⟩⟩)
theorem n_J5 (hE : ∀ U H, G.2.2.2.2 U H → EnF G U H) (a : Nat) : KC l G kJ5 [.inl (.ref a), .inl (.int 16)] (fun H => cO G a 1 [.null, .int 0, .int 0, .int 0] H ∧ AA G a) (fun H H1 => H1.size = H.size + 1 ∧ (∀ q : Nat, q < H.size → q ≠ a → H1[q]? = H[q]?) ∧ SbC G a H.size H1) := by
  refine KC_of (by decide +kernel) (Nat.le_of_ble_eq_true rfl) (fun x hB hpre => ?_)
  obtain ⟨ha, haA⟩ := hpre
  obtain ⟨hg, hl, hy, hwG, hnm, hrt, hlk, hQ, hz⟩ := id hB
  have hS : va_S (AA G) (wS x).heap (wS x).heap [] := va_S.rf
  have hab : a < (wS x).heap.size := va_at.lt ha
  obtain ⟨b, zc⟩ : ∃ b, (wS x).heap.size = b := ⟨_, rfl⟩
  have hb := zc
  rw [zc] at hab
  have hzb : G.2.2.1 ≤ b := by rw [← zc]; exact hz
  have oC : ∀ q : Nat, q < b → q ≠ a → (wS x).heap[q]? = (wS x).heap[q]? := fun _ _ _ => rfl
  have ha : cO G a 1 [.null, .int 0, .int 0, .int 0] (wS x).heap := ha
  refine k_aload_n (f := 0) (i := 0) hg hy (by decide +kernel) rfl rfl rfl ?_
  refine k_obj (idx := 3) hg hy (by decide +kernel) ⟨(TBg_at 362 (by decide +kernel)), (TBg_at 102 (by decide +kernel)), (TBg_at 103 (by decide +kernel))⟩ (Nat.le_of_ble_eq_true rfl) ?_
  refine k_gets (idx := 18) (v := aI (nI 1)) hg hy hwG (by decide +kernel) (TBg_at 363 (by decide +kernel)) (fun U H h => (hE U H h).2.2.2.2.1) hS ?_
  refine k_if_eq (off := 18) (tgt := 25) hg hy (by decide +kernel) (by decide) (fun q => absurd q (by decide)) (fun _ => ?_)
  refine k_aload_n (f := 0) (i := 0) hg hy (by decide +kernel) rfl rfl rfl ?_
  refine k_iload_n (f := 1) (i := 1) (v := (16 : Int32)) hg hy (by decide +kernel) rfl rfl ?_
  show KW x _ _ _ _ 12 _ _
  refine k_newa (atype := .byte) (t := 8) (N := 16) (a0 := (16, .inl (fun _ => 0))) hg hy hwG (by decide +kernel) (TBg_at 386 (by decide +kernel)) rfl (fun _ => rfl) (by decide) (by decide) (Nat.le_of_ble_eq_true rfl) hS (Nat.le_of_ble_eq_true rfl) (Nat.le_of_ble_eq_true rfl) (fun H2 c2 z2 o2 hS => ?_)
  rw [zc] at c2 z2 o2 ⊢
  have ha := ha.kept (o2 _ (by omega))
  have oC : ∀ q : Nat, q < b → q ≠ a → H2[q]? = (wS x).heap[q]? := fun q h1 h2 => (o2 q (by omega)).trans (oC q h1 h2)
  have zc : H2.size = b + 1 := by omega
  have r1 : cI G 8 b 16 (fun _ => 0) H2 := c2
  clear c2 z2 o2
  show KW x _ _ _ _ 14 _ _
  refine k_put (idx := 15) (ci := 1) (k := 0) (a := a) (fs := [.null, .int 0, .int 0, .int 0]) hg hy hwG hnm (by decide +kernel) ⟨RJ4, TJ4, 4, tyJ4, (.array .byte), rfl, by decide, (TBg_at 372 (by decide +kernel)), lay_J4, tyJ4_ok, nmJ4, rfl, rfl, rfl, rfl⟩ ha (Nat.le_of_ble_eq_true rfl) haA hS (fun H2 locs2 ha z2 o2 hS => ?_)
  have ha : cO G a 1 [.ref b, .int 0, .int 0, .int 0] H2 := ha
  have r1 := r1.kept (o2 _ (by omega))
  have oC : ∀ q : Nat, q < b → q ≠ a → H2[q]? = (wS x).heap[q]? := fun q h1 h2 => (o2 q h2).trans (oC q h1 h2)
  have zc : H2.size = b + 1 := z2.trans zc
  clear z2 o2
  refine k_aload_n (f := 0) (i := 0) hg hy (by decide +kernel) rfl rfl rfl ?_
  refine k_iconst (z := 0) (v := (0 : Int32)) hg hy (by decide) (by decide +kernel) ?_
  show KW x _ _ _ _ 19 _ _
  refine k_put (idx := 22) (ci := 1) (k := 1) (a := a) (fs := [.ref b, .int 0, .int 0, .int 0]) hg hy hwG hnm (by decide +kernel) ⟨RJ4, TJ4, 4, tyJ4, .byte, rfl, by decide, (TBg_at 373 (by decide +kernel)), lay_J4, tyJ4_ok, nmJ4, rfl, rfl, rfl, rfl⟩ ha (Nat.le_of_ble_eq_true rfl) haA hS (fun H2 locs2 ha z2 o2 hS => ?_)
  have ha : cO G a 1 [.ref b, .int (0), .int 0, .int 0] H2 := ha
  have r1 := r1.kept (o2 _ (by omega))
  have oC : ∀ q : Nat, q < b → q ≠ a → H2[q]? = (wS x).heap[q]? := fun q h1 h2 => (o2 q h2).trans (oC q h1 h2)
  have zc : H2.size = b + 1 := z2.trans zc
  clear z2 o2
  refine k_goto (off := 16) (tgt := 38) hg hy (by decide +kernel) (by decide) ?_
  subst hb
  exact k_ret hB (by decide +kernel) rfl hS (Nat.le_of_ble_eq_true rfl) (Nat.le_of_ble_eq_true rfl) ⟨zc, oC, ha, r1⟩
theorem n_J4 (hG : Gok G) (hE : ∀ U H, G.2.2.2.2 U H → EnF G U H) (a : Nat) : KC l G kJ4 [.inl (.ref a)] (fun H => cO G a 1 [.null, .int 0, .int 0, .int 0] H ∧ AA G a) (fun H H1 => H1.size = H.size + 1 ∧ (∀ q : Nat, q < H.size → q ≠ a → H1[q]? = H[q]?) ∧ SbC G a H.size H1) := by
  refine KC_of (by decide +kernel) (Nat.le_of_ble_eq_true rfl) (fun x hB hpre => ?_)
  obtain ⟨ha, haA⟩ := hpre
  obtain ⟨hg, hl, hy, hwG, hnm, hrt, hlk, hQ, hz⟩ := id hB
  have hS : va_S (AA G) (wS x).heap (wS x).heap [] := va_S.rf
  have hab : a < (wS x).heap.size := va_at.lt ha
  obtain ⟨b, zc⟩ : ∃ b, (wS x).heap.size = b := ⟨_, rfl⟩
  have hb := zc
  rw [zc] at hab
  have hzb : G.2.2.1 ≤ b := by rw [← zc]; exact hz
  have oC : ∀ q : Nat, q < b → q ≠ a → (wS x).heap[q]? = (wS x).heap[q]? := fun _ _ _ => rfl
  have ha : cO G a 1 [.null, .int 0, .int 0, .int 0] (wS x).heap := ha
  refine k_aload_n (f := 0) (i := 0) hg hy (by decide +kernel) rfl rfl rfl ?_
  refine k_bipush (z := 16) (v := (16 : Int32)) hg hy (by decide) (by decide +kernel) ?_
  refine k_init (idx := 1) (z := kJ5) (as := [.inl (.int 16)]) hg hy hwG hl hG (n_J5 hE a) rfl (by decide +kernel) ⟨(TBg_at 359 (by decide +kernel)), (TBg_at 72 (by decide +kernel)), (TBg_at 360 (by decide +kernel)), (TBg_at 361 (by decide +kernel)), rfl, by decide +kernel, by decide +kernel, rfl, by decide +kernel⟩ ⟨by decide, by decide⟩ (Nat.le_of_ble_eq_true rfl) (Nat.le_of_ble_eq_true rfl) (Nat.le_of_ble_eq_true rfl) hz hS ⟨ha, haA⟩ (fun H2 locs2 hp hS => ?_)
  obtain ⟨z2, o2, c2⟩ := hp
  exact k_ret hB (by decide +kernel) rfl hS (Nat.le_of_ble_eq_true rfl) (Nat.le_of_ble_eq_true rfl) ⟨z2, o2, c2⟩
end CN
