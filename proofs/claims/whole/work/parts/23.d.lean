/-! ===== the constructors: the owner and the reference ===== -/
def MoC (G : GG) (a b : Nat) (H : Heap) : Prop := cO G a 12 [.ref b, .ref (b + 25), .int (0), .ref (b + 50), .ref (b + 277), .ref (b + 283), .ref (b + 320), .ref (b + 333), .int (-1), .int (-1)] H ∧ ShC G b (b + 1) H ∧ ShC G (b + 25) (b + 26) H ∧ HiC G (b + 50) (b + 51) H ∧ ReC G (b + 277) (b + 278) H ∧ EvC G (b + 283) (b + 284) H ∧ PrC G (b + 320) (b + 321) H ∧ SbC G (b + 333) (b + 334) H
def wordsI : List Int32 := [112, 108, 101, 100, 103, 101, 32, 114, 101, 100, 101, 101, 109, 32, 101, 120, 116, 101, 110, 100, 32, 100, 97, 121, 115, 32, 112, 114, 105, 99, 101, 32, 114, 97, 116, 101, 32, 98, 105, 100, 32, 115, 101, 108, 108, 32, 101, 118, 101, 110, 105, 110, 103]
def wordAtI : List Int32 := [0, 7, 14, 21, 26, 32, 37, 41, 46, 53]
def vI0 (i : Nat) : Nat → Int32 := fun j => if j = 1 then 2 else if j = 2 then 2000 else if 9 ≤ j ∧ j < 9 + i then 1 else 0
theorem vI0_0 {j : Nat} : uI (uI (fun _ => (0 : Int32)) 1 2) 2 2000 j = vI0 0 j := by
  unfold uI vI0
  by_cases h1 : j = 1
  · subst h1; rfl
  · by_cases h2 : j = 2
    · subst h2; rfl
    · rw [if_neg h2, if_neg h1, if_neg h1, if_neg h2, if_neg (by omega)]
theorem vI0_s {i j : Nat} (hi : i ≤ 7) : uI (vI0 i) (9 + i) 1 j = vI0 (i + 1) j := by
  unfold uI vI0
  by_cases e : j = 9 + i
  · subst e
    rw [if_pos rfl, if_neg (by omega), if_neg (by omega), if_pos (by omega)]
  · rw [if_neg e]
    by_cases h : 9 ≤ j ∧ j < 9 + i
    · rw [if_pos h, if_pos (show 9 ≤ j ∧ j < 9 + (i + 1) by omega)]
    · rw [if_neg h, if_neg (show ¬ (9 ≤ j ∧ j < 9 + (i + 1)) by omega)]
def MdC (G : GG) (a b : Nat) (H : Heap) : Prop := cO G a 13 [.int 0, .int 0, .int (-1), .int (-1), .int 0, .ref b, .ref (b + 1), .ref (b + 2), .ref (b + 3), .ref (b + 4), .ref (b + 5), .ref (b + 6), .ref (b + 7), .ref (b + 8), .ref (b + 9), .ref (b + 10), .int 0, .int 0, .int 0, .int 0, .int 0, .int 0] H ∧ cI G 0 b 136 (vI0 7) H ∧ cI G 0 (b + 1) 136 (fun _ => 0) H ∧ cI G 0 (b + 2) 136 (fun _ => 0) H ∧ cI G 0 (b + 3) 1088 (fun _ => 0) H ∧ cI G 0 (b + 4) 352 (fun _ => 0) H ∧ cI G 0 (b + 5) 10 (fun _ => 0) H ∧ cI G 0 (b + 6) 60 (fun _ => 0) H ∧ cI G 0 (b + 7) 80 (fun _ => 0) H ∧ cI G 0 (b + 8) 9 (fun _ => 0) H ∧ cI G 0 (b + 9) 53 (lstI wordsI) H ∧ cI G 0 (b + 10) 10 (lstI wordAtI) H
section CN2
variable {l : Launch} {G : GG}
set_option maxHeartbeats 8000000 in
theorem n_X10 (hG : Gok G) (hNs : NsF G) (hAr : ArF G) (hE : ∀ U H, G.2.2.2.2 U H → EnF G U H) (a : Nat) : KC l G kX10 [.inl (.ref a)] (fun H => cO G a 12 [.null, .null, .int 0, .null, .null, .null, .null, .null, .int 0, .int 0] H ∧ AA G a) (fun H H1 => H1.size = H.size + 335 ∧ (∀ q : Nat, q < H.size → q ≠ a → H1[q]? = H[q]?) ∧ MoC G a H.size H1) := by
  refine KC_of (by decide +kernel) (Nat.le_of_ble_eq_true rfl) (fun x hB hpre => ?_)
  obtain ⟨ha, haA⟩ := hpre
  obtain ⟨hg, hl, hy, hwG, hnm, hrt, hlk, hQ, hz⟩ := id hB
  have hS : va_S (AA G) (wS x).heap (wS x).heap [] := va_S.rf
  have hab : a < (wS x).heap.size := va_at.lt ha
  obtain ⟨b, zc⟩ : ∃ b, (wS x).heap.size = b := ⟨_, rfl⟩
  have hb := zc
  rw [zc] at hab
  have hzb : G.2.2.1 ≤ b := by rw [← zc]; exact hz
  have oC : ∀ q : Nat, q < b → q ≠ a → (wS x).heap[q]? = (wS x).heap[q]? := fun _ _ _ => rfl
  have ha : cO G a 12 [.null, .null, .int 0, .null, .null, .null, .null, .null, .int 0, .int 0] (wS x).heap := ha
  refine k_aload_n (f := 0) (i := 0) hg hy (by decide +kernel) rfl rfl rfl ?_
  refine k_obj (idx := 3) hg hy (by decide +kernel) ⟨(TBg_at 101 (by decide +kernel)), (TBg_at 102 (by decide +kernel)), (TBg_at 103 (by decide +kernel))⟩ (Nat.le_of_ble_eq_true rfl) ?_
  refine k_aload_n (f := 0) (i := 0) hg hy (by decide +kernel) rfl rfl rfl ?_
  show KW x _ _ _ _ 5 _ _
  refine k_new (idx := 9) (ci := 11) (N := 6) (fs := [.null, .null, .int 0, .int 0, .null, .int 0]) hg hy hwG (by decide +kernel) ⟨RX9, TX9, tyX9, rfl, (TBg_at 104 (by decide +kernel)), (TBg_at 105 (by decide +kernel)), (TBg_at 63 (by decide +kernel)), lay_X9, tyX9_ok, fun j hj => by rcases (by omega : j = 0 ∨ j = 1 ∨ j = 2 ∨ j = 3 ∨ j = 4 ∨ j = 5) with rfl | rfl | rfl | rfl | rfl | rfl <;> rfl⟩ hS (Nat.le_of_ble_eq_true rfl) (Nat.le_of_ble_eq_true rfl) (fun H2 c2 z2 o2 hS => ?_)
  rw [zc] at c2 z2 o2 ⊢
  have ha := ha.kept (o2 _ (by omega))
  have oC : ∀ q : Nat, q < b → q ≠ a → H2[q]? = (wS x).heap[q]? := fun q h1 h2 => (o2 q (by omega)).trans (oC q h1 h2)
  have zc : H2.size = b + 1 := by omega
  have w1 : cO G b 11 [.null, .null, .int 0, .int 0, .null, .int 0] H2 := c2
  clear c2 z2 o2
  refine k_dup hg hy rfl (by decide +kernel) ?_
  show KW x _ _ _ _ 9 _ _
  refine k_init (idx := 11) (z := kX9) (as := []) hg hy hwG hl hG (n_X9 hG hNs hAr b) rfl (by decide +kernel) ⟨(TBg_at 106 (by decide +kernel)), (TBg_at 63 (by decide +kernel)), (TBg_at 107 (by decide +kernel)), (TBg_at 108 (by decide +kernel)), rfl, by decide +kernel, by decide +kernel, rfl, by decide +kernel⟩ ⟨by decide, by decide⟩ (Nat.le_of_ble_eq_true rfl) (Nat.le_of_ble_eq_true rfl) (Nat.le_of_ble_eq_true rfl) hz hS ⟨w1, (show G.2.2.1 ≤ b by omega)⟩ (fun H2 locs2 hp hS => ?_)
  obtain ⟨z2, o2, c2⟩ := hp
  rw [zc] at z2 o2 c2
  have ha := ha.kept (o2 _ (by omega) (by omega))
  have oC : ∀ q : Nat, q < b → q ≠ a → H2[q]? = (wS x).heap[q]? := fun q h1 h2 => (o2 q (by omega) (by omega)).trans (oC q h1 h2)
  have zc : H2.size = b + 25 := by omega
  have w1 : ShC G b (b + 1) H2 := c2
  clear c2 z2 o2
  show KW x _ _ _ _ 12 _ _
  refine k_put (idx := 12) (ci := 12) (k := 0) (a := a) (fs := [.null, .null, .int 0, .null, .null, .null, .null, .null, .int 0, .int 0]) hg hy hwG hnm (by decide +kernel) ⟨RX10, TX10, 10, tyX10, (.object "MinutePawnshop$Shop"), rfl, by decide, (TBg_at 387 (by decide +kernel)), lay_X10, tyX10_ok, nmX10, rfl, rfl, rfl, rfl⟩ ha (Nat.le_of_ble_eq_true rfl) haA hS (fun H2 locs2 ha z2 o2 hS => ?_)
  have ha : cO G a 12 [.ref b, .null, .int 0, .null, .null, .null, .null, .null, .int 0, .int 0] H2 := ha
  have w1 := w1.kept (o2 _ (by omega)) (fun q h1 h2 => o2 q (by omega))
  have oC : ∀ q : Nat, q < b → q ≠ a → H2[q]? = (wS x).heap[q]? := fun q h1 h2 => (o2 q h2).trans (oC q h1 h2)
  have zc : H2.size = b + 25 := z2.trans zc
  clear z2 o2
  refine k_aload_n (f := 0) (i := 0) hg hy (by decide +kernel) rfl rfl rfl ?_
  show KW x _ _ _ _ 16 _ _
  refine k_new (idx := 9) (ci := 11) (N := 6) (fs := [.null, .null, .int 0, .int 0, .null, .int 0]) hg hy hwG (by decide +kernel) ⟨RX9, TX9, tyX9, rfl, (TBg_at 104 (by decide +kernel)), (TBg_at 105 (by decide +kernel)), (TBg_at 63 (by decide +kernel)), lay_X9, tyX9_ok, fun j hj => by rcases (by omega : j = 0 ∨ j = 1 ∨ j = 2 ∨ j = 3 ∨ j = 4 ∨ j = 5) with rfl | rfl | rfl | rfl | rfl | rfl <;> rfl⟩ hS (Nat.le_of_ble_eq_true rfl) (Nat.le_of_ble_eq_true rfl) (fun H2 c2 z2 o2 hS => ?_)
  rw [zc] at c2 z2 o2 ⊢
  have ha := ha.kept (o2 _ (by omega))
  have w1 := w1.kept (o2 _ (by omega)) (fun q h1 h2 => o2 q (by omega))
  have oC : ∀ q : Nat, q < b → q ≠ a → H2[q]? = (wS x).heap[q]? := fun q h1 h2 => (o2 q (by omega)).trans (oC q h1 h2)
  have zc : H2.size = b + 26 := by omega
  have w2 : cO G (b + 25) 11 [.null, .null, .int 0, .int 0, .null, .int 0] H2 := c2
  clear c2 z2 o2
  refine k_dup hg hy rfl (by decide +kernel) ?_
  show KW x _ _ _ _ 20 _ _
  refine k_init (idx := 11) (z := kX9) (as := []) hg hy hwG hl hG (n_X9 hG hNs hAr (b + 25)) rfl (by decide +kernel) ⟨(TBg_at 106 (by decide +kernel)), (TBg_at 63 (by decide +kernel)), (TBg_at 107 (by decide +kernel)), (TBg_at 108 (by decide +kernel)), rfl, by decide +kernel, by decide +kernel, rfl, by decide +kernel⟩ ⟨by decide, by decide⟩ (Nat.le_of_ble_eq_true rfl) (Nat.le_of_ble_eq_true rfl) (Nat.le_of_ble_eq_true rfl) hz hS ⟨w2, (show G.2.2.1 ≤ (b + 25) by omega)⟩ (fun H2 locs2 hp hS => ?_)
  obtain ⟨z2, o2, c2⟩ := hp
  rw [zc] at z2 o2 c2
  have w1 := w1.kept (o2 _ (by omega) (by omega)) (fun q h1 h2 => o2 q (by omega) (by omega))
  have ha := ha.kept (o2 _ (by omega) (by omega))
  have oC : ∀ q : Nat, q < b → q ≠ a → H2[q]? = (wS x).heap[q]? := fun q h1 h2 => (o2 q (by omega) (by omega)).trans (oC q h1 h2)
  have zc : H2.size = b + 50 := by omega
  have w2 : ShC G (b + 25) (b + 26) H2 := c2
  clear c2 z2 o2
  show KW x _ _ _ _ 23 _ _
  refine k_put (idx := 16) (ci := 12) (k := 1) (a := a) (fs := [.ref b, .null, .int 0, .null, .null, .null, .null, .null, .int 0, .int 0]) hg hy hwG hnm (by decide +kernel) ⟨RX10, TX10, 10, tyX10, (.object "MinutePawnshop$Shop"), rfl, by decide, (TBg_at 388 (by decide +kernel)), lay_X10, tyX10_ok, nmX10, rfl, rfl, rfl, rfl⟩ ha (Nat.le_of_ble_eq_true rfl) haA hS (fun H2 locs2 ha z2 o2 hS => ?_)
  have ha : cO G a 12 [.ref b, .ref (b + 25), .int 0, .null, .null, .null, .null, .null, .int 0, .int 0] H2 := ha
  have w1 := w1.kept (o2 _ (by omega)) (fun q h1 h2 => o2 q (by omega))
  have w2 := w2.kept (o2 _ (by omega)) (fun q h1 h2 => o2 q (by omega))
  have oC : ∀ q : Nat, q < b → q ≠ a → H2[q]? = (wS x).heap[q]? := fun q h1 h2 => (o2 q h2).trans (oC q h1 h2)
  have zc : H2.size = b + 50 := z2.trans zc
  clear z2 o2
  refine k_aload_n (f := 0) (i := 0) hg hy (by decide +kernel) rfl rfl rfl ?_
  refine k_iconst (z := 0) (v := (0 : Int32)) hg hy (by decide) (by decide +kernel) ?_
  show KW x _ _ _ _ 28 _ _
  refine k_put (idx := 19) (ci := 12) (k := 2) (a := a) (fs := [.ref b, .ref (b + 25), .int 0, .null, .null, .null, .null, .null, .int 0, .int 0]) hg hy hwG hnm (by decide +kernel) ⟨RX10, TX10, 10, tyX10, .boolean, rfl, by decide, (TBg_at 389 (by decide +kernel)), lay_X10, tyX10_ok, nmX10, rfl, rfl, rfl, rfl⟩ ha (Nat.le_of_ble_eq_true rfl) haA hS (fun H2 locs2 ha z2 o2 hS => ?_)
  have ha : cO G a 12 [.ref b, .ref (b + 25), .int (0), .null, .null, .null, .null, .null, .int 0, .int 0] H2 := ha
  have w1 := w1.kept (o2 _ (by omega)) (fun q h1 h2 => o2 q (by omega))
  have w2 := w2.kept (o2 _ (by omega)) (fun q h1 h2 => o2 q (by omega))
  have oC : ∀ q : Nat, q < b → q ≠ a → H2[q]? = (wS x).heap[q]? := fun q h1 h2 => (o2 q h2).trans (oC q h1 h2)
  have zc : H2.size = b + 50 := z2.trans zc
  clear z2 o2
  refine k_aload_n (f := 0) (i := 0) hg hy (by decide +kernel) rfl rfl rfl ?_
  show KW x _ _ _ _ 32 _ _
  refine k_new (idx := 23) (ci := 7) (N := 3) (fs := [.null, .int 0, .int 0]) hg hy hwG (by decide +kernel) ⟨RX5, TX5, tyX5, rfl, (TBg_at 251 (by decide +kernel)), (TBg_at 252 (by decide +kernel)), (TBg_at 68 (by decide +kernel)), lay_X5, tyX5_ok, fun j hj => by rcases (by omega : j = 0 ∨ j = 1 ∨ j = 2) with rfl | rfl | rfl <;> rfl⟩ hS (Nat.le_of_ble_eq_true rfl) (Nat.le_of_ble_eq_true rfl) (fun H2 c2 z2 o2 hS => ?_)
  rw [zc] at c2 z2 o2 ⊢
  have ha := ha.kept (o2 _ (by omega))
  have w1 := w1.kept (o2 _ (by omega)) (fun q h1 h2 => o2 q (by omega))
  have w2 := w2.kept (o2 _ (by omega)) (fun q h1 h2 => o2 q (by omega))
  have oC : ∀ q : Nat, q < b → q ≠ a → H2[q]? = (wS x).heap[q]? := fun q h1 h2 => (o2 q (by omega)).trans (oC q h1 h2)
  have zc : H2.size = b + 51 := by omega
  have w3 : cO G (b + 50) 7 [.null, .int 0, .int 0] H2 := c2
  clear c2 z2 o2
  refine k_dup hg hy rfl (by decide +kernel) ?_
  show KW x _ _ _ _ 36 _ _
  refine k_init (idx := 25) (z := kX5) (as := []) hg hy hwG hl hG (n_X5 hG hNs hAr (b + 50)) rfl (by decide +kernel) ⟨(TBg_at 253 (by decide +kernel)), (TBg_at 68 (by decide +kernel)), (TBg_at 254 (by decide +kernel)), (TBg_at 255 (by decide +kernel)), rfl, by decide +kernel, by decide +kernel, rfl, by decide +kernel⟩ ⟨by decide, by decide⟩ (Nat.le_of_ble_eq_true rfl) (Nat.le_of_ble_eq_true rfl) (Nat.le_of_ble_eq_true rfl) hz hS ⟨w3, (show G.2.2.1 ≤ (b + 50) by omega)⟩ (fun H2 locs2 hp hS => ?_)
  obtain ⟨z2, o2, c2⟩ := hp
  rw [zc] at z2 o2 c2
  have w1 := w1.kept (o2 _ (by omega) (by omega)) (fun q h1 h2 => o2 q (by omega) (by omega))
  have w2 := w2.kept (o2 _ (by omega) (by omega)) (fun q h1 h2 => o2 q (by omega) (by omega))
  have ha := ha.kept (o2 _ (by omega) (by omega))
  have oC : ∀ q : Nat, q < b → q ≠ a → H2[q]? = (wS x).heap[q]? := fun q h1 h2 => (o2 q (by omega) (by omega)).trans (oC q h1 h2)
  have zc : H2.size = b + 277 := by omega
  have w3 : HiC G (b + 50) (b + 51) H2 := c2
  clear c2 z2 o2
  show KW x _ _ _ _ 39 _ _
  refine k_put (idx := 26) (ci := 12) (k := 3) (a := a) (fs := [.ref b, .ref (b + 25), .int (0), .null, .null, .null, .null, .null, .int 0, .int 0]) hg hy hwG hnm (by decide +kernel) ⟨RX10, TX10, 10, tyX10, (.object "MinutePawnshop$History"), rfl, by decide, (TBg_at 390 (by decide +kernel)), lay_X10, tyX10_ok, nmX10, rfl, rfl, rfl, rfl⟩ ha (Nat.le_of_ble_eq_true rfl) haA hS (fun H2 locs2 ha z2 o2 hS => ?_)
  have ha : cO G a 12 [.ref b, .ref (b + 25), .int (0), .ref (b + 50), .null, .null, .null, .null, .int 0, .int 0] H2 := ha
  have w1 := w1.kept (o2 _ (by omega)) (fun q h1 h2 => o2 q (by omega))
  have w2 := w2.kept (o2 _ (by omega)) (fun q h1 h2 => o2 q (by omega))
  have w3 := w3.kept (o2 _ (by omega)) (fun q h1 h2 => o2 q (by omega))
  have oC : ∀ q : Nat, q < b → q ≠ a → H2[q]? = (wS x).heap[q]? := fun q h1 h2 => (o2 q h2).trans (oC q h1 h2)
  have zc : H2.size = b + 277 := z2.trans zc
  clear z2 o2
  refine k_aload_n (f := 0) (i := 0) hg hy (by decide +kernel) rfl rfl rfl ?_
  show KW x _ _ _ _ 43 _ _
  refine k_new (idx := 30) (ci := 10) (N := 6) (fs := [.null, .null, .int 0, .null, .null, .null]) hg hy hwG (by decide +kernel) ⟨RX8, TX8, tyX8, rfl, (TBg_at 271 (by decide +kernel)), (TBg_at 272 (by decide +kernel)), (TBg_at 69 (by decide +kernel)), lay_X8, tyX8_ok, fun j hj => by rcases (by omega : j = 0 ∨ j = 1 ∨ j = 2 ∨ j = 3 ∨ j = 4 ∨ j = 5) with rfl | rfl | rfl | rfl | rfl | rfl <;> rfl⟩ hS (Nat.le_of_ble_eq_true rfl) (Nat.le_of_ble_eq_true rfl) (fun H2 c2 z2 o2 hS => ?_)
  rw [zc] at c2 z2 o2 ⊢
  have ha := ha.kept (o2 _ (by omega))
  have w1 := w1.kept (o2 _ (by omega)) (fun q h1 h2 => o2 q (by omega))
  have w2 := w2.kept (o2 _ (by omega)) (fun q h1 h2 => o2 q (by omega))
  have w3 := w3.kept (o2 _ (by omega)) (fun q h1 h2 => o2 q (by omega))
  have oC : ∀ q : Nat, q < b → q ≠ a → H2[q]? = (wS x).heap[q]? := fun q h1 h2 => (o2 q (by omega)).trans (oC q h1 h2)
  have zc : H2.size = b + 278 := by omega
  have w4 : cO G (b + 277) 10 [.null, .null, .int 0, .null, .null, .null] H2 := c2
  clear c2 z2 o2
  refine k_dup hg hy rfl (by decide +kernel) ?_
  show KW x _ _ _ _ 47 _ _
  refine k_initN (idx := 32) (z := kX8) hg hy hwG hl hG hNs (n_X8 (b + 277)) (by decide +kernel) ⟨by decide +kernel, (TBg_at 69 (by decide +kernel)), (TBg_at 274 (by decide +kernel)), (TBg_at 275 (by decide +kernel)), rfl, by decide +kernel, by decide +kernel, rfl, by decide +kernel⟩ ⟨by decide, by decide⟩ (Nat.le_of_ble_eq_true rfl) (Nat.le_of_ble_eq_true rfl) (Nat.le_of_ble_eq_true rfl) hz hS ⟨w4, (show G.2.2.1 ≤ (b + 277) by omega)⟩ (fun H2 locs2 hp hS => ?_)
  obtain ⟨z2, o2, c2⟩ := hp
  rw [zc] at z2 o2 c2
  have w1 := w1.kept (o2 _ (by omega) (by omega)) (fun q h1 h2 => o2 q (by omega) (by omega))
  have w2 := w2.kept (o2 _ (by omega) (by omega)) (fun q h1 h2 => o2 q (by omega) (by omega))
  have w3 := w3.kept (o2 _ (by omega) (by omega)) (fun q h1 h2 => o2 q (by omega) (by omega))
  have ha := ha.kept (o2 _ (by omega) (by omega))
  have oC : ∀ q : Nat, q < b → q ≠ a → H2[q]? = (wS x).heap[q]? := fun q h1 h2 => (o2 q (by omega) (by omega)).trans (oC q h1 h2)
  have zc : H2.size = b + 283 := by omega
  have w4 : ReC G (b + 277) (b + 278) H2 := c2
  clear c2 z2 o2
  show KW x _ _ _ _ 50 _ _
  refine k_put (idx := 33) (ci := 12) (k := 4) (a := a) (fs := [.ref b, .ref (b + 25), .int (0), .ref (b + 50), .null, .null, .null, .null, .int 0, .int 0]) hg hy hwG hnm (by decide +kernel) ⟨RX10, TX10, 10, tyX10, (.object "MinutePawnshop$Redemption"), rfl, by decide, (TBg_at 391 (by decide +kernel)), lay_X10, tyX10_ok, nmX10, rfl, rfl, rfl, rfl⟩ ha (Nat.le_of_ble_eq_true rfl) haA hS (fun H2 locs2 ha z2 o2 hS => ?_)
  have ha : cO G a 12 [.ref b, .ref (b + 25), .int (0), .ref (b + 50), .ref (b + 277), .null, .null, .null, .int 0, .int 0] H2 := ha
  have w1 := w1.kept (o2 _ (by omega)) (fun q h1 h2 => o2 q (by omega))
  have w2 := w2.kept (o2 _ (by omega)) (fun q h1 h2 => o2 q (by omega))
  have w3 := w3.kept (o2 _ (by omega)) (fun q h1 h2 => o2 q (by omega))
  have w4 := w4.kept (o2 _ (by omega)) (fun q h1 h2 => o2 q (by omega))
  have oC : ∀ q : Nat, q < b → q ≠ a → H2[q]? = (wS x).heap[q]? := fun q h1 h2 => (o2 q h2).trans (oC q h1 h2)
  have zc : H2.size = b + 283 := z2.trans zc
  clear z2 o2
  refine k_aload_n (f := 0) (i := 0) hg hy (by decide +kernel) rfl rfl rfl ?_
  show KW x _ _ _ _ 54 _ _
  refine k_new (idx := 37) (ci := 6) (N := 5) (fs := [.null, .null, .null, .null, .int 0]) hg hy hwG (by decide +kernel) ⟨RX4, TX4, tyX4, rfl, (TBg_at 296 (by decide +kernel)), (TBg_at 297 (by decide +kernel)), (TBg_at 70 (by decide +kernel)), lay_X4, tyX4_ok, fun j hj => by rcases (by omega : j = 0 ∨ j = 1 ∨ j = 2 ∨ j = 3 ∨ j = 4) with rfl | rfl | rfl | rfl | rfl <;> rfl⟩ hS (Nat.le_of_ble_eq_true rfl) (Nat.le_of_ble_eq_true rfl) (fun H2 c2 z2 o2 hS => ?_)
  rw [zc] at c2 z2 o2 ⊢
  have ha := ha.kept (o2 _ (by omega))
  have w1 := w1.kept (o2 _ (by omega)) (fun q h1 h2 => o2 q (by omega))
  have w2 := w2.kept (o2 _ (by omega)) (fun q h1 h2 => o2 q (by omega))
  have w3 := w3.kept (o2 _ (by omega)) (fun q h1 h2 => o2 q (by omega))
  have w4 := w4.kept (o2 _ (by omega)) (fun q h1 h2 => o2 q (by omega))
  have oC : ∀ q : Nat, q < b → q ≠ a → H2[q]? = (wS x).heap[q]? := fun q h1 h2 => (o2 q (by omega)).trans (oC q h1 h2)
  have zc : H2.size = b + 284 := by omega
  have w5 : cO G (b + 283) 6 [.null, .null, .null, .null, .int 0] H2 := c2
  clear c2 z2 o2
  refine k_dup hg hy rfl (by decide +kernel) ?_
  show KW x _ _ _ _ 58 _ _
  refine k_initN (idx := 39) (z := kX4) hg hy hwG hl hG hNs (n_X4 hAr (b + 283)) (by decide +kernel) ⟨by decide +kernel, (TBg_at 70 (by decide +kernel)), (TBg_at 299 (by decide +kernel)), (TBg_at 300 (by decide +kernel)), rfl, by decide +kernel, by decide +kernel, rfl, by decide +kernel⟩ ⟨by decide, by decide⟩ (Nat.le_of_ble_eq_true rfl) (Nat.le_of_ble_eq_true rfl) (Nat.le_of_ble_eq_true rfl) hz hS ⟨w5, (show G.2.2.1 ≤ (b + 283) by omega)⟩ (fun H2 locs2 hp hS => ?_)
  obtain ⟨z2, o2, c2⟩ := hp
  rw [zc] at z2 o2 c2
  have w1 := w1.kept (o2 _ (by omega) (by omega)) (fun q h1 h2 => o2 q (by omega) (by omega))
  have w2 := w2.kept (o2 _ (by omega) (by omega)) (fun q h1 h2 => o2 q (by omega) (by omega))
  have w3 := w3.kept (o2 _ (by omega) (by omega)) (fun q h1 h2 => o2 q (by omega) (by omega))
  have w4 := w4.kept (o2 _ (by omega) (by omega)) (fun q h1 h2 => o2 q (by omega) (by omega))
  have ha := ha.kept (o2 _ (by omega) (by omega))
  have oC : ∀ q : Nat, q < b → q ≠ a → H2[q]? = (wS x).heap[q]? := fun q h1 h2 => (o2 q (by omega) (by omega)).trans (oC q h1 h2)
  have zc : H2.size = b + 320 := by omega
  have w5 : EvC G (b + 283) (b + 284) H2 := c2
  clear c2 z2 o2
  show KW x _ _ _ _ 61 _ _
  refine k_put (idx := 40) (ci := 12) (k := 5) (a := a) (fs := [.ref b, .ref (b + 25), .int (0), .ref (b + 50), .ref (b + 277), .null, .null, .null, .int 0, .int 0]) hg hy hwG hnm (by decide +kernel) ⟨RX10, TX10, 10, tyX10, (.object "MinutePawnshop$Evening"), rfl, by decide, (TBg_at 392 (by decide +kernel)), lay_X10, tyX10_ok, nmX10, rfl, rfl, rfl, rfl⟩ ha (Nat.le_of_ble_eq_true rfl) haA hS (fun H2 locs2 ha z2 o2 hS => ?_)
  have ha : cO G a 12 [.ref b, .ref (b + 25), .int (0), .ref (b + 50), .ref (b + 277), .ref (b + 283), .null, .null, .int 0, .int 0] H2 := ha
  have w1 := w1.kept (o2 _ (by omega)) (fun q h1 h2 => o2 q (by omega))
  have w2 := w2.kept (o2 _ (by omega)) (fun q h1 h2 => o2 q (by omega))
  have w3 := w3.kept (o2 _ (by omega)) (fun q h1 h2 => o2 q (by omega))
  have w4 := w4.kept (o2 _ (by omega)) (fun q h1 h2 => o2 q (by omega))
  have w5 := w5.kept (o2 _ (by omega)) (fun q h1 h2 => o2 q (by omega))
  have oC : ∀ q : Nat, q < b → q ≠ a → H2[q]? = (wS x).heap[q]? := fun q h1 h2 => (o2 q h2).trans (oC q h1 h2)
  have zc : H2.size = b + 320 := z2.trans zc
  clear z2 o2
  refine k_aload_n (f := 0) (i := 0) hg hy (by decide +kernel) rfl rfl rfl ?_
  show KW x _ _ _ _ 65 _ _
  refine k_new (idx := 44) (ci := 9) (N := 6) (fs := [.null, .int 0, .null, .null, .int 0, .int 0]) hg hy hwG (by decide +kernel) ⟨RX7, TX7, tyX7, rfl, (TBg_at 320 (by decide +kernel)), (TBg_at 321 (by decide +kernel)), (TBg_at 71 (by decide +kernel)), lay_X7, tyX7_ok, fun j hj => by rcases (by omega : j = 0 ∨ j = 1 ∨ j = 2 ∨ j = 3 ∨ j = 4 ∨ j = 5) with rfl | rfl | rfl | rfl | rfl | rfl <;> rfl⟩ hS (Nat.le_of_ble_eq_true rfl) (Nat.le_of_ble_eq_true rfl) (fun H2 c2 z2 o2 hS => ?_)
  rw [zc] at c2 z2 o2 ⊢
  have ha := ha.kept (o2 _ (by omega))
  have w1 := w1.kept (o2 _ (by omega)) (fun q h1 h2 => o2 q (by omega))
  have w2 := w2.kept (o2 _ (by omega)) (fun q h1 h2 => o2 q (by omega))
  have w3 := w3.kept (o2 _ (by omega)) (fun q h1 h2 => o2 q (by omega))
  have w4 := w4.kept (o2 _ (by omega)) (fun q h1 h2 => o2 q (by omega))
  have w5 := w5.kept (o2 _ (by omega)) (fun q h1 h2 => o2 q (by omega))
  have oC : ∀ q : Nat, q < b → q ≠ a → H2[q]? = (wS x).heap[q]? := fun q h1 h2 => (o2 q (by omega)).trans (oC q h1 h2)
  have zc : H2.size = b + 321 := by omega
  have w6 : cO G (b + 320) 9 [.null, .int 0, .null, .null, .int 0, .int 0] H2 := c2
  clear c2 z2 o2
  refine k_dup hg hy rfl (by decide +kernel) ?_
  show KW x _ _ _ _ 69 _ _
  refine k_initN (idx := 46) (z := kX7) hg hy hwG hl hG hNs (n_X7 hAr (b + 320)) (by decide +kernel) ⟨by decide +kernel, (TBg_at 71 (by decide +kernel)), (TBg_at 323 (by decide +kernel)), (TBg_at 324 (by decide +kernel)), rfl, by decide +kernel, by decide +kernel, rfl, by decide +kernel⟩ ⟨by decide, by decide⟩ (Nat.le_of_ble_eq_true rfl) (Nat.le_of_ble_eq_true rfl) (Nat.le_of_ble_eq_true rfl) hz hS ⟨w6, (show G.2.2.1 ≤ (b + 320) by omega)⟩ (fun H2 locs2 hp hS => ?_)
  obtain ⟨z2, o2, c2⟩ := hp
  rw [zc] at z2 o2 c2
  have w1 := w1.kept (o2 _ (by omega) (by omega)) (fun q h1 h2 => o2 q (by omega) (by omega))
  have w2 := w2.kept (o2 _ (by omega) (by omega)) (fun q h1 h2 => o2 q (by omega) (by omega))
  have w3 := w3.kept (o2 _ (by omega) (by omega)) (fun q h1 h2 => o2 q (by omega) (by omega))
  have w4 := w4.kept (o2 _ (by omega) (by omega)) (fun q h1 h2 => o2 q (by omega) (by omega))
  have w5 := w5.kept (o2 _ (by omega) (by omega)) (fun q h1 h2 => o2 q (by omega) (by omega))
  have ha := ha.kept (o2 _ (by omega) (by omega))
  have oC : ∀ q : Nat, q < b → q ≠ a → H2[q]? = (wS x).heap[q]? := fun q h1 h2 => (o2 q (by omega) (by omega)).trans (oC q h1 h2)
  have zc : H2.size = b + 333 := by omega
  have w6 : PrC G (b + 320) (b + 321) H2 := c2
  clear c2 z2 o2
  show KW x _ _ _ _ 72 _ _
  refine k_put (idx := 47) (ci := 12) (k := 6) (a := a) (fs := [.ref b, .ref (b + 25), .int (0), .ref (b + 50), .ref (b + 277), .ref (b + 283), .null, .null, .int 0, .int 0]) hg hy hwG hnm (by decide +kernel) ⟨RX10, TX10, 10, tyX10, (.object "MinutePawnshop$Program"), rfl, by decide, (TBg_at 393 (by decide +kernel)), lay_X10, tyX10_ok, nmX10, rfl, rfl, rfl, rfl⟩ ha (Nat.le_of_ble_eq_true rfl) haA hS (fun H2 locs2 ha z2 o2 hS => ?_)
  have ha : cO G a 12 [.ref b, .ref (b + 25), .int (0), .ref (b + 50), .ref (b + 277), .ref (b + 283), .ref (b + 320), .null, .int 0, .int 0] H2 := ha
  have w1 := w1.kept (o2 _ (by omega)) (fun q h1 h2 => o2 q (by omega))
  have w2 := w2.kept (o2 _ (by omega)) (fun q h1 h2 => o2 q (by omega))
  have w3 := w3.kept (o2 _ (by omega)) (fun q h1 h2 => o2 q (by omega))
  have w4 := w4.kept (o2 _ (by omega)) (fun q h1 h2 => o2 q (by omega))
  have w5 := w5.kept (o2 _ (by omega)) (fun q h1 h2 => o2 q (by omega))
  have w6 := w6.kept (o2 _ (by omega)) (fun q h1 h2 => o2 q (by omega))
  have oC : ∀ q : Nat, q < b → q ≠ a → H2[q]? = (wS x).heap[q]? := fun q h1 h2 => (o2 q h2).trans (oC q h1 h2)
  have zc : H2.size = b + 333 := z2.trans zc
  clear z2 o2
  refine k_aload_n (f := 0) (i := 0) hg hy (by decide +kernel) rfl rfl rfl ?_
  show KW x _ _ _ _ 76 _ _
  refine k_new (idx := 51) (ci := 1) (N := 4) (fs := [.null, .int 0, .int 0, .int 0]) hg hy hwG (by decide +kernel) ⟨RJ4, TJ4, tyJ4, rfl, (TBg_at 354 (by decide +kernel)), (TBg_at 355 (by decide +kernel)), (TBg_at 73 (by decide +kernel)), lay_J4, tyJ4_ok, fun j hj => by rcases (by omega : j = 0 ∨ j = 1 ∨ j = 2 ∨ j = 3) with rfl | rfl | rfl | rfl <;> rfl⟩ hS (Nat.le_of_ble_eq_true rfl) (Nat.le_of_ble_eq_true rfl) (fun H2 c2 z2 o2 hS => ?_)
  rw [zc] at c2 z2 o2 ⊢
  have ha := ha.kept (o2 _ (by omega))
  have w1 := w1.kept (o2 _ (by omega)) (fun q h1 h2 => o2 q (by omega))
  have w2 := w2.kept (o2 _ (by omega)) (fun q h1 h2 => o2 q (by omega))
  have w3 := w3.kept (o2 _ (by omega)) (fun q h1 h2 => o2 q (by omega))
  have w4 := w4.kept (o2 _ (by omega)) (fun q h1 h2 => o2 q (by omega))
  have w5 := w5.kept (o2 _ (by omega)) (fun q h1 h2 => o2 q (by omega))
  have w6 := w6.kept (o2 _ (by omega)) (fun q h1 h2 => o2 q (by omega))
  have oC : ∀ q : Nat, q < b → q ≠ a → H2[q]? = (wS x).heap[q]? := fun q h1 h2 => (o2 q (by omega)).trans (oC q h1 h2)
  have zc : H2.size = b + 334 := by omega
  have w7 : cO G (b + 333) 1 [.null, .int 0, .int 0, .int 0] H2 := c2
  clear c2 z2 o2
  refine k_dup hg hy rfl (by decide +kernel) ?_
  show KW x _ _ _ _ 80 _ _
  refine k_init (idx := 53) (z := kJ4) (as := []) hg hy hwG hl hG (n_J4 hG hE (b + 333)) rfl (by decide +kernel) ⟨(TBg_at 356 (by decide +kernel)), (TBg_at 73 (by decide +kernel)), (TBg_at 357 (by decide +kernel)), (TBg_at 358 (by decide +kernel)), rfl, by decide +kernel, by decide +kernel, rfl, by decide +kernel⟩ ⟨by decide, by decide⟩ (Nat.le_of_ble_eq_true rfl) (Nat.le_of_ble_eq_true rfl) (Nat.le_of_ble_eq_true rfl) hz hS ⟨w7, (show G.2.2.1 ≤ (b + 333) by omega)⟩ (fun H2 locs2 hp hS => ?_)
  obtain ⟨z2, o2, c2⟩ := hp
  rw [zc] at z2 o2 c2
  have w1 := w1.kept (o2 _ (by omega) (by omega)) (fun q h1 h2 => o2 q (by omega) (by omega))
  have w2 := w2.kept (o2 _ (by omega) (by omega)) (fun q h1 h2 => o2 q (by omega) (by omega))
  have w3 := w3.kept (o2 _ (by omega) (by omega)) (fun q h1 h2 => o2 q (by omega) (by omega))
  have w4 := w4.kept (o2 _ (by omega) (by omega)) (fun q h1 h2 => o2 q (by omega) (by omega))
  have w5 := w5.kept (o2 _ (by omega) (by omega)) (fun q h1 h2 => o2 q (by omega) (by omega))
  have w6 := w6.kept (o2 _ (by omega) (by omega)) (fun q h1 h2 => o2 q (by omega) (by omega))
  have ha := ha.kept (o2 _ (by omega) (by omega))
  have oC : ∀ q : Nat, q < b → q ≠ a → H2[q]? = (wS x).heap[q]? := fun q h1 h2 => (o2 q (by omega) (by omega)).trans (oC q h1 h2)
  have zc : H2.size = b + 335 := by omega
  have w7 : SbC G (b + 333) (b + 334) H2 := c2
  clear c2 z2 o2
  show KW x _ _ _ _ 83 _ _
  refine k_put (idx := 54) (ci := 12) (k := 7) (a := a) (fs := [.ref b, .ref (b + 25), .int (0), .ref (b + 50), .ref (b + 277), .ref (b + 283), .ref (b + 320), .null, .int 0, .int 0]) hg hy hwG hnm (by decide +kernel) ⟨RX10, TX10, 10, tyX10, (.object "java/lang/StringBuilder"), rfl, by decide, (TBg_at 394 (by decide +kernel)), lay_X10, tyX10_ok, nmX10, rfl, rfl, rfl, rfl⟩ ha (Nat.le_of_ble_eq_true rfl) haA hS (fun H2 locs2 ha z2 o2 hS => ?_)
  have ha : cO G a 12 [.ref b, .ref (b + 25), .int (0), .ref (b + 50), .ref (b + 277), .ref (b + 283), .ref (b + 320), .ref (b + 333), .int 0, .int 0] H2 := ha
  have w1 := w1.kept (o2 _ (by omega)) (fun q h1 h2 => o2 q (by omega))
  have w2 := w2.kept (o2 _ (by omega)) (fun q h1 h2 => o2 q (by omega))
  have w3 := w3.kept (o2 _ (by omega)) (fun q h1 h2 => o2 q (by omega))
  have w4 := w4.kept (o2 _ (by omega)) (fun q h1 h2 => o2 q (by omega))
  have w5 := w5.kept (o2 _ (by omega)) (fun q h1 h2 => o2 q (by omega))
  have w6 := w6.kept (o2 _ (by omega)) (fun q h1 h2 => o2 q (by omega))
  have w7 := w7.kept (o2 _ (by omega)) (fun q h1 h2 => o2 q (by omega))
  have oC : ∀ q : Nat, q < b → q ≠ a → H2[q]? = (wS x).heap[q]? := fun q h1 h2 => (o2 q h2).trans (oC q h1 h2)
  have zc : H2.size = b + 335 := z2.trans zc
  clear z2 o2
  refine k_aload_n (f := 0) (i := 0) hg hy (by decide +kernel) rfl rfl rfl ?_
  refine k_iconst (z := -1) (v := (-1 : Int32)) hg hy (by decide) (by decide +kernel) ?_
  show KW x _ _ _ _ 88 _ _
  refine k_put (idx := 58) (ci := 12) (k := 8) (a := a) (fs := [.ref b, .ref (b + 25), .int (0), .ref (b + 50), .ref (b + 277), .ref (b + 283), .ref (b + 320), .ref (b + 333), .int 0, .int 0]) hg hy hwG hnm (by decide +kernel) ⟨RX10, TX10, 10, tyX10, .int, rfl, by decide, (TBg_at 395 (by decide +kernel)), lay_X10, tyX10_ok, nmX10, rfl, rfl, rfl, rfl⟩ ha (Nat.le_of_ble_eq_true rfl) haA hS (fun H2 locs2 ha z2 o2 hS => ?_)
  have ha : cO G a 12 [.ref b, .ref (b + 25), .int (0), .ref (b + 50), .ref (b + 277), .ref (b + 283), .ref (b + 320), .ref (b + 333), .int (-1), .int 0] H2 := ha
  have w1 := w1.kept (o2 _ (by omega)) (fun q h1 h2 => o2 q (by omega))
  have w2 := w2.kept (o2 _ (by omega)) (fun q h1 h2 => o2 q (by omega))
  have w3 := w3.kept (o2 _ (by omega)) (fun q h1 h2 => o2 q (by omega))
  have w4 := w4.kept (o2 _ (by omega)) (fun q h1 h2 => o2 q (by omega))
  have w5 := w5.kept (o2 _ (by omega)) (fun q h1 h2 => o2 q (by omega))
  have w6 := w6.kept (o2 _ (by omega)) (fun q h1 h2 => o2 q (by omega))
  have w7 := w7.kept (o2 _ (by omega)) (fun q h1 h2 => o2 q (by omega))
  have oC : ∀ q : Nat, q < b → q ≠ a → H2[q]? = (wS x).heap[q]? := fun q h1 h2 => (o2 q h2).trans (oC q h1 h2)
  have zc : H2.size = b + 335 := z2.trans zc
  clear z2 o2
  refine k_aload_n (f := 0) (i := 0) hg hy (by decide +kernel) rfl rfl rfl ?_
  refine k_iconst (z := -1) (v := (-1 : Int32)) hg hy (by decide) (by decide +kernel) ?_
  show KW x _ _ _ _ 93 _ _
  refine k_put (idx := 62) (ci := 12) (k := 9) (a := a) (fs := [.ref b, .ref (b + 25), .int (0), .ref (b + 50), .ref (b + 277), .ref (b + 283), .ref (b + 320), .ref (b + 333), .int (-1), .int 0]) hg hy hwG hnm (by decide +kernel) ⟨RX10, TX10, 10, tyX10, .int, rfl, by decide, (TBg_at 396 (by decide +kernel)), lay_X10, tyX10_ok, nmX10, rfl, rfl, rfl, rfl⟩ ha (Nat.le_of_ble_eq_true rfl) haA hS (fun H2 locs2 ha z2 o2 hS => ?_)
  have ha : cO G a 12 [.ref b, .ref (b + 25), .int (0), .ref (b + 50), .ref (b + 277), .ref (b + 283), .ref (b + 320), .ref (b + 333), .int (-1), .int (-1)] H2 := ha
  have w1 := w1.kept (o2 _ (by omega)) (fun q h1 h2 => o2 q (by omega))
  have w2 := w2.kept (o2 _ (by omega)) (fun q h1 h2 => o2 q (by omega))
  have w3 := w3.kept (o2 _ (by omega)) (fun q h1 h2 => o2 q (by omega))
  have w4 := w4.kept (o2 _ (by omega)) (fun q h1 h2 => o2 q (by omega))
  have w5 := w5.kept (o2 _ (by omega)) (fun q h1 h2 => o2 q (by omega))
  have w6 := w6.kept (o2 _ (by omega)) (fun q h1 h2 => o2 q (by omega))
  have w7 := w7.kept (o2 _ (by omega)) (fun q h1 h2 => o2 q (by omega))
  have oC : ∀ q : Nat, q < b → q ≠ a → H2[q]? = (wS x).heap[q]? := fun q h1 h2 => (o2 q h2).trans (oC q h1 h2)
  have zc : H2.size = b + 335 := z2.trans zc
  clear z2 o2
  subst hb
  show KW x _ _ _ _ 96 _ _
  exact k_ret hB (by decide +kernel) rfl hS (Nat.le_of_ble_eq_true rfl) (Nat.le_of_ble_eq_true rfl) ⟨zc, oC, ha, w1, w2, w3, w4, w5, w6, w7⟩
set_option maxHeartbeats 8000000 in
theorem n_X11 (a : Nat) : KC l G kX11 [.inl (.ref a)] (fun H => cO G a 13 [.int 0, .int 0, .int 0, .int 0, .int 0, .null, .null, .null, .null, .null, .null, .null, .null, .null, .null, .null, .int 0, .int 0, .int 0, .int 0, .int 0, .int 0] H ∧ AA G a) (fun H H1 => H1.size = H.size + 11 ∧ (∀ q : Nat, q < H.size → q ≠ a → H1[q]? = H[q]?) ∧ MdC G a H.size H1) := by
  refine KC_of (by decide +kernel) (Nat.le_of_ble_eq_true rfl) (fun x hB hpre => ?_)
  obtain ⟨ha, haA⟩ := hpre
  obtain ⟨hg, hl, hy, hwG, hnm, hrt, hlk, hQ, hz⟩ := id hB
  have hS : va_S (AA G) (wS x).heap (wS x).heap [] := va_S.rf
  have hab : a < (wS x).heap.size := va_at.lt ha
  obtain ⟨b, zc⟩ : ∃ b, (wS x).heap.size = b := ⟨_, rfl⟩
  have hb := zc
  rw [zc] at hab
  have hzb : G.2.2.1 ≤ b := by rw [← zc]; exact hz
  have oC : ∀ q : Nat, q < b → q ≠ a → (wS x).heap[q]? = (wS x).heap[q]? := fun _ _ _ => rfl
  have ha : cO G a 13 [.int 0, .int 0, .int 0, .int 0, .int 0, .null, .null, .null, .null, .null, .null, .null, .null, .null, .null, .null, .int 0, .int 0, .int 0, .int 0, .int 0, .int 0] (wS x).heap := ha
  have loop : ∀ m i H locs al, i + m = 7 → cO G a 13 [.int 0, .int 0, .int (-1), .int (-1), .int 0, .ref b, .ref (b + 1), .ref (b + 2), .ref (b + 3), .ref (b + 4), .ref (b + 5), .ref (b + 6), .ref (b + 7), .ref (b + 8), .ref (b + 9), .ref (b + 10), .int 0, .int 0, .int 0, .int 0, .int 0, .int 0] H → cI G 0 (b + 1) 136 (fun _ => 0) H → cI G 0 (b + 2) 136 (fun _ => 0) H → cI G 0 (b + 3) 1088 (fun _ => 0) H → cI G 0 (b + 4) 352 (fun _ => 0) H → cI G 0 (b + 5) 10 (fun _ => 0) H → cI G 0 (b + 6) 60 (fun _ => 0) H → cI G 0 (b + 7) 80 (fun _ => 0) H → cI G 0 (b + 8) 9 (fun _ => 0) H → cI G 0 (b + 9) 53 (lstI [112, 108, 101, 100, 103, 101, 32, 114, 101, 100, 101, 101, 109, 32, 101, 120, 116, 101, 110, 100, 32, 100, 97, 121, 115, 32, 112, 114, 105, 99, 101, 32, 114, 97, 116, 101, 32, 98, 105, 100, 32, 115, 101, 108, 108, 32, 101, 118, 101, 110, 105, 110, 103]) H → cI G 0 (b + 10) 10 (lstI [0, 7, 14, 21, 26, 32, 37, 41, 46, 53]) H → cI G 0 b 136 (vI0 i) H → H.size = b + 11 → (∀ q : Nat, q < b → q ≠ a → H[q]? = (wS x).heap[q]?) → va_S (AA G) (wS x).heap H locs → (∀ z ∈ ([(0, .inl (.ref a)), (1, aI (nI i))] : Al), lk al z.1 = some z.2) → KW x H locs 11 2070 490 al [] := by
    intro m
    induction m with
    | zero =>
      intro i H locs al hi ha r2 r3 r4 r5 r6 r7 r8 r9 r10 r11 r1 zc oC hS hal
      have hi : i = 7 := by omega
      subst hi
      refine KW.sub ?_ hal
      refine k_iload_n (f := 1) (i := 1) hg hy (by decide +kernel) rfl rfl ?_
      refine k_bipush (z := 7) (v := (7 : Int32)) hg hy (by decide) (by decide +kernel) ?_
      refine k_icmp_ge (off := 19) (tgt := 512) hg hy (by decide +kernel) (by decide) (fun _ => ?_) (fun q => absurd (by decide) q)
      subst hb
      exact k_ret hB (by decide +kernel) rfl hS (Nat.le_of_ble_eq_true rfl) (Nat.le_of_ble_eq_true rfl) ⟨zc, oC, ha, r1, r2, r3, r4, r5, r6, r7, r8, r9, r10, r11⟩
    | succ m ih =>
      intro i H locs al hi ha r2 r3 r4 r5 r6 r7 r8 r9 r10 r11 r1 zc oC hS hal
      refine KW.sub ?_ hal
      refine k_iload_n (f := 1) (i := 1) hg hy (by decide +kernel) rfl rfl ?_
      refine k_bipush (z := 7) (v := nI 7) hg hy (by decide) (by decide +kernel) ?_
      refine k_icmp_ge (off := 19) (tgt := 512) hg hy (by decide +kernel) (by decide) (fun q => absurd q (fun q2 => absurd ((nI_leI (by omega) (by omega)).mp q2) (by omega))) (fun _ => ?_)
      show KW x _ _ _ _ 496 _ _
      refine k_aload_n (f := 0) (i := 0) hg hy (by decide +kernel) rfl rfl rfl ?_
      refine k_get (idx := 16) (ci := 13) (k := 5) (v := .inl (.ref b)) hg hy hwG (by decide +kernel) ⟨RX11, TX11, 22, rfl, by decide, (TBg_at 1604 (by decide +kernel)), lay_X11⟩ ha rfl ?_
      refine k_bipush (z := 9) (v := nI 9) hg hy (by decide) (by decide +kernel) ?_
      refine k_iload_n (f := 1) (i := 1) hg hy (by decide +kernel) rfl rfl ?_
      refine k_iadd hg hy (by decide +kernel) ?_
      rw [nI_add]
      refine k_iconst (z := 1) (v := (1 : Int32)) hg hy (by decide) (by decide +kernel) ?_
      refine k_iastk (k := 9 + i) hg hy hwG (by decide +kernel) r1 (vpL (show 9 + i < 136 by omega) (by omega) ▸ trivial) (ixL (by omega)) (show G.2.2.1 ≤ b by omega) hS (fun H2 locs2 r1 z2 o2 hS => ?_)
      have ha := ha.kept (o2 _ (by omega))
      have r2 := r2.kept (o2 _ (by omega))
      have r3 := r3.kept (o2 _ (by omega))
      have r4 := r4.kept (o2 _ (by omega))
      have r5 := r5.kept (o2 _ (by omega))
      have r6 := r6.kept (o2 _ (by omega))
      have r7 := r7.kept (o2 _ (by omega))
      have r8 := r8.kept (o2 _ (by omega))
      have r9 := r9.kept (o2 _ (by omega))
      have r10 := r10.kept (o2 _ (by omega))
      have r11 := r11.kept (o2 _ (by omega))
      have oC : ∀ q : Nat, q < b → q ≠ a → H2[q]? = (wS x).heap[q]? := fun q h1 h2 => (o2 q (by omega)).trans (oC q h1 h2)
      have zc := z2.trans zc
      clear z2 o2
      refine k_iinc (i := 1) (z := 1) (w := nI 1) hg hy (by decide +kernel) (by decide) rfl (by decide) ?_
      refine k_goto (off := -19) (tgt := 490) hg hy (by decide +kernel) (by decide) ?_
      rw [nI_add]
      refine ih (i + 1) H2 locs2 _ (by omega) ha r2 r3 r4 r5 r6 r7 r8 r9 r10 r11 (r1.congr (fun j hj => vI0_s (by omega))) zc oC hS (List.forall_mem_cons.mpr ⟨rfl, List.forall_mem_cons.mpr ⟨rfl, fun _ h => absurd h List.not_mem_nil⟩⟩)
  refine k_aload_n (f := 0) (i := 0) hg hy (by decide +kernel) rfl rfl rfl ?_
  refine k_obj (idx := 1) hg hy (by decide +kernel) ⟨(TBg_at 1598 (by decide +kernel)), (TBg_at 102 (by decide +kernel)), (TBg_at 103 (by decide +kernel))⟩ (Nat.le_of_ble_eq_true rfl) ?_
  refine k_aload_n (f := 0) (i := 0) hg hy (by decide +kernel) rfl rfl rfl ?_
  refine k_iconst (z := -1) (v := (-1 : Int32)) hg hy (by decide) (by decide +kernel) ?_
  show KW x _ _ _ _ 6 _ _
  refine k_put (idx := 7) (ci := 13) (k := 2) (a := a) (fs := [.int 0, .int 0, .int 0, .int 0, .int 0, .null, .null, .null, .null, .null, .null, .null, .null, .null, .null, .null, .int 0, .int 0, .int 0, .int 0, .int 0, .int 0]) hg hy hwG hnm (by decide +kernel) ⟨RX11, TX11, 22, tyX11, .int, rfl, by decide, (TBg_at 1601 (by decide +kernel)), lay_X11, tyX11_ok, nmX11, rfl, rfl, rfl, rfl⟩ ha (Nat.le_of_ble_eq_true rfl) haA hS (fun H2 locs2 ha z2 o2 hS => ?_)
  have ha : cO G a 13 [.int 0, .int 0, .int (-1), .int 0, .int 0, .null, .null, .null, .null, .null, .null, .null, .null, .null, .null, .null, .int 0, .int 0, .int 0, .int 0, .int 0, .int 0] H2 := ha
  have oC : ∀ q : Nat, q < b → q ≠ a → H2[q]? = (wS x).heap[q]? := fun q h1 h2 => (o2 q h2).trans (oC q h1 h2)
  have zc : H2.size = b := z2.trans zc
  clear z2 o2
  refine k_aload_n (f := 0) (i := 0) hg hy (by decide +kernel) rfl rfl rfl ?_
  refine k_iconst (z := -1) (v := (-1 : Int32)) hg hy (by decide) (by decide +kernel) ?_
  show KW x _ _ _ _ 11 _ _
  refine k_put (idx := 13) (ci := 13) (k := 3) (a := a) (fs := [.int 0, .int 0, .int (-1), .int 0, .int 0, .null, .null, .null, .null, .null, .null, .null, .null, .null, .null, .null, .int 0, .int 0, .int 0, .int 0, .int 0, .int 0]) hg hy hwG hnm (by decide +kernel) ⟨RX11, TX11, 22, tyX11, .int, rfl, by decide, (TBg_at 1602 (by decide +kernel)), lay_X11, tyX11_ok, nmX11, rfl, rfl, rfl, rfl⟩ ha (Nat.le_of_ble_eq_true rfl) haA hS (fun H2 locs2 ha z2 o2 hS => ?_)
  have ha : cO G a 13 [.int 0, .int 0, .int (-1), .int (-1), .int 0, .null, .null, .null, .null, .null, .null, .null, .null, .null, .null, .null, .int 0, .int 0, .int 0, .int 0, .int 0, .int 0] H2 := ha
  have oC : ∀ q : Nat, q < b → q ≠ a → H2[q]? = (wS x).heap[q]? := fun q h1 h2 => (o2 q h2).trans (oC q h1 h2)
  have zc : H2.size = b := z2.trans zc
  clear z2 o2
  refine k_aload_n (f := 0) (i := 0) hg hy (by decide +kernel) rfl rfl rfl ?_
  refine k_sipush (z := 136) (v := (136 : Int32)) hg hy (by decide) (by decide +kernel) ?_
  show KW x _ _ _ _ 18 _ _
  refine k_newa (atype := .int) (t := 0) (N := 136) (a0 := (136, .inl (fun _ => 0))) hg hy hwG (by decide +kernel) (TBg_at 129 (by decide +kernel)) rfl (fun _ => rfl) (by decide) (by decide) (Nat.le_of_ble_eq_true rfl) hS (Nat.le_of_ble_eq_true rfl) (Nat.le_of_ble_eq_true rfl) (fun H2 c2 z2 o2 hS => ?_)
  rw [zc] at c2 z2 o2 ⊢
  have ha := ha.kept (o2 _ (by omega))
  have oC : ∀ q : Nat, q < b → q ≠ a → H2[q]? = (wS x).heap[q]? := fun q h1 h2 => (o2 q (by omega)).trans (oC q h1 h2)
  have zc : H2.size = b + 1 := by omega
  have r1 : cI G 0 b 136 (fun _ => 0) H2 := c2
  clear c2 z2 o2
  show KW x _ _ _ _ 20 _ _
  refine k_put (idx := 16) (ci := 13) (k := 5) (a := a) (fs := [.int 0, .int 0, .int (-1), .int (-1), .int 0, .null, .null, .null, .null, .null, .null, .null, .null, .null, .null, .null, .int 0, .int 0, .int 0, .int 0, .int 0, .int 0]) hg hy hwG hnm (by decide +kernel) ⟨RX11, TX11, 22, tyX11, (.array .int), rfl, by decide, (TBg_at 1604 (by decide +kernel)), lay_X11, tyX11_ok, nmX11, rfl, rfl, rfl, rfl⟩ ha (Nat.le_of_ble_eq_true rfl) haA hS (fun H2 locs2 ha z2 o2 hS => ?_)
  have ha : cO G a 13 [.int 0, .int 0, .int (-1), .int (-1), .int 0, .ref b, .null, .null, .null, .null, .null, .null, .null, .null, .null, .null, .int 0, .int 0, .int 0, .int 0, .int 0, .int 0] H2 := ha
  have r1 := r1.kept (o2 _ (by omega))
  have oC : ∀ q : Nat, q < b → q ≠ a → H2[q]? = (wS x).heap[q]? := fun q h1 h2 => (o2 q h2).trans (oC q h1 h2)
  have zc : H2.size = b + 1 := z2.trans zc
  clear z2 o2
  refine k_aload_n (f := 0) (i := 0) hg hy (by decide +kernel) rfl rfl rfl ?_
  refine k_sipush (z := 136) (v := (136 : Int32)) hg hy (by decide) (by decide +kernel) ?_
  show KW x _ _ _ _ 27 _ _
  refine k_newa (atype := .int) (t := 0) (N := 136) (a0 := (136, .inl (fun _ => 0))) hg hy hwG (by decide +kernel) (TBg_at 129 (by decide +kernel)) rfl (fun _ => rfl) (by decide) (by decide) (Nat.le_of_ble_eq_true rfl) hS (Nat.le_of_ble_eq_true rfl) (Nat.le_of_ble_eq_true rfl) (fun H2 c2 z2 o2 hS => ?_)
  rw [zc] at c2 z2 o2 ⊢
  have ha := ha.kept (o2 _ (by omega))
  have r1 := r1.kept (o2 _ (by omega))
  have oC : ∀ q : Nat, q < b → q ≠ a → H2[q]? = (wS x).heap[q]? := fun q h1 h2 => (o2 q (by omega)).trans (oC q h1 h2)
  have zc : H2.size = b + 2 := by omega
  have r2 : cI G 0 (b + 1) 136 (fun _ => 0) H2 := c2
  clear c2 z2 o2
  show KW x _ _ _ _ 29 _ _
  refine k_put (idx := 20) (ci := 13) (k := 6) (a := a) (fs := [.int 0, .int 0, .int (-1), .int (-1), .int 0, .ref b, .null, .null, .null, .null, .null, .null, .null, .null, .null, .null, .int 0, .int 0, .int 0, .int 0, .int 0, .int 0]) hg hy hwG hnm (by decide +kernel) ⟨RX11, TX11, 22, tyX11, (.array .int), rfl, by decide, (TBg_at 1605 (by decide +kernel)), lay_X11, tyX11_ok, nmX11, rfl, rfl, rfl, rfl⟩ ha (Nat.le_of_ble_eq_true rfl) haA hS (fun H2 locs2 ha z2 o2 hS => ?_)
  have ha : cO G a 13 [.int 0, .int 0, .int (-1), .int (-1), .int 0, .ref b, .ref (b + 1), .null, .null, .null, .null, .null, .null, .null, .null, .null, .int 0, .int 0, .int 0, .int 0, .int 0, .int 0] H2 := ha
  have r1 := r1.kept (o2 _ (by omega))
  have r2 := r2.kept (o2 _ (by omega))
  have oC : ∀ q : Nat, q < b → q ≠ a → H2[q]? = (wS x).heap[q]? := fun q h1 h2 => (o2 q h2).trans (oC q h1 h2)
  have zc : H2.size = b + 2 := z2.trans zc
  clear z2 o2
  refine k_aload_n (f := 0) (i := 0) hg hy (by decide +kernel) rfl rfl rfl ?_
  refine k_sipush (z := 136) (v := (136 : Int32)) hg hy (by decide) (by decide +kernel) ?_
  show KW x _ _ _ _ 36 _ _
  refine k_newa (atype := .int) (t := 0) (N := 136) (a0 := (136, .inl (fun _ => 0))) hg hy hwG (by decide +kernel) (TBg_at 129 (by decide +kernel)) rfl (fun _ => rfl) (by decide) (by decide) (Nat.le_of_ble_eq_true rfl) hS (Nat.le_of_ble_eq_true rfl) (Nat.le_of_ble_eq_true rfl) (fun H2 c2 z2 o2 hS => ?_)
  rw [zc] at c2 z2 o2 ⊢
  have ha := ha.kept (o2 _ (by omega))
  have r1 := r1.kept (o2 _ (by omega))
  have r2 := r2.kept (o2 _ (by omega))
  have oC : ∀ q : Nat, q < b → q ≠ a → H2[q]? = (wS x).heap[q]? := fun q h1 h2 => (o2 q (by omega)).trans (oC q h1 h2)
  have zc : H2.size = b + 3 := by omega
  have r3 : cI G 0 (b + 2) 136 (fun _ => 0) H2 := c2
  clear c2 z2 o2
  show KW x _ _ _ _ 38 _ _
  refine k_put (idx := 23) (ci := 13) (k := 7) (a := a) (fs := [.int 0, .int 0, .int (-1), .int (-1), .int 0, .ref b, .ref (b + 1), .null, .null, .null, .null, .null, .null, .null, .null, .null, .int 0, .int 0, .int 0, .int 0, .int 0, .int 0]) hg hy hwG hnm (by decide +kernel) ⟨RX11, TX11, 22, tyX11, (.array .int), rfl, by decide, (TBg_at 1606 (by decide +kernel)), lay_X11, tyX11_ok, nmX11, rfl, rfl, rfl, rfl⟩ ha (Nat.le_of_ble_eq_true rfl) haA hS (fun H2 locs2 ha z2 o2 hS => ?_)
  have ha : cO G a 13 [.int 0, .int 0, .int (-1), .int (-1), .int 0, .ref b, .ref (b + 1), .ref (b + 2), .null, .null, .null, .null, .null, .null, .null, .null, .int 0, .int 0, .int 0, .int 0, .int 0, .int 0] H2 := ha
  have r1 := r1.kept (o2 _ (by omega))
  have r2 := r2.kept (o2 _ (by omega))
  have r3 := r3.kept (o2 _ (by omega))
  have oC : ∀ q : Nat, q < b → q ≠ a → H2[q]? = (wS x).heap[q]? := fun q h1 h2 => (o2 q h2).trans (oC q h1 h2)
  have zc : H2.size = b + 3 := z2.trans zc
  clear z2 o2
  refine k_aload_n (f := 0) (i := 0) hg hy (by decide +kernel) rfl rfl rfl ?_
  refine k_sipush (z := 1088) (v := (1088 : Int32)) hg hy (by decide) (by decide +kernel) ?_
  show KW x _ _ _ _ 45 _ _
  refine k_newa (atype := .int) (t := 0) (N := 1088) (a0 := (1088, .inl (fun _ => 0))) hg hy hwG (by decide +kernel) (TBg_at 129 (by decide +kernel)) rfl (fun _ => rfl) (by decide) (by decide) (Nat.le_of_ble_eq_true rfl) hS (Nat.le_of_ble_eq_true rfl) (Nat.le_of_ble_eq_true rfl) (fun H2 c2 z2 o2 hS => ?_)
  rw [zc] at c2 z2 o2 ⊢
  have ha := ha.kept (o2 _ (by omega))
  have r1 := r1.kept (o2 _ (by omega))
  have r2 := r2.kept (o2 _ (by omega))
  have r3 := r3.kept (o2 _ (by omega))
  have oC : ∀ q : Nat, q < b → q ≠ a → H2[q]? = (wS x).heap[q]? := fun q h1 h2 => (o2 q (by omega)).trans (oC q h1 h2)
  have zc : H2.size = b + 4 := by omega
  have r4 : cI G 0 (b + 3) 1088 (fun _ => 0) H2 := c2
  clear c2 z2 o2
  show KW x _ _ _ _ 47 _ _
  refine k_put (idx := 26) (ci := 13) (k := 8) (a := a) (fs := [.int 0, .int 0, .int (-1), .int (-1), .int 0, .ref b, .ref (b + 1), .ref (b + 2), .null, .null, .null, .null, .null, .null, .null, .null, .int 0, .int 0, .int 0, .int 0, .int 0, .int 0]) hg hy hwG hnm (by decide +kernel) ⟨RX11, TX11, 22, tyX11, (.array .int), rfl, by decide, (TBg_at 1607 (by decide +kernel)), lay_X11, tyX11_ok, nmX11, rfl, rfl, rfl, rfl⟩ ha (Nat.le_of_ble_eq_true rfl) haA hS (fun H2 locs2 ha z2 o2 hS => ?_)
  have ha : cO G a 13 [.int 0, .int 0, .int (-1), .int (-1), .int 0, .ref b, .ref (b + 1), .ref (b + 2), .ref (b + 3), .null, .null, .null, .null, .null, .null, .null, .int 0, .int 0, .int 0, .int 0, .int 0, .int 0] H2 := ha
  have r1 := r1.kept (o2 _ (by omega))
  have r2 := r2.kept (o2 _ (by omega))
  have r3 := r3.kept (o2 _ (by omega))
  have r4 := r4.kept (o2 _ (by omega))
  have oC : ∀ q : Nat, q < b → q ≠ a → H2[q]? = (wS x).heap[q]? := fun q h1 h2 => (o2 q h2).trans (oC q h1 h2)
  have zc : H2.size = b + 4 := z2.trans zc
  clear z2 o2
  refine k_aload_n (f := 0) (i := 0) hg hy (by decide +kernel) rfl rfl rfl ?_
  refine k_sipush (z := 352) (v := (352 : Int32)) hg hy (by decide) (by decide +kernel) ?_
  show KW x _ _ _ _ 54 _ _
  refine k_newa (atype := .int) (t := 0) (N := 352) (a0 := (352, .inl (fun _ => 0))) hg hy hwG (by decide +kernel) (TBg_at 129 (by decide +kernel)) rfl (fun _ => rfl) (by decide) (by decide) (Nat.le_of_ble_eq_true rfl) hS (Nat.le_of_ble_eq_true rfl) (Nat.le_of_ble_eq_true rfl) (fun H2 c2 z2 o2 hS => ?_)
  rw [zc] at c2 z2 o2 ⊢
  have ha := ha.kept (o2 _ (by omega))
  have r1 := r1.kept (o2 _ (by omega))
  have r2 := r2.kept (o2 _ (by omega))
  have r3 := r3.kept (o2 _ (by omega))
  have r4 := r4.kept (o2 _ (by omega))
  have oC : ∀ q : Nat, q < b → q ≠ a → H2[q]? = (wS x).heap[q]? := fun q h1 h2 => (o2 q (by omega)).trans (oC q h1 h2)
  have zc : H2.size = b + 5 := by omega
  have r5 : cI G 0 (b + 4) 352 (fun _ => 0) H2 := c2
  clear c2 z2 o2
  show KW x _ _ _ _ 56 _ _
  refine k_put (idx := 29) (ci := 13) (k := 9) (a := a) (fs := [.int 0, .int 0, .int (-1), .int (-1), .int 0, .ref b, .ref (b + 1), .ref (b + 2), .ref (b + 3), .null, .null, .null, .null, .null, .null, .null, .int 0, .int 0, .int 0, .int 0, .int 0, .int 0]) hg hy hwG hnm (by decide +kernel) ⟨RX11, TX11, 22, tyX11, (.array .int), rfl, by decide, (TBg_at 1608 (by decide +kernel)), lay_X11, tyX11_ok, nmX11, rfl, rfl, rfl, rfl⟩ ha (Nat.le_of_ble_eq_true rfl) haA hS (fun H2 locs2 ha z2 o2 hS => ?_)
  have ha : cO G a 13 [.int 0, .int 0, .int (-1), .int (-1), .int 0, .ref b, .ref (b + 1), .ref (b + 2), .ref (b + 3), .ref (b + 4), .null, .null, .null, .null, .null, .null, .int 0, .int 0, .int 0, .int 0, .int 0, .int 0] H2 := ha
  have r1 := r1.kept (o2 _ (by omega))
  have r2 := r2.kept (o2 _ (by omega))
  have r3 := r3.kept (o2 _ (by omega))
  have r4 := r4.kept (o2 _ (by omega))
  have r5 := r5.kept (o2 _ (by omega))
  have oC : ∀ q : Nat, q < b → q ≠ a → H2[q]? = (wS x).heap[q]? := fun q h1 h2 => (o2 q h2).trans (oC q h1 h2)
  have zc : H2.size = b + 5 := z2.trans zc
  clear z2 o2
  refine k_aload_n (f := 0) (i := 0) hg hy (by decide +kernel) rfl rfl rfl ?_
  refine k_bipush (z := 10) (v := (10 : Int32)) hg hy (by decide) (by decide +kernel) ?_
  show KW x _ _ _ _ 62 _ _
  refine k_newa (atype := .int) (t := 0) (N := 10) (a0 := (10, .inl (fun _ => 0))) hg hy hwG (by decide +kernel) (TBg_at 129 (by decide +kernel)) rfl (fun _ => rfl) (by decide) (by decide) (Nat.le_of_ble_eq_true rfl) hS (Nat.le_of_ble_eq_true rfl) (Nat.le_of_ble_eq_true rfl) (fun H2 c2 z2 o2 hS => ?_)
  rw [zc] at c2 z2 o2 ⊢
  have ha := ha.kept (o2 _ (by omega))
  have r1 := r1.kept (o2 _ (by omega))
  have r2 := r2.kept (o2 _ (by omega))
  have r3 := r3.kept (o2 _ (by omega))
  have r4 := r4.kept (o2 _ (by omega))
  have r5 := r5.kept (o2 _ (by omega))
  have oC : ∀ q : Nat, q < b → q ≠ a → H2[q]? = (wS x).heap[q]? := fun q h1 h2 => (o2 q (by omega)).trans (oC q h1 h2)
  have zc : H2.size = b + 6 := by omega
  have r6 : cI G 0 (b + 5) 10 (fun _ => 0) H2 := c2
  clear c2 z2 o2
  show KW x _ _ _ _ 64 _ _
  refine k_put (idx := 32) (ci := 13) (k := 10) (a := a) (fs := [.int 0, .int 0, .int (-1), .int (-1), .int 0, .ref b, .ref (b + 1), .ref (b + 2), .ref (b + 3), .ref (b + 4), .null, .null, .null, .null, .null, .null, .int 0, .int 0, .int 0, .int 0, .int 0, .int 0]) hg hy hwG hnm (by decide +kernel) ⟨RX11, TX11, 22, tyX11, (.array .int), rfl, by decide, (TBg_at 1609 (by decide +kernel)), lay_X11, tyX11_ok, nmX11, rfl, rfl, rfl, rfl⟩ ha (Nat.le_of_ble_eq_true rfl) haA hS (fun H2 locs2 ha z2 o2 hS => ?_)
  have ha : cO G a 13 [.int 0, .int 0, .int (-1), .int (-1), .int 0, .ref b, .ref (b + 1), .ref (b + 2), .ref (b + 3), .ref (b + 4), .ref (b + 5), .null, .null, .null, .null, .null, .int 0, .int 0, .int 0, .int 0, .int 0, .int 0] H2 := ha
  have r1 := r1.kept (o2 _ (by omega))
  have r2 := r2.kept (o2 _ (by omega))
  have r3 := r3.kept (o2 _ (by omega))
  have r4 := r4.kept (o2 _ (by omega))
  have r5 := r5.kept (o2 _ (by omega))
  have r6 := r6.kept (o2 _ (by omega))
  have oC : ∀ q : Nat, q < b → q ≠ a → H2[q]? = (wS x).heap[q]? := fun q h1 h2 => (o2 q h2).trans (oC q h1 h2)
  have zc : H2.size = b + 6 := z2.trans zc
  clear z2 o2
  refine k_aload_n (f := 0) (i := 0) hg hy (by decide +kernel) rfl rfl rfl ?_
  refine k_bipush (z := 60) (v := (60 : Int32)) hg hy (by decide) (by decide +kernel) ?_
  show KW x _ _ _ _ 70 _ _
  refine k_newa (atype := .int) (t := 0) (N := 60) (a0 := (60, .inl (fun _ => 0))) hg hy hwG (by decide +kernel) (TBg_at 129 (by decide +kernel)) rfl (fun _ => rfl) (by decide) (by decide) (Nat.le_of_ble_eq_true rfl) hS (Nat.le_of_ble_eq_true rfl) (Nat.le_of_ble_eq_true rfl) (fun H2 c2 z2 o2 hS => ?_)
  rw [zc] at c2 z2 o2 ⊢
  have ha := ha.kept (o2 _ (by omega))
  have r1 := r1.kept (o2 _ (by omega))
  have r2 := r2.kept (o2 _ (by omega))
  have r3 := r3.kept (o2 _ (by omega))
  have r4 := r4.kept (o2 _ (by omega))
  have r5 := r5.kept (o2 _ (by omega))
  have r6 := r6.kept (o2 _ (by omega))
  have oC : ∀ q : Nat, q < b → q ≠ a → H2[q]? = (wS x).heap[q]? := fun q h1 h2 => (o2 q (by omega)).trans (oC q h1 h2)
  have zc : H2.size = b + 7 := by omega
  have r7 : cI G 0 (b + 6) 60 (fun _ => 0) H2 := c2
  clear c2 z2 o2
  show KW x _ _ _ _ 72 _ _
  refine k_put (idx := 35) (ci := 13) (k := 11) (a := a) (fs := [.int 0, .int 0, .int (-1), .int (-1), .int 0, .ref b, .ref (b + 1), .ref (b + 2), .ref (b + 3), .ref (b + 4), .ref (b + 5), .null, .null, .null, .null, .null, .int 0, .int 0, .int 0, .int 0, .int 0, .int 0]) hg hy hwG hnm (by decide +kernel) ⟨RX11, TX11, 22, tyX11, (.array .int), rfl, by decide, (TBg_at 1610 (by decide +kernel)), lay_X11, tyX11_ok, nmX11, rfl, rfl, rfl, rfl⟩ ha (Nat.le_of_ble_eq_true rfl) haA hS (fun H2 locs2 ha z2 o2 hS => ?_)
  have ha : cO G a 13 [.int 0, .int 0, .int (-1), .int (-1), .int 0, .ref b, .ref (b + 1), .ref (b + 2), .ref (b + 3), .ref (b + 4), .ref (b + 5), .ref (b + 6), .null, .null, .null, .null, .int 0, .int 0, .int 0, .int 0, .int 0, .int 0] H2 := ha
  have r1 := r1.kept (o2 _ (by omega))
  have r2 := r2.kept (o2 _ (by omega))
  have r3 := r3.kept (o2 _ (by omega))
  have r4 := r4.kept (o2 _ (by omega))
  have r5 := r5.kept (o2 _ (by omega))
  have r6 := r6.kept (o2 _ (by omega))
  have r7 := r7.kept (o2 _ (by omega))
  have oC : ∀ q : Nat, q < b → q ≠ a → H2[q]? = (wS x).heap[q]? := fun q h1 h2 => (o2 q h2).trans (oC q h1 h2)
  have zc : H2.size = b + 7 := z2.trans zc
  clear z2 o2
  refine k_aload_n (f := 0) (i := 0) hg hy (by decide +kernel) rfl rfl rfl ?_
  refine k_bipush (z := 80) (v := (80 : Int32)) hg hy (by decide) (by decide +kernel) ?_
  show KW x _ _ _ _ 78 _ _
  refine k_newa (atype := .int) (t := 0) (N := 80) (a0 := (80, .inl (fun _ => 0))) hg hy hwG (by decide +kernel) (TBg_at 129 (by decide +kernel)) rfl (fun _ => rfl) (by decide) (by decide) (Nat.le_of_ble_eq_true rfl) hS (Nat.le_of_ble_eq_true rfl) (Nat.le_of_ble_eq_true rfl) (fun H2 c2 z2 o2 hS => ?_)
  rw [zc] at c2 z2 o2 ⊢
  have ha := ha.kept (o2 _ (by omega))
  have r1 := r1.kept (o2 _ (by omega))
  have r2 := r2.kept (o2 _ (by omega))
  have r3 := r3.kept (o2 _ (by omega))
  have r4 := r4.kept (o2 _ (by omega))
  have r5 := r5.kept (o2 _ (by omega))
  have r6 := r6.kept (o2 _ (by omega))
  have r7 := r7.kept (o2 _ (by omega))
  have oC : ∀ q : Nat, q < b → q ≠ a → H2[q]? = (wS x).heap[q]? := fun q h1 h2 => (o2 q (by omega)).trans (oC q h1 h2)
  have zc : H2.size = b + 8 := by omega
  have r8 : cI G 0 (b + 7) 80 (fun _ => 0) H2 := c2
  clear c2 z2 o2
  show KW x _ _ _ _ 80 _ _
  refine k_put (idx := 38) (ci := 13) (k := 12) (a := a) (fs := [.int 0, .int 0, .int (-1), .int (-1), .int 0, .ref b, .ref (b + 1), .ref (b + 2), .ref (b + 3), .ref (b + 4), .ref (b + 5), .ref (b + 6), .null, .null, .null, .null, .int 0, .int 0, .int 0, .int 0, .int 0, .int 0]) hg hy hwG hnm (by decide +kernel) ⟨RX11, TX11, 22, tyX11, (.array .int), rfl, by decide, (TBg_at 1611 (by decide +kernel)), lay_X11, tyX11_ok, nmX11, rfl, rfl, rfl, rfl⟩ ha (Nat.le_of_ble_eq_true rfl) haA hS (fun H2 locs2 ha z2 o2 hS => ?_)
  have ha : cO G a 13 [.int 0, .int 0, .int (-1), .int (-1), .int 0, .ref b, .ref (b + 1), .ref (b + 2), .ref (b + 3), .ref (b + 4), .ref (b + 5), .ref (b + 6), .ref (b + 7), .null, .null, .null, .int 0, .int 0, .int 0, .int 0, .int 0, .int 0] H2 := ha
  have r1 := r1.kept (o2 _ (by omega))
  have r2 := r2.kept (o2 _ (by omega))
  have r3 := r3.kept (o2 _ (by omega))
  have r4 := r4.kept (o2 _ (by omega))
  have r5 := r5.kept (o2 _ (by omega))
  have r6 := r6.kept (o2 _ (by omega))
  have r7 := r7.kept (o2 _ (by omega))
  have r8 := r8.kept (o2 _ (by omega))
  have oC : ∀ q : Nat, q < b → q ≠ a → H2[q]? = (wS x).heap[q]? := fun q h1 h2 => (o2 q h2).trans (oC q h1 h2)
  have zc : H2.size = b + 8 := z2.trans zc
  clear z2 o2
  refine k_aload_n (f := 0) (i := 0) hg hy (by decide +kernel) rfl rfl rfl ?_
  refine k_bipush (z := 9) (v := (9 : Int32)) hg hy (by decide) (by decide +kernel) ?_
  show KW x _ _ _ _ 86 _ _
  refine k_newa (atype := .int) (t := 0) (N := 9) (a0 := (9, .inl (fun _ => 0))) hg hy hwG (by decide +kernel) (TBg_at 129 (by decide +kernel)) rfl (fun _ => rfl) (by decide) (by decide) (Nat.le_of_ble_eq_true rfl) hS (Nat.le_of_ble_eq_true rfl) (Nat.le_of_ble_eq_true rfl) (fun H2 c2 z2 o2 hS => ?_)
  rw [zc] at c2 z2 o2 ⊢
  have ha := ha.kept (o2 _ (by omega))
  have r1 := r1.kept (o2 _ (by omega))
  have r2 := r2.kept (o2 _ (by omega))
  have r3 := r3.kept (o2 _ (by omega))
  have r4 := r4.kept (o2 _ (by omega))
  have r5 := r5.kept (o2 _ (by omega))
  have r6 := r6.kept (o2 _ (by omega))
  have r7 := r7.kept (o2 _ (by omega))
  have r8 := r8.kept (o2 _ (by omega))
  have oC : ∀ q : Nat, q < b → q ≠ a → H2[q]? = (wS x).heap[q]? := fun q h1 h2 => (o2 q (by omega)).trans (oC q h1 h2)
  have zc : H2.size = b + 9 := by omega
  have r9 : cI G 0 (b + 8) 9 (fun _ => 0) H2 := c2
  clear c2 z2 o2
  show KW x _ _ _ _ 88 _ _
  refine k_put (idx := 41) (ci := 13) (k := 13) (a := a) (fs := [.int 0, .int 0, .int (-1), .int (-1), .int 0, .ref b, .ref (b + 1), .ref (b + 2), .ref (b + 3), .ref (b + 4), .ref (b + 5), .ref (b + 6), .ref (b + 7), .null, .null, .null, .int 0, .int 0, .int 0, .int 0, .int 0, .int 0]) hg hy hwG hnm (by decide +kernel) ⟨RX11, TX11, 22, tyX11, (.array .int), rfl, by decide, (TBg_at 1612 (by decide +kernel)), lay_X11, tyX11_ok, nmX11, rfl, rfl, rfl, rfl⟩ ha (Nat.le_of_ble_eq_true rfl) haA hS (fun H2 locs2 ha z2 o2 hS => ?_)
  have ha : cO G a 13 [.int 0, .int 0, .int (-1), .int (-1), .int 0, .ref b, .ref (b + 1), .ref (b + 2), .ref (b + 3), .ref (b + 4), .ref (b + 5), .ref (b + 6), .ref (b + 7), .ref (b + 8), .null, .null, .int 0, .int 0, .int 0, .int 0, .int 0, .int 0] H2 := ha
  have r1 := r1.kept (o2 _ (by omega))
  have r2 := r2.kept (o2 _ (by omega))
  have r3 := r3.kept (o2 _ (by omega))
  have r4 := r4.kept (o2 _ (by omega))
  have r5 := r5.kept (o2 _ (by omega))
  have r6 := r6.kept (o2 _ (by omega))
  have r7 := r7.kept (o2 _ (by omega))
  have r8 := r8.kept (o2 _ (by omega))
  have r9 := r9.kept (o2 _ (by omega))
  have oC : ∀ q : Nat, q < b → q ≠ a → H2[q]? = (wS x).heap[q]? := fun q h1 h2 => (o2 q h2).trans (oC q h1 h2)
  have zc : H2.size = b + 9 := z2.trans zc
  clear z2 o2
  refine k_aload_n (f := 0) (i := 0) hg hy (by decide +kernel) rfl rfl rfl ?_
  refine k_bipush (z := 53) (v := (53 : Int32)) hg hy (by decide) (by decide +kernel) ?_
  show KW x _ _ _ _ 94 _ _
  refine k_newa (atype := .int) (t := 0) (N := 53) (a0 := (53, .inl (fun _ => 0))) hg hy hwG (by decide +kernel) (TBg_at 129 (by decide +kernel)) rfl (fun _ => rfl) (by decide) (by decide) (Nat.le_of_ble_eq_true rfl) hS (Nat.le_of_ble_eq_true rfl) (Nat.le_of_ble_eq_true rfl) (fun H2 c2 z2 o2 hS => ?_)
  rw [zc] at c2 z2 o2 ⊢
  have ha := ha.kept (o2 _ (by omega))
  have r1 := r1.kept (o2 _ (by omega))
  have r2 := r2.kept (o2 _ (by omega))
  have r3 := r3.kept (o2 _ (by omega))
  have r4 := r4.kept (o2 _ (by omega))
  have r5 := r5.kept (o2 _ (by omega))
  have r6 := r6.kept (o2 _ (by omega))
  have r7 := r7.kept (o2 _ (by omega))
  have r8 := r8.kept (o2 _ (by omega))
  have r9 := r9.kept (o2 _ (by omega))
  have oC : ∀ q : Nat, q < b → q ≠ a → H2[q]? = (wS x).heap[q]? := fun q h1 h2 => (o2 q (by omega)).trans (oC q h1 h2)
  have zc : H2.size = b + 10 := by omega
  have r10 : cI G 0 (b + 9) 53 (fun _ => 0) H2 := c2
  clear c2 z2 o2
  have r10 := r10.nil
  refine k_dup hg hy rfl (by decide +kernel) ?_
  refine k_iconst (z := 0) (v := (0 : Int32)) hg hy (by decide) (by decide +kernel) ?_
  refine k_bipush (z := 112) (v := (112 : Int32)) hg hy (by decide) (by decide +kernel) ?_
  show KW x _ _ _ _ 100 _ _
  refine k_iastk (k := 0) hg hy hwG (by decide +kernel) r10 (by decide) (by decide) (show G.2.2.1 ≤ (b + 9) by omega) hS (fun H2 locs2 c2 z2 o2 hS => ?_)
  have ha := ha.kept (o2 _ (by omega))
  have r1 := r1.kept (o2 _ (by omega))
  have r2 := r2.kept (o2 _ (by omega))
  have r3 := r3.kept (o2 _ (by omega))
  have r4 := r4.kept (o2 _ (by omega))
  have r5 := r5.kept (o2 _ (by omega))
  have r6 := r6.kept (o2 _ (by omega))
  have r7 := r7.kept (o2 _ (by omega))
  have r8 := r8.kept (o2 _ (by omega))
  have r9 := r9.kept (o2 _ (by omega))
  have r10 : cI G 0 (b + 9) 53 (lstI [112]) H2 := c2.snoc (L := []) rfl
  have oC : ∀ q : Nat, q < b → q ≠ a → H2[q]? = (wS x).heap[q]? := fun q h1 h2 => (o2 q (by omega)).trans (oC q h1 h2)
  have zc : H2.size = b + 10 := z2.trans zc
  clear c2 z2 o2
  refine k_dup hg hy rfl (by decide +kernel) ?_
  refine k_iconst (z := 1) (v := (1 : Int32)) hg hy (by decide) (by decide +kernel) ?_
  refine k_bipush (z := 108) (v := (108 : Int32)) hg hy (by decide) (by decide +kernel) ?_
  show KW x _ _ _ _ 105 _ _
  refine k_iastk (k := 1) hg hy hwG (by decide +kernel) r10 (by decide) (by decide) (show G.2.2.1 ≤ (b + 9) by omega) hS (fun H2 locs2 c2 z2 o2 hS => ?_)
  have ha := ha.kept (o2 _ (by omega))
  have r1 := r1.kept (o2 _ (by omega))
  have r2 := r2.kept (o2 _ (by omega))
  have r3 := r3.kept (o2 _ (by omega))
  have r4 := r4.kept (o2 _ (by omega))
  have r5 := r5.kept (o2 _ (by omega))
  have r6 := r6.kept (o2 _ (by omega))
  have r7 := r7.kept (o2 _ (by omega))
  have r8 := r8.kept (o2 _ (by omega))
  have r9 := r9.kept (o2 _ (by omega))
  have r10 : cI G 0 (b + 9) 53 (lstI [112, 108]) H2 := c2.snoc (L := [112]) rfl
  have oC : ∀ q : Nat, q < b → q ≠ a → H2[q]? = (wS x).heap[q]? := fun q h1 h2 => (o2 q (by omega)).trans (oC q h1 h2)
  have zc : H2.size = b + 10 := z2.trans zc
  clear c2 z2 o2
  refine k_dup hg hy rfl (by decide +kernel) ?_
  refine k_iconst (z := 2) (v := (2 : Int32)) hg hy (by decide) (by decide +kernel) ?_
  refine k_bipush (z := 101) (v := (101 : Int32)) hg hy (by decide) (by decide +kernel) ?_
  show KW x _ _ _ _ 110 _ _
  refine k_iastk (k := 2) hg hy hwG (by decide +kernel) r10 (by decide) (by decide) (show G.2.2.1 ≤ (b + 9) by omega) hS (fun H2 locs2 c2 z2 o2 hS => ?_)
  have ha := ha.kept (o2 _ (by omega))
  have r1 := r1.kept (o2 _ (by omega))
  have r2 := r2.kept (o2 _ (by omega))
  have r3 := r3.kept (o2 _ (by omega))
  have r4 := r4.kept (o2 _ (by omega))
  have r5 := r5.kept (o2 _ (by omega))
  have r6 := r6.kept (o2 _ (by omega))
  have r7 := r7.kept (o2 _ (by omega))
  have r8 := r8.kept (o2 _ (by omega))
  have r9 := r9.kept (o2 _ (by omega))
  have r10 : cI G 0 (b + 9) 53 (lstI [112, 108, 101]) H2 := c2.snoc (L := [112, 108]) rfl
  have oC : ∀ q : Nat, q < b → q ≠ a → H2[q]? = (wS x).heap[q]? := fun q h1 h2 => (o2 q (by omega)).trans (oC q h1 h2)
  have zc : H2.size = b + 10 := z2.trans zc
  clear c2 z2 o2
  refine k_dup hg hy rfl (by decide +kernel) ?_
  refine k_iconst (z := 3) (v := (3 : Int32)) hg hy (by decide) (by decide +kernel) ?_
  refine k_bipush (z := 100) (v := (100 : Int32)) hg hy (by decide) (by decide +kernel) ?_
  show KW x _ _ _ _ 115 _ _
  refine k_iastk (k := 3) hg hy hwG (by decide +kernel) r10 (by decide) (by decide) (show G.2.2.1 ≤ (b + 9) by omega) hS (fun H2 locs2 c2 z2 o2 hS => ?_)
  have ha := ha.kept (o2 _ (by omega))
  have r1 := r1.kept (o2 _ (by omega))
  have r2 := r2.kept (o2 _ (by omega))
  have r3 := r3.kept (o2 _ (by omega))
  have r4 := r4.kept (o2 _ (by omega))
  have r5 := r5.kept (o2 _ (by omega))
  have r6 := r6.kept (o2 _ (by omega))
  have r7 := r7.kept (o2 _ (by omega))
  have r8 := r8.kept (o2 _ (by omega))
  have r9 := r9.kept (o2 _ (by omega))
  have r10 : cI G 0 (b + 9) 53 (lstI [112, 108, 101, 100]) H2 := c2.snoc (L := [112, 108, 101]) rfl
  have oC : ∀ q : Nat, q < b → q ≠ a → H2[q]? = (wS x).heap[q]? := fun q h1 h2 => (o2 q (by omega)).trans (oC q h1 h2)
  have zc : H2.size = b + 10 := z2.trans zc
  clear c2 z2 o2
  refine k_dup hg hy rfl (by decide +kernel) ?_
  refine k_iconst (z := 4) (v := (4 : Int32)) hg hy (by decide) (by decide +kernel) ?_
  refine k_bipush (z := 103) (v := (103 : Int32)) hg hy (by decide) (by decide +kernel) ?_
  show KW x _ _ _ _ 120 _ _
  refine k_iastk (k := 4) hg hy hwG (by decide +kernel) r10 (by decide) (by decide) (show G.2.2.1 ≤ (b + 9) by omega) hS (fun H2 locs2 c2 z2 o2 hS => ?_)
  have ha := ha.kept (o2 _ (by omega))
  have r1 := r1.kept (o2 _ (by omega))
  have r2 := r2.kept (o2 _ (by omega))
  have r3 := r3.kept (o2 _ (by omega))
  have r4 := r4.kept (o2 _ (by omega))
  have r5 := r5.kept (o2 _ (by omega))
  have r6 := r6.kept (o2 _ (by omega))
  have r7 := r7.kept (o2 _ (by omega))
  have r8 := r8.kept (o2 _ (by omega))
  have r9 := r9.kept (o2 _ (by omega))
  have r10 : cI G 0 (b + 9) 53 (lstI [112, 108, 101, 100, 103]) H2 := c2.snoc (L := [112, 108, 101, 100]) rfl
  have oC : ∀ q : Nat, q < b → q ≠ a → H2[q]? = (wS x).heap[q]? := fun q h1 h2 => (o2 q (by omega)).trans (oC q h1 h2)
  have zc : H2.size = b + 10 := z2.trans zc
  clear c2 z2 o2
  refine k_dup hg hy rfl (by decide +kernel) ?_
  refine k_iconst (z := 5) (v := (5 : Int32)) hg hy (by decide) (by decide +kernel) ?_
  refine k_bipush (z := 101) (v := (101 : Int32)) hg hy (by decide) (by decide +kernel) ?_
  show KW x _ _ _ _ 125 _ _
  refine k_iastk (k := 5) hg hy hwG (by decide +kernel) r10 (by decide) (by decide) (show G.2.2.1 ≤ (b + 9) by omega) hS (fun H2 locs2 c2 z2 o2 hS => ?_)
  have ha := ha.kept (o2 _ (by omega))
  have r1 := r1.kept (o2 _ (by omega))
  have r2 := r2.kept (o2 _ (by omega))
  have r3 := r3.kept (o2 _ (by omega))
  have r4 := r4.kept (o2 _ (by omega))
  have r5 := r5.kept (o2 _ (by omega))
  have r6 := r6.kept (o2 _ (by omega))
  have r7 := r7.kept (o2 _ (by omega))
  have r8 := r8.kept (o2 _ (by omega))
  have r9 := r9.kept (o2 _ (by omega))
  have r10 : cI G 0 (b + 9) 53 (lstI [112, 108, 101, 100, 103, 101]) H2 := c2.snoc (L := [112, 108, 101, 100, 103]) rfl
  have oC : ∀ q : Nat, q < b → q ≠ a → H2[q]? = (wS x).heap[q]? := fun q h1 h2 => (o2 q (by omega)).trans (oC q h1 h2)
  have zc : H2.size = b + 10 := z2.trans zc
  clear c2 z2 o2
  refine k_dup hg hy rfl (by decide +kernel) ?_
  refine k_bipush (z := 6) (v := (6 : Int32)) hg hy (by decide) (by decide +kernel) ?_
  refine k_bipush (z := 32) (v := (32 : Int32)) hg hy (by decide) (by decide +kernel) ?_
  show KW x _ _ _ _ 131 _ _
  refine k_iastk (k := 6) hg hy hwG (by decide +kernel) r10 (by decide) (by decide) (show G.2.2.1 ≤ (b + 9) by omega) hS (fun H2 locs2 c2 z2 o2 hS => ?_)
  have ha := ha.kept (o2 _ (by omega))
  have r1 := r1.kept (o2 _ (by omega))
  have r2 := r2.kept (o2 _ (by omega))
  have r3 := r3.kept (o2 _ (by omega))
  have r4 := r4.kept (o2 _ (by omega))
  have r5 := r5.kept (o2 _ (by omega))
  have r6 := r6.kept (o2 _ (by omega))
  have r7 := r7.kept (o2 _ (by omega))
  have r8 := r8.kept (o2 _ (by omega))
  have r9 := r9.kept (o2 _ (by omega))
  have r10 : cI G 0 (b + 9) 53 (lstI [112, 108, 101, 100, 103, 101, 32]) H2 := c2.snoc (L := [112, 108, 101, 100, 103, 101]) rfl
  have oC : ∀ q : Nat, q < b → q ≠ a → H2[q]? = (wS x).heap[q]? := fun q h1 h2 => (o2 q (by omega)).trans (oC q h1 h2)
  have zc : H2.size = b + 10 := z2.trans zc
  clear c2 z2 o2
  refine k_dup hg hy rfl (by decide +kernel) ?_
  refine k_bipush (z := 7) (v := (7 : Int32)) hg hy (by decide) (by decide +kernel) ?_
  refine k_bipush (z := 114) (v := (114 : Int32)) hg hy (by decide) (by decide +kernel) ?_
  show KW x _ _ _ _ 137 _ _
  refine k_iastk (k := 7) hg hy hwG (by decide +kernel) r10 (by decide) (by decide) (show G.2.2.1 ≤ (b + 9) by omega) hS (fun H2 locs2 c2 z2 o2 hS => ?_)
  have ha := ha.kept (o2 _ (by omega))
  have r1 := r1.kept (o2 _ (by omega))
  have r2 := r2.kept (o2 _ (by omega))
  have r3 := r3.kept (o2 _ (by omega))
  have r4 := r4.kept (o2 _ (by omega))
  have r5 := r5.kept (o2 _ (by omega))
  have r6 := r6.kept (o2 _ (by omega))
  have r7 := r7.kept (o2 _ (by omega))
  have r8 := r8.kept (o2 _ (by omega))
  have r9 := r9.kept (o2 _ (by omega))
  have r10 : cI G 0 (b + 9) 53 (lstI [112, 108, 101, 100, 103, 101, 32, 114]) H2 := c2.snoc (L := [112, 108, 101, 100, 103, 101, 32]) rfl
  have oC : ∀ q : Nat, q < b → q ≠ a → H2[q]? = (wS x).heap[q]? := fun q h1 h2 => (o2 q (by omega)).trans (oC q h1 h2)
  have zc : H2.size = b + 10 := z2.trans zc
  clear c2 z2 o2
  refine k_dup hg hy rfl (by decide +kernel) ?_
  refine k_bipush (z := 8) (v := (8 : Int32)) hg hy (by decide) (by decide +kernel) ?_
  refine k_bipush (z := 101) (v := (101 : Int32)) hg hy (by decide) (by decide +kernel) ?_
  show KW x _ _ _ _ 143 _ _
  refine k_iastk (k := 8) hg hy hwG (by decide +kernel) r10 (by decide) (by decide) (show G.2.2.1 ≤ (b + 9) by omega) hS (fun H2 locs2 c2 z2 o2 hS => ?_)
  have ha := ha.kept (o2 _ (by omega))
  have r1 := r1.kept (o2 _ (by omega))
  have r2 := r2.kept (o2 _ (by omega))
  have r3 := r3.kept (o2 _ (by omega))
  have r4 := r4.kept (o2 _ (by omega))
  have r5 := r5.kept (o2 _ (by omega))
  have r6 := r6.kept (o2 _ (by omega))
  have r7 := r7.kept (o2 _ (by omega))
  have r8 := r8.kept (o2 _ (by omega))
  have r9 := r9.kept (o2 _ (by omega))
  have r10 : cI G 0 (b + 9) 53 (lstI [112, 108, 101, 100, 103, 101, 32, 114, 101]) H2 := c2.snoc (L := [112, 108, 101, 100, 103, 101, 32, 114]) rfl
  have oC : ∀ q : Nat, q < b → q ≠ a → H2[q]? = (wS x).heap[q]? := fun q h1 h2 => (o2 q (by omega)).trans (oC q h1 h2)
  have zc : H2.size = b + 10 := z2.trans zc
  clear c2 z2 o2
  refine k_dup hg hy rfl (by decide +kernel) ?_
  refine k_bipush (z := 9) (v := (9 : Int32)) hg hy (by decide) (by decide +kernel) ?_
  refine k_bipush (z := 100) (v := (100 : Int32)) hg hy (by decide) (by decide +kernel) ?_
  show KW x _ _ _ _ 149 _ _
  refine k_iastk (k := 9) hg hy hwG (by decide +kernel) r10 (by decide) (by decide) (show G.2.2.1 ≤ (b + 9) by omega) hS (fun H2 locs2 c2 z2 o2 hS => ?_)
  have ha := ha.kept (o2 _ (by omega))
  have r1 := r1.kept (o2 _ (by omega))
  have r2 := r2.kept (o2 _ (by omega))
  have r3 := r3.kept (o2 _ (by omega))
  have r4 := r4.kept (o2 _ (by omega))
  have r5 := r5.kept (o2 _ (by omega))
  have r6 := r6.kept (o2 _ (by omega))
  have r7 := r7.kept (o2 _ (by omega))
  have r8 := r8.kept (o2 _ (by omega))
  have r9 := r9.kept (o2 _ (by omega))
  have r10 : cI G 0 (b + 9) 53 (lstI [112, 108, 101, 100, 103, 101, 32, 114, 101, 100]) H2 := c2.snoc (L := [112, 108, 101, 100, 103, 101, 32, 114, 101]) rfl
  have oC : ∀ q : Nat, q < b → q ≠ a → H2[q]? = (wS x).heap[q]? := fun q h1 h2 => (o2 q (by omega)).trans (oC q h1 h2)
  have zc : H2.size = b + 10 := z2.trans zc
  clear c2 z2 o2
  refine k_dup hg hy rfl (by decide +kernel) ?_
  refine k_bipush (z := 10) (v := (10 : Int32)) hg hy (by decide) (by decide +kernel) ?_
  refine k_bipush (z := 101) (v := (101 : Int32)) hg hy (by decide) (by decide +kernel) ?_
  show KW x _ _ _ _ 155 _ _
  refine k_iastk (k := 10) hg hy hwG (by decide +kernel) r10 (by decide) (by decide) (show G.2.2.1 ≤ (b + 9) by omega) hS (fun H2 locs2 c2 z2 o2 hS => ?_)
  have ha := ha.kept (o2 _ (by omega))
  have r1 := r1.kept (o2 _ (by omega))
  have r2 := r2.kept (o2 _ (by omega))
  have r3 := r3.kept (o2 _ (by omega))
  have r4 := r4.kept (o2 _ (by omega))
  have r5 := r5.kept (o2 _ (by omega))
  have r6 := r6.kept (o2 _ (by omega))
  have r7 := r7.kept (o2 _ (by omega))
  have r8 := r8.kept (o2 _ (by omega))
  have r9 := r9.kept (o2 _ (by omega))
  have r10 : cI G 0 (b + 9) 53 (lstI [112, 108, 101, 100, 103, 101, 32, 114, 101, 100, 101]) H2 := c2.snoc (L := [112, 108, 101, 100, 103, 101, 32, 114, 101, 100]) rfl
  have oC : ∀ q : Nat, q < b → q ≠ a → H2[q]? = (wS x).heap[q]? := fun q h1 h2 => (o2 q (by omega)).trans (oC q h1 h2)
  have zc : H2.size = b + 10 := z2.trans zc
  clear c2 z2 o2
  refine k_dup hg hy rfl (by decide +kernel) ?_
  refine k_bipush (z := 11) (v := (11 : Int32)) hg hy (by decide) (by decide +kernel) ?_
  refine k_bipush (z := 101) (v := (101 : Int32)) hg hy (by decide) (by decide +kernel) ?_
  show KW x _ _ _ _ 161 _ _
  refine k_iastk (k := 11) hg hy hwG (by decide +kernel) r10 (by decide) (by decide) (show G.2.2.1 ≤ (b + 9) by omega) hS (fun H2 locs2 c2 z2 o2 hS => ?_)
  have ha := ha.kept (o2 _ (by omega))
  have r1 := r1.kept (o2 _ (by omega))
  have r2 := r2.kept (o2 _ (by omega))
  have r3 := r3.kept (o2 _ (by omega))
  have r4 := r4.kept (o2 _ (by omega))
  have r5 := r5.kept (o2 _ (by omega))
  have r6 := r6.kept (o2 _ (by omega))
  have r7 := r7.kept (o2 _ (by omega))
  have r8 := r8.kept (o2 _ (by omega))
  have r9 := r9.kept (o2 _ (by omega))
  have r10 : cI G 0 (b + 9) 53 (lstI [112, 108, 101, 100, 103, 101, 32, 114, 101, 100, 101, 101]) H2 := c2.snoc (L := [112, 108, 101, 100, 103, 101, 32, 114, 101, 100, 101]) rfl
  have oC : ∀ q : Nat, q < b → q ≠ a → H2[q]? = (wS x).heap[q]? := fun q h1 h2 => (o2 q (by omega)).trans (oC q h1 h2)
  have zc : H2.size = b + 10 := z2.trans zc
  clear c2 z2 o2
  refine k_dup hg hy rfl (by decide +kernel) ?_
  refine k_bipush (z := 12) (v := (12 : Int32)) hg hy (by decide) (by decide +kernel) ?_
  refine k_bipush (z := 109) (v := (109 : Int32)) hg hy (by decide) (by decide +kernel) ?_
  show KW x _ _ _ _ 167 _ _
  refine k_iastk (k := 12) hg hy hwG (by decide +kernel) r10 (by decide) (by decide) (show G.2.2.1 ≤ (b + 9) by omega) hS (fun H2 locs2 c2 z2 o2 hS => ?_)
  have ha := ha.kept (o2 _ (by omega))
  have r1 := r1.kept (o2 _ (by omega))
  have r2 := r2.kept (o2 _ (by omega))
  have r3 := r3.kept (o2 _ (by omega))
  have r4 := r4.kept (o2 _ (by omega))
  have r5 := r5.kept (o2 _ (by omega))
  have r6 := r6.kept (o2 _ (by omega))
  have r7 := r7.kept (o2 _ (by omega))
  have r8 := r8.kept (o2 _ (by omega))
  have r9 := r9.kept (o2 _ (by omega))
  have r10 : cI G 0 (b + 9) 53 (lstI [112, 108, 101, 100, 103, 101, 32, 114, 101, 100, 101, 101, 109]) H2 := c2.snoc (L := [112, 108, 101, 100, 103, 101, 32, 114, 101, 100, 101, 101]) rfl
  have oC : ∀ q : Nat, q < b → q ≠ a → H2[q]? = (wS x).heap[q]? := fun q h1 h2 => (o2 q (by omega)).trans (oC q h1 h2)
  have zc : H2.size = b + 10 := z2.trans zc
  clear c2 z2 o2
  refine k_dup hg hy rfl (by decide +kernel) ?_
  refine k_bipush (z := 13) (v := (13 : Int32)) hg hy (by decide) (by decide +kernel) ?_
  refine k_bipush (z := 32) (v := (32 : Int32)) hg hy (by decide) (by decide +kernel) ?_
  show KW x _ _ _ _ 173 _ _
  refine k_iastk (k := 13) hg hy hwG (by decide +kernel) r10 (by decide) (by decide) (show G.2.2.1 ≤ (b + 9) by omega) hS (fun H2 locs2 c2 z2 o2 hS => ?_)
  have ha := ha.kept (o2 _ (by omega))
  have r1 := r1.kept (o2 _ (by omega))
  have r2 := r2.kept (o2 _ (by omega))
  have r3 := r3.kept (o2 _ (by omega))
  have r4 := r4.kept (o2 _ (by omega))
  have r5 := r5.kept (o2 _ (by omega))
  have r6 := r6.kept (o2 _ (by omega))
  have r7 := r7.kept (o2 _ (by omega))
  have r8 := r8.kept (o2 _ (by omega))
  have r9 := r9.kept (o2 _ (by omega))
  have r10 : cI G 0 (b + 9) 53 (lstI [112, 108, 101, 100, 103, 101, 32, 114, 101, 100, 101, 101, 109, 32]) H2 := c2.snoc (L := [112, 108, 101, 100, 103, 101, 32, 114, 101, 100, 101, 101, 109]) rfl
  have oC : ∀ q : Nat, q < b → q ≠ a → H2[q]? = (wS x).heap[q]? := fun q h1 h2 => (o2 q (by omega)).trans (oC q h1 h2)
  have zc : H2.size = b + 10 := z2.trans zc
  clear c2 z2 o2
  refine k_dup hg hy rfl (by decide +kernel) ?_
  refine k_bipush (z := 14) (v := (14 : Int32)) hg hy (by decide) (by decide +kernel) ?_
  refine k_bipush (z := 101) (v := (101 : Int32)) hg hy (by decide) (by decide +kernel) ?_
  show KW x _ _ _ _ 179 _ _
  refine k_iastk (k := 14) hg hy hwG (by decide +kernel) r10 (by decide) (by decide) (show G.2.2.1 ≤ (b + 9) by omega) hS (fun H2 locs2 c2 z2 o2 hS => ?_)
  have ha := ha.kept (o2 _ (by omega))
  have r1 := r1.kept (o2 _ (by omega))
  have r2 := r2.kept (o2 _ (by omega))
  have r3 := r3.kept (o2 _ (by omega))
  have r4 := r4.kept (o2 _ (by omega))
  have r5 := r5.kept (o2 _ (by omega))
  have r6 := r6.kept (o2 _ (by omega))
  have r7 := r7.kept (o2 _ (by omega))
  have r8 := r8.kept (o2 _ (by omega))
  have r9 := r9.kept (o2 _ (by omega))
  have r10 : cI G 0 (b + 9) 53 (lstI [112, 108, 101, 100, 103, 101, 32, 114, 101, 100, 101, 101, 109, 32, 101]) H2 := c2.snoc (L := [112, 108, 101, 100, 103, 101, 32, 114, 101, 100, 101, 101, 109, 32]) rfl
  have oC : ∀ q : Nat, q < b → q ≠ a → H2[q]? = (wS x).heap[q]? := fun q h1 h2 => (o2 q (by omega)).trans (oC q h1 h2)
  have zc : H2.size = b + 10 := z2.trans zc
  clear c2 z2 o2
  refine k_dup hg hy rfl (by decide +kernel) ?_
  refine k_bipush (z := 15) (v := (15 : Int32)) hg hy (by decide) (by decide +kernel) ?_
  refine k_bipush (z := 120) (v := (120 : Int32)) hg hy (by decide) (by decide +kernel) ?_
  show KW x _ _ _ _ 185 _ _
  refine k_iastk (k := 15) hg hy hwG (by decide +kernel) r10 (by decide) (by decide) (show G.2.2.1 ≤ (b + 9) by omega) hS (fun H2 locs2 c2 z2 o2 hS => ?_)
  have ha := ha.kept (o2 _ (by omega))
  have r1 := r1.kept (o2 _ (by omega))
  have r2 := r2.kept (o2 _ (by omega))
  have r3 := r3.kept (o2 _ (by omega))
  have r4 := r4.kept (o2 _ (by omega))
  have r5 := r5.kept (o2 _ (by omega))
  have r6 := r6.kept (o2 _ (by omega))
  have r7 := r7.kept (o2 _ (by omega))
  have r8 := r8.kept (o2 _ (by omega))
  have r9 := r9.kept (o2 _ (by omega))
  have r10 : cI G 0 (b + 9) 53 (lstI [112, 108, 101, 100, 103, 101, 32, 114, 101, 100, 101, 101, 109, 32, 101, 120]) H2 := c2.snoc (L := [112, 108, 101, 100, 103, 101, 32, 114, 101, 100, 101, 101, 109, 32, 101]) rfl
  have oC : ∀ q : Nat, q < b → q ≠ a → H2[q]? = (wS x).heap[q]? := fun q h1 h2 => (o2 q (by omega)).trans (oC q h1 h2)
  have zc : H2.size = b + 10 := z2.trans zc
  clear c2 z2 o2
  refine k_dup hg hy rfl (by decide +kernel) ?_
  refine k_bipush (z := 16) (v := (16 : Int32)) hg hy (by decide) (by decide +kernel) ?_
  refine k_bipush (z := 116) (v := (116 : Int32)) hg hy (by decide) (by decide +kernel) ?_
  show KW x _ _ _ _ 191 _ _
  refine k_iastk (k := 16) hg hy hwG (by decide +kernel) r10 (by decide) (by decide) (show G.2.2.1 ≤ (b + 9) by omega) hS (fun H2 locs2 c2 z2 o2 hS => ?_)
  have ha := ha.kept (o2 _ (by omega))
  have r1 := r1.kept (o2 _ (by omega))
  have r2 := r2.kept (o2 _ (by omega))
  have r3 := r3.kept (o2 _ (by omega))
  have r4 := r4.kept (o2 _ (by omega))
  have r5 := r5.kept (o2 _ (by omega))
  have r6 := r6.kept (o2 _ (by omega))
  have r7 := r7.kept (o2 _ (by omega))
  have r8 := r8.kept (o2 _ (by omega))
  have r9 := r9.kept (o2 _ (by omega))
  have r10 : cI G 0 (b + 9) 53 (lstI [112, 108, 101, 100, 103, 101, 32, 114, 101, 100, 101, 101, 109, 32, 101, 120, 116]) H2 := c2.snoc (L := [112, 108, 101, 100, 103, 101, 32, 114, 101, 100, 101, 101, 109, 32, 101, 120]) rfl
  have oC : ∀ q : Nat, q < b → q ≠ a → H2[q]? = (wS x).heap[q]? := fun q h1 h2 => (o2 q (by omega)).trans (oC q h1 h2)
  have zc : H2.size = b + 10 := z2.trans zc
  clear c2 z2 o2
  refine k_dup hg hy rfl (by decide +kernel) ?_
  refine k_bipush (z := 17) (v := (17 : Int32)) hg hy (by decide) (by decide +kernel) ?_
  refine k_bipush (z := 101) (v := (101 : Int32)) hg hy (by decide) (by decide +kernel) ?_
  show KW x _ _ _ _ 197 _ _
  refine k_iastk (k := 17) hg hy hwG (by decide +kernel) r10 (by decide) (by decide) (show G.2.2.1 ≤ (b + 9) by omega) hS (fun H2 locs2 c2 z2 o2 hS => ?_)
  have ha := ha.kept (o2 _ (by omega))
  have r1 := r1.kept (o2 _ (by omega))
  have r2 := r2.kept (o2 _ (by omega))
  have r3 := r3.kept (o2 _ (by omega))
  have r4 := r4.kept (o2 _ (by omega))
  have r5 := r5.kept (o2 _ (by omega))
  have r6 := r6.kept (o2 _ (by omega))
  have r7 := r7.kept (o2 _ (by omega))
  have r8 := r8.kept (o2 _ (by omega))
  have r9 := r9.kept (o2 _ (by omega))
  have r10 : cI G 0 (b + 9) 53 (lstI [112, 108, 101, 100, 103, 101, 32, 114, 101, 100, 101, 101, 109, 32, 101, 120, 116, 101]) H2 := c2.snoc (L := [112, 108, 101, 100, 103, 101, 32, 114, 101, 100, 101, 101, 109, 32, 101, 120, 116]) rfl
  have oC : ∀ q : Nat, q < b → q ≠ a → H2[q]? = (wS x).heap[q]? := fun q h1 h2 => (o2 q (by omega)).trans (oC q h1 h2)
  have zc : H2.size = b + 10 := z2.trans zc
  clear c2 z2 o2
  refine k_dup hg hy rfl (by decide +kernel) ?_
  refine k_bipush (z := 18) (v := (18 : Int32)) hg hy (by decide) (by decide +kernel) ?_
  refine k_bipush (z := 110) (v := (110 : Int32)) hg hy (by decide) (by decide +kernel) ?_
  show KW x _ _ _ _ 203 _ _
  refine k_iastk (k := 18) hg hy hwG (by decide +kernel) r10 (by decide) (by decide) (show G.2.2.1 ≤ (b + 9) by omega) hS (fun H2 locs2 c2 z2 o2 hS => ?_)
  have ha := ha.kept (o2 _ (by omega))
  have r1 := r1.kept (o2 _ (by omega))
  have r2 := r2.kept (o2 _ (by omega))
  have r3 := r3.kept (o2 _ (by omega))
  have r4 := r4.kept (o2 _ (by omega))
  have r5 := r5.kept (o2 _ (by omega))
  have r6 := r6.kept (o2 _ (by omega))
  have r7 := r7.kept (o2 _ (by omega))
  have r8 := r8.kept (o2 _ (by omega))
  have r9 := r9.kept (o2 _ (by omega))
  have r10 : cI G 0 (b + 9) 53 (lstI [112, 108, 101, 100, 103, 101, 32, 114, 101, 100, 101, 101, 109, 32, 101, 120, 116, 101, 110]) H2 := c2.snoc (L := [112, 108, 101, 100, 103, 101, 32, 114, 101, 100, 101, 101, 109, 32, 101, 120, 116, 101]) rfl
  have oC : ∀ q : Nat, q < b → q ≠ a → H2[q]? = (wS x).heap[q]? := fun q h1 h2 => (o2 q (by omega)).trans (oC q h1 h2)
  have zc : H2.size = b + 10 := z2.trans zc
  clear c2 z2 o2
  refine k_dup hg hy rfl (by decide +kernel) ?_
  refine k_bipush (z := 19) (v := (19 : Int32)) hg hy (by decide) (by decide +kernel) ?_
  refine k_bipush (z := 100) (v := (100 : Int32)) hg hy (by decide) (by decide +kernel) ?_
  show KW x _ _ _ _ 209 _ _
  refine k_iastk (k := 19) hg hy hwG (by decide +kernel) r10 (by decide) (by decide) (show G.2.2.1 ≤ (b + 9) by omega) hS (fun H2 locs2 c2 z2 o2 hS => ?_)
  have ha := ha.kept (o2 _ (by omega))
  have r1 := r1.kept (o2 _ (by omega))
  have r2 := r2.kept (o2 _ (by omega))
  have r3 := r3.kept (o2 _ (by omega))
  have r4 := r4.kept (o2 _ (by omega))
  have r5 := r5.kept (o2 _ (by omega))
  have r6 := r6.kept (o2 _ (by omega))
  have r7 := r7.kept (o2 _ (by omega))
  have r8 := r8.kept (o2 _ (by omega))
  have r9 := r9.kept (o2 _ (by omega))
  have r10 : cI G 0 (b + 9) 53 (lstI [112, 108, 101, 100, 103, 101, 32, 114, 101, 100, 101, 101, 109, 32, 101, 120, 116, 101, 110, 100]) H2 := c2.snoc (L := [112, 108, 101, 100, 103, 101, 32, 114, 101, 100, 101, 101, 109, 32, 101, 120, 116, 101, 110]) rfl
  have oC : ∀ q : Nat, q < b → q ≠ a → H2[q]? = (wS x).heap[q]? := fun q h1 h2 => (o2 q (by omega)).trans (oC q h1 h2)
  have zc : H2.size = b + 10 := z2.trans zc
  clear c2 z2 o2
  refine k_dup hg hy rfl (by decide +kernel) ?_
  refine k_bipush (z := 20) (v := (20 : Int32)) hg hy (by decide) (by decide +kernel) ?_
  refine k_bipush (z := 32) (v := (32 : Int32)) hg hy (by decide) (by decide +kernel) ?_
  show KW x _ _ _ _ 215 _ _
  refine k_iastk (k := 20) hg hy hwG (by decide +kernel) r10 (by decide) (by decide) (show G.2.2.1 ≤ (b + 9) by omega) hS (fun H2 locs2 c2 z2 o2 hS => ?_)
  have ha := ha.kept (o2 _ (by omega))
  have r1 := r1.kept (o2 _ (by omega))
  have r2 := r2.kept (o2 _ (by omega))
  have r3 := r3.kept (o2 _ (by omega))
  have r4 := r4.kept (o2 _ (by omega))
  have r5 := r5.kept (o2 _ (by omega))
  have r6 := r6.kept (o2 _ (by omega))
  have r7 := r7.kept (o2 _ (by omega))
  have r8 := r8.kept (o2 _ (by omega))
  have r9 := r9.kept (o2 _ (by omega))
  have r10 : cI G 0 (b + 9) 53 (lstI [112, 108, 101, 100, 103, 101, 32, 114, 101, 100, 101, 101, 109, 32, 101, 120, 116, 101, 110, 100, 32]) H2 := c2.snoc (L := [112, 108, 101, 100, 103, 101, 32, 114, 101, 100, 101, 101, 109, 32, 101, 120, 116, 101, 110, 100]) rfl
  have oC : ∀ q : Nat, q < b → q ≠ a → H2[q]? = (wS x).heap[q]? := fun q h1 h2 => (o2 q (by omega)).trans (oC q h1 h2)
  have zc : H2.size = b + 10 := z2.trans zc
  clear c2 z2 o2
  refine k_dup hg hy rfl (by decide +kernel) ?_
  refine k_bipush (z := 21) (v := (21 : Int32)) hg hy (by decide) (by decide +kernel) ?_
  refine k_bipush (z := 100) (v := (100 : Int32)) hg hy (by decide) (by decide +kernel) ?_
  show KW x _ _ _ _ 221 _ _
  refine k_iastk (k := 21) hg hy hwG (by decide +kernel) r10 (by decide) (by decide) (show G.2.2.1 ≤ (b + 9) by omega) hS (fun H2 locs2 c2 z2 o2 hS => ?_)
  have ha := ha.kept (o2 _ (by omega))
  have r1 := r1.kept (o2 _ (by omega))
  have r2 := r2.kept (o2 _ (by omega))
  have r3 := r3.kept (o2 _ (by omega))
  have r4 := r4.kept (o2 _ (by omega))
  have r5 := r5.kept (o2 _ (by omega))
  have r6 := r6.kept (o2 _ (by omega))
  have r7 := r7.kept (o2 _ (by omega))
  have r8 := r8.kept (o2 _ (by omega))
  have r9 := r9.kept (o2 _ (by omega))
  have r10 : cI G 0 (b + 9) 53 (lstI [112, 108, 101, 100, 103, 101, 32, 114, 101, 100, 101, 101, 109, 32, 101, 120, 116, 101, 110, 100, 32, 100]) H2 := c2.snoc (L := [112, 108, 101, 100, 103, 101, 32, 114, 101, 100, 101, 101, 109, 32, 101, 120, 116, 101, 110, 100, 32]) rfl
  have oC : ∀ q : Nat, q < b → q ≠ a → H2[q]? = (wS x).heap[q]? := fun q h1 h2 => (o2 q (by omega)).trans (oC q h1 h2)
  have zc : H2.size = b + 10 := z2.trans zc
  clear c2 z2 o2
  refine k_dup hg hy rfl (by decide +kernel) ?_
  refine k_bipush (z := 22) (v := (22 : Int32)) hg hy (by decide) (by decide +kernel) ?_
  refine k_bipush (z := 97) (v := (97 : Int32)) hg hy (by decide) (by decide +kernel) ?_
  show KW x _ _ _ _ 227 _ _
  refine k_iastk (k := 22) hg hy hwG (by decide +kernel) r10 (by decide) (by decide) (show G.2.2.1 ≤ (b + 9) by omega) hS (fun H2 locs2 c2 z2 o2 hS => ?_)
  have ha := ha.kept (o2 _ (by omega))
  have r1 := r1.kept (o2 _ (by omega))
  have r2 := r2.kept (o2 _ (by omega))
  have r3 := r3.kept (o2 _ (by omega))
  have r4 := r4.kept (o2 _ (by omega))
  have r5 := r5.kept (o2 _ (by omega))
  have r6 := r6.kept (o2 _ (by omega))
  have r7 := r7.kept (o2 _ (by omega))
  have r8 := r8.kept (o2 _ (by omega))
  have r9 := r9.kept (o2 _ (by omega))
  have r10 : cI G 0 (b + 9) 53 (lstI [112, 108, 101, 100, 103, 101, 32, 114, 101, 100, 101, 101, 109, 32, 101, 120, 116, 101, 110, 100, 32, 100, 97]) H2 := c2.snoc (L := [112, 108, 101, 100, 103, 101, 32, 114, 101, 100, 101, 101, 109, 32, 101, 120, 116, 101, 110, 100, 32, 100]) rfl
  have oC : ∀ q : Nat, q < b → q ≠ a → H2[q]? = (wS x).heap[q]? := fun q h1 h2 => (o2 q (by omega)).trans (oC q h1 h2)
  have zc : H2.size = b + 10 := z2.trans zc
  clear c2 z2 o2
  refine k_dup hg hy rfl (by decide +kernel) ?_
  refine k_bipush (z := 23) (v := (23 : Int32)) hg hy (by decide) (by decide +kernel) ?_
  refine k_bipush (z := 121) (v := (121 : Int32)) hg hy (by decide) (by decide +kernel) ?_
  show KW x _ _ _ _ 233 _ _
  refine k_iastk (k := 23) hg hy hwG (by decide +kernel) r10 (by decide) (by decide) (show G.2.2.1 ≤ (b + 9) by omega) hS (fun H2 locs2 c2 z2 o2 hS => ?_)
  have ha := ha.kept (o2 _ (by omega))
  have r1 := r1.kept (o2 _ (by omega))
  have r2 := r2.kept (o2 _ (by omega))
  have r3 := r3.kept (o2 _ (by omega))
  have r4 := r4.kept (o2 _ (by omega))
  have r5 := r5.kept (o2 _ (by omega))
  have r6 := r6.kept (o2 _ (by omega))
  have r7 := r7.kept (o2 _ (by omega))
  have r8 := r8.kept (o2 _ (by omega))
  have r9 := r9.kept (o2 _ (by omega))
  have r10 : cI G 0 (b + 9) 53 (lstI [112, 108, 101, 100, 103, 101, 32, 114, 101, 100, 101, 101, 109, 32, 101, 120, 116, 101, 110, 100, 32, 100, 97, 121]) H2 := c2.snoc (L := [112, 108, 101, 100, 103, 101, 32, 114, 101, 100, 101, 101, 109, 32, 101, 120, 116, 101, 110, 100, 32, 100, 97]) rfl
  have oC : ∀ q : Nat, q < b → q ≠ a → H2[q]? = (wS x).heap[q]? := fun q h1 h2 => (o2 q (by omega)).trans (oC q h1 h2)
  have zc : H2.size = b + 10 := z2.trans zc
  clear c2 z2 o2
  refine k_dup hg hy rfl (by decide +kernel) ?_
  refine k_bipush (z := 24) (v := (24 : Int32)) hg hy (by decide) (by decide +kernel) ?_
  refine k_bipush (z := 115) (v := (115 : Int32)) hg hy (by decide) (by decide +kernel) ?_
  show KW x _ _ _ _ 239 _ _
  refine k_iastk (k := 24) hg hy hwG (by decide +kernel) r10 (by decide) (by decide) (show G.2.2.1 ≤ (b + 9) by omega) hS (fun H2 locs2 c2 z2 o2 hS => ?_)
  have ha := ha.kept (o2 _ (by omega))
  have r1 := r1.kept (o2 _ (by omega))
  have r2 := r2.kept (o2 _ (by omega))
  have r3 := r3.kept (o2 _ (by omega))
  have r4 := r4.kept (o2 _ (by omega))
  have r5 := r5.kept (o2 _ (by omega))
  have r6 := r6.kept (o2 _ (by omega))
  have r7 := r7.kept (o2 _ (by omega))
  have r8 := r8.kept (o2 _ (by omega))
  have r9 := r9.kept (o2 _ (by omega))
  have r10 : cI G 0 (b + 9) 53 (lstI [112, 108, 101, 100, 103, 101, 32, 114, 101, 100, 101, 101, 109, 32, 101, 120, 116, 101, 110, 100, 32, 100, 97, 121, 115]) H2 := c2.snoc (L := [112, 108, 101, 100, 103, 101, 32, 114, 101, 100, 101, 101, 109, 32, 101, 120, 116, 101, 110, 100, 32, 100, 97, 121]) rfl
  have oC : ∀ q : Nat, q < b → q ≠ a → H2[q]? = (wS x).heap[q]? := fun q h1 h2 => (o2 q (by omega)).trans (oC q h1 h2)
  have zc : H2.size = b + 10 := z2.trans zc
  clear c2 z2 o2
  refine k_dup hg hy rfl (by decide +kernel) ?_
  refine k_bipush (z := 25) (v := (25 : Int32)) hg hy (by decide) (by decide +kernel) ?_
  refine k_bipush (z := 32) (v := (32 : Int32)) hg hy (by decide) (by decide +kernel) ?_
  show KW x _ _ _ _ 245 _ _
  refine k_iastk (k := 25) hg hy hwG (by decide +kernel) r10 (by decide) (by decide) (show G.2.2.1 ≤ (b + 9) by omega) hS (fun H2 locs2 c2 z2 o2 hS => ?_)
  have ha := ha.kept (o2 _ (by omega))
  have r1 := r1.kept (o2 _ (by omega))
  have r2 := r2.kept (o2 _ (by omega))
  have r3 := r3.kept (o2 _ (by omega))
  have r4 := r4.kept (o2 _ (by omega))
  have r5 := r5.kept (o2 _ (by omega))
  have r6 := r6.kept (o2 _ (by omega))
  have r7 := r7.kept (o2 _ (by omega))
  have r8 := r8.kept (o2 _ (by omega))
  have r9 := r9.kept (o2 _ (by omega))
  have r10 : cI G 0 (b + 9) 53 (lstI [112, 108, 101, 100, 103, 101, 32, 114, 101, 100, 101, 101, 109, 32, 101, 120, 116, 101, 110, 100, 32, 100, 97, 121, 115, 32]) H2 := c2.snoc (L := [112, 108, 101, 100, 103, 101, 32, 114, 101, 100, 101, 101, 109, 32, 101, 120, 116, 101, 110, 100, 32, 100, 97, 121, 115]) rfl
  have oC : ∀ q : Nat, q < b → q ≠ a → H2[q]? = (wS x).heap[q]? := fun q h1 h2 => (o2 q (by omega)).trans (oC q h1 h2)
  have zc : H2.size = b + 10 := z2.trans zc
  clear c2 z2 o2
  refine k_dup hg hy rfl (by decide +kernel) ?_
  refine k_bipush (z := 26) (v := (26 : Int32)) hg hy (by decide) (by decide +kernel) ?_
  refine k_bipush (z := 112) (v := (112 : Int32)) hg hy (by decide) (by decide +kernel) ?_
  show KW x _ _ _ _ 251 _ _
  refine k_iastk (k := 26) hg hy hwG (by decide +kernel) r10 (by decide) (by decide) (show G.2.2.1 ≤ (b + 9) by omega) hS (fun H2 locs2 c2 z2 o2 hS => ?_)
  have ha := ha.kept (o2 _ (by omega))
  have r1 := r1.kept (o2 _ (by omega))
  have r2 := r2.kept (o2 _ (by omega))
  have r3 := r3.kept (o2 _ (by omega))
  have r4 := r4.kept (o2 _ (by omega))
  have r5 := r5.kept (o2 _ (by omega))
  have r6 := r6.kept (o2 _ (by omega))
  have r7 := r7.kept (o2 _ (by omega))
  have r8 := r8.kept (o2 _ (by omega))
  have r9 := r9.kept (o2 _ (by omega))
  have r10 : cI G 0 (b + 9) 53 (lstI [112, 108, 101, 100, 103, 101, 32, 114, 101, 100, 101, 101, 109, 32, 101, 120, 116, 101, 110, 100, 32, 100, 97, 121, 115, 32, 112]) H2 := c2.snoc (L := [112, 108, 101, 100, 103, 101, 32, 114, 101, 100, 101, 101, 109, 32, 101, 120, 116, 101, 110, 100, 32, 100, 97, 121, 115, 32]) rfl
  have oC : ∀ q : Nat, q < b → q ≠ a → H2[q]? = (wS x).heap[q]? := fun q h1 h2 => (o2 q (by omega)).trans (oC q h1 h2)
  have zc : H2.size = b + 10 := z2.trans zc
  clear c2 z2 o2
  refine k_dup hg hy rfl (by decide +kernel) ?_
  refine k_bipush (z := 27) (v := (27 : Int32)) hg hy (by decide) (by decide +kernel) ?_
  refine k_bipush (z := 114) (v := (114 : Int32)) hg hy (by decide) (by decide +kernel) ?_
  show KW x _ _ _ _ 257 _ _
  refine k_iastk (k := 27) hg hy hwG (by decide +kernel) r10 (by decide) (by decide) (show G.2.2.1 ≤ (b + 9) by omega) hS (fun H2 locs2 c2 z2 o2 hS => ?_)
  have ha := ha.kept (o2 _ (by omega))
  have r1 := r1.kept (o2 _ (by omega))
  have r2 := r2.kept (o2 _ (by omega))
  have r3 := r3.kept (o2 _ (by omega))
  have r4 := r4.kept (o2 _ (by omega))
  have r5 := r5.kept (o2 _ (by omega))
  have r6 := r6.kept (o2 _ (by omega))
  have r7 := r7.kept (o2 _ (by omega))
  have r8 := r8.kept (o2 _ (by omega))
  have r9 := r9.kept (o2 _ (by omega))
  have r10 : cI G 0 (b + 9) 53 (lstI [112, 108, 101, 100, 103, 101, 32, 114, 101, 100, 101, 101, 109, 32, 101, 120, 116, 101, 110, 100, 32, 100, 97, 121, 115, 32, 112, 114]) H2 := c2.snoc (L := [112, 108, 101, 100, 103, 101, 32, 114, 101, 100, 101, 101, 109, 32, 101, 120, 116, 101, 110, 100, 32, 100, 97, 121, 115, 32, 112]) rfl
  have oC : ∀ q : Nat, q < b → q ≠ a → H2[q]? = (wS x).heap[q]? := fun q h1 h2 => (o2 q (by omega)).trans (oC q h1 h2)
  have zc : H2.size = b + 10 := z2.trans zc
  clear c2 z2 o2
  refine k_dup hg hy rfl (by decide +kernel) ?_
  refine k_bipush (z := 28) (v := (28 : Int32)) hg hy (by decide) (by decide +kernel) ?_
  refine k_bipush (z := 105) (v := (105 : Int32)) hg hy (by decide) (by decide +kernel) ?_
  show KW x _ _ _ _ 263 _ _
  refine k_iastk (k := 28) hg hy hwG (by decide +kernel) r10 (by decide) (by decide) (show G.2.2.1 ≤ (b + 9) by omega) hS (fun H2 locs2 c2 z2 o2 hS => ?_)
  have ha := ha.kept (o2 _ (by omega))
  have r1 := r1.kept (o2 _ (by omega))
  have r2 := r2.kept (o2 _ (by omega))
  have r3 := r3.kept (o2 _ (by omega))
  have r4 := r4.kept (o2 _ (by omega))
  have r5 := r5.kept (o2 _ (by omega))
  have r6 := r6.kept (o2 _ (by omega))
  have r7 := r7.kept (o2 _ (by omega))
  have r8 := r8.kept (o2 _ (by omega))
  have r9 := r9.kept (o2 _ (by omega))
  have r10 : cI G 0 (b + 9) 53 (lstI [112, 108, 101, 100, 103, 101, 32, 114, 101, 100, 101, 101, 109, 32, 101, 120, 116, 101, 110, 100, 32, 100, 97, 121, 115, 32, 112, 114, 105]) H2 := c2.snoc (L := [112, 108, 101, 100, 103, 101, 32, 114, 101, 100, 101, 101, 109, 32, 101, 120, 116, 101, 110, 100, 32, 100, 97, 121, 115, 32, 112, 114]) rfl
  have oC : ∀ q : Nat, q < b → q ≠ a → H2[q]? = (wS x).heap[q]? := fun q h1 h2 => (o2 q (by omega)).trans (oC q h1 h2)
  have zc : H2.size = b + 10 := z2.trans zc
  clear c2 z2 o2
  refine k_dup hg hy rfl (by decide +kernel) ?_
  refine k_bipush (z := 29) (v := (29 : Int32)) hg hy (by decide) (by decide +kernel) ?_
  refine k_bipush (z := 99) (v := (99 : Int32)) hg hy (by decide) (by decide +kernel) ?_
  show KW x _ _ _ _ 269 _ _
  refine k_iastk (k := 29) hg hy hwG (by decide +kernel) r10 (by decide) (by decide) (show G.2.2.1 ≤ (b + 9) by omega) hS (fun H2 locs2 c2 z2 o2 hS => ?_)
  have ha := ha.kept (o2 _ (by omega))
  have r1 := r1.kept (o2 _ (by omega))
  have r2 := r2.kept (o2 _ (by omega))
  have r3 := r3.kept (o2 _ (by omega))
  have r4 := r4.kept (o2 _ (by omega))
  have r5 := r5.kept (o2 _ (by omega))
  have r6 := r6.kept (o2 _ (by omega))
  have r7 := r7.kept (o2 _ (by omega))
  have r8 := r8.kept (o2 _ (by omega))
  have r9 := r9.kept (o2 _ (by omega))
  have r10 : cI G 0 (b + 9) 53 (lstI [112, 108, 101, 100, 103, 101, 32, 114, 101, 100, 101, 101, 109, 32, 101, 120, 116, 101, 110, 100, 32, 100, 97, 121, 115, 32, 112, 114, 105, 99]) H2 := c2.snoc (L := [112, 108, 101, 100, 103, 101, 32, 114, 101, 100, 101, 101, 109, 32, 101, 120, 116, 101, 110, 100, 32, 100, 97, 121, 115, 32, 112, 114, 105]) rfl
  have oC : ∀ q : Nat, q < b → q ≠ a → H2[q]? = (wS x).heap[q]? := fun q h1 h2 => (o2 q (by omega)).trans (oC q h1 h2)
  have zc : H2.size = b + 10 := z2.trans zc
  clear c2 z2 o2
  refine k_dup hg hy rfl (by decide +kernel) ?_
  refine k_bipush (z := 30) (v := (30 : Int32)) hg hy (by decide) (by decide +kernel) ?_
  refine k_bipush (z := 101) (v := (101 : Int32)) hg hy (by decide) (by decide +kernel) ?_
  show KW x _ _ _ _ 275 _ _
  refine k_iastk (k := 30) hg hy hwG (by decide +kernel) r10 (by decide) (by decide) (show G.2.2.1 ≤ (b + 9) by omega) hS (fun H2 locs2 c2 z2 o2 hS => ?_)
  have ha := ha.kept (o2 _ (by omega))
  have r1 := r1.kept (o2 _ (by omega))
  have r2 := r2.kept (o2 _ (by omega))
  have r3 := r3.kept (o2 _ (by omega))
  have r4 := r4.kept (o2 _ (by omega))
  have r5 := r5.kept (o2 _ (by omega))
  have r6 := r6.kept (o2 _ (by omega))
  have r7 := r7.kept (o2 _ (by omega))
  have r8 := r8.kept (o2 _ (by omega))
  have r9 := r9.kept (o2 _ (by omega))
  have r10 : cI G 0 (b + 9) 53 (lstI [112, 108, 101, 100, 103, 101, 32, 114, 101, 100, 101, 101, 109, 32, 101, 120, 116, 101, 110, 100, 32, 100, 97, 121, 115, 32, 112, 114, 105, 99, 101]) H2 := c2.snoc (L := [112, 108, 101, 100, 103, 101, 32, 114, 101, 100, 101, 101, 109, 32, 101, 120, 116, 101, 110, 100, 32, 100, 97, 121, 115, 32, 112, 114, 105, 99]) rfl
  have oC : ∀ q : Nat, q < b → q ≠ a → H2[q]? = (wS x).heap[q]? := fun q h1 h2 => (o2 q (by omega)).trans (oC q h1 h2)
  have zc : H2.size = b + 10 := z2.trans zc
  clear c2 z2 o2
  refine k_dup hg hy rfl (by decide +kernel) ?_
  refine k_bipush (z := 31) (v := (31 : Int32)) hg hy (by decide) (by decide +kernel) ?_
  refine k_bipush (z := 32) (v := (32 : Int32)) hg hy (by decide) (by decide +kernel) ?_
  show KW x _ _ _ _ 281 _ _
  refine k_iastk (k := 31) hg hy hwG (by decide +kernel) r10 (by decide) (by decide) (show G.2.2.1 ≤ (b + 9) by omega) hS (fun H2 locs2 c2 z2 o2 hS => ?_)
  have ha := ha.kept (o2 _ (by omega))
  have r1 := r1.kept (o2 _ (by omega))
  have r2 := r2.kept (o2 _ (by omega))
  have r3 := r3.kept (o2 _ (by omega))
  have r4 := r4.kept (o2 _ (by omega))
  have r5 := r5.kept (o2 _ (by omega))
  have r6 := r6.kept (o2 _ (by omega))
  have r7 := r7.kept (o2 _ (by omega))
  have r8 := r8.kept (o2 _ (by omega))
  have r9 := r9.kept (o2 _ (by omega))
  have r10 : cI G 0 (b + 9) 53 (lstI [112, 108, 101, 100, 103, 101, 32, 114, 101, 100, 101, 101, 109, 32, 101, 120, 116, 101, 110, 100, 32, 100, 97, 121, 115, 32, 112, 114, 105, 99, 101, 32]) H2 := c2.snoc (L := [112, 108, 101, 100, 103, 101, 32, 114, 101, 100, 101, 101, 109, 32, 101, 120, 116, 101, 110, 100, 32, 100, 97, 121, 115, 32, 112, 114, 105, 99, 101]) rfl
  have oC : ∀ q : Nat, q < b → q ≠ a → H2[q]? = (wS x).heap[q]? := fun q h1 h2 => (o2 q (by omega)).trans (oC q h1 h2)
  have zc : H2.size = b + 10 := z2.trans zc
  clear c2 z2 o2
  refine k_dup hg hy rfl (by decide +kernel) ?_
  refine k_bipush (z := 32) (v := (32 : Int32)) hg hy (by decide) (by decide +kernel) ?_
  refine k_bipush (z := 114) (v := (114 : Int32)) hg hy (by decide) (by decide +kernel) ?_
  show KW x _ _ _ _ 287 _ _
  refine k_iastk (k := 32) hg hy hwG (by decide +kernel) r10 (by decide) (by decide) (show G.2.2.1 ≤ (b + 9) by omega) hS (fun H2 locs2 c2 z2 o2 hS => ?_)
  have ha := ha.kept (o2 _ (by omega))
  have r1 := r1.kept (o2 _ (by omega))
  have r2 := r2.kept (o2 _ (by omega))
  have r3 := r3.kept (o2 _ (by omega))
  have r4 := r4.kept (o2 _ (by omega))
  have r5 := r5.kept (o2 _ (by omega))
  have r6 := r6.kept (o2 _ (by omega))
  have r7 := r7.kept (o2 _ (by omega))
  have r8 := r8.kept (o2 _ (by omega))
  have r9 := r9.kept (o2 _ (by omega))
  have r10 : cI G 0 (b + 9) 53 (lstI [112, 108, 101, 100, 103, 101, 32, 114, 101, 100, 101, 101, 109, 32, 101, 120, 116, 101, 110, 100, 32, 100, 97, 121, 115, 32, 112, 114, 105, 99, 101, 32, 114]) H2 := c2.snoc (L := [112, 108, 101, 100, 103, 101, 32, 114, 101, 100, 101, 101, 109, 32, 101, 120, 116, 101, 110, 100, 32, 100, 97, 121, 115, 32, 112, 114, 105, 99, 101, 32]) rfl
  have oC : ∀ q : Nat, q < b → q ≠ a → H2[q]? = (wS x).heap[q]? := fun q h1 h2 => (o2 q (by omega)).trans (oC q h1 h2)
  have zc : H2.size = b + 10 := z2.trans zc
  clear c2 z2 o2
  refine k_dup hg hy rfl (by decide +kernel) ?_
  refine k_bipush (z := 33) (v := (33 : Int32)) hg hy (by decide) (by decide +kernel) ?_
  refine k_bipush (z := 97) (v := (97 : Int32)) hg hy (by decide) (by decide +kernel) ?_
  show KW x _ _ _ _ 293 _ _
  refine k_iastk (k := 33) hg hy hwG (by decide +kernel) r10 (by decide) (by decide) (show G.2.2.1 ≤ (b + 9) by omega) hS (fun H2 locs2 c2 z2 o2 hS => ?_)
  have ha := ha.kept (o2 _ (by omega))
  have r1 := r1.kept (o2 _ (by omega))
  have r2 := r2.kept (o2 _ (by omega))
  have r3 := r3.kept (o2 _ (by omega))
  have r4 := r4.kept (o2 _ (by omega))
  have r5 := r5.kept (o2 _ (by omega))
  have r6 := r6.kept (o2 _ (by omega))
  have r7 := r7.kept (o2 _ (by omega))
  have r8 := r8.kept (o2 _ (by omega))
  have r9 := r9.kept (o2 _ (by omega))
  have r10 : cI G 0 (b + 9) 53 (lstI [112, 108, 101, 100, 103, 101, 32, 114, 101, 100, 101, 101, 109, 32, 101, 120, 116, 101, 110, 100, 32, 100, 97, 121, 115, 32, 112, 114, 105, 99, 101, 32, 114, 97]) H2 := c2.snoc (L := [112, 108, 101, 100, 103, 101, 32, 114, 101, 100, 101, 101, 109, 32, 101, 120, 116, 101, 110, 100, 32, 100, 97, 121, 115, 32, 112, 114, 105, 99, 101, 32, 114]) rfl
  have oC : ∀ q : Nat, q < b → q ≠ a → H2[q]? = (wS x).heap[q]? := fun q h1 h2 => (o2 q (by omega)).trans (oC q h1 h2)
  have zc : H2.size = b + 10 := z2.trans zc
  clear c2 z2 o2
  refine k_dup hg hy rfl (by decide +kernel) ?_
  refine k_bipush (z := 34) (v := (34 : Int32)) hg hy (by decide) (by decide +kernel) ?_
  refine k_bipush (z := 116) (v := (116 : Int32)) hg hy (by decide) (by decide +kernel) ?_
  show KW x _ _ _ _ 299 _ _
  refine k_iastk (k := 34) hg hy hwG (by decide +kernel) r10 (by decide) (by decide) (show G.2.2.1 ≤ (b + 9) by omega) hS (fun H2 locs2 c2 z2 o2 hS => ?_)
  have ha := ha.kept (o2 _ (by omega))
  have r1 := r1.kept (o2 _ (by omega))
  have r2 := r2.kept (o2 _ (by omega))
  have r3 := r3.kept (o2 _ (by omega))
  have r4 := r4.kept (o2 _ (by omega))
  have r5 := r5.kept (o2 _ (by omega))
  have r6 := r6.kept (o2 _ (by omega))
  have r7 := r7.kept (o2 _ (by omega))
  have r8 := r8.kept (o2 _ (by omega))
  have r9 := r9.kept (o2 _ (by omega))
  have r10 : cI G 0 (b + 9) 53 (lstI [112, 108, 101, 100, 103, 101, 32, 114, 101, 100, 101, 101, 109, 32, 101, 120, 116, 101, 110, 100, 32, 100, 97, 121, 115, 32, 112, 114, 105, 99, 101, 32, 114, 97, 116]) H2 := c2.snoc (L := [112, 108, 101, 100, 103, 101, 32, 114, 101, 100, 101, 101, 109, 32, 101, 120, 116, 101, 110, 100, 32, 100, 97, 121, 115, 32, 112, 114, 105, 99, 101, 32, 114, 97]) rfl
  have oC : ∀ q : Nat, q < b → q ≠ a → H2[q]? = (wS x).heap[q]? := fun q h1 h2 => (o2 q (by omega)).trans (oC q h1 h2)
  have zc : H2.size = b + 10 := z2.trans zc
  clear c2 z2 o2
  refine k_dup hg hy rfl (by decide +kernel) ?_
  refine k_bipush (z := 35) (v := (35 : Int32)) hg hy (by decide) (by decide +kernel) ?_
  refine k_bipush (z := 101) (v := (101 : Int32)) hg hy (by decide) (by decide +kernel) ?_
  show KW x _ _ _ _ 305 _ _
  refine k_iastk (k := 35) hg hy hwG (by decide +kernel) r10 (by decide) (by decide) (show G.2.2.1 ≤ (b + 9) by omega) hS (fun H2 locs2 c2 z2 o2 hS => ?_)
  have ha := ha.kept (o2 _ (by omega))
  have r1 := r1.kept (o2 _ (by omega))
  have r2 := r2.kept (o2 _ (by omega))
  have r3 := r3.kept (o2 _ (by omega))
  have r4 := r4.kept (o2 _ (by omega))
  have r5 := r5.kept (o2 _ (by omega))
  have r6 := r6.kept (o2 _ (by omega))
  have r7 := r7.kept (o2 _ (by omega))
  have r8 := r8.kept (o2 _ (by omega))
  have r9 := r9.kept (o2 _ (by omega))
  have r10 : cI G 0 (b + 9) 53 (lstI [112, 108, 101, 100, 103, 101, 32, 114, 101, 100, 101, 101, 109, 32, 101, 120, 116, 101, 110, 100, 32, 100, 97, 121, 115, 32, 112, 114, 105, 99, 101, 32, 114, 97, 116, 101]) H2 := c2.snoc (L := [112, 108, 101, 100, 103, 101, 32, 114, 101, 100, 101, 101, 109, 32, 101, 120, 116, 101, 110, 100, 32, 100, 97, 121, 115, 32, 112, 114, 105, 99, 101, 32, 114, 97, 116]) rfl
  have oC : ∀ q : Nat, q < b → q ≠ a → H2[q]? = (wS x).heap[q]? := fun q h1 h2 => (o2 q (by omega)).trans (oC q h1 h2)
  have zc : H2.size = b + 10 := z2.trans zc
  clear c2 z2 o2
  refine k_dup hg hy rfl (by decide +kernel) ?_
  refine k_bipush (z := 36) (v := (36 : Int32)) hg hy (by decide) (by decide +kernel) ?_
  refine k_bipush (z := 32) (v := (32 : Int32)) hg hy (by decide) (by decide +kernel) ?_
  show KW x _ _ _ _ 311 _ _
  refine k_iastk (k := 36) hg hy hwG (by decide +kernel) r10 (by decide) (by decide) (show G.2.2.1 ≤ (b + 9) by omega) hS (fun H2 locs2 c2 z2 o2 hS => ?_)
  have ha := ha.kept (o2 _ (by omega))
  have r1 := r1.kept (o2 _ (by omega))
  have r2 := r2.kept (o2 _ (by omega))
  have r3 := r3.kept (o2 _ (by omega))
  have r4 := r4.kept (o2 _ (by omega))
  have r5 := r5.kept (o2 _ (by omega))
  have r6 := r6.kept (o2 _ (by omega))
  have r7 := r7.kept (o2 _ (by omega))
  have r8 := r8.kept (o2 _ (by omega))
  have r9 := r9.kept (o2 _ (by omega))
  have r10 : cI G 0 (b + 9) 53 (lstI [112, 108, 101, 100, 103, 101, 32, 114, 101, 100, 101, 101, 109, 32, 101, 120, 116, 101, 110, 100, 32, 100, 97, 121, 115, 32, 112, 114, 105, 99, 101, 32, 114, 97, 116, 101, 32]) H2 := c2.snoc (L := [112, 108, 101, 100, 103, 101, 32, 114, 101, 100, 101, 101, 109, 32, 101, 120, 116, 101, 110, 100, 32, 100, 97, 121, 115, 32, 112, 114, 105, 99, 101, 32, 114, 97, 116, 101]) rfl
  have oC : ∀ q : Nat, q < b → q ≠ a → H2[q]? = (wS x).heap[q]? := fun q h1 h2 => (o2 q (by omega)).trans (oC q h1 h2)
  have zc : H2.size = b + 10 := z2.trans zc
  clear c2 z2 o2
  refine k_dup hg hy rfl (by decide +kernel) ?_
  refine k_bipush (z := 37) (v := (37 : Int32)) hg hy (by decide) (by decide +kernel) ?_
  refine k_bipush (z := 98) (v := (98 : Int32)) hg hy (by decide) (by decide +kernel) ?_
  show KW x _ _ _ _ 317 _ _
  refine k_iastk (k := 37) hg hy hwG (by decide +kernel) r10 (by decide) (by decide) (show G.2.2.1 ≤ (b + 9) by omega) hS (fun H2 locs2 c2 z2 o2 hS => ?_)
  have ha := ha.kept (o2 _ (by omega))
  have r1 := r1.kept (o2 _ (by omega))
  have r2 := r2.kept (o2 _ (by omega))
  have r3 := r3.kept (o2 _ (by omega))
  have r4 := r4.kept (o2 _ (by omega))
  have r5 := r5.kept (o2 _ (by omega))
  have r6 := r6.kept (o2 _ (by omega))
  have r7 := r7.kept (o2 _ (by omega))
  have r8 := r8.kept (o2 _ (by omega))
  have r9 := r9.kept (o2 _ (by omega))
  have r10 : cI G 0 (b + 9) 53 (lstI [112, 108, 101, 100, 103, 101, 32, 114, 101, 100, 101, 101, 109, 32, 101, 120, 116, 101, 110, 100, 32, 100, 97, 121, 115, 32, 112, 114, 105, 99, 101, 32, 114, 97, 116, 101, 32, 98]) H2 := c2.snoc (L := [112, 108, 101, 100, 103, 101, 32, 114, 101, 100, 101, 101, 109, 32, 101, 120, 116, 101, 110, 100, 32, 100, 97, 121, 115, 32, 112, 114, 105, 99, 101, 32, 114, 97, 116, 101, 32]) rfl
  have oC : ∀ q : Nat, q < b → q ≠ a → H2[q]? = (wS x).heap[q]? := fun q h1 h2 => (o2 q (by omega)).trans (oC q h1 h2)
  have zc : H2.size = b + 10 := z2.trans zc
  clear c2 z2 o2
  refine k_dup hg hy rfl (by decide +kernel) ?_
  refine k_bipush (z := 38) (v := (38 : Int32)) hg hy (by decide) (by decide +kernel) ?_
  refine k_bipush (z := 105) (v := (105 : Int32)) hg hy (by decide) (by decide +kernel) ?_
  show KW x _ _ _ _ 323 _ _
  refine k_iastk (k := 38) hg hy hwG (by decide +kernel) r10 (by decide) (by decide) (show G.2.2.1 ≤ (b + 9) by omega) hS (fun H2 locs2 c2 z2 o2 hS => ?_)
  have ha := ha.kept (o2 _ (by omega))
  have r1 := r1.kept (o2 _ (by omega))
  have r2 := r2.kept (o2 _ (by omega))
  have r3 := r3.kept (o2 _ (by omega))
  have r4 := r4.kept (o2 _ (by omega))
  have r5 := r5.kept (o2 _ (by omega))
  have r6 := r6.kept (o2 _ (by omega))
  have r7 := r7.kept (o2 _ (by omega))
  have r8 := r8.kept (o2 _ (by omega))
  have r9 := r9.kept (o2 _ (by omega))
  have r10 : cI G 0 (b + 9) 53 (lstI [112, 108, 101, 100, 103, 101, 32, 114, 101, 100, 101, 101, 109, 32, 101, 120, 116, 101, 110, 100, 32, 100, 97, 121, 115, 32, 112, 114, 105, 99, 101, 32, 114, 97, 116, 101, 32, 98, 105]) H2 := c2.snoc (L := [112, 108, 101, 100, 103, 101, 32, 114, 101, 100, 101, 101, 109, 32, 101, 120, 116, 101, 110, 100, 32, 100, 97, 121, 115, 32, 112, 114, 105, 99, 101, 32, 114, 97, 116, 101, 32, 98]) rfl
  have oC : ∀ q : Nat, q < b → q ≠ a → H2[q]? = (wS x).heap[q]? := fun q h1 h2 => (o2 q (by omega)).trans (oC q h1 h2)
  have zc : H2.size = b + 10 := z2.trans zc
  clear c2 z2 o2
  refine k_dup hg hy rfl (by decide +kernel) ?_
  refine k_bipush (z := 39) (v := (39 : Int32)) hg hy (by decide) (by decide +kernel) ?_
  refine k_bipush (z := 100) (v := (100 : Int32)) hg hy (by decide) (by decide +kernel) ?_
  show KW x _ _ _ _ 329 _ _
  refine k_iastk (k := 39) hg hy hwG (by decide +kernel) r10 (by decide) (by decide) (show G.2.2.1 ≤ (b + 9) by omega) hS (fun H2 locs2 c2 z2 o2 hS => ?_)
  have ha := ha.kept (o2 _ (by omega))
  have r1 := r1.kept (o2 _ (by omega))
  have r2 := r2.kept (o2 _ (by omega))
  have r3 := r3.kept (o2 _ (by omega))
  have r4 := r4.kept (o2 _ (by omega))
  have r5 := r5.kept (o2 _ (by omega))
  have r6 := r6.kept (o2 _ (by omega))
  have r7 := r7.kept (o2 _ (by omega))
  have r8 := r8.kept (o2 _ (by omega))
  have r9 := r9.kept (o2 _ (by omega))
  have r10 : cI G 0 (b + 9) 53 (lstI [112, 108, 101, 100, 103, 101, 32, 114, 101, 100, 101, 101, 109, 32, 101, 120, 116, 101, 110, 100, 32, 100, 97, 121, 115, 32, 112, 114, 105, 99, 101, 32, 114, 97, 116, 101, 32, 98, 105, 100]) H2 := c2.snoc (L := [112, 108, 101, 100, 103, 101, 32, 114, 101, 100, 101, 101, 109, 32, 101, 120, 116, 101, 110, 100, 32, 100, 97, 121, 115, 32, 112, 114, 105, 99, 101, 32, 114, 97, 116, 101, 32, 98, 105]) rfl
  have oC : ∀ q : Nat, q < b → q ≠ a → H2[q]? = (wS x).heap[q]? := fun q h1 h2 => (o2 q (by omega)).trans (oC q h1 h2)
  have zc : H2.size = b + 10 := z2.trans zc
  clear c2 z2 o2
  refine k_dup hg hy rfl (by decide +kernel) ?_
  refine k_bipush (z := 40) (v := (40 : Int32)) hg hy (by decide) (by decide +kernel) ?_
  refine k_bipush (z := 32) (v := (32 : Int32)) hg hy (by decide) (by decide +kernel) ?_
  show KW x _ _ _ _ 335 _ _
  refine k_iastk (k := 40) hg hy hwG (by decide +kernel) r10 (by decide) (by decide) (show G.2.2.1 ≤ (b + 9) by omega) hS (fun H2 locs2 c2 z2 o2 hS => ?_)
  have ha := ha.kept (o2 _ (by omega))
  have r1 := r1.kept (o2 _ (by omega))
  have r2 := r2.kept (o2 _ (by omega))
  have r3 := r3.kept (o2 _ (by omega))
  have r4 := r4.kept (o2 _ (by omega))
  have r5 := r5.kept (o2 _ (by omega))
  have r6 := r6.kept (o2 _ (by omega))
  have r7 := r7.kept (o2 _ (by omega))
  have r8 := r8.kept (o2 _ (by omega))
  have r9 := r9.kept (o2 _ (by omega))
  have r10 : cI G 0 (b + 9) 53 (lstI [112, 108, 101, 100, 103, 101, 32, 114, 101, 100, 101, 101, 109, 32, 101, 120, 116, 101, 110, 100, 32, 100, 97, 121, 115, 32, 112, 114, 105, 99, 101, 32, 114, 97, 116, 101, 32, 98, 105, 100, 32]) H2 := c2.snoc (L := [112, 108, 101, 100, 103, 101, 32, 114, 101, 100, 101, 101, 109, 32, 101, 120, 116, 101, 110, 100, 32, 100, 97, 121, 115, 32, 112, 114, 105, 99, 101, 32, 114, 97, 116, 101, 32, 98, 105, 100]) rfl
  have oC : ∀ q : Nat, q < b → q ≠ a → H2[q]? = (wS x).heap[q]? := fun q h1 h2 => (o2 q (by omega)).trans (oC q h1 h2)
  have zc : H2.size = b + 10 := z2.trans zc
  clear c2 z2 o2
  refine k_dup hg hy rfl (by decide +kernel) ?_
  refine k_bipush (z := 41) (v := (41 : Int32)) hg hy (by decide) (by decide +kernel) ?_
  refine k_bipush (z := 115) (v := (115 : Int32)) hg hy (by decide) (by decide +kernel) ?_
  show KW x _ _ _ _ 341 _ _
  refine k_iastk (k := 41) hg hy hwG (by decide +kernel) r10 (by decide) (by decide) (show G.2.2.1 ≤ (b + 9) by omega) hS (fun H2 locs2 c2 z2 o2 hS => ?_)
  have ha := ha.kept (o2 _ (by omega))
  have r1 := r1.kept (o2 _ (by omega))
  have r2 := r2.kept (o2 _ (by omega))
  have r3 := r3.kept (o2 _ (by omega))
  have r4 := r4.kept (o2 _ (by omega))
  have r5 := r5.kept (o2 _ (by omega))
  have r6 := r6.kept (o2 _ (by omega))
  have r7 := r7.kept (o2 _ (by omega))
  have r8 := r8.kept (o2 _ (by omega))
  have r9 := r9.kept (o2 _ (by omega))
  have r10 : cI G 0 (b + 9) 53 (lstI [112, 108, 101, 100, 103, 101, 32, 114, 101, 100, 101, 101, 109, 32, 101, 120, 116, 101, 110, 100, 32, 100, 97, 121, 115, 32, 112, 114, 105, 99, 101, 32, 114, 97, 116, 101, 32, 98, 105, 100, 32, 115]) H2 := c2.snoc (L := [112, 108, 101, 100, 103, 101, 32, 114, 101, 100, 101, 101, 109, 32, 101, 120, 116, 101, 110, 100, 32, 100, 97, 121, 115, 32, 112, 114, 105, 99, 101, 32, 114, 97, 116, 101, 32, 98, 105, 100, 32]) rfl
  have oC : ∀ q : Nat, q < b → q ≠ a → H2[q]? = (wS x).heap[q]? := fun q h1 h2 => (o2 q (by omega)).trans (oC q h1 h2)
  have zc : H2.size = b + 10 := z2.trans zc
  clear c2 z2 o2
  refine k_dup hg hy rfl (by decide +kernel) ?_
  refine k_bipush (z := 42) (v := (42 : Int32)) hg hy (by decide) (by decide +kernel) ?_
  refine k_bipush (z := 101) (v := (101 : Int32)) hg hy (by decide) (by decide +kernel) ?_
  show KW x _ _ _ _ 347 _ _
  refine k_iastk (k := 42) hg hy hwG (by decide +kernel) r10 (by decide) (by decide) (show G.2.2.1 ≤ (b + 9) by omega) hS (fun H2 locs2 c2 z2 o2 hS => ?_)
  have ha := ha.kept (o2 _ (by omega))
  have r1 := r1.kept (o2 _ (by omega))
  have r2 := r2.kept (o2 _ (by omega))
  have r3 := r3.kept (o2 _ (by omega))
  have r4 := r4.kept (o2 _ (by omega))
  have r5 := r5.kept (o2 _ (by omega))
  have r6 := r6.kept (o2 _ (by omega))
  have r7 := r7.kept (o2 _ (by omega))
  have r8 := r8.kept (o2 _ (by omega))
  have r9 := r9.kept (o2 _ (by omega))
  have r10 : cI G 0 (b + 9) 53 (lstI [112, 108, 101, 100, 103, 101, 32, 114, 101, 100, 101, 101, 109, 32, 101, 120, 116, 101, 110, 100, 32, 100, 97, 121, 115, 32, 112, 114, 105, 99, 101, 32, 114, 97, 116, 101, 32, 98, 105, 100, 32, 115, 101]) H2 := c2.snoc (L := [112, 108, 101, 100, 103, 101, 32, 114, 101, 100, 101, 101, 109, 32, 101, 120, 116, 101, 110, 100, 32, 100, 97, 121, 115, 32, 112, 114, 105, 99, 101, 32, 114, 97, 116, 101, 32, 98, 105, 100, 32, 115]) rfl
  have oC : ∀ q : Nat, q < b → q ≠ a → H2[q]? = (wS x).heap[q]? := fun q h1 h2 => (o2 q (by omega)).trans (oC q h1 h2)
  have zc : H2.size = b + 10 := z2.trans zc
  clear c2 z2 o2
  refine k_dup hg hy rfl (by decide +kernel) ?_
  refine k_bipush (z := 43) (v := (43 : Int32)) hg hy (by decide) (by decide +kernel) ?_
  refine k_bipush (z := 108) (v := (108 : Int32)) hg hy (by decide) (by decide +kernel) ?_
  show KW x _ _ _ _ 353 _ _
  refine k_iastk (k := 43) hg hy hwG (by decide +kernel) r10 (by decide) (by decide) (show G.2.2.1 ≤ (b + 9) by omega) hS (fun H2 locs2 c2 z2 o2 hS => ?_)
  have ha := ha.kept (o2 _ (by omega))
  have r1 := r1.kept (o2 _ (by omega))
  have r2 := r2.kept (o2 _ (by omega))
  have r3 := r3.kept (o2 _ (by omega))
  have r4 := r4.kept (o2 _ (by omega))
  have r5 := r5.kept (o2 _ (by omega))
  have r6 := r6.kept (o2 _ (by omega))
  have r7 := r7.kept (o2 _ (by omega))
  have r8 := r8.kept (o2 _ (by omega))
  have r9 := r9.kept (o2 _ (by omega))
  have r10 : cI G 0 (b + 9) 53 (lstI [112, 108, 101, 100, 103, 101, 32, 114, 101, 100, 101, 101, 109, 32, 101, 120, 116, 101, 110, 100, 32, 100, 97, 121, 115, 32, 112, 114, 105, 99, 101, 32, 114, 97, 116, 101, 32, 98, 105, 100, 32, 115, 101, 108]) H2 := c2.snoc (L := [112, 108, 101, 100, 103, 101, 32, 114, 101, 100, 101, 101, 109, 32, 101, 120, 116, 101, 110, 100, 32, 100, 97, 121, 115, 32, 112, 114, 105, 99, 101, 32, 114, 97, 116, 101, 32, 98, 105, 100, 32, 115, 101]) rfl
  have oC : ∀ q : Nat, q < b → q ≠ a → H2[q]? = (wS x).heap[q]? := fun q h1 h2 => (o2 q (by omega)).trans (oC q h1 h2)
  have zc : H2.size = b + 10 := z2.trans zc
  clear c2 z2 o2
  refine k_dup hg hy rfl (by decide +kernel) ?_
  refine k_bipush (z := 44) (v := (44 : Int32)) hg hy (by decide) (by decide +kernel) ?_
  refine k_bipush (z := 108) (v := (108 : Int32)) hg hy (by decide) (by decide +kernel) ?_
  show KW x _ _ _ _ 359 _ _
  refine k_iastk (k := 44) hg hy hwG (by decide +kernel) r10 (by decide) (by decide) (show G.2.2.1 ≤ (b + 9) by omega) hS (fun H2 locs2 c2 z2 o2 hS => ?_)
  have ha := ha.kept (o2 _ (by omega))
  have r1 := r1.kept (o2 _ (by omega))
  have r2 := r2.kept (o2 _ (by omega))
  have r3 := r3.kept (o2 _ (by omega))
  have r4 := r4.kept (o2 _ (by omega))
  have r5 := r5.kept (o2 _ (by omega))
  have r6 := r6.kept (o2 _ (by omega))
  have r7 := r7.kept (o2 _ (by omega))
  have r8 := r8.kept (o2 _ (by omega))
  have r9 := r9.kept (o2 _ (by omega))
  have r10 : cI G 0 (b + 9) 53 (lstI [112, 108, 101, 100, 103, 101, 32, 114, 101, 100, 101, 101, 109, 32, 101, 120, 116, 101, 110, 100, 32, 100, 97, 121, 115, 32, 112, 114, 105, 99, 101, 32, 114, 97, 116, 101, 32, 98, 105, 100, 32, 115, 101, 108, 108]) H2 := c2.snoc (L := [112, 108, 101, 100, 103, 101, 32, 114, 101, 100, 101, 101, 109, 32, 101, 120, 116, 101, 110, 100, 32, 100, 97, 121, 115, 32, 112, 114, 105, 99, 101, 32, 114, 97, 116, 101, 32, 98, 105, 100, 32, 115, 101, 108]) rfl
  have oC : ∀ q : Nat, q < b → q ≠ a → H2[q]? = (wS x).heap[q]? := fun q h1 h2 => (o2 q (by omega)).trans (oC q h1 h2)
  have zc : H2.size = b + 10 := z2.trans zc
  clear c2 z2 o2
  refine k_dup hg hy rfl (by decide +kernel) ?_
  refine k_bipush (z := 45) (v := (45 : Int32)) hg hy (by decide) (by decide +kernel) ?_
  refine k_bipush (z := 32) (v := (32 : Int32)) hg hy (by decide) (by decide +kernel) ?_
  show KW x _ _ _ _ 365 _ _
  refine k_iastk (k := 45) hg hy hwG (by decide +kernel) r10 (by decide) (by decide) (show G.2.2.1 ≤ (b + 9) by omega) hS (fun H2 locs2 c2 z2 o2 hS => ?_)
  have ha := ha.kept (o2 _ (by omega))
  have r1 := r1.kept (o2 _ (by omega))
  have r2 := r2.kept (o2 _ (by omega))
  have r3 := r3.kept (o2 _ (by omega))
  have r4 := r4.kept (o2 _ (by omega))
  have r5 := r5.kept (o2 _ (by omega))
  have r6 := r6.kept (o2 _ (by omega))
  have r7 := r7.kept (o2 _ (by omega))
  have r8 := r8.kept (o2 _ (by omega))
  have r9 := r9.kept (o2 _ (by omega))
  have r10 : cI G 0 (b + 9) 53 (lstI [112, 108, 101, 100, 103, 101, 32, 114, 101, 100, 101, 101, 109, 32, 101, 120, 116, 101, 110, 100, 32, 100, 97, 121, 115, 32, 112, 114, 105, 99, 101, 32, 114, 97, 116, 101, 32, 98, 105, 100, 32, 115, 101, 108, 108, 32]) H2 := c2.snoc (L := [112, 108, 101, 100, 103, 101, 32, 114, 101, 100, 101, 101, 109, 32, 101, 120, 116, 101, 110, 100, 32, 100, 97, 121, 115, 32, 112, 114, 105, 99, 101, 32, 114, 97, 116, 101, 32, 98, 105, 100, 32, 115, 101, 108, 108]) rfl
  have oC : ∀ q : Nat, q < b → q ≠ a → H2[q]? = (wS x).heap[q]? := fun q h1 h2 => (o2 q (by omega)).trans (oC q h1 h2)
  have zc : H2.size = b + 10 := z2.trans zc
  clear c2 z2 o2
  refine k_dup hg hy rfl (by decide +kernel) ?_
  refine k_bipush (z := 46) (v := (46 : Int32)) hg hy (by decide) (by decide +kernel) ?_
  refine k_bipush (z := 101) (v := (101 : Int32)) hg hy (by decide) (by decide +kernel) ?_
  show KW x _ _ _ _ 371 _ _
  refine k_iastk (k := 46) hg hy hwG (by decide +kernel) r10 (by decide) (by decide) (show G.2.2.1 ≤ (b + 9) by omega) hS (fun H2 locs2 c2 z2 o2 hS => ?_)
  have ha := ha.kept (o2 _ (by omega))
  have r1 := r1.kept (o2 _ (by omega))
  have r2 := r2.kept (o2 _ (by omega))
  have r3 := r3.kept (o2 _ (by omega))
  have r4 := r4.kept (o2 _ (by omega))
  have r5 := r5.kept (o2 _ (by omega))
  have r6 := r6.kept (o2 _ (by omega))
  have r7 := r7.kept (o2 _ (by omega))
  have r8 := r8.kept (o2 _ (by omega))
  have r9 := r9.kept (o2 _ (by omega))
  have r10 : cI G 0 (b + 9) 53 (lstI [112, 108, 101, 100, 103, 101, 32, 114, 101, 100, 101, 101, 109, 32, 101, 120, 116, 101, 110, 100, 32, 100, 97, 121, 115, 32, 112, 114, 105, 99, 101, 32, 114, 97, 116, 101, 32, 98, 105, 100, 32, 115, 101, 108, 108, 32, 101]) H2 := c2.snoc (L := [112, 108, 101, 100, 103, 101, 32, 114, 101, 100, 101, 101, 109, 32, 101, 120, 116, 101, 110, 100, 32, 100, 97, 121, 115, 32, 112, 114, 105, 99, 101, 32, 114, 97, 116, 101, 32, 98, 105, 100, 32, 115, 101, 108, 108, 32]) rfl
  have oC : ∀ q : Nat, q < b → q ≠ a → H2[q]? = (wS x).heap[q]? := fun q h1 h2 => (o2 q (by omega)).trans (oC q h1 h2)
  have zc : H2.size = b + 10 := z2.trans zc
  clear c2 z2 o2
  refine k_dup hg hy rfl (by decide +kernel) ?_
  refine k_bipush (z := 47) (v := (47 : Int32)) hg hy (by decide) (by decide +kernel) ?_
  refine k_bipush (z := 118) (v := (118 : Int32)) hg hy (by decide) (by decide +kernel) ?_
  show KW x _ _ _ _ 377 _ _
  refine k_iastk (k := 47) hg hy hwG (by decide +kernel) r10 (by decide) (by decide) (show G.2.2.1 ≤ (b + 9) by omega) hS (fun H2 locs2 c2 z2 o2 hS => ?_)
  have ha := ha.kept (o2 _ (by omega))
  have r1 := r1.kept (o2 _ (by omega))
  have r2 := r2.kept (o2 _ (by omega))
  have r3 := r3.kept (o2 _ (by omega))
  have r4 := r4.kept (o2 _ (by omega))
  have r5 := r5.kept (o2 _ (by omega))
  have r6 := r6.kept (o2 _ (by omega))
  have r7 := r7.kept (o2 _ (by omega))
  have r8 := r8.kept (o2 _ (by omega))
  have r9 := r9.kept (o2 _ (by omega))
  have r10 : cI G 0 (b + 9) 53 (lstI [112, 108, 101, 100, 103, 101, 32, 114, 101, 100, 101, 101, 109, 32, 101, 120, 116, 101, 110, 100, 32, 100, 97, 121, 115, 32, 112, 114, 105, 99, 101, 32, 114, 97, 116, 101, 32, 98, 105, 100, 32, 115, 101, 108, 108, 32, 101, 118]) H2 := c2.snoc (L := [112, 108, 101, 100, 103, 101, 32, 114, 101, 100, 101, 101, 109, 32, 101, 120, 116, 101, 110, 100, 32, 100, 97, 121, 115, 32, 112, 114, 105, 99, 101, 32, 114, 97, 116, 101, 32, 98, 105, 100, 32, 115, 101, 108, 108, 32, 101]) rfl
  have oC : ∀ q : Nat, q < b → q ≠ a → H2[q]? = (wS x).heap[q]? := fun q h1 h2 => (o2 q (by omega)).trans (oC q h1 h2)
  have zc : H2.size = b + 10 := z2.trans zc
  clear c2 z2 o2
  refine k_dup hg hy rfl (by decide +kernel) ?_
  refine k_bipush (z := 48) (v := (48 : Int32)) hg hy (by decide) (by decide +kernel) ?_
  refine k_bipush (z := 101) (v := (101 : Int32)) hg hy (by decide) (by decide +kernel) ?_
  show KW x _ _ _ _ 383 _ _
  refine k_iastk (k := 48) hg hy hwG (by decide +kernel) r10 (by decide) (by decide) (show G.2.2.1 ≤ (b + 9) by omega) hS (fun H2 locs2 c2 z2 o2 hS => ?_)
  have ha := ha.kept (o2 _ (by omega))
  have r1 := r1.kept (o2 _ (by omega))
  have r2 := r2.kept (o2 _ (by omega))
  have r3 := r3.kept (o2 _ (by omega))
  have r4 := r4.kept (o2 _ (by omega))
  have r5 := r5.kept (o2 _ (by omega))
  have r6 := r6.kept (o2 _ (by omega))
  have r7 := r7.kept (o2 _ (by omega))
  have r8 := r8.kept (o2 _ (by omega))
  have r9 := r9.kept (o2 _ (by omega))
  have r10 : cI G 0 (b + 9) 53 (lstI [112, 108, 101, 100, 103, 101, 32, 114, 101, 100, 101, 101, 109, 32, 101, 120, 116, 101, 110, 100, 32, 100, 97, 121, 115, 32, 112, 114, 105, 99, 101, 32, 114, 97, 116, 101, 32, 98, 105, 100, 32, 115, 101, 108, 108, 32, 101, 118, 101]) H2 := c2.snoc (L := [112, 108, 101, 100, 103, 101, 32, 114, 101, 100, 101, 101, 109, 32, 101, 120, 116, 101, 110, 100, 32, 100, 97, 121, 115, 32, 112, 114, 105, 99, 101, 32, 114, 97, 116, 101, 32, 98, 105, 100, 32, 115, 101, 108, 108, 32, 101, 118]) rfl
  have oC : ∀ q : Nat, q < b → q ≠ a → H2[q]? = (wS x).heap[q]? := fun q h1 h2 => (o2 q (by omega)).trans (oC q h1 h2)
  have zc : H2.size = b + 10 := z2.trans zc
  clear c2 z2 o2
  refine k_dup hg hy rfl (by decide +kernel) ?_
  refine k_bipush (z := 49) (v := (49 : Int32)) hg hy (by decide) (by decide +kernel) ?_
  refine k_bipush (z := 110) (v := (110 : Int32)) hg hy (by decide) (by decide +kernel) ?_
  show KW x _ _ _ _ 389 _ _
  refine k_iastk (k := 49) hg hy hwG (by decide +kernel) r10 (by decide) (by decide) (show G.2.2.1 ≤ (b + 9) by omega) hS (fun H2 locs2 c2 z2 o2 hS => ?_)
  have ha := ha.kept (o2 _ (by omega))
  have r1 := r1.kept (o2 _ (by omega))
  have r2 := r2.kept (o2 _ (by omega))
  have r3 := r3.kept (o2 _ (by omega))
  have r4 := r4.kept (o2 _ (by omega))
  have r5 := r5.kept (o2 _ (by omega))
  have r6 := r6.kept (o2 _ (by omega))
  have r7 := r7.kept (o2 _ (by omega))
  have r8 := r8.kept (o2 _ (by omega))
  have r9 := r9.kept (o2 _ (by omega))
  have r10 : cI G 0 (b + 9) 53 (lstI [112, 108, 101, 100, 103, 101, 32, 114, 101, 100, 101, 101, 109, 32, 101, 120, 116, 101, 110, 100, 32, 100, 97, 121, 115, 32, 112, 114, 105, 99, 101, 32, 114, 97, 116, 101, 32, 98, 105, 100, 32, 115, 101, 108, 108, 32, 101, 118, 101, 110]) H2 := c2.snoc (L := [112, 108, 101, 100, 103, 101, 32, 114, 101, 100, 101, 101, 109, 32, 101, 120, 116, 101, 110, 100, 32, 100, 97, 121, 115, 32, 112, 114, 105, 99, 101, 32, 114, 97, 116, 101, 32, 98, 105, 100, 32, 115, 101, 108, 108, 32, 101, 118, 101]) rfl
  have oC : ∀ q : Nat, q < b → q ≠ a → H2[q]? = (wS x).heap[q]? := fun q h1 h2 => (o2 q (by omega)).trans (oC q h1 h2)
  have zc : H2.size = b + 10 := z2.trans zc
  clear c2 z2 o2
  refine k_dup hg hy rfl (by decide +kernel) ?_
  refine k_bipush (z := 50) (v := (50 : Int32)) hg hy (by decide) (by decide +kernel) ?_
  refine k_bipush (z := 105) (v := (105 : Int32)) hg hy (by decide) (by decide +kernel) ?_
  show KW x _ _ _ _ 395 _ _
  refine k_iastk (k := 50) hg hy hwG (by decide +kernel) r10 (by decide) (by decide) (show G.2.2.1 ≤ (b + 9) by omega) hS (fun H2 locs2 c2 z2 o2 hS => ?_)
  have ha := ha.kept (o2 _ (by omega))
  have r1 := r1.kept (o2 _ (by omega))
  have r2 := r2.kept (o2 _ (by omega))
  have r3 := r3.kept (o2 _ (by omega))
  have r4 := r4.kept (o2 _ (by omega))
  have r5 := r5.kept (o2 _ (by omega))
  have r6 := r6.kept (o2 _ (by omega))
  have r7 := r7.kept (o2 _ (by omega))
  have r8 := r8.kept (o2 _ (by omega))
  have r9 := r9.kept (o2 _ (by omega))
  have r10 : cI G 0 (b + 9) 53 (lstI [112, 108, 101, 100, 103, 101, 32, 114, 101, 100, 101, 101, 109, 32, 101, 120, 116, 101, 110, 100, 32, 100, 97, 121, 115, 32, 112, 114, 105, 99, 101, 32, 114, 97, 116, 101, 32, 98, 105, 100, 32, 115, 101, 108, 108, 32, 101, 118, 101, 110, 105]) H2 := c2.snoc (L := [112, 108, 101, 100, 103, 101, 32, 114, 101, 100, 101, 101, 109, 32, 101, 120, 116, 101, 110, 100, 32, 100, 97, 121, 115, 32, 112, 114, 105, 99, 101, 32, 114, 97, 116, 101, 32, 98, 105, 100, 32, 115, 101, 108, 108, 32, 101, 118, 101, 110]) rfl
  have oC : ∀ q : Nat, q < b → q ≠ a → H2[q]? = (wS x).heap[q]? := fun q h1 h2 => (o2 q (by omega)).trans (oC q h1 h2)
  have zc : H2.size = b + 10 := z2.trans zc
  clear c2 z2 o2
  refine k_dup hg hy rfl (by decide +kernel) ?_
  refine k_bipush (z := 51) (v := (51 : Int32)) hg hy (by decide) (by decide +kernel) ?_
  refine k_bipush (z := 110) (v := (110 : Int32)) hg hy (by decide) (by decide +kernel) ?_
  show KW x _ _ _ _ 401 _ _
  refine k_iastk (k := 51) hg hy hwG (by decide +kernel) r10 (by decide) (by decide) (show G.2.2.1 ≤ (b + 9) by omega) hS (fun H2 locs2 c2 z2 o2 hS => ?_)
  have ha := ha.kept (o2 _ (by omega))
  have r1 := r1.kept (o2 _ (by omega))
  have r2 := r2.kept (o2 _ (by omega))
  have r3 := r3.kept (o2 _ (by omega))
  have r4 := r4.kept (o2 _ (by omega))
  have r5 := r5.kept (o2 _ (by omega))
  have r6 := r6.kept (o2 _ (by omega))
  have r7 := r7.kept (o2 _ (by omega))
  have r8 := r8.kept (o2 _ (by omega))
  have r9 := r9.kept (o2 _ (by omega))
  have r10 : cI G 0 (b + 9) 53 (lstI [112, 108, 101, 100, 103, 101, 32, 114, 101, 100, 101, 101, 109, 32, 101, 120, 116, 101, 110, 100, 32, 100, 97, 121, 115, 32, 112, 114, 105, 99, 101, 32, 114, 97, 116, 101, 32, 98, 105, 100, 32, 115, 101, 108, 108, 32, 101, 118, 101, 110, 105, 110]) H2 := c2.snoc (L := [112, 108, 101, 100, 103, 101, 32, 114, 101, 100, 101, 101, 109, 32, 101, 120, 116, 101, 110, 100, 32, 100, 97, 121, 115, 32, 112, 114, 105, 99, 101, 32, 114, 97, 116, 101, 32, 98, 105, 100, 32, 115, 101, 108, 108, 32, 101, 118, 101, 110, 105]) rfl
  have oC : ∀ q : Nat, q < b → q ≠ a → H2[q]? = (wS x).heap[q]? := fun q h1 h2 => (o2 q (by omega)).trans (oC q h1 h2)
  have zc : H2.size = b + 10 := z2.trans zc
  clear c2 z2 o2
  refine k_dup hg hy rfl (by decide +kernel) ?_
  refine k_bipush (z := 52) (v := (52 : Int32)) hg hy (by decide) (by decide +kernel) ?_
  refine k_bipush (z := 103) (v := (103 : Int32)) hg hy (by decide) (by decide +kernel) ?_
  show KW x _ _ _ _ 407 _ _
  refine k_iastk (k := 52) hg hy hwG (by decide +kernel) r10 (by decide) (by decide) (show G.2.2.1 ≤ (b + 9) by omega) hS (fun H2 locs2 c2 z2 o2 hS => ?_)
  have ha := ha.kept (o2 _ (by omega))
  have r1 := r1.kept (o2 _ (by omega))
  have r2 := r2.kept (o2 _ (by omega))
  have r3 := r3.kept (o2 _ (by omega))
  have r4 := r4.kept (o2 _ (by omega))
  have r5 := r5.kept (o2 _ (by omega))
  have r6 := r6.kept (o2 _ (by omega))
  have r7 := r7.kept (o2 _ (by omega))
  have r8 := r8.kept (o2 _ (by omega))
  have r9 := r9.kept (o2 _ (by omega))
  have r10 : cI G 0 (b + 9) 53 (lstI [112, 108, 101, 100, 103, 101, 32, 114, 101, 100, 101, 101, 109, 32, 101, 120, 116, 101, 110, 100, 32, 100, 97, 121, 115, 32, 112, 114, 105, 99, 101, 32, 114, 97, 116, 101, 32, 98, 105, 100, 32, 115, 101, 108, 108, 32, 101, 118, 101, 110, 105, 110, 103]) H2 := c2.snoc (L := [112, 108, 101, 100, 103, 101, 32, 114, 101, 100, 101, 101, 109, 32, 101, 120, 116, 101, 110, 100, 32, 100, 97, 121, 115, 32, 112, 114, 105, 99, 101, 32, 114, 97, 116, 101, 32, 98, 105, 100, 32, 115, 101, 108, 108, 32, 101, 118, 101, 110, 105, 110]) rfl
  have oC : ∀ q : Nat, q < b → q ≠ a → H2[q]? = (wS x).heap[q]? := fun q h1 h2 => (o2 q (by omega)).trans (oC q h1 h2)
  have zc : H2.size = b + 10 := z2.trans zc
  clear c2 z2 o2
  show KW x _ _ _ _ 408 _ _
  refine k_put (idx := 44) (ci := 13) (k := 14) (a := a) (fs := [.int 0, .int 0, .int (-1), .int (-1), .int 0, .ref b, .ref (b + 1), .ref (b + 2), .ref (b + 3), .ref (b + 4), .ref (b + 5), .ref (b + 6), .ref (b + 7), .ref (b + 8), .null, .null, .int 0, .int 0, .int 0, .int 0, .int 0, .int 0]) hg hy hwG hnm (by decide +kernel) ⟨RX11, TX11, 22, tyX11, (.array .int), rfl, by decide, (TBg_at 1613 (by decide +kernel)), lay_X11, tyX11_ok, nmX11, rfl, rfl, rfl, rfl⟩ ha (Nat.le_of_ble_eq_true rfl) haA hS (fun H2 locs2 ha z2 o2 hS => ?_)
  have ha : cO G a 13 [.int 0, .int 0, .int (-1), .int (-1), .int 0, .ref b, .ref (b + 1), .ref (b + 2), .ref (b + 3), .ref (b + 4), .ref (b + 5), .ref (b + 6), .ref (b + 7), .ref (b + 8), .ref (b + 9), .null, .int 0, .int 0, .int 0, .int 0, .int 0, .int 0] H2 := ha
  have r1 := r1.kept (o2 _ (by omega))
  have r2 := r2.kept (o2 _ (by omega))
  have r3 := r3.kept (o2 _ (by omega))
  have r4 := r4.kept (o2 _ (by omega))
  have r5 := r5.kept (o2 _ (by omega))
  have r6 := r6.kept (o2 _ (by omega))
  have r7 := r7.kept (o2 _ (by omega))
  have r8 := r8.kept (o2 _ (by omega))
  have r9 := r9.kept (o2 _ (by omega))
  have r10 := r10.kept (o2 _ (by omega))
  have oC : ∀ q : Nat, q < b → q ≠ a → H2[q]? = (wS x).heap[q]? := fun q h1 h2 => (o2 q h2).trans (oC q h1 h2)
  have zc : H2.size = b + 10 := z2.trans zc
  clear z2 o2
  refine k_aload_n (f := 0) (i := 0) hg hy (by decide +kernel) rfl rfl rfl ?_
  refine k_bipush (z := 10) (v := (10 : Int32)) hg hy (by decide) (by decide +kernel) ?_
  show KW x _ _ _ _ 414 _ _
  refine k_newa (atype := .int) (t := 0) (N := 10) (a0 := (10, .inl (fun _ => 0))) hg hy hwG (by decide +kernel) (TBg_at 129 (by decide +kernel)) rfl (fun _ => rfl) (by decide) (by decide) (Nat.le_of_ble_eq_true rfl) hS (Nat.le_of_ble_eq_true rfl) (Nat.le_of_ble_eq_true rfl) (fun H2 c2 z2 o2 hS => ?_)
  rw [zc] at c2 z2 o2 ⊢
  have ha := ha.kept (o2 _ (by omega))
  have r1 := r1.kept (o2 _ (by omega))
  have r2 := r2.kept (o2 _ (by omega))
  have r3 := r3.kept (o2 _ (by omega))
  have r4 := r4.kept (o2 _ (by omega))
  have r5 := r5.kept (o2 _ (by omega))
  have r6 := r6.kept (o2 _ (by omega))
  have r7 := r7.kept (o2 _ (by omega))
  have r8 := r8.kept (o2 _ (by omega))
  have r9 := r9.kept (o2 _ (by omega))
  have r10 := r10.kept (o2 _ (by omega))
  have oC : ∀ q : Nat, q < b → q ≠ a → H2[q]? = (wS x).heap[q]? := fun q h1 h2 => (o2 q (by omega)).trans (oC q h1 h2)
  have zc : H2.size = b + 11 := by omega
  have r11 : cI G 0 (b + 10) 10 (fun _ => 0) H2 := c2
  clear c2 z2 o2
  have r11 := r11.nil
  refine k_dup hg hy rfl (by decide +kernel) ?_
  refine k_iconst (z := 0) (v := (0 : Int32)) hg hy (by decide) (by decide +kernel) ?_
  refine k_iconst (z := 0) (v := (0 : Int32)) hg hy (by decide) (by decide +kernel) ?_
  show KW x _ _ _ _ 419 _ _
  refine k_iastk (k := 0) hg hy hwG (by decide +kernel) r11 (by decide) (by decide) (show G.2.2.1 ≤ (b + 10) by omega) hS (fun H2 locs2 c2 z2 o2 hS => ?_)
  have ha := ha.kept (o2 _ (by omega))
  have r1 := r1.kept (o2 _ (by omega))
  have r2 := r2.kept (o2 _ (by omega))
  have r3 := r3.kept (o2 _ (by omega))
  have r4 := r4.kept (o2 _ (by omega))
  have r5 := r5.kept (o2 _ (by omega))
  have r6 := r6.kept (o2 _ (by omega))
  have r7 := r7.kept (o2 _ (by omega))
  have r8 := r8.kept (o2 _ (by omega))
  have r9 := r9.kept (o2 _ (by omega))
  have r10 := r10.kept (o2 _ (by omega))
  have r11 : cI G 0 (b + 10) 10 (lstI [0]) H2 := c2.snoc (L := []) rfl
  have oC : ∀ q : Nat, q < b → q ≠ a → H2[q]? = (wS x).heap[q]? := fun q h1 h2 => (o2 q (by omega)).trans (oC q h1 h2)
  have zc : H2.size = b + 11 := z2.trans zc
  clear c2 z2 o2
  refine k_dup hg hy rfl (by decide +kernel) ?_
  refine k_iconst (z := 1) (v := (1 : Int32)) hg hy (by decide) (by decide +kernel) ?_
  refine k_bipush (z := 7) (v := (7 : Int32)) hg hy (by decide) (by decide +kernel) ?_
  show KW x _ _ _ _ 424 _ _
  refine k_iastk (k := 1) hg hy hwG (by decide +kernel) r11 (by decide) (by decide) (show G.2.2.1 ≤ (b + 10) by omega) hS (fun H2 locs2 c2 z2 o2 hS => ?_)
  have ha := ha.kept (o2 _ (by omega))
  have r1 := r1.kept (o2 _ (by omega))
  have r2 := r2.kept (o2 _ (by omega))
  have r3 := r3.kept (o2 _ (by omega))
  have r4 := r4.kept (o2 _ (by omega))
  have r5 := r5.kept (o2 _ (by omega))
  have r6 := r6.kept (o2 _ (by omega))
  have r7 := r7.kept (o2 _ (by omega))
  have r8 := r8.kept (o2 _ (by omega))
  have r9 := r9.kept (o2 _ (by omega))
  have r10 := r10.kept (o2 _ (by omega))
  have r11 : cI G 0 (b + 10) 10 (lstI [0, 7]) H2 := c2.snoc (L := [0]) rfl
  have oC : ∀ q : Nat, q < b → q ≠ a → H2[q]? = (wS x).heap[q]? := fun q h1 h2 => (o2 q (by omega)).trans (oC q h1 h2)
  have zc : H2.size = b + 11 := z2.trans zc
  clear c2 z2 o2
  refine k_dup hg hy rfl (by decide +kernel) ?_
  refine k_iconst (z := 2) (v := (2 : Int32)) hg hy (by decide) (by decide +kernel) ?_
  refine k_bipush (z := 14) (v := (14 : Int32)) hg hy (by decide) (by decide +kernel) ?_
  show KW x _ _ _ _ 429 _ _
  refine k_iastk (k := 2) hg hy hwG (by decide +kernel) r11 (by decide) (by decide) (show G.2.2.1 ≤ (b + 10) by omega) hS (fun H2 locs2 c2 z2 o2 hS => ?_)
  have ha := ha.kept (o2 _ (by omega))
  have r1 := r1.kept (o2 _ (by omega))
  have r2 := r2.kept (o2 _ (by omega))
  have r3 := r3.kept (o2 _ (by omega))
  have r4 := r4.kept (o2 _ (by omega))
  have r5 := r5.kept (o2 _ (by omega))
  have r6 := r6.kept (o2 _ (by omega))
  have r7 := r7.kept (o2 _ (by omega))
  have r8 := r8.kept (o2 _ (by omega))
  have r9 := r9.kept (o2 _ (by omega))
  have r10 := r10.kept (o2 _ (by omega))
  have r11 : cI G 0 (b + 10) 10 (lstI [0, 7, 14]) H2 := c2.snoc (L := [0, 7]) rfl
  have oC : ∀ q : Nat, q < b → q ≠ a → H2[q]? = (wS x).heap[q]? := fun q h1 h2 => (o2 q (by omega)).trans (oC q h1 h2)
  have zc : H2.size = b + 11 := z2.trans zc
  clear c2 z2 o2
  refine k_dup hg hy rfl (by decide +kernel) ?_
  refine k_iconst (z := 3) (v := (3 : Int32)) hg hy (by decide) (by decide +kernel) ?_
  refine k_bipush (z := 21) (v := (21 : Int32)) hg hy (by decide) (by decide +kernel) ?_
  show KW x _ _ _ _ 434 _ _
  refine k_iastk (k := 3) hg hy hwG (by decide +kernel) r11 (by decide) (by decide) (show G.2.2.1 ≤ (b + 10) by omega) hS (fun H2 locs2 c2 z2 o2 hS => ?_)
  have ha := ha.kept (o2 _ (by omega))
  have r1 := r1.kept (o2 _ (by omega))
  have r2 := r2.kept (o2 _ (by omega))
  have r3 := r3.kept (o2 _ (by omega))
  have r4 := r4.kept (o2 _ (by omega))
  have r5 := r5.kept (o2 _ (by omega))
  have r6 := r6.kept (o2 _ (by omega))
  have r7 := r7.kept (o2 _ (by omega))
  have r8 := r8.kept (o2 _ (by omega))
  have r9 := r9.kept (o2 _ (by omega))
  have r10 := r10.kept (o2 _ (by omega))
  have r11 : cI G 0 (b + 10) 10 (lstI [0, 7, 14, 21]) H2 := c2.snoc (L := [0, 7, 14]) rfl
  have oC : ∀ q : Nat, q < b → q ≠ a → H2[q]? = (wS x).heap[q]? := fun q h1 h2 => (o2 q (by omega)).trans (oC q h1 h2)
  have zc : H2.size = b + 11 := z2.trans zc
  clear c2 z2 o2
  refine k_dup hg hy rfl (by decide +kernel) ?_
  refine k_iconst (z := 4) (v := (4 : Int32)) hg hy (by decide) (by decide +kernel) ?_
  refine k_bipush (z := 26) (v := (26 : Int32)) hg hy (by decide) (by decide +kernel) ?_
  show KW x _ _ _ _ 439 _ _
  refine k_iastk (k := 4) hg hy hwG (by decide +kernel) r11 (by decide) (by decide) (show G.2.2.1 ≤ (b + 10) by omega) hS (fun H2 locs2 c2 z2 o2 hS => ?_)
  have ha := ha.kept (o2 _ (by omega))
  have r1 := r1.kept (o2 _ (by omega))
  have r2 := r2.kept (o2 _ (by omega))
  have r3 := r3.kept (o2 _ (by omega))
  have r4 := r4.kept (o2 _ (by omega))
  have r5 := r5.kept (o2 _ (by omega))
  have r6 := r6.kept (o2 _ (by omega))
  have r7 := r7.kept (o2 _ (by omega))
  have r8 := r8.kept (o2 _ (by omega))
  have r9 := r9.kept (o2 _ (by omega))
  have r10 := r10.kept (o2 _ (by omega))
  have r11 : cI G 0 (b + 10) 10 (lstI [0, 7, 14, 21, 26]) H2 := c2.snoc (L := [0, 7, 14, 21]) rfl
  have oC : ∀ q : Nat, q < b → q ≠ a → H2[q]? = (wS x).heap[q]? := fun q h1 h2 => (o2 q (by omega)).trans (oC q h1 h2)
  have zc : H2.size = b + 11 := z2.trans zc
  clear c2 z2 o2
  refine k_dup hg hy rfl (by decide +kernel) ?_
  refine k_iconst (z := 5) (v := (5 : Int32)) hg hy (by decide) (by decide +kernel) ?_
  refine k_bipush (z := 32) (v := (32 : Int32)) hg hy (by decide) (by decide +kernel) ?_
  show KW x _ _ _ _ 444 _ _
  refine k_iastk (k := 5) hg hy hwG (by decide +kernel) r11 (by decide) (by decide) (show G.2.2.1 ≤ (b + 10) by omega) hS (fun H2 locs2 c2 z2 o2 hS => ?_)
  have ha := ha.kept (o2 _ (by omega))
  have r1 := r1.kept (o2 _ (by omega))
  have r2 := r2.kept (o2 _ (by omega))
  have r3 := r3.kept (o2 _ (by omega))
  have r4 := r4.kept (o2 _ (by omega))
  have r5 := r5.kept (o2 _ (by omega))
  have r6 := r6.kept (o2 _ (by omega))
  have r7 := r7.kept (o2 _ (by omega))
  have r8 := r8.kept (o2 _ (by omega))
  have r9 := r9.kept (o2 _ (by omega))
  have r10 := r10.kept (o2 _ (by omega))
  have r11 : cI G 0 (b + 10) 10 (lstI [0, 7, 14, 21, 26, 32]) H2 := c2.snoc (L := [0, 7, 14, 21, 26]) rfl
  have oC : ∀ q : Nat, q < b → q ≠ a → H2[q]? = (wS x).heap[q]? := fun q h1 h2 => (o2 q (by omega)).trans (oC q h1 h2)
  have zc : H2.size = b + 11 := z2.trans zc
  clear c2 z2 o2
  refine k_dup hg hy rfl (by decide +kernel) ?_
  refine k_bipush (z := 6) (v := (6 : Int32)) hg hy (by decide) (by decide +kernel) ?_
  refine k_bipush (z := 37) (v := (37 : Int32)) hg hy (by decide) (by decide +kernel) ?_
  show KW x _ _ _ _ 450 _ _
  refine k_iastk (k := 6) hg hy hwG (by decide +kernel) r11 (by decide) (by decide) (show G.2.2.1 ≤ (b + 10) by omega) hS (fun H2 locs2 c2 z2 o2 hS => ?_)
  have ha := ha.kept (o2 _ (by omega))
  have r1 := r1.kept (o2 _ (by omega))
  have r2 := r2.kept (o2 _ (by omega))
  have r3 := r3.kept (o2 _ (by omega))
  have r4 := r4.kept (o2 _ (by omega))
  have r5 := r5.kept (o2 _ (by omega))
  have r6 := r6.kept (o2 _ (by omega))
  have r7 := r7.kept (o2 _ (by omega))
  have r8 := r8.kept (o2 _ (by omega))
  have r9 := r9.kept (o2 _ (by omega))
  have r10 := r10.kept (o2 _ (by omega))
  have r11 : cI G 0 (b + 10) 10 (lstI [0, 7, 14, 21, 26, 32, 37]) H2 := c2.snoc (L := [0, 7, 14, 21, 26, 32]) rfl
  have oC : ∀ q : Nat, q < b → q ≠ a → H2[q]? = (wS x).heap[q]? := fun q h1 h2 => (o2 q (by omega)).trans (oC q h1 h2)
  have zc : H2.size = b + 11 := z2.trans zc
  clear c2 z2 o2
  refine k_dup hg hy rfl (by decide +kernel) ?_
  refine k_bipush (z := 7) (v := (7 : Int32)) hg hy (by decide) (by decide +kernel) ?_
  refine k_bipush (z := 41) (v := (41 : Int32)) hg hy (by decide) (by decide +kernel) ?_
  show KW x _ _ _ _ 456 _ _
  refine k_iastk (k := 7) hg hy hwG (by decide +kernel) r11 (by decide) (by decide) (show G.2.2.1 ≤ (b + 10) by omega) hS (fun H2 locs2 c2 z2 o2 hS => ?_)
  have ha := ha.kept (o2 _ (by omega))
  have r1 := r1.kept (o2 _ (by omega))
  have r2 := r2.kept (o2 _ (by omega))
  have r3 := r3.kept (o2 _ (by omega))
  have r4 := r4.kept (o2 _ (by omega))
  have r5 := r5.kept (o2 _ (by omega))
  have r6 := r6.kept (o2 _ (by omega))
  have r7 := r7.kept (o2 _ (by omega))
  have r8 := r8.kept (o2 _ (by omega))
  have r9 := r9.kept (o2 _ (by omega))
  have r10 := r10.kept (o2 _ (by omega))
  have r11 : cI G 0 (b + 10) 10 (lstI [0, 7, 14, 21, 26, 32, 37, 41]) H2 := c2.snoc (L := [0, 7, 14, 21, 26, 32, 37]) rfl
  have oC : ∀ q : Nat, q < b → q ≠ a → H2[q]? = (wS x).heap[q]? := fun q h1 h2 => (o2 q (by omega)).trans (oC q h1 h2)
  have zc : H2.size = b + 11 := z2.trans zc
  clear c2 z2 o2
  refine k_dup hg hy rfl (by decide +kernel) ?_
  refine k_bipush (z := 8) (v := (8 : Int32)) hg hy (by decide) (by decide +kernel) ?_
  refine k_bipush (z := 46) (v := (46 : Int32)) hg hy (by decide) (by decide +kernel) ?_
  show KW x _ _ _ _ 462 _ _
  refine k_iastk (k := 8) hg hy hwG (by decide +kernel) r11 (by decide) (by decide) (show G.2.2.1 ≤ (b + 10) by omega) hS (fun H2 locs2 c2 z2 o2 hS => ?_)
  have ha := ha.kept (o2 _ (by omega))
  have r1 := r1.kept (o2 _ (by omega))
  have r2 := r2.kept (o2 _ (by omega))
  have r3 := r3.kept (o2 _ (by omega))
  have r4 := r4.kept (o2 _ (by omega))
  have r5 := r5.kept (o2 _ (by omega))
  have r6 := r6.kept (o2 _ (by omega))
  have r7 := r7.kept (o2 _ (by omega))
  have r8 := r8.kept (o2 _ (by omega))
  have r9 := r9.kept (o2 _ (by omega))
  have r10 := r10.kept (o2 _ (by omega))
  have r11 : cI G 0 (b + 10) 10 (lstI [0, 7, 14, 21, 26, 32, 37, 41, 46]) H2 := c2.snoc (L := [0, 7, 14, 21, 26, 32, 37, 41]) rfl
  have oC : ∀ q : Nat, q < b → q ≠ a → H2[q]? = (wS x).heap[q]? := fun q h1 h2 => (o2 q (by omega)).trans (oC q h1 h2)
  have zc : H2.size = b + 11 := z2.trans zc
  clear c2 z2 o2
  refine k_dup hg hy rfl (by decide +kernel) ?_
  refine k_bipush (z := 9) (v := (9 : Int32)) hg hy (by decide) (by decide +kernel) ?_
  refine k_bipush (z := 53) (v := (53 : Int32)) hg hy (by decide) (by decide +kernel) ?_
  show KW x _ _ _ _ 468 _ _
  refine k_iastk (k := 9) hg hy hwG (by decide +kernel) r11 (by decide) (by decide) (show G.2.2.1 ≤ (b + 10) by omega) hS (fun H2 locs2 c2 z2 o2 hS => ?_)
  have ha := ha.kept (o2 _ (by omega))
  have r1 := r1.kept (o2 _ (by omega))
  have r2 := r2.kept (o2 _ (by omega))
  have r3 := r3.kept (o2 _ (by omega))
  have r4 := r4.kept (o2 _ (by omega))
  have r5 := r5.kept (o2 _ (by omega))
  have r6 := r6.kept (o2 _ (by omega))
  have r7 := r7.kept (o2 _ (by omega))
  have r8 := r8.kept (o2 _ (by omega))
  have r9 := r9.kept (o2 _ (by omega))
  have r10 := r10.kept (o2 _ (by omega))
  have r11 : cI G 0 (b + 10) 10 (lstI [0, 7, 14, 21, 26, 32, 37, 41, 46, 53]) H2 := c2.snoc (L := [0, 7, 14, 21, 26, 32, 37, 41, 46]) rfl
  have oC : ∀ q : Nat, q < b → q ≠ a → H2[q]? = (wS x).heap[q]? := fun q h1 h2 => (o2 q (by omega)).trans (oC q h1 h2)
  have zc : H2.size = b + 11 := z2.trans zc
  clear c2 z2 o2
  show KW x _ _ _ _ 469 _ _
  refine k_put (idx := 47) (ci := 13) (k := 15) (a := a) (fs := [.int 0, .int 0, .int (-1), .int (-1), .int 0, .ref b, .ref (b + 1), .ref (b + 2), .ref (b + 3), .ref (b + 4), .ref (b + 5), .ref (b + 6), .ref (b + 7), .ref (b + 8), .ref (b + 9), .null, .int 0, .int 0, .int 0, .int 0, .int 0, .int 0]) hg hy hwG hnm (by decide +kernel) ⟨RX11, TX11, 22, tyX11, (.array .int), rfl, by decide, (TBg_at 1614 (by decide +kernel)), lay_X11, tyX11_ok, nmX11, rfl, rfl, rfl, rfl⟩ ha (Nat.le_of_ble_eq_true rfl) haA hS (fun H2 locs2 ha z2 o2 hS => ?_)
  have ha : cO G a 13 [.int 0, .int 0, .int (-1), .int (-1), .int 0, .ref b, .ref (b + 1), .ref (b + 2), .ref (b + 3), .ref (b + 4), .ref (b + 5), .ref (b + 6), .ref (b + 7), .ref (b + 8), .ref (b + 9), .ref (b + 10), .int 0, .int 0, .int 0, .int 0, .int 0, .int 0] H2 := ha
  have r1 := r1.kept (o2 _ (by omega))
  have r2 := r2.kept (o2 _ (by omega))
  have r3 := r3.kept (o2 _ (by omega))
  have r4 := r4.kept (o2 _ (by omega))
  have r5 := r5.kept (o2 _ (by omega))
  have r6 := r6.kept (o2 _ (by omega))
  have r7 := r7.kept (o2 _ (by omega))
  have r8 := r8.kept (o2 _ (by omega))
  have r9 := r9.kept (o2 _ (by omega))
  have r10 := r10.kept (o2 _ (by omega))
  have r11 := r11.kept (o2 _ (by omega))
  have oC : ∀ q : Nat, q < b → q ≠ a → H2[q]? = (wS x).heap[q]? := fun q h1 h2 => (o2 q h2).trans (oC q h1 h2)
  have zc : H2.size = b + 11 := z2.trans zc
  clear z2 o2
  show KW x _ _ _ _ 472 _ _
  refine k_aload_n (f := 0) (i := 0) hg hy (by decide +kernel) rfl rfl rfl ?_
  refine k_get (idx := 16) (ci := 13) (k := 5) (v := .inl (.ref b)) hg hy hwG (by decide +kernel) ⟨RX11, TX11, 22, rfl, by decide, (TBg_at 1604 (by decide +kernel)), lay_X11⟩ ha rfl ?_
  refine k_iconst (z := 1) (v := (1 : Int32)) hg hy (by decide) (by decide +kernel) ?_
  refine k_iconst (z := 2) (v := (2 : Int32)) hg hy (by decide) (by decide +kernel) ?_
  refine k_iastk (k := 1) hg hy hwG (by decide +kernel) r1 (by decide) (by decide) (show G.2.2.1 ≤ b by omega) hS (fun H2 locs2 r1 z2 o2 hS => ?_)
  have ha := ha.kept (o2 _ (by omega))
  have r2 := r2.kept (o2 _ (by omega))
  have r3 := r3.kept (o2 _ (by omega))
  have r4 := r4.kept (o2 _ (by omega))
  have r5 := r5.kept (o2 _ (by omega))
  have r6 := r6.kept (o2 _ (by omega))
  have r7 := r7.kept (o2 _ (by omega))
  have r8 := r8.kept (o2 _ (by omega))
  have r9 := r9.kept (o2 _ (by omega))
  have r10 := r10.kept (o2 _ (by omega))
  have r11 := r11.kept (o2 _ (by omega))
  have oC : ∀ q : Nat, q < b → q ≠ a → H2[q]? = (wS x).heap[q]? := fun q h1 h2 => (o2 q (by omega)).trans (oC q h1 h2)
  have zc := z2.trans zc
  clear z2 o2
  show KW x _ _ _ _ 479 _ _
  refine k_aload_n (f := 0) (i := 0) hg hy (by decide +kernel) rfl rfl rfl ?_
  refine k_get (idx := 16) (ci := 13) (k := 5) (v := .inl (.ref b)) hg hy hwG (by decide +kernel) ⟨RX11, TX11, 22, rfl, by decide, (TBg_at 1604 (by decide +kernel)), lay_X11⟩ ha rfl ?_
  refine k_iconst (z := 2) (v := (2 : Int32)) hg hy (by decide) (by decide +kernel) ?_
  refine k_sipush (z := 2000) (v := (2000 : Int32)) hg hy (by decide) (by decide +kernel) ?_
  refine k_iastk (k := 2) hg hy hwG (by decide +kernel) r1 (by decide) (by decide) (show G.2.2.1 ≤ b by omega) hS (fun H2 locs2 r1 z2 o2 hS => ?_)
  have ha := ha.kept (o2 _ (by omega))
  have r2 := r2.kept (o2 _ (by omega))
  have r3 := r3.kept (o2 _ (by omega))
  have r4 := r4.kept (o2 _ (by omega))
  have r5 := r5.kept (o2 _ (by omega))
  have r6 := r6.kept (o2 _ (by omega))
  have r7 := r7.kept (o2 _ (by omega))
  have r8 := r8.kept (o2 _ (by omega))
  have r9 := r9.kept (o2 _ (by omega))
  have r10 := r10.kept (o2 _ (by omega))
  have r11 := r11.kept (o2 _ (by omega))
  have oC : ∀ q : Nat, q < b → q ≠ a → H2[q]? = (wS x).heap[q]? := fun q h1 h2 => (o2 q (by omega)).trans (oC q h1 h2)
  have zc := z2.trans zc
  clear z2 o2
  refine k_iconst (z := 0) (v := (0 : Int32)) hg hy (by decide) (by decide +kernel) ?_
  refine k_istore_n (f := 1) (i := 1) hg hy (by decide +kernel) rfl (by decide) ?_
  exact loop 7 0 _ _ _ (Nat.zero_add 7) ha r2 r3 r4 r5 r6 r7 r8 r9 r10 r11 (r1.congr (fun j hj => vI0_0)) zc oC hS (List.forall_mem_cons.mpr ⟨rfl, List.forall_mem_cons.mpr ⟨rfl, fun _ h => absurd h List.not_mem_nil⟩⟩)
end CN2
