/-! ===== the constructors: the owner and the reference ===== -/
def MoC (G : GG) (a b : Nat) (H : Heap) : Prop := cO G a 12 [.ref b, .ref (b + 25), .int (0), .ref (b + 50), .ref (b + 277), .ref (b + 283), .ref (b + 320), .ref (b + 333), .int (-1), .int (-1)] H ∧ ShC G b (b + 1) H ∧ ShC G (b + 25) (b + 26) H ∧ HiC G (b + 50) (b + 51) H ∧ ReC G (b + 277) (b + 278) H ∧ EvC G (b + 283) (b + 284) H ∧ PrC G (b + 320) (b + 321) H ∧ SbC G (b + 333) (b + 334) H
def wordsI : List Int32 := [112, 108, 101, 100, 103, 101, 32, 114, 101, 100, 101, 101, 109, 32, 101, 120, 116, 101, 110, 100, 32, 100, 97, 121, 115, 32, 112, 114, 105, 99, 101, 32, 114, 97, 116, 101, 32, 98, 105, 100, 32, 115, 101, 108, 108, 32, 101, 118, 101, 110, 105, 110, 103]
def wordAtI : List Int32 := [0, 7, 14, 21, 26, 32, 37, 41, 46, 53]
def vI0 (i : Nat) : Nat → Int32 := fun j => if j = 1 then 2 else if j = 2 then 2000 else if 9 ≤ j ∧ j < 9 + i then 1 else 0
theorem vI0_0 {j : Nat} : uI (uI (fun _ => (0 : Int32)) 1 2) 2 2000 j = vI0 0 j := by
  unfold uI vI0
  by_cases h1 : j = 1
  · subst h1; rfl
  · by_cases h2 : j = 2
    · subst h2; rfl
    · rw [if_neg h2, if_neg h1, if_neg h1, if_neg h2, if_neg (by omega)]
theorem vI0_s {i j : Nat} (hi : i ≤ 7) : uI (vI0 i) (9 + i) 1 j = vI0 (i + 1) j := by
  unfold uI vI0
  by_cases e : j = 9 + i
  · subst e
    rw [if_pos rfl, if_neg (by omega), if_neg (by omega), if_pos (by omega)]
  · rw [if_neg e]
    by_cases h : 9 ≤ j ∧ j < 9 + i
    · rw [if_pos h, if_pos (show 9 ≤ j ∧ j < 9 + (i + 1) by omega)]
    · rw [if_neg h, if_neg (show ¬ (9 ≤ j ∧ j < 9 + (i + 1)) by omega)]
def MdC (G : GG) (a b : Nat) (H : Heap) : Prop := cO G a 13 [.int 0, .int 0, .int (-1), .int (-1), .int 0, .ref b, .ref (b + 1), .ref (b + 2), .ref (b + 3), .ref (b + 4), .ref (b + 5), .ref (b + 6), .ref (b + 7), .ref (b + 8), .ref (b + 9), .ref (b + 10), .int 0, .int 0, .int 0, .int 0, .int 0, .int 0] H ∧ cI G 0 b 136 (vI0 7) H ∧ cI G 0 (b + 1) 136 (fun _ => 0) H ∧ cI G 0 (b + 2) 136 (fun _ => 0) H ∧ cI G 0 (b + 3) 1088 (fun _ => 0) H ∧ cI G 0 (b + 4) 352 (fun _ => 0) H ∧ cI G 0 (b + 5) 10 (fun _ => 0) H ∧ cI G 0 (b + 6) 60 (fun _ => 0) H ∧ cI G 0 (b + 7) 80 (fun _ => 0) H ∧ cI G 0 (b + 8) 9 (fun _ => 0) H ∧ cI G 0 (b + 9) 53 (lstI wordsI) H ∧ cI G 0 (b + 10) 10 (lstI wordAtI) H
section CN2
variable {l : Launch} {G : GG}
set_option maxHeartbeats 8000000 in
theorem n_X10 (hG : Gok G) (hNs : NsF G) (hAr : ArF G) (hE : ∀ U H, G.2.2.2.2 U H → EnF G U H) (a : Nat) : KC l G kX10 [.inl (.ref a)] (fun H => cO G a 12 [.null, .null, .int 0, .null, .null, .null, .null, .null, .int 0, .int 0] H ∧ AA G a) (fun H H1 => H1.size = H.size + 335 ∧ (∀ q : Nat, q < H.size → q ≠ a → H1[q]? = H[q]?) ∧ MoC G a H.size H1) := by
  refine KC_of (by decide +kernel) (Nat.le_of_ble_eq_true rfl) (fun x hB hpre => ?_)
  obtain ⟨ha, haA⟩ := hpre
  obtain ⟨hg, hl, hy, hwG, hnm, hrt, hlk, hQ, hz⟩ := id hB
  have hS : va_S (AA G) (wS x).heap (wS x).heap [] := va_S.rf
  have hab : a < (wS x).heap.size := va_at.lt ha
  obtain ⟨b, zc⟩ : ∃ b, (wS x).heap.size = b := ⟨_, rfl⟩
  have hb := zc
  rw [zc] at hab
  have hzb : G.2.2.1 ≤ b := by rw [← zc]; exact hz
  have oC : ∀ q : Nat, q < b → q ≠ a → (wS x).heap[q]? = (wS x).heap[q]? := fun _ _ _ => rfl
  have ha : cO G a 12 [.null, .null, .int 0, .null, .null, .null, .null, .null, .int 0, .int 0] (wS x).heap := ha
  refine k_aload_n (f := 0) (i := 0) hg hy (by decide +kernel) rfl rfl rfl ?_
  refine k_obj (idx := 3) hg hy (by decide +kernel) ⟨(TBg_at 101 (by decide +kernel)), (TBg_at 102 (by decide +kernel)), (TBg_at 103 (by decide +kernel))⟩ (Nat.le_of_ble_eq_true rfl) ?_
  refine k_aload_n (f := 0) (i := 0) hg hy (by decide +kernel) rfl rfl rfl ?_
  show KW x _ _ _ _ 5 _ _
  refine k_new (idx := 9) (ci := 11) (N := 6) (fs := [.null, .null, .int 0, .int 0, .null, .int 0]) hg hy hwG (by decide +kernel) ⟨RX9, TX9, tyX9, rfl, (TBg_at 104 (by decide +kernel)), (TBg_at 105 (by decide +kernel)), (TBg_at 63 (by decide +kernel)), lay_X9, tyX9_ok, fun j hj => by rcases (by omega : j = 0 ∨ j = 1 ∨ j = 2 ∨ j = 3 ∨ j = 4 ∨ j = 5) with rfl | rfl | rfl | rfl | rfl | rfl <;> rfl⟩ hS (Nat.le_of_ble_eq_true rfl) (Nat.le_of_ble_eq_true rfl) (fun H2_1 c2 z2 o2 hS_1 => ?_)
  rw [zc] at c2 z2 o2 ⊢
  have ha_1 := ha.kept (o2 _ (by omega))
  have oC_1 : ∀ q : Nat, q < b → q ≠ a → H2_1[q]? = (wS x).heap[q]? := fun q h1 h2 => (o2 q (by omega)).trans (oC q h1 h2)
  have zc_1 : H2_1.size = b + 1 := by omega
  have w1_1 : cO G b 11 [.null, .null, .int 0, .int 0, .null, .int 0] H2_1 := c2
  clear c2 z2 o2
  clear ha zc oC hS
  refine k_dup hg hy rfl (by decide +kernel) ?_
  show KW x _ _ _ _ 9 _ _
  refine k_init (idx := 11) (z := kX9) (as := []) hg hy hwG hl hG (n_X9 hG hNs hAr b) rfl (by decide +kernel) ⟨(TBg_at 106 (by decide +kernel)), (TBg_at 63 (by decide +kernel)), (TBg_at 107 (by decide +kernel)), (TBg_at 108 (by decide +kernel)), rfl, by decide +kernel, by decide +kernel, rfl, by decide +kernel⟩ ⟨by decide, by decide⟩ (Nat.le_of_ble_eq_true rfl) (Nat.le_of_ble_eq_true rfl) (Nat.le_of_ble_eq_true rfl) hz hS_1 ⟨w1_1, (show G.2.2.1 ≤ b by omega)⟩ (fun H2_2 locs2_2 hp hS_2 => ?_)
  obtain ⟨z2, o2, c2⟩ := hp
  rw [zc_1] at z2 o2 c2
  have ha_2 := ha_1.kept (o2 _ (by omega) (by omega))
  have oC_2 : ∀ q : Nat, q < b → q ≠ a → H2_2[q]? = (wS x).heap[q]? := fun q h1 h2 => (o2 q (by omega) (by omega)).trans (oC_1 q h1 h2)
  have zc_2 : H2_2.size = b + 25 := by omega
  have w1_2 : ShC G b (b + 1) H2_2 := c2
  clear c2 z2 o2
  clear H2_1 hS_1 ha_1 oC_1 zc_1 w1_1
  show KW x _ _ _ _ 12 _ _
  refine k_put (idx := 12) (ci := 12) (k := 0) (a := a) (fs := [.null, .null, .int 0, .null, .null, .null, .null, .null, .int 0, .int 0]) hg hy hwG hnm (by decide +kernel) ⟨RX10, TX10, 10, tyX10, (.object "MinutePawnshop$Shop"), rfl, by decide, (TBg_at 387 (by decide +kernel)), lay_X10, tyX10_ok, nmX10, rfl, rfl, rfl, rfl⟩ ha_2 (Nat.le_of_ble_eq_true rfl) haA hS_2 (fun H2_3 locs2_3 ha_3 z2 o2 hS_3 => ?_)
  change cO G a 12 [.ref b, .null, .int 0, .null, .null, .null, .null, .null, .int 0, .int 0] H2_3 at ha_3
  have w1_3 := w1_2.kept (o2 _ (by omega)) (fun q h1 h2 => o2 q (by omega))
  have oC_3 : ∀ q : Nat, q < b → q ≠ a → H2_3[q]? = (wS x).heap[q]? := fun q h1 h2 => (o2 q h2).trans (oC_2 q h1 h2)
  have zc_3 : H2_3.size = b + 25 := z2.trans zc_2
  clear z2 o2
  clear H2_2 hS_2 ha_2 oC_2 zc_2 w1_2
  refine k_aload_n (f := 0) (i := 0) hg hy (by decide +kernel) rfl rfl rfl ?_
  show KW x _ _ _ _ 16 _ _
  refine k_new (idx := 9) (ci := 11) (N := 6) (fs := [.null, .null, .int 0, .int 0, .null, .int 0]) hg hy hwG (by decide +kernel) ⟨RX9, TX9, tyX9, rfl, (TBg_at 104 (by decide +kernel)), (TBg_at 105 (by decide +kernel)), (TBg_at 63 (by decide +kernel)), lay_X9, tyX9_ok, fun j hj => by rcases (by omega : j = 0 ∨ j = 1 ∨ j = 2 ∨ j = 3 ∨ j = 4 ∨ j = 5) with rfl | rfl | rfl | rfl | rfl | rfl <;> rfl⟩ hS_3 (Nat.le_of_ble_eq_true rfl) (Nat.le_of_ble_eq_true rfl) (fun H2_4 c2 z2 o2 hS_4 => ?_)
  rw [zc_3] at c2 z2 o2 ⊢
  have ha_4 := ha_3.kept (o2 _ (by omega))
  have w1_4 := w1_3.kept (o2 _ (by omega)) (fun q h1 h2 => o2 q (by omega))
  have oC_4 : ∀ q : Nat, q < b → q ≠ a → H2_4[q]? = (wS x).heap[q]? := fun q h1 h2 => (o2 q (by omega)).trans (oC_3 q h1 h2)
  have zc_4 : H2_4.size = b + 26 := by omega
  have w2_4 : cO G (b + 25) 11 [.null, .null, .int 0, .int 0, .null, .int 0] H2_4 := c2
  clear c2 z2 o2
  clear H2_3 ha_3 hS_3 w1_3 oC_3 zc_3
  refine k_dup hg hy rfl (by decide +kernel) ?_
  show KW x _ _ _ _ 20 _ _
  refine k_init (idx := 11) (z := kX9) (as := []) hg hy hwG hl hG (n_X9 hG hNs hAr (b + 25)) rfl (by decide +kernel) ⟨(TBg_at 106 (by decide +kernel)), (TBg_at 63 (by decide +kernel)), (TBg_at 107 (by decide +kernel)), (TBg_at 108 (by decide +kernel)), rfl, by decide +kernel, by decide +kernel, rfl, by decide +kernel⟩ ⟨by decide, by decide⟩ (Nat.le_of_ble_eq_true rfl) (Nat.le_of_ble_eq_true rfl) (Nat.le_of_ble_eq_true rfl) hz hS_4 ⟨w2_4, (show G.2.2.1 ≤ (b + 25) by omega)⟩ (fun H2_5 locs2_5 hp hS_5 => ?_)
  obtain ⟨z2, o2, c2⟩ := hp
  rw [zc_4] at z2 o2 c2
  have w1_5 := w1_4.kept (o2 _ (by omega) (by omega)) (fun q h1 h2 => o2 q (by omega) (by omega))
  have ha_5 := ha_4.kept (o2 _ (by omega) (by omega))
  have oC_5 : ∀ q : Nat, q < b → q ≠ a → H2_5[q]? = (wS x).heap[q]? := fun q h1 h2 => (o2 q (by omega) (by omega)).trans (oC_4 q h1 h2)
  have zc_5 : H2_5.size = b + 50 := by omega
  have w2_5 : ShC G (b + 25) (b + 26) H2_5 := c2
  clear c2 z2 o2
  clear H2_4 hS_4 ha_4 w1_4 oC_4 zc_4 w2_4
  show KW x _ _ _ _ 23 _ _
  refine k_put (idx := 16) (ci := 12) (k := 1) (a := a) (fs := [.ref b, .null, .int 0, .null, .null, .null, .null, .null, .int 0, .int 0]) hg hy hwG hnm (by decide +kernel) ⟨RX10, TX10, 10, tyX10, (.object "MinutePawnshop$Shop"), rfl, by decide, (TBg_at 388 (by decide +kernel)), lay_X10, tyX10_ok, nmX10, rfl, rfl, rfl, rfl⟩ ha_5 (Nat.le_of_ble_eq_true rfl) haA hS_5 (fun H2_6 locs2_6 ha_6 z2 o2 hS_6 => ?_)
  change cO G a 12 [.ref b, .ref (b + 25), .int 0, .null, .null, .null, .null, .null, .int 0, .int 0] H2_6 at ha_6
  have w1_6 := w1_5.kept (o2 _ (by omega)) (fun q h1 h2 => o2 q (by omega))
  have w2_6 := w2_5.kept (o2 _ (by omega)) (fun q h1 h2 => o2 q (by omega))
  have oC_6 : ∀ q : Nat, q < b → q ≠ a → H2_6[q]? = (wS x).heap[q]? := fun q h1 h2 => (o2 q h2).trans (oC_5 q h1 h2)
  have zc_6 : H2_6.size = b + 50 := z2.trans zc_5
  clear z2 o2
  clear H2_5 hS_5 w1_5 ha_5 oC_5 zc_5 w2_5
  refine k_aload_n (f := 0) (i := 0) hg hy (by decide +kernel) rfl rfl rfl ?_
  refine k_iconst (z := 0) (v := (0 : Int32)) hg hy (by decide) (by decide +kernel) ?_
  show KW x _ _ _ _ 28 _ _
  refine k_put (idx := 19) (ci := 12) (k := 2) (a := a) (fs := [.ref b, .ref (b + 25), .int 0, .null, .null, .null, .null, .null, .int 0, .int 0]) hg hy hwG hnm (by decide +kernel) ⟨RX10, TX10, 10, tyX10, .boolean, rfl, by decide, (TBg_at 389 (by decide +kernel)), lay_X10, tyX10_ok, nmX10, rfl, rfl, rfl, rfl⟩ ha_6 (Nat.le_of_ble_eq_true rfl) haA hS_6 (fun H2_7 locs2_7 ha_7 z2 o2 hS_7 => ?_)
  change cO G a 12 [.ref b, .ref (b + 25), .int (0), .null, .null, .null, .null, .null, .int 0, .int 0] H2_7 at ha_7
  have w1_7 := w1_6.kept (o2 _ (by omega)) (fun q h1 h2 => o2 q (by omega))
  have w2_7 := w2_6.kept (o2 _ (by omega)) (fun q h1 h2 => o2 q (by omega))
  have oC_7 : ∀ q : Nat, q < b → q ≠ a → H2_7[q]? = (wS x).heap[q]? := fun q h1 h2 => (o2 q h2).trans (oC_6 q h1 h2)
  have zc_7 : H2_7.size = b + 50 := z2.trans zc_6
  clear z2 o2
  clear H2_6 ha_6 hS_6 w1_6 w2_6 oC_6 zc_6
  refine k_aload_n (f := 0) (i := 0) hg hy (by decide +kernel) rfl rfl rfl ?_
  show KW x _ _ _ _ 32 _ _
  refine k_new (idx := 23) (ci := 7) (N := 3) (fs := [.null, .int 0, .int 0]) hg hy hwG (by decide +kernel) ⟨RX5, TX5, tyX5, rfl, (TBg_at 251 (by decide +kernel)), (TBg_at 252 (by decide +kernel)), (TBg_at 68 (by decide +kernel)), lay_X5, tyX5_ok, fun j hj => by rcases (by omega : j = 0 ∨ j = 1 ∨ j = 2) with rfl | rfl | rfl <;> rfl⟩ hS_7 (Nat.le_of_ble_eq_true rfl) (Nat.le_of_ble_eq_true rfl) (fun H2_8 c2 z2 o2 hS_8 => ?_)
  rw [zc_7] at c2 z2 o2 ⊢
  have ha_8 := ha_7.kept (o2 _ (by omega))
  have w1_8 := w1_7.kept (o2 _ (by omega)) (fun q h1 h2 => o2 q (by omega))
  have w2_8 := w2_7.kept (o2 _ (by omega)) (fun q h1 h2 => o2 q (by omega))
  have oC_8 : ∀ q : Nat, q < b → q ≠ a → H2_8[q]? = (wS x).heap[q]? := fun q h1 h2 => (o2 q (by omega)).trans (oC_7 q h1 h2)
  have zc_8 : H2_8.size = b + 51 := by omega
  have w3_8 : cO G (b + 50) 7 [.null, .int 0, .int 0] H2_8 := c2
  clear c2 z2 o2
  clear H2_7 ha_7 hS_7 w1_7 w2_7 oC_7 zc_7
  refine k_dup hg hy rfl (by decide +kernel) ?_
  show KW x _ _ _ _ 36 _ _
  refine k_init (idx := 25) (z := kX5) (as := []) hg hy hwG hl hG (n_X5 hG hNs hAr (b + 50)) rfl (by decide +kernel) ⟨(TBg_at 253 (by decide +kernel)), (TBg_at 68 (by decide +kernel)), (TBg_at 254 (by decide +kernel)), (TBg_at 255 (by decide +kernel)), rfl, by decide +kernel, by decide +kernel, rfl, by decide +kernel⟩ ⟨by decide, by decide⟩ (Nat.le_of_ble_eq_true rfl) (Nat.le_of_ble_eq_true rfl) (Nat.le_of_ble_eq_true rfl) hz hS_8 ⟨w3_8, (show G.2.2.1 ≤ (b + 50) by omega)⟩ (fun H2_9 locs2_9 hp hS_9 => ?_)
  obtain ⟨z2, o2, c2⟩ := hp
  rw [zc_8] at z2 o2 c2
  have w1_9 := w1_8.kept (o2 _ (by omega) (by omega)) (fun q h1 h2 => o2 q (by omega) (by omega))
  have w2_9 := w2_8.kept (o2 _ (by omega) (by omega)) (fun q h1 h2 => o2 q (by omega) (by omega))
  have ha_9 := ha_8.kept (o2 _ (by omega) (by omega))
  have oC_9 : ∀ q : Nat, q < b → q ≠ a → H2_9[q]? = (wS x).heap[q]? := fun q h1 h2 => (o2 q (by omega) (by omega)).trans (oC_8 q h1 h2)
  have zc_9 : H2_9.size = b + 277 := by omega
  have w3_9 : HiC G (b + 50) (b + 51) H2_9 := c2
  clear c2 z2 o2
  clear H2_8 hS_8 ha_8 w1_8 w2_8 oC_8 zc_8 w3_8
  show KW x _ _ _ _ 39 _ _
  refine k_put (idx := 26) (ci := 12) (k := 3) (a := a) (fs := [.ref b, .ref (b + 25), .int (0), .null, .null, .null, .null, .null, .int 0, .int 0]) hg hy hwG hnm (by decide +kernel) ⟨RX10, TX10, 10, tyX10, (.object "MinutePawnshop$History"), rfl, by decide, (TBg_at 390 (by decide +kernel)), lay_X10, tyX10_ok, nmX10, rfl, rfl, rfl, rfl⟩ ha_9 (Nat.le_of_ble_eq_true rfl) haA hS_9 (fun H2_10 locs2_10 ha_10 z2 o2 hS_10 => ?_)
  change cO G a 12 [.ref b, .ref (b + 25), .int (0), .ref (b + 50), .null, .null, .null, .null, .int 0, .int 0] H2_10 at ha_10
  have w1_10 := w1_9.kept (o2 _ (by omega)) (fun q h1 h2 => o2 q (by omega))
  have w2_10 := w2_9.kept (o2 _ (by omega)) (fun q h1 h2 => o2 q (by omega))
  have w3_10 := w3_9.kept (o2 _ (by omega)) (fun q h1 h2 => o2 q (by omega))
  have oC_10 : ∀ q : Nat, q < b → q ≠ a → H2_10[q]? = (wS x).heap[q]? := fun q h1 h2 => (o2 q h2).trans (oC_9 q h1 h2)
  have zc_10 : H2_10.size = b + 277 := z2.trans zc_9
  clear z2 o2
  clear H2_9 hS_9 w1_9 w2_9 ha_9 oC_9 zc_9 w3_9
  refine k_aload_n (f := 0) (i := 0) hg hy (by decide +kernel) rfl rfl rfl ?_
  show KW x _ _ _ _ 43 _ _
  refine k_new (idx := 30) (ci := 10) (N := 6) (fs := [.null, .null, .int 0, .null, .null, .null]) hg hy hwG (by decide +kernel) ⟨RX8, TX8, tyX8, rfl, (TBg_at 271 (by decide +kernel)), (TBg_at 272 (by decide +kernel)), (TBg_at 69 (by decide +kernel)), lay_X8, tyX8_ok, fun j hj => by rcases (by omega : j = 0 ∨ j = 1 ∨ j = 2 ∨ j = 3 ∨ j = 4 ∨ j = 5) with rfl | rfl | rfl | rfl | rfl | rfl <;> rfl⟩ hS_10 (Nat.le_of_ble_eq_true rfl) (Nat.le_of_ble_eq_true rfl) (fun H2_11 c2 z2 o2 hS_11 => ?_)
  rw [zc_10] at c2 z2 o2 ⊢
  have ha_11 := ha_10.kept (o2 _ (by omega))
  have w1_11 := w1_10.kept (o2 _ (by omega)) (fun q h1 h2 => o2 q (by omega))
  have w2_11 := w2_10.kept (o2 _ (by omega)) (fun q h1 h2 => o2 q (by omega))
  have w3_11 := w3_10.kept (o2 _ (by omega)) (fun q h1 h2 => o2 q (by omega))
  have oC_11 : ∀ q : Nat, q < b → q ≠ a → H2_11[q]? = (wS x).heap[q]? := fun q h1 h2 => (o2 q (by omega)).trans (oC_10 q h1 h2)
  have zc_11 : H2_11.size = b + 278 := by omega
  have w4_11 : cO G (b + 277) 10 [.null, .null, .int 0, .null, .null, .null] H2_11 := c2
  clear c2 z2 o2
  clear H2_10 ha_10 hS_10 w1_10 w2_10 w3_10 oC_10 zc_10
  refine k_dup hg hy rfl (by decide +kernel) ?_
  show KW x _ _ _ _ 47 _ _
  refine k_initN (idx := 32) (z := kX8) hg hy hwG hl hG hNs (n_X8 (b + 277)) (by decide +kernel) ⟨by decide +kernel, (TBg_at 69 (by decide +kernel)), (TBg_at 274 (by decide +kernel)), (TBg_at 275 (by decide +kernel)), rfl, by decide +kernel, by decide +kernel, rfl, by decide +kernel⟩ ⟨by decide, by decide⟩ (Nat.le_of_ble_eq_true rfl) (Nat.le_of_ble_eq_true rfl) (Nat.le_of_ble_eq_true rfl) hz hS_11 ⟨w4_11, (show G.2.2.1 ≤ (b + 277) by omega)⟩ (fun H2_12 locs2_12 hp hS_12 => ?_)
  obtain ⟨z2, o2, c2⟩ := hp
  rw [zc_11] at z2 o2 c2
  have w1_12 := w1_11.kept (o2 _ (by omega) (by omega)) (fun q h1 h2 => o2 q (by omega) (by omega))
  have w2_12 := w2_11.kept (o2 _ (by omega) (by omega)) (fun q h1 h2 => o2 q (by omega) (by omega))
  have w3_12 := w3_11.kept (o2 _ (by omega) (by omega)) (fun q h1 h2 => o2 q (by omega) (by omega))
  have ha_12 := ha_11.kept (o2 _ (by omega) (by omega))
  have oC_12 : ∀ q : Nat, q < b → q ≠ a → H2_12[q]? = (wS x).heap[q]? := fun q h1 h2 => (o2 q (by omega) (by omega)).trans (oC_11 q h1 h2)
  have zc_12 : H2_12.size = b + 283 := by omega
  have w4_12 : ReC G (b + 277) (b + 278) H2_12 := c2
  clear c2 z2 o2
  clear H2_11 hS_11 ha_11 w1_11 w2_11 w3_11 oC_11 zc_11 w4_11
  show KW x _ _ _ _ 50 _ _
  refine k_put (idx := 33) (ci := 12) (k := 4) (a := a) (fs := [.ref b, .ref (b + 25), .int (0), .ref (b + 50), .null, .null, .null, .null, .int 0, .int 0]) hg hy hwG hnm (by decide +kernel) ⟨RX10, TX10, 10, tyX10, (.object "MinutePawnshop$Redemption"), rfl, by decide, (TBg_at 391 (by decide +kernel)), lay_X10, tyX10_ok, nmX10, rfl, rfl, rfl, rfl⟩ ha_12 (Nat.le_of_ble_eq_true rfl) haA hS_12 (fun H2_13 locs2_13 ha_13 z2 o2 hS_13 => ?_)
  change cO G a 12 [.ref b, .ref (b + 25), .int (0), .ref (b + 50), .ref (b + 277), .null, .null, .null, .int 0, .int 0] H2_13 at ha_13
  have w1_13 := w1_12.kept (o2 _ (by omega)) (fun q h1 h2 => o2 q (by omega))
  have w2_13 := w2_12.kept (o2 _ (by omega)) (fun q h1 h2 => o2 q (by omega))
  have w3_13 := w3_12.kept (o2 _ (by omega)) (fun q h1 h2 => o2 q (by omega))
  have w4_13 := w4_12.kept (o2 _ (by omega)) (fun q h1 h2 => o2 q (by omega))
  have oC_13 : ∀ q : Nat, q < b → q ≠ a → H2_13[q]? = (wS x).heap[q]? := fun q h1 h2 => (o2 q h2).trans (oC_12 q h1 h2)
  have zc_13 : H2_13.size = b + 283 := z2.trans zc_12
  clear z2 o2
  clear H2_12 hS_12 w1_12 w2_12 w3_12 ha_12 oC_12 zc_12 w4_12
  refine k_aload_n (f := 0) (i := 0) hg hy (by decide +kernel) rfl rfl rfl ?_
  show KW x _ _ _ _ 54 _ _
  refine k_new (idx := 37) (ci := 6) (N := 5) (fs := [.null, .null, .null, .null, .int 0]) hg hy hwG (by decide +kernel) ⟨RX4, TX4, tyX4, rfl, (TBg_at 296 (by decide +kernel)), (TBg_at 297 (by decide +kernel)), (TBg_at 70 (by decide +kernel)), lay_X4, tyX4_ok, fun j hj => by rcases (by omega : j = 0 ∨ j = 1 ∨ j = 2 ∨ j = 3 ∨ j = 4) with rfl | rfl | rfl | rfl | rfl <;> rfl⟩ hS_13 (Nat.le_of_ble_eq_true rfl) (Nat.le_of_ble_eq_true rfl) (fun H2_14 c2 z2 o2 hS_14 => ?_)
  rw [zc_13] at c2 z2 o2 ⊢
  have ha_14 := ha_13.kept (o2 _ (by omega))
  have w1_14 := w1_13.kept (o2 _ (by omega)) (fun q h1 h2 => o2 q (by omega))
  have w2_14 := w2_13.kept (o2 _ (by omega)) (fun q h1 h2 => o2 q (by omega))
  have w3_14 := w3_13.kept (o2 _ (by omega)) (fun q h1 h2 => o2 q (by omega))
  have w4_14 := w4_13.kept (o2 _ (by omega)) (fun q h1 h2 => o2 q (by omega))
  have oC_14 : ∀ q : Nat, q < b → q ≠ a → H2_14[q]? = (wS x).heap[q]? := fun q h1 h2 => (o2 q (by omega)).trans (oC_13 q h1 h2)
  have zc_14 : H2_14.size = b + 284 := by omega
  have w5_14 : cO G (b + 283) 6 [.null, .null, .null, .null, .int 0] H2_14 := c2
  clear c2 z2 o2
  clear H2_13 ha_13 hS_13 w1_13 w2_13 w3_13 w4_13 oC_13 zc_13
  refine k_dup hg hy rfl (by decide +kernel) ?_
  show KW x _ _ _ _ 58 _ _
  refine k_initN (idx := 39) (z := kX4) hg hy hwG hl hG hNs (n_X4 hAr (b + 283)) (by decide +kernel) ⟨by decide +kernel, (TBg_at 70 (by decide +kernel)), (TBg_at 299 (by decide +kernel)), (TBg_at 300 (by decide +kernel)), rfl, by decide +kernel, by decide +kernel, rfl, by decide +kernel⟩ ⟨by decide, by decide⟩ (Nat.le_of_ble_eq_true rfl) (Nat.le_of_ble_eq_true rfl) (Nat.le_of_ble_eq_true rfl) hz hS_14 ⟨w5_14, (show G.2.2.1 ≤ (b + 283) by omega)⟩ (fun H2_15 locs2_15 hp hS_15 => ?_)
  obtain ⟨z2, o2, c2⟩ := hp
  rw [zc_14] at z2 o2 c2
  have w1_15 := w1_14.kept (o2 _ (by omega) (by omega)) (fun q h1 h2 => o2 q (by omega) (by omega))
  have w2_15 := w2_14.kept (o2 _ (by omega) (by omega)) (fun q h1 h2 => o2 q (by omega) (by omega))
  have w3_15 := w3_14.kept (o2 _ (by omega) (by omega)) (fun q h1 h2 => o2 q (by omega) (by omega))
  have w4_15 := w4_14.kept (o2 _ (by omega) (by omega)) (fun q h1 h2 => o2 q (by omega) (by omega))
  have ha_15 := ha_14.kept (o2 _ (by omega) (by omega))
  have oC_15 : ∀ q : Nat, q < b → q ≠ a → H2_15[q]? = (wS x).heap[q]? := fun q h1 h2 => (o2 q (by omega) (by omega)).trans (oC_14 q h1 h2)
  have zc_15 : H2_15.size = b + 320 := by omega
  have w5_15 : EvC G (b + 283) (b + 284) H2_15 := c2
  clear c2 z2 o2
  clear H2_14 hS_14 ha_14 w1_14 w2_14 w3_14 w4_14 oC_14 zc_14 w5_14
  show KW x _ _ _ _ 61 _ _
  refine k_put (idx := 40) (ci := 12) (k := 5) (a := a) (fs := [.ref b, .ref (b + 25), .int (0), .ref (b + 50), .ref (b + 277), .null, .null, .null, .int 0, .int 0]) hg hy hwG hnm (by decide +kernel) ⟨RX10, TX10, 10, tyX10, (.object "MinutePawnshop$Evening"), rfl, by decide, (TBg_at 392 (by decide +kernel)), lay_X10, tyX10_ok, nmX10, rfl, rfl, rfl, rfl⟩ ha_15 (Nat.le_of_ble_eq_true rfl) haA hS_15 (fun H2_16 locs2_16 ha_16 z2 o2 hS_16 => ?_)
  change cO G a 12 [.ref b, .ref (b + 25), .int (0), .ref (b + 50), .ref (b + 277), .ref (b + 283), .null, .null, .int 0, .int 0] H2_16 at ha_16
  have w1_16 := w1_15.kept (o2 _ (by omega)) (fun q h1 h2 => o2 q (by omega))
  have w2_16 := w2_15.kept (o2 _ (by omega)) (fun q h1 h2 => o2 q (by omega))
  have w3_16 := w3_15.kept (o2 _ (by omega)) (fun q h1 h2 => o2 q (by omega))
  have w4_16 := w4_15.kept (o2 _ (by omega)) (fun q h1 h2 => o2 q (by omega))
  have w5_16 := w5_15.kept (o2 _ (by omega)) (fun q h1 h2 => o2 q (by omega))
  have oC_16 : ∀ q : Nat, q < b → q ≠ a → H2_16[q]? = (wS x).heap[q]? := fun q h1 h2 => (o2 q h2).trans (oC_15 q h1 h2)
  have zc_16 : H2_16.size = b + 320 := z2.trans zc_15
  clear z2 o2
  clear H2_15 hS_15 w1_15 w2_15 w3_15 w4_15 ha_15 oC_15 zc_15 w5_15
  refine k_aload_n (f := 0) (i := 0) hg hy (by decide +kernel) rfl rfl rfl ?_
  show KW x _ _ _ _ 65 _ _
  refine k_new (idx := 44) (ci := 9) (N := 6) (fs := [.null, .int 0, .null, .null, .int 0, .int 0]) hg hy hwG (by decide +kernel) ⟨RX7, TX7, tyX7, rfl, (TBg_at 320 (by decide +kernel)), (TBg_at 321 (by decide +kernel)), (TBg_at 71 (by decide +kernel)), lay_X7, tyX7_ok, fun j hj => by rcases (by omega : j = 0 ∨ j = 1 ∨ j = 2 ∨ j = 3 ∨ j = 4 ∨ j = 5) with rfl | rfl | rfl | rfl | rfl | rfl <;> rfl⟩ hS_16 (Nat.le_of_ble_eq_true rfl) (Nat.le_of_ble_eq_true rfl) (fun H2_17 c2 z2 o2 hS_17 => ?_)
  rw [zc_16] at c2 z2 o2 ⊢
  have ha_17 := ha_16.kept (o2 _ (by omega))
  have w1_17 := w1_16.kept (o2 _ (by omega)) (fun q h1 h2 => o2 q (by omega))
  have w2_17 := w2_16.kept (o2 _ (by omega)) (fun q h1 h2 => o2 q (by omega))
  have w3_17 := w3_16.kept (o2 _ (by omega)) (fun q h1 h2 => o2 q (by omega))
  have w4_17 := w4_16.kept (o2 _ (by omega)) (fun q h1 h2 => o2 q (by omega))
  have w5_17 := w5_16.kept (o2 _ (by omega)) (fun q h1 h2 => o2 q (by omega))
  have oC_17 : ∀ q : Nat, q < b → q ≠ a → H2_17[q]? = (wS x).heap[q]? := fun q h1 h2 => (o2 q (by omega)).trans (oC_16 q h1 h2)
  have zc_17 : H2_17.size = b + 321 := by omega
  have w6_17 : cO G (b + 320) 9 [.null, .int 0, .null, .null, .int 0, .int 0] H2_17 := c2
  clear c2 z2 o2
  clear H2_16 ha_16 hS_16 w1_16 w2_16 w3_16 w4_16 w5_16 oC_16 zc_16
  refine k_dup hg hy rfl (by decide +kernel) ?_
  show KW x _ _ _ _ 69 _ _
  refine k_initN (idx := 46) (z := kX7) hg hy hwG hl hG hNs (n_X7 hAr (b + 320)) (by decide +kernel) ⟨by decide +kernel, (TBg_at 71 (by decide +kernel)), (TBg_at 323 (by decide +kernel)), (TBg_at 324 (by decide +kernel)), rfl, by decide +kernel, by decide +kernel, rfl, by decide +kernel⟩ ⟨by decide, by decide⟩ (Nat.le_of_ble_eq_true rfl) (Nat.le_of_ble_eq_true rfl) (Nat.le_of_ble_eq_true rfl) hz hS_17 ⟨w6_17, (show G.2.2.1 ≤ (b + 320) by omega)⟩ (fun H2_18 locs2_18 hp hS_18 => ?_)
  obtain ⟨z2, o2, c2⟩ := hp
  rw [zc_17] at z2 o2 c2
  have w1_18 := w1_17.kept (o2 _ (by omega) (by omega)) (fun q h1 h2 => o2 q (by omega) (by omega))
  have w2_18 := w2_17.kept (o2 _ (by omega) (by omega)) (fun q h1 h2 => o2 q (by omega) (by omega))
  have w3_18 := w3_17.kept (o2 _ (by omega) (by omega)) (fun q h1 h2 => o2 q (by omega) (by omega))
  have w4_18 := w4_17.kept (o2 _ (by omega) (by omega)) (fun q h1 h2 => o2 q (by omega) (by omega))
  have w5_18 := w5_17.kept (o2 _ (by omega) (by omega)) (fun q h1 h2 => o2 q (by omega) (by omega))
  have ha_18 := ha_17.kept (o2 _ (by omega) (by omega))
  have oC_18 : ∀ q : Nat, q < b → q ≠ a → H2_18[q]? = (wS x).heap[q]? := fun q h1 h2 => (o2 q (by omega) (by omega)).trans (oC_17 q h1 h2)
  have zc_18 : H2_18.size = b + 333 := by omega
  have w6_18 : PrC G (b + 320) (b + 321) H2_18 := c2
  clear c2 z2 o2
  clear H2_17 hS_17 ha_17 w1_17 w2_17 w3_17 w4_17 w5_17 oC_17 zc_17 w6_17
  show KW x _ _ _ _ 72 _ _
  refine k_put (idx := 47) (ci := 12) (k := 6) (a := a) (fs := [.ref b, .ref (b + 25), .int (0), .ref (b + 50), .ref (b + 277), .ref (b + 283), .null, .null, .int 0, .int 0]) hg hy hwG hnm (by decide +kernel) ⟨RX10, TX10, 10, tyX10, (.object "MinutePawnshop$Program"), rfl, by decide, (TBg_at 393 (by decide +kernel)), lay_X10, tyX10_ok, nmX10, rfl, rfl, rfl, rfl⟩ ha_18 (Nat.le_of_ble_eq_true rfl) haA hS_18 (fun H2_19 locs2_19 ha_19 z2 o2 hS_19 => ?_)
  change cO G a 12 [.ref b, .ref (b + 25), .int (0), .ref (b + 50), .ref (b + 277), .ref (b + 283), .ref (b + 320), .null, .int 0, .int 0] H2_19 at ha_19
  have w1_19 := w1_18.kept (o2 _ (by omega)) (fun q h1 h2 => o2 q (by omega))
  have w2_19 := w2_18.kept (o2 _ (by omega)) (fun q h1 h2 => o2 q (by omega))
  have w3_19 := w3_18.kept (o2 _ (by omega)) (fun q h1 h2 => o2 q (by omega))
  have w4_19 := w4_18.kept (o2 _ (by omega)) (fun q h1 h2 => o2 q (by omega))
  have w5_19 := w5_18.kept (o2 _ (by omega)) (fun q h1 h2 => o2 q (by omega))
  have w6_19 := w6_18.kept (o2 _ (by omega)) (fun q h1 h2 => o2 q (by omega))
  have oC_19 : ∀ q : Nat, q < b → q ≠ a → H2_19[q]? = (wS x).heap[q]? := fun q h1 h2 => (o2 q h2).trans (oC_18 q h1 h2)
  have zc_19 : H2_19.size = b + 333 := z2.trans zc_18
  clear z2 o2
  clear H2_18 hS_18 w1_18 w2_18 w3_18 w4_18 w5_18 ha_18 oC_18 zc_18 w6_18
  refine k_aload_n (f := 0) (i := 0) hg hy (by decide +kernel) rfl rfl rfl ?_
  show KW x _ _ _ _ 76 _ _
  refine k_new (idx := 51) (ci := 1) (N := 4) (fs := [.null, .int 0, .int 0, .int 0]) hg hy hwG (by decide +kernel) ⟨RJ4, TJ4, tyJ4, rfl, (TBg_at 354 (by decide +kernel)), (TBg_at 355 (by decide +kernel)), (TBg_at 73 (by decide +kernel)), lay_J4, tyJ4_ok, fun j hj => by rcases (by omega : j = 0 ∨ j = 1 ∨ j = 2 ∨ j = 3) with rfl | rfl | rfl | rfl <;> rfl⟩ hS_19 (Nat.le_of_ble_eq_true rfl) (Nat.le_of_ble_eq_true rfl) (fun H2_20 c2 z2 o2 hS_20 => ?_)
  rw [zc_19] at c2 z2 o2 ⊢
  have ha_20 := ha_19.kept (o2 _ (by omega))
  have w1_20 := w1_19.kept (o2 _ (by omega)) (fun q h1 h2 => o2 q (by omega))
  have w2_20 := w2_19.kept (o2 _ (by omega)) (fun q h1 h2 => o2 q (by omega))
  have w3_20 := w3_19.kept (o2 _ (by omega)) (fun q h1 h2 => o2 q (by omega))
  have w4_20 := w4_19.kept (o2 _ (by omega)) (fun q h1 h2 => o2 q (by omega))
  have w5_20 := w5_19.kept (o2 _ (by omega)) (fun q h1 h2 => o2 q (by omega))
  have w6_20 := w6_19.kept (o2 _ (by omega)) (fun q h1 h2 => o2 q (by omega))
  have oC_20 : ∀ q : Nat, q < b → q ≠ a → H2_20[q]? = (wS x).heap[q]? := fun q h1 h2 => (o2 q (by omega)).trans (oC_19 q h1 h2)
  have zc_20 : H2_20.size = b + 334 := by omega
  have w7_20 : cO G (b + 333) 1 [.null, .int 0, .int 0, .int 0] H2_20 := c2
  clear c2 z2 o2
  clear H2_19 ha_19 hS_19 w1_19 w2_19 w3_19 w4_19 w5_19 w6_19 oC_19 zc_19
  refine k_dup hg hy rfl (by decide +kernel) ?_
  show KW x _ _ _ _ 80 _ _
  refine k_init (idx := 53) (z := kJ4) (as := []) hg hy hwG hl hG (n_J4 hG hE (b + 333)) rfl (by decide +kernel) ⟨(TBg_at 356 (by decide +kernel)), (TBg_at 73 (by decide +kernel)), (TBg_at 357 (by decide +kernel)), (TBg_at 358 (by decide +kernel)), rfl, by decide +kernel, by decide +kernel, rfl, by decide +kernel⟩ ⟨by decide, by decide⟩ (Nat.le_of_ble_eq_true rfl) (Nat.le_of_ble_eq_true rfl) (Nat.le_of_ble_eq_true rfl) hz hS_20 ⟨w7_20, (show G.2.2.1 ≤ (b + 333) by omega)⟩ (fun H2_21 locs2_21 hp hS_21 => ?_)
  obtain ⟨z2, o2, c2⟩ := hp
  rw [zc_20] at z2 o2 c2
  have w1_21 := w1_20.kept (o2 _ (by omega) (by omega)) (fun q h1 h2 => o2 q (by omega) (by omega))
  have w2_21 := w2_20.kept (o2 _ (by omega) (by omega)) (fun q h1 h2 => o2 q (by omega) (by omega))
  have w3_21 := w3_20.kept (o2 _ (by omega) (by omega)) (fun q h1 h2 => o2 q (by omega) (by omega))
  have w4_21 := w4_20.kept (o2 _ (by omega) (by omega)) (fun q h1 h2 => o2 q (by omega) (by omega))
  have w5_21 := w5_20.kept (o2 _ (by omega) (by omega)) (fun q h1 h2 => o2 q (by omega) (by omega))
  have w6_21 := w6_20.kept (o2 _ (by omega) (by omega)) (fun q h1 h2 => o2 q (by omega) (by omega))
  have ha_21 := ha_20.kept (o2 _ (by omega) (by omega))
  have oC_21 : ∀ q : Nat, q < b → q ≠ a → H2_21[q]? = (wS x).heap[q]? := fun q h1 h2 => (o2 q (by omega) (by omega)).trans (oC_20 q h1 h2)
  have zc_21 : H2_21.size = b + 335 := by omega
  have w7_21 : SbC G (b + 333) (b + 334) H2_21 := c2
  clear c2 z2 o2
  clear H2_20 hS_20 ha_20 w1_20 w2_20 w3_20 w4_20 w5_20 w6_20 oC_20 zc_20 w7_20
  show KW x _ _ _ _ 83 _ _
  refine k_put (idx := 54) (ci := 12) (k := 7) (a := a) (fs := [.ref b, .ref (b + 25), .int (0), .ref (b + 50), .ref (b + 277), .ref (b + 283), .ref (b + 320), .null, .int 0, .int 0]) hg hy hwG hnm (by decide +kernel) ⟨RX10, TX10, 10, tyX10, (.object "java/lang/StringBuilder"), rfl, by decide, (TBg_at 394 (by decide +kernel)), lay_X10, tyX10_ok, nmX10, rfl, rfl, rfl, rfl⟩ ha_21 (Nat.le_of_ble_eq_true rfl) haA hS_21 (fun H2_22 locs2_22 ha_22 z2 o2 hS_22 => ?_)
  change cO G a 12 [.ref b, .ref (b + 25), .int (0), .ref (b + 50), .ref (b + 277), .ref (b + 283), .ref (b + 320), .ref (b + 333), .int 0, .int 0] H2_22 at ha_22
  have w1_22 := w1_21.kept (o2 _ (by omega)) (fun q h1 h2 => o2 q (by omega))
  have w2_22 := w2_21.kept (o2 _ (by omega)) (fun q h1 h2 => o2 q (by omega))
  have w3_22 := w3_21.kept (o2 _ (by omega)) (fun q h1 h2 => o2 q (by omega))
  have w4_22 := w4_21.kept (o2 _ (by omega)) (fun q h1 h2 => o2 q (by omega))
  have w5_22 := w5_21.kept (o2 _ (by omega)) (fun q h1 h2 => o2 q (by omega))
  have w6_22 := w6_21.kept (o2 _ (by omega)) (fun q h1 h2 => o2 q (by omega))
  have w7_22 := w7_21.kept (o2 _ (by omega)) (fun q h1 h2 => o2 q (by omega))
  have oC_22 : ∀ q : Nat, q < b → q ≠ a → H2_22[q]? = (wS x).heap[q]? := fun q h1 h2 => (o2 q h2).trans (oC_21 q h1 h2)
  have zc_22 : H2_22.size = b + 335 := z2.trans zc_21
  clear z2 o2
  clear H2_21 hS_21 w1_21 w2_21 w3_21 w4_21 w5_21 w6_21 ha_21 oC_21 zc_21 w7_21
  refine k_aload_n (f := 0) (i := 0) hg hy (by decide +kernel) rfl rfl rfl ?_
  refine k_iconst (z := -1) (v := (-1 : Int32)) hg hy (by decide) (by decide +kernel) ?_
  show KW x _ _ _ _ 88 _ _
  refine k_put (idx := 58) (ci := 12) (k := 8) (a := a) (fs := [.ref b, .ref (b + 25), .int (0), .ref (b + 50), .ref (b + 277), .ref (b + 283), .ref (b + 320), .ref (b + 333), .int 0, .int 0]) hg hy hwG hnm (by decide +kernel) ⟨RX10, TX10, 10, tyX10, .int, rfl, by decide, (TBg_at 395 (by decide +kernel)), lay_X10, tyX10_ok, nmX10, rfl, rfl, rfl, rfl⟩ ha_22 (Nat.le_of_ble_eq_true rfl) haA hS_22 (fun H2_23 locs2_23 ha_23 z2 o2 hS_23 => ?_)
  change cO G a 12 [.ref b, .ref (b + 25), .int (0), .ref (b + 50), .ref (b + 277), .ref (b + 283), .ref (b + 320), .ref (b + 333), .int (-1), .int 0] H2_23 at ha_23
  have w1_23 := w1_22.kept (o2 _ (by omega)) (fun q h1 h2 => o2 q (by omega))
  have w2_23 := w2_22.kept (o2 _ (by omega)) (fun q h1 h2 => o2 q (by omega))
  have w3_23 := w3_22.kept (o2 _ (by omega)) (fun q h1 h2 => o2 q (by omega))
  have w4_23 := w4_22.kept (o2 _ (by omega)) (fun q h1 h2 => o2 q (by omega))
  have w5_23 := w5_22.kept (o2 _ (by omega)) (fun q h1 h2 => o2 q (by omega))
  have w6_23 := w6_22.kept (o2 _ (by omega)) (fun q h1 h2 => o2 q (by omega))
  have w7_23 := w7_22.kept (o2 _ (by omega)) (fun q h1 h2 => o2 q (by omega))
  have oC_23 : ∀ q : Nat, q < b → q ≠ a → H2_23[q]? = (wS x).heap[q]? := fun q h1 h2 => (o2 q h2).trans (oC_22 q h1 h2)
  have zc_23 : H2_23.size = b + 335 := z2.trans zc_22
  clear z2 o2
  clear H2_22 ha_22 hS_22 w1_22 w2_22 w3_22 w4_22 w5_22 w6_22 w7_22 oC_22 zc_22
  refine k_aload_n (f := 0) (i := 0) hg hy (by decide +kernel) rfl rfl rfl ?_
  refine k_iconst (z := -1) (v := (-1 : Int32)) hg hy (by decide) (by decide +kernel) ?_
  show KW x _ _ _ _ 93 _ _
  refine k_put (idx := 62) (ci := 12) (k := 9) (a := a) (fs := [.ref b, .ref (b + 25), .int (0), .ref (b + 50), .ref (b + 277), .ref (b + 283), .ref (b + 320), .ref (b + 333), .int (-1), .int 0]) hg hy hwG hnm (by decide +kernel) ⟨RX10, TX10, 10, tyX10, .int, rfl, by decide, (TBg_at 396 (by decide +kernel)), lay_X10, tyX10_ok, nmX10, rfl, rfl, rfl, rfl⟩ ha_23 (Nat.le_of_ble_eq_true rfl) haA hS_23 (fun H2_24 locs2_24 ha_24 z2 o2 hS_24 => ?_)
  change cO G a 12 [.ref b, .ref (b + 25), .int (0), .ref (b + 50), .ref (b + 277), .ref (b + 283), .ref (b + 320), .ref (b + 333), .int (-1), .int (-1)] H2_24 at ha_24
  have w1_24 := w1_23.kept (o2 _ (by omega)) (fun q h1 h2 => o2 q (by omega))
  have w2_24 := w2_23.kept (o2 _ (by omega)) (fun q h1 h2 => o2 q (by omega))
  have w3_24 := w3_23.kept (o2 _ (by omega)) (fun q h1 h2 => o2 q (by omega))
  have w4_24 := w4_23.kept (o2 _ (by omega)) (fun q h1 h2 => o2 q (by omega))
  have w5_24 := w5_23.kept (o2 _ (by omega)) (fun q h1 h2 => o2 q (by omega))
  have w6_24 := w6_23.kept (o2 _ (by omega)) (fun q h1 h2 => o2 q (by omega))
  have w7_24 := w7_23.kept (o2 _ (by omega)) (fun q h1 h2 => o2 q (by omega))
  have oC_24 : ∀ q : Nat, q < b → q ≠ a → H2_24[q]? = (wS x).heap[q]? := fun q h1 h2 => (o2 q h2).trans (oC_23 q h1 h2)
  have zc_24 : H2_24.size = b + 335 := z2.trans zc_23
  clear z2 o2
  clear H2_23 ha_23 hS_23 w1_23 w2_23 w3_23 w4_23 w5_23 w6_23 w7_23 oC_23 zc_23
  subst hb
  show KW x _ _ _ _ 96 _ _
  exact k_ret hB (by decide +kernel) rfl hS_24 (Nat.le_of_ble_eq_true rfl) (Nat.le_of_ble_eq_true rfl) ⟨zc_24, oC_24, ha_24, w1_24, w2_24, w3_24, w4_24, w5_24, w6_24, w7_24⟩
set_option maxHeartbeats 8000000 in
theorem n_X11 (a : Nat) : KC l G kX11 [.inl (.ref a)] (fun H => cO G a 13 [.int 0, .int 0, .int 0, .int 0, .int 0, .null, .null, .null, .null, .null, .null, .null, .null, .null, .null, .null, .int 0, .int 0, .int 0, .int 0, .int 0, .int 0] H ∧ AA G a) (fun H H1 => H1.size = H.size + 11 ∧ (∀ q : Nat, q < H.size → q ≠ a → H1[q]? = H[q]?) ∧ MdC G a H.size H1) := by
  refine KC_of (by decide +kernel) (Nat.le_of_ble_eq_true rfl) (fun x hB hpre => ?_)
  obtain ⟨ha, haA⟩ := hpre
  obtain ⟨hg, hl, hy, hwG, hnm, hrt, hlk, hQ, hz⟩ := id hB
  have hS : va_S (AA G) (wS x).heap (wS x).heap [] := va_S.rf
  have hab : a < (wS x).heap.size := va_at.lt ha
  obtain ⟨b, zc⟩ : ∃ b, (wS x).heap.size = b := ⟨_, rfl⟩
  have hb := zc
  rw [zc] at hab
  have hzb : G.2.2.1 ≤ b := by rw [← zc]; exact hz
  have oC : ∀ q : Nat, q < b → q ≠ a → (wS x).heap[q]? = (wS x).heap[q]? := fun _ _ _ => rfl
  have ha : cO G a 13 [.int 0, .int 0, .int 0, .int 0, .int 0, .null, .null, .null, .null, .null, .null, .null, .null, .null, .null, .null, .int 0, .int 0, .int 0, .int 0, .int 0, .int 0] (wS x).heap := ha
  have loop : ∀ m i H locs al, i + m = 7 → cO G a 13 [.int 0, .int 0, .int (-1), .int (-1), .int 0, .ref b, .ref (b + 1), .ref (b + 2), .ref (b + 3), .ref (b + 4), .ref (b + 5), .ref (b + 6), .ref (b + 7), .ref (b + 8), .ref (b + 9), .ref (b + 10), .int 0, .int 0, .int 0, .int 0, .int 0, .int 0] H → cI G 0 (b + 1) 136 (fun _ => 0) H → cI G 0 (b + 2) 136 (fun _ => 0) H → cI G 0 (b + 3) 1088 (fun _ => 0) H → cI G 0 (b + 4) 352 (fun _ => 0) H → cI G 0 (b + 5) 10 (fun _ => 0) H → cI G 0 (b + 6) 60 (fun _ => 0) H → cI G 0 (b + 7) 80 (fun _ => 0) H → cI G 0 (b + 8) 9 (fun _ => 0) H → cI G 0 (b + 9) 53 (lstI [112, 108, 101, 100, 103, 101, 32, 114, 101, 100, 101, 101, 109, 32, 101, 120, 116, 101, 110, 100, 32, 100, 97, 121, 115, 32, 112, 114, 105, 99, 101, 32, 114, 97, 116, 101, 32, 98, 105, 100, 32, 115, 101, 108, 108, 32, 101, 118, 101, 110, 105, 110, 103]) H → cI G 0 (b + 10) 10 (lstI [0, 7, 14, 21, 26, 32, 37, 41, 46, 53]) H → cI G 0 b 136 (vI0 i) H → H.size = b + 11 → (∀ q : Nat, q < b → q ≠ a → H[q]? = (wS x).heap[q]?) → va_S (AA G) (wS x).heap H locs → (∀ z ∈ ([(0, .inl (.ref a)), (1, aI (nI i))] : Al), lk al z.1 = some z.2) → KW x H locs 11 2070 490 al [] := by
    intro m
    induction m with
    | zero =>
      intro i H locs al hi ha r2 r3 r4 r5 r6 r7 r8 r9 r10 r11 r1 zc oC hS hal
      have hi : i = 7 := by omega
      subst hi
      refine KW.sub ?_ hal
      refine k_iload_n (f := 1) (i := 1) hg hy (by decide +kernel) rfl rfl ?_
      refine k_bipush (z := 7) (v := (7 : Int32)) hg hy (by decide) (by decide +kernel) ?_
      refine k_icmp_ge (off := 19) (tgt := 512) hg hy (by decide +kernel) (by decide) (fun _ => ?_) (fun q => absurd (by decide) q)
      subst hb
      exact k_ret hB (by decide +kernel) rfl hS (Nat.le_of_ble_eq_true rfl) (Nat.le_of_ble_eq_true rfl) ⟨zc, oC, ha, r1, r2, r3, r4, r5, r6, r7, r8, r9, r10, r11⟩
    | succ m ih =>
      intro i H locs al hi ha r2 r3 r4 r5 r6 r7 r8 r9 r10 r11 r1 zc oC hS hal
      refine KW.sub ?_ hal
      refine k_iload_n (f := 1) (i := 1) hg hy (by decide +kernel) rfl rfl ?_
      refine k_bipush (z := 7) (v := nI 7) hg hy (by decide) (by decide +kernel) ?_
      refine k_icmp_ge (off := 19) (tgt := 512) hg hy (by decide +kernel) (by decide) (fun q => absurd q (fun q2 => absurd ((nI_leI (by omega) (by omega)).mp q2) (by omega))) (fun _ => ?_)
      show KW x _ _ _ _ 496 _ _
      refine k_aload_n (f := 0) (i := 0) hg hy (by decide +kernel) rfl rfl rfl ?_
      refine k_get (idx := 16) (ci := 13) (k := 5) (v := .inl (.ref b)) hg hy hwG (by decide +kernel) ⟨RX11, TX11, 22, rfl, by decide, (TBg_at 1604 (by decide +kernel)), lay_X11⟩ ha rfl ?_
      refine k_bipush (z := 9) (v := nI 9) hg hy (by decide) (by decide +kernel) ?_
      refine k_iload_n (f := 1) (i := 1) hg hy (by decide +kernel) rfl rfl ?_
      refine k_iadd hg hy (by decide +kernel) ?_
      rw [nI_add]
      refine k_iconst (z := 1) (v := (1 : Int32)) hg hy (by decide) (by decide +kernel) ?_
      refine k_iastk (k := 9 + i) hg hy hwG (by decide +kernel) r1 (vpL (show 9 + i < 136 by omega) (by omega) ▸ trivial) (ixL (by omega)) (show G.2.2.1 ≤ b by omega) hS (fun H2 locs2 r1 z2 o2 hS => ?_)
      have ha := ha.kept (o2 _ (by omega))
      have r2 := r2.kept (o2 _ (by omega))
      have r3 := r3.kept (o2 _ (by omega))
      have r4 := r4.kept (o2 _ (by omega))
      have r5 := r5.kept (o2 _ (by omega))
      have r6 := r6.kept (o2 _ (by omega))
      have r7 := r7.kept (o2 _ (by omega))
      have r8 := r8.kept (o2 _ (by omega))
      have r9 := r9.kept (o2 _ (by omega))
      have r10 := r10.kept (o2 _ (by omega))
      have r11 := r11.kept (o2 _ (by omega))
      have oC : ∀ q : Nat, q < b → q ≠ a → H2[q]? = (wS x).heap[q]? := fun q h1 h2 => (o2 q (by omega)).trans (oC q h1 h2)
      have zc := z2.trans zc
      clear z2 o2
      refine k_iinc (i := 1) (z := 1) (w := nI 1) hg hy (by decide +kernel) (by decide) rfl (by decide) ?_
      refine k_goto (off := -19) (tgt := 490) hg hy (by decide +kernel) (by decide) ?_
      rw [nI_add]
      refine ih (i + 1) H2 locs2 _ (by omega) ha r2 r3 r4 r5 r6 r7 r8 r9 r10 r11 (r1.congr (fun j hj => vI0_s (by omega))) zc oC hS (List.forall_mem_cons.mpr ⟨rfl, List.forall_mem_cons.mpr ⟨rfl, fun _ h => absurd h List.not_mem_nil⟩⟩)
  refine k_aload_n (f := 0) (i := 0) hg hy (by decide +kernel) rfl rfl rfl ?_
  refine k_obj (idx := 1) hg hy (by decide +kernel) ⟨(TBg_at 1598 (by decide +kernel)), (TBg_at 102 (by decide +kernel)), (TBg_at 103 (by decide +kernel))⟩ (Nat.le_of_ble_eq_true rfl) ?_
  refine k_aload_n (f := 0) (i := 0) hg hy (by decide +kernel) rfl rfl rfl ?_
  refine k_iconst (z := -1) (v := (-1 : Int32)) hg hy (by decide) (by decide +kernel) ?_
  show KW x _ _ _ _ 6 _ _
  refine k_put (idx := 7) (ci := 13) (k := 2) (a := a) (fs := [.int 0, .int 0, .int 0, .int 0, .int 0, .null, .null, .null, .null, .null, .null, .null, .null, .null, .null, .null, .int 0, .int 0, .int 0, .int 0, .int 0, .int 0]) hg hy hwG hnm (by decide +kernel) ⟨RX11, TX11, 22, tyX11, .int, rfl, by decide, (TBg_at 1601 (by decide +kernel)), lay_X11, tyX11_ok, nmX11, rfl, rfl, rfl, rfl⟩ ha (Nat.le_of_ble_eq_true rfl) haA hS (fun H2_1 locs2_1 ha_1 z2 o2 hS_1 => ?_)
  change cO G a 13 [.int 0, .int 0, .int (-1), .int 0, .int 0, .null, .null, .null, .null, .null, .null, .null, .null, .null, .null, .null, .int 0, .int 0, .int 0, .int 0, .int 0, .int 0] H2_1 at ha_1
  have oC_1 : ∀ q : Nat, q < b → q ≠ a → H2_1[q]? = (wS x).heap[q]? := fun q h1 h2 => (o2 q h2).trans (oC q h1 h2)
  have zc_1 : H2_1.size = b := z2.trans zc
  clear z2 o2
  clear ha zc oC hS
  refine k_aload_n (f := 0) (i := 0) hg hy (by decide +kernel) rfl rfl rfl ?_
  refine k_iconst (z := -1) (v := (-1 : Int32)) hg hy (by decide) (by decide +kernel) ?_
  show KW x _ _ _ _ 11 _ _
  refine k_put (idx := 13) (ci := 13) (k := 3) (a := a) (fs := [.int 0, .int 0, .int (-1), .int 0, .int 0, .null, .null, .null, .null, .null, .null, .null, .null, .null, .null, .null, .int 0, .int 0, .int 0, .int 0, .int 0, .int 0]) hg hy hwG hnm (by decide +kernel) ⟨RX11, TX11, 22, tyX11, .int, rfl, by decide, (TBg_at 1602 (by decide +kernel)), lay_X11, tyX11_ok, nmX11, rfl, rfl, rfl, rfl⟩ ha_1 (Nat.le_of_ble_eq_true rfl) haA hS_1 (fun H2_2 locs2_2 ha_2 z2 o2 hS_2 => ?_)
  change cO G a 13 [.int 0, .int 0, .int (-1), .int (-1), .int 0, .null, .null, .null, .null, .null, .null, .null, .null, .null, .null, .null, .int 0, .int 0, .int 0, .int 0, .int 0, .int 0] H2_2 at ha_2
  have oC_2 : ∀ q : Nat, q < b → q ≠ a → H2_2[q]? = (wS x).heap[q]? := fun q h1 h2 => (o2 q h2).trans (oC_1 q h1 h2)
  have zc_2 : H2_2.size = b := z2.trans zc_1
  clear z2 o2
  clear H2_1 ha_1 hS_1 oC_1 zc_1
  refine k_aload_n (f := 0) (i := 0) hg hy (by decide +kernel) rfl rfl rfl ?_
  refine k_sipush (z := 136) (v := (136 : Int32)) hg hy (by decide) (by decide +kernel) ?_
  show KW x _ _ _ _ 18 _ _
  refine k_newa (atype := .int) (t := 0) (N := 136) (a0 := (136, .inl (fun _ => 0))) hg hy hwG (by decide +kernel) (TBg_at 129 (by decide +kernel)) rfl (fun _ => rfl) (by decide) (by decide) (Nat.le_of_ble_eq_true rfl) hS_2 (Nat.le_of_ble_eq_true rfl) (Nat.le_of_ble_eq_true rfl) (fun H2_3 c2 z2 o2 hS_3 => ?_)
  rw [zc_2] at c2 z2 o2 ⊢
  have ha_3 := ha_2.kept (o2 _ (by omega))
  have oC_3 : ∀ q : Nat, q < b → q ≠ a → H2_3[q]? = (wS x).heap[q]? := fun q h1 h2 => (o2 q (by omega)).trans (oC_2 q h1 h2)
  have zc_3 : H2_3.size = b + 1 := by omega
  have r1_3 : cI G 0 b 136 (fun _ => 0) H2_3 := c2
  clear c2 z2 o2
  clear H2_2 ha_2 hS_2 oC_2 zc_2
  show KW x _ _ _ _ 20 _ _
  refine k_put (idx := 16) (ci := 13) (k := 5) (a := a) (fs := [.int 0, .int 0, .int (-1), .int (-1), .int 0, .null, .null, .null, .null, .null, .null, .null, .null, .null, .null, .null, .int 0, .int 0, .int 0, .int 0, .int 0, .int 0]) hg hy hwG hnm (by decide +kernel) ⟨RX11, TX11, 22, tyX11, (.array .int), rfl, by decide, (TBg_at 1604 (by decide +kernel)), lay_X11, tyX11_ok, nmX11, rfl, rfl, rfl, rfl⟩ ha_3 (Nat.le_of_ble_eq_true rfl) haA hS_3 (fun H2_4 locs2_4 ha_4 z2 o2 hS_4 => ?_)
  change cO G a 13 [.int 0, .int 0, .int (-1), .int (-1), .int 0, .ref b, .null, .null, .null, .null, .null, .null, .null, .null, .null, .null, .int 0, .int 0, .int 0, .int 0, .int 0, .int 0] H2_4 at ha_4
  have r1_4 := r1_3.kept (o2 _ (by omega))
  have oC_4 : ∀ q : Nat, q < b → q ≠ a → H2_4[q]? = (wS x).heap[q]? := fun q h1 h2 => (o2 q h2).trans (oC_3 q h1 h2)
  have zc_4 : H2_4.size = b + 1 := z2.trans zc_3
  clear z2 o2
  clear H2_3 hS_3 ha_3 oC_3 zc_3 r1_3
  refine k_aload_n (f := 0) (i := 0) hg hy (by decide +kernel) rfl rfl rfl ?_
  refine k_sipush (z := 136) (v := (136 : Int32)) hg hy (by decide) (by decide +kernel) ?_
  show KW x _ _ _ _ 27 _ _
  refine k_newa (atype := .int) (t := 0) (N := 136) (a0 := (136, .inl (fun _ => 0))) hg hy hwG (by decide +kernel) (TBg_at 129 (by decide +kernel)) rfl (fun _ => rfl) (by decide) (by decide) (Nat.le_of_ble_eq_true rfl) hS_4 (Nat.le_of_ble_eq_true rfl) (Nat.le_of_ble_eq_true rfl) (fun H2_5 c2 z2 o2 hS_5 => ?_)
  rw [zc_4] at c2 z2 o2 ⊢
  have ha_5 := ha_4.kept (o2 _ (by omega))
  have r1_5 := r1_4.kept (o2 _ (by omega))
  have oC_5 : ∀ q : Nat, q < b → q ≠ a → H2_5[q]? = (wS x).heap[q]? := fun q h1 h2 => (o2 q (by omega)).trans (oC_4 q h1 h2)
  have zc_5 : H2_5.size = b + 2 := by omega
  have r2_5 : cI G 0 (b + 1) 136 (fun _ => 0) H2_5 := c2
  clear c2 z2 o2
  clear H2_4 ha_4 hS_4 r1_4 oC_4 zc_4
  show KW x _ _ _ _ 29 _ _
  refine k_put (idx := 20) (ci := 13) (k := 6) (a := a) (fs := [.int 0, .int 0, .int (-1), .int (-1), .int 0, .ref b, .null, .null, .null, .null, .null, .null, .null, .null, .null, .null, .int 0, .int 0, .int 0, .int 0, .int 0, .int 0]) hg hy hwG hnm (by decide +kernel) ⟨RX11, TX11, 22, tyX11, (.array .int), rfl, by decide, (TBg_at 1605 (by decide +kernel)), lay_X11, tyX11_ok, nmX11, rfl, rfl, rfl, rfl⟩ ha_5 (Nat.le_of_ble_eq_true rfl) haA hS_5 (fun H2_6 locs2_6 ha_6 z2 o2 hS_6 => ?_)
  change cO G a 13 [.int 0, .int 0, .int (-1), .int (-1), .int 0, .ref b, .ref (b + 1), .null, .null, .null, .null, .null, .null, .null, .null, .null, .int 0, .int 0, .int 0, .int 0, .int 0, .int 0] H2_6 at ha_6
  have r1_6 := r1_5.kept (o2 _ (by omega))
  have r2_6 := r2_5.kept (o2 _ (by omega))
  have oC_6 : ∀ q : Nat, q < b → q ≠ a → H2_6[q]? = (wS x).heap[q]? := fun q h1 h2 => (o2 q h2).trans (oC_5 q h1 h2)
  have zc_6 : H2_6.size = b + 2 := z2.trans zc_5
  clear z2 o2
  clear H2_5 hS_5 ha_5 r1_5 oC_5 zc_5 r2_5
  refine k_aload_n (f := 0) (i := 0) hg hy (by decide +kernel) rfl rfl rfl ?_
  refine k_sipush (z := 136) (v := (136 : Int32)) hg hy (by decide) (by decide +kernel) ?_
  show KW x _ _ _ _ 36 _ _
  refine k_newa (atype := .int) (t := 0) (N := 136) (a0 := (136, .inl (fun _ => 0))) hg hy hwG (by decide +kernel) (TBg_at 129 (by decide +kernel)) rfl (fun _ => rfl) (by decide) (by decide) (Nat.le_of_ble_eq_true rfl) hS_6 (Nat.le_of_ble_eq_true rfl) (Nat.le_of_ble_eq_true rfl) (fun H2_7 c2 z2 o2 hS_7 => ?_)
  rw [zc_6] at c2 z2 o2 ⊢
  have ha_7 := ha_6.kept (o2 _ (by omega))
  have r1_7 := r1_6.kept (o2 _ (by omega))
  have r2_7 := r2_6.kept (o2 _ (by omega))
  have oC_7 : ∀ q : Nat, q < b → q ≠ a → H2_7[q]? = (wS x).heap[q]? := fun q h1 h2 => (o2 q (by omega)).trans (oC_6 q h1 h2)
  have zc_7 : H2_7.size = b + 3 := by omega
  have r3_7 : cI G 0 (b + 2) 136 (fun _ => 0) H2_7 := c2
  clear c2 z2 o2
  clear H2_6 ha_6 hS_6 r1_6 r2_6 oC_6 zc_6
  show KW x _ _ _ _ 38 _ _
  refine k_put (idx := 23) (ci := 13) (k := 7) (a := a) (fs := [.int 0, .int 0, .int (-1), .int (-1), .int 0, .ref b, .ref (b + 1), .null, .null, .null, .null, .null, .null, .null, .null, .null, .int 0, .int 0, .int 0, .int 0, .int 0, .int 0]) hg hy hwG hnm (by decide +kernel) ⟨RX11, TX11, 22, tyX11, (.array .int), rfl, by decide, (TBg_at 1606 (by decide +kernel)), lay_X11, tyX11_ok, nmX11, rfl, rfl, rfl, rfl⟩ ha_7 (Nat.le_of_ble_eq_true rfl) haA hS_7 (fun H2_8 locs2_8 ha_8 z2 o2 hS_8 => ?_)
  change cO G a 13 [.int 0, .int 0, .int (-1), .int (-1), .int 0, .ref b, .ref (b + 1), .ref (b + 2), .null, .null, .null, .null, .null, .null, .null, .null, .int 0, .int 0, .int 0, .int 0, .int 0, .int 0] H2_8 at ha_8
  have r1_8 := r1_7.kept (o2 _ (by omega))
  have r2_8 := r2_7.kept (o2 _ (by omega))
  have r3_8 := r3_7.kept (o2 _ (by omega))
  have oC_8 : ∀ q : Nat, q < b → q ≠ a → H2_8[q]? = (wS x).heap[q]? := fun q h1 h2 => (o2 q h2).trans (oC_7 q h1 h2)
  have zc_8 : H2_8.size = b + 3 := z2.trans zc_7
  clear z2 o2
  clear H2_7 hS_7 ha_7 r1_7 r2_7 oC_7 zc_7 r3_7
  refine k_aload_n (f := 0) (i := 0) hg hy (by decide +kernel) rfl rfl rfl ?_
  refine k_sipush (z := 1088) (v := (1088 : Int32)) hg hy (by decide) (by decide +kernel) ?_
  show KW x _ _ _ _ 45 _ _
  refine k_newa (atype := .int) (t := 0) (N := 1088) (a0 := (1088, .inl (fun _ => 0))) hg hy hwG (by decide +kernel) (TBg_at 129 (by decide +kernel)) rfl (fun _ => rfl) (by decide) (by decide) (Nat.le_of_ble_eq_true rfl) hS_8 (Nat.le_of_ble_eq_true rfl) (Nat.le_of_ble_eq_true rfl) (fun H2_9 c2 z2 o2 hS_9 => ?_)
  rw [zc_8] at c2 z2 o2 ⊢
  have ha_9 := ha_8.kept (o2 _ (by omega))
  have r1_9 := r1_8.kept (o2 _ (by omega))
  have r2_9 := r2_8.kept (o2 _ (by omega))
  have r3_9 := r3_8.kept (o2 _ (by omega))
  have oC_9 : ∀ q : Nat, q < b → q ≠ a → H2_9[q]? = (wS x).heap[q]? := fun q h1 h2 => (o2 q (by omega)).trans (oC_8 q h1 h2)
  have zc_9 : H2_9.size = b + 4 := by omega
  have r4_9 : cI G 0 (b + 3) 1088 (fun _ => 0) H2_9 := c2
  clear c2 z2 o2
  clear H2_8 ha_8 hS_8 r1_8 r2_8 r3_8 oC_8 zc_8
  show KW x _ _ _ _ 47 _ _
  refine k_put (idx := 26) (ci := 13) (k := 8) (a := a) (fs := [.int 0, .int 0, .int (-1), .int (-1), .int 0, .ref b, .ref (b + 1), .ref (b + 2), .null, .null, .null, .null, .null, .null, .null, .null, .int 0, .int 0, .int 0, .int 0, .int 0, .int 0]) hg hy hwG hnm (by decide +kernel) ⟨RX11, TX11, 22, tyX11, (.array .int), rfl, by decide, (TBg_at 1607 (by decide +kernel)), lay_X11, tyX11_ok, nmX11, rfl, rfl, rfl, rfl⟩ ha_9 (Nat.le_of_ble_eq_true rfl) haA hS_9 (fun H2_10 locs2_10 ha_10 z2 o2 hS_10 => ?_)
  change cO G a 13 [.int 0, .int 0, .int (-1), .int (-1), .int 0, .ref b, .ref (b + 1), .ref (b + 2), .ref (b + 3), .null, .null, .null, .null, .null, .null, .null, .int 0, .int 0, .int 0, .int 0, .int 0, .int 0] H2_10 at ha_10
  have r1_10 := r1_9.kept (o2 _ (by omega))
  have r2_10 := r2_9.kept (o2 _ (by omega))
  have r3_10 := r3_9.kept (o2 _ (by omega))
  have r4_10 := r4_9.kept (o2 _ (by omega))
  have oC_10 : ∀ q : Nat, q < b → q ≠ a → H2_10[q]? = (wS x).heap[q]? := fun q h1 h2 => (o2 q h2).trans (oC_9 q h1 h2)
  have zc_10 : H2_10.size = b + 4 := z2.trans zc_9
  clear z2 o2
  clear H2_9 hS_9 ha_9 r1_9 r2_9 r3_9 oC_9 zc_9 r4_9
  refine k_aload_n (f := 0) (i := 0) hg hy (by decide +kernel) rfl rfl rfl ?_
  refine k_sipush (z := 352) (v := (352 : Int32)) hg hy (by decide) (by decide +kernel) ?_
  show KW x _ _ _ _ 54 _ _
  refine k_newa (atype := .int) (t := 0) (N := 352) (a0 := (352, .inl (fun _ => 0))) hg hy hwG (by decide +kernel) (TBg_at 129 (by decide +kernel)) rfl (fun _ => rfl) (by decide) (by decide) (Nat.le_of_ble_eq_true rfl) hS_10 (Nat.le_of_ble_eq_true rfl) (Nat.le_of_ble_eq_true rfl) (fun H2_11 c2 z2 o2 hS_11 => ?_)
  rw [zc_10] at c2 z2 o2 ⊢
  have ha_11 := ha_10.kept (o2 _ (by omega))
  have r1_11 := r1_10.kept (o2 _ (by omega))
  have r2_11 := r2_10.kept (o2 _ (by omega))
  have r3_11 := r3_10.kept (o2 _ (by omega))
  have r4_11 := r4_10.kept (o2 _ (by omega))
  have oC_11 : ∀ q : Nat, q < b → q ≠ a → H2_11[q]? = (wS x).heap[q]? := fun q h1 h2 => (o2 q (by omega)).trans (oC_10 q h1 h2)
  have zc_11 : H2_11.size = b + 5 := by omega
  have r5_11 : cI G 0 (b + 4) 352 (fun _ => 0) H2_11 := c2
  clear c2 z2 o2
  clear H2_10 ha_10 hS_10 r1_10 r2_10 r3_10 r4_10 oC_10 zc_10
  show KW x _ _ _ _ 56 _ _
  refine k_put (idx := 29) (ci := 13) (k := 9) (a := a) (fs := [.int 0, .int 0, .int (-1), .int (-1), .int 0, .ref b, .ref (b + 1), .ref (b + 2), .ref (b + 3), .null, .null, .null, .null, .null, .null, .null, .int 0, .int 0, .int 0, .int 0, .int 0, .int 0]) hg hy hwG hnm (by decide +kernel) ⟨RX11, TX11, 22, tyX11, (.array .int), rfl, by decide, (TBg_at 1608 (by decide +kernel)), lay_X11, tyX11_ok, nmX11, rfl, rfl, rfl, rfl⟩ ha_11 (Nat.le_of_ble_eq_true rfl) haA hS_11 (fun H2_12 locs2_12 ha_12 z2 o2 hS_12 => ?_)
  change cO G a 13 [.int 0, .int 0, .int (-1), .int (-1), .int 0, .ref b, .ref (b + 1), .ref (b + 2), .ref (b + 3), .ref (b + 4), .null, .null, .null, .null, .null, .null, .int 0, .int 0, .int 0, .int 0, .int 0, .int 0] H2_12 at ha_12
  have r1_12 := r1_11.kept (o2 _ (by omega))
  have r2_12 := r2_11.kept (o2 _ (by omega))
  have r3_12 := r3_11.kept (o2 _ (by omega))
  have r4_12 := r4_11.kept (o2 _ (by omega))
  have r5_12 := r5_11.kept (o2 _ (by omega))
  have oC_12 : ∀ q : Nat, q < b → q ≠ a → H2_12[q]? = (wS x).heap[q]? := fun q h1 h2 => (o2 q h2).trans (oC_11 q h1 h2)
  have zc_12 : H2_12.size = b + 5 := z2.trans zc_11
  clear z2 o2
  clear H2_11 hS_11 ha_11 r1_11 r2_11 r3_11 r4_11 oC_11 zc_11 r5_11
  refine k_aload_n (f := 0) (i := 0) hg hy (by decide +kernel) rfl rfl rfl ?_
  refine k_bipush (z := 10) (v := (10 : Int32)) hg hy (by decide) (by decide +kernel) ?_
  show KW x _ _ _ _ 62 _ _
  refine k_newa (atype := .int) (t := 0) (N := 10) (a0 := (10, .inl (fun _ => 0))) hg hy hwG (by decide +kernel) (TBg_at 129 (by decide +kernel)) rfl (fun _ => rfl) (by decide) (by decide) (Nat.le_of_ble_eq_true rfl) hS_12 (Nat.le_of_ble_eq_true rfl) (Nat.le_of_ble_eq_true rfl) (fun H2_13 c2 z2 o2 hS_13 => ?_)
  rw [zc_12] at c2 z2 o2 ⊢
  have ha_13 := ha_12.kept (o2 _ (by omega))
  have r1_13 := r1_12.kept (o2 _ (by omega))
  have r2_13 := r2_12.kept (o2 _ (by omega))
  have r3_13 := r3_12.kept (o2 _ (by omega))
  have r4_13 := r4_12.kept (o2 _ (by omega))
  have r5_13 := r5_12.kept (o2 _ (by omega))
  have oC_13 : ∀ q : Nat, q < b → q ≠ a → H2_13[q]? = (wS x).heap[q]? := fun q h1 h2 => (o2 q (by omega)).trans (oC_12 q h1 h2)
  have zc_13 : H2_13.size = b + 6 := by omega
  have r6_13 : cI G 0 (b + 5) 10 (fun _ => 0) H2_13 := c2
  clear c2 z2 o2
  clear H2_12 ha_12 hS_12 r1_12 r2_12 r3_12 r4_12 r5_12 oC_12 zc_12
  show KW x _ _ _ _ 64 _ _
  refine k_put (idx := 32) (ci := 13) (k := 10) (a := a) (fs := [.int 0, .int 0, .int (-1), .int (-1), .int 0, .ref b, .ref (b + 1), .ref (b + 2), .ref (b + 3), .ref (b + 4), .null, .null, .null, .null, .null, .null, .int 0, .int 0, .int 0, .int 0, .int 0, .int 0]) hg hy hwG hnm (by decide +kernel) ⟨RX11, TX11, 22, tyX11, (.array .int), rfl, by decide, (TBg_at 1609 (by decide +kernel)), lay_X11, tyX11_ok, nmX11, rfl, rfl, rfl, rfl⟩ ha_13 (Nat.le_of_ble_eq_true rfl) haA hS_13 (fun H2_14 locs2_14 ha_14 z2 o2 hS_14 => ?_)
  change cO G a 13 [.int 0, .int 0, .int (-1), .int (-1), .int 0, .ref b, .ref (b + 1), .ref (b + 2), .ref (b + 3), .ref (b + 4), .ref (b + 5), .null, .null, .null, .null, .null, .int 0, .int 0, .int 0, .int 0, .int 0, .int 0] H2_14 at ha_14
  have r1_14 := r1_13.kept (o2 _ (by omega))
  have r2_14 := r2_13.kept (o2 _ (by omega))
  have r3_14 := r3_13.kept (o2 _ (by omega))
  have r4_14 := r4_13.kept (o2 _ (by omega))
  have r5_14 := r5_13.kept (o2 _ (by omega))
  have r6_14 := r6_13.kept (o2 _ (by omega))
  have oC_14 : ∀ q : Nat, q < b → q ≠ a → H2_14[q]? = (wS x).heap[q]? := fun q h1 h2 => (o2 q h2).trans (oC_13 q h1 h2)
  have zc_14 : H2_14.size = b + 6 := z2.trans zc_13
  clear z2 o2
  clear H2_13 hS_13 ha_13 r1_13 r2_13 r3_13 r4_13 r5_13 oC_13 zc_13 r6_13
  refine k_aload_n (f := 0) (i := 0) hg hy (by decide +kernel) rfl rfl rfl ?_
  refine k_bipush (z := 60) (v := (60 : Int32)) hg hy (by decide) (by decide +kernel) ?_
  show KW x _ _ _ _ 70 _ _
  refine k_newa (atype := .int) (t := 0) (N := 60) (a0 := (60, .inl (fun _ => 0))) hg hy hwG (by decide +kernel) (TBg_at 129 (by decide +kernel)) rfl (fun _ => rfl) (by decide) (by decide) (Nat.le_of_ble_eq_true rfl) hS_14 (Nat.le_of_ble_eq_true rfl) (Nat.le_of_ble_eq_true rfl) (fun H2_15 c2 z2 o2 hS_15 => ?_)
  rw [zc_14] at c2 z2 o2 ⊢
  have ha_15 := ha_14.kept (o2 _ (by omega))
  have r1_15 := r1_14.kept (o2 _ (by omega))
  have r2_15 := r2_14.kept (o2 _ (by omega))
  have r3_15 := r3_14.kept (o2 _ (by omega))
  have r4_15 := r4_14.kept (o2 _ (by omega))
  have r5_15 := r5_14.kept (o2 _ (by omega))
  have r6_15 := r6_14.kept (o2 _ (by omega))
  have oC_15 : ∀ q : Nat, q < b → q ≠ a → H2_15[q]? = (wS x).heap[q]? := fun q h1 h2 => (o2 q (by omega)).trans (oC_14 q h1 h2)
  have zc_15 : H2_15.size = b + 7 := by omega
  have r7_15 : cI G 0 (b + 6) 60 (fun _ => 0) H2_15 := c2
  clear c2 z2 o2
  clear H2_14 ha_14 hS_14 r1_14 r2_14 r3_14 r4_14 r5_14 r6_14 oC_14 zc_14
  show KW x _ _ _ _ 72 _ _
  refine k_put (idx := 35) (ci := 13) (k := 11) (a := a) (fs := [.int 0, .int 0, .int (-1), .int (-1), .int 0, .ref b, .ref (b + 1), .ref (b + 2), .ref (b + 3), .ref (b + 4), .ref (b + 5), .null, .null, .null, .null, .null, .int 0, .int 0, .int 0, .int 0, .int 0, .int 0]) hg hy hwG hnm (by decide +kernel) ⟨RX11, TX11, 22, tyX11, (.array .int), rfl, by decide, (TBg_at 1610 (by decide +kernel)), lay_X11, tyX11_ok, nmX11, rfl, rfl, rfl, rfl⟩ ha_15 (Nat.le_of_ble_eq_true rfl) haA hS_15 (fun H2_16 locs2_16 ha_16 z2 o2 hS_16 => ?_)
  change cO G a 13 [.int 0, .int 0, .int (-1), .int (-1), .int 0, .ref b, .ref (b + 1), .ref (b + 2), .ref (b + 3), .ref (b + 4), .ref (b + 5), .ref (b + 6), .null, .null, .null, .null, .int 0, .int 0, .int 0, .int 0, .int 0, .int 0] H2_16 at ha_16
  have r1_16 := r1_15.kept (o2 _ (by omega))
  have r2_16 := r2_15.kept (o2 _ (by omega))
  have r3_16 := r3_15.kept (o2 _ (by omega))
  have r4_16 := r4_15.kept (o2 _ (by omega))
  have r5_16 := r5_15.kept (o2 _ (by omega))
  have r6_16 := r6_15.kept (o2 _ (by omega))
  have r7_16 := r7_15.kept (o2 _ (by omega))
  have oC_16 : ∀ q : Nat, q < b → q ≠ a → H2_16[q]? = (wS x).heap[q]? := fun q h1 h2 => (o2 q h2).trans (oC_15 q h1 h2)
  have zc_16 : H2_16.size = b + 7 := z2.trans zc_15
  clear z2 o2
  clear H2_15 hS_15 ha_15 r1_15 r2_15 r3_15 r4_15 r5_15 r6_15 oC_15 zc_15 r7_15
  refine k_aload_n (f := 0) (i := 0) hg hy (by decide +kernel) rfl rfl rfl ?_
  refine k_bipush (z := 80) (v := (80 : Int32)) hg hy (by decide) (by decide +kernel) ?_
  show KW x _ _ _ _ 78 _ _
  refine k_newa (atype := .int) (t := 0) (N := 80) (a0 := (80, .inl (fun _ => 0))) hg hy hwG (by decide +kernel) (TBg_at 129 (by decide +kernel)) rfl (fun _ => rfl) (by decide) (by decide) (Nat.le_of_ble_eq_true rfl) hS_16 (Nat.le_of_ble_eq_true rfl) (Nat.le_of_ble_eq_true rfl) (fun H2_17 c2 z2 o2 hS_17 => ?_)
  rw [zc_16] at c2 z2 o2 ⊢
  have ha_17 := ha_16.kept (o2 _ (by omega))
  have r1_17 := r1_16.kept (o2 _ (by omega))
  have r2_17 := r2_16.kept (o2 _ (by omega))
  have r3_17 := r3_16.kept (o2 _ (by omega))
  have r4_17 := r4_16.kept (o2 _ (by omega))
  have r5_17 := r5_16.kept (o2 _ (by omega))
  have r6_17 := r6_16.kept (o2 _ (by omega))
  have r7_17 := r7_16.kept (o2 _ (by omega))
  have oC_17 : ∀ q : Nat, q < b → q ≠ a → H2_17[q]? = (wS x).heap[q]? := fun q h1 h2 => (o2 q (by omega)).trans (oC_16 q h1 h2)
  have zc_17 : H2_17.size = b + 8 := by omega
  have r8_17 : cI G 0 (b + 7) 80 (fun _ => 0) H2_17 := c2
  clear c2 z2 o2
  clear H2_16 ha_16 hS_16 r1_16 r2_16 r3_16 r4_16 r5_16 r6_16 r7_16 oC_16 zc_16
  show KW x _ _ _ _ 80 _ _
  refine k_put (idx := 38) (ci := 13) (k := 12) (a := a) (fs := [.int 0, .int 0, .int (-1), .int (-1), .int 0, .ref b, .ref (b + 1), .ref (b + 2), .ref (b + 3), .ref (b + 4), .ref (b + 5), .ref (b + 6), .null, .null, .null, .null, .int 0, .int 0, .int 0, .int 0, .int 0, .int 0]) hg hy hwG hnm (by decide +kernel) ⟨RX11, TX11, 22, tyX11, (.array .int), rfl, by decide, (TBg_at 1611 (by decide +kernel)), lay_X11, tyX11_ok, nmX11, rfl, rfl, rfl, rfl⟩ ha_17 (Nat.le_of_ble_eq_true rfl) haA hS_17 (fun H2_18 locs2_18 ha_18 z2 o2 hS_18 => ?_)
  change cO G a 13 [.int 0, .int 0, .int (-1), .int (-1), .int 0, .ref b, .ref (b + 1), .ref (b + 2), .ref (b + 3), .ref (b + 4), .ref (b + 5), .ref (b + 6), .ref (b + 7), .null, .null, .null, .int 0, .int 0, .int 0, .int 0, .int 0, .int 0] H2_18 at ha_18
  have r1_18 := r1_17.kept (o2 _ (by omega))
  have r2_18 := r2_17.kept (o2 _ (by omega))
  have r3_18 := r3_17.kept (o2 _ (by omega))
  have r4_18 := r4_17.kept (o2 _ (by omega))
  have r5_18 := r5_17.kept (o2 _ (by omega))
  have r6_18 := r6_17.kept (o2 _ (by omega))
  have r7_18 := r7_17.kept (o2 _ (by omega))
  have r8_18 := r8_17.kept (o2 _ (by omega))
  have oC_18 : ∀ q : Nat, q < b → q ≠ a → H2_18[q]? = (wS x).heap[q]? := fun q h1 h2 => (o2 q h2).trans (oC_17 q h1 h2)
  have zc_18 : H2_18.size = b + 8 := z2.trans zc_17
  clear z2 o2
  clear H2_17 hS_17 ha_17 r1_17 r2_17 r3_17 r4_17 r5_17 r6_17 r7_17 oC_17 zc_17 r8_17
  refine k_aload_n (f := 0) (i := 0) hg hy (by decide +kernel) rfl rfl rfl ?_
  refine k_bipush (z := 9) (v := (9 : Int32)) hg hy (by decide) (by decide +kernel) ?_
  show KW x _ _ _ _ 86 _ _
  refine k_newa (atype := .int) (t := 0) (N := 9) (a0 := (9, .inl (fun _ => 0))) hg hy hwG (by decide +kernel) (TBg_at 129 (by decide +kernel)) rfl (fun _ => rfl) (by decide) (by decide) (Nat.le_of_ble_eq_true rfl) hS_18 (Nat.le_of_ble_eq_true rfl) (Nat.le_of_ble_eq_true rfl) (fun H2_19 c2 z2 o2 hS_19 => ?_)
  rw [zc_18] at c2 z2 o2 ⊢
  have ha_19 := ha_18.kept (o2 _ (by omega))
  have r1_19 := r1_18.kept (o2 _ (by omega))
  have r2_19 := r2_18.kept (o2 _ (by omega))
  have r3_19 := r3_18.kept (o2 _ (by omega))
  have r4_19 := r4_18.kept (o2 _ (by omega))
  have r5_19 := r5_18.kept (o2 _ (by omega))
  have r6_19 := r6_18.kept (o2 _ (by omega))
  have r7_19 := r7_18.kept (o2 _ (by omega))
  have r8_19 := r8_18.kept (o2 _ (by omega))
  have oC_19 : ∀ q : Nat, q < b → q ≠ a → H2_19[q]? = (wS x).heap[q]? := fun q h1 h2 => (o2 q (by omega)).trans (oC_18 q h1 h2)
  have zc_19 : H2_19.size = b + 9 := by omega
  have r9_19 : cI G 0 (b + 8) 9 (fun _ => 0) H2_19 := c2
  clear c2 z2 o2
  clear H2_18 ha_18 hS_18 r1_18 r2_18 r3_18 r4_18 r5_18 r6_18 r7_18 r8_18 oC_18 zc_18
  show KW x _ _ _ _ 88 _ _
  refine k_put (idx := 41) (ci := 13) (k := 13) (a := a) (fs := [.int 0, .int 0, .int (-1), .int (-1), .int 0, .ref b, .ref (b + 1), .ref (b + 2), .ref (b + 3), .ref (b + 4), .ref (b + 5), .ref (b + 6), .ref (b + 7), .null, .null, .null, .int 0, .int 0, .int 0, .int 0, .int 0, .int 0]) hg hy hwG hnm (by decide +kernel) ⟨RX11, TX11, 22, tyX11, (.array .int), rfl, by decide, (TBg_at 1612 (by decide +kernel)), lay_X11, tyX11_ok, nmX11, rfl, rfl, rfl, rfl⟩ ha_19 (Nat.le_of_ble_eq_true rfl) haA hS_19 (fun H2_20 locs2_20 ha_20 z2 o2 hS_20 => ?_)
  change cO G a 13 [.int 0, .int 0, .int (-1), .int (-1), .int 0, .ref b, .ref (b + 1), .ref (b + 2), .ref (b + 3), .ref (b + 4), .ref (b + 5), .ref (b + 6), .ref (b + 7), .ref (b + 8), .null, .null, .int 0, .int 0, .int 0, .int 0, .int 0, .int 0] H2_20 at ha_20
  have r1_20 := r1_19.kept (o2 _ (by omega))
  have r2_20 := r2_19.kept (o2 _ (by omega))
  have r3_20 := r3_19.kept (o2 _ (by omega))
  have r4_20 := r4_19.kept (o2 _ (by omega))
  have r5_20 := r5_19.kept (o2 _ (by omega))
  have r6_20 := r6_19.kept (o2 _ (by omega))
  have r7_20 := r7_19.kept (o2 _ (by omega))
  have r8_20 := r8_19.kept (o2 _ (by omega))
  have r9_20 := r9_19.kept (o2 _ (by omega))
  have oC_20 : ∀ q : Nat, q < b → q ≠ a → H2_20[q]? = (wS x).heap[q]? := fun q h1 h2 => (o2 q h2).trans (oC_19 q h1 h2)
  have zc_20 : H2_20.size = b + 9 := z2.trans zc_19
  clear z2 o2
  clear H2_19 hS_19 ha_19 r1_19 r2_19 r3_19 r4_19 r5_19 r6_19 r7_19 r8_19 oC_19 zc_19 r9_19
  refine k_aload_n (f := 0) (i := 0) hg hy (by decide +kernel) rfl rfl rfl ?_
  refine k_bipush (z := 53) (v := (53 : Int32)) hg hy (by decide) (by decide +kernel) ?_
  show KW x _ _ _ _ 94 _ _
  refine k_newa (atype := .int) (t := 0) (N := 53) (a0 := (53, .inl (fun _ => 0))) hg hy hwG (by decide +kernel) (TBg_at 129 (by decide +kernel)) rfl (fun _ => rfl) (by decide) (by decide) (Nat.le_of_ble_eq_true rfl) hS_20 (Nat.le_of_ble_eq_true rfl) (Nat.le_of_ble_eq_true rfl) (fun H2_21 c2 z2 o2 hS_21 => ?_)
  rw [zc_20] at c2 z2 o2 ⊢
  have ha_21 := ha_20.kept (o2 _ (by omega))
  have r1_21 := r1_20.kept (o2 _ (by omega))
  have r2_21 := r2_20.kept (o2 _ (by omega))
  have r3_21 := r3_20.kept (o2 _ (by omega))
  have r4_21 := r4_20.kept (o2 _ (by omega))
  have r5_21 := r5_20.kept (o2 _ (by omega))
  have r6_21 := r6_20.kept (o2 _ (by omega))
  have r7_21 := r7_20.kept (o2 _ (by omega))
  have r8_21 := r8_20.kept (o2 _ (by omega))
  have r9_21 := r9_20.kept (o2 _ (by omega))
  have oC_21 : ∀ q : Nat, q < b → q ≠ a → H2_21[q]? = (wS x).heap[q]? := fun q h1 h2 => (o2 q (by omega)).trans (oC_20 q h1 h2)
  have zc_21 : H2_21.size = b + 10 := by omega
  have r10_21 : cI G 0 (b + 9) 53 (fun _ => 0) H2_21 := c2
  clear c2 z2 o2
  clear H2_20 ha_20 hS_20 r1_20 r2_20 r3_20 r4_20 r5_20 r6_20 r7_20 r8_20 r9_20 oC_20 zc_20
  replace r10_21 := r10_21.nil
  refine k_dup hg hy rfl (by decide +kernel) ?_
  refine k_iconst (z := 0) (v := (0 : Int32)) hg hy (by decide) (by decide +kernel) ?_
  refine k_bipush (z := 112) (v := (112 : Int32)) hg hy (by decide) (by decide +kernel) ?_
  show KW x _ _ _ _ 100 _ _
  refine k_iastk (k := 0) hg hy hwG (by decide +kernel) r10_21 (by unfold vp_in; decide) (by decide) (show G.2.2.1 ≤ (b + 9) by omega) hS_21 (fun H2_22 locs2_22 c2 z2 o2 hS_22 => ?_)
  have ha_22 := ha_21.kept (o2 _ (by omega))
  have r1_22 := r1_21.kept (o2 _ (by omega))
  have r2_22 := r2_21.kept (o2 _ (by omega))
  have r3_22 := r3_21.kept (o2 _ (by omega))
  have r4_22 := r4_21.kept (o2 _ (by omega))
  have r5_22 := r5_21.kept (o2 _ (by omega))
  have r6_22 := r6_21.kept (o2 _ (by omega))
  have r7_22 := r7_21.kept (o2 _ (by omega))
  have r8_22 := r8_21.kept (o2 _ (by omega))
  have r9_22 := r9_21.kept (o2 _ (by omega))
  have r10_22 : cI G 0 (b + 9) 53 (lstI [112]) H2_22 := c2.snoc (L := []) rfl
  have oC_22 : ∀ q : Nat, q < b → q ≠ a → H2_22[q]? = (wS x).heap[q]? := fun q h1 h2 => (o2 q (by omega)).trans (oC_21 q h1 h2)
  have zc_22 : H2_22.size = b + 10 := z2.trans zc_21
  clear c2 z2 o2
  clear H2_21 hS_21 ha_21 r1_21 r2_21 r3_21 r4_21 r5_21 r6_21 r7_21 r8_21 r9_21 oC_21 zc_21 r10_21
  refine k_dup hg hy rfl (by decide +kernel) ?_
  refine k_iconst (z := 1) (v := (1 : Int32)) hg hy (by decide) (by decide +kernel) ?_
  refine k_bipush (z := 108) (v := (108 : Int32)) hg hy (by decide) (by decide +kernel) ?_
  show KW x _ _ _ _ 105 _ _
  refine k_iastk (k := 1) hg hy hwG (by decide +kernel) r10_22 (by unfold vp_in; decide) (by decide) (show G.2.2.1 ≤ (b + 9) by omega) hS_22 (fun H2_23 locs2_23 c2 z2 o2 hS_23 => ?_)
  have ha_23 := ha_22.kept (o2 _ (by omega))
  have r1_23 := r1_22.kept (o2 _ (by omega))
  have r2_23 := r2_22.kept (o2 _ (by omega))
  have r3_23 := r3_22.kept (o2 _ (by omega))
  have r4_23 := r4_22.kept (o2 _ (by omega))
  have r5_23 := r5_22.kept (o2 _ (by omega))
  have r6_23 := r6_22.kept (o2 _ (by omega))
  have r7_23 := r7_22.kept (o2 _ (by omega))
  have r8_23 := r8_22.kept (o2 _ (by omega))
  have r9_23 := r9_22.kept (o2 _ (by omega))
  have r10_23 : cI G 0 (b + 9) 53 (lstI [112, 108]) H2_23 := c2.snoc (L := [112]) rfl
  have oC_23 : ∀ q : Nat, q < b → q ≠ a → H2_23[q]? = (wS x).heap[q]? := fun q h1 h2 => (o2 q (by omega)).trans (oC_22 q h1 h2)
  have zc_23 : H2_23.size = b + 10 := z2.trans zc_22
  clear c2 z2 o2
  clear H2_22 hS_22 ha_22 r1_22 r2_22 r3_22 r4_22 r5_22 r6_22 r7_22 r8_22 r9_22 r10_22 oC_22 zc_22
  refine k_dup hg hy rfl (by decide +kernel) ?_
  refine k_iconst (z := 2) (v := (2 : Int32)) hg hy (by decide) (by decide +kernel) ?_
  refine k_bipush (z := 101) (v := (101 : Int32)) hg hy (by decide) (by decide +kernel) ?_
  show KW x _ _ _ _ 110 _ _
  refine k_iastk (k := 2) hg hy hwG (by decide +kernel) r10_23 (by unfold vp_in; decide) (by decide) (show G.2.2.1 ≤ (b + 9) by omega) hS_23 (fun H2_24 locs2_24 c2 z2 o2 hS_24 => ?_)
  have ha_24 := ha_23.kept (o2 _ (by omega))
  have r1_24 := r1_23.kept (o2 _ (by omega))
  have r2_24 := r2_23.kept (o2 _ (by omega))
  have r3_24 := r3_23.kept (o2 _ (by omega))
  have r4_24 := r4_23.kept (o2 _ (by omega))
  have r5_24 := r5_23.kept (o2 _ (by omega))
  have r6_24 := r6_23.kept (o2 _ (by omega))
  have r7_24 := r7_23.kept (o2 _ (by omega))
  have r8_24 := r8_23.kept (o2 _ (by omega))
  have r9_24 := r9_23.kept (o2 _ (by omega))
  have r10_24 : cI G 0 (b + 9) 53 (lstI [112, 108, 101]) H2_24 := c2.snoc (L := [112, 108]) rfl
  have oC_24 : ∀ q : Nat, q < b → q ≠ a → H2_24[q]? = (wS x).heap[q]? := fun q h1 h2 => (o2 q (by omega)).trans (oC_23 q h1 h2)
  have zc_24 : H2_24.size = b + 10 := z2.trans zc_23
  clear c2 z2 o2
  clear H2_23 hS_23 ha_23 r1_23 r2_23 r3_23 r4_23 r5_23 r6_23 r7_23 r8_23 r9_23 r10_23 oC_23 zc_23
  refine k_dup hg hy rfl (by decide +kernel) ?_
  refine k_iconst (z := 3) (v := (3 : Int32)) hg hy (by decide) (by decide +kernel) ?_
  refine k_bipush (z := 100) (v := (100 : Int32)) hg hy (by decide) (by decide +kernel) ?_
  show KW x _ _ _ _ 115 _ _
  refine k_iastk (k := 3) hg hy hwG (by decide +kernel) r10_24 (by unfold vp_in; decide) (by decide) (show G.2.2.1 ≤ (b + 9) by omega) hS_24 (fun H2_25 locs2_25 c2 z2 o2 hS_25 => ?_)
  have ha_25 := ha_24.kept (o2 _ (by omega))
  have r1_25 := r1_24.kept (o2 _ (by omega))
  have r2_25 := r2_24.kept (o2 _ (by omega))
  have r3_25 := r3_24.kept (o2 _ (by omega))
  have r4_25 := r4_24.kept (o2 _ (by omega))
  have r5_25 := r5_24.kept (o2 _ (by omega))
  have r6_25 := r6_24.kept (o2 _ (by omega))
  have r7_25 := r7_24.kept (o2 _ (by omega))
  have r8_25 := r8_24.kept (o2 _ (by omega))
  have r9_25 := r9_24.kept (o2 _ (by omega))
  have r10_25 : cI G 0 (b + 9) 53 (lstI [112, 108, 101, 100]) H2_25 := c2.snoc (L := [112, 108, 101]) rfl
  have oC_25 : ∀ q : Nat, q < b → q ≠ a → H2_25[q]? = (wS x).heap[q]? := fun q h1 h2 => (o2 q (by omega)).trans (oC_24 q h1 h2)
  have zc_25 : H2_25.size = b + 10 := z2.trans zc_24
  clear c2 z2 o2
  clear H2_24 hS_24 ha_24 r1_24 r2_24 r3_24 r4_24 r5_24 r6_24 r7_24 r8_24 r9_24 r10_24 oC_24 zc_24
  refine k_dup hg hy rfl (by decide +kernel) ?_
  refine k_iconst (z := 4) (v := (4 : Int32)) hg hy (by decide) (by decide +kernel) ?_
  refine k_bipush (z := 103) (v := (103 : Int32)) hg hy (by decide) (by decide +kernel) ?_
  show KW x _ _ _ _ 120 _ _
  refine k_iastk (k := 4) hg hy hwG (by decide +kernel) r10_25 (by unfold vp_in; decide) (by decide) (show G.2.2.1 ≤ (b + 9) by omega) hS_25 (fun H2_26 locs2_26 c2 z2 o2 hS_26 => ?_)
  have ha_26 := ha_25.kept (o2 _ (by omega))
  have r1_26 := r1_25.kept (o2 _ (by omega))
  have r2_26 := r2_25.kept (o2 _ (by omega))
  have r3_26 := r3_25.kept (o2 _ (by omega))
  have r4_26 := r4_25.kept (o2 _ (by omega))
  have r5_26 := r5_25.kept (o2 _ (by omega))
  have r6_26 := r6_25.kept (o2 _ (by omega))
  have r7_26 := r7_25.kept (o2 _ (by omega))
  have r8_26 := r8_25.kept (o2 _ (by omega))
  have r9_26 := r9_25.kept (o2 _ (by omega))
  have r10_26 : cI G 0 (b + 9) 53 (lstI [112, 108, 101, 100, 103]) H2_26 := c2.snoc (L := [112, 108, 101, 100]) rfl
  have oC_26 : ∀ q : Nat, q < b → q ≠ a → H2_26[q]? = (wS x).heap[q]? := fun q h1 h2 => (o2 q (by omega)).trans (oC_25 q h1 h2)
  have zc_26 : H2_26.size = b + 10 := z2.trans zc_25
  clear c2 z2 o2
  clear H2_25 hS_25 ha_25 r1_25 r2_25 r3_25 r4_25 r5_25 r6_25 r7_25 r8_25 r9_25 r10_25 oC_25 zc_25
  refine k_dup hg hy rfl (by decide +kernel) ?_
  refine k_iconst (z := 5) (v := (5 : Int32)) hg hy (by decide) (by decide +kernel) ?_
  refine k_bipush (z := 101) (v := (101 : Int32)) hg hy (by decide) (by decide +kernel) ?_
  show KW x _ _ _ _ 125 _ _
  refine k_iastk (k := 5) hg hy hwG (by decide +kernel) r10_26 (by unfold vp_in; decide) (by decide) (show G.2.2.1 ≤ (b + 9) by omega) hS_26 (fun H2_27 locs2_27 c2 z2 o2 hS_27 => ?_)
  have ha_27 := ha_26.kept (o2 _ (by omega))
  have r1_27 := r1_26.kept (o2 _ (by omega))
  have r2_27 := r2_26.kept (o2 _ (by omega))
  have r3_27 := r3_26.kept (o2 _ (by omega))
  have r4_27 := r4_26.kept (o2 _ (by omega))
  have r5_27 := r5_26.kept (o2 _ (by omega))
  have r6_27 := r6_26.kept (o2 _ (by omega))
  have r7_27 := r7_26.kept (o2 _ (by omega))
  have r8_27 := r8_26.kept (o2 _ (by omega))
  have r9_27 := r9_26.kept (o2 _ (by omega))
  have r10_27 : cI G 0 (b + 9) 53 (lstI [112, 108, 101, 100, 103, 101]) H2_27 := c2.snoc (L := [112, 108, 101, 100, 103]) rfl
  have oC_27 : ∀ q : Nat, q < b → q ≠ a → H2_27[q]? = (wS x).heap[q]? := fun q h1 h2 => (o2 q (by omega)).trans (oC_26 q h1 h2)
  have zc_27 : H2_27.size = b + 10 := z2.trans zc_26
  clear c2 z2 o2
  clear H2_26 hS_26 ha_26 r1_26 r2_26 r3_26 r4_26 r5_26 r6_26 r7_26 r8_26 r9_26 r10_26 oC_26 zc_26
  refine k_dup hg hy rfl (by decide +kernel) ?_
  refine k_bipush (z := 6) (v := (6 : Int32)) hg hy (by decide) (by decide +kernel) ?_
  refine k_bipush (z := 32) (v := (32 : Int32)) hg hy (by decide) (by decide +kernel) ?_
  show KW x _ _ _ _ 131 _ _
  refine k_iastk (k := 6) hg hy hwG (by decide +kernel) r10_27 (by unfold vp_in; decide) (by decide) (show G.2.2.1 ≤ (b + 9) by omega) hS_27 (fun H2_28 locs2_28 c2 z2 o2 hS_28 => ?_)
  have ha_28 := ha_27.kept (o2 _ (by omega))
  have r1_28 := r1_27.kept (o2 _ (by omega))
  have r2_28 := r2_27.kept (o2 _ (by omega))
  have r3_28 := r3_27.kept (o2 _ (by omega))
  have r4_28 := r4_27.kept (o2 _ (by omega))
  have r5_28 := r5_27.kept (o2 _ (by omega))
  have r6_28 := r6_27.kept (o2 _ (by omega))
  have r7_28 := r7_27.kept (o2 _ (by omega))
  have r8_28 := r8_27.kept (o2 _ (by omega))
  have r9_28 := r9_27.kept (o2 _ (by omega))
  have r10_28 : cI G 0 (b + 9) 53 (lstI [112, 108, 101, 100, 103, 101, 32]) H2_28 := c2.snoc (L := [112, 108, 101, 100, 103, 101]) rfl
  have oC_28 : ∀ q : Nat, q < b → q ≠ a → H2_28[q]? = (wS x).heap[q]? := fun q h1 h2 => (o2 q (by omega)).trans (oC_27 q h1 h2)
  have zc_28 : H2_28.size = b + 10 := z2.trans zc_27
  clear c2 z2 o2
  clear H2_27 hS_27 ha_27 r1_27 r2_27 r3_27 r4_27 r5_27 r6_27 r7_27 r8_27 r9_27 r10_27 oC_27 zc_27
  refine k_dup hg hy rfl (by decide +kernel) ?_
  refine k_bipush (z := 7) (v := (7 : Int32)) hg hy (by decide) (by decide +kernel) ?_
  refine k_bipush (z := 114) (v := (114 : Int32)) hg hy (by decide) (by decide +kernel) ?_
  show KW x _ _ _ _ 137 _ _
  refine k_iastk (k := 7) hg hy hwG (by decide +kernel) r10_28 (by unfold vp_in; decide) (by decide) (show G.2.2.1 ≤ (b + 9) by omega) hS_28 (fun H2_29 locs2_29 c2 z2 o2 hS_29 => ?_)
  have ha_29 := ha_28.kept (o2 _ (by omega))
  have r1_29 := r1_28.kept (o2 _ (by omega))
  have r2_29 := r2_28.kept (o2 _ (by omega))
  have r3_29 := r3_28.kept (o2 _ (by omega))
  have r4_29 := r4_28.kept (o2 _ (by omega))
  have r5_29 := r5_28.kept (o2 _ (by omega))
  have r6_29 := r6_28.kept (o2 _ (by omega))
  have r7_29 := r7_28.kept (o2 _ (by omega))
  have r8_29 := r8_28.kept (o2 _ (by omega))
  have r9_29 := r9_28.kept (o2 _ (by omega))
  have r10_29 : cI G 0 (b + 9) 53 (lstI [112, 108, 101, 100, 103, 101, 32, 114]) H2_29 := c2.snoc (L := [112, 108, 101, 100, 103, 101, 32]) rfl
  have oC_29 : ∀ q : Nat, q < b → q ≠ a → H2_29[q]? = (wS x).heap[q]? := fun q h1 h2 => (o2 q (by omega)).trans (oC_28 q h1 h2)
  have zc_29 : H2_29.size = b + 10 := z2.trans zc_28
  clear c2 z2 o2
  clear H2_28 hS_28 ha_28 r1_28 r2_28 r3_28 r4_28 r5_28 r6_28 r7_28 r8_28 r9_28 r10_28 oC_28 zc_28
  refine k_dup hg hy rfl (by decide +kernel) ?_
  refine k_bipush (z := 8) (v := (8 : Int32)) hg hy (by decide) (by decide +kernel) ?_
  refine k_bipush (z := 101) (v := (101 : Int32)) hg hy (by decide) (by decide +kernel) ?_
  show KW x _ _ _ _ 143 _ _
  refine k_iastk (k := 8) hg hy hwG (by decide +kernel) r10_29 (by unfold vp_in; decide) (by decide) (show G.2.2.1 ≤ (b + 9) by omega) hS_29 (fun H2_30 locs2_30 c2 z2 o2 hS_30 => ?_)
  have ha_30 := ha_29.kept (o2 _ (by omega))
  have r1_30 := r1_29.kept (o2 _ (by omega))
  have r2_30 := r2_29.kept (o2 _ (by omega))
  have r3_30 := r3_29.kept (o2 _ (by omega))
  have r4_30 := r4_29.kept (o2 _ (by omega))
  have r5_30 := r5_29.kept (o2 _ (by omega))
  have r6_30 := r6_29.kept (o2 _ (by omega))
  have r7_30 := r7_29.kept (o2 _ (by omega))
  have r8_30 := r8_29.kept (o2 _ (by omega))
  have r9_30 := r9_29.kept (o2 _ (by omega))
  have r10_30 : cI G 0 (b + 9) 53 (lstI [112, 108, 101, 100, 103, 101, 32, 114, 101]) H2_30 := c2.snoc (L := [112, 108, 101, 100, 103, 101, 32, 114]) rfl
  have oC_30 : ∀ q : Nat, q < b → q ≠ a → H2_30[q]? = (wS x).heap[q]? := fun q h1 h2 => (o2 q (by omega)).trans (oC_29 q h1 h2)
  have zc_30 : H2_30.size = b + 10 := z2.trans zc_29
  clear c2 z2 o2
  clear H2_29 hS_29 ha_29 r1_29 r2_29 r3_29 r4_29 r5_29 r6_29 r7_29 r8_29 r9_29 r10_29 oC_29 zc_29
  refine k_dup hg hy rfl (by decide +kernel) ?_
  refine k_bipush (z := 9) (v := (9 : Int32)) hg hy (by decide) (by decide +kernel) ?_
  refine k_bipush (z := 100) (v := (100 : Int32)) hg hy (by decide) (by decide +kernel) ?_
  show KW x _ _ _ _ 149 _ _
  refine k_iastk (k := 9) hg hy hwG (by decide +kernel) r10_30 (by unfold vp_in; decide) (by decide) (show G.2.2.1 ≤ (b + 9) by omega) hS_30 (fun H2_31 locs2_31 c2 z2 o2 hS_31 => ?_)
  have ha_31 := ha_30.kept (o2 _ (by omega))
  have r1_31 := r1_30.kept (o2 _ (by omega))
  have r2_31 := r2_30.kept (o2 _ (by omega))
  have r3_31 := r3_30.kept (o2 _ (by omega))
  have r4_31 := r4_30.kept (o2 _ (by omega))
  have r5_31 := r5_30.kept (o2 _ (by omega))
  have r6_31 := r6_30.kept (o2 _ (by omega))
  have r7_31 := r7_30.kept (o2 _ (by omega))
  have r8_31 := r8_30.kept (o2 _ (by omega))
  have r9_31 := r9_30.kept (o2 _ (by omega))
  have r10_31 : cI G 0 (b + 9) 53 (lstI [112, 108, 101, 100, 103, 101, 32, 114, 101, 100]) H2_31 := c2.snoc (L := [112, 108, 101, 100, 103, 101, 32, 114, 101]) rfl
  have oC_31 : ∀ q : Nat, q < b → q ≠ a → H2_31[q]? = (wS x).heap[q]? := fun q h1 h2 => (o2 q (by omega)).trans (oC_30 q h1 h2)
  have zc_31 : H2_31.size = b + 10 := z2.trans zc_30
  clear c2 z2 o2
  clear H2_30 hS_30 ha_30 r1_30 r2_30 r3_30 r4_30 r5_30 r6_30 r7_30 r8_30 r9_30 r10_30 oC_30 zc_30
  refine k_dup hg hy rfl (by decide +kernel) ?_
  refine k_bipush (z := 10) (v := (10 : Int32)) hg hy (by decide) (by decide +kernel) ?_
  refine k_bipush (z := 101) (v := (101 : Int32)) hg hy (by decide) (by decide +kernel) ?_
  show KW x _ _ _ _ 155 _ _
  refine k_iastk (k := 10) hg hy hwG (by decide +kernel) r10_31 (by unfold vp_in; decide) (by decide) (show G.2.2.1 ≤ (b + 9) by omega) hS_31 (fun H2_32 locs2_32 c2 z2 o2 hS_32 => ?_)
  have ha_32 := ha_31.kept (o2 _ (by omega))
  have r1_32 := r1_31.kept (o2 _ (by omega))
  have r2_32 := r2_31.kept (o2 _ (by omega))
  have r3_32 := r3_31.kept (o2 _ (by omega))
  have r4_32 := r4_31.kept (o2 _ (by omega))
  have r5_32 := r5_31.kept (o2 _ (by omega))
  have r6_32 := r6_31.kept (o2 _ (by omega))
  have r7_32 := r7_31.kept (o2 _ (by omega))
  have r8_32 := r8_31.kept (o2 _ (by omega))
  have r9_32 := r9_31.kept (o2 _ (by omega))
  have r10_32 : cI G 0 (b + 9) 53 (lstI [112, 108, 101, 100, 103, 101, 32, 114, 101, 100, 101]) H2_32 := c2.snoc (L := [112, 108, 101, 100, 103, 101, 32, 114, 101, 100]) rfl
  have oC_32 : ∀ q : Nat, q < b → q ≠ a → H2_32[q]? = (wS x).heap[q]? := fun q h1 h2 => (o2 q (by omega)).trans (oC_31 q h1 h2)
  have zc_32 : H2_32.size = b + 10 := z2.trans zc_31
  clear c2 z2 o2
  clear H2_31 hS_31 ha_31 r1_31 r2_31 r3_31 r4_31 r5_31 r6_31 r7_31 r8_31 r9_31 r10_31 oC_31 zc_31
  refine k_dup hg hy rfl (by decide +kernel) ?_
  refine k_bipush (z := 11) (v := (11 : Int32)) hg hy (by decide) (by decide +kernel) ?_
  refine k_bipush (z := 101) (v := (101 : Int32)) hg hy (by decide) (by decide +kernel) ?_
  show KW x _ _ _ _ 161 _ _
  refine k_iastk (k := 11) hg hy hwG (by decide +kernel) r10_32 (by unfold vp_in; decide) (by decide) (show G.2.2.1 ≤ (b + 9) by omega) hS_32 (fun H2_33 locs2_33 c2 z2 o2 hS_33 => ?_)
  have ha_33 := ha_32.kept (o2 _ (by omega))
  have r1_33 := r1_32.kept (o2 _ (by omega))
  have r2_33 := r2_32.kept (o2 _ (by omega))
  have r3_33 := r3_32.kept (o2 _ (by omega))
  have r4_33 := r4_32.kept (o2 _ (by omega))
  have r5_33 := r5_32.kept (o2 _ (by omega))
  have r6_33 := r6_32.kept (o2 _ (by omega))
  have r7_33 := r7_32.kept (o2 _ (by omega))
  have r8_33 := r8_32.kept (o2 _ (by omega))
  have r9_33 := r9_32.kept (o2 _ (by omega))
  have r10_33 : cI G 0 (b + 9) 53 (lstI [112, 108, 101, 100, 103, 101, 32, 114, 101, 100, 101, 101]) H2_33 := c2.snoc (L := [112, 108, 101, 100, 103, 101, 32, 114, 101, 100, 101]) rfl
  have oC_33 : ∀ q : Nat, q < b → q ≠ a → H2_33[q]? = (wS x).heap[q]? := fun q h1 h2 => (o2 q (by omega)).trans (oC_32 q h1 h2)
  have zc_33 : H2_33.size = b + 10 := z2.trans zc_32
  clear c2 z2 o2
  clear H2_32 hS_32 ha_32 r1_32 r2_32 r3_32 r4_32 r5_32 r6_32 r7_32 r8_32 r9_32 r10_32 oC_32 zc_32
  refine k_dup hg hy rfl (by decide +kernel) ?_
  refine k_bipush (z := 12) (v := (12 : Int32)) hg hy (by decide) (by decide +kernel) ?_
  refine k_bipush (z := 109) (v := (109 : Int32)) hg hy (by decide) (by decide +kernel) ?_
  show KW x _ _ _ _ 167 _ _
  refine k_iastk (k := 12) hg hy hwG (by decide +kernel) r10_33 (by unfold vp_in; decide) (by decide) (show G.2.2.1 ≤ (b + 9) by omega) hS_33 (fun H2_34 locs2_34 c2 z2 o2 hS_34 => ?_)
  have ha_34 := ha_33.kept (o2 _ (by omega))
  have r1_34 := r1_33.kept (o2 _ (by omega))
  have r2_34 := r2_33.kept (o2 _ (by omega))
  have r3_34 := r3_33.kept (o2 _ (by omega))
  have r4_34 := r4_33.kept (o2 _ (by omega))
  have r5_34 := r5_33.kept (o2 _ (by omega))
  have r6_34 := r6_33.kept (o2 _ (by omega))
  have r7_34 := r7_33.kept (o2 _ (by omega))
  have r8_34 := r8_33.kept (o2 _ (by omega))
  have r9_34 := r9_33.kept (o2 _ (by omega))
  have r10_34 : cI G 0 (b + 9) 53 (lstI [112, 108, 101, 100, 103, 101, 32, 114, 101, 100, 101, 101, 109]) H2_34 := c2.snoc (L := [112, 108, 101, 100, 103, 101, 32, 114, 101, 100, 101, 101]) rfl
  have oC_34 : ∀ q : Nat, q < b → q ≠ a → H2_34[q]? = (wS x).heap[q]? := fun q h1 h2 => (o2 q (by omega)).trans (oC_33 q h1 h2)
  have zc_34 : H2_34.size = b + 10 := z2.trans zc_33
  clear c2 z2 o2
  clear H2_33 hS_33 ha_33 r1_33 r2_33 r3_33 r4_33 r5_33 r6_33 r7_33 r8_33 r9_33 r10_33 oC_33 zc_33
  refine k_dup hg hy rfl (by decide +kernel) ?_
  refine k_bipush (z := 13) (v := (13 : Int32)) hg hy (by decide) (by decide +kernel) ?_
  refine k_bipush (z := 32) (v := (32 : Int32)) hg hy (by decide) (by decide +kernel) ?_
  show KW x _ _ _ _ 173 _ _
  refine k_iastk (k := 13) hg hy hwG (by decide +kernel) r10_34 (by unfold vp_in; decide) (by decide) (show G.2.2.1 ≤ (b + 9) by omega) hS_34 (fun H2_35 locs2_35 c2 z2 o2 hS_35 => ?_)
  have ha_35 := ha_34.kept (o2 _ (by omega))
  have r1_35 := r1_34.kept (o2 _ (by omega))
  have r2_35 := r2_34.kept (o2 _ (by omega))
  have r3_35 := r3_34.kept (o2 _ (by omega))
  have r4_35 := r4_34.kept (o2 _ (by omega))
  have r5_35 := r5_34.kept (o2 _ (by omega))
  have r6_35 := r6_34.kept (o2 _ (by omega))
  have r7_35 := r7_34.kept (o2 _ (by omega))
  have r8_35 := r8_34.kept (o2 _ (by omega))
  have r9_35 := r9_34.kept (o2 _ (by omega))
  have r10_35 : cI G 0 (b + 9) 53 (lstI [112, 108, 101, 100, 103, 101, 32, 114, 101, 100, 101, 101, 109, 32]) H2_35 := c2.snoc (L := [112, 108, 101, 100, 103, 101, 32, 114, 101, 100, 101, 101, 109]) rfl
  have oC_35 : ∀ q : Nat, q < b → q ≠ a → H2_35[q]? = (wS x).heap[q]? := fun q h1 h2 => (o2 q (by omega)).trans (oC_34 q h1 h2)
  have zc_35 : H2_35.size = b + 10 := z2.trans zc_34
  clear c2 z2 o2
  clear H2_34 hS_34 ha_34 r1_34 r2_34 r3_34 r4_34 r5_34 r6_34 r7_34 r8_34 r9_34 r10_34 oC_34 zc_34
  refine k_dup hg hy rfl (by decide +kernel) ?_
  refine k_bipush (z := 14) (v := (14 : Int32)) hg hy (by decide) (by decide +kernel) ?_
  refine k_bipush (z := 101) (v := (101 : Int32)) hg hy (by decide) (by decide +kernel) ?_
  show KW x _ _ _ _ 179 _ _
  refine k_iastk (k := 14) hg hy hwG (by decide +kernel) r10_35 (by unfold vp_in; decide) (by decide) (show G.2.2.1 ≤ (b + 9) by omega) hS_35 (fun H2_36 locs2_36 c2 z2 o2 hS_36 => ?_)
  have ha_36 := ha_35.kept (o2 _ (by omega))
  have r1_36 := r1_35.kept (o2 _ (by omega))
  have r2_36 := r2_35.kept (o2 _ (by omega))
  have r3_36 := r3_35.kept (o2 _ (by omega))
  have r4_36 := r4_35.kept (o2 _ (by omega))
  have r5_36 := r5_35.kept (o2 _ (by omega))
  have r6_36 := r6_35.kept (o2 _ (by omega))
  have r7_36 := r7_35.kept (o2 _ (by omega))
  have r8_36 := r8_35.kept (o2 _ (by omega))
  have r9_36 := r9_35.kept (o2 _ (by omega))
  have r10_36 : cI G 0 (b + 9) 53 (lstI [112, 108, 101, 100, 103, 101, 32, 114, 101, 100, 101, 101, 109, 32, 101]) H2_36 := c2.snoc (L := [112, 108, 101, 100, 103, 101, 32, 114, 101, 100, 101, 101, 109, 32]) rfl
  have oC_36 : ∀ q : Nat, q < b → q ≠ a → H2_36[q]? = (wS x).heap[q]? := fun q h1 h2 => (o2 q (by omega)).trans (oC_35 q h1 h2)
  have zc_36 : H2_36.size = b + 10 := z2.trans zc_35
  clear c2 z2 o2
  clear H2_35 hS_35 ha_35 r1_35 r2_35 r3_35 r4_35 r5_35 r6_35 r7_35 r8_35 r9_35 r10_35 oC_35 zc_35
  refine k_dup hg hy rfl (by decide +kernel) ?_
  refine k_bipush (z := 15) (v := (15 : Int32)) hg hy (by decide) (by decide +kernel) ?_
  refine k_bipush (z := 120) (v := (120 : Int32)) hg hy (by decide) (by decide +kernel) ?_
  show KW x _ _ _ _ 185 _ _
  refine k_iastk (k := 15) hg hy hwG (by decide +kernel) r10_36 (by unfold vp_in; decide) (by decide) (show G.2.2.1 ≤ (b + 9) by omega) hS_36 (fun H2_37 locs2_37 c2 z2 o2 hS_37 => ?_)
  have ha_37 := ha_36.kept (o2 _ (by omega))
  have r1_37 := r1_36.kept (o2 _ (by omega))
  have r2_37 := r2_36.kept (o2 _ (by omega))
  have r3_37 := r3_36.kept (o2 _ (by omega))
  have r4_37 := r4_36.kept (o2 _ (by omega))
  have r5_37 := r5_36.kept (o2 _ (by omega))
  have r6_37 := r6_36.kept (o2 _ (by omega))
  have r7_37 := r7_36.kept (o2 _ (by omega))
  have r8_37 := r8_36.kept (o2 _ (by omega))
  have r9_37 := r9_36.kept (o2 _ (by omega))
  have r10_37 : cI G 0 (b + 9) 53 (lstI [112, 108, 101, 100, 103, 101, 32, 114, 101, 100, 101, 101, 109, 32, 101, 120]) H2_37 := c2.snoc (L := [112, 108, 101, 100, 103, 101, 32, 114, 101, 100, 101, 101, 109, 32, 101]) rfl
  have oC_37 : ∀ q : Nat, q < b → q ≠ a → H2_37[q]? = (wS x).heap[q]? := fun q h1 h2 => (o2 q (by omega)).trans (oC_36 q h1 h2)
  have zc_37 : H2_37.size = b + 10 := z2.trans zc_36
  clear c2 z2 o2
  clear H2_36 hS_36 ha_36 r1_36 r2_36 r3_36 r4_36 r5_36 r6_36 r7_36 r8_36 r9_36 r10_36 oC_36 zc_36
  refine k_dup hg hy rfl (by decide +kernel) ?_
  refine k_bipush (z := 16) (v := (16 : Int32)) hg hy (by decide) (by decide +kernel) ?_
  refine k_bipush (z := 116) (v := (116 : Int32)) hg hy (by decide) (by decide +kernel) ?_
  show KW x _ _ _ _ 191 _ _
  refine k_iastk (k := 16) hg hy hwG (by decide +kernel) r10_37 (by unfold vp_in; decide) (by decide) (show G.2.2.1 ≤ (b + 9) by omega) hS_37 (fun H2_38 locs2_38 c2 z2 o2 hS_38 => ?_)
  have ha_38 := ha_37.kept (o2 _ (by omega))
  have r1_38 := r1_37.kept (o2 _ (by omega))
  have r2_38 := r2_37.kept (o2 _ (by omega))
  have r3_38 := r3_37.kept (o2 _ (by omega))
  have r4_38 := r4_37.kept (o2 _ (by omega))
  have r5_38 := r5_37.kept (o2 _ (by omega))
  have r6_38 := r6_37.kept (o2 _ (by omega))
  have r7_38 := r7_37.kept (o2 _ (by omega))
  have r8_38 := r8_37.kept (o2 _ (by omega))
  have r9_38 := r9_37.kept (o2 _ (by omega))
  have r10_38 : cI G 0 (b + 9) 53 (lstI [112, 108, 101, 100, 103, 101, 32, 114, 101, 100, 101, 101, 109, 32, 101, 120, 116]) H2_38 := c2.snoc (L := [112, 108, 101, 100, 103, 101, 32, 114, 101, 100, 101, 101, 109, 32, 101, 120]) rfl
  have oC_38 : ∀ q : Nat, q < b → q ≠ a → H2_38[q]? = (wS x).heap[q]? := fun q h1 h2 => (o2 q (by omega)).trans (oC_37 q h1 h2)
  have zc_38 : H2_38.size = b + 10 := z2.trans zc_37
  clear c2 z2 o2
  clear H2_37 hS_37 ha_37 r1_37 r2_37 r3_37 r4_37 r5_37 r6_37 r7_37 r8_37 r9_37 r10_37 oC_37 zc_37
  refine k_dup hg hy rfl (by decide +kernel) ?_
  refine k_bipush (z := 17) (v := (17 : Int32)) hg hy (by decide) (by decide +kernel) ?_
  refine k_bipush (z := 101) (v := (101 : Int32)) hg hy (by decide) (by decide +kernel) ?_
  show KW x _ _ _ _ 197 _ _
  refine k_iastk (k := 17) hg hy hwG (by decide +kernel) r10_38 (by unfold vp_in; decide) (by decide) (show G.2.2.1 ≤ (b + 9) by omega) hS_38 (fun H2_39 locs2_39 c2 z2 o2 hS_39 => ?_)
  have ha_39 := ha_38.kept (o2 _ (by omega))
  have r1_39 := r1_38.kept (o2 _ (by omega))
  have r2_39 := r2_38.kept (o2 _ (by omega))
  have r3_39 := r3_38.kept (o2 _ (by omega))
  have r4_39 := r4_38.kept (o2 _ (by omega))
  have r5_39 := r5_38.kept (o2 _ (by omega))
  have r6_39 := r6_38.kept (o2 _ (by omega))
  have r7_39 := r7_38.kept (o2 _ (by omega))
  have r8_39 := r8_38.kept (o2 _ (by omega))
  have r9_39 := r9_38.kept (o2 _ (by omega))
  have r10_39 : cI G 0 (b + 9) 53 (lstI [112, 108, 101, 100, 103, 101, 32, 114, 101, 100, 101, 101, 109, 32, 101, 120, 116, 101]) H2_39 := c2.snoc (L := [112, 108, 101, 100, 103, 101, 32, 114, 101, 100, 101, 101, 109, 32, 101, 120, 116]) rfl
  have oC_39 : ∀ q : Nat, q < b → q ≠ a → H2_39[q]? = (wS x).heap[q]? := fun q h1 h2 => (o2 q (by omega)).trans (oC_38 q h1 h2)
  have zc_39 : H2_39.size = b + 10 := z2.trans zc_38
  clear c2 z2 o2
  clear H2_38 hS_38 ha_38 r1_38 r2_38 r3_38 r4_38 r5_38 r6_38 r7_38 r8_38 r9_38 r10_38 oC_38 zc_38
  refine k_dup hg hy rfl (by decide +kernel) ?_
  refine k_bipush (z := 18) (v := (18 : Int32)) hg hy (by decide) (by decide +kernel) ?_
  refine k_bipush (z := 110) (v := (110 : Int32)) hg hy (by decide) (by decide +kernel) ?_
  show KW x _ _ _ _ 203 _ _
  refine k_iastk (k := 18) hg hy hwG (by decide +kernel) r10_39 (by unfold vp_in; decide) (by decide) (show G.2.2.1 ≤ (b + 9) by omega) hS_39 (fun H2_40 locs2_40 c2 z2 o2 hS_40 => ?_)
  have ha_40 := ha_39.kept (o2 _ (by omega))
  have r1_40 := r1_39.kept (o2 _ (by omega))
  have r2_40 := r2_39.kept (o2 _ (by omega))
  have r3_40 := r3_39.kept (o2 _ (by omega))
  have r4_40 := r4_39.kept (o2 _ (by omega))
  have r5_40 := r5_39.kept (o2 _ (by omega))
  have r6_40 := r6_39.kept (o2 _ (by omega))
  have r7_40 := r7_39.kept (o2 _ (by omega))
  have r8_40 := r8_39.kept (o2 _ (by omega))
  have r9_40 := r9_39.kept (o2 _ (by omega))
  have r10_40 : cI G 0 (b + 9) 53 (lstI [112, 108, 101, 100, 103, 101, 32, 114, 101, 100, 101, 101, 109, 32, 101, 120, 116, 101, 110]) H2_40 := c2.snoc (L := [112, 108, 101, 100, 103, 101, 32, 114, 101, 100, 101, 101, 109, 32, 101, 120, 116, 101]) rfl
  have oC_40 : ∀ q : Nat, q < b → q ≠ a → H2_40[q]? = (wS x).heap[q]? := fun q h1 h2 => (o2 q (by omega)).trans (oC_39 q h1 h2)
  have zc_40 : H2_40.size = b + 10 := z2.trans zc_39
  clear c2 z2 o2
  clear H2_39 hS_39 ha_39 r1_39 r2_39 r3_39 r4_39 r5_39 r6_39 r7_39 r8_39 r9_39 r10_39 oC_39 zc_39
  refine k_dup hg hy rfl (by decide +kernel) ?_
  refine k_bipush (z := 19) (v := (19 : Int32)) hg hy (by decide) (by decide +kernel) ?_
  refine k_bipush (z := 100) (v := (100 : Int32)) hg hy (by decide) (by decide +kernel) ?_
  show KW x _ _ _ _ 209 _ _
  refine k_iastk (k := 19) hg hy hwG (by decide +kernel) r10_40 (by unfold vp_in; decide) (by decide) (show G.2.2.1 ≤ (b + 9) by omega) hS_40 (fun H2_41 locs2_41 c2 z2 o2 hS_41 => ?_)
  have ha_41 := ha_40.kept (o2 _ (by omega))
  have r1_41 := r1_40.kept (o2 _ (by omega))
  have r2_41 := r2_40.kept (o2 _ (by omega))
  have r3_41 := r3_40.kept (o2 _ (by omega))
  have r4_41 := r4_40.kept (o2 _ (by omega))
  have r5_41 := r5_40.kept (o2 _ (by omega))
  have r6_41 := r6_40.kept (o2 _ (by omega))
  have r7_41 := r7_40.kept (o2 _ (by omega))
  have r8_41 := r8_40.kept (o2 _ (by omega))
  have r9_41 := r9_40.kept (o2 _ (by omega))
  have r10_41 : cI G 0 (b + 9) 53 (lstI [112, 108, 101, 100, 103, 101, 32, 114, 101, 100, 101, 101, 109, 32, 101, 120, 116, 101, 110, 100]) H2_41 := c2.snoc (L := [112, 108, 101, 100, 103, 101, 32, 114, 101, 100, 101, 101, 109, 32, 101, 120, 116, 101, 110]) rfl
  have oC_41 : ∀ q : Nat, q < b → q ≠ a → H2_41[q]? = (wS x).heap[q]? := fun q h1 h2 => (o2 q (by omega)).trans (oC_40 q h1 h2)
  have zc_41 : H2_41.size = b + 10 := z2.trans zc_40
  clear c2 z2 o2
  clear H2_40 hS_40 ha_40 r1_40 r2_40 r3_40 r4_40 r5_40 r6_40 r7_40 r8_40 r9_40 r10_40 oC_40 zc_40
  refine k_dup hg hy rfl (by decide +kernel) ?_
  refine k_bipush (z := 20) (v := (20 : Int32)) hg hy (by decide) (by decide +kernel) ?_
  refine k_bipush (z := 32) (v := (32 : Int32)) hg hy (by decide) (by decide +kernel) ?_
  show KW x _ _ _ _ 215 _ _
  refine k_iastk (k := 20) hg hy hwG (by decide +kernel) r10_41 (by unfold vp_in; decide) (by decide) (show G.2.2.1 ≤ (b + 9) by omega) hS_41 (fun H2_42 locs2_42 c2 z2 o2 hS_42 => ?_)
  have ha_42 := ha_41.kept (o2 _ (by omega))
  have r1_42 := r1_41.kept (o2 _ (by omega))
  have r2_42 := r2_41.kept (o2 _ (by omega))
  have r3_42 := r3_41.kept (o2 _ (by omega))
  have r4_42 := r4_41.kept (o2 _ (by omega))
  have r5_42 := r5_41.kept (o2 _ (by omega))
  have r6_42 := r6_41.kept (o2 _ (by omega))
  have r7_42 := r7_41.kept (o2 _ (by omega))
  have r8_42 := r8_41.kept (o2 _ (by omega))
  have r9_42 := r9_41.kept (o2 _ (by omega))
  have r10_42 : cI G 0 (b + 9) 53 (lstI [112, 108, 101, 100, 103, 101, 32, 114, 101, 100, 101, 101, 109, 32, 101, 120, 116, 101, 110, 100, 32]) H2_42 := c2.snoc (L := [112, 108, 101, 100, 103, 101, 32, 114, 101, 100, 101, 101, 109, 32, 101, 120, 116, 101, 110, 100]) rfl
  have oC_42 : ∀ q : Nat, q < b → q ≠ a → H2_42[q]? = (wS x).heap[q]? := fun q h1 h2 => (o2 q (by omega)).trans (oC_41 q h1 h2)
  have zc_42 : H2_42.size = b + 10 := z2.trans zc_41
  clear c2 z2 o2
  clear H2_41 hS_41 ha_41 r1_41 r2_41 r3_41 r4_41 r5_41 r6_41 r7_41 r8_41 r9_41 r10_41 oC_41 zc_41
  refine k_dup hg hy rfl (by decide +kernel) ?_
  refine k_bipush (z := 21) (v := (21 : Int32)) hg hy (by decide) (by decide +kernel) ?_
  refine k_bipush (z := 100) (v := (100 : Int32)) hg hy (by decide) (by decide +kernel) ?_
  show KW x _ _ _ _ 221 _ _
  refine k_iastk (k := 21) hg hy hwG (by decide +kernel) r10_42 (by unfold vp_in; decide) (by decide) (show G.2.2.1 ≤ (b + 9) by omega) hS_42 (fun H2_43 locs2_43 c2 z2 o2 hS_43 => ?_)
  have ha_43 := ha_42.kept (o2 _ (by omega))
  have r1_43 := r1_42.kept (o2 _ (by omega))
  have r2_43 := r2_42.kept (o2 _ (by omega))
  have r3_43 := r3_42.kept (o2 _ (by omega))
  have r4_43 := r4_42.kept (o2 _ (by omega))
  have r5_43 := r5_42.kept (o2 _ (by omega))
  have r6_43 := r6_42.kept (o2 _ (by omega))
  have r7_43 := r7_42.kept (o2 _ (by omega))
  have r8_43 := r8_42.kept (o2 _ (by omega))
  have r9_43 := r9_42.kept (o2 _ (by omega))
  have r10_43 : cI G 0 (b + 9) 53 (lstI [112, 108, 101, 100, 103, 101, 32, 114, 101, 100, 101, 101, 109, 32, 101, 120, 116, 101, 110, 100, 32, 100]) H2_43 := c2.snoc (L := [112, 108, 101, 100, 103, 101, 32, 114, 101, 100, 101, 101, 109, 32, 101, 120, 116, 101, 110, 100, 32]) rfl
  have oC_43 : ∀ q : Nat, q < b → q ≠ a → H2_43[q]? = (wS x).heap[q]? := fun q h1 h2 => (o2 q (by omega)).trans (oC_42 q h1 h2)
  have zc_43 : H2_43.size = b + 10 := z2.trans zc_42
  clear c2 z2 o2
  clear H2_42 hS_42 ha_42 r1_42 r2_42 r3_42 r4_42 r5_42 r6_42 r7_42 r8_42 r9_42 r10_42 oC_42 zc_42
  refine k_dup hg hy rfl (by decide +kernel) ?_
  refine k_bipush (z := 22) (v := (22 : Int32)) hg hy (by decide) (by decide +kernel) ?_
  refine k_bipush (z := 97) (v := (97 : Int32)) hg hy (by decide) (by decide +kernel) ?_
  show KW x _ _ _ _ 227 _ _
  refine k_iastk (k := 22) hg hy hwG (by decide +kernel) r10_43 (by unfold vp_in; decide) (by decide) (show G.2.2.1 ≤ (b + 9) by omega) hS_43 (fun H2_44 locs2_44 c2 z2 o2 hS_44 => ?_)
  have ha_44 := ha_43.kept (o2 _ (by omega))
  have r1_44 := r1_43.kept (o2 _ (by omega))
  have r2_44 := r2_43.kept (o2 _ (by omega))
  have r3_44 := r3_43.kept (o2 _ (by omega))
  have r4_44 := r4_43.kept (o2 _ (by omega))
  have r5_44 := r5_43.kept (o2 _ (by omega))
  have r6_44 := r6_43.kept (o2 _ (by omega))
  have r7_44 := r7_43.kept (o2 _ (by omega))
  have r8_44 := r8_43.kept (o2 _ (by omega))
  have r9_44 := r9_43.kept (o2 _ (by omega))
  have r10_44 : cI G 0 (b + 9) 53 (lstI [112, 108, 101, 100, 103, 101, 32, 114, 101, 100, 101, 101, 109, 32, 101, 120, 116, 101, 110, 100, 32, 100, 97]) H2_44 := c2.snoc (L := [112, 108, 101, 100, 103, 101, 32, 114, 101, 100, 101, 101, 109, 32, 101, 120, 116, 101, 110, 100, 32, 100]) rfl
  have oC_44 : ∀ q : Nat, q < b → q ≠ a → H2_44[q]? = (wS x).heap[q]? := fun q h1 h2 => (o2 q (by omega)).trans (oC_43 q h1 h2)
  have zc_44 : H2_44.size = b + 10 := z2.trans zc_43
  clear c2 z2 o2
  clear H2_43 hS_43 ha_43 r1_43 r2_43 r3_43 r4_43 r5_43 r6_43 r7_43 r8_43 r9_43 r10_43 oC_43 zc_43
  refine k_dup hg hy rfl (by decide +kernel) ?_
  refine k_bipush (z := 23) (v := (23 : Int32)) hg hy (by decide) (by decide +kernel) ?_
  refine k_bipush (z := 121) (v := (121 : Int32)) hg hy (by decide) (by decide +kernel) ?_
  show KW x _ _ _ _ 233 _ _
  refine k_iastk (k := 23) hg hy hwG (by decide +kernel) r10_44 (by unfold vp_in; decide) (by decide) (show G.2.2.1 ≤ (b + 9) by omega) hS_44 (fun H2_45 locs2_45 c2 z2 o2 hS_45 => ?_)
  have ha_45 := ha_44.kept (o2 _ (by omega))
  have r1_45 := r1_44.kept (o2 _ (by omega))
  have r2_45 := r2_44.kept (o2 _ (by omega))
  have r3_45 := r3_44.kept (o2 _ (by omega))
  have r4_45 := r4_44.kept (o2 _ (by omega))
  have r5_45 := r5_44.kept (o2 _ (by omega))
  have r6_45 := r6_44.kept (o2 _ (by omega))
  have r7_45 := r7_44.kept (o2 _ (by omega))
  have r8_45 := r8_44.kept (o2 _ (by omega))
  have r9_45 := r9_44.kept (o2 _ (by omega))
  have r10_45 : cI G 0 (b + 9) 53 (lstI [112, 108, 101, 100, 103, 101, 32, 114, 101, 100, 101, 101, 109, 32, 101, 120, 116, 101, 110, 100, 32, 100, 97, 121]) H2_45 := c2.snoc (L := [112, 108, 101, 100, 103, 101, 32, 114, 101, 100, 101, 101, 109, 32, 101, 120, 116, 101, 110, 100, 32, 100, 97]) rfl
  have oC_45 : ∀ q : Nat, q < b → q ≠ a → H2_45[q]? = (wS x).heap[q]? := fun q h1 h2 => (o2 q (by omega)).trans (oC_44 q h1 h2)
  have zc_45 : H2_45.size = b + 10 := z2.trans zc_44
  clear c2 z2 o2
  clear H2_44 hS_44 ha_44 r1_44 r2_44 r3_44 r4_44 r5_44 r6_44 r7_44 r8_44 r9_44 r10_44 oC_44 zc_44
  refine k_dup hg hy rfl (by decide +kernel) ?_
  refine k_bipush (z := 24) (v := (24 : Int32)) hg hy (by decide) (by decide +kernel) ?_
  refine k_bipush (z := 115) (v := (115 : Int32)) hg hy (by decide) (by decide +kernel) ?_
  show KW x _ _ _ _ 239 _ _
  refine k_iastk (k := 24) hg hy hwG (by decide +kernel) r10_45 (by unfold vp_in; decide) (by decide) (show G.2.2.1 ≤ (b + 9) by omega) hS_45 (fun H2_46 locs2_46 c2 z2 o2 hS_46 => ?_)
  have ha_46 := ha_45.kept (o2 _ (by omega))
  have r1_46 := r1_45.kept (o2 _ (by omega))
  have r2_46 := r2_45.kept (o2 _ (by omega))
  have r3_46 := r3_45.kept (o2 _ (by omega))
  have r4_46 := r4_45.kept (o2 _ (by omega))
  have r5_46 := r5_45.kept (o2 _ (by omega))
  have r6_46 := r6_45.kept (o2 _ (by omega))
  have r7_46 := r7_45.kept (o2 _ (by omega))
  have r8_46 := r8_45.kept (o2 _ (by omega))
  have r9_46 := r9_45.kept (o2 _ (by omega))
  have r10_46 : cI G 0 (b + 9) 53 (lstI [112, 108, 101, 100, 103, 101, 32, 114, 101, 100, 101, 101, 109, 32, 101, 120, 116, 101, 110, 100, 32, 100, 97, 121, 115]) H2_46 := c2.snoc (L := [112, 108, 101, 100, 103, 101, 32, 114, 101, 100, 101, 101, 109, 32, 101, 120, 116, 101, 110, 100, 32, 100, 97, 121]) rfl
  have oC_46 : ∀ q : Nat, q < b → q ≠ a → H2_46[q]? = (wS x).heap[q]? := fun q h1 h2 => (o2 q (by omega)).trans (oC_45 q h1 h2)
  have zc_46 : H2_46.size = b + 10 := z2.trans zc_45
  clear c2 z2 o2
  clear H2_45 hS_45 ha_45 r1_45 r2_45 r3_45 r4_45 r5_45 r6_45 r7_45 r8_45 r9_45 r10_45 oC_45 zc_45
  refine k_dup hg hy rfl (by decide +kernel) ?_
  refine k_bipush (z := 25) (v := (25 : Int32)) hg hy (by decide) (by decide +kernel) ?_
  refine k_bipush (z := 32) (v := (32 : Int32)) hg hy (by decide) (by decide +kernel) ?_
  show KW x _ _ _ _ 245 _ _
  refine k_iastk (k := 25) hg hy hwG (by decide +kernel) r10_46 (by unfold vp_in; decide) (by decide) (show G.2.2.1 ≤ (b + 9) by omega) hS_46 (fun H2_47 locs2_47 c2 z2 o2 hS_47 => ?_)
  have ha_47 := ha_46.kept (o2 _ (by omega))
  have r1_47 := r1_46.kept (o2 _ (by omega))
  have r2_47 := r2_46.kept (o2 _ (by omega))
  have r3_47 := r3_46.kept (o2 _ (by omega))
  have r4_47 := r4_46.kept (o2 _ (by omega))
  have r5_47 := r5_46.kept (o2 _ (by omega))
  have r6_47 := r6_46.kept (o2 _ (by omega))
  have r7_47 := r7_46.kept (o2 _ (by omega))
  have r8_47 := r8_46.kept (o2 _ (by omega))
  have r9_47 := r9_46.kept (o2 _ (by omega))
  have r10_47 : cI G 0 (b + 9) 53 (lstI [112, 108, 101, 100, 103, 101, 32, 114, 101, 100, 101, 101, 109, 32, 101, 120, 116, 101, 110, 100, 32, 100, 97, 121, 115, 32]) H2_47 := c2.snoc (L := [112, 108, 101, 100, 103, 101, 32, 114, 101, 100, 101, 101, 109, 32, 101, 120, 116, 101, 110, 100, 32, 100, 97, 121, 115]) rfl
  have oC_47 : ∀ q : Nat, q < b → q ≠ a → H2_47[q]? = (wS x).heap[q]? := fun q h1 h2 => (o2 q (by omega)).trans (oC_46 q h1 h2)
  have zc_47 : H2_47.size = b + 10 := z2.trans zc_46
  clear c2 z2 o2
  clear H2_46 hS_46 ha_46 r1_46 r2_46 r3_46 r4_46 r5_46 r6_46 r7_46 r8_46 r9_46 r10_46 oC_46 zc_46
  refine k_dup hg hy rfl (by decide +kernel) ?_
  refine k_bipush (z := 26) (v := (26 : Int32)) hg hy (by decide) (by decide +kernel) ?_
  refine k_bipush (z := 112) (v := (112 : Int32)) hg hy (by decide) (by decide +kernel) ?_
  show KW x _ _ _ _ 251 _ _
  refine k_iastk (k := 26) hg hy hwG (by decide +kernel) r10_47 (by unfold vp_in; decide) (by decide) (show G.2.2.1 ≤ (b + 9) by omega) hS_47 (fun H2_48 locs2_48 c2 z2 o2 hS_48 => ?_)
  have ha_48 := ha_47.kept (o2 _ (by omega))
  have r1_48 := r1_47.kept (o2 _ (by omega))
  have r2_48 := r2_47.kept (o2 _ (by omega))
  have r3_48 := r3_47.kept (o2 _ (by omega))
  have r4_48 := r4_47.kept (o2 _ (by omega))
  have r5_48 := r5_47.kept (o2 _ (by omega))
  have r6_48 := r6_47.kept (o2 _ (by omega))
  have r7_48 := r7_47.kept (o2 _ (by omega))
  have r8_48 := r8_47.kept (o2 _ (by omega))
  have r9_48 := r9_47.kept (o2 _ (by omega))
  have r10_48 : cI G 0 (b + 9) 53 (lstI [112, 108, 101, 100, 103, 101, 32, 114, 101, 100, 101, 101, 109, 32, 101, 120, 116, 101, 110, 100, 32, 100, 97, 121, 115, 32, 112]) H2_48 := c2.snoc (L := [112, 108, 101, 100, 103, 101, 32, 114, 101, 100, 101, 101, 109, 32, 101, 120, 116, 101, 110, 100, 32, 100, 97, 121, 115, 32]) rfl
  have oC_48 : ∀ q : Nat, q < b → q ≠ a → H2_48[q]? = (wS x).heap[q]? := fun q h1 h2 => (o2 q (by omega)).trans (oC_47 q h1 h2)
  have zc_48 : H2_48.size = b + 10 := z2.trans zc_47
  clear c2 z2 o2
  clear H2_47 hS_47 ha_47 r1_47 r2_47 r3_47 r4_47 r5_47 r6_47 r7_47 r8_47 r9_47 r10_47 oC_47 zc_47
  refine k_dup hg hy rfl (by decide +kernel) ?_
  refine k_bipush (z := 27) (v := (27 : Int32)) hg hy (by decide) (by decide +kernel) ?_
  refine k_bipush (z := 114) (v := (114 : Int32)) hg hy (by decide) (by decide +kernel) ?_
  show KW x _ _ _ _ 257 _ _
  refine k_iastk (k := 27) hg hy hwG (by decide +kernel) r10_48 (by unfold vp_in; decide) (by decide) (show G.2.2.1 ≤ (b + 9) by omega) hS_48 (fun H2_49 locs2_49 c2 z2 o2 hS_49 => ?_)
  have ha_49 := ha_48.kept (o2 _ (by omega))
  have r1_49 := r1_48.kept (o2 _ (by omega))
  have r2_49 := r2_48.kept (o2 _ (by omega))
  have r3_49 := r3_48.kept (o2 _ (by omega))
  have r4_49 := r4_48.kept (o2 _ (by omega))
  have r5_49 := r5_48.kept (o2 _ (by omega))
  have r6_49 := r6_48.kept (o2 _ (by omega))
  have r7_49 := r7_48.kept (o2 _ (by omega))
  have r8_49 := r8_48.kept (o2 _ (by omega))
  have r9_49 := r9_48.kept (o2 _ (by omega))
  have r10_49 : cI G 0 (b + 9) 53 (lstI [112, 108, 101, 100, 103, 101, 32, 114, 101, 100, 101, 101, 109, 32, 101, 120, 116, 101, 110, 100, 32, 100, 97, 121, 115, 32, 112, 114]) H2_49 := c2.snoc (L := [112, 108, 101, 100, 103, 101, 32, 114, 101, 100, 101, 101, 109, 32, 101, 120, 116, 101, 110, 100, 32, 100, 97, 121, 115, 32, 112]) rfl
  have oC_49 : ∀ q : Nat, q < b → q ≠ a → H2_49[q]? = (wS x).heap[q]? := fun q h1 h2 => (o2 q (by omega)).trans (oC_48 q h1 h2)
  have zc_49 : H2_49.size = b + 10 := z2.trans zc_48
  clear c2 z2 o2
  clear H2_48 hS_48 ha_48 r1_48 r2_48 r3_48 r4_48 r5_48 r6_48 r7_48 r8_48 r9_48 r10_48 oC_48 zc_48
  refine k_dup hg hy rfl (by decide +kernel) ?_
  refine k_bipush (z := 28) (v := (28 : Int32)) hg hy (by decide) (by decide +kernel) ?_
  refine k_bipush (z := 105) (v := (105 : Int32)) hg hy (by decide) (by decide +kernel) ?_
  show KW x _ _ _ _ 263 _ _
  refine k_iastk (k := 28) hg hy hwG (by decide +kernel) r10_49 (by unfold vp_in; decide) (by decide) (show G.2.2.1 ≤ (b + 9) by omega) hS_49 (fun H2_50 locs2_50 c2 z2 o2 hS_50 => ?_)
  have ha_50 := ha_49.kept (o2 _ (by omega))
  have r1_50 := r1_49.kept (o2 _ (by omega))
  have r2_50 := r2_49.kept (o2 _ (by omega))
  have r3_50 := r3_49.kept (o2 _ (by omega))
  have r4_50 := r4_49.kept (o2 _ (by omega))
  have r5_50 := r5_49.kept (o2 _ (by omega))
  have r6_50 := r6_49.kept (o2 _ (by omega))
  have r7_50 := r7_49.kept (o2 _ (by omega))
  have r8_50 := r8_49.kept (o2 _ (by omega))
  have r9_50 := r9_49.kept (o2 _ (by omega))
  have r10_50 : cI G 0 (b + 9) 53 (lstI [112, 108, 101, 100, 103, 101, 32, 114, 101, 100, 101, 101, 109, 32, 101, 120, 116, 101, 110, 100, 32, 100, 97, 121, 115, 32, 112, 114, 105]) H2_50 := c2.snoc (L := [112, 108, 101, 100, 103, 101, 32, 114, 101, 100, 101, 101, 109, 32, 101, 120, 116, 101, 110, 100, 32, 100, 97, 121, 115, 32, 112, 114]) rfl
  have oC_50 : ∀ q : Nat, q < b → q ≠ a → H2_50[q]? = (wS x).heap[q]? := fun q h1 h2 => (o2 q (by omega)).trans (oC_49 q h1 h2)
  have zc_50 : H2_50.size = b + 10 := z2.trans zc_49
  clear c2 z2 o2
  clear H2_49 hS_49 ha_49 r1_49 r2_49 r3_49 r4_49 r5_49 r6_49 r7_49 r8_49 r9_49 r10_49 oC_49 zc_49
  refine k_dup hg hy rfl (by decide +kernel) ?_
  refine k_bipush (z := 29) (v := (29 : Int32)) hg hy (by decide) (by decide +kernel) ?_
  refine k_bipush (z := 99) (v := (99 : Int32)) hg hy (by decide) (by decide +kernel) ?_
  show KW x _ _ _ _ 269 _ _
  refine k_iastk (k := 29) hg hy hwG (by decide +kernel) r10_50 (by unfold vp_in; decide) (by decide) (show G.2.2.1 ≤ (b + 9) by omega) hS_50 (fun H2_51 locs2_51 c2 z2 o2 hS_51 => ?_)
  have ha_51 := ha_50.kept (o2 _ (by omega))
  have r1_51 := r1_50.kept (o2 _ (by omega))
  have r2_51 := r2_50.kept (o2 _ (by omega))
  have r3_51 := r3_50.kept (o2 _ (by omega))
  have r4_51 := r4_50.kept (o2 _ (by omega))
  have r5_51 := r5_50.kept (o2 _ (by omega))
  have r6_51 := r6_50.kept (o2 _ (by omega))
  have r7_51 := r7_50.kept (o2 _ (by omega))
  have r8_51 := r8_50.kept (o2 _ (by omega))
  have r9_51 := r9_50.kept (o2 _ (by omega))
  have r10_51 : cI G 0 (b + 9) 53 (lstI [112, 108, 101, 100, 103, 101, 32, 114, 101, 100, 101, 101, 109, 32, 101, 120, 116, 101, 110, 100, 32, 100, 97, 121, 115, 32, 112, 114, 105, 99]) H2_51 := c2.snoc (L := [112, 108, 101, 100, 103, 101, 32, 114, 101, 100, 101, 101, 109, 32, 101, 120, 116, 101, 110, 100, 32, 100, 97, 121, 115, 32, 112, 114, 105]) rfl
  have oC_51 : ∀ q : Nat, q < b → q ≠ a → H2_51[q]? = (wS x).heap[q]? := fun q h1 h2 => (o2 q (by omega)).trans (oC_50 q h1 h2)
  have zc_51 : H2_51.size = b + 10 := z2.trans zc_50
  clear c2 z2 o2
  clear H2_50 hS_50 ha_50 r1_50 r2_50 r3_50 r4_50 r5_50 r6_50 r7_50 r8_50 r9_50 r10_50 oC_50 zc_50
  refine k_dup hg hy rfl (by decide +kernel) ?_
  refine k_bipush (z := 30) (v := (30 : Int32)) hg hy (by decide) (by decide +kernel) ?_
  refine k_bipush (z := 101) (v := (101 : Int32)) hg hy (by decide) (by decide +kernel) ?_
  show KW x _ _ _ _ 275 _ _
  refine k_iastk (k := 30) hg hy hwG (by decide +kernel) r10_51 (by unfold vp_in; decide) (by decide) (show G.2.2.1 ≤ (b + 9) by omega) hS_51 (fun H2_52 locs2_52 c2 z2 o2 hS_52 => ?_)
  have ha_52 := ha_51.kept (o2 _ (by omega))
  have r1_52 := r1_51.kept (o2 _ (by omega))
  have r2_52 := r2_51.kept (o2 _ (by omega))
  have r3_52 := r3_51.kept (o2 _ (by omega))
  have r4_52 := r4_51.kept (o2 _ (by omega))
  have r5_52 := r5_51.kept (o2 _ (by omega))
  have r6_52 := r6_51.kept (o2 _ (by omega))
  have r7_52 := r7_51.kept (o2 _ (by omega))
  have r8_52 := r8_51.kept (o2 _ (by omega))
  have r9_52 := r9_51.kept (o2 _ (by omega))
  have r10_52 : cI G 0 (b + 9) 53 (lstI [112, 108, 101, 100, 103, 101, 32, 114, 101, 100, 101, 101, 109, 32, 101, 120, 116, 101, 110, 100, 32, 100, 97, 121, 115, 32, 112, 114, 105, 99, 101]) H2_52 := c2.snoc (L := [112, 108, 101, 100, 103, 101, 32, 114, 101, 100, 101, 101, 109, 32, 101, 120, 116, 101, 110, 100, 32, 100, 97, 121, 115, 32, 112, 114, 105, 99]) rfl
  have oC_52 : ∀ q : Nat, q < b → q ≠ a → H2_52[q]? = (wS x).heap[q]? := fun q h1 h2 => (o2 q (by omega)).trans (oC_51 q h1 h2)
  have zc_52 : H2_52.size = b + 10 := z2.trans zc_51
  clear c2 z2 o2
  clear H2_51 hS_51 ha_51 r1_51 r2_51 r3_51 r4_51 r5_51 r6_51 r7_51 r8_51 r9_51 r10_51 oC_51 zc_51
  refine k_dup hg hy rfl (by decide +kernel) ?_
  refine k_bipush (z := 31) (v := (31 : Int32)) hg hy (by decide) (by decide +kernel) ?_
  refine k_bipush (z := 32) (v := (32 : Int32)) hg hy (by decide) (by decide +kernel) ?_
  show KW x _ _ _ _ 281 _ _
  refine k_iastk (k := 31) hg hy hwG (by decide +kernel) r10_52 (by unfold vp_in; decide) (by decide) (show G.2.2.1 ≤ (b + 9) by omega) hS_52 (fun H2_53 locs2_53 c2 z2 o2 hS_53 => ?_)
  have ha_53 := ha_52.kept (o2 _ (by omega))
  have r1_53 := r1_52.kept (o2 _ (by omega))
  have r2_53 := r2_52.kept (o2 _ (by omega))
  have r3_53 := r3_52.kept (o2 _ (by omega))
  have r4_53 := r4_52.kept (o2 _ (by omega))
  have r5_53 := r5_52.kept (o2 _ (by omega))
  have r6_53 := r6_52.kept (o2 _ (by omega))
  have r7_53 := r7_52.kept (o2 _ (by omega))
  have r8_53 := r8_52.kept (o2 _ (by omega))
  have r9_53 := r9_52.kept (o2 _ (by omega))
  have r10_53 : cI G 0 (b + 9) 53 (lstI [112, 108, 101, 100, 103, 101, 32, 114, 101, 100, 101, 101, 109, 32, 101, 120, 116, 101, 110, 100, 32, 100, 97, 121, 115, 32, 112, 114, 105, 99, 101, 32]) H2_53 := c2.snoc (L := [112, 108, 101, 100, 103, 101, 32, 114, 101, 100, 101, 101, 109, 32, 101, 120, 116, 101, 110, 100, 32, 100, 97, 121, 115, 32, 112, 114, 105, 99, 101]) rfl
  have oC_53 : ∀ q : Nat, q < b → q ≠ a → H2_53[q]? = (wS x).heap[q]? := fun q h1 h2 => (o2 q (by omega)).trans (oC_52 q h1 h2)
  have zc_53 : H2_53.size = b + 10 := z2.trans zc_52
  clear c2 z2 o2
  clear H2_52 hS_52 ha_52 r1_52 r2_52 r3_52 r4_52 r5_52 r6_52 r7_52 r8_52 r9_52 r10_52 oC_52 zc_52
  refine k_dup hg hy rfl (by decide +kernel) ?_
  refine k_bipush (z := 32) (v := (32 : Int32)) hg hy (by decide) (by decide +kernel) ?_
  refine k_bipush (z := 114) (v := (114 : Int32)) hg hy (by decide) (by decide +kernel) ?_
  show KW x _ _ _ _ 287 _ _
  refine k_iastk (k := 32) hg hy hwG (by decide +kernel) r10_53 (by unfold vp_in; decide) (by decide) (show G.2.2.1 ≤ (b + 9) by omega) hS_53 (fun H2_54 locs2_54 c2 z2 o2 hS_54 => ?_)
  have ha_54 := ha_53.kept (o2 _ (by omega))
  have r1_54 := r1_53.kept (o2 _ (by omega))
  have r2_54 := r2_53.kept (o2 _ (by omega))
  have r3_54 := r3_53.kept (o2 _ (by omega))
  have r4_54 := r4_53.kept (o2 _ (by omega))
  have r5_54 := r5_53.kept (o2 _ (by omega))
  have r6_54 := r6_53.kept (o2 _ (by omega))
  have r7_54 := r7_53.kept (o2 _ (by omega))
  have r8_54 := r8_53.kept (o2 _ (by omega))
  have r9_54 := r9_53.kept (o2 _ (by omega))
  have r10_54 : cI G 0 (b + 9) 53 (lstI [112, 108, 101, 100, 103, 101, 32, 114, 101, 100, 101, 101, 109, 32, 101, 120, 116, 101, 110, 100, 32, 100, 97, 121, 115, 32, 112, 114, 105, 99, 101, 32, 114]) H2_54 := c2.snoc (L := [112, 108, 101, 100, 103, 101, 32, 114, 101, 100, 101, 101, 109, 32, 101, 120, 116, 101, 110, 100, 32, 100, 97, 121, 115, 32, 112, 114, 105, 99, 101, 32]) rfl
  have oC_54 : ∀ q : Nat, q < b → q ≠ a → H2_54[q]? = (wS x).heap[q]? := fun q h1 h2 => (o2 q (by omega)).trans (oC_53 q h1 h2)
  have zc_54 : H2_54.size = b + 10 := z2.trans zc_53
  clear c2 z2 o2
  clear H2_53 hS_53 ha_53 r1_53 r2_53 r3_53 r4_53 r5_53 r6_53 r7_53 r8_53 r9_53 r10_53 oC_53 zc_53
  refine k_dup hg hy rfl (by decide +kernel) ?_
  refine k_bipush (z := 33) (v := (33 : Int32)) hg hy (by decide) (by decide +kernel) ?_
  refine k_bipush (z := 97) (v := (97 : Int32)) hg hy (by decide) (by decide +kernel) ?_
  show KW x _ _ _ _ 293 _ _
  refine k_iastk (k := 33) hg hy hwG (by decide +kernel) r10_54 (by unfold vp_in; decide) (by decide) (show G.2.2.1 ≤ (b + 9) by omega) hS_54 (fun H2_55 locs2_55 c2 z2 o2 hS_55 => ?_)
  have ha_55 := ha_54.kept (o2 _ (by omega))
  have r1_55 := r1_54.kept (o2 _ (by omega))
  have r2_55 := r2_54.kept (o2 _ (by omega))
  have r3_55 := r3_54.kept (o2 _ (by omega))
  have r4_55 := r4_54.kept (o2 _ (by omega))
  have r5_55 := r5_54.kept (o2 _ (by omega))
  have r6_55 := r6_54.kept (o2 _ (by omega))
  have r7_55 := r7_54.kept (o2 _ (by omega))
  have r8_55 := r8_54.kept (o2 _ (by omega))
  have r9_55 := r9_54.kept (o2 _ (by omega))
  have r10_55 : cI G 0 (b + 9) 53 (lstI [112, 108, 101, 100, 103, 101, 32, 114, 101, 100, 101, 101, 109, 32, 101, 120, 116, 101, 110, 100, 32, 100, 97, 121, 115, 32, 112, 114, 105, 99, 101, 32, 114, 97]) H2_55 := c2.snoc (L := [112, 108, 101, 100, 103, 101, 32, 114, 101, 100, 101, 101, 109, 32, 101, 120, 116, 101, 110, 100, 32, 100, 97, 121, 115, 32, 112, 114, 105, 99, 101, 32, 114]) rfl
  have oC_55 : ∀ q : Nat, q < b → q ≠ a → H2_55[q]? = (wS x).heap[q]? := fun q h1 h2 => (o2 q (by omega)).trans (oC_54 q h1 h2)
  have zc_55 : H2_55.size = b + 10 := z2.trans zc_54
  clear c2 z2 o2
  clear H2_54 hS_54 ha_54 r1_54 r2_54 r3_54 r4_54 r5_54 r6_54 r7_54 r8_54 r9_54 r10_54 oC_54 zc_54
  refine k_dup hg hy rfl (by decide +kernel) ?_
  refine k_bipush (z := 34) (v := (34 : Int32)) hg hy (by decide) (by decide +kernel) ?_
  refine k_bipush (z := 116) (v := (116 : Int32)) hg hy (by decide) (by decide +kernel) ?_
  show KW x _ _ _ _ 299 _ _
  refine k_iastk (k := 34) hg hy hwG (by decide +kernel) r10_55 (by unfold vp_in; decide) (by decide) (show G.2.2.1 ≤ (b + 9) by omega) hS_55 (fun H2_56 locs2_56 c2 z2 o2 hS_56 => ?_)
  have ha_56 := ha_55.kept (o2 _ (by omega))
  have r1_56 := r1_55.kept (o2 _ (by omega))
  have r2_56 := r2_55.kept (o2 _ (by omega))
  have r3_56 := r3_55.kept (o2 _ (by omega))
  have r4_56 := r4_55.kept (o2 _ (by omega))
  have r5_56 := r5_55.kept (o2 _ (by omega))
  have r6_56 := r6_55.kept (o2 _ (by omega))
  have r7_56 := r7_55.kept (o2 _ (by omega))
  have r8_56 := r8_55.kept (o2 _ (by omega))
  have r9_56 := r9_55.kept (o2 _ (by omega))
  have r10_56 : cI G 0 (b + 9) 53 (lstI [112, 108, 101, 100, 103, 101, 32, 114, 101, 100, 101, 101, 109, 32, 101, 120, 116, 101, 110, 100, 32, 100, 97, 121, 115, 32, 112, 114, 105, 99, 101, 32, 114, 97, 116]) H2_56 := c2.snoc (L := [112, 108, 101, 100, 103, 101, 32, 114, 101, 100, 101, 101, 109, 32, 101, 120, 116, 101, 110, 100, 32, 100, 97, 121, 115, 32, 112, 114, 105, 99, 101, 32, 114, 97]) rfl
  have oC_56 : ∀ q : Nat, q < b → q ≠ a → H2_56[q]? = (wS x).heap[q]? := fun q h1 h2 => (o2 q (by omega)).trans (oC_55 q h1 h2)
  have zc_56 : H2_56.size = b + 10 := z2.trans zc_55
  clear c2 z2 o2
  clear H2_55 hS_55 ha_55 r1_55 r2_55 r3_55 r4_55 r5_55 r6_55 r7_55 r8_55 r9_55 r10_55 oC_55 zc_55
  refine k_dup hg hy rfl (by decide +kernel) ?_
  refine k_bipush (z := 35) (v := (35 : Int32)) hg hy (by decide) (by decide +kernel) ?_
  refine k_bipush (z := 101) (v := (101 : Int32)) hg hy (by decide) (by decide +kernel) ?_
  show KW x _ _ _ _ 305 _ _
  refine k_iastk (k := 35) hg hy hwG (by decide +kernel) r10_56 (by unfold vp_in; decide) (by decide) (show G.2.2.1 ≤ (b + 9) by omega) hS_56 (fun H2_57 locs2_57 c2 z2 o2 hS_57 => ?_)
  have ha_57 := ha_56.kept (o2 _ (by omega))
  have r1_57 := r1_56.kept (o2 _ (by omega))
  have r2_57 := r2_56.kept (o2 _ (by omega))
  have r3_57 := r3_56.kept (o2 _ (by omega))
  have r4_57 := r4_56.kept (o2 _ (by omega))
  have r5_57 := r5_56.kept (o2 _ (by omega))
  have r6_57 := r6_56.kept (o2 _ (by omega))
  have r7_57 := r7_56.kept (o2 _ (by omega))
  have r8_57 := r8_56.kept (o2 _ (by omega))
  have r9_57 := r9_56.kept (o2 _ (by omega))
  have r10_57 : cI G 0 (b + 9) 53 (lstI [112, 108, 101, 100, 103, 101, 32, 114, 101, 100, 101, 101, 109, 32, 101, 120, 116, 101, 110, 100, 32, 100, 97, 121, 115, 32, 112, 114, 105, 99, 101, 32, 114, 97, 116, 101]) H2_57 := c2.snoc (L := [112, 108, 101, 100, 103, 101, 32, 114, 101, 100, 101, 101, 109, 32, 101, 120, 116, 101, 110, 100, 32, 100, 97, 121, 115, 32, 112, 114, 105, 99, 101, 32, 114, 97, 116]) rfl
  have oC_57 : ∀ q : Nat, q < b → q ≠ a → H2_57[q]? = (wS x).heap[q]? := fun q h1 h2 => (o2 q (by omega)).trans (oC_56 q h1 h2)
  have zc_57 : H2_57.size = b + 10 := z2.trans zc_56
  clear c2 z2 o2
  clear H2_56 hS_56 ha_56 r1_56 r2_56 r3_56 r4_56 r5_56 r6_56 r7_56 r8_56 r9_56 r10_56 oC_56 zc_56
  refine k_dup hg hy rfl (by decide +kernel) ?_
  refine k_bipush (z := 36) (v := (36 : Int32)) hg hy (by decide) (by decide +kernel) ?_
  refine k_bipush (z := 32) (v := (32 : Int32)) hg hy (by decide) (by decide +kernel) ?_
  show KW x _ _ _ _ 311 _ _
  refine k_iastk (k := 36) hg hy hwG (by decide +kernel) r10_57 (by unfold vp_in; decide) (by decide) (show G.2.2.1 ≤ (b + 9) by omega) hS_57 (fun H2_58 locs2_58 c2 z2 o2 hS_58 => ?_)
  have ha_58 := ha_57.kept (o2 _ (by omega))
  have r1_58 := r1_57.kept (o2 _ (by omega))
  have r2_58 := r2_57.kept (o2 _ (by omega))
  have r3_58 := r3_57.kept (o2 _ (by omega))
  have r4_58 := r4_57.kept (o2 _ (by omega))
  have r5_58 := r5_57.kept (o2 _ (by omega))
  have r6_58 := r6_57.kept (o2 _ (by omega))
  have r7_58 := r7_57.kept (o2 _ (by omega))
  have r8_58 := r8_57.kept (o2 _ (by omega))
  have r9_58 := r9_57.kept (o2 _ (by omega))
  have r10_58 : cI G 0 (b + 9) 53 (lstI [112, 108, 101, 100, 103, 101, 32, 114, 101, 100, 101, 101, 109, 32, 101, 120, 116, 101, 110, 100, 32, 100, 97, 121, 115, 32, 112, 114, 105, 99, 101, 32, 114, 97, 116, 101, 32]) H2_58 := c2.snoc (L := [112, 108, 101, 100, 103, 101, 32, 114, 101, 100, 101, 101, 109, 32, 101, 120, 116, 101, 110, 100, 32, 100, 97, 121, 115, 32, 112, 114, 105, 99, 101, 32, 114, 97, 116, 101]) rfl
  have oC_58 : ∀ q : Nat, q < b → q ≠ a → H2_58[q]? = (wS x).heap[q]? := fun q h1 h2 => (o2 q (by omega)).trans (oC_57 q h1 h2)
  have zc_58 : H2_58.size = b + 10 := z2.trans zc_57
  clear c2 z2 o2
  clear H2_57 hS_57 ha_57 r1_57 r2_57 r3_57 r4_57 r5_57 r6_57 r7_57 r8_57 r9_57 r10_57 oC_57 zc_57
  refine k_dup hg hy rfl (by decide +kernel) ?_
  refine k_bipush (z := 37) (v := (37 : Int32)) hg hy (by decide) (by decide +kernel) ?_
  refine k_bipush (z := 98) (v := (98 : Int32)) hg hy (by decide) (by decide +kernel) ?_
  show KW x _ _ _ _ 317 _ _
  refine k_iastk (k := 37) hg hy hwG (by decide +kernel) r10_58 (by unfold vp_in; decide) (by decide) (show G.2.2.1 ≤ (b + 9) by omega) hS_58 (fun H2_59 locs2_59 c2 z2 o2 hS_59 => ?_)
  have ha_59 := ha_58.kept (o2 _ (by omega))
  have r1_59 := r1_58.kept (o2 _ (by omega))
  have r2_59 := r2_58.kept (o2 _ (by omega))
  have r3_59 := r3_58.kept (o2 _ (by omega))
  have r4_59 := r4_58.kept (o2 _ (by omega))
  have r5_59 := r5_58.kept (o2 _ (by omega))
  have r6_59 := r6_58.kept (o2 _ (by omega))
  have r7_59 := r7_58.kept (o2 _ (by omega))
  have r8_59 := r8_58.kept (o2 _ (by omega))
  have r9_59 := r9_58.kept (o2 _ (by omega))
  have r10_59 : cI G 0 (b + 9) 53 (lstI [112, 108, 101, 100, 103, 101, 32, 114, 101, 100, 101, 101, 109, 32, 101, 120, 116, 101, 110, 100, 32, 100, 97, 121, 115, 32, 112, 114, 105, 99, 101, 32, 114, 97, 116, 101, 32, 98]) H2_59 := c2.snoc (L := [112, 108, 101, 100, 103, 101, 32, 114, 101, 100, 101, 101, 109, 32, 101, 120, 116, 101, 110, 100, 32, 100, 97, 121, 115, 32, 112, 114, 105, 99, 101, 32, 114, 97, 116, 101, 32]) rfl
  have oC_59 : ∀ q : Nat, q < b → q ≠ a → H2_59[q]? = (wS x).heap[q]? := fun q h1 h2 => (o2 q (by omega)).trans (oC_58 q h1 h2)
  have zc_59 : H2_59.size = b + 10 := z2.trans zc_58
  clear c2 z2 o2
  clear H2_58 hS_58 ha_58 r1_58 r2_58 r3_58 r4_58 r5_58 r6_58 r7_58 r8_58 r9_58 r10_58 oC_58 zc_58
  refine k_dup hg hy rfl (by decide +kernel) ?_
  refine k_bipush (z := 38) (v := (38 : Int32)) hg hy (by decide) (by decide +kernel) ?_
  refine k_bipush (z := 105) (v := (105 : Int32)) hg hy (by decide) (by decide +kernel) ?_
  show KW x _ _ _ _ 323 _ _
  refine k_iastk (k := 38) hg hy hwG (by decide +kernel) r10_59 (by unfold vp_in; decide) (by decide) (show G.2.2.1 ≤ (b + 9) by omega) hS_59 (fun H2_60 locs2_60 c2 z2 o2 hS_60 => ?_)
  have ha_60 := ha_59.kept (o2 _ (by omega))
  have r1_60 := r1_59.kept (o2 _ (by omega))
  have r2_60 := r2_59.kept (o2 _ (by omega))
  have r3_60 := r3_59.kept (o2 _ (by omega))
  have r4_60 := r4_59.kept (o2 _ (by omega))
  have r5_60 := r5_59.kept (o2 _ (by omega))
  have r6_60 := r6_59.kept (o2 _ (by omega))
  have r7_60 := r7_59.kept (o2 _ (by omega))
  have r8_60 := r8_59.kept (o2 _ (by omega))
  have r9_60 := r9_59.kept (o2 _ (by omega))
  have r10_60 : cI G 0 (b + 9) 53 (lstI [112, 108, 101, 100, 103, 101, 32, 114, 101, 100, 101, 101, 109, 32, 101, 120, 116, 101, 110, 100, 32, 100, 97, 121, 115, 32, 112, 114, 105, 99, 101, 32, 114, 97, 116, 101, 32, 98, 105]) H2_60 := c2.snoc (L := [112, 108, 101, 100, 103, 101, 32, 114, 101, 100, 101, 101, 109, 32, 101, 120, 116, 101, 110, 100, 32, 100, 97, 121, 115, 32, 112, 114, 105, 99, 101, 32, 114, 97, 116, 101, 32, 98]) rfl
  have oC_60 : ∀ q : Nat, q < b → q ≠ a → H2_60[q]? = (wS x).heap[q]? := fun q h1 h2 => (o2 q (by omega)).trans (oC_59 q h1 h2)
  have zc_60 : H2_60.size = b + 10 := z2.trans zc_59
  clear c2 z2 o2
  clear H2_59 hS_59 ha_59 r1_59 r2_59 r3_59 r4_59 r5_59 r6_59 r7_59 r8_59 r9_59 r10_59 oC_59 zc_59
  refine k_dup hg hy rfl (by decide +kernel) ?_
  refine k_bipush (z := 39) (v := (39 : Int32)) hg hy (by decide) (by decide +kernel) ?_
  refine k_bipush (z := 100) (v := (100 : Int32)) hg hy (by decide) (by decide +kernel) ?_
  show KW x _ _ _ _ 329 _ _
  refine k_iastk (k := 39) hg hy hwG (by decide +kernel) r10_60 (by unfold vp_in; decide) (by decide) (show G.2.2.1 ≤ (b + 9) by omega) hS_60 (fun H2_61 locs2_61 c2 z2 o2 hS_61 => ?_)
  have ha_61 := ha_60.kept (o2 _ (by omega))
  have r1_61 := r1_60.kept (o2 _ (by omega))
  have r2_61 := r2_60.kept (o2 _ (by omega))
  have r3_61 := r3_60.kept (o2 _ (by omega))
  have r4_61 := r4_60.kept (o2 _ (by omega))
  have r5_61 := r5_60.kept (o2 _ (by omega))
  have r6_61 := r6_60.kept (o2 _ (by omega))
  have r7_61 := r7_60.kept (o2 _ (by omega))
  have r8_61 := r8_60.kept (o2 _ (by omega))
  have r9_61 := r9_60.kept (o2 _ (by omega))
  have r10_61 : cI G 0 (b + 9) 53 (lstI [112, 108, 101, 100, 103, 101, 32, 114, 101, 100, 101, 101, 109, 32, 101, 120, 116, 101, 110, 100, 32, 100, 97, 121, 115, 32, 112, 114, 105, 99, 101, 32, 114, 97, 116, 101, 32, 98, 105, 100]) H2_61 := c2.snoc (L := [112, 108, 101, 100, 103, 101, 32, 114, 101, 100, 101, 101, 109, 32, 101, 120, 116, 101, 110, 100, 32, 100, 97, 121, 115, 32, 112, 114, 105, 99, 101, 32, 114, 97, 116, 101, 32, 98, 105]) rfl
  have oC_61 : ∀ q : Nat, q < b → q ≠ a → H2_61[q]? = (wS x).heap[q]? := fun q h1 h2 => (o2 q (by omega)).trans (oC_60 q h1 h2)
  have zc_61 : H2_61.size = b + 10 := z2.trans zc_60
  clear c2 z2 o2
  clear H2_60 hS_60 ha_60 r1_60 r2_60 r3_60 r4_60 r5_60 r6_60 r7_60 r8_60 r9_60 r10_60 oC_60 zc_60
  refine k_dup hg hy rfl (by decide +kernel) ?_
  refine k_bipush (z := 40) (v := (40 : Int32)) hg hy (by decide) (by decide +kernel) ?_
  refine k_bipush (z := 32) (v := (32 : Int32)) hg hy (by decide) (by decide +kernel) ?_
  show KW x _ _ _ _ 335 _ _
  refine k_iastk (k := 40) hg hy hwG (by decide +kernel) r10_61 (by unfold vp_in; decide) (by decide) (show G.2.2.1 ≤ (b + 9) by omega) hS_61 (fun H2_62 locs2_62 c2 z2 o2 hS_62 => ?_)
  have ha_62 := ha_61.kept (o2 _ (by omega))
  have r1_62 := r1_61.kept (o2 _ (by omega))
  have r2_62 := r2_61.kept (o2 _ (by omega))
  have r3_62 := r3_61.kept (o2 _ (by omega))
  have r4_62 := r4_61.kept (o2 _ (by omega))
  have r5_62 := r5_61.kept (o2 _ (by omega))
  have r6_62 := r6_61.kept (o2 _ (by omega))
  have r7_62 := r7_61.kept (o2 _ (by omega))
  have r8_62 := r8_61.kept (o2 _ (by omega))
  have r9_62 := r9_61.kept (o2 _ (by omega))
  have r10_62 : cI G 0 (b + 9) 53 (lstI [112, 108, 101, 100, 103, 101, 32, 114, 101, 100, 101, 101, 109, 32, 101, 120, 116, 101, 110, 100, 32, 100, 97, 121, 115, 32, 112, 114, 105, 99, 101, 32, 114, 97, 116, 101, 32, 98, 105, 100, 32]) H2_62 := c2.snoc (L := [112, 108, 101, 100, 103, 101, 32, 114, 101, 100, 101, 101, 109, 32, 101, 120, 116, 101, 110, 100, 32, 100, 97, 121, 115, 32, 112, 114, 105, 99, 101, 32, 114, 97, 116, 101, 32, 98, 105, 100]) rfl
  have oC_62 : ∀ q : Nat, q < b → q ≠ a → H2_62[q]? = (wS x).heap[q]? := fun q h1 h2 => (o2 q (by omega)).trans (oC_61 q h1 h2)
  have zc_62 : H2_62.size = b + 10 := z2.trans zc_61
  clear c2 z2 o2
  clear H2_61 hS_61 ha_61 r1_61 r2_61 r3_61 r4_61 r5_61 r6_61 r7_61 r8_61 r9_61 r10_61 oC_61 zc_61
  refine k_dup hg hy rfl (by decide +kernel) ?_
  refine k_bipush (z := 41) (v := (41 : Int32)) hg hy (by decide) (by decide +kernel) ?_
  refine k_bipush (z := 115) (v := (115 : Int32)) hg hy (by decide) (by decide +kernel) ?_
  show KW x _ _ _ _ 341 _ _
  refine k_iastk (k := 41) hg hy hwG (by decide +kernel) r10_62 (by unfold vp_in; decide) (by decide) (show G.2.2.1 ≤ (b + 9) by omega) hS_62 (fun H2_63 locs2_63 c2 z2 o2 hS_63 => ?_)
  have ha_63 := ha_62.kept (o2 _ (by omega))
  have r1_63 := r1_62.kept (o2 _ (by omega))
  have r2_63 := r2_62.kept (o2 _ (by omega))
  have r3_63 := r3_62.kept (o2 _ (by omega))
  have r4_63 := r4_62.kept (o2 _ (by omega))
  have r5_63 := r5_62.kept (o2 _ (by omega))
  have r6_63 := r6_62.kept (o2 _ (by omega))
  have r7_63 := r7_62.kept (o2 _ (by omega))
  have r8_63 := r8_62.kept (o2 _ (by omega))
  have r9_63 := r9_62.kept (o2 _ (by omega))
  have r10_63 : cI G 0 (b + 9) 53 (lstI [112, 108, 101, 100, 103, 101, 32, 114, 101, 100, 101, 101, 109, 32, 101, 120, 116, 101, 110, 100, 32, 100, 97, 121, 115, 32, 112, 114, 105, 99, 101, 32, 114, 97, 116, 101, 32, 98, 105, 100, 32, 115]) H2_63 := c2.snoc (L := [112, 108, 101, 100, 103, 101, 32, 114, 101, 100, 101, 101, 109, 32, 101, 120, 116, 101, 110, 100, 32, 100, 97, 121, 115, 32, 112, 114, 105, 99, 101, 32, 114, 97, 116, 101, 32, 98, 105, 100, 32]) rfl
  have oC_63 : ∀ q : Nat, q < b → q ≠ a → H2_63[q]? = (wS x).heap[q]? := fun q h1 h2 => (o2 q (by omega)).trans (oC_62 q h1 h2)
  have zc_63 : H2_63.size = b + 10 := z2.trans zc_62
  clear c2 z2 o2
  clear H2_62 hS_62 ha_62 r1_62 r2_62 r3_62 r4_62 r5_62 r6_62 r7_62 r8_62 r9_62 r10_62 oC_62 zc_62
  refine k_dup hg hy rfl (by decide +kernel) ?_
  refine k_bipush (z := 42) (v := (42 : Int32)) hg hy (by decide) (by decide +kernel) ?_
  refine k_bipush (z := 101) (v := (101 : Int32)) hg hy (by decide) (by decide +kernel) ?_
  show KW x _ _ _ _ 347 _ _
  refine k_iastk (k := 42) hg hy hwG (by decide +kernel) r10_63 (by unfold vp_in; decide) (by decide) (show G.2.2.1 ≤ (b + 9) by omega) hS_63 (fun H2_64 locs2_64 c2 z2 o2 hS_64 => ?_)
  have ha_64 := ha_63.kept (o2 _ (by omega))
  have r1_64 := r1_63.kept (o2 _ (by omega))
  have r2_64 := r2_63.kept (o2 _ (by omega))
  have r3_64 := r3_63.kept (o2 _ (by omega))
  have r4_64 := r4_63.kept (o2 _ (by omega))
  have r5_64 := r5_63.kept (o2 _ (by omega))
  have r6_64 := r6_63.kept (o2 _ (by omega))
  have r7_64 := r7_63.kept (o2 _ (by omega))
  have r8_64 := r8_63.kept (o2 _ (by omega))
  have r9_64 := r9_63.kept (o2 _ (by omega))
  have r10_64 : cI G 0 (b + 9) 53 (lstI [112, 108, 101, 100, 103, 101, 32, 114, 101, 100, 101, 101, 109, 32, 101, 120, 116, 101, 110, 100, 32, 100, 97, 121, 115, 32, 112, 114, 105, 99, 101, 32, 114, 97, 116, 101, 32, 98, 105, 100, 32, 115, 101]) H2_64 := c2.snoc (L := [112, 108, 101, 100, 103, 101, 32, 114, 101, 100, 101, 101, 109, 32, 101, 120, 116, 101, 110, 100, 32, 100, 97, 121, 115, 32, 112, 114, 105, 99, 101, 32, 114, 97, 116, 101, 32, 98, 105, 100, 32, 115]) rfl
  have oC_64 : ∀ q : Nat, q < b → q ≠ a → H2_64[q]? = (wS x).heap[q]? := fun q h1 h2 => (o2 q (by omega)).trans (oC_63 q h1 h2)
  have zc_64 : H2_64.size = b + 10 := z2.trans zc_63
  clear c2 z2 o2
  clear H2_63 hS_63 ha_63 r1_63 r2_63 r3_63 r4_63 r5_63 r6_63 r7_63 r8_63 r9_63 r10_63 oC_63 zc_63
  refine k_dup hg hy rfl (by decide +kernel) ?_
  refine k_bipush (z := 43) (v := (43 : Int32)) hg hy (by decide) (by decide +kernel) ?_
  refine k_bipush (z := 108) (v := (108 : Int32)) hg hy (by decide) (by decide +kernel) ?_
  show KW x _ _ _ _ 353 _ _
  refine k_iastk (k := 43) hg hy hwG (by decide +kernel) r10_64 (by unfold vp_in; decide) (by decide) (show G.2.2.1 ≤ (b + 9) by omega) hS_64 (fun H2_65 locs2_65 c2 z2 o2 hS_65 => ?_)
  have ha_65 := ha_64.kept (o2 _ (by omega))
  have r1_65 := r1_64.kept (o2 _ (by omega))
  have r2_65 := r2_64.kept (o2 _ (by omega))
  have r3_65 := r3_64.kept (o2 _ (by omega))
  have r4_65 := r4_64.kept (o2 _ (by omega))
  have r5_65 := r5_64.kept (o2 _ (by omega))
  have r6_65 := r6_64.kept (o2 _ (by omega))
  have r7_65 := r7_64.kept (o2 _ (by omega))
  have r8_65 := r8_64.kept (o2 _ (by omega))
  have r9_65 := r9_64.kept (o2 _ (by omega))
  have r10_65 : cI G 0 (b + 9) 53 (lstI [112, 108, 101, 100, 103, 101, 32, 114, 101, 100, 101, 101, 109, 32, 101, 120, 116, 101, 110, 100, 32, 100, 97, 121, 115, 32, 112, 114, 105, 99, 101, 32, 114, 97, 116, 101, 32, 98, 105, 100, 32, 115, 101, 108]) H2_65 := c2.snoc (L := [112, 108, 101, 100, 103, 101, 32, 114, 101, 100, 101, 101, 109, 32, 101, 120, 116, 101, 110, 100, 32, 100, 97, 121, 115, 32, 112, 114, 105, 99, 101, 32, 114, 97, 116, 101, 32, 98, 105, 100, 32, 115, 101]) rfl
  have oC_65 : ∀ q : Nat, q < b → q ≠ a → H2_65[q]? = (wS x).heap[q]? := fun q h1 h2 => (o2 q (by omega)).trans (oC_64 q h1 h2)
  have zc_65 : H2_65.size = b + 10 := z2.trans zc_64
  clear c2 z2 o2
  clear H2_64 hS_64 ha_64 r1_64 r2_64 r3_64 r4_64 r5_64 r6_64 r7_64 r8_64 r9_64 r10_64 oC_64 zc_64
  refine k_dup hg hy rfl (by decide +kernel) ?_
  refine k_bipush (z := 44) (v := (44 : Int32)) hg hy (by decide) (by decide +kernel) ?_
  refine k_bipush (z := 108) (v := (108 : Int32)) hg hy (by decide) (by decide +kernel) ?_
  show KW x _ _ _ _ 359 _ _
  refine k_iastk (k := 44) hg hy hwG (by decide +kernel) r10_65 (by unfold vp_in; decide) (by decide) (show G.2.2.1 ≤ (b + 9) by omega) hS_65 (fun H2_66 locs2_66 c2 z2 o2 hS_66 => ?_)
  have ha_66 := ha_65.kept (o2 _ (by omega))
  have r1_66 := r1_65.kept (o2 _ (by omega))
  have r2_66 := r2_65.kept (o2 _ (by omega))
  have r3_66 := r3_65.kept (o2 _ (by omega))
  have r4_66 := r4_65.kept (o2 _ (by omega))
  have r5_66 := r5_65.kept (o2 _ (by omega))
  have r6_66 := r6_65.kept (o2 _ (by omega))
  have r7_66 := r7_65.kept (o2 _ (by omega))
  have r8_66 := r8_65.kept (o2 _ (by omega))
  have r9_66 := r9_65.kept (o2 _ (by omega))
  have r10_66 : cI G 0 (b + 9) 53 (lstI [112, 108, 101, 100, 103, 101, 32, 114, 101, 100, 101, 101, 109, 32, 101, 120, 116, 101, 110, 100, 32, 100, 97, 121, 115, 32, 112, 114, 105, 99, 101, 32, 114, 97, 116, 101, 32, 98, 105, 100, 32, 115, 101, 108, 108]) H2_66 := c2.snoc (L := [112, 108, 101, 100, 103, 101, 32, 114, 101, 100, 101, 101, 109, 32, 101, 120, 116, 101, 110, 100, 32, 100, 97, 121, 115, 32, 112, 114, 105, 99, 101, 32, 114, 97, 116, 101, 32, 98, 105, 100, 32, 115, 101, 108]) rfl
  have oC_66 : ∀ q : Nat, q < b → q ≠ a → H2_66[q]? = (wS x).heap[q]? := fun q h1 h2 => (o2 q (by omega)).trans (oC_65 q h1 h2)
  have zc_66 : H2_66.size = b + 10 := z2.trans zc_65
  clear c2 z2 o2
  clear H2_65 hS_65 ha_65 r1_65 r2_65 r3_65 r4_65 r5_65 r6_65 r7_65 r8_65 r9_65 r10_65 oC_65 zc_65
  refine k_dup hg hy rfl (by decide +kernel) ?_
  refine k_bipush (z := 45) (v := (45 : Int32)) hg hy (by decide) (by decide +kernel) ?_
  refine k_bipush (z := 32) (v := (32 : Int32)) hg hy (by decide) (by decide +kernel) ?_
  show KW x _ _ _ _ 365 _ _
  refine k_iastk (k := 45) hg hy hwG (by decide +kernel) r10_66 (by unfold vp_in; decide) (by decide) (show G.2.2.1 ≤ (b + 9) by omega) hS_66 (fun H2_67 locs2_67 c2 z2 o2 hS_67 => ?_)
  have ha_67 := ha_66.kept (o2 _ (by omega))
  have r1_67 := r1_66.kept (o2 _ (by omega))
  have r2_67 := r2_66.kept (o2 _ (by omega))
  have r3_67 := r3_66.kept (o2 _ (by omega))
  have r4_67 := r4_66.kept (o2 _ (by omega))
  have r5_67 := r5_66.kept (o2 _ (by omega))
  have r6_67 := r6_66.kept (o2 _ (by omega))
  have r7_67 := r7_66.kept (o2 _ (by omega))
  have r8_67 := r8_66.kept (o2 _ (by omega))
  have r9_67 := r9_66.kept (o2 _ (by omega))
  have r10_67 : cI G 0 (b + 9) 53 (lstI [112, 108, 101, 100, 103, 101, 32, 114, 101, 100, 101, 101, 109, 32, 101, 120, 116, 101, 110, 100, 32, 100, 97, 121, 115, 32, 112, 114, 105, 99, 101, 32, 114, 97, 116, 101, 32, 98, 105, 100, 32, 115, 101, 108, 108, 32]) H2_67 := c2.snoc (L := [112, 108, 101, 100, 103, 101, 32, 114, 101, 100, 101, 101, 109, 32, 101, 120, 116, 101, 110, 100, 32, 100, 97, 121, 115, 32, 112, 114, 105, 99, 101, 32, 114, 97, 116, 101, 32, 98, 105, 100, 32, 115, 101, 108, 108]) rfl
  have oC_67 : ∀ q : Nat, q < b → q ≠ a → H2_67[q]? = (wS x).heap[q]? := fun q h1 h2 => (o2 q (by omega)).trans (oC_66 q h1 h2)
  have zc_67 : H2_67.size = b + 10 := z2.trans zc_66
  clear c2 z2 o2
  clear H2_66 hS_66 ha_66 r1_66 r2_66 r3_66 r4_66 r5_66 r6_66 r7_66 r8_66 r9_66 r10_66 oC_66 zc_66
  refine k_dup hg hy rfl (by decide +kernel) ?_
  refine k_bipush (z := 46) (v := (46 : Int32)) hg hy (by decide) (by decide +kernel) ?_
  refine k_bipush (z := 101) (v := (101 : Int32)) hg hy (by decide) (by decide +kernel) ?_
  show KW x _ _ _ _ 371 _ _
  refine k_iastk (k := 46) hg hy hwG (by decide +kernel) r10_67 (by unfold vp_in; decide) (by decide) (show G.2.2.1 ≤ (b + 9) by omega) hS_67 (fun H2_68 locs2_68 c2 z2 o2 hS_68 => ?_)
  have ha_68 := ha_67.kept (o2 _ (by omega))
  have r1_68 := r1_67.kept (o2 _ (by omega))
  have r2_68 := r2_67.kept (o2 _ (by omega))
  have r3_68 := r3_67.kept (o2 _ (by omega))
  have r4_68 := r4_67.kept (o2 _ (by omega))
  have r5_68 := r5_67.kept (o2 _ (by omega))
  have r6_68 := r6_67.kept (o2 _ (by omega))
  have r7_68 := r7_67.kept (o2 _ (by omega))
  have r8_68 := r8_67.kept (o2 _ (by omega))
  have r9_68 := r9_67.kept (o2 _ (by omega))
  have r10_68 : cI G 0 (b + 9) 53 (lstI [112, 108, 101, 100, 103, 101, 32, 114, 101, 100, 101, 101, 109, 32, 101, 120, 116, 101, 110, 100, 32, 100, 97, 121, 115, 32, 112, 114, 105, 99, 101, 32, 114, 97, 116, 101, 32, 98, 105, 100, 32, 115, 101, 108, 108, 32, 101]) H2_68 := c2.snoc (L := [112, 108, 101, 100, 103, 101, 32, 114, 101, 100, 101, 101, 109, 32, 101, 120, 116, 101, 110, 100, 32, 100, 97, 121, 115, 32, 112, 114, 105, 99, 101, 32, 114, 97, 116, 101, 32, 98, 105, 100, 32, 115, 101, 108, 108, 32]) rfl
  have oC_68 : ∀ q : Nat, q < b → q ≠ a → H2_68[q]? = (wS x).heap[q]? := fun q h1 h2 => (o2 q (by omega)).trans (oC_67 q h1 h2)
  have zc_68 : H2_68.size = b + 10 := z2.trans zc_67
  clear c2 z2 o2
  clear H2_67 hS_67 ha_67 r1_67 r2_67 r3_67 r4_67 r5_67 r6_67 r7_67 r8_67 r9_67 r10_67 oC_67 zc_67
  refine k_dup hg hy rfl (by decide +kernel) ?_
  refine k_bipush (z := 47) (v := (47 : Int32)) hg hy (by decide) (by decide +kernel) ?_
  refine k_bipush (z := 118) (v := (118 : Int32)) hg hy (by decide) (by decide +kernel) ?_
  show KW x _ _ _ _ 377 _ _
  refine k_iastk (k := 47) hg hy hwG (by decide +kernel) r10_68 (by unfold vp_in; decide) (by decide) (show G.2.2.1 ≤ (b + 9) by omega) hS_68 (fun H2_69 locs2_69 c2 z2 o2 hS_69 => ?_)
  have ha_69 := ha_68.kept (o2 _ (by omega))
  have r1_69 := r1_68.kept (o2 _ (by omega))
  have r2_69 := r2_68.kept (o2 _ (by omega))
  have r3_69 := r3_68.kept (o2 _ (by omega))
  have r4_69 := r4_68.kept (o2 _ (by omega))
  have r5_69 := r5_68.kept (o2 _ (by omega))
  have r6_69 := r6_68.kept (o2 _ (by omega))
  have r7_69 := r7_68.kept (o2 _ (by omega))
  have r8_69 := r8_68.kept (o2 _ (by omega))
  have r9_69 := r9_68.kept (o2 _ (by omega))
  have r10_69 : cI G 0 (b + 9) 53 (lstI [112, 108, 101, 100, 103, 101, 32, 114, 101, 100, 101, 101, 109, 32, 101, 120, 116, 101, 110, 100, 32, 100, 97, 121, 115, 32, 112, 114, 105, 99, 101, 32, 114, 97, 116, 101, 32, 98, 105, 100, 32, 115, 101, 108, 108, 32, 101, 118]) H2_69 := c2.snoc (L := [112, 108, 101, 100, 103, 101, 32, 114, 101, 100, 101, 101, 109, 32, 101, 120, 116, 101, 110, 100, 32, 100, 97, 121, 115, 32, 112, 114, 105, 99, 101, 32, 114, 97, 116, 101, 32, 98, 105, 100, 32, 115, 101, 108, 108, 32, 101]) rfl
  have oC_69 : ∀ q : Nat, q < b → q ≠ a → H2_69[q]? = (wS x).heap[q]? := fun q h1 h2 => (o2 q (by omega)).trans (oC_68 q h1 h2)
  have zc_69 : H2_69.size = b + 10 := z2.trans zc_68
  clear c2 z2 o2
  clear H2_68 hS_68 ha_68 r1_68 r2_68 r3_68 r4_68 r5_68 r6_68 r7_68 r8_68 r9_68 r10_68 oC_68 zc_68
  refine k_dup hg hy rfl (by decide +kernel) ?_
  refine k_bipush (z := 48) (v := (48 : Int32)) hg hy (by decide) (by decide +kernel) ?_
  refine k_bipush (z := 101) (v := (101 : Int32)) hg hy (by decide) (by decide +kernel) ?_
  show KW x _ _ _ _ 383 _ _
  refine k_iastk (k := 48) hg hy hwG (by decide +kernel) r10_69 (by unfold vp_in; decide) (by decide) (show G.2.2.1 ≤ (b + 9) by omega) hS_69 (fun H2_70 locs2_70 c2 z2 o2 hS_70 => ?_)
  have ha_70 := ha_69.kept (o2 _ (by omega))
  have r1_70 := r1_69.kept (o2 _ (by omega))
  have r2_70 := r2_69.kept (o2 _ (by omega))
  have r3_70 := r3_69.kept (o2 _ (by omega))
  have r4_70 := r4_69.kept (o2 _ (by omega))
  have r5_70 := r5_69.kept (o2 _ (by omega))
  have r6_70 := r6_69.kept (o2 _ (by omega))
  have r7_70 := r7_69.kept (o2 _ (by omega))
  have r8_70 := r8_69.kept (o2 _ (by omega))
  have r9_70 := r9_69.kept (o2 _ (by omega))
  have r10_70 : cI G 0 (b + 9) 53 (lstI [112, 108, 101, 100, 103, 101, 32, 114, 101, 100, 101, 101, 109, 32, 101, 120, 116, 101, 110, 100, 32, 100, 97, 121, 115, 32, 112, 114, 105, 99, 101, 32, 114, 97, 116, 101, 32, 98, 105, 100, 32, 115, 101, 108, 108, 32, 101, 118, 101]) H2_70 := c2.snoc (L := [112, 108, 101, 100, 103, 101, 32, 114, 101, 100, 101, 101, 109, 32, 101, 120, 116, 101, 110, 100, 32, 100, 97, 121, 115, 32, 112, 114, 105, 99, 101, 32, 114, 97, 116, 101, 32, 98, 105, 100, 32, 115, 101, 108, 108, 32, 101, 118]) rfl
  have oC_70 : ∀ q : Nat, q < b → q ≠ a → H2_70[q]? = (wS x).heap[q]? := fun q h1 h2 => (o2 q (by omega)).trans (oC_69 q h1 h2)
  have zc_70 : H2_70.size = b + 10 := z2.trans zc_69
  clear c2 z2 o2
  clear H2_69 hS_69 ha_69 r1_69 r2_69 r3_69 r4_69 r5_69 r6_69 r7_69 r8_69 r9_69 r10_69 oC_69 zc_69
  refine k_dup hg hy rfl (by decide +kernel) ?_
  refine k_bipush (z := 49) (v := (49 : Int32)) hg hy (by decide) (by decide +kernel) ?_
  refine k_bipush (z := 110) (v := (110 : Int32)) hg hy (by decide) (by decide +kernel) ?_
  show KW x _ _ _ _ 389 _ _
  refine k_iastk (k := 49) hg hy hwG (by decide +kernel) r10_70 (by unfold vp_in; decide) (by decide) (show G.2.2.1 ≤ (b + 9) by omega) hS_70 (fun H2_71 locs2_71 c2 z2 o2 hS_71 => ?_)
  have ha_71 := ha_70.kept (o2 _ (by omega))
  have r1_71 := r1_70.kept (o2 _ (by omega))
  have r2_71 := r2_70.kept (o2 _ (by omega))
  have r3_71 := r3_70.kept (o2 _ (by omega))
  have r4_71 := r4_70.kept (o2 _ (by omega))
  have r5_71 := r5_70.kept (o2 _ (by omega))
  have r6_71 := r6_70.kept (o2 _ (by omega))
  have r7_71 := r7_70.kept (o2 _ (by omega))
  have r8_71 := r8_70.kept (o2 _ (by omega))
  have r9_71 := r9_70.kept (o2 _ (by omega))
  have r10_71 : cI G 0 (b + 9) 53 (lstI [112, 108, 101, 100, 103, 101, 32, 114, 101, 100, 101, 101, 109, 32, 101, 120, 116, 101, 110, 100, 32, 100, 97, 121, 115, 32, 112, 114, 105, 99, 101, 32, 114, 97, 116, 101, 32, 98, 105, 100, 32, 115, 101, 108, 108, 32, 101, 118, 101, 110]) H2_71 := c2.snoc (L := [112, 108, 101, 100, 103, 101, 32, 114, 101, 100, 101, 101, 109, 32, 101, 120, 116, 101, 110, 100, 32, 100, 97, 121, 115, 32, 112, 114, 105, 99, 101, 32, 114, 97, 116, 101, 32, 98, 105, 100, 32, 115, 101, 108, 108, 32, 101, 118, 101]) rfl
  have oC_71 : ∀ q : Nat, q < b → q ≠ a → H2_71[q]? = (wS x).heap[q]? := fun q h1 h2 => (o2 q (by omega)).trans (oC_70 q h1 h2)
  have zc_71 : H2_71.size = b + 10 := z2.trans zc_70
  clear c2 z2 o2
  clear H2_70 hS_70 ha_70 r1_70 r2_70 r3_70 r4_70 r5_70 r6_70 r7_70 r8_70 r9_70 r10_70 oC_70 zc_70
  refine k_dup hg hy rfl (by decide +kernel) ?_
  refine k_bipush (z := 50) (v := (50 : Int32)) hg hy (by decide) (by decide +kernel) ?_
  refine k_bipush (z := 105) (v := (105 : Int32)) hg hy (by decide) (by decide +kernel) ?_
  show KW x _ _ _ _ 395 _ _
  refine k_iastk (k := 50) hg hy hwG (by decide +kernel) r10_71 (by unfold vp_in; decide) (by decide) (show G.2.2.1 ≤ (b + 9) by omega) hS_71 (fun H2_72 locs2_72 c2 z2 o2 hS_72 => ?_)
  have ha_72 := ha_71.kept (o2 _ (by omega))
  have r1_72 := r1_71.kept (o2 _ (by omega))
  have r2_72 := r2_71.kept (o2 _ (by omega))
  have r3_72 := r3_71.kept (o2 _ (by omega))
  have r4_72 := r4_71.kept (o2 _ (by omega))
  have r5_72 := r5_71.kept (o2 _ (by omega))
  have r6_72 := r6_71.kept (o2 _ (by omega))
  have r7_72 := r7_71.kept (o2 _ (by omega))
  have r8_72 := r8_71.kept (o2 _ (by omega))
  have r9_72 := r9_71.kept (o2 _ (by omega))
  have r10_72 : cI G 0 (b + 9) 53 (lstI [112, 108, 101, 100, 103, 101, 32, 114, 101, 100, 101, 101, 109, 32, 101, 120, 116, 101, 110, 100, 32, 100, 97, 121, 115, 32, 112, 114, 105, 99, 101, 32, 114, 97, 116, 101, 32, 98, 105, 100, 32, 115, 101, 108, 108, 32, 101, 118, 101, 110, 105]) H2_72 := c2.snoc (L := [112, 108, 101, 100, 103, 101, 32, 114, 101, 100, 101, 101, 109, 32, 101, 120, 116, 101, 110, 100, 32, 100, 97, 121, 115, 32, 112, 114, 105, 99, 101, 32, 114, 97, 116, 101, 32, 98, 105, 100, 32, 115, 101, 108, 108, 32, 101, 118, 101, 110]) rfl
  have oC_72 : ∀ q : Nat, q < b → q ≠ a → H2_72[q]? = (wS x).heap[q]? := fun q h1 h2 => (o2 q (by omega)).trans (oC_71 q h1 h2)
  have zc_72 : H2_72.size = b + 10 := z2.trans zc_71
  clear c2 z2 o2
  clear H2_71 hS_71 ha_71 r1_71 r2_71 r3_71 r4_71 r5_71 r6_71 r7_71 r8_71 r9_71 r10_71 oC_71 zc_71
  refine k_dup hg hy rfl (by decide +kernel) ?_
  refine k_bipush (z := 51) (v := (51 : Int32)) hg hy (by decide) (by decide +kernel) ?_
  refine k_bipush (z := 110) (v := (110 : Int32)) hg hy (by decide) (by decide +kernel) ?_
  show KW x _ _ _ _ 401 _ _
  refine k_iastk (k := 51) hg hy hwG (by decide +kernel) r10_72 (by unfold vp_in; decide) (by decide) (show G.2.2.1 ≤ (b + 9) by omega) hS_72 (fun H2_73 locs2_73 c2 z2 o2 hS_73 => ?_)
  have ha_73 := ha_72.kept (o2 _ (by omega))
  have r1_73 := r1_72.kept (o2 _ (by omega))
  have r2_73 := r2_72.kept (o2 _ (by omega))
  have r3_73 := r3_72.kept (o2 _ (by omega))
  have r4_73 := r4_72.kept (o2 _ (by omega))
  have r5_73 := r5_72.kept (o2 _ (by omega))
  have r6_73 := r6_72.kept (o2 _ (by omega))
  have r7_73 := r7_72.kept (o2 _ (by omega))
  have r8_73 := r8_72.kept (o2 _ (by omega))
  have r9_73 := r9_72.kept (o2 _ (by omega))
  have r10_73 : cI G 0 (b + 9) 53 (lstI [112, 108, 101, 100, 103, 101, 32, 114, 101, 100, 101, 101, 109, 32, 101, 120, 116, 101, 110, 100, 32, 100, 97, 121, 115, 32, 112, 114, 105, 99, 101, 32, 114, 97, 116, 101, 32, 98, 105, 100, 32, 115, 101, 108, 108, 32, 101, 118, 101, 110, 105, 110]) H2_73 := c2.snoc (L := [112, 108, 101, 100, 103, 101, 32, 114, 101, 100, 101, 101, 109, 32, 101, 120, 116, 101, 110, 100, 32, 100, 97, 121, 115, 32, 112, 114, 105, 99, 101, 32, 114, 97, 116, 101, 32, 98, 105, 100, 32, 115, 101, 108, 108, 32, 101, 118, 101, 110, 105]) rfl
  have oC_73 : ∀ q : Nat, q < b → q ≠ a → H2_73[q]? = (wS x).heap[q]? := fun q h1 h2 => (o2 q (by omega)).trans (oC_72 q h1 h2)
  have zc_73 : H2_73.size = b + 10 := z2.trans zc_72
  clear c2 z2 o2
  clear H2_72 hS_72 ha_72 r1_72 r2_72 r3_72 r4_72 r5_72 r6_72 r7_72 r8_72 r9_72 r10_72 oC_72 zc_72
  refine k_dup hg hy rfl (by decide +kernel) ?_
  refine k_bipush (z := 52) (v := (52 : Int32)) hg hy (by decide) (by decide +kernel) ?_
  refine k_bipush (z := 103) (v := (103 : Int32)) hg hy (by decide) (by decide +kernel) ?_
  show KW x _ _ _ _ 407 _ _
  refine k_iastk (k := 52) hg hy hwG (by decide +kernel) r10_73 (by unfold vp_in; decide) (by decide) (show G.2.2.1 ≤ (b + 9) by omega) hS_73 (fun H2_74 locs2_74 c2 z2 o2 hS_74 => ?_)
  have ha_74 := ha_73.kept (o2 _ (by omega))
  have r1_74 := r1_73.kept (o2 _ (by omega))
  have r2_74 := r2_73.kept (o2 _ (by omega))
  have r3_74 := r3_73.kept (o2 _ (by omega))
  have r4_74 := r4_73.kept (o2 _ (by omega))
  have r5_74 := r5_73.kept (o2 _ (by omega))
  have r6_74 := r6_73.kept (o2 _ (by omega))
  have r7_74 := r7_73.kept (o2 _ (by omega))
  have r8_74 := r8_73.kept (o2 _ (by omega))
  have r9_74 := r9_73.kept (o2 _ (by omega))
  have r10_74 : cI G 0 (b + 9) 53 (lstI [112, 108, 101, 100, 103, 101, 32, 114, 101, 100, 101, 101, 109, 32, 101, 120, 116, 101, 110, 100, 32, 100, 97, 121, 115, 32, 112, 114, 105, 99, 101, 32, 114, 97, 116, 101, 32, 98, 105, 100, 32, 115, 101, 108, 108, 32, 101, 118, 101, 110, 105, 110, 103]) H2_74 := c2.snoc (L := [112, 108, 101, 100, 103, 101, 32, 114, 101, 100, 101, 101, 109, 32, 101, 120, 116, 101, 110, 100, 32, 100, 97, 121, 115, 32, 112, 114, 105, 99, 101, 32, 114, 97, 116, 101, 32, 98, 105, 100, 32, 115, 101, 108, 108, 32, 101, 118, 101, 110, 105, 110]) rfl
  have oC_74 : ∀ q : Nat, q < b → q ≠ a → H2_74[q]? = (wS x).heap[q]? := fun q h1 h2 => (o2 q (by omega)).trans (oC_73 q h1 h2)
  have zc_74 : H2_74.size = b + 10 := z2.trans zc_73
  clear c2 z2 o2
  clear H2_73 hS_73 ha_73 r1_73 r2_73 r3_73 r4_73 r5_73 r6_73 r7_73 r8_73 r9_73 r10_73 oC_73 zc_73
  show KW x _ _ _ _ 408 _ _
  refine k_put (idx := 44) (ci := 13) (k := 14) (a := a) (fs := [.int 0, .int 0, .int (-1), .int (-1), .int 0, .ref b, .ref (b + 1), .ref (b + 2), .ref (b + 3), .ref (b + 4), .ref (b + 5), .ref (b + 6), .ref (b + 7), .ref (b + 8), .null, .null, .int 0, .int 0, .int 0, .int 0, .int 0, .int 0]) hg hy hwG hnm (by decide +kernel) ⟨RX11, TX11, 22, tyX11, (.array .int), rfl, by decide, (TBg_at 1613 (by decide +kernel)), lay_X11, tyX11_ok, nmX11, rfl, rfl, rfl, rfl⟩ ha_74 (Nat.le_of_ble_eq_true rfl) haA hS_74 (fun H2_75 locs2_75 ha_75 z2 o2 hS_75 => ?_)
  change cO G a 13 [.int 0, .int 0, .int (-1), .int (-1), .int 0, .ref b, .ref (b + 1), .ref (b + 2), .ref (b + 3), .ref (b + 4), .ref (b + 5), .ref (b + 6), .ref (b + 7), .ref (b + 8), .ref (b + 9), .null, .int 0, .int 0, .int 0, .int 0, .int 0, .int 0] H2_75 at ha_75
  have r1_75 := r1_74.kept (o2 _ (by omega))
  have r2_75 := r2_74.kept (o2 _ (by omega))
  have r3_75 := r3_74.kept (o2 _ (by omega))
  have r4_75 := r4_74.kept (o2 _ (by omega))
  have r5_75 := r5_74.kept (o2 _ (by omega))
  have r6_75 := r6_74.kept (o2 _ (by omega))
  have r7_75 := r7_74.kept (o2 _ (by omega))
  have r8_75 := r8_74.kept (o2 _ (by omega))
  have r9_75 := r9_74.kept (o2 _ (by omega))
  have r10_75 := r10_74.kept (o2 _ (by omega))
  have oC_75 : ∀ q : Nat, q < b → q ≠ a → H2_75[q]? = (wS x).heap[q]? := fun q h1 h2 => (o2 q h2).trans (oC_74 q h1 h2)
  have zc_75 : H2_75.size = b + 10 := z2.trans zc_74
  clear z2 o2
  clear H2_74 hS_74 ha_74 r1_74 r2_74 r3_74 r4_74 r5_74 r6_74 r7_74 r8_74 r9_74 r10_74 oC_74 zc_74
  refine k_aload_n (f := 0) (i := 0) hg hy (by decide +kernel) rfl rfl rfl ?_
  refine k_bipush (z := 10) (v := (10 : Int32)) hg hy (by decide) (by decide +kernel) ?_
  show KW x _ _ _ _ 414 _ _
  refine k_newa (atype := .int) (t := 0) (N := 10) (a0 := (10, .inl (fun _ => 0))) hg hy hwG (by decide +kernel) (TBg_at 129 (by decide +kernel)) rfl (fun _ => rfl) (by decide) (by decide) (Nat.le_of_ble_eq_true rfl) hS_75 (Nat.le_of_ble_eq_true rfl) (Nat.le_of_ble_eq_true rfl) (fun H2_76 c2 z2 o2 hS_76 => ?_)
  rw [zc_75] at c2 z2 o2 ⊢
  have ha_76 := ha_75.kept (o2 _ (by omega))
  have r1_76 := r1_75.kept (o2 _ (by omega))
  have r2_76 := r2_75.kept (o2 _ (by omega))
  have r3_76 := r3_75.kept (o2 _ (by omega))
  have r4_76 := r4_75.kept (o2 _ (by omega))
  have r5_76 := r5_75.kept (o2 _ (by omega))
  have r6_76 := r6_75.kept (o2 _ (by omega))
  have r7_76 := r7_75.kept (o2 _ (by omega))
  have r8_76 := r8_75.kept (o2 _ (by omega))
  have r9_76 := r9_75.kept (o2 _ (by omega))
  have r10_76 := r10_75.kept (o2 _ (by omega))
  have oC_76 : ∀ q : Nat, q < b → q ≠ a → H2_76[q]? = (wS x).heap[q]? := fun q h1 h2 => (o2 q (by omega)).trans (oC_75 q h1 h2)
  have zc_76 : H2_76.size = b + 11 := by omega
  have r11_76 : cI G 0 (b + 10) 10 (fun _ => 0) H2_76 := c2
  clear c2 z2 o2
  clear H2_75 ha_75 hS_75 r1_75 r2_75 r3_75 r4_75 r5_75 r6_75 r7_75 r8_75 r9_75 r10_75 oC_75 zc_75
  replace r11_76 := r11_76.nil
  refine k_dup hg hy rfl (by decide +kernel) ?_
  refine k_iconst (z := 0) (v := (0 : Int32)) hg hy (by decide) (by decide +kernel) ?_
  refine k_iconst (z := 0) (v := (0 : Int32)) hg hy (by decide) (by decide +kernel) ?_
  show KW x _ _ _ _ 419 _ _
  refine k_iastk (k := 0) hg hy hwG (by decide +kernel) r11_76 (by unfold vp_in; decide) (by decide) (show G.2.2.1 ≤ (b + 10) by omega) hS_76 (fun H2_77 locs2_77 c2 z2 o2 hS_77 => ?_)
  have ha_77 := ha_76.kept (o2 _ (by omega))
  have r1_77 := r1_76.kept (o2 _ (by omega))
  have r2_77 := r2_76.kept (o2 _ (by omega))
  have r3_77 := r3_76.kept (o2 _ (by omega))
  have r4_77 := r4_76.kept (o2 _ (by omega))
  have r5_77 := r5_76.kept (o2 _ (by omega))
  have r6_77 := r6_76.kept (o2 _ (by omega))
  have r7_77 := r7_76.kept (o2 _ (by omega))
  have r8_77 := r8_76.kept (o2 _ (by omega))
  have r9_77 := r9_76.kept (o2 _ (by omega))
  have r10_77 := r10_76.kept (o2 _ (by omega))
  have r11_77 : cI G 0 (b + 10) 10 (lstI [0]) H2_77 := c2.snoc (L := []) rfl
  have oC_77 : ∀ q : Nat, q < b → q ≠ a → H2_77[q]? = (wS x).heap[q]? := fun q h1 h2 => (o2 q (by omega)).trans (oC_76 q h1 h2)
  have zc_77 : H2_77.size = b + 11 := z2.trans zc_76
  clear c2 z2 o2
  clear H2_76 hS_76 ha_76 r1_76 r2_76 r3_76 r4_76 r5_76 r6_76 r7_76 r8_76 r9_76 r10_76 oC_76 zc_76 r11_76
  refine k_dup hg hy rfl (by decide +kernel) ?_
  refine k_iconst (z := 1) (v := (1 : Int32)) hg hy (by decide) (by decide +kernel) ?_
  refine k_bipush (z := 7) (v := (7 : Int32)) hg hy (by decide) (by decide +kernel) ?_
  show KW x _ _ _ _ 424 _ _
  refine k_iastk (k := 1) hg hy hwG (by decide +kernel) r11_77 (by unfold vp_in; decide) (by decide) (show G.2.2.1 ≤ (b + 10) by omega) hS_77 (fun H2_78 locs2_78 c2 z2 o2 hS_78 => ?_)
  have ha_78 := ha_77.kept (o2 _ (by omega))
  have r1_78 := r1_77.kept (o2 _ (by omega))
  have r2_78 := r2_77.kept (o2 _ (by omega))
  have r3_78 := r3_77.kept (o2 _ (by omega))
  have r4_78 := r4_77.kept (o2 _ (by omega))
  have r5_78 := r5_77.kept (o2 _ (by omega))
  have r6_78 := r6_77.kept (o2 _ (by omega))
  have r7_78 := r7_77.kept (o2 _ (by omega))
  have r8_78 := r8_77.kept (o2 _ (by omega))
  have r9_78 := r9_77.kept (o2 _ (by omega))
  have r10_78 := r10_77.kept (o2 _ (by omega))
  have r11_78 : cI G 0 (b + 10) 10 (lstI [0, 7]) H2_78 := c2.snoc (L := [0]) rfl
  have oC_78 : ∀ q : Nat, q < b → q ≠ a → H2_78[q]? = (wS x).heap[q]? := fun q h1 h2 => (o2 q (by omega)).trans (oC_77 q h1 h2)
  have zc_78 : H2_78.size = b + 11 := z2.trans zc_77
  clear c2 z2 o2
  clear H2_77 hS_77 ha_77 r1_77 r2_77 r3_77 r4_77 r5_77 r6_77 r7_77 r8_77 r9_77 r10_77 r11_77 oC_77 zc_77
  refine k_dup hg hy rfl (by decide +kernel) ?_
  refine k_iconst (z := 2) (v := (2 : Int32)) hg hy (by decide) (by decide +kernel) ?_
  refine k_bipush (z := 14) (v := (14 : Int32)) hg hy (by decide) (by decide +kernel) ?_
  show KW x _ _ _ _ 429 _ _
  refine k_iastk (k := 2) hg hy hwG (by decide +kernel) r11_78 (by unfold vp_in; decide) (by decide) (show G.2.2.1 ≤ (b + 10) by omega) hS_78 (fun H2_79 locs2_79 c2 z2 o2 hS_79 => ?_)
  have ha_79 := ha_78.kept (o2 _ (by omega))
  have r1_79 := r1_78.kept (o2 _ (by omega))
  have r2_79 := r2_78.kept (o2 _ (by omega))
  have r3_79 := r3_78.kept (o2 _ (by omega))
  have r4_79 := r4_78.kept (o2 _ (by omega))
  have r5_79 := r5_78.kept (o2 _ (by omega))
  have r6_79 := r6_78.kept (o2 _ (by omega))
  have r7_79 := r7_78.kept (o2 _ (by omega))
  have r8_79 := r8_78.kept (o2 _ (by omega))
  have r9_79 := r9_78.kept (o2 _ (by omega))
  have r10_79 := r10_78.kept (o2 _ (by omega))
  have r11_79 : cI G 0 (b + 10) 10 (lstI [0, 7, 14]) H2_79 := c2.snoc (L := [0, 7]) rfl
  have oC_79 : ∀ q : Nat, q < b → q ≠ a → H2_79[q]? = (wS x).heap[q]? := fun q h1 h2 => (o2 q (by omega)).trans (oC_78 q h1 h2)
  have zc_79 : H2_79.size = b + 11 := z2.trans zc_78
  clear c2 z2 o2
  clear H2_78 hS_78 ha_78 r1_78 r2_78 r3_78 r4_78 r5_78 r6_78 r7_78 r8_78 r9_78 r10_78 r11_78 oC_78 zc_78
  refine k_dup hg hy rfl (by decide +kernel) ?_
  refine k_iconst (z := 3) (v := (3 : Int32)) hg hy (by decide) (by decide +kernel) ?_
  refine k_bipush (z := 21) (v := (21 : Int32)) hg hy (by decide) (by decide +kernel) ?_
  show KW x _ _ _ _ 434 _ _
  refine k_iastk (k := 3) hg hy hwG (by decide +kernel) r11_79 (by unfold vp_in; decide) (by decide) (show G.2.2.1 ≤ (b + 10) by omega) hS_79 (fun H2_80 locs2_80 c2 z2 o2 hS_80 => ?_)
  have ha_80 := ha_79.kept (o2 _ (by omega))
  have r1_80 := r1_79.kept (o2 _ (by omega))
  have r2_80 := r2_79.kept (o2 _ (by omega))
  have r3_80 := r3_79.kept (o2 _ (by omega))
  have r4_80 := r4_79.kept (o2 _ (by omega))
  have r5_80 := r5_79.kept (o2 _ (by omega))
  have r6_80 := r6_79.kept (o2 _ (by omega))
  have r7_80 := r7_79.kept (o2 _ (by omega))
  have r8_80 := r8_79.kept (o2 _ (by omega))
  have r9_80 := r9_79.kept (o2 _ (by omega))
  have r10_80 := r10_79.kept (o2 _ (by omega))
  have r11_80 : cI G 0 (b + 10) 10 (lstI [0, 7, 14, 21]) H2_80 := c2.snoc (L := [0, 7, 14]) rfl
  have oC_80 : ∀ q : Nat, q < b → q ≠ a → H2_80[q]? = (wS x).heap[q]? := fun q h1 h2 => (o2 q (by omega)).trans (oC_79 q h1 h2)
  have zc_80 : H2_80.size = b + 11 := z2.trans zc_79
  clear c2 z2 o2
  clear H2_79 hS_79 ha_79 r1_79 r2_79 r3_79 r4_79 r5_79 r6_79 r7_79 r8_79 r9_79 r10_79 r11_79 oC_79 zc_79
  refine k_dup hg hy rfl (by decide +kernel) ?_
  refine k_iconst (z := 4) (v := (4 : Int32)) hg hy (by decide) (by decide +kernel) ?_
  refine k_bipush (z := 26) (v := (26 : Int32)) hg hy (by decide) (by decide +kernel) ?_
  show KW x _ _ _ _ 439 _ _
  refine k_iastk (k := 4) hg hy hwG (by decide +kernel) r11_80 (by unfold vp_in; decide) (by decide) (show G.2.2.1 ≤ (b + 10) by omega) hS_80 (fun H2_81 locs2_81 c2 z2 o2 hS_81 => ?_)
  have ha_81 := ha_80.kept (o2 _ (by omega))
  have r1_81 := r1_80.kept (o2 _ (by omega))
  have r2_81 := r2_80.kept (o2 _ (by omega))
  have r3_81 := r3_80.kept (o2 _ (by omega))
  have r4_81 := r4_80.kept (o2 _ (by omega))
  have r5_81 := r5_80.kept (o2 _ (by omega))
  have r6_81 := r6_80.kept (o2 _ (by omega))
  have r7_81 := r7_80.kept (o2 _ (by omega))
  have r8_81 := r8_80.kept (o2 _ (by omega))
  have r9_81 := r9_80.kept (o2 _ (by omega))
  have r10_81 := r10_80.kept (o2 _ (by omega))
  have r11_81 : cI G 0 (b + 10) 10 (lstI [0, 7, 14, 21, 26]) H2_81 := c2.snoc (L := [0, 7, 14, 21]) rfl
  have oC_81 : ∀ q : Nat, q < b → q ≠ a → H2_81[q]? = (wS x).heap[q]? := fun q h1 h2 => (o2 q (by omega)).trans (oC_80 q h1 h2)
  have zc_81 : H2_81.size = b + 11 := z2.trans zc_80
  clear c2 z2 o2
  clear H2_80 hS_80 ha_80 r1_80 r2_80 r3_80 r4_80 r5_80 r6_80 r7_80 r8_80 r9_80 r10_80 r11_80 oC_80 zc_80
  refine k_dup hg hy rfl (by decide +kernel) ?_
  refine k_iconst (z := 5) (v := (5 : Int32)) hg hy (by decide) (by decide +kernel) ?_
  refine k_bipush (z := 32) (v := (32 : Int32)) hg hy (by decide) (by decide +kernel) ?_
  show KW x _ _ _ _ 444 _ _
  refine k_iastk (k := 5) hg hy hwG (by decide +kernel) r11_81 (by unfold vp_in; decide) (by decide) (show G.2.2.1 ≤ (b + 10) by omega) hS_81 (fun H2_82 locs2_82 c2 z2 o2 hS_82 => ?_)
  have ha_82 := ha_81.kept (o2 _ (by omega))
  have r1_82 := r1_81.kept (o2 _ (by omega))
  have r2_82 := r2_81.kept (o2 _ (by omega))
  have r3_82 := r3_81.kept (o2 _ (by omega))
  have r4_82 := r4_81.kept (o2 _ (by omega))
  have r5_82 := r5_81.kept (o2 _ (by omega))
  have r6_82 := r6_81.kept (o2 _ (by omega))
  have r7_82 := r7_81.kept (o2 _ (by omega))
  have r8_82 := r8_81.kept (o2 _ (by omega))
  have r9_82 := r9_81.kept (o2 _ (by omega))
  have r10_82 := r10_81.kept (o2 _ (by omega))
  have r11_82 : cI G 0 (b + 10) 10 (lstI [0, 7, 14, 21, 26, 32]) H2_82 := c2.snoc (L := [0, 7, 14, 21, 26]) rfl
  have oC_82 : ∀ q : Nat, q < b → q ≠ a → H2_82[q]? = (wS x).heap[q]? := fun q h1 h2 => (o2 q (by omega)).trans (oC_81 q h1 h2)
  have zc_82 : H2_82.size = b + 11 := z2.trans zc_81
  clear c2 z2 o2
  clear H2_81 hS_81 ha_81 r1_81 r2_81 r3_81 r4_81 r5_81 r6_81 r7_81 r8_81 r9_81 r10_81 r11_81 oC_81 zc_81
  refine k_dup hg hy rfl (by decide +kernel) ?_
  refine k_bipush (z := 6) (v := (6 : Int32)) hg hy (by decide) (by decide +kernel) ?_
  refine k_bipush (z := 37) (v := (37 : Int32)) hg hy (by decide) (by decide +kernel) ?_
  show KW x _ _ _ _ 450 _ _
  refine k_iastk (k := 6) hg hy hwG (by decide +kernel) r11_82 (by unfold vp_in; decide) (by decide) (show G.2.2.1 ≤ (b + 10) by omega) hS_82 (fun H2_83 locs2_83 c2 z2 o2 hS_83 => ?_)
  have ha_83 := ha_82.kept (o2 _ (by omega))
  have r1_83 := r1_82.kept (o2 _ (by omega))
  have r2_83 := r2_82.kept (o2 _ (by omega))
  have r3_83 := r3_82.kept (o2 _ (by omega))
  have r4_83 := r4_82.kept (o2 _ (by omega))
  have r5_83 := r5_82.kept (o2 _ (by omega))
  have r6_83 := r6_82.kept (o2 _ (by omega))
  have r7_83 := r7_82.kept (o2 _ (by omega))
  have r8_83 := r8_82.kept (o2 _ (by omega))
  have r9_83 := r9_82.kept (o2 _ (by omega))
  have r10_83 := r10_82.kept (o2 _ (by omega))
  have r11_83 : cI G 0 (b + 10) 10 (lstI [0, 7, 14, 21, 26, 32, 37]) H2_83 := c2.snoc (L := [0, 7, 14, 21, 26, 32]) rfl
  have oC_83 : ∀ q : Nat, q < b → q ≠ a → H2_83[q]? = (wS x).heap[q]? := fun q h1 h2 => (o2 q (by omega)).trans (oC_82 q h1 h2)
  have zc_83 : H2_83.size = b + 11 := z2.trans zc_82
  clear c2 z2 o2
  clear H2_82 hS_82 ha_82 r1_82 r2_82 r3_82 r4_82 r5_82 r6_82 r7_82 r8_82 r9_82 r10_82 r11_82 oC_82 zc_82
  refine k_dup hg hy rfl (by decide +kernel) ?_
  refine k_bipush (z := 7) (v := (7 : Int32)) hg hy (by decide) (by decide +kernel) ?_
  refine k_bipush (z := 41) (v := (41 : Int32)) hg hy (by decide) (by decide +kernel) ?_
  show KW x _ _ _ _ 456 _ _
  refine k_iastk (k := 7) hg hy hwG (by decide +kernel) r11_83 (by unfold vp_in; decide) (by decide) (show G.2.2.1 ≤ (b + 10) by omega) hS_83 (fun H2_84 locs2_84 c2 z2 o2 hS_84 => ?_)
  have ha_84 := ha_83.kept (o2 _ (by omega))
  have r1_84 := r1_83.kept (o2 _ (by omega))
  have r2_84 := r2_83.kept (o2 _ (by omega))
  have r3_84 := r3_83.kept (o2 _ (by omega))
  have r4_84 := r4_83.kept (o2 _ (by omega))
  have r5_84 := r5_83.kept (o2 _ (by omega))
  have r6_84 := r6_83.kept (o2 _ (by omega))
  have r7_84 := r7_83.kept (o2 _ (by omega))
  have r8_84 := r8_83.kept (o2 _ (by omega))
  have r9_84 := r9_83.kept (o2 _ (by omega))
  have r10_84 := r10_83.kept (o2 _ (by omega))
  have r11_84 : cI G 0 (b + 10) 10 (lstI [0, 7, 14, 21, 26, 32, 37, 41]) H2_84 := c2.snoc (L := [0, 7, 14, 21, 26, 32, 37]) rfl
  have oC_84 : ∀ q : Nat, q < b → q ≠ a → H2_84[q]? = (wS x).heap[q]? := fun q h1 h2 => (o2 q (by omega)).trans (oC_83 q h1 h2)
  have zc_84 : H2_84.size = b + 11 := z2.trans zc_83
  clear c2 z2 o2
  clear H2_83 hS_83 ha_83 r1_83 r2_83 r3_83 r4_83 r5_83 r6_83 r7_83 r8_83 r9_83 r10_83 r11_83 oC_83 zc_83
  refine k_dup hg hy rfl (by decide +kernel) ?_
  refine k_bipush (z := 8) (v := (8 : Int32)) hg hy (by decide) (by decide +kernel) ?_
  refine k_bipush (z := 46) (v := (46 : Int32)) hg hy (by decide) (by decide +kernel) ?_
  show KW x _ _ _ _ 462 _ _
  refine k_iastk (k := 8) hg hy hwG (by decide +kernel) r11_84 (by unfold vp_in; decide) (by decide) (show G.2.2.1 ≤ (b + 10) by omega) hS_84 (fun H2_85 locs2_85 c2 z2 o2 hS_85 => ?_)
  have ha_85 := ha_84.kept (o2 _ (by omega))
  have r1_85 := r1_84.kept (o2 _ (by omega))
  have r2_85 := r2_84.kept (o2 _ (by omega))
  have r3_85 := r3_84.kept (o2 _ (by omega))
  have r4_85 := r4_84.kept (o2 _ (by omega))
  have r5_85 := r5_84.kept (o2 _ (by omega))
  have r6_85 := r6_84.kept (o2 _ (by omega))
  have r7_85 := r7_84.kept (o2 _ (by omega))
  have r8_85 := r8_84.kept (o2 _ (by omega))
  have r9_85 := r9_84.kept (o2 _ (by omega))
  have r10_85 := r10_84.kept (o2 _ (by omega))
  have r11_85 : cI G 0 (b + 10) 10 (lstI [0, 7, 14, 21, 26, 32, 37, 41, 46]) H2_85 := c2.snoc (L := [0, 7, 14, 21, 26, 32, 37, 41]) rfl
  have oC_85 : ∀ q : Nat, q < b → q ≠ a → H2_85[q]? = (wS x).heap[q]? := fun q h1 h2 => (o2 q (by omega)).trans (oC_84 q h1 h2)
  have zc_85 : H2_85.size = b + 11 := z2.trans zc_84
  clear c2 z2 o2
  clear H2_84 hS_84 ha_84 r1_84 r2_84 r3_84 r4_84 r5_84 r6_84 r7_84 r8_84 r9_84 r10_84 r11_84 oC_84 zc_84
  refine k_dup hg hy rfl (by decide +kernel) ?_
  refine k_bipush (z := 9) (v := (9 : Int32)) hg hy (by decide) (by decide +kernel) ?_
  refine k_bipush (z := 53) (v := (53 : Int32)) hg hy (by decide) (by decide +kernel) ?_
  show KW x _ _ _ _ 468 _ _
  refine k_iastk (k := 9) hg hy hwG (by decide +kernel) r11_85 (by unfold vp_in; decide) (by decide) (show G.2.2.1 ≤ (b + 10) by omega) hS_85 (fun H2_86 locs2_86 c2 z2 o2 hS_86 => ?_)
  have ha_86 := ha_85.kept (o2 _ (by omega))
  have r1_86 := r1_85.kept (o2 _ (by omega))
  have r2_86 := r2_85.kept (o2 _ (by omega))
  have r3_86 := r3_85.kept (o2 _ (by omega))
  have r4_86 := r4_85.kept (o2 _ (by omega))
  have r5_86 := r5_85.kept (o2 _ (by omega))
  have r6_86 := r6_85.kept (o2 _ (by omega))
  have r7_86 := r7_85.kept (o2 _ (by omega))
  have r8_86 := r8_85.kept (o2 _ (by omega))
  have r9_86 := r9_85.kept (o2 _ (by omega))
  have r10_86 := r10_85.kept (o2 _ (by omega))
  have r11_86 : cI G 0 (b + 10) 10 (lstI [0, 7, 14, 21, 26, 32, 37, 41, 46, 53]) H2_86 := c2.snoc (L := [0, 7, 14, 21, 26, 32, 37, 41, 46]) rfl
  have oC_86 : ∀ q : Nat, q < b → q ≠ a → H2_86[q]? = (wS x).heap[q]? := fun q h1 h2 => (o2 q (by omega)).trans (oC_85 q h1 h2)
  have zc_86 : H2_86.size = b + 11 := z2.trans zc_85
  clear c2 z2 o2
  clear H2_85 hS_85 ha_85 r1_85 r2_85 r3_85 r4_85 r5_85 r6_85 r7_85 r8_85 r9_85 r10_85 r11_85 oC_85 zc_85
  show KW x _ _ _ _ 469 _ _
  refine k_put (idx := 47) (ci := 13) (k := 15) (a := a) (fs := [.int 0, .int 0, .int (-1), .int (-1), .int 0, .ref b, .ref (b + 1), .ref (b + 2), .ref (b + 3), .ref (b + 4), .ref (b + 5), .ref (b + 6), .ref (b + 7), .ref (b + 8), .ref (b + 9), .null, .int 0, .int 0, .int 0, .int 0, .int 0, .int 0]) hg hy hwG hnm (by decide +kernel) ⟨RX11, TX11, 22, tyX11, (.array .int), rfl, by decide, (TBg_at 1614 (by decide +kernel)), lay_X11, tyX11_ok, nmX11, rfl, rfl, rfl, rfl⟩ ha_86 (Nat.le_of_ble_eq_true rfl) haA hS_86 (fun H2_87 locs2_87 ha_87 z2 o2 hS_87 => ?_)
  change cO G a 13 [.int 0, .int 0, .int (-1), .int (-1), .int 0, .ref b, .ref (b + 1), .ref (b + 2), .ref (b + 3), .ref (b + 4), .ref (b + 5), .ref (b + 6), .ref (b + 7), .ref (b + 8), .ref (b + 9), .ref (b + 10), .int 0, .int 0, .int 0, .int 0, .int 0, .int 0] H2_87 at ha_87
  have r1_87 := r1_86.kept (o2 _ (by omega))
  have r2_87 := r2_86.kept (o2 _ (by omega))
  have r3_87 := r3_86.kept (o2 _ (by omega))
  have r4_87 := r4_86.kept (o2 _ (by omega))
  have r5_87 := r5_86.kept (o2 _ (by omega))
  have r6_87 := r6_86.kept (o2 _ (by omega))
  have r7_87 := r7_86.kept (o2 _ (by omega))
  have r8_87 := r8_86.kept (o2 _ (by omega))
  have r9_87 := r9_86.kept (o2 _ (by omega))
  have r10_87 := r10_86.kept (o2 _ (by omega))
  have r11_87 := r11_86.kept (o2 _ (by omega))
  have oC_87 : ∀ q : Nat, q < b → q ≠ a → H2_87[q]? = (wS x).heap[q]? := fun q h1 h2 => (o2 q h2).trans (oC_86 q h1 h2)
  have zc_87 : H2_87.size = b + 11 := z2.trans zc_86
  clear z2 o2
  clear H2_86 hS_86 ha_86 r1_86 r2_86 r3_86 r4_86 r5_86 r6_86 r7_86 r8_86 r9_86 r10_86 r11_86 oC_86 zc_86
  show KW x _ _ _ _ 472 _ _
  refine k_aload_n (f := 0) (i := 0) hg hy (by decide +kernel) rfl rfl rfl ?_
  refine k_get (idx := 16) (ci := 13) (k := 5) (v := .inl (.ref b)) hg hy hwG (by decide +kernel) ⟨RX11, TX11, 22, rfl, by decide, (TBg_at 1604 (by decide +kernel)), lay_X11⟩ ha_87 rfl ?_
  refine k_iconst (z := 1) (v := (1 : Int32)) hg hy (by decide) (by decide +kernel) ?_
  refine k_iconst (z := 2) (v := (2 : Int32)) hg hy (by decide) (by decide +kernel) ?_
  refine k_iastk (k := 1) hg hy hwG (by decide +kernel) r1_87 (by unfold vp_in; decide) (by decide) (show G.2.2.1 ≤ b by omega) hS_87 (fun H2_88 locs2_88 r1_88 z2 o2 hS_88 => ?_)
  have ha_88 := ha_87.kept (o2 _ (by omega))
  have r2_88 := r2_87.kept (o2 _ (by omega))
  have r3_88 := r3_87.kept (o2 _ (by omega))
  have r4_88 := r4_87.kept (o2 _ (by omega))
  have r5_88 := r5_87.kept (o2 _ (by omega))
  have r6_88 := r6_87.kept (o2 _ (by omega))
  have r7_88 := r7_87.kept (o2 _ (by omega))
  have r8_88 := r8_87.kept (o2 _ (by omega))
  have r9_88 := r9_87.kept (o2 _ (by omega))
  have r10_88 := r10_87.kept (o2 _ (by omega))
  have r11_88 := r11_87.kept (o2 _ (by omega))
  have oC_88 : ∀ q : Nat, q < b → q ≠ a → H2_88[q]? = (wS x).heap[q]? := fun q h1 h2 => (o2 q (by omega)).trans (oC_87 q h1 h2)
  have zc_88 := z2.trans zc_87
  clear z2 o2
  clear H2_87 ha_87 hS_87 r1_87 r2_87 r3_87 r4_87 r5_87 r6_87 r7_87 r8_87 r9_87 r10_87 r11_87 oC_87 zc_87
  show KW x _ _ _ _ 479 _ _
  refine k_aload_n (f := 0) (i := 0) hg hy (by decide +kernel) rfl rfl rfl ?_
  refine k_get (idx := 16) (ci := 13) (k := 5) (v := .inl (.ref b)) hg hy hwG (by decide +kernel) ⟨RX11, TX11, 22, rfl, by decide, (TBg_at 1604 (by decide +kernel)), lay_X11⟩ ha_88 rfl ?_
  refine k_iconst (z := 2) (v := (2 : Int32)) hg hy (by decide) (by decide +kernel) ?_
  refine k_sipush (z := 2000) (v := (2000 : Int32)) hg hy (by decide) (by decide +kernel) ?_
  refine k_iastk (k := 2) hg hy hwG (by decide +kernel) r1_88 (by unfold vp_in; decide) (by decide) (show G.2.2.1 ≤ b by omega) hS_88 (fun H2_89 locs2_89 r1_89 z2 o2 hS_89 => ?_)
  have ha_89 := ha_88.kept (o2 _ (by omega))
  have r2_89 := r2_88.kept (o2 _ (by omega))
  have r3_89 := r3_88.kept (o2 _ (by omega))
  have r4_89 := r4_88.kept (o2 _ (by omega))
  have r5_89 := r5_88.kept (o2 _ (by omega))
  have r6_89 := r6_88.kept (o2 _ (by omega))
  have r7_89 := r7_88.kept (o2 _ (by omega))
  have r8_89 := r8_88.kept (o2 _ (by omega))
  have r9_89 := r9_88.kept (o2 _ (by omega))
  have r10_89 := r10_88.kept (o2 _ (by omega))
  have r11_89 := r11_88.kept (o2 _ (by omega))
  have oC_89 : ∀ q : Nat, q < b → q ≠ a → H2_89[q]? = (wS x).heap[q]? := fun q h1 h2 => (o2 q (by omega)).trans (oC_88 q h1 h2)
  have zc_89 := z2.trans zc_88
  clear z2 o2
  clear H2_88 r1_88 hS_88 ha_88 r2_88 r3_88 r4_88 r5_88 r6_88 r7_88 r8_88 r9_88 r10_88 r11_88 oC_88 zc_88
  refine k_iconst (z := 0) (v := (0 : Int32)) hg hy (by decide) (by decide +kernel) ?_
  refine k_istore_n (f := 1) (i := 1) hg hy (by decide +kernel) rfl (by decide) ?_
  exact loop 7 0 _ _ _ (Nat.zero_add 7) ha_89 r2_89 r3_89 r4_89 r5_89 r6_89 r7_89 r8_89 r9_89 r10_89 r11_89 (r1_89.congr (fun j hj => vI0_0)) zc_89 oC_89 hS_89 (List.forall_mem_cons.mpr ⟨rfl, List.forall_mem_cons.mpr ⟨rfl, fun _ h => absurd h List.not_mem_nil⟩⟩)
end CN2
