/-! ===== the start: the first state ===== -/
def sg0 : Sg := (a0S, [], none, (none, none), [], [])
theorem a0_z {k : Nat} (h : k = 0 ∨ (3 ≤ k ∧ k < 9) ∨ 16 ≤ k) : a0S k = 0 := by
  unfold a0S
  rw [if_neg (by omega), if_neg (by omega), if_neg (by omega)]
theorem a0_1 {w : Nat} (h : w < 7) : a0S (9 + w) = 1 := by
  unfold a0S
  rw [if_neg (by omega), if_neg (by omega), if_pos (by omega)]
theorem it0 (i k : Nat) : it a0S i k = 0 := a0_z (Or.inr (Or.inr (by omega)))
theorem pm0 {z s : Nat} : PmR (mem0 z) s (fun i => i) := ⟨fun i hi => ⟨hi, rfl⟩, fun i j _ _ e => e⟩
theorem cw0 (z : Nat) : CW (mem0 z) sg0 := by
  refine ⟨⟨fun i => i, ⟨(show t0I (2, 0, 0) 2 = nI (a0S 1) by decide +kernel), (show t0I (2, 0, 0) 3 = nI (a0S 3) by decide +kernel), (show t0I (2, 0, 0) 5 = nI (a0S 4) by decide +kernel)⟩, ⟨(show t0I (3, 0, 0) 0 = nI (a0S 0) by decide +kernel), fun w hw => ?_⟩, ⟨⟨(show t0I (4, 0, 0) 0 = nI (a0S 2) by decide +kernel), (show t0I (4, 0, 0) 6 = nI (a0S 5) by decide +kernel), (show t0I (4, 0, 0) 7 = nI (a0S 6) by decide +kernel), (show t0I (4, 0, 0) 8 = nI (a0S 7) by decide +kernel)⟩, (show (0 : Int64) = (nI (a0S 8)).toInt64 by decide +kernel), (show nI 2000 - t0I (4, 0, 0) 1 + t0I (4, 0, 0) 2 + t0I (4, 0, 0) 3 + t0I (4, 0, 0) 4 = nI (a0S 2) by decide +kernel)⟩, (pm0 (z := z) (s := 0)).1, (pm0 (z := z) (s := 0)).2, fun i hi => ?_⟩, ⟨0, ⟨by decide, (show t0I (8, 0, 0) 1 = nI 0 by decide +kernel), (show t0I (8, 0, 0) 2 = nI 0 by decide +kernel), (show 0 ≤ 8 by decide)⟩, fun s _ _ => ⟨_, pm0⟩, fun j b h => ?_⟩, ⟨⟨_, pm0⟩, (show t0I (1, 0, 0) 2 = nI 0 by decide +kernel), fun s h => ?_⟩, ⟨(show t0I (1, 0, 0) 8 = oI none by decide +kernel), (show t0I (1, 0, 0) 9 = oI none by decide +kernel)⟩, ⟨(show t0I (9, 0, 0) 1 = nI 0 by decide +kernel), fun j c h => ?_⟩, rfl, fun j c h => ?_⟩
  · show (1 : Int32) = nI (a0S (9 + w))
    rw [a0_1 hw]
    rfl
  · exact absurd (show i < a0S 4 from hi) (by rw [a0_z (by omega)]; exact Nat.not_lt_zero i)
  · exact absurd (show ([] : List (Nat → Nat))[j]? = some b from h) (by simp)
  · cases h
  · exact absurd (show ([] : List Nat)[j]? = some c from h) (by simp)
  · exact absurd (show ([] : List Nat)[j]? = some c from h) (by simp)
theorem mw0 (z : Nat) : MW (mem0 z) 0 sg0 := by
  refine ⟨rfl, (show t0I (30, 0, 0) 0 = nI 0 by decide +kernel), ⟨(show 0 ≤ 8 by decide), (show 0 ≤ 60 by decide), (show 0 ≤ 80 by decide)⟩, ⟨(show t0I (30, 0, 0) 1 = nI 0 by decide +kernel), (show t0I (30, 0, 0) 2 = oI none by decide +kernel), (show t0I (30, 0, 0) 3 = oI none by decide +kernel), (show t0I (30, 0, 0) 4 = nI 0 by decide +kernel), (show t0I (30, 0, 0) 16 = nI 0 by decide +kernel), (show t0I (30, 0, 0) 19 = nI 0 by decide +kernel)⟩, ⟨fun j b h => ?_, fun s h => ?_, fun j c h => ?_, fun j c h => ?_, ?_, ?_⟩⟩
  · exact absurd (show ([] : List (Nat → Nat))[j]? = some b from h) (by simp)
  · cases h
  · exact absurd (show ([] : List Nat)[j]? = some c from h) (by simp)
  · exact absurd (show ([] : List Nat)[j]? = some c from h) (by simp)
  · intro j c h
    have hj : j < 53 := (List.getElem?_eq_some_iff.mp h).1
    have hk : ∀ j, j < 53 → some ((lstI wordsI j)) = (wordsL[j]?).map nI := by decide +kernel
    have h2 := hk j hj
    rw [h] at h2
    exact Option.some.inj h2
  · intro j c h
    have hj : j < 10 := (List.getElem?_eq_some_iff.mp h).1
    have hk : ∀ j, j < 10 → some ((lstI wordAtI j)) = (wordAtL[j]?).map nI := by decide +kernel
    have h2 := hk j hj
    rw [h] at h2
    exact Option.some.inj h2
theorem si0 : SI 1 sg0 := by
  refine ⟨0, Nat.zero_le _, ⟨⟨Nat.zero_le _, fun i _ => ⟨?_, ?_, ?_, ?_, ?_, ?_, fun b _ => ?_, fun _ b _ => it0 _ _⟩, fun i hi => ?_, fun i j _ hj => ?_, fun i _ _ c _ => it0 _ _⟩, fun k hk => a0_z (Or.inr (Or.inr (by omega))), ⟨by decide, by decide⟩, fun w hw => ?_, by decide, by decide, by decide, by decide, by decide, by decide, by decide⟩, fun b h => absurd h List.not_mem_nil, fun s h => ?_, ⟨fun p h => ?_, fun p h => ?_⟩, ⟨by decide, fun c h => absurd h List.not_mem_nil⟩, fun c h => absurd h List.not_mem_nil⟩
  all_goals first | exact Nat.le_trans (Nat.le_of_eq (it0 _ _)) (Nat.zero_le _) | skip
  · exact absurd (show i < a0S 4 from hi) (by rw [a0_z (by omega)]; exact Nat.not_lt_zero i)
  · exact absurd (show j < a0S 4 from hj) (by rw [a0_z (by omega)]; exact Nat.not_lt_zero j)
  · show a0S (9 + w) ≤ 9
    rw [a0_1 hw]
    decide
  · cases h
  · cases h
  · cases h
theorem li0 (z : Nat) : LI 1 (mem0 z) sg0 := ⟨cw0 z, ⟨0, mw0 z⟩, si0⟩
theorem sb0 {D : va_G} {z : Nat} {ka : Nat → Nat → Nat} {tt : Nat → ClassId} {X : State → Heap → Prop} {H : Heap} (h : SbC (GS D z ka tt X) (z + 1 + 333) (z + 1 + 334) H) : SbW (GS D z ka tt X) (mem0 z) H :=
  ⟨0, fun _ => 0, h.1, h.2, fun j _ => ⟨(show 0 < 256 by decide), rfl⟩, sb_fit0, (show 0 ≤ 16 by decide), (show 16 ≤ 200 by decide), show z ≤ z + 1 + 334 by omega, show z + 1 + 334 ≠ z + 1 + 333 by omega, fun nm hd => by
    have := (adN_lt (z := z) (ka := ka) hd).2.2.2
    show adN z ka nm ≠ z + 1 + 334
    omega⟩
def phi1 : AOut → Mem → Prop := fun o _ => o = .inl (some (aI (nI 1)))
def kLaw : MX := (yL_law, cL_law, 9, some .boolean, 603072, 6030720, 2040)
section KEPT2
variable {G : GG} {a b : Nat} {H H1 : Heap}
theorem MoC.kept (h : MoC G a b H) (ho : H1[a]? = H[a]?) (hq : ∀ q, b ≤ q → q < b + 335 → H1[q]? = H[q]?) : MoC G a b H1 := by
  obtain ⟨h0, h1, h2, h3, h4, h5, h6, h7⟩ := h
  exact ⟨h0.kept ho, h1.kept (hq _ (by omega) (by omega)) (fun q x y => hq q (by omega) (by omega)), h2.kept (hq _ (by omega) (by omega)) (fun q x y => hq q (by omega) (by omega)), h3.kept (hq _ (by omega) (by omega)) (fun q x y => hq q (by omega) (by omega)), h4.kept (hq _ (by omega) (by omega)) (fun q x y => hq q (by omega) (by omega)), h5.kept (hq _ (by omega) (by omega)) (fun q x y => hq q (by omega) (by omega)), h6.kept (hq _ (by omega) (by omega)) (fun q x y => hq q (by omega) (by omega)), h7.kept (hq _ (by omega) (by omega)) (fun q x y => hq q (by omega) (by omega))⟩
theorem MdC.kept (h : MdC G a b H) (ho : H1[a]? = H[a]?) (hq : ∀ q, b ≤ q → q < b + 11 → H1[q]? = H[q]?) : MdC G a b H1 := by
  obtain ⟨h0, h1, h2, h3, h4, h5, h6, h7, h8, h9, h10, h11⟩ := h
  have k := fun i (hi : i < 11) => hq (b + i) (by omega) (by omega)
  exact ⟨h0.kept ho, h1.kept (k 0 (by omega)), h2.kept (k 1 (by omega)), h3.kept (k 2 (by omega)), h4.kept (k 3 (by omega)), h5.kept (k 4 (by omega)), h6.kept (k 5 (by omega)), h7.kept (k 6 (by omega)), h8.kept (k 7 (by omega)), h9.kept (k 8 (by omega)), h10.kept (k 9 (by omega)), h11.kept (k 10 (by omega))⟩
end KEPT2
/-- from the law's entry to its loop, in the open -/
theorem law_walk0 {l : Launch} {p : Program} {e : Env} {s : State} {m : MethodId} {below : List Frame} {meth : Method} {c : Code} {b z : Nat} {G : GG} {Q : State → Prop}
    (hx : p.tables.exec = Jvm.exec) (hb : c.code = cL_law) (hown : s.vm.findClass RL = some m.cls) (hts : ∀ w ∈ TBg, w.before #[Value.ref b] s = true) (hml : c.maxLocals = 9) (hzG : G.2.2.1 = z) (hz0 : s.heap.size = z) (hG : Gok G) (hNs : NsF G) (hAr : ArF G) (hE : ∀ U H, G.2.2.2.2 U H → EnF G U H) (hK : va_K G.1 vwCl (tysG G) s) (hX : G.2.2.2.2 s s.heap)
    (cont : ∀ (H : Heap) (locs : List Loc), MoC G z (z + 1) H → MdC G (z + 336) (z + 337) H → va_at G.1 vwCl (z + 348, .inl (G.2.2.2.1 2, 1, .inr (.inl (fun _ => 0)))) H → va_at G.1 vwCl (z + 349, .inl (G.2.2.2.1 3, 1, .inr (.inr (.inr (.inl (fun _ => 0)))))) H → H.size = z + 350 → va_S (AA G) s.heap H locs → ∀ ls : Array Slot, Lh G ls 9 [(0, .inl (.ref b)), (1, .inl (.ref z)), (2, .inl (.ref (z + 336))), (3, .inl (.ref (z + 348))), (4, .inl (.ref (z + 349))), (5, aI 0)] →
      W p l e (rmI iL_law) s m #[Value.ref b] below meth c H locs 1000 (10 * 1000) Q (F0 m 28 ls [])) :
    W p l e (rmI iL_law) s m #[Value.ref b] below meth c s.heap [] 0 0 Q (entryFrame m ([Value.ref b] : List Value).toArray 9) := by
  rw [lg_entry_eq]
  have hL0 := lv_entry ([Value.ref b]) (n := 9) (show 1 ≤ 9 by decide)
  obtain ⟨x, ex⟩ : ∃ x : Cw, x = (l, G, p, e, s, m, #[Value.ref b], below, meth, c, kLaw, Q) := ⟨_, rfl⟩
  have hg : Gw x := by rw [ex]; exact ⟨hx, hb, hown, hts, hml, hK, hX⟩
  have hy : wY x = kLaw := by rw [ex]
  have hwG : wG x = G := by rw [ex]
  have hl : x.1 = l := by rw [ex]
  have hs : wS x = s := by rw [ex]
  have hz : G.2.2.1 ≤ (wS x).heap.size := by rw [hs]; omega
  have hS : va_S (AA G) (wS x).heap (wS x).heap [] := va_S.rf
  have cont2 : ∀ (H : Heap) (locs : List Loc), MoC G z (z + 1) H → MdC G (z + 336) (z + 337) H → va_at G.1 vwCl (z + 348, .inl (G.2.2.2.1 2, 1, .inr (.inl (fun _ => 0)))) H → va_at G.1 vwCl (z + 349, .inl (G.2.2.2.1 3, 1, .inr (.inr (.inr (.inl (fun _ => 0)))))) H → H.size = z + 350 → va_S (AA G) (wS x).heap H locs → KW x H locs 350 9030 28 [(0, .inl (.ref b)), (1, .inl (.ref z)), (2, .inl (.ref (z + 336))), (3, .inl (.ref (z + 348))), (4, .inl (.ref (z + 349))), (5, aI 0)] [] := by
    intro H locs h1 h2 h3 h4 h5 h6
    rw [hs] at h6
    rw [ex]
    exact fun ls hL T hT X => cont H locs h1 h2 h3 h4 h5 h6 ls hL T hT (stand_widen X (by decide) (by decide))
  suffices hW : KW x (wS x).heap [] 0 0 0 [(0, .inl (.ref b))] [] by
    subst ex
    exact hW _ hL0
  have zc : (wS x).heap.size = z := by rw [hs]; exact hz0
  clear cont ex hL0 hs
  show KW x _ _ _ _ 0 _ _
  refine k_new (idx := 8) (ci := 12) (N := 10) (fs := [.null, .null, .int 0, .null, .null, .null, .null, .null, .int 0, .int 0]) hg hy hwG (by decide +kernel) ⟨RX10, TX10, tyX10, rfl, (TBg_at 96 (by decide +kernel)), (TBg_at 97 (by decide +kernel)), (TBg_at 62 (by decide +kernel)), lay_X10, tyX10_ok, fun j hj => by rcases (by omega : j = 0 ∨ j = 1 ∨ j = 2 ∨ j = 3 ∨ j = 4 ∨ j = 5 ∨ j = 6 ∨ j = 7 ∨ j = 8 ∨ j = 9) with rfl | rfl | rfl | rfl | rfl | rfl | rfl | rfl | rfl | rfl <;> rfl⟩ hS (Nat.le_of_ble_eq_true rfl) (Nat.le_of_ble_eq_true rfl) (fun H2 c2 z2 o2 hS => ?_)
  rw [zc] at c2 z2 o2 ⊢
  refine k_dup hg hy rfl (by decide +kernel) ?_
  show KW x _ _ _ _ 4 _ _
  refine k_init (idx := 139) (z := kX10) (as := []) hg hy hwG hl hG (n_X10 hG hNs hAr hE z) rfl (by decide +kernel) ⟨(TBg_at 98 (by decide +kernel)), (TBg_at 62 (by decide +kernel)), (TBg_at 99 (by decide +kernel)), (TBg_at 100 (by decide +kernel)), rfl, by decide +kernel, by decide +kernel, rfl, by decide +kernel⟩ ⟨by decide, by decide⟩ (Nat.le_of_ble_eq_true rfl) (Nat.le_of_ble_eq_true rfl) (Nat.le_of_ble_eq_true rfl) hz hS ⟨c2, (show G.2.2.1 ≤ z by omega)⟩ (fun H3 locs3 hp hS => ?_)
  obtain ⟨z3, o3, hM⟩ := hp
  rw [z2] at z3 o3 hM
  show KW x _ _ _ _ 7 _ _
  refine k_astore_n (f := 1) (i := 1) hg hy (by decide +kernel) rfl rfl (by decide) ?_
  show KW x _ _ _ _ 8 _ _
  refine k_new (idx := 140) (ci := 13) (N := 22) (fs := [.int 0, .int 0, .int 0, .int 0, .int 0, .null, .null, .null, .null, .null, .null, .null, .null, .null, .null, .null, .int 0, .int 0, .int 0, .int 0, .int 0, .int 0]) hg hy hwG (by decide +kernel) ⟨RX11, TX11, tyX11, rfl, (TBg_at 1593 (by decide +kernel)), (TBg_at 1594 (by decide +kernel)), (TBg_at 76 (by decide +kernel)), lay_X11, tyX11_ok, fun j hj => by rcases (by omega : j = 0 ∨ j = 1 ∨ j = 2 ∨ j = 3 ∨ j = 4 ∨ j = 5 ∨ j = 6 ∨ j = 7 ∨ j = 8 ∨ j = 9 ∨ j = 10 ∨ j = 11 ∨ j = 12 ∨ j = 13 ∨ j = 14 ∨ j = 15 ∨ j = 16 ∨ j = 17 ∨ j = 18 ∨ j = 19 ∨ j = 20 ∨ j = 21) with rfl | rfl | rfl | rfl | rfl | rfl | rfl | rfl | rfl | rfl | rfl | rfl | rfl | rfl | rfl | rfl | rfl | rfl | rfl | rfl | rfl | rfl <;> rfl⟩ hS (Nat.le_of_ble_eq_true rfl) (Nat.le_of_ble_eq_true rfl) (fun H4 c4 z4 o4 hS => ?_)
  have z3 : H3.size = z + 336 := by omega
  rw [z3] at c4 z4 o4 ⊢
  have hM := hM.kept (o4 _ (by omega)) (fun q h1 h2 => o4 q (by omega))
  refine k_dup hg hy rfl (by decide +kernel) ?_
  show KW x _ _ _ _ 12 _ _
  refine k_init (idx := 142) (z := kX11) (as := []) hg hy hwG hl hG (n_X11 (z + 336)) rfl (by decide +kernel) ⟨(TBg_at 1595 (by decide +kernel)), (TBg_at 76 (by decide +kernel)), (TBg_at 1596 (by decide +kernel)), (TBg_at 1597 (by decide +kernel)), rfl, by decide +kernel, by decide +kernel, rfl, by decide +kernel⟩ ⟨by decide, by decide⟩ (Nat.le_of_ble_eq_true rfl) (Nat.le_of_ble_eq_true rfl) (Nat.le_of_ble_eq_true rfl) hz hS ⟨c4, (show G.2.2.1 ≤ z + 336 by omega)⟩ (fun H5 locs5 hp hS => ?_)
  obtain ⟨z5, o5, hR⟩ := hp
  rw [z4] at z5 o5 hR
  have hM := hM.kept (o5 _ (by omega) (by omega)) (fun q h1 h2 => o5 q (by omega) (by omega))
  show KW x _ _ _ _ 15 _ _
  refine k_astore_n (f := 2) (i := 2) hg hy (by decide +kernel) rfl rfl (by decide) ?_
  refine k_iconst (z := 1) (v := (1 : Int32)) hg hy (by decide) (by decide +kernel) ?_
  show KW x _ _ _ _ 17 _ _
  refine k_newa (atype := .long) (t := 2) (N := 1) (a0 := (1, .inr (.inl (fun _ => 0)))) hg hy hwG (by decide +kernel) (TBg_at 2050 (by decide +kernel)) rfl (fun _ => rfl) (by decide) (by decide) (Nat.le_of_ble_eq_true rfl) hS (Nat.le_of_ble_eq_true rfl) (Nat.le_of_ble_eq_true rfl) (fun H6 c6 z6 o6 hS => ?_)
  have z5 : H5.size = z + 348 := by omega
  rw [z5] at c6 z6 o6 ⊢
  have hM := hM.kept (o6 _ (by omega)) (fun q h1 h2 => o6 q (by omega))
  have hR := hR.kept (o6 _ (by omega)) (fun q h1 h2 => o6 q (by omega))
  show KW x _ _ _ _ 19 _ _
  refine k_astore_n (f := 3) (i := 3) hg hy (by decide +kernel) rfl rfl (by decide) ?_
  refine k_iconst (z := 1) (v := (1 : Int32)) hg hy (by decide) (by decide +kernel) ?_
  show KW x _ _ _ _ 21 _ _
  refine k_newa (atype := .double) (t := 3) (N := 1) (a0 := (1, .inr (.inr (.inr (.inl (fun _ => 0)))))) hg hy hwG (by decide +kernel) (TBg_at 2051 (by decide +kernel)) rfl (fun _ => rfl) (by decide) (by decide) (Nat.le_of_ble_eq_true rfl) hS (Nat.le_of_ble_eq_true rfl) (Nat.le_of_ble_eq_true rfl) (fun H7 c7 z7 o7 hS => ?_)
  rw [z6] at c7 z7 o7 ⊢
  have hM := hM.kept (o7 _ (by omega)) (fun q h1 h2 => o7 q (by omega))
  have hR := hR.kept (o7 _ (by omega)) (fun q h1 h2 => o7 q (by omega))
  have c6 := va_at.kept c6 (o7 _ (by omega))
  show KW x _ _ _ _ 23 _ _
  refine k_astore (i := 4) hg hy (by decide +kernel) rfl (by decide) ?_
  refine k_iconst (z := 0) (v := (0 : Int32)) hg hy (by decide) (by decide +kernel) ?_
  show KW x _ _ _ _ 26 _ _
  refine k_istore (i := 5) hg hy (by decide +kernel) (by decide) ?_
  show KW x _ _ _ _ 28 _ _
  refine KW.sub (cont2 H7 _ hM hR c6 c7 z7 hS) (List.forall_mem_cons.mpr ⟨rfl, List.forall_mem_cons.mpr ⟨rfl, List.forall_mem_cons.mpr ⟨rfl, List.forall_mem_cons.mpr ⟨rfl, List.forall_mem_cons.mpr ⟨rfl, List.forall_mem_cons.mpr ⟨rfl, fun _ h => absurd h List.not_mem_nil⟩⟩⟩⟩⟩⟩)
/-- the law's run -/
theorem law_head {l : Launch} {p : Program} {e : Env} {s : State} {m : MethodId} {below : List Frame} {meth : Method} {c : Code} {b N : Nat} {xs : Nat → Int32} {D : va_G} {ka : Nat → Nat → Nat} {tt : Nat → ClassId}
    (hx : p.tables.exec = Jvm.exec) (hb : c.code = cL_law) (hown : s.vm.findClass RL = some m.cls) (hts : ∀ w ∈ TBg, w.before #[Value.ref b] s = true) (hml : c.maxLocals = 9) (hlk : meth.locks = false) (hret : meth.sig.returnType = some .boolean) (hst : l.stackTraces = false)
    (hkb : ka 70 0 = b) (hK : va_K D vwCl (tysG (GS D s.heap.size ka tt (XP s))) s) (hcE : CtxE l (GS D s.heap.size ka tt (XP s))) (hNc : NcF (GS D s.heap.size ka tt (XP s))) (hNs : NsF (GS D s.heap.size ka tt (XP s))) (hAr : ArF (GS D s.heap.size ka tt (XP s))) (hSc : ScF (GS D s.heap.size ka tt (XP s)) xs N) (hN : N ≤ 2048) (hSl : SlH l (GS D s.heap.size ka tt (XP s))) :
    W p l e (rmI iL_law) s m #[Value.ref b] below meth c s.heap [] 0 0 (vx_MQ below (Qn (GS D s.heap.size ka tt (XP s)) phi1) (Xn (GS D s.heap.size ka tt (XP s)) phi1) #[Value.ref b] s 603072 (10 * 603072) (AA (GS D s.heap.size ka tt (XP s)))) (entryFrame m ([Value.ref b] : List Value).toArray 9) := by
  have hG := hcE.1.1
  refine law_walk0 (G := GS D s.heap.size ka tt (XP s)) (z := s.heap.size) hx hb hown hts hml rfl rfl hG hNs hAr hcE.2 hK XP.rf ?_
  intro H locs hM hR hO hO2 hz hS ls hL
  have hx0 : Gd (l, GS D s.heap.size ka tt (XP s), p, e, s, m, #[Value.ref b], below, meth, c, iL_law, phi1) := ⟨hx, hb, hown, hts, hml, hlk, hret, hst, hG, XP.rf⟩
  have hv := law_loop (x := (l, GS D s.heap.size ka tt (XP s), p, e, s, m, #[Value.ref b], below, meth, c, iL_law, phi1)) (l := l) (f := xs) (N := N) ⟨⟨hx0, rfl, rfl, rfl, rfl⟩, hcE, hNc, hSc, hN, hSl⟩ (fun _ => rfl) N 0 1 (mem0 s.heap.size) sg0 (by omega) rfl (Nat.zero_le _) (li0 _)
  refine hv H locs ls ⟨hK, world0 hM hR hO hO2, sb0 hM.2.2.2.2.2.2.2, hG.2.2.2.2.2.1 _ _ _ hS.2.1 hS.1 XP.rf, hS.1⟩ hS ?_
  rw [← hkb] at hL
  exact hL
