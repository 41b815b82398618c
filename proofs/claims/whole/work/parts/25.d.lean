/-! ===== the slip: its bytes grown ===== -/
theorem w_copyB {p : Program} {l : Launch} {e : Env} {R : Room} {s : State} {m : MethodId} {args : Array Value} {below : List Frame} {meth : Method} {c : Code} {H : Heap} {locs : List Loc} {cells slots pc index : Nat} {Q : State → Prop} {ls : Array Slot} {rest : List Value} {cc : ByteArray} {own : String} {G : GG} {A : Nat → Prop} {a0 a n0 n1 dp n : Nat} {scr : Cell} {f g : Nat → Int32}
    (hexec : p.tables.exec = Jvm.exec) (hb : c.code = cc) (hml : c.maxLocals = ls.size) (hown : s.vm.findClass own = some m.cls) (hlink : (Cond.methodLink own index arraycopyName).before args s = true) (hnat : (Cond.native arraycopyName).before args s = true) (hstat : (Cond.static arraycopyName).before args s = true) (hini : (Cond.initialized "java/lang/System").before args s = true)
    (hK : va_K G.1 vwCl (tysG G) s) (hc0 : H[a0]? = some scr) (hs2 : s.isArrayOf scr .byte) (hs3 : scr.vm ≠ .unknown) (hs4 : n0 ≤ scr.slots.size) (hs5 : ∀ j : Nat, j < n0 → scr.slots[j]? = some (.int (f j))) (hat : cI G 8 a n1 g H) (hA : A a) (hS : va_S A s.heap H locs) (hn : n ≤ n0) (hdn : dp + n ≤ n1) (hbig : n1 < 65536) (hfit : ∀ i : Nat, i < n → fits .byte (.int (f i)) = true)
    (hframes : 1 ≤ R.frames) (hlocals : (rest.map fun v => v.category).sum + (nativeFrameWords "java/lang/System" "arraycopy" 5 + 11) ≤ R.locals) (hdg : decode cc pc = .ok (.invokestatic index, 3))
    (kk : ∀ (H1 : Heap) (locs1 : List Loc), cI G 8 a n1 (va_cpy f g 0 dp n) H1 → H1.size = H.size → (∀ q : Nat, q ≠ a → H1[q]? = H[q]?) → va_S A s.heap H1 locs1 → W p l e R s m args below meth c H1 locs1 cells slots Q (F0 m (pc + 3) ls rest)) : W p l e R s m args below meth c H locs cells slots Q (F0 m pc ls (.int (nI n) :: .int (nI dp) :: .ref a :: .int (nI 0) :: .ref a0 :: rest)) := by
  have t0 : (nI 0).toInt = 0 := rfl
  have c0 : (nI 0).toNatClampNeg = 0 := rfl
  have tn : (nI n).toInt = (n : Int) := nI_toInt (by omega)
  have td : (nI dp).toInt = (dp : Int) := nI_toInt (by omega)
  have cn : (nI n).toNatClampNeg = n := ixL (by omega)
  have cd : (nI dp).toNatClampNeg = dp := ixL (by omega)
  intro T hT X
  have hc1 : H[a]? = some (vp_cell (G.2.2.2.1 8) (n1, .inl g)) := hat
  obtain ⟨hs6, k0, hk0, cm0, hkk0⟩ := hs2
  obtain ⟨-, k1, hk1, cm1, hkk1⟩ := (hK.2 8 _ rfl).1 n1 (fun j => .int (g j))
  obtain ⟨vm', X', step⟩ := X.arraycopy hexec hown hlink hnat hstat hini (src := a0) (dst := a) (cs := scr) (cd := vp_cell (G.2.2.2.1 8) (n1, .inl g)) (srcPos := nI 0) (destPos := nI dp) (n := nI n) (by rw [hT]; exact hc0) (by rw [hT]; exact hc1)
    hs6 (fun _ h => by cases h) hs3 (fun h => by cases h) hk0 hk1 hkk0 hkk1 (by simp [refKind]) (nI_pos (by omega)) (nI_pos (by omega)) (nI_pos (by omega))
    (by rw [t0, tn]; omega)
    (by rw [td, tn]; show ¬ _ > ((arrV (G.2.2.2.1 8) n1 (fun j => .int (g j))).slots.size : Int); rw [arrV_size]; omega)
    (fun vm₁ _ i hi => by
      rw [cn] at hi
      rw [c0, Nat.zero_add]
      have e : scr.slots.getD i .null = .int (f i) := by
        rw [Array.getD_eq_getD_getElem?, hs5 _ (by omega)]
        rfl
      refine ⟨?_, ?_⟩
      · rw [e]
        exact hfit i hi
      · rw [e]
        exact trivial)
    (g := F0 m pc ls (.int (nI n) :: .int (nI dp) :: .ref a :: .int (nI 0) :: .ref a0 :: rest)) rfl (by rw [hml]) (rest := rest) rfl (by rw [hb]; exact hdg) hframes (by show 2 * 0 + _ + _ ≤ _; omega)
  have e1 : copied scr (vp_cell (G.2.2.2.1 8) (n1, .inl g)) (nI 0) (nI dp) (nI n) = vp_cell (G.2.2.2.1 8) (n1, .inl (va_cpy f g (nI 0).toNatClampNeg (nI dp).toNatClampNeg (nI n).toNatClampNeg)) := va_copiedX (fun z => .int z) scr (G.2.2.2.1 8) f g hs5 (by rw [c0, cn]; omega)
  rw [e1, c0, cd, cn] at X' step
  have hl : a < H.size := (Array.getElem?_eq_some_iff.mp hc1).1
  have hheap : ((T.setVm vm').setCell a (vp_cell (G.2.2.2.1 8) (n1, .inl (va_cpy f g 0 dp n)))).heap = H.setIfInBounds a (vp_cell (G.2.2.2.1 8) (n1, .inl (va_cpy f g 0 dp n))) := by rw [← hT]; rfl
  have oq : ∀ q : Nat, q ≠ a → (H.setIfInBounds a (vp_cell (G.2.2.2.1 8) (n1, .inl (va_cpy f g 0 dp n))))[q]? = H[q]? := fun q hq => by simp [Array.getElem?_setIfInBounds, Ne.symm hq]
  obtain ⟨t, a1, b1⟩ := kk _ _ (show (H.setIfInBounds a _)[a]? = some _ by simp [Array.getElem?_setIfInBounds, hl]) (by simp) oq ⟨by simp; exact hS.1, fun q g1 g2 => by
      rw [oq q (fun e => g2 (by rw [e]; exact hA))]
      exact hS.2.1 q g1 g2, fun q hq => by
      rcases List.mem_append.mp hq with h | h
      · exact hS.2.2 q h
      · obtain ⟨z, -, hz⟩ := List.mem_map.mp h
        rw [← hz]
        exact hA⟩ _ hheap X'
  exact ⟨t, step t a1, b1⟩
/-- what the longer row is: the call's answer -/
def QG (G : GG) (v N q : Nat) (a : Nat → Int32) : Array Value → State → Outcome → State → Prop := fun _ st oc t => (oc = .returned (some (.ref st.heap.size)) ∧ t.heap.size = st.heap.size + 1 ∧ (∀ j : Nat, j < st.heap.size → t.heap[j]? = st.heap[j]?) ∧ cI G 8 st.heap.size q (va_cpy a (fun _ => 0) 0 0 N) t.heap) ∧ va_F (AA G) st t
def kCp : MX := (yJ7_copyOf_9075b, cJ7_copyOf_9075b, 3, some (.array .byte), 20, 200, 2)
section GROW
variable {l : Launch} {G : GG}
theorem n_copyOf (hG : Gok G) {v N q : Nat} {a : Nat → Int32} (hN : N ≤ 200) (hq : N < q) (hq2 : q ≤ 200) (hf : sb_Fit a) : Met l yJ7_copyOf_9075b (Cond.code yJ7_copyOf_9075b cJ7_copyOf_9075b 3 (some (.array .byte)) :: TBg) (rmX kCp) (va_Pc [.ref v, .int (nI q)] (KPre G (fun H => cI G 8 v N a H))) (QG G v N q a) 20 200 (AA G) := by
  refine Met.ofW (cc := cJ7_copyOf_9075b) (maxL := 3) (ret := some (.array .byte)) (by decide +kernel) rfl ?_
  intro p e s m args below meth c s₁ B hml hv
  obtain ⟨rfl, hK, hX, hz, hr⟩ := hv
  have hts : ∀ w ∈ TBg, w.before ([Value.ref v, .int (nI q)] : List Value).toArray s = true := fun w h => atoms_spec (ws := Cond.code yJ7_copyOf_9075b cJ7_copyOf_9075b 3 (some (.array .byte)) :: TBg) B.pre w (List.mem_cons_of_mem _ h)
  rw [lg_entry_eq]
  have hL0 := lv_entry ([Value.ref v, .int (nI q)]) (n := 3) (show 2 ≤ 3 by decide)
  obtain ⟨x, ex⟩ : ∃ x : Cw, x = (l, G, p, e, s, m, ([Value.ref v, .int (nI q)] : List Value).toArray, below, meth, c, kCp, MQ below (QG G v N q a) ([Value.ref v, .int (nI q)] : List Value).toArray s 20 200 (AA G)) := ⟨_, rfl⟩
  have hg : Gw x := by rw [ex]; exact ⟨B.exec, B.bytes, findClass_of_methodNamed B.named, hts, hml, hK, hX⟩
  have hy : wY x = kCp := by rw [ex]
  have hwG : wG x = G := by rw [ex]
  have hs : wS x = s := by rw [ex]
  have hS : va_S (AA G) (wS x).heap (wS x).heap [] := va_S.rf
  have fin : ∀ (H : Heap) (locs : List Loc) (al : Al), cI G 8 (wS x).heap.size q (va_cpy a (fun _ => 0) 0 0 N) H → H.size = (wS x).heap.size + 1 → (∀ j : Nat, j < (wS x).heap.size → H[j]? = (wS x).heap[j]?) → va_S (AA G) (wS x).heap H locs → KW x H locs (0 + 1) (0 + q) 32 al [.inl (.ref (wS x).heap.size)] := by
    intro H locs al h1 h2 h3 h4
    rw [hs] at h1 h2 h3 h4
    rw [hs, ex]
    intro ls hL
    refine W.widen (show 0 + 1 ≤ 20 by decide) (show 0 + q ≤ 200 by omega) ?_
    exact W.aret B.exec B.bytes B.returns (Or.inr ⟨_, rfl⟩) (Or.inr ⟨_, rfl⟩) (fun t ht hw => ⟨⟨rfl, by rw [ht]; exact h2, by rw [ht]; exact h3, by rw [ht]; exact h1⟩, h4.F ht⟩) h4.2.2 (by decide +kernel) B.notSynchronized
  suffices hW : KW x (wS x).heap [] 0 0 0 [(0, .inl (.ref v)), (1, aI (nI q))] [] by
    subst ex
    exact hW _ hL0
  have hr : cI G 8 v N a (wS x).heap := by rw [hs]; exact hr
  have hvl : v < (wS x).heap.size := va_at.lt hr
  have hz : G.2.2.1 ≤ (wS x).heap.size := by rw [hs]; exact hz
  obtain ⟨b, zc⟩ : ∃ b, (wS x).heap.size = b := ⟨_, rfl⟩
  rw [zc] at fin hvl hz
  have fin2 := fun (H : Heap) (locs : List Loc) h1 h2 h3 h4 => (k_aload_n (f := 2) (i := 2) (pc := 31) (al := [(0, .inl (.ref v)), (1, aI (nI q)), (2, .inl (.ref b))]) hg hy (by decide +kernel) rfl rfl rfl (fin H locs [(0, .inl (.ref v)), (1, aI (nI q)), (2, .inl (.ref b))] h1 h2 h3 h4))
  clear ex hL0 hs hts
  refine k_iload_n (f := 1) (i := 1) hg hy (by decide +kernel) rfl rfl ?_
  refine k_aload_n (f := 0) (i := 0) hg hy (by decide +kernel) rfl rfl rfl ?_
  refine k_alen (t := 8) (N := N) (ty := .byte) hg hy hwG (by decide +kernel) hr rfl ?_
  refine k_icmp_ne (off := 11) (tgt := 14) hg hy (by decide +kernel) (by decide) (fun _ => ?_) (fun h => absurd ((nI_eq (by omega) (by omega)).mp h) (by omega))
  refine k_iload_n (f := 1) (i := 1) hg hy (by decide +kernel) rfl rfl ?_
  show KW x _ _ _ _ 15 _ _
  refine k_newa (atype := .byte) (t := 8) (N := q) (a0 := (q, .inl (fun _ => 0))) hg hy hwG (by decide +kernel) (TBg_at 386 (by decide +kernel)) rfl (fun _ => rfl) (nI_pos (by omega)) (ixL (by omega)) (show q * 1 ≤ 536870912 by omega) hS (show 0 + 1 ≤ 20 by decide) (show 0 + q ≤ 200 by omega) (fun H2 c2 z2 o2 hS => ?_)
  rw [zc] at c2 z2 o2 ⊢
  show KW x _ _ _ _ 17 _ _
  refine k_astore_n (f := 2) (i := 2) hg hy (by decide +kernel) rfl rfl (by decide) ?_
  refine KW.sub (al' := [(0, .inl (.ref v)), (1, aI (nI q)), (2, .inl (.ref b))]) ?_ (List.forall_mem_cons.mpr ⟨rfl, List.forall_mem_cons.mpr ⟨rfl, List.forall_mem_cons.mpr ⟨rfl, fun _ h => absurd h List.not_mem_nil⟩⟩⟩)
  refine k_aload_n (f := 0) (i := 0) hg hy (by decide +kernel) rfl rfl rfl ?_
  refine k_iconst (z := 0) (v := nI 0) hg hy (by decide) (by decide +kernel) ?_
  refine k_aload_n (f := 2) (i := 2) hg hy (by decide +kernel) rfl rfl rfl ?_
  refine k_iconst (z := 0) (v := nI 0) hg hy (by decide) (by decide +kernel) ?_
  refine k_aload_n (f := 0) (i := 0) hg hy (by decide +kernel) rfl rfl rfl ?_
  have hr2 := hr.kept (o2 _ hvl)
  refine k_alen (t := 8) (N := N) (ty := .byte) hg hy hwG (by decide +kernel) hr2 rfl ?_
  refine k_iload_n (f := 1) (i := 1) hg hy (by decide +kernel) rfl rfl ?_
  show KW x _ _ _ _ 25 _ _
  obtain ⟨l9, G9, p, e, s, m, args, below, meth, c, y, Q⟩ := x
  obtain rfl : y = kCp := hy
  obtain rfl : G9 = G := hwG
  obtain ⟨hx, hb, hown, hts, hml, hK, hX⟩ := hg
  intro ls hL
  have hls : c.maxLocals = ls.size := hml.trans hL.1.symm
  refine va_mmin hx hb hls hown (index := 304) (hts _ (TBg_at 1027 (by decide +kernel))) (hts _ (TBg_at 700 (by decide +kernel))) (hts _ (TBg_at 84 (by decide +kernel))) (hts _ (TBg_at 701 (by decide +kernel))) (by simp only [rmX, kCp]; omega) (Nat.le_of_ble_eq_true rfl) (show 0 + 1 ≤ 20 by decide) (show 0 + q ≤ 200 by omega) (by decide +kernel) ?_
  rw [if_neg (nI_nlt (show N ≤ q by omega) (by omega))]
  refine w_copyB (G := G9) (A := AA G9) (index := 150) (n0 := N) (n1 := q) (dp := 0) (f := a) (g := fun _ => 0) hx hb hls hown (hts _ (TBg_at 1028 (by decide +kernel))) (hts _ (TBg_at 558 (by decide +kernel))) (hts _ (TBg_at 557 (by decide +kernel))) (hts _ (TBg_at 77 (by decide +kernel))) hK hr2 ((hK.2 8 _ rfl).1 N (fun j => .int (a j))) (fun h => by cases h) (by show N ≤ (arrV _ _ _).slots.size; rw [arrV_size]; exact Nat.le_refl _) (fun j hj => by show (arrV _ _ _).slots[j]? = _; rw [arrV_read _ _ hj]) c2 hz hS (Nat.le_refl _) (by omega) (by omega) (fun i _ => hf i) (by simp only [rmX, kCp]; omega) (Nat.le_of_ble_eq_true (by rfl)) (by decide +kernel) (fun H3 locs3 c3 z3 o3 hS => ?_)
  exact fin2 H3 locs3 c3 (z3.trans z2) (fun j hj => (o3 j (by omega)).trans (o2 j hj)) hS ls hL
end GROW
