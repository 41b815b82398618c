/-! ===== throws whose text lies far in the pool ===== -/
section VZK3
variable {p : Program} {l : Launch} {e : Env} {R : Room} {s : State} {m : MethodId} {args : Array Value} {below : List Frame} {meth : Method} {c : Code} {H : Heap} {locs : List Loc} {cells slots : Nat} {Q : State → Prop}
variable {ls : Array Slot} {rest : List Value}
theorem vz_makeSW {ix : Nat} {rx : ByteArray} (x0 : decode rx 0 = .ok (.aload_n 0, 1)) (x1 : decode rx 1 = .ok (.aload_n 1, 1)) (x2 : decode rx 2 = .ok (.invokespecial ix, 3)) (x5 : decode rx 5 = .ok (.return_, 1)) {cc : ByteArray} {pc : Nat} (hexec : p.tables.exec = Jvm.exec) (hb : c.code = cc) (hl : l.stackTraces = false) {own cls text : String} {names : List String} {ik is ic sa : Nat} {A : Nat → Prop}
    (hown : s.vm.findClass own = some m.cls) (hcls : Bundle.fit cls = true) (hnames : ∀ n ∈ names, Bundle.fit n = true)
    (hk : (Cond.classLink own ik cls).before args s = true) (hini : (Cond.initialized cls).before args s = true) (hstr : vk_R own is text sa s) (hat : ∀ w ∈ vz_at own ic cls ix rx names, w.before args s = true)
    (hgood : ∀ w ∈ Cond.classLink own ik cls :: Cond.initialized cls :: vz_at own ic cls ix rx names, vx_ot w = true)
    (hU : vx_Zq Bundle.tN "UNASSIGNED_STACK" Bundle.steD A s s.heap) (hN : vx_Zq Bundle.tN "SUPPRESSED_SENTINEL" Bundle.listD A s s.heap) (hS : va_S A s.heap H locs) (hsize : ls.size = c.maxLocals)
    (d0 : decode cc pc = .ok (.new ik, 3)) (d3 : decode cc (pc + 3) = .ok (.dup, 1)) (d4 : decode cc (pc + 4) = .ok (.ldc_w is, 3)) (d6 : decode cc (pc + 7) = .ok (.invokespecial ic, 3))
    (hRframes : names.length + 3 < R.frames) (hRlocals : (rest.map fun v => v.category).sum + (13 * (names.length + 1) + 43) ≤ R.locals) (hRcells : cells + 1 ≤ R.cells) (hRslots : slots + 6 ≤ R.slots)
    (kk : ∀ (q : Nat) (H1 : Heap) (ce : Cell), H1[q]? = some ce → ce.vm = .none → s.vm.findClass cls = some ce.cls → H.size ≤ H1.size → (∀ z : Nat, z < H.size → H1[z]? = H[z]?) → W p l e R s m args below meth c H1 locs (cells + 1) (slots + 6) Q (F0 m (pc + 10) ls (.ref q :: rest))) :
    W p l e R s m args below meth c H locs cells slots Q (F0 m pc ls rest) := by
  intro T hT X
  subst hT
  have htr : e.platform.stackTraces = false := (show e.platform.stackTraces = l.stackTraces by rw [X.admits.platform]).trans hl
  have Y := vx_rebase X (R' := { frames := R.frames, locals := R.locals, cells := 1, slots := 6 }) (Nat.le_refl _) (Nat.le_refl _) hRcells hRslots
  obtain ⟨s', hA'⟩ : ∃ z, z = (T.setVm s.vm).setFrames (.invoking m args :: below) := ⟨_, rfl⟩
  rw [← hA'] at Y
  have hvm : s'.vm = s.vm := by rw [hA']; rfl
  have hhp : s'.heap = T.heap := by rw [hA']; rfl
  have hW0 : s.WarmedH s'.vm := by rw [hvm]; exact State.WarmedH.refl s
  have hat' : ∀ w ∈ vz_at own ic cls ix rx names, w.before args s' = true := fun w hw => vx_ot_at hW0 hvm.symm (hgood w (List.mem_cons_of_mem _ (List.mem_cons_of_mem _ hw))) (hat w hw)
  have hk' : (Cond.classLink own ik cls).before args s' = true := vx_ot_at hW0 hvm.symm (hgood _ List.mem_cons_self) hk
  have hini' : (Cond.initialized cls).before args s' = true := vx_ot_at hW0 hvm.symm (hgood _ (List.mem_cons_of_mem _ List.mem_cons_self)) hini
  have hU' : vx_Zq Bundle.tN "UNASSIGNED_STACK" Bundle.steD A s' s'.heap := by rw [hhp]; exact vx_Zq.moved hW0.alike (hU.kept hS.2.1)
  have hN' : vx_Zq Bundle.tN "SUPPRESSED_SENTINEL" Bundle.listD A s' s'.heap := by rw [hhp]; exact vx_Zq.moved hW0.alike (hN.kept hS.2.1)
  have h : ∀ w ∈ vz_own own ic cls ix rx names, w.before args s' = true := vx_own hat' (vx_isRefq hU'.1) (vx_isRefq hN'.1) hU'.2.word hN'.2.word
  have hown' : s'.vm.findClass own = some m.cls := by rw [hvm]; exact hown
  have hins : (Cond.instantiable cls 6).before args s' = true := h _ (by simp [vz_own])
  obtain ⟨vm₁, cX, kX, hfX, hkX, -, -, X₁, st1⟩ := Y.newCold hexec (own := own) (C := cls) (index := ik) (n := 6) hown' hk' hins hini'
    (g := F0 m pc ls rest) rfl (by rw [hb]; exact d0) (Nat.le_refl _) (Nat.le_refl _)
  generalize hT1 : (T.setVm vm₁).pushCell { cls := cX, slots := kX.instanceTypes.map defaultValue, vm := .none } = T1 at X₁ st1
  have hcat : (Value.ref T.heap.size).category = 1 := rfl
  have hcellA : T1.heap[T.heap.size]? = some (freshCell cX kX) := by rw [← hT1]; exact State.heap_pushCell_size _ _
  have d3' : decode c.code (pc + 3) = .ok (.dup, 1) := by rw [hb]; exact d3
  have d4' : decode c.code (pc + 4) = .ok (.ldc_w is, 3) := by rw [hb]; exact d4
  have hstr' : vk_R own is text sa s' := vk_R.warm hW0 hstr
  obtain ⟨V, ce, L, Z, hL, hlt, hcl9, hvm9, st⟩ := vz_ctorMadeS x0 x1 x2 x5 X₁ hexec htr (own := own) (cls := cls) (names := names) (ic := ic) hown' hcls hnames h (fun x hx => nomatch hx) hfX hkX hcellA (by rw [hhp]; exact Nat.le_refl _) (msg := .ref sa) rfl
    (g := { method := m, pc := pc + 7, locals := ls, stack := .ref sa :: .ref T.heap.size :: .ref T.heap.size :: rest, locked := none }) rfl hsize (rest := rest) rfl
    (by rw [hb]; exact d6) hRframes (by simp only [List.map_cons, List.sum_cons, hcat]; omega)
  have Z0 := Stand.forget (locs := []) Z (fun y hy => by rw [hL y hy, hhp]; exact Nat.le_refl _)
  obtain ⟨f1, f2⟩ := vx_frame Z0.same
  rw [hhp] at f1 f2
  have hcid : s.vm.findClass cls = some ce.cls := by
    rw [hcl9]
    rw [hvm] at hfX
    exact hfX
  have hh : (V.setCell T.heap.size ce).heap[T.heap.size]? = some ce := heapAt_setCell_self (s := V) ce hlt
  subst hA'
  have X5 := vx_back9 X Y Z0
  have X6 : Stand p l e R s m args below meth c (V.setCell T.heap.size ce) locs (cells + 1) (slots + 6) := { X5 with same := X5.same.mono (by omega) (by omega) }
  obtain ⟨t, a1, b1⟩ := kk T.heap.size (V.setCell T.heap.size ce).heap ce hh hvm9 hcid f1 (fun z hz => f2 z hz (fun y hy => nomatch hy)) _ rfl X6
  refine ⟨t, st1 _ ?_, b1⟩
  show Steps p.tables e below (T1.setTop { method := m, pc := pc + 3, locals := ls, stack := .ref T.heap.size :: rest, locked := none }) _
  jvm_step X₁.here [X₁.here.top, hexec, d3', Value.category]
  exact X₁.ldcStringW hexec (own := own) (text := text) (index := is) (a := sa) hown' hstr'.1 hstr'.2
    (g := { method := m, pc := pc + 4, locals := ls, stack := .ref T.heap.size :: .ref T.heap.size :: rest, locked := none }) rfl d4' _ (st _ a1)
end VZK3
theorem V_throwW {x : Cx} {l : Launch} {G : GG} {y : MI} {Φ : AOut → Mem → Prop} (hB : Bd x l G y Φ) (hno : NoH x) {ik is ic n pc : Nat} {E text : String} {τ : Mem} {al : Al} {r : List AV} (ht : TH y.1.cls ik is ic E text)
    (hd : decode y.2.1 pc = .ok (.new ik, 3) ∧ decode y.2.1 (pc + 3) = .ok (.dup, 1) ∧ decode y.2.1 (pc + 4) = .ok (.ldc_w is, 3) ∧ decode y.2.1 (pc + 7) = .ok (.invokespecial ic, 3) ∧ decode y.2.1 (pc + 10) = .ok (.athrow, 1)) (hc : acats r ≤ 8) (hn : n + 1 ≤ y.2.2.2.2.1) (k : Φ (.inr E) τ) : V x τ n pc al r := by
  obtain ⟨hg, rfl, rfl, rfl, rfl⟩ := hB
  obtain ⟨l, G, p, e, s, m, args, below, meth, c, y, Φ⟩ := x
  obtain ⟨hx, hb, hown, hts, hml, hlk, hret, hstt, hG, hX⟩ := hg
  obtain ⟨ix, rx, ⟨z0, z1, z2, z5⟩, t1, t2, t3, t4, t5, t6, t7⟩ := ht
  have hn : n + 1 ≤ y.2.2.2.2.1 := hn
  intro H locs ls hW hS hL
  obtain ⟨-, -, -, -, g5, g6, g7, g8, g9⟩ := hG
  obtain ⟨hU, hN⟩ := g7 _ _ hX
  obtain ⟨sa, hsa⟩ := g8 _ _ hX _ t4
  have hat : ∀ w ∈ vz_at y.1.cls ic E ix rx rte, w.before args s = true := by
    intro w hw
    by_cases gw : goodWord w = true
    · exact hts w (List.mem_filter.mpr ⟨t5 w (List.mem_filter.mpr ⟨hw, gw⟩), gw⟩)
    · have h1 := g9 _ _ hX w (t6 w (List.mem_filter.mpr ⟨hw, by simpa using gw⟩))
      have h2 := t7 w hw
      simp only [vx_ot, Bool.or_eq_true] at h2
      rcases h2 with h2 | h2
      · exact va_tabs h2 rfl h1
      · exact absurd h2 gw
  refine vz_makeSW z0 z1 z2 z5 (A := AA G) (own := y.1.cls) (cls := E) (names := rte) (text := text) hx hb hstt hown t1 rte_fit (hts _ t2) (hts _ t3) hsa hat (fun w hw => ?_) hU hN hS (hL.1.trans hml.symm) hd.1 hd.2.1 hd.2.2.1 hd.2.2.2.1 ?_ ?_ ?_ ?_ ?_
  · rcases List.mem_cons.mp hw with rfl | hw
    · rfl
    · rcases List.mem_cons.mp hw with rfl | hw
      · rfl
      · exact t7 w hw
  · simp only [rmI, rte, List.length_cons, List.length_nil]; omega
  · rw [acats_sum]
    simp only [rmI, rte, List.length_cons, List.length_nil]; omega
  · simp only [rmI]; exact hn
  · simp only [rmI]; omega
  · intro q H1 ce hce hcv hcl hz hk
    refine vx_athrow hx hb hd.2.2.2.2 ?_
    refine vx_out (fun z9 hz9 => (hno z9 hz9).elim) hlk hce hcv hcl (fun t9 ht9 hvm => ?_) hS.2.2 hn (by omega)
    refine ⟨⟨τ, k, ?_⟩, ?_⟩
    · rw [ht9]; exact hW.wh.grow hz hk
    · exact ⟨by rw [ht9]; exact Nat.le_trans hS.1 hz, fun q h1 h2 => by rw [ht9]; exact (hk q (Nat.lt_of_lt_of_le h1 hS.1)).trans (hS.2.1 q h1 h2)⟩

