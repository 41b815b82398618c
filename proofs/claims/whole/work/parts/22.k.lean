/-! ===== walks with the heap in the open ===== -/
abbrev MX : Type := MethodName × ByteArray × Nat × Option FieldType × Nat × Nat × Nat
abbrev Cw : Type := Launch × GG × Program × Env × State × MethodId × Array Value × List Frame × Method × Code × MX × (State → Prop)
def rmX (y : MX) : Room := { frames := y.2.2.2.2.2.2 + 8, cells := y.2.2.2.2.1, slots := y.2.2.2.2.2.1, locals := 40 * y.2.2.2.2.2.2 + 300 }
def KW (x : Cw) (H : Heap) (locs : List Loc) (n m0 pc : Nat) (al : Al) (st : List AV) : Prop := match x with
  | (l, G, p, e, s, m, args, below, meth, c, y, Q) => ∀ ls : Array Slot, Lh G ls y.2.2.1 al → W p l e (rmX y) s m args below meth c H locs n m0 Q (F0 m pc ls (st.map (conc G)))
def Gw (x : Cw) : Prop := match x with
  | (_, G, p, _, s, m, args, _, _, c, y, _) => p.tables.exec = Jvm.exec ∧ c.code = y.2.1 ∧ s.vm.findClass y.1.cls = some m.cls ∧ (∀ w ∈ TBg, w.before args s = true) ∧ c.maxLocals = y.2.2.1 ∧ va_K G.1 vwCl (tysG G) s ∧ G.2.2.2.2 s s.heap
abbrev wY (x : Cw) : MX := x.2.2.2.2.2.2.2.2.2.2.1
abbrev wG (x : Cw) : GG := x.2.1
abbrev wS (x : Cw) : State := x.2.2.2.2.1
theorem KW.sub {x : Cw} {H : Heap} {locs : List Loc} {n m0 pc : Nat} {al al' : Al} {st : List AV} (k : KW x H locs n m0 pc al' st) (hs : ∀ q ∈ al', lk al q.1 = some q.2) : KW x H locs n m0 pc al st := by
  obtain ⟨l, G, p, e, s, m, args, below, meth, c, y, Q⟩ := x
  exact fun ls hL => k ls (hL.sub hs)
abbrev wM (x : Cw) : Method := x.2.2.2.2.2.2.2.2.1
abbrev wMe (x : Cw) : Method := x.2.2.2.2.2.2.2.2.1
abbrev wB (x : Cw) : List Frame := x.2.2.2.2.2.2.2.1
abbrev wR (x : Cw) : Array Value := x.2.2.2.2.2.2.1
abbrev wQ (x : Cw) : State → Prop := x.2.2.2.2.2.2.2.2.2.2.2
section KROWS
variable {x : Cw} {H : Heap} {locs : List Loc} {n m0 pc : Nat} {al : Al} {r : List AV}
theorem k_iadd {y9 : MX} {a b : Int32} (hg : Gw x) (hy : wY x = y9) (hd : decode y9.2.1 pc = .ok (.iadd, 1)) (k : KW x H locs n m0 (pc + 1) al (.inl (.int (a + b)) :: r)) : KW x H locs n m0 pc al (.inl (.int b) :: .inl (.int a) :: r) := by
  subst hy
  obtain ⟨l, G, p, e, s, m, args, below, meth, c, y, Q⟩ := x
  obtain ⟨hx, hb, -⟩ := hg
  exact fun ls hL => lv_iadd hx hb hd (k ls hL)
theorem k_isub {y9 : MX} {a b : Int32} (hg : Gw x) (hy : wY x = y9) (hd : decode y9.2.1 pc = .ok (.isub, 1)) (k : KW x H locs n m0 (pc + 1) al (.inl (.int (a - b)) :: r)) : KW x H locs n m0 pc al (.inl (.int b) :: .inl (.int a) :: r) := by
  subst hy
  obtain ⟨l, G, p, e, s, m, args, below, meth, c, y, Q⟩ := x
  obtain ⟨hx, hb, -⟩ := hg
  exact fun ls hL => lv_isub hx hb hd (k ls hL)
theorem k_imul {y9 : MX} {a b : Int32} (hg : Gw x) (hy : wY x = y9) (hd : decode y9.2.1 pc = .ok (.imul, 1)) (k : KW x H locs n m0 (pc + 1) al (.inl (.int (a * b)) :: r)) : KW x H locs n m0 pc al (.inl (.int b) :: .inl (.int a) :: r) := by
  subst hy
  obtain ⟨l, G, p, e, s, m, args, below, meth, c, y, Q⟩ := x
  obtain ⟨hx, hb, -⟩ := hg
  exact fun ls hL => lv_imul hx hb hd (k ls hL)
theorem k_iand {y9 : MX} {a b : Int32} (hg : Gw x) (hy : wY x = y9) (hd : decode y9.2.1 pc = .ok (.iand, 1)) (k : KW x H locs n m0 (pc + 1) al (.inl (.int (a &&& b)) :: r)) : KW x H locs n m0 pc al (.inl (.int b) :: .inl (.int a) :: r) := by
  subst hy
  obtain ⟨l, G, p, e, s, m, args, below, meth, c, y, Q⟩ := x
  obtain ⟨hx, hb, -⟩ := hg
  exact fun ls hL => lv_iand hx hb hd (k ls hL)
theorem k_ishl {y9 : MX} {a b : Int32} (hg : Gw x) (hy : wY x = y9) (hd : decode y9.2.1 pc = .ok (.ishl, 1)) (k : KW x H locs n m0 (pc + 1) al (.inl (.int (a <<< (b &&& 31))) :: r)) : KW x H locs n m0 pc al (.inl (.int b) :: .inl (.int a) :: r) := by
  subst hy
  obtain ⟨l, G, p, e, s, m, args, below, meth, c, y, Q⟩ := x
  obtain ⟨hx, hb, -⟩ := hg
  exact fun ls hL => lv_ishl hx hb hd (k ls hL)
theorem k_ishr {y9 : MX} {a b : Int32} (hg : Gw x) (hy : wY x = y9) (hd : decode y9.2.1 pc = .ok (.ishr, 1)) (k : KW x H locs n m0 (pc + 1) al (.inl (.int (a >>> (b &&& 31))) :: r)) : KW x H locs n m0 pc al (.inl (.int b) :: .inl (.int a) :: r) := by
  subst hy
  obtain ⟨l, G, p, e, s, m, args, below, meth, c, y, Q⟩ := x
  obtain ⟨hx, hb, -⟩ := hg
  exact fun ls hL => lv_ishr hx hb hd (k ls hL)
theorem k_iconst {y9 : MX} {z : Int} {v : Int32} (hg : Gw x) (hy : wY x = y9) (hv : Int32.ofInt z = v) (hd : decode y9.2.1 pc = .ok (.iconst z, 1)) (k : KW x H locs n m0 (pc + 1) al (.inl (.int v) :: r)) : KW x H locs n m0 pc al (r) := by
  subst hy
  obtain ⟨l, G, p, e, s, m, args, below, meth, c, y, Q⟩ := x
  obtain ⟨hx, hb, -⟩ := hg
  exact fun ls hL => lv_iconst hx hb hd hv (k ls hL)
theorem k_bipush {y9 : MX} {z : Int} {v : Int32} (hg : Gw x) (hy : wY x = y9) (hv : (Int8.ofInt z).toInt32 = v) (hd : decode y9.2.1 pc = .ok (.bipush z, 2)) (k : KW x H locs n m0 (pc + 2) al (.inl (.int v) :: r)) : KW x H locs n m0 pc al (r) := by
  subst hy
  obtain ⟨l, G, p, e, s, m, args, below, meth, c, y, Q⟩ := x
  obtain ⟨hx, hb, -⟩ := hg
  exact fun ls hL => lv_bipush hx hb hd hv (k ls hL)
theorem k_sipush {y9 : MX} {z : Int} {v : Int32} (hg : Gw x) (hy : wY x = y9) (hv : (Int16.ofInt z).toInt32 = v) (hd : decode y9.2.1 pc = .ok (.sipush z, 3)) (k : KW x H locs n m0 (pc + 3) al (.inl (.int v) :: r)) : KW x H locs n m0 pc al (r) := by
  subst hy
  obtain ⟨l, G, p, e, s, m, args, below, meth, c, y, Q⟩ := x
  obtain ⟨hx, hb, -⟩ := hg
  exact fun ls hL => lv_sipush hx hb hd hv (k ls hL)
theorem k_lconst0 {y9 : MX} (hg : Gw x) (hy : wY x = y9) (hd : decode y9.2.1 pc = .ok (.lconst 0, 1)) (k : KW x H locs n m0 (pc + 1) al (.inl (.long 0) :: r)) : KW x H locs n m0 pc al (r) := by
  subst hy
  obtain ⟨l, G, p, e, s, m, args, below, meth, c, y, Q⟩ := x
  obtain ⟨hx, hb, -⟩ := hg
  exact fun ls hL => lv_lconst hx hb hd rfl (k ls hL)
theorem k_dup {y9 : MX} {v : AV} (hg : Gw x) (hy : wY x = y9) (hc : acat v = 1) (hd : decode y9.2.1 pc = .ok (.dup, 1)) (k : KW x H locs n m0 (pc + 1) al (v :: v :: r)) : KW x H locs n m0 pc al (v :: r) := by
  subst hy
  obtain ⟨l, G, p, e, s, m, args, below, meth, c, y, Q⟩ := x
  obtain ⟨hx, hb, -⟩ := hg
  exact fun ls hL => lv_dup hx hb hd ((acat_conc G v).trans hc) (k ls hL)
theorem k_pop {y9 : MX} {v : AV} (hg : Gw x) (hy : wY x = y9) (hc : acat v = 1) (hd : decode y9.2.1 pc = .ok (.pop, 1)) (k : KW x H locs n m0 (pc + 1) al (r)) : KW x H locs n m0 pc al (v :: r) := by
  subst hy
  obtain ⟨l, G, p, e, s, m, args, below, meth, c, y, Q⟩ := x
  obtain ⟨hx, hb, -⟩ := hg
  exact fun ls hL => lv_pop hx hb hd ((acat_conc G v).trans hc) (k ls hL)
theorem k_iload {y9 : MX} {i : Nat} {v : Int32} (hg : Gw x) (hy : wY x = y9) (hd : decode y9.2.1 pc = .ok (.iload i, 2)) (hl : lk al i = some (.inl (.int v))) (k : KW x H locs n m0 (pc + 2) al (.inl (.int v) :: r)) : KW x H locs n m0 pc al r := by
  subst hy
  obtain ⟨l, G, p, e, s, m, args, below, meth, c, y, Q⟩ := x
  obtain ⟨hx, hb, -⟩ := hg
  exact fun ls hL => lv_iload hx hb hd (hL.at hl) (k ls hL)
theorem k_iload_n {y9 : MX} {f : Fin 4} {i : Nat} {v : Int32} (hg : Gw x) (hy : wY x = y9) (hd : decode y9.2.1 pc = .ok (.iload_n f, 1)) (hi : (f : Nat) = i) (hl : lk al i = some (.inl (.int v))) (k : KW x H locs n m0 (pc + 1) al (.inl (.int v) :: r)) : KW x H locs n m0 pc al r := by
  subst hy
  obtain ⟨l, G, p, e, s, m, args, below, meth, c, y, Q⟩ := x
  obtain ⟨hx, hb, -⟩ := hg
  exact fun ls hL => lv_iload_n hx hb hd hi (hL.at hl) (k ls hL)
theorem k_aload {y9 : MX} {i : Nat} {v : AV} (hg : Gw x) (hy : wY x = y9) (hd : decode y9.2.1 pc = .ok (.aload i, 2)) (hr : isRf v = true) (hl : lk al i = some v) (k : KW x H locs n m0 (pc + 2) al (v :: r)) : KW x H locs n m0 pc al r := by
  subst hy
  obtain ⟨l, G, p, e, s, m, args, below, meth, c, y, Q⟩ := x
  obtain ⟨hx, hb, -⟩ := hg
  intro ls hL
  have k1 := k ls hL
  have h1 := hL.at hl
  rw [List.map_cons] at k1
  rcases isRf_conc (G := G) hr with h | ⟨a, h⟩
  · rw [h] at k1 h1
    exact lv_aloadN hx hb hd h1 k1
  · rw [h] at k1 h1
    exact lv_aload hx hb hd h1 k1
theorem k_aload_n {y9 : MX} {f : Fin 4} {i : Nat} {v : AV} (hg : Gw x) (hy : wY x = y9) (hd : decode y9.2.1 pc = .ok (.aload_n f, 1)) (hi : (f : Nat) = i) (hr : isRf v = true) (hl : lk al i = some v) (k : KW x H locs n m0 (pc + 1) al (v :: r)) : KW x H locs n m0 pc al r := by
  subst hy
  obtain ⟨l, G, p, e, s, m, args, below, meth, c, y, Q⟩ := x
  obtain ⟨hx, hb, -⟩ := hg
  intro ls hL
  have k1 := k ls hL
  have h1 := hL.at hl
  rw [List.map_cons] at k1
  rcases isRf_conc (G := G) hr with h | ⟨a, h⟩
  · rw [h] at k1 h1
    exact lv_aload_nN hx hb hd hi h1 k1
  · rw [h] at k1 h1
    exact lv_aload_n hx hb hd hi h1 k1
theorem k_istore {y9 : MX} {i : Nat} {v : Int32} (hg : Gw x) (hy : wY x = y9) (hd : decode y9.2.1 pc = .ok (.istore i, 2)) (hn : i < y9.2.2.1) (k : KW x H locs n m0 (pc + 2) (lput al i (.inl (.int v))) r) : KW x H locs n m0 pc al (.inl (.int v) :: r) := by
  subst hy
  obtain ⟨l, G, p, e, s, m, args, below, meth, c, y, Q⟩ := x
  obtain ⟨hx, hb, -⟩ := hg
  exact fun ls hL => lv_istore hx hb hd hL hn rfl (fun ls' h => k ls' (Lh.put1 rfl rfl h))
theorem k_istore_n {y9 : MX} {f : Fin 4} {i : Nat} {v : Int32} (hg : Gw x) (hy : wY x = y9) (hd : decode y9.2.1 pc = .ok (.istore_n f, 1)) (hi : (f : Nat) = i) (hn : i < y9.2.2.1) (k : KW x H locs n m0 (pc + 1) (lput al i (.inl (.int v))) r) : KW x H locs n m0 pc al (.inl (.int v) :: r) := by
  subst hy
  obtain ⟨l, G, p, e, s, m, args, below, meth, c, y, Q⟩ := x
  obtain ⟨hx, hb, -⟩ := hg
  exact fun ls hL => lv_istore_n hx hb hd hi hL hn rfl (fun ls' h => k ls' (Lh.put1 rfl rfl h))
theorem k_astore {y9 : MX} {i : Nat} {v : AV} (hg : Gw x) (hy : wY x = y9) (hd : decode y9.2.1 pc = .ok (.astore i, 2)) (hr : isRf v = true) (hn : i < y9.2.2.1) (k : KW x H locs n m0 (pc + 2) (lput al i v) r) : KW x H locs n m0 pc al (v :: r) := by
  subst hy
  obtain ⟨l, G, p, e, s, m, args, below, meth, c, y, Q⟩ := x
  obtain ⟨hx, hb, -⟩ := hg
  intro ls hL
  rw [List.map_cons]
  rcases isRf_conc (G := G) hr with h | ⟨a, h⟩
  · rw [h]
    exact lv_astoreN hx hb hd hL hn rfl (fun ls' h9 => k ls' (Lh.put1 (isRf_cat hr) h.symm h9))
  · rw [h]
    exact lv_astore hx hb hd hL hn rfl (fun ls' h9 => k ls' (Lh.put1 (isRf_cat hr) h.symm h9))
theorem k_astore_n {y9 : MX} {f : Fin 4} {i : Nat} {v : AV} (hg : Gw x) (hy : wY x = y9) (hd : decode y9.2.1 pc = .ok (.astore_n f, 1)) (hi : (f : Nat) = i) (hr : isRf v = true) (hn : i < y9.2.2.1) (k : KW x H locs n m0 (pc + 1) (lput al i v) r) : KW x H locs n m0 pc al (v :: r) := by
  subst hy
  obtain ⟨l, G, p, e, s, m, args, below, meth, c, y, Q⟩ := x
  obtain ⟨hx, hb, -⟩ := hg
  intro ls hL
  rw [List.map_cons]
  rcases isRf_conc (G := G) hr with h | ⟨a, h⟩
  · rw [h]
    exact lv_astore_nN hx hb hd hi hL hn rfl (fun ls' h9 => k ls' (Lh.put1 (isRf_cat hr) h.symm h9))
  · rw [h]
    exact lv_astore_n hx hb hd hi hL hn rfl (fun ls' h9 => k ls' (Lh.put1 (isRf_cat hr) h.symm h9))
theorem k_iinc {y9 : MX} {i : Nat} {z : Int} {v w : Int32} (hg : Gw x) (hy : wY x = y9) (hd : decode y9.2.1 pc = .ok (.iinc i z, 3)) (hn : i < y9.2.2.1) (hl : lk al i = some (.inl (.int v))) (hv : Int32.ofInt z = w) (k : KW x H locs n m0 (pc + 3) (lput al i (.inl (.int (v + w)))) r) : KW x H locs n m0 pc al r := by
  subst hy
  obtain ⟨l, G, p, e, s, m, args, below, meth, c, y, Q⟩ := x
  obtain ⟨hx, hb, -⟩ := hg
  intro ls hL
  have hm : (i, Value.int v) ∈ al.map (fun q => (q.1, conc G q.2)) := List.mem_map.mpr ⟨_, lk_mem hl, rfl⟩
  obtain ⟨j, hj⟩ := List.getElem?_of_mem hm
  subst hv
  exact lv_iinc hx hb hd hL hj rfl hn rfl (fun ls' h => k ls' (Lh.put1 (v := .inl (.int (v + Int32.ofInt z))) rfl rfl h))
theorem k_icmp_eq {y9 : MX} {a b : Int32} {off : Int} {tgt : Nat} (hg : Gw x) (hy : wY x = y9) (hd : decode y9.2.1 pc = .ok (.if_icmp .eq off, 3)) (ht : (pc : Int) + off = (tgt : Int)) (kt : a = b → KW x H locs n m0 tgt al r) (kf : ¬ a = b → KW x H locs n m0 (pc + 3) al r) : KW x H locs n m0 pc al (.inl (.int b) :: .inl (.int a) :: r) := by
  subst hy
  obtain ⟨l, G, p, e, s, m, args, below, meth, c, y, Q⟩ := x
  obtain ⟨hx, hb, -⟩ := hg
  exact fun ls hL => lv_icmp_eq hx hb hd ht (fun q => kt q ls hL) (fun q => kf q ls hL)
theorem k_if_eq {y9 : MX} {a : Int32} {off : Int} {tgt : Nat} (hg : Gw x) (hy : wY x = y9) (hd : decode y9.2.1 pc = .ok (.ifCond .eq off, 3)) (ht : (pc : Int) + off = (tgt : Int)) (kt : a = 0 → KW x H locs n m0 tgt al r) (kf : ¬ a = 0 → KW x H locs n m0 (pc + 3) al r) : KW x H locs n m0 pc al (.inl (.int a) :: r) := by
  subst hy
  obtain ⟨l, G, p, e, s, m, args, below, meth, c, y, Q⟩ := x
  obtain ⟨hx, hb, -⟩ := hg
  exact fun ls hL => lv_if_eq hx hb hd ht (fun q => kt q ls hL) (fun q => kf q ls hL)
theorem k_icmp_ne {y9 : MX} {a b : Int32} {off : Int} {tgt : Nat} (hg : Gw x) (hy : wY x = y9) (hd : decode y9.2.1 pc = .ok (.if_icmp .ne off, 3)) (ht : (pc : Int) + off = (tgt : Int)) (kt : ¬ a = b → KW x H locs n m0 tgt al r) (kf : a = b → KW x H locs n m0 (pc + 3) al r) : KW x H locs n m0 pc al (.inl (.int b) :: .inl (.int a) :: r) := by
  subst hy
  obtain ⟨l, G, p, e, s, m, args, below, meth, c, y, Q⟩ := x
  obtain ⟨hx, hb, -⟩ := hg
  exact fun ls hL => lv_icmp_ne hx hb hd ht (fun q => kt q ls hL) (fun q => kf q ls hL)
theorem k_if_ne {y9 : MX} {a : Int32} {off : Int} {tgt : Nat} (hg : Gw x) (hy : wY x = y9) (hd : decode y9.2.1 pc = .ok (.ifCond .ne off, 3)) (ht : (pc : Int) + off = (tgt : Int)) (kt : ¬ a = 0 → KW x H locs n m0 tgt al r) (kf : a = 0 → KW x H locs n m0 (pc + 3) al r) : KW x H locs n m0 pc al (.inl (.int a) :: r) := by
  subst hy
  obtain ⟨l, G, p, e, s, m, args, below, meth, c, y, Q⟩ := x
  obtain ⟨hx, hb, -⟩ := hg
  exact fun ls hL => lv_if_ne hx hb hd ht (fun q => kt q ls hL) (fun q => kf q ls hL)
theorem k_icmp_lt {y9 : MX} {a b : Int32} {off : Int} {tgt : Nat} (hg : Gw x) (hy : wY x = y9) (hd : decode y9.2.1 pc = .ok (.if_icmp .lt off, 3)) (ht : (pc : Int) + off = (tgt : Int)) (kt : a < b → KW x H locs n m0 tgt al r) (kf : ¬ a < b → KW x H locs n m0 (pc + 3) al r) : KW x H locs n m0 pc al (.inl (.int b) :: .inl (.int a) :: r) := by
  subst hy
  obtain ⟨l, G, p, e, s, m, args, below, meth, c, y, Q⟩ := x
  obtain ⟨hx, hb, -⟩ := hg
  exact fun ls hL => lv_icmp_lt hx hb hd ht (fun q => kt q ls hL) (fun q => kf q ls hL)
theorem k_icmp_ge {y9 : MX} {a b : Int32} {off : Int} {tgt : Nat} (hg : Gw x) (hy : wY x = y9) (hd : decode y9.2.1 pc = .ok (.if_icmp .ge off, 3)) (ht : (pc : Int) + off = (tgt : Int)) (kt : b ≤ a → KW x H locs n m0 tgt al r) (kf : ¬ b ≤ a → KW x H locs n m0 (pc + 3) al r) : KW x H locs n m0 pc al (.inl (.int b) :: .inl (.int a) :: r) := by
  subst hy
  obtain ⟨l, G, p, e, s, m, args, below, meth, c, y, Q⟩ := x
  obtain ⟨hx, hb, -⟩ := hg
  exact fun ls hL => lv_icmp_ge hx hb hd ht (fun q => kt q ls hL) (fun q => kf q ls hL)
theorem k_goto {y9 : MX} {off : Int} {tgt : Nat} (hg : Gw x) (hy : wY x = y9) (hd : decode y9.2.1 pc = .ok (.goto off, 3)) (ht : (pc : Int) + off = (tgt : Int)) (k : KW x H locs n m0 tgt al r) : KW x H locs n m0 pc al r := by
  subst hy
  obtain ⟨l, G, p, e, s, m, args, below, meth, c, y, Q⟩ := x
  obtain ⟨hx, hb, -⟩ := hg
  exact fun ls hL => lv_goto hx hb hd ht (k ls hL)
theorem k_pc {pc' : Nat} (h : pc = pc') (k : KW x H locs n m0 pc' al r) : KW x H locs n m0 pc al r := by subst h; exact k
end KROWS
section KHEAP
variable {x : Cw} {H : Heap} {locs : List Loc} {n m0 pc : Nat} {al : Al} {r : List AV}
abbrev wA (x : Cw) : Nat → Prop := AA (wG x)
/-- what 'new' wants -/
def NWO (own : String) (idx ci N : Nat) (fs : List Value) : Prop := ∃ (C : String) (T : u_T) (ty : Nat → FieldType), vwCl[ci]? = some (C, T, N) ∧ Cond.classLink own idx C ∈ TBg ∧ Cond.instantiable C N ∈ TBg ∧ Cond.initialized C ∈ TBg ∧ (∀ w ∈ u_ws C T N, w ∈ TBg) ∧ (∀ k, k < N → parseFieldDescriptor (T k).2.2.1 = some (ty k)) ∧ ∀ j, j < N → defaultValue (ty j) = vp_V fs j
theorem k_new {y9 : MX} {G9 : GG} {idx ci N : Nat} {fs : List Value} (hg : Gw x) (hy : wY x = y9) (hG9 : wG x = G9) (hd : decode y9.2.1 pc = .ok (.new idx, 3)) (hw : NWO y9.1.cls idx ci N fs) (hS : va_S (AA G9) (wS x).heap H locs) (hn : n + 1 ≤ y9.2.2.2.2.1) (hm : m0 + N ≤ y9.2.2.2.2.2.1)
    (kk : ∀ H1, va_at G9.1 vwCl (H.size, .inr (ci, fs)) H1 → H1.size = H.size + 1 → (∀ q : Nat, q < H.size → H1[q]? = H[q]?) → va_S (AA G9) (wS x).heap H1 locs → KW x H1 locs (n + 1) (m0 + N) (pc + 3) al (.inl (.ref H.size) :: r)) : KW x H locs n m0 pc al r := by
  subst hy hG9
  obtain ⟨l, G, p, e, s, m, args, below, meth, c, y, Q⟩ := x
  obtain ⟨hx, hb, hown, hts, hml, hK, hX⟩ := hg
  obtain ⟨C, T, ty, w1, w2, w3, w4, w5, w6, w7⟩ := hw
  have hKn := hK.1 ci _ w1
  intro ls hL
  refine W.newcK hx hb hown (hts _ w2) (hts _ w3) (hts _ w4) rfl hd hn hm hKn.2.1 rfl fun H1 kC hkC e1 z1 o1 => ?_
  exact kk H1 ⟨_, w1, (u_born ty hts w5 hKn hkC e1 w6).to w7⟩ z1 o1 ⟨Nat.le_trans hS.1 (by rw [z1]; exact Nat.le_succ _), fun q h1 h2 => (o1 q (Nat.lt_of_lt_of_le h1 hS.1)).trans (hS.2.1 q h1 h2), hS.2.2⟩ ls hL
/-- newarray of ints, chars, longs, doubles, bytes: the place t of the array class -/
theorem k_newa {y9 : MX} {G9 : GG} {atype : ArrayType} {t N : Nat} {cnt : Int32} {a0 : vp_A} (hg : Gw x) (hy : wY x = y9) (hG9 : wG x = G9) (hd : decode y9.2.1 pc = .ok (.newarray atype, 2)) (hw : Cond.arrayClass (newarray.typeOf atype) ∈ TBg) (ht : (tysG G9)[t]? = some (G9.2.2.2.1 t, newarray.typeOf atype))
    (ha : ∀ cA : ClassId, vp_cell cA a0 = arrV cA N (fun _ => defaultValue (newarray.typeOf atype))) (h0 : ¬ cnt < 0) (hN : cnt.toNatClampNeg = N) (hbytes : N * componentBytes (newarray.typeOf atype) ≤ 536870912) (hS : va_S (AA G9) (wS x).heap H locs) (hn : n + 1 ≤ y9.2.2.2.2.1) (hm : m0 + N ≤ y9.2.2.2.2.2.1)
    (kk : ∀ H1, va_at G9.1 vwCl (H.size, .inl (G9.2.2.2.1 t, a0)) H1 → H1.size = H.size + 1 → (∀ q : Nat, q < H.size → H1[q]? = H[q]?) → va_S (AA G9) (wS x).heap H1 locs → KW x H1 locs (n + 1) (m0 + N) (pc + 2) al (.inl (.ref H.size) :: r)) : KW x H locs n m0 pc al (.inl (.int cnt) :: r) := by
  subst hy hG9
  obtain ⟨l, G, p, e, s, m, args, below, meth, c, y, Q⟩ := x
  obtain ⟨hx, hb, hown, hts, hml, hK, hX⟩ := hg
  intro ls hL
  refine va_newaK hx hb (hts _ hw) rfl hd rfl h0 hN hbytes hn hm rfl fun H1 cA e1 z1 o1 hAr hNm => ?_
  have hc : cA = G.2.2.2.1 t := by
    have h9 := (hK.2 t _ ht).2
    have h8 : s.vm.findClass ("[" ++ (newarray.typeOf atype).toString) = some (G.2.2.2.1 t) := by
      revert h9
      show va_RA s (G.2.2.2.1 t) (newarray.typeOf atype) → _
      cases atype <;> exact fun h => h
    exact Option.some.inj (hNm.symm.trans h8)
  subst hc
  refine kk H1 ?_ z1 o1 ⟨Nat.le_trans hS.1 (by rw [z1]; exact Nat.le_succ _), fun q h1 h2 => (o1 q (Nat.lt_of_lt_of_le h1 hS.1)).trans (hS.2.1 q h1 h2), hS.2.2⟩ ls hL
  show H1[H.size]? = some (vp_cell _ _)
  rw [ha]
  exact e1
/-- a field written -/
def PTO (own : String) (idx ci k : Nat) (v : Value) : Prop := ∃ (C : String) (T : u_T) (N : Nat) (ty0 : Nat → FieldType) (ty : FieldType), vwCl[ci]? = some (C, T, N) ∧ k < N ∧ Cond.fieldLink own idx (T k).1 (T k).2.1 (T k).2.2.1 ∈ TBg ∧ (∀ w ∈ u_ws C T N, w ∈ TBg) ∧ (∀ j, j < N → parseFieldDescriptor (T j).2.2.1 = some (ty0 j)) ∧ (∀ a, a < N → ∀ b, b < N → a ≠ b → (T a).2.1 ≠ (T b).2.1) ∧ parseFieldDescriptor (T k).2.2.1 = some ty ∧ narrow ty v = v ∧ fits ty v = true ∧ (T k).1 = own
theorem k_put {y9 : MX} {G9 : GG} {idx ci k a : Nat} {fs : List Value} {v : AV} (hg : Gw x) (hy : wY x = y9) (hG9 : wG x = G9) (hi : (wM x).name = "<init>") (hd : decode y9.2.1 pc = .ok (.putfield idx, 3)) (hw : PTO y9.1.cls idx ci k (conc G9 v)) (hat : va_at G9.1 vwCl (a, .inr (ci, fs)) H) (hl : k < fs.length) (haA : AA G9 a) (hS : va_S (AA G9) (wS x).heap H locs)
    (kk : ∀ H1 locs1, va_at G9.1 vwCl (a, .inr (ci, fs.set k (conc G9 v))) H1 → H1.size = H.size → (∀ q : Nat, q ≠ a → H1[q]? = H[q]?) → va_S (AA G9) (wS x).heap H1 locs1 → KW x H1 locs1 n m0 (pc + 3) al r) : KW x H locs n m0 pc al (v :: .inl (.ref a) :: r) := by
  subst hy hG9
  obtain ⟨l, G, p, e, s, m, args, below, meth, c, y, Q⟩ := x
  obtain ⟨hx, hb, hown, hts, hml, hK, hX⟩ := hg
  obtain ⟨C, T, N, ty0, ty, w1, w2, w3, w4, w5, w6, w7, w8, w9, w10⟩ := hw
  intro ls hL
  have hap := va_apart (own := y.1.cls) hts w4 ty0 w5 w6 hK w1
  obtain ⟨rr, r1, cell, q1, q2, q3, q4⟩ := hat
  have hr : rr = (C, T, N) := Option.some.inj (r1.symm.trans w1)
  subst hr
  obtain ⟨hSl, hfc, kC, hkC, hkind⟩ := hK.1 ci _ w1
  obtain ⟨cf, kf, fi, f, hi2, hsl⟩ := hSl k w2
  have hlay := hts _ (w4 _ (u_in_lay w2))
  unfold u_lay at hlay
  have hst := (u_facts hfc hkC (u_lays hts w4 w2) hi2).1
  by_cases hfin : (T k).2.2.2 = true
  · rw [if_pos hfin] at hlay
    have hcf : m.cls = cf := by
      obtain ⟨_, _, c', _, _, _, -, -, hf', -, -, -, hown2, -⟩ := Cond.laysFinal_spec hlay
      have e1 : c' = cf := by have := hi2.symm.trans hf'; simp at this; exact this.1.symm
      rw [w10] at hown2
      rw [← e1]; exact Option.some.inj (hown.symm.trans hown2)
    have h6 := u_fits hfc hkC hkind (Or.inr hlay) hi2 w7 w8 w9
    refine W.putFinK hx hb hown (hts _ w3) hi2 hst hcf hi (by rw [q2]; exact h6) q1 q3 (by rw [hsl]; exact k2_hasslot (q4 k w2)) rfl rfl hd fun H' e1 e2 e3 => ?_
    rw [hsl] at e1 ⊢
    exact kk H' _ ⟨_, w1, t_OB.to (V := updV (vp_V fs) k (conc G v)) ⟨_, e1, q2, q3, t_set q4 hap w2 _⟩ (fun i _ => vp_updV_set hl _ i)⟩ e2 e3 (hS.put e2 e3 haA) ls hL
  · rw [if_neg hfin] at hlay
    have h6 := u_store hfc hkC hkind hlay hi2 w7 w8 w9
    refine W.putK hx hb (f := f) ⟨hown, hts _ w3, ⟨_, _, _, hi2⟩, hst⟩ (by rw [q2]; exact h6) q1 q3 (by rw [hsl]; exact k2_hasslot (q4 k w2)) rfl rfl hd fun H' e1 e2 e3 => ?_
    rw [hsl] at e1 ⊢
    exact kk H' _ ⟨_, w1, t_OB.to (V := updV (vp_V fs) k (conc G v)) ⟨_, e1, q2, q3, t_set q4 hap w2 _⟩ (fun i _ => vp_updV_set hl _ i)⟩ e2 e3 (hS.put e2 e3 haA) ls hL
/-- a field read -/
theorem k_get {y9 : MX} {G9 : GG} {idx ci k a : Nat} {fs : List Value} {v : AV} (hg : Gw x) (hy : wY x = y9) (hG9 : wG x = G9) (hd : decode y9.2.1 pc = .ok (.getfield idx, 3)) (hw : ∃ (C : String) (T : u_T) (N : Nat), vwCl[ci]? = some (C, T, N) ∧ k < N ∧ Cond.fieldLink y9.1.cls idx (T k).1 (T k).2.1 (T k).2.2.1 ∈ TBg ∧ (∀ w ∈ u_ws C T N, w ∈ TBg)) (hat : va_at G9.1 vwCl (a, .inr (ci, fs)) H) (hv : fs[k]? = some (conc G9 v))
    (kk : KW x H locs n m0 (pc + 3) al (v :: r)) : KW x H locs n m0 pc al (.inl (.ref a) :: r) := by
  subst hy hG9
  obtain ⟨l, G, p, e, s, m, args, below, meth, c, y, Q⟩ := x
  obtain ⟨hx, hb, hown, hts, hml, hK, hX⟩ := hg
  obtain ⟨C, T, N, w1, w2, w3, w4⟩ := hw
  intro ls hL
  have hP1 : va_P G.1 vwCl [(a, .inr (ci, fs))] H := fun i q hq => by
    match i, hq with
    | 0, hq => cases hq; exact hat
  exact va_get hx hb hts w4 hown hK hP1 0 rfl w1 k w2 (hts _ w3) (fun _ h => h) hv hd (kk ls hL)
/-- Object's constructor -/
theorem k_obj {y9 : MX} {idx a : Nat} (hg : Gw x) (hy : wY x = y9) (hd : decode y9.2.1 pc = .ok (.invokespecial idx, 3)) (hw : Cond.methodLink y9.1.cls idx Lib.objectInit ∈ TBg ∧ Cond.instanceMethod Lib.objectInit ∈ TBg ∧ Cond.code Lib.objectInit ⟨#[0xb1]⟩ 1 none ∈ TBg) (hc : acats r ≤ 8) (kk : KW x H locs n m0 (pc + 3) al r) : KW x H locs n m0 pc al (.inl (.ref a) :: r) := by
  subst hy
  obtain ⟨l, G, p, e, s, m, args, below, meth, c, y, Q⟩ := x
  obtain ⟨hx, hb, hown, hts, hml, hK, hX⟩ := hg
  intro ls hL
  have h8 : 2 * (F0 m pc ls ((.inl (.ref a) :: r : List AV).map (conc G))).monitorRoom + ((r.map (conc G)).map fun v => v.category).sum ≤ 8 := lv_room (by rw [acats_sum]; exact hc)
  exact W.objInit hx hb hown (hts _ hw.1) (hts _ hw.2.1) (hts _ hw.2.2) rfl (hL.1.trans hml.symm) rfl hd (by simp only [rmX]; omega) (Nat.le_trans (Nat.add_le_add_right h8 12) (by simp only [rmX]; omega)) (kk ls hL)
/-- an int stored in an array -/
theorem k_iast {y9 : MX} {G9 : GG} {a N : Nat} {i v : Int32} {f : Nat → Int32} (hg : Gw x) (hy : wY x = y9) (hG9 : wG x = G9) (hd : decode y9.2.1 pc = .ok (.iastore, 1)) (hat : va_at G9.1 vwCl (a, .inl (G9.2.2.2.1 0, N, .inl f)) H) (hi : vp_in i N) (haA : AA G9 a) (hS : va_S (AA G9) (wS x).heap H locs)
    (kk : ∀ H1 locs1, va_at G9.1 vwCl (a, .inl (G9.2.2.2.1 0, N, .inl (uI f i.toNatClampNeg v))) H1 → H1.size = H.size → (∀ q : Nat, q ≠ a → H1[q]? = H[q]?) → va_S (AA G9) (wS x).heap H1 locs1 → KW x H1 locs1 n m0 (pc + 1) al r) : KW x H locs n m0 pc al (.inl (.int v) :: .inl (.int i) :: .inl (.ref a) :: r) := by
  subst hy hG9
  obtain ⟨l, G, p, e, s, m, args, below, meth, c, y, Q⟩ := x
  obtain ⟨hx, hb, hown, hts, hml, hK, hX⟩ := hg
  intro ls hL
  refine W.iast hx hb hat ((hK.2 0 _ rfl).1 N (fun i => .int (f i))) (fun q => by cases q) (by show ¬ (i < 0 ∨ (arrV _ _ _).slots.size ≤ _); rw [arrV_size]; exact hi) rfl rfl hd fun H1 e z oq => ?_
  refine kk H1 _ ?_ z oq (hS.put z oq haA) ls hL
  show H1[_]? = some (vp_cell _ _)
  rw [e]
  show some ((vp_cell _ (N, .inl f)).setSlot _ _) = _
  rw [vp_cell_i, vp_cell_i, arrV_store]
  congr 2
  funext q
  by_cases hq : q = i.toNatClampNeg
  · subst hq; simp [updV, uI]
  · simp [updV, uI, hq]
/-- an array's length -/
theorem k_alen {y9 : MX} {G9 : GG} {a N t : Nat} {b : (Nat → Int32) ⊕ (Nat → Int64) ⊕ (Nat → UInt32) ⊕ (Nat → UInt64) ⊕ (Nat → Option Nat)} {ty : FieldType} (hg : Gw x) (hy : wY x = y9) (hG9 : wG x = G9) (hd : decode y9.2.1 pc = .ok (.arraylength, 1)) (hat : va_at G9.1 vwCl (a, .inl (G9.2.2.2.1 t, N, b)) H) (ht : (tysG G9)[t]? = some (G9.2.2.2.1 t, ty))
    (kk : KW x H locs n m0 (pc + 1) al (.inl (.int (nI N)) :: r)) : KW x H locs n m0 pc al (.inl (.ref a) :: r) := by
  subst hy hG9
  obtain ⟨l, G, p, e, s, m, args, below, meth, c, y, Q⟩ := x
  obtain ⟨hx, hb, hown, hts, hml, hK, hX⟩ := hg
  intro ls hL
  have hP1 : va_P G.1 vwCl [(a, .inl (G.2.2.2.1 t, N, b))] H := fun i q hq => by
    match i, hq with
    | 0, hq => cases hq; exact hat
  exact va_alen hx hb hK hP1 0 t rfl ht rfl hd (kk ls hL)
/-- a method's end -/
theorem k_vret {y9 : MX} {G9 : GG} {Qc : Array Value → State → Outcome → State → Prop} {mc ms : Nat} (hg : Gw x) (hy : wY x = y9) (hG9 : wG x = G9) (hQ : wQ x = MQ (wB x) Qc (wR x) (wS x) mc ms (AA G9)) (hd : decode y9.2.1 pc = .ok (.return_, 1)) (hr : (wMe x).sig.returnType = none) (hlk : (wMe x).locks = false) (hS : va_S (AA G9) (wS x).heap H locs) (hn : n ≤ mc) (hm : m0 ≤ ms)
    (hq : ∀ t : State, t.heap = H → Qc (wR x) (wS x) (.returned none) t) : KW x H locs n m0 pc al [] := by
  subst hy hG9
  obtain ⟨l, G, p, e, s, m, args, below, meth, c, y, Q⟩ := x
  obtain ⟨hx, hb, hown, hts, hml, hK, hX⟩ := hg
  have hQ : Q = MQ below Qc args s mc ms (AA G) := hQ
  subst hQ
  intro ls hL
  refine W.widen hn hm ?_
  exact W.vret hx hb hr (fun t ht hw => hq t ht) hS.2.2 hd hlk
end KHEAP
