/-! ===== the world after a store ===== -/
def upM (f : Nm → Nat → Int32) (nm : Nm) (k : Nat) (v : Int32) : Nm → Nat → Int32 := fun a i => if a = nm ∧ i = k then v else f a i
def upL (f : Nm → Nat → Int64) (nm : Nm) (k : Nat) (v : Int64) : Nm → Nat → Int64 := fun a i => if a = nm ∧ i = k then v else f a i
abbrev wI (τ : Mem) (nm : Nm) (k : Nat) (v : Int32) : Mem := (upM τ.1 nm k v, τ.2)
abbrev wL (τ : Mem) (nm : Nm) (k : Nat) (v : Int64) : Mem := (τ.1, upL τ.2.1 nm k v, τ.2.2)
theorem upM_ne {f : Nm → Nat → Int32} {nm a : Nm} {k i : Nat} {v : Int32} (h : a ≠ nm) : upM f nm k v a i = f a i := by simp [upM, h]
theorem upM_nef {f : Nm → Nat → Int32} {nm a : Nm} {k : Nat} {v : Int32} (h : a ≠ nm) : upM f nm k v a = f a := by funext i; exact upM_ne h
theorem upL_nef {f : Nm → Nat → Int64} {nm a : Nm} {k : Nat} {v : Int64} (h : a ≠ nm) : upL f nm k v a = f a := by funext i; simp [upL, h]
theorem fAV_ne {τ τ' : Mem} {K s j : Nat} (h1 : τ'.1 (K, s, j) = τ.1 (K, s, j)) (h2 : τ'.2.1 (K, s, j) = τ.2.1 (K, s, j)) (k : Nat) : fAV τ' K s j k = fAV τ K s j k := by
  unfold fAV
  split <;> simp [h1, h2]
theorem elR_ne {τ τ' : Mem} {K s j : Nat} (h1 : τ'.1 (K, s, j) = τ.1 (K, s, j)) (i : Nat) : elR τ' K s j i = elR τ K s j i := by
  unfold elR
  split <;> simp [h1]
theorem cel_ne {G : GG} {τ τ' : Mem} {nm : Nm} (h1 : τ'.1 nm = τ.1 nm) (h2 : τ'.2.1 nm = τ.2.1 nm) : cel G τ' nm = cel G τ nm := by
  obtain ⟨K, s, j⟩ := nm
  unfold cel celO celA
  simp only [fAV_ne h1 h2, elR_ne h1, h1, h2]
theorem SbW.kept {G : GG} {τ τ' : Mem} {H H1 : Heap} (h : SbW G τ H) (hs : τ'.2.2 = τ.2.2) (h1 : H1[G.2.1 (50, 0, 0)]? = H[G.2.1 (50, 0, 0)]?) (h2 : H1[τ.2.2.1]? = H[τ.2.2.1]?) : SbW G τ' H1 := by
  obtain ⟨ml, a, q1, q2, q3⟩ := h
  unfold SbW
  rw [hs]
  exact ⟨ml, a, q1.kept h1, q2.kept h2, q3⟩
theorem SbW.ad {G : GG} {τ : Mem} {H : Heap} (h : SbW G τ H) : ∀ nm, dom nm → G.2.1 nm ≠ τ.2.2.1 := by
  obtain ⟨ml, a, q1, q2, q3, q4, q5, q6, q7, q8, q9⟩ := h
  exact q9
/-- one cell written: the rest of the world stays -/
theorem World.put {G : GG} {τ τ' : Mem} {U : State} {H H1 : Heap} {nm : Nm} (hG : Gok G) (h : World G τ U H) (hd : dom nm) (hs : τ'.2.2 = τ.2.2) (h1 : ∀ a, a ≠ nm → τ'.1 a = τ.1 a) (h2 : ∀ a, a ≠ nm → τ'.2.1 a = τ.2.1 a)
    (he : va_at G.1 vwCl (G.2.1 nm, cel G τ' nm) H1) (z : H1.size = H.size) (oq : ∀ q : Nat, q ≠ G.2.1 nm → H1[q]? = H[q]?) : World G τ' U H1 := by
  obtain ⟨hK, hP, hS, hX, hz⟩ := h
  obtain ⟨g1, g2, g3, g4, g5, g6, -⟩ := hG
  refine ⟨hK, fun a ha => ?_, hS.kept hs (oq _ (g3 nm hd).symm) (oq _ (hS.ad nm hd).symm), g6 _ _ _ (fun q _ hq => oq q (fun e => hq (by rw [e]; exact g2 nm hd))) (Nat.le_of_eq z.symm) hX, by rw [z]; exact hz⟩
  by_cases e : a = nm
  · subst e; exact he
  · rw [cel_ne (h1 a e) (h2 a e)]
    exact (hP a ha).kept (oq _ (fun q => e (g1 a nm ha hd q)))
/-! ===== the rows ===== -/
section VROWS
variable {x : Cx} {τ : Mem} {n pc : Nat} {al : Al} {r : List AV}
theorem s_iadd {a b : Int32} (hg : Gd x) (hd : decode (xY x).2.1 pc = .ok (.iadd, 1)) (k : V x τ n (pc + 1) al (.inl (.int (a + b)) :: r)) : V x τ n pc al (.inl (.int b) :: .inl (.int a) :: r) := by
  obtain ⟨l, G, p, e, s, m, args, below, meth, c, y, Φ⟩ := x
  obtain ⟨hx, hb, -⟩ := hg
  exact fun H locs ls hW hS hL => lv_iadd hx hb hd (k H locs ls hW hS hL)
theorem s_isub {a b : Int32} (hg : Gd x) (hd : decode (xY x).2.1 pc = .ok (.isub, 1)) (k : V x τ n (pc + 1) al (.inl (.int (a - b)) :: r)) : V x τ n pc al (.inl (.int b) :: .inl (.int a) :: r) := by
  obtain ⟨l, G, p, e, s, m, args, below, meth, c, y, Φ⟩ := x
  obtain ⟨hx, hb, -⟩ := hg
  exact fun H locs ls hW hS hL => lv_isub hx hb hd (k H locs ls hW hS hL)
theorem s_imul {a b : Int32} (hg : Gd x) (hd : decode (xY x).2.1 pc = .ok (.imul, 1)) (k : V x τ n (pc + 1) al (.inl (.int (a * b)) :: r)) : V x τ n pc al (.inl (.int b) :: .inl (.int a) :: r) := by
  obtain ⟨l, G, p, e, s, m, args, below, meth, c, y, Φ⟩ := x
  obtain ⟨hx, hb, -⟩ := hg
  exact fun H locs ls hW hS hL => lv_imul hx hb hd (k H locs ls hW hS hL)
theorem s_iand {a b : Int32} (hg : Gd x) (hd : decode (xY x).2.1 pc = .ok (.iand, 1)) (k : V x τ n (pc + 1) al (.inl (.int (a &&& b)) :: r)) : V x τ n pc al (.inl (.int b) :: .inl (.int a) :: r) := by
  obtain ⟨l, G, p, e, s, m, args, below, meth, c, y, Φ⟩ := x
  obtain ⟨hx, hb, -⟩ := hg
  exact fun H locs ls hW hS hL => lv_iand hx hb hd (k H locs ls hW hS hL)
theorem s_ior {a b : Int32} (hg : Gd x) (hd : decode (xY x).2.1 pc = .ok (.ior, 1)) (k : V x τ n (pc + 1) al (.inl (.int (a ||| b)) :: r)) : V x τ n pc al (.inl (.int b) :: .inl (.int a) :: r) := by
  obtain ⟨l, G, p, e, s, m, args, below, meth, c, y, Φ⟩ := x
  obtain ⟨hx, hb, -⟩ := hg
  exact fun H locs ls hW hS hL => lv_ior hx hb hd (k H locs ls hW hS hL)
theorem s_ishl {a b : Int32} (hg : Gd x) (hd : decode (xY x).2.1 pc = .ok (.ishl, 1)) (k : V x τ n (pc + 1) al (.inl (.int (a <<< (b &&& 31))) :: r)) : V x τ n pc al (.inl (.int b) :: .inl (.int a) :: r) := by
  obtain ⟨l, G, p, e, s, m, args, below, meth, c, y, Φ⟩ := x
  obtain ⟨hx, hb, -⟩ := hg
  exact fun H locs ls hW hS hL => lv_ishl hx hb hd (k H locs ls hW hS hL)
theorem s_ishr {a b : Int32} (hg : Gd x) (hd : decode (xY x).2.1 pc = .ok (.ishr, 1)) (k : V x τ n (pc + 1) al (.inl (.int (a >>> (b &&& 31))) :: r)) : V x τ n pc al (.inl (.int b) :: .inl (.int a) :: r) := by
  obtain ⟨l, G, p, e, s, m, args, below, meth, c, y, Φ⟩ := x
  obtain ⟨hx, hb, -⟩ := hg
  exact fun H locs ls hW hS hL => lv_ishr hx hb hd (k H locs ls hW hS hL)
theorem s_idiv {a b : Int32} (hg : Gd x) (h0 : ¬ b = 0) (hd : decode (xY x).2.1 pc = .ok (.idiv, 1)) (k : V x τ n (pc + 1) al (.inl (.int (a / b)) :: r)) : V x τ n pc al (.inl (.int b) :: .inl (.int a) :: r) := by
  obtain ⟨l, G, p, e, s, m, args, below, meth, c, y, Φ⟩ := x
  obtain ⟨hx, hb, -⟩ := hg
  exact fun H locs ls hW hS hL => lv_idiv hx hb hd h0 (k H locs ls hW hS hL)
theorem s_irem {a b : Int32} (hg : Gd x) (h0 : ¬ b = 0) (hd : decode (xY x).2.1 pc = .ok (.irem, 1)) (k : V x τ n (pc + 1) al (.inl (.int (a - a / b * b)) :: r)) : V x τ n pc al (.inl (.int b) :: .inl (.int a) :: r) := by
  obtain ⟨l, G, p, e, s, m, args, below, meth, c, y, Φ⟩ := x
  obtain ⟨hx, hb, -⟩ := hg
  exact fun H locs ls hW hS hL => lv_irem hx hb hd h0 (k H locs ls hW hS hL)
theorem s_ineg {a : Int32} (hg : Gd x) (hd : decode (xY x).2.1 pc = .ok (.ineg, 1)) (k : V x τ n (pc + 1) al (.inl (.int (-a)) :: r)) : V x τ n pc al (.inl (.int a) :: r) := by
  obtain ⟨l, G, p, e, s, m, args, below, meth, c, y, Φ⟩ := x
  obtain ⟨hx, hb, -⟩ := hg
  exact fun H locs ls hW hS hL => lv_ineg hx hb hd (k H locs ls hW hS hL)
theorem s_i2l {a : Int32} (hg : Gd x) (hd : decode (xY x).2.1 pc = .ok (.i2l, 1)) (k : V x τ n (pc + 1) al (.inl (.long a.toInt64) :: r)) : V x τ n pc al (.inl (.int a) :: r) := by
  obtain ⟨l, G, p, e, s, m, args, below, meth, c, y, Φ⟩ := x
  obtain ⟨hx, hb, -⟩ := hg
  exact fun H locs ls hW hS hL => lv_i2l hx hb hd rfl (k H locs ls hW hS hL)
theorem s_i2c {a : Int32} (hg : Gd x) (hd : decode (xY x).2.1 pc = .ok (.i2c, 1)) (k : V x τ n (pc + 1) al (.inl (.int (a.toUInt32 % 65536).toInt32) :: r)) : V x τ n pc al (.inl (.int a) :: r) := by
  obtain ⟨l, G, p, e, s, m, args, below, meth, c, y, Φ⟩ := x
  obtain ⟨hx, hb, -⟩ := hg
  exact fun H locs ls hW hS hL => lv_i2c hx hb hd rfl (k H locs ls hW hS hL)
theorem s_i2d {a : Int32} (hg : Gd x) (hd : decode (xY x).2.1 pc = .ok (.i2d, 1)) (k : V x τ n (pc + 1) al (.inl (.double (FP.i2d a)) :: r)) : V x τ n pc al (.inl (.int a) :: r) := by
  obtain ⟨l, G, p, e, s, m, args, below, meth, c, y, Φ⟩ := x
  obtain ⟨hx, hb, -⟩ := hg
  exact fun H locs ls hW hS hL => lv_i2d hx hb hd (k H locs ls hW hS hL)
theorem s_ladd {a b : Int64} (hg : Gd x) (hd : decode (xY x).2.1 pc = .ok (.ladd, 1)) (k : V x τ n (pc + 1) al (.inl (.long (a + b)) :: r)) : V x τ n pc al (.inl (.long b) :: .inl (.long a) :: r) := by
  obtain ⟨l, G, p, e, s, m, args, below, meth, c, y, Φ⟩ := x
  obtain ⟨hx, hb, -⟩ := hg
  exact fun H locs ls hW hS hL => lv_ladd hx hb hd (k H locs ls hW hS hL)
theorem s_lcmp {a b : Int64} (hg : Gd x) (hd : decode (xY x).2.1 pc = .ok (.lcmp, 1)) (k : V x τ n (pc + 1) al (.inl (.int (lg_cmp a b)) :: r)) : V x τ n pc al (.inl (.long b) :: .inl (.long a) :: r) := by
  obtain ⟨l, G, p, e, s, m, args, below, meth, c, y, Φ⟩ := x
  obtain ⟨hx, hb, -⟩ := hg
  exact fun H locs ls hW hS hL => W.lcmp hx hb hd (k H locs ls hW hS hL)
theorem s_ddiv {a b : UInt64} (hg : Gd x) (h0 : vf_n64 (FP.ddiv a b)) (hd : decode (xY x).2.1 pc = .ok (.ddiv, 1)) (k : V x τ n (pc + 1) al (.inl (.double (FP.ddiv a b)) :: r)) : V x τ n pc al (.inl (.double b) :: .inl (.double a) :: r) := by
  obtain ⟨l, G, p, e, s, m, args, below, meth, c, y, Φ⟩ := x
  obtain ⟨hx, hb, -⟩ := hg
  exact fun H locs ls hW hS hL => lv_ddiv hx hb hd h0 (k H locs ls hW hS hL)
theorem s_dcmp {a b : UInt64} {op : CmpOp} (hg : Gd x) (hd : decode (xY x).2.1 pc = .ok (.dcmp op, 1)) (k : V x τ n (pc + 1) al (.inl (.int (Op.cmpValue (FP.dcmp a b) op)) :: r)) : V x τ n pc al (.inl (.double b) :: .inl (.double a) :: r) := by
  obtain ⟨l, G, p, e, s, m, args, below, meth, c, y, Φ⟩ := x
  obtain ⟨hx, hb, -⟩ := hg
  exact fun H locs ls hW hS hL => lv_dcmp hx hb hd (k H locs ls hW hS hL)
theorem s_iconst {z : Int} {v : Int32} (hg : Gd x) (hv : Int32.ofInt z = v) (hd : decode (xY x).2.1 pc = .ok (.iconst z, 1)) (k : V x τ n (pc + 1) al (.inl (.int v) :: r)) : V x τ n pc al (r) := by
  obtain ⟨l, G, p, e, s, m, args, below, meth, c, y, Φ⟩ := x
  obtain ⟨hx, hb, -⟩ := hg
  exact fun H locs ls hW hS hL => lv_iconst hx hb hd hv (k H locs ls hW hS hL)
theorem s_bipush {z : Int} {v : Int32} (hg : Gd x) (hv : (Int8.ofInt z).toInt32 = v) (hd : decode (xY x).2.1 pc = .ok (.bipush z, 2)) (k : V x τ n (pc + 2) al (.inl (.int v) :: r)) : V x τ n pc al (r) := by
  obtain ⟨l, G, p, e, s, m, args, below, meth, c, y, Φ⟩ := x
  obtain ⟨hx, hb, -⟩ := hg
  exact fun H locs ls hW hS hL => lv_bipush hx hb hd hv (k H locs ls hW hS hL)
theorem s_sipush {z : Int} {v : Int32} (hg : Gd x) (hv : (Int16.ofInt z).toInt32 = v) (hd : decode (xY x).2.1 pc = .ok (.sipush z, 3)) (k : V x τ n (pc + 3) al (.inl (.int v) :: r)) : V x τ n pc al (r) := by
  obtain ⟨l, G, p, e, s, m, args, below, meth, c, y, Φ⟩ := x
  obtain ⟨hx, hb, -⟩ := hg
  exact fun H locs ls hW hS hL => lv_sipush hx hb hd hv (k H locs ls hW hS hL)
theorem s_lconst0 (hg : Gd x) (hd : decode (xY x).2.1 pc = .ok (.lconst 0, 1)) (k : V x τ n (pc + 1) al (.inl (.long 0) :: r)) : V x τ n pc al (r) := by
  obtain ⟨l, G, p, e, s, m, args, below, meth, c, y, Φ⟩ := x
  obtain ⟨hx, hb, -⟩ := hg
  exact fun H locs ls hW hS hL => lv_lconst hx hb hd rfl (k H locs ls hW hS hL)
theorem s_dconst0 (hg : Gd x) (hd : decode (xY x).2.1 pc = .ok (.dconst 0, 1)) (k : V x τ n (pc + 1) al (.inl (.double FP.dconst0) :: r)) : V x τ n pc al (r) := by
  obtain ⟨l, G, p, e, s, m, args, below, meth, c, y, Φ⟩ := x
  obtain ⟨hx, hb, -⟩ := hg
  exact fun H locs ls hW hS hL => lv_dconst0 hx hb hd (k H locs ls hW hS hL)
theorem s_null (hg : Gd x) (hd : decode (xY x).2.1 pc = .ok (.aconst_null, 1)) (k : V x τ n (pc + 1) al (.inl .null :: r)) : V x τ n pc al (r) := by
  obtain ⟨l, G, p, e, s, m, args, below, meth, c, y, Φ⟩ := x
  obtain ⟨hx, hb, -⟩ := hg
  exact fun H locs ls hW hS hL => lv_null hx hb hd (k H locs ls hW hS hL)
theorem s_dup {v : AV} (hg : Gd x) (hc : acat v = 1) (hd : decode (xY x).2.1 pc = .ok (.dup, 1)) (k : V x τ n (pc + 1) al (v :: v :: r)) : V x τ n pc al (v :: r) := by
  obtain ⟨l, G, p, e, s, m, args, below, meth, c, y, Φ⟩ := x
  obtain ⟨hx, hb, -⟩ := hg
  exact fun H locs ls hW hS hL => lv_dup hx hb hd ((acat_conc G v).trans hc) (k H locs ls hW hS hL)
theorem s_pop {v : AV} (hg : Gd x) (hc : acat v = 1) (hd : decode (xY x).2.1 pc = .ok (.pop, 1)) (k : V x τ n (pc + 1) al (r)) : V x τ n pc al (v :: r) := by
  obtain ⟨l, G, p, e, s, m, args, below, meth, c, y, Φ⟩ := x
  obtain ⟨hx, hb, -⟩ := hg
  exact fun H locs ls hW hS hL => lv_pop hx hb hd ((acat_conc G v).trans hc) (k H locs ls hW hS hL)
theorem s_dup2 {v w : AV} (hg : Gd x) (hc : acat v = 1) (hc2 : acat w = 1) (hd : decode (xY x).2.1 pc = .ok (.dup2, 1)) (k : V x τ n (pc + 1) al (v :: w :: v :: w :: r)) : V x τ n pc al (v :: w :: r) := by
  obtain ⟨l, G, p, e, s, m, args, below, meth, c, y, Φ⟩ := x
  obtain ⟨hx, hb, -⟩ := hg
  exact fun H locs ls hW hS hL => lv_dup2_11 hx hb hd ((acat_conc G v).trans hc) ((acat_conc G w).trans hc2) (k H locs ls hW hS hL)
theorem s_dup_x1 {v w : AV} (hg : Gd x) (hc : acat v = 1) (hc2 : acat w = 1) (hd : decode (xY x).2.1 pc = .ok (.dup_x1, 1)) (k : V x τ n (pc + 1) al (v :: w :: v :: r)) : V x τ n pc al (v :: w :: r) := by
  obtain ⟨l, G, p, e, s, m, args, below, meth, c, y, Φ⟩ := x
  obtain ⟨hx, hb, -⟩ := hg
  exact fun H locs ls hW hS hL => lv_dup_x1 hx hb hd ((acat_conc G v).trans hc) ((acat_conc G w).trans hc2) (k H locs ls hW hS hL)
theorem s_iload {i : Nat} {v : Int32} (hg : Gd x) (hd : decode (xY x).2.1 pc = .ok (.iload i, 2)) (hl : lk al i = some (.inl (.int v))) (k : V x τ n (pc + 2) al (.inl (.int v) :: r)) : V x τ n pc al r := by
  obtain ⟨l, G, p, e, s, m, args, below, meth, c, y, Φ⟩ := x
  obtain ⟨hx, hb, -⟩ := hg
  exact fun H locs ls hW hS hL => lv_iload hx hb hd (hL.at hl) (k H locs ls hW hS hL)
theorem s_iload_n {f : Fin 4} {i : Nat} {v : Int32} (hg : Gd x) (hd : decode (xY x).2.1 pc = .ok (.iload_n f, 1)) (hi : (f : Nat) = i) (hl : lk al i = some (.inl (.int v))) (k : V x τ n (pc + 1) al (.inl (.int v) :: r)) : V x τ n pc al r := by
  obtain ⟨l, G, p, e, s, m, args, below, meth, c, y, Φ⟩ := x
  obtain ⟨hx, hb, -⟩ := hg
  exact fun H locs ls hW hS hL => lv_iload_n hx hb hd hi (hL.at hl) (k H locs ls hW hS hL)
theorem s_lload {i : Nat} {v : Int64} (hg : Gd x) (hd : decode (xY x).2.1 pc = .ok (.lload i, 2)) (hl : lk al i = some (.inl (.long v))) (k : V x τ n (pc + 2) al (.inl (.long v) :: r)) : V x τ n pc al r := by
  obtain ⟨l, G, p, e, s, m, args, below, meth, c, y, Φ⟩ := x
  obtain ⟨hx, hb, -⟩ := hg
  exact fun H locs ls hW hS hL => lv_lload hx hb hd (hL.at hl) (k H locs ls hW hS hL)
theorem s_lload_n {f : Fin 4} {i : Nat} {v : Int64} (hg : Gd x) (hd : decode (xY x).2.1 pc = .ok (.lload_n f, 1)) (hi : (f : Nat) = i) (hl : lk al i = some (.inl (.long v))) (k : V x τ n (pc + 1) al (.inl (.long v) :: r)) : V x τ n pc al r := by
  obtain ⟨l, G, p, e, s, m, args, below, meth, c, y, Φ⟩ := x
  obtain ⟨hx, hb, -⟩ := hg
  exact fun H locs ls hW hS hL => lv_lload_n hx hb hd hi (hL.at hl) (k H locs ls hW hS hL)
theorem s_dload {i : Nat} {v : UInt64} (hg : Gd x) (hd : decode (xY x).2.1 pc = .ok (.dload i, 2)) (hl : lk al i = some (.inl (.double v))) (k : V x τ n (pc + 2) al (.inl (.double v) :: r)) : V x τ n pc al r := by
  obtain ⟨l, G, p, e, s, m, args, below, meth, c, y, Φ⟩ := x
  obtain ⟨hx, hb, -⟩ := hg
  exact fun H locs ls hW hS hL => lv_dload hx hb hd (hL.at hl) (k H locs ls hW hS hL)
theorem s_dload_n {f : Fin 4} {i : Nat} {v : UInt64} (hg : Gd x) (hd : decode (xY x).2.1 pc = .ok (.dload_n f, 1)) (hi : (f : Nat) = i) (hl : lk al i = some (.inl (.double v))) (k : V x τ n (pc + 1) al (.inl (.double v) :: r)) : V x τ n pc al r := by
  obtain ⟨l, G, p, e, s, m, args, below, meth, c, y, Φ⟩ := x
  obtain ⟨hx, hb, -⟩ := hg
  exact fun H locs ls hW hS hL => lv_dload_n hx hb hd hi (hL.at hl) (k H locs ls hW hS hL)
/-- a reference or null -/
def isRf : AV → Bool
  | .inr _ => true
  | .inl .null => true
  | .inl (.ref _) => true
  | _ => false
theorem isRf_conc {G : GG} {v : AV} (h : isRf v = true) : conc G v = .null ∨ ∃ a, conc G v = .ref a := by
  rcases v with v | v
  · cases v <;> first | exact Or.inl rfl | exact Or.inr ⟨_, rfl⟩ | cases h
  · exact Or.inr ⟨_, rfl⟩
theorem isRf_cat {v : AV} (h : isRf v = true) : acat v = 1 := by
  rcases v with v | v
  · cases v <;> first | rfl | cases h
  · rfl
theorem s_aload {i : Nat} {v : AV} (hg : Gd x) (hd : decode (xY x).2.1 pc = .ok (.aload i, 2)) (hr : isRf v = true) (hl : lk al i = some v) (k : V x τ n (pc + 2) al (v :: r)) : V x τ n pc al r := by
  obtain ⟨l, G, p, e, s, m, args, below, meth, c, y, Φ⟩ := x
  obtain ⟨hx, hb, -⟩ := hg
  intro H locs ls hW hS hL
  have k1 := k H locs ls hW hS hL
  have h1 := hL.at hl
  rw [List.map_cons] at k1
  rcases isRf_conc (G := G) hr with h | ⟨a, h⟩
  · rw [h] at k1 h1
    exact lv_aloadN hx hb hd h1 k1
  · rw [h] at k1 h1
    exact lv_aload hx hb hd h1 k1
theorem s_aload_n {f : Fin 4} {i : Nat} {v : AV} (hg : Gd x) (hd : decode (xY x).2.1 pc = .ok (.aload_n f, 1)) (hi : (f : Nat) = i) (hr : isRf v = true) (hl : lk al i = some v) (k : V x τ n (pc + 1) al (v :: r)) : V x τ n pc al r := by
  obtain ⟨l, G, p, e, s, m, args, below, meth, c, y, Φ⟩ := x
  obtain ⟨hx, hb, -⟩ := hg
  intro H locs ls hW hS hL
  have k1 := k H locs ls hW hS hL
  have h1 := hL.at hl
  rw [List.map_cons] at k1
  rcases isRf_conc (G := G) hr with h | ⟨a, h⟩
  · rw [h] at k1 h1
    exact lv_aload_nN hx hb hd hi h1 k1
  · rw [h] at k1 h1
    exact lv_aload_n hx hb hd hi h1 k1
theorem s_istore {i : Nat} {v : Int32} (hg : Gd x) (hd : decode (xY x).2.1 pc = .ok (.istore i, 2)) (hn : i < (xY x).2.2.1) (k : V x τ n (pc + 2) (lput al i (.inl (.int v))) r) : V x τ n pc al (.inl (.int v) :: r) := by
  obtain ⟨l, G, p, e, s, m, args, below, meth, c, y, Φ⟩ := x
  obtain ⟨hx, hb, -⟩ := hg
  exact fun H locs ls hW hS hL => lv_istore hx hb hd hL hn rfl (fun ls' h => k H locs ls' hW hS (Lh.put1 rfl rfl h))
theorem s_istore_n {f : Fin 4} {i : Nat} {v : Int32} (hg : Gd x) (hd : decode (xY x).2.1 pc = .ok (.istore_n f, 1)) (hi : (f : Nat) = i) (hn : i < (xY x).2.2.1) (k : V x τ n (pc + 1) (lput al i (.inl (.int v))) r) : V x τ n pc al (.inl (.int v) :: r) := by
  obtain ⟨l, G, p, e, s, m, args, below, meth, c, y, Φ⟩ := x
  obtain ⟨hx, hb, -⟩ := hg
  exact fun H locs ls hW hS hL => lv_istore_n hx hb hd hi hL hn rfl (fun ls' h => k H locs ls' hW hS (Lh.put1 rfl rfl h))
theorem s_lstore {i : Nat} {v : Int64} (hg : Gd x) (hd : decode (xY x).2.1 pc = .ok (.lstore i, 2)) (hn : i + 1 < (xY x).2.2.1) (k : V x τ n (pc + 2) (lput al i (.inl (.long v))) r) : V x τ n pc al (.inl (.long v) :: r) := by
  obtain ⟨l, G, p, e, s, m, args, below, meth, c, y, Φ⟩ := x
  obtain ⟨hx, hb, -⟩ := hg
  exact fun H locs ls hW hS hL => lv_lstore hx hb hd hL hn rfl (fun ls' h => k H locs ls' hW hS (Lh.put2 rfl rfl h))
theorem s_lstore_n {f : Fin 4} {i : Nat} {v : Int64} (hg : Gd x) (hd : decode (xY x).2.1 pc = .ok (.lstore_n f, 1)) (hi : (f : Nat) = i) (hn : i + 1 < (xY x).2.2.1) (k : V x τ n (pc + 1) (lput al i (.inl (.long v))) r) : V x τ n pc al (.inl (.long v) :: r) := by
  obtain ⟨l, G, p, e, s, m, args, below, meth, c, y, Φ⟩ := x
  obtain ⟨hx, hb, -⟩ := hg
  exact fun H locs ls hW hS hL => lv_lstore_n hx hb hd hi hL hn rfl (fun ls' h => k H locs ls' hW hS (Lh.put2 rfl rfl h))
theorem s_dstore {i : Nat} {v : UInt64} (hg : Gd x) (hd : decode (xY x).2.1 pc = .ok (.dstore i, 2)) (hn : i + 1 < (xY x).2.2.1) (k : V x τ n (pc + 2) (lput al i (.inl (.double v))) r) : V x τ n pc al (.inl (.double v) :: r) := by
  obtain ⟨l, G, p, e, s, m, args, below, meth, c, y, Φ⟩ := x
  obtain ⟨hx, hb, -⟩ := hg
  exact fun H locs ls hW hS hL => lv_dstore hx hb hd hL hn rfl (fun ls' h => k H locs ls' hW hS (Lh.put2 rfl rfl h))
theorem s_dstore_n {f : Fin 4} {i : Nat} {v : UInt64} (hg : Gd x) (hd : decode (xY x).2.1 pc = .ok (.dstore_n f, 1)) (hi : (f : Nat) = i) (hn : i + 1 < (xY x).2.2.1) (k : V x τ n (pc + 1) (lput al i (.inl (.double v))) r) : V x τ n pc al (.inl (.double v) :: r) := by
  obtain ⟨l, G, p, e, s, m, args, below, meth, c, y, Φ⟩ := x
  obtain ⟨hx, hb, -⟩ := hg
  exact fun H locs ls hW hS hL => lv_dstore_n hx hb hd hi hL hn rfl (fun ls' h => k H locs ls' hW hS (Lh.put2 rfl rfl h))
theorem s_astore {i : Nat} {v : AV} (hg : Gd x) (hd : decode (xY x).2.1 pc = .ok (.astore i, 2)) (hr : isRf v = true) (hn : i < (xY x).2.2.1) (k : V x τ n (pc + 2) (lput al i v) r) : V x τ n pc al (v :: r) := by
  obtain ⟨l, G, p, e, s, m, args, below, meth, c, y, Φ⟩ := x
  obtain ⟨hx, hb, -⟩ := hg
  intro H locs ls hW hS hL
  rw [List.map_cons]
  rcases isRf_conc (G := G) hr with h | ⟨a, h⟩
  · rw [h]
    exact lv_astoreN hx hb hd hL hn rfl (fun ls' h9 => k H locs ls' hW hS (Lh.put1 (isRf_cat hr) h.symm h9))
  · rw [h]
    exact lv_astore hx hb hd hL hn rfl (fun ls' h9 => k H locs ls' hW hS (Lh.put1 (isRf_cat hr) h.symm h9))
theorem s_astore_n {f : Fin 4} {i : Nat} {v : AV} (hg : Gd x) (hd : decode (xY x).2.1 pc = .ok (.astore_n f, 1)) (hi : (f : Nat) = i) (hr : isRf v = true) (hn : i < (xY x).2.2.1) (k : V x τ n (pc + 1) (lput al i v) r) : V x τ n pc al (v :: r) := by
  obtain ⟨l, G, p, e, s, m, args, below, meth, c, y, Φ⟩ := x
  obtain ⟨hx, hb, -⟩ := hg
  intro H locs ls hW hS hL
  rw [List.map_cons]
  rcases isRf_conc (G := G) hr with h | ⟨a, h⟩
  · rw [h]
    exact lv_astore_nN hx hb hd hi hL hn rfl (fun ls' h9 => k H locs ls' hW hS (Lh.put1 (isRf_cat hr) h.symm h9))
  · rw [h]
    exact lv_astore_n hx hb hd hi hL hn rfl (fun ls' h9 => k H locs ls' hW hS (Lh.put1 (isRf_cat hr) h.symm h9))
theorem s_iinc {i : Nat} {z : Int} {v w : Int32} (hg : Gd x) (hd : decode (xY x).2.1 pc = .ok (.iinc i z, 3)) (hn : i < (xY x).2.2.1) (hl : lk al i = some (.inl (.int v))) (hv : Int32.ofInt z = w) (k : V x τ n (pc + 3) (lput al i (.inl (.int (v + w)))) r) : V x τ n pc al r := by
  obtain ⟨l, G, p, e, s, m, args, below, meth, c, y, Φ⟩ := x
  obtain ⟨hx, hb, -⟩ := hg
  intro H locs ls hW hS hL
  have hm : (i, Value.int v) ∈ al.map (fun q => (q.1, conc G q.2)) := List.mem_map.mpr ⟨_, lk_mem hl, rfl⟩
  obtain ⟨j, hj⟩ := List.getElem?_of_mem hm
  subst hv
  exact lv_iinc hx hb hd hL hj rfl hn rfl (fun ls' h => k H locs ls' hW hS (Lh.put1 (v := .inl (.int (v + Int32.ofInt z))) rfl rfl h))
end VROWS
