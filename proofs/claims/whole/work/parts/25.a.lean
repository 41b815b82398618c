/-! ===== the slip: its object, its bytes, its calls ===== -/
abbrev sbM : AV := .inr (50, 0, 0)
def sbU (τ : Mem) (v c n : Nat) (t : Nat → Nat) : Mem := (τ.1, τ.2.1, (v, c, n, t))
theorem World.sb {G : GG} {τ : Mem} {u : State} {H H1 : Heap} {v c n : Nat} {t : Nat → Nat} (hG : Gok G) (h : World G τ u H) (hs : SbW G (sbU τ v c n t) H1) (hz : H.size ≤ H1.size) (ho : ∀ nm, dom nm → H1[G.2.1 nm]? = H[G.2.1 nm]?) (hk : ∀ q : Nat, q < H.size → ¬ AA G q → H1[q]? = H[q]?) : World G (sbU τ v c n t) u H1 := by
  obtain ⟨w1, w2, w3, w4, w5⟩ := h
  exact ⟨w1, fun nm hd => va_at.kept (w2 nm hd) (ho nm hd), hs, hG.2.2.2.2.2.1 _ _ _ hk hz w4, Nat.le_trans w5 hz⟩
section SB
variable {x : Cx} {l : Launch} {G : GG} {y : MI} {Φ : AOut → Mem → Prop} {τ : Mem} {n pc idx : Nat} {al : Al} {r : List AV}
/-- what every state says of the slip -/
theorem V_sbi {st : List AV} (k : τ.2.2.2.2.1 ≤ τ.2.2.2.1 → τ.2.2.2.1 ≤ 200 → (∀ j, j < τ.2.2.2.1 → τ.2.2.2.2.2 j < 256) → V x τ n pc al st) : V x τ n pc al st := by
  obtain ⟨l, G, p, e, s, m, args, below, meth, c, y, Φ⟩ := x
  intro H locs ls hW hS hL
  obtain ⟨ml, a, -, -, h3, -, h5, h6, -⟩ := id hW.2.2.1
  exact k h5 h6 (fun j hj => (h3 j hj).1) H locs ls hW hS hL
theorem V_sbg {k : Nat} {v : AV} (hB : Bd x l G y Φ) (hv : (k = 0 ∧ v = .inl (.ref τ.2.2.1)) ∨ (k = 1 ∧ v = aI 0) ∨ (k = 3 ∧ v = aI (nI τ.2.2.2.2.1))) (hl : Cond.fieldLink y.1.cls idx (TJ4 k).1 (TJ4 k).2.1 (TJ4 k).2.2.1 ∈ TBg) (hd : decode y.2.1 pc = .ok (.getfield idx, 3)) (kk : V x τ n (pc + 3) al (v :: r)) : V x τ n pc al (sbM :: r) := by
  obtain ⟨hg, rfl, rfl, rfl, rfl⟩ := hB
  obtain ⟨l, G, p, e, s, m, args, below, meth, c, y, Φ⟩ := x
  obtain ⟨hx, hb, hown, hts, hml, hlk, hret, hstt, hG, hX⟩ := hg
  intro H locs ls hW hS hL
  obtain ⟨ml, a, h1, h2, h3, h4, h5, h6, h7, h8, h9⟩ := id hW.2.2.1
  have hP1 : va_P G.1 vwCl [(G.2.1 (50, 0, 0), .inr (1, [.ref τ.2.2.1, .int 0, .int ml, .int (nI τ.2.2.2.2.1)]))] H := fun i q hq => by
    match i, hq with
    | 0, hq => cases hq; exact h1
  have hk4 : k < 4 := by omega
  exact va_get hx hb hts lay_J4 hown hW.1 hP1 0 rfl (show vwCl[1]? = some (RJ4, TJ4, 4) from rfl) k hk4 (hts _ hl) (fun _ h => h) (by rcases hv with ⟨rfl, rfl⟩ | ⟨rfl, rfl⟩ | ⟨rfl, rfl⟩ <;> rfl) hd (kk H locs ls hW hS hL)
/-- a field of the slip's object written, in the open -/
theorem sb_putW {p : Program} {e : Env} {R : Room} {s : State} {m : MethodId} {args : Array Value} {below : List Frame} {meth : Method} {c : Code} {H : Heap} {locs : List Loc} {cells slots a k : Nat} {Q : State → Prop} {ls : Array Slot} {rest : List Value} {cc : ByteArray} {own : String} {v : Value} {fs : List Value}
    (hx : p.tables.exec = Jvm.exec) (hb : c.code = cc) (hown : s.vm.findClass own = some m.cls) (hts : ∀ w ∈ TBg, w.before args s = true) (hK : va_K G.1 vwCl (tysG G) s) (hd : decode cc pc = .ok (.putfield idx, 3)) (hw : PTO own idx 1 k v) (hnf : (TJ4 k).2.2.2 = false) (hat : va_at G.1 vwCl (a, .inr (1, fs)) H) (hl : k < fs.length) (haA : AA G a) (hS : va_S (AA G) s.heap H locs)
    (kk : ∀ H1 locs1, va_at G.1 vwCl (a, .inr (1, fs.set k v)) H1 → H1.size = H.size → (∀ q : Nat, q ≠ a → H1[q]? = H[q]?) → va_S (AA G) s.heap H1 locs1 → W p l e R s m args below meth c H1 locs1 cells slots Q (F0 m (pc + 3) ls rest)) : W p l e R s m args below meth c H locs cells slots Q (F0 m pc ls (v :: .ref a :: rest)) := by
  obtain ⟨C, T, N, ty0, ty, w1, w2, w3, w4, w5, w6, w7, w8, w9, w10⟩ := hw
  have hap := va_apart (own := own) hts w4 ty0 w5 w6 hK w1
  obtain ⟨rr, r1, cell, q1, q2, q3, q4⟩ := hat
  have hr : rr = (C, T, N) := Option.some.inj (r1.symm.trans w1)
  subst hr
  have hT : (RJ4, TJ4, 4) = (C, T, N) := Option.some.inj w1
  obtain ⟨hSl, hfc, kC, hkC, hkind⟩ := hK.1 1 _ w1
  obtain ⟨cf, kf, fi, f, hi2, hsl⟩ := hSl k w2
  have hlay := hts _ (w4 _ (u_in_lay w2))
  unfold u_lay at hlay
  have hst := (u_facts hfc hkC (u_lays hts w4 w2) hi2).1
  have hfin : ¬ (T k).2.2.2 = true := by cases hT; rw [hnf]; exact Bool.false_ne_true
  rw [if_neg hfin] at hlay
  have h6 := u_store hfc hkC hkind hlay hi2 w7 w8 w9
  refine W.putK hx hb (f := f) ⟨hown, hts _ w3, ⟨_, _, _, hi2⟩, hst⟩ (by rw [q2]; exact h6) q1 q3 (by rw [hsl]; exact k2_hasslot (q4 k w2)) rfl rfl hd fun H' e1 e2 e3 => ?_
  rw [hsl] at e1 ⊢
  exact kk H' _ ⟨_, w1, t_OB.to (V := updV (vp_V fs) k v) ⟨_, e1, q2, q3, t_set q4 hap w2 _⟩ (fun i _ => vp_updV_set hl _ i)⟩ e2 e3 (hS.put e2 e3 haA)
/-- the count written -/
theorem V_sbp {q : Nat} (hB : Bd x l G y Φ) (hq : q ≤ τ.2.2.2.1) (hw : PTO y.1.cls idx 1 3 (.int (nI q))) (hd : decode y.2.1 pc = .ok (.putfield idx, 3)) (kk : V x (sbU τ τ.2.2.1 τ.2.2.2.1 q τ.2.2.2.2.2) n (pc + 3) al r) : V x τ n pc al (aI (nI q) :: sbM :: r) := by
  obtain ⟨hg, rfl, rfl, rfl, rfl⟩ := hB
  obtain ⟨l, G, p, e, s, m, args, below, meth, c, y, Φ⟩ := x
  obtain ⟨hx, hb, hown, hts, hml, hlk, hret, hstt, hG, hX⟩ := hg
  intro H locs ls hW hS hL
  obtain ⟨ml, a, h1, h2, h3, h4, h5, h6, h7, h8, h9⟩ := id hW.2.2.1
  refine sb_putW hx hb hown hts hW.1 hd hw rfl h1 (Nat.le_of_ble_eq_true rfl) hG.2.2.2.1 hS (fun H1 locs1 c1 z1 o1 hS1 => ?_)
  exact kk H1 locs1 ls (World.sb hG hW ⟨ml, a, c1, va_at.kept h2 (o1 _ h8), h3, h4, hq, h6, h7, h8, h9⟩ (Nat.le_of_eq z1.symm) (fun nm hd => o1 _ (hG.2.2.1 nm hd)) (fun q0 hq0 hA => o1 _ (fun z => hA (by rw [z]; exact hG.2.2.2.1)))) hS1 hL
/-- the other flag written -/
theorem V_sbm {w : Int32} (hB : Bd x l G y Φ) (hw : PTO y.1.cls idx 1 2 (.int w)) (hd : decode y.2.1 pc = .ok (.putfield idx, 3)) (kk : V x τ n (pc + 3) al r) : V x τ n pc al (aI w :: sbM :: r) := by
  obtain ⟨hg, rfl, rfl, rfl, rfl⟩ := hB
  obtain ⟨l, G, p, e, s, m, args, below, meth, c, y, Φ⟩ := x
  obtain ⟨hx, hb, hown, hts, hml, hlk, hret, hstt, hG, hX⟩ := hg
  intro H locs ls hW hS hL
  obtain ⟨ml, a, h1, h2, h3, h4, h5, h6, h7, h8, h9⟩ := id hW.2.2.1
  refine sb_putW hx hb hown hts hW.1 hd hw rfl h1 (Nat.le_of_ble_eq_true rfl) hG.2.2.2.1 hS (fun H1 locs1 c1 z1 o1 hS1 => ?_)
  exact kk H1 locs1 ls (World.sb (v := τ.2.2.1) (c := τ.2.2.2.1) (n := τ.2.2.2.2.1) (t := τ.2.2.2.2.2) hG hW ⟨w, a, c1, va_at.kept h2 (o1 _ h8), h3, h4, h5, h6, h7, h8, h9⟩ (Nat.le_of_eq z1.symm) (fun nm hd => o1 _ (hG.2.2.1 nm hd)) (fun q0 hq0 hA => o1 _ (fun z => hA (by rw [z]; exact hG.2.2.2.1)))) hS1 hL
/-- the bytes: how many -/
theorem V_sblen (hB : Bd x l G y Φ) (hd : decode y.2.1 pc = .ok (.arraylength, 1)) (kk : V x τ n (pc + 1) al (aI (nI τ.2.2.2.1) :: r)) : V x τ n pc al (.inl (.ref τ.2.2.1) :: r) := by
  obtain ⟨hg, rfl, rfl, rfl, rfl⟩ := hB
  obtain ⟨l, G, p, e, s, m, args, below, meth, c, y, Φ⟩ := x
  obtain ⟨hx, hb, hown, hts, hml, hlk, hret, hstt, hG, hX⟩ := hg
  intro H locs ls hW hS hL
  obtain ⟨ml, a, h1, h2, h3, h4, h5, h6, h7, h8, h9⟩ := id hW.2.2.1
  have hP1 : va_P G.1 vwCl [(τ.2.2.1, .inl (G.2.2.2.1 8, τ.2.2.2.1, .inl a))] H := fun i q hq => by
    match i, hq with
    | 0, hq => cases hq; exact h2
  exact va_alen hx hb hW.1 hP1 0 8 rfl rfl rfl hd (kk H locs ls hW hS hL)
/-- .. one read -/
theorem V_sbld {j : Nat} (hB : Bd x l G y Φ) (hj : j < τ.2.2.2.1) (hj2 : j < 2147483648) (hd : decode y.2.1 pc = .ok (.baload, 1)) (kk : V x τ n (pc + 1) al (aI (sb_b (τ.2.2.2.2.2 j)) :: r)) : V x τ n pc al (aI (nI j) :: .inl (.ref τ.2.2.1) :: r) := by
  obtain ⟨hg, rfl, rfl, rfl, rfl⟩ := hB
  obtain ⟨l, G, p, e, s, m, args, below, meth, c, y, Φ⟩ := x
  obtain ⟨hx, hb, hown, hts, hml, hlk, hret, hstt, hG, hX⟩ := hg
  intro H locs ls hW hS hL
  obtain ⟨ml, a, h1, h2, h3, h4, h5, h6, h7, h8, h9⟩ := id hW.2.2.1
  have hP1 : va_P G.1 vwCl [(τ.2.2.1, .inl (G.2.2.2.1 8, τ.2.2.2.1, .inl a))] H := fun i q hq => by
    match i, hq with
    | 0, hq => cases hq; exact h2
  refine va_bald hx hb hW.1 hP1 0 8 rfl rfl (vp_in_nI hj (by omega)) hd ?_
  rw [ixL hj2, (h3 j hj).2]
  exact kk H locs ls hW hS hL
/-- .. one written -/
theorem V_sbst {j c9 : Nat} {v : Int32} (hB : Bd x l G y Φ) (hj : j < τ.2.2.2.1) (hj2 : j < 2147483648) (hv : vp_nar .byte v = sb_b c9) (hc9 : c9 < 256) (hd : decode y.2.1 pc = .ok (.bastore, 1)) (kk : V x (sbU τ τ.2.2.1 τ.2.2.2.1 τ.2.2.2.2.1 (fun q => if q = j then c9 else τ.2.2.2.2.2 q)) n (pc + 1) al r) : V x τ n pc al (aI v :: aI (nI j) :: .inl (.ref τ.2.2.1) :: r) := by
  obtain ⟨hg, rfl, rfl, rfl, rfl⟩ := hB
  obtain ⟨l, G, p, e, s, m, args, below, meth, c, y, Φ⟩ := x
  obtain ⟨hx, hb, hown, hts, hml, hlk, hret, hstt, hG, hX⟩ := hg
  intro H locs ls hW hS hL
  obtain ⟨ml, a, h1, h2, h3, h4, h5, h6, h7, h8, h9⟩ := id hW.2.2.1
  have hin : vp_in (nI j) τ.2.2.2.1 := vp_in_nI hj (by omega)
  refine W.bast hx hb h2 ((hW.1.2 8 _ rfl).1 τ.2.2.2.1 (fun j => .int (a j))) (fun q => by cases q) (by show ¬ (nI j < 0 ∨ (arrV _ _ _).slots.size ≤ _); rw [arrV_size]; exact hin) rfl rfl hd fun H1 e z oq => ?_
  have c2 : va_at G.1 vwCl (τ.2.2.1, .inl (G.2.2.2.1 8, τ.2.2.2.1, .inl (upd a (nI j).toNatClampNeg (vp_nar .byte v)))) H1 := by
    show H1[_]? = some (vp_cell _ _)
    rw [e]
    show some ((vp_cell _ (_, .inl a)).setSlot _ _) = _
    rw [vp_cell_i, vp_cell_i, arrV_store]
    first | rfl | (congr 2; done) | (congr 2; funext q; by_cases hq : q = (nI j).toNatClampNeg <;> simp [updV, upd, hq, vp_nar, narrow])
  rw [ixL hj2, hv] at c2
  refine kk H1 _ ls (World.sb hG hW ⟨ml, upd a j (sb_b c9), va_at.kept h1 (oq _ (fun z => h8 z.symm)), c2, fun i hi => ?_, sb_fitU h4 (sb_fitB c9), h5, h6, h7, h8, h9⟩ (Nat.le_of_eq z.symm) (fun nm hd => oq _ (h9 nm hd)) (fun q0 hq0 hA => oq _ (fun z => hA (by rw [z]; exact h7)))) (hS.put z oq h7) hL
  show (if i = j then c9 else τ.2.2.2.2.2 i) < 256 ∧ upd a j (sb_b c9) i = sb_b (if i = j then c9 else τ.2.2.2.2.2 i)
  by_cases ei : i = j
  · subst ei
    rw [if_pos rfl, pk_us]
    exact ⟨hc9, rfl⟩
  · rw [if_neg ei, pk_un ei]
    exact h3 i hi
/-- a call of the slip's own class's methods, from outside -/
theorem V_callSB (hB : Bd x l G y Φ) (hno : NoH x) {z : MI} {as : List AV} {Ψ : AOut → Mem → Prop} {st : List AV}
    (hs : Sat l G z (sbM :: as) τ Ψ) (hst : st = as.reverse ++ sbM :: r) (hz4 : z.1.cls = RJ4) (hd : decode y.2.1 pc = .ok (.invokevirtual idx, 3)) (hw : CK y.1.cls idx z) (hp : npar z as.length) (hrm : z.2.2.2.2.2 + 1 ≤ y.2.2.2.2.2 ∧ z.2.2.1 ≤ 21) (hc : acats r ≤ 8)
    (hn : n + z.2.2.2.2.1 ≤ y.2.2.2.2.1) (k : ∀ v τ', Ψ (.inl v) τ' → V x τ' (n + z.2.2.2.2.1) (pc + 3) al (v.toList ++ r)) (kx : ∀ E τ', Ψ (.inr E) τ' → Φ (.inr E) τ') : V x τ n pc al st := by
  subst hst
  have hB0 := hB
  obtain ⟨hg, rfl, rfl, rfl, rfl⟩ := hB
  obtain ⟨l, G, p, e, s, m, args, below, meth, c, y, Φ⟩ := x
  obtain ⟨hx, hb, hown, hts, hml, hlk, hret, hstt, hG, hX⟩ := hg
  obtain ⟨w3, w4, w5, w6, w7, w8, w9⟩ := hw
  intro H locs ls hW hS hL
  refine V_ret hB0 hno (z := z) (Ψ := Ψ) (r := r) (as9 := (sbM :: as |>.map (conc G)).toArray) hn k kx H locs ls hW hS hL ?_
  obtain ⟨ml, a, hsb, -⟩ := id hW.2.2.1
  obtain ⟨rr, r1, cell, h1, h2, h3, -⟩ := hsb
  have hfc := (hW.1.1 1 (RJ4, TJ4, 4) rfl).2.1
  have hin : ∀ w ∈ wsV y.1.cls idx z.1.cls z.1 (Cond.code z.1 z.2.1 z.2.2.1 z.2.2.2.1 :: TBg), w ∈ TBg := by
    intro w h
    simp only [wsV, List.cons_append, List.nil_append, List.mem_cons] at h
    rcases h with rfl | rfl | rfl | rfl | rfl | h
    · exact w3
    · exact w4
    · exact w5
    · exact w6
    · exact w7
    · exact h
  have hgi : GoodIn TBg (wsV y.1.cls idx z.1.cls z.1 (Cond.code z.1 z.2.1 z.2.2.1 z.2.2.2.1 :: TBg)) := fun w h => TBg_good w (hin w h)
  refine vx_runV (As := as.map (conc G)) (n := as.length) (C := z.1.cls) ⟨hx, hb, hml, hown, hts⟩ hs (cwV as.length hts hgi rfl rfl rfl ⟨rfl, w8, w9, hp⟩ (room_ok hrm.1 hrm.2)) ⟨World.blind hG _, ⟨cell, h1, by rw [h3]; rfl, by rw [hz4, h2]; exact hfc⟩, fun U hU hWU => ⟨rfl, (show World G τ U U.heap by rw [hU]; exact hW.moved hG hWU)⟩⟩ rfl (by simp) hL.1 (by simp [conc]) (lv_room (by rw [acats_sum]; exact hc)) hd ⟨hn, by rw [← Nat.mul_add]; exact Nat.mul_le_mul_left _ hn⟩
/-- the words of a call up to the superclass's method -/
def CSU (own : String) (idx : Nat) (z : MI) : Prop := Cond.methodLink own idx z.1 ∈ TBg ∧ Cond.sameMethod z.1.cls z.1.cls z.1.name z.1.desc ∈ TBg ∧ Cond.superclass own z.1.cls ∈ TBg ∧ Cond.instanceMethod z.1 ∈ TBg ∧ Cond.initialized z.1.cls ∈ TBg ∧ Cond.code z.1 z.2.1 z.2.2.1 z.2.2.2.1 ∈ TBg ∧ z.1.name ≠ "<init>"
theorem V_callSU (hB : Bd x l G y Φ) (hno : NoH x) {z : MI} {as : List AV} {Ψ : AOut → Mem → Prop} {st : List AV}
    (hs : Sat l G z (sbM :: as) τ Ψ) (hst : st = as.reverse ++ sbM :: r) (hd : decode y.2.1 pc = .ok (.invokespecial idx, 3)) (hw : CSU y.1.cls idx z) (hp : npar z as.length) (hrm : z.2.2.2.2.2 + 1 ≤ y.2.2.2.2.2 ∧ z.2.2.1 ≤ 21) (hc : acats r ≤ 8)
    (hn : n + z.2.2.2.2.1 ≤ y.2.2.2.2.1) (k : ∀ v τ', Ψ (.inl v) τ' → V x τ' (n + z.2.2.2.2.1) (pc + 3) al (v.toList ++ r)) (kx : ∀ E τ', Ψ (.inr E) τ' → Φ (.inr E) τ') : V x τ n pc al st := by
  subst hst
  have hB0 := hB
  obtain ⟨hg, rfl, rfl, rfl, rfl⟩ := hB
  obtain ⟨l, G, p, e, s, m, args, below, meth, c, y, Φ⟩ := x
  obtain ⟨hx, hb, hown, hts, hml, hlk, hret, hstt, hG, hX⟩ := hg
  obtain ⟨w1, w2, w3, w4, w5, w6, w7⟩ := hw
  intro H locs ls hW hS hL
  refine V_ret hB0 hno (z := z) (Ψ := Ψ) (r := r) (as9 := (sbM :: as |>.map (conc G)).toArray) hn k kx H locs ls hW hS hL ?_
  obtain ⟨ml, a, hsb, -⟩ := id hW.2.2.1
  obtain ⟨rr, r1, cell, h1, h2, h3, -⟩ := hsb
  have hat := (hW.1.1 1 (RJ4, TJ4, 4) rfl).2
  have hin : ∀ w ∈ va_wsSU y.1.cls idx z.1 (Cond.code z.1 z.2.1 z.2.2.1 z.2.2.2.1 :: TBg), w ∈ TBg := by
    intro w h
    simp only [va_wsSU, List.cons_append, List.nil_append, List.mem_cons] at h
    rcases h with rfl | rfl | rfl | rfl | rfl | rfl | h
    · exact w1
    · exact w2
    · exact w3
    · exact w4
    · exact w5
    · exact w6
    · exact h
  have hgi : GoodIn TBg (va_wsSU y.1.cls idx z.1 (Cond.code z.1 z.2.1 z.2.2.1 z.2.2.2.1 :: TBg)) := fun w h => TBg_good w (hin w h)
  refine vx_runSU (As := as.map (conc G)) (n := as.length) (C := RJ4) hat ⟨hx, hb, hml, hown, hts⟩ hs (va_cwSU as.length hts hgi rfl rfl rfl ⟨w7, hp⟩ (room_ok hrm.1 hrm.2)) ⟨World.blind hG _, ⟨cell, h1, by rw [h3]; rfl, by rw [h2]; exact hat.1⟩, fun U hU hWU => ⟨rfl, (show World G τ U U.heap by rw [hU]; exact hW.moved hG hWU)⟩⟩ rfl (by simp) hL.1 (by simp [conc]) (lv_room (by rw [acats_sum]; exact hc)) hd ⟨hn, by rw [← Nat.mul_add]; exact Nat.mul_le_mul_left _ hn⟩
/-- the words of a call of the superclass's own methods -/
def CUW (own : String) (idx : Nat) (z : MI) : Prop := Cond.methodLink own idx z.1 ∈ TBg ∧ Cond.sameMethod RJ5 RJ5 z.1.name z.1.desc ∈ TBg ∧ Cond.instanceMethod z.1 ∈ TBg ∧ Cond.initialized RJ5 ∈ TBg ∧ Cond.code z.1 z.2.1 z.2.2.1 z.2.2.2.1 ∈ TBg ∧ z.1.cls = RJ5 ∧ goodWord (Cond.selects RJ4 z.1 z.1) = true ∧ (Cond.selects RJ4 z.1 z.1 ∈ TBg ∨ z.1 ∈ privSB)
theorem V_callU (hB : Bd x l G y Φ) (hno : NoH x) (hSl : SlF G) {z : MI} {as : List AV} {Ψ : AOut → Mem → Prop} {st : List AV}
    (hs : Sat l G z (sbM :: as) τ Ψ) (hst : st = as.reverse ++ sbM :: r) (hd : decode y.2.1 pc = .ok (.invokevirtual idx, 3)) (hw : CUW y.1.cls idx z) (hp : npar z as.length) (hrm : z.2.2.2.2.2 + 1 ≤ y.2.2.2.2.2 ∧ z.2.2.1 ≤ 21) (hc : acats r ≤ 8)
    (hn : n + z.2.2.2.2.1 ≤ y.2.2.2.2.1) (k : ∀ v τ', Ψ (.inl v) τ' → V x τ' (n + z.2.2.2.2.1) (pc + 3) al (v.toList ++ r)) (kx : ∀ E τ', Ψ (.inr E) τ' → Φ (.inr E) τ') : V x τ n pc al st := by
  subst hst
  have hB0 := hB
  obtain ⟨hg, rfl, rfl, rfl, rfl⟩ := hB
  obtain ⟨l, G, p, e, s, m, args, below, meth, c, y, Φ⟩ := x
  obtain ⟨hx, hb, hown, hts, hml, hlk, hret, hstt, hG, hX⟩ := hg
  obtain ⟨w1, w2, w3, w4, w5, w6, w7, w8⟩ := hw
  intro H locs ls hW hS hL
  refine V_ret hB0 hno (z := z) (Ψ := Ψ) (r := r) (as9 := (sbM :: as |>.map (conc G)).toArray) hn k kx H locs ls hW hS hL ?_
  obtain ⟨ml, a, hsb, -⟩ := id hW.2.2.1
  obtain ⟨rr, r1, cell, h1, h2, h3, -⟩ := hsb
  have hat := (hW.1.1 1 (RJ4, TJ4, 4) rfl).2
  have hsel : (Cond.selects RJ4 z.1 z.1).before args s = true := w8.elim (fun h => hts _ h) (fun h => (hSl _ _ hX).2.2.2 _ h)
  have hts2 : ∀ w ∈ Cond.selects RJ4 z.1 z.1 :: TBg, w.before args s = true := fun w h => (List.mem_cons.mp h).elim (fun q => by rw [q]; exact hsel) (hts w)
  have hgi : GoodIn (Cond.selects RJ4 z.1 z.1 :: TBg) (va_wsU y.1.cls idx RJ4 RJ5 z.1 z.1 (Cond.code z.1 z.2.1 z.2.2.1 z.2.2.2.1 :: TBg)) := by
    have hg : ∀ w, w ∈ TBg → w ∈ Cond.selects RJ4 z.1 z.1 :: TBg ∧ _ := fun w h => ⟨List.mem_cons_of_mem _ h, (TBg_good w h).2⟩
    intro w h
    simp only [va_wsU, List.cons_append, List.nil_append, List.mem_cons] at h
    rcases h with rfl | rfl | rfl | rfl | rfl | rfl | h
    · exact hg _ w1
    · rw [w6]; exact hg _ w2
    · exact ⟨List.mem_cons_self, good_of_word w7⟩
    · exact hg _ w3
    · rw [w6]; exact hg _ w4
    · exact hg _ w5
    · exact hg _ h
  refine vx_runU (As := as.map (conc G)) (n := as.length) (C := RJ4) ⟨hx, hb, hml, hown, hts2⟩ hs (va_cwU as.length hts2 hgi rfl rfl rfl (by rw [← w6]) ⟨by decide +kernel, by decide +kernel, hp⟩ (room_ok hrm.1 hrm.2)) ⟨World.blind hG _, ⟨cell, h1, by rw [h3]; rfl, by rw [h2]; exact hat.1⟩, fun U hU hWU => ⟨rfl, (show World G τ U U.heap by rw [hU]; exact hW.moved hG hWU)⟩⟩ rfl (by simp) hL.1 (by simp [conc]) (lv_room (by rw [acats_sum]; exact hc)) hd ⟨hn, by rw [← Nat.mul_add]; exact Nat.mul_le_mul_left _ hn⟩
end SB
