/-! ===== a method's body, its calls, its throws ===== -/
def alA : Nat → List AV → Al
  | _, [] => []
  | i, v :: t => (i, v) :: alA (i + acat v) t
theorem alA_args (G : GG) : ∀ (as : List AV) (i : Nat), (alA i as).map (fun q => (q.1, conc G q.2)) = lv_args i (as.map (conc G))
  | [], i => rfl
  | v :: t, i => by
    simp only [alA, List.map_cons, lv_args, acat_conc]
    rw [alA_args G t]
    rcases v with v | v
    · cases v <;> rfl
    · rfl
def acats (as : List AV) : Nat := (as.map acat).sum
theorem acats_sl (G : GG) : ∀ (as : List AV), (lg_sl (as.map (conc G))).length = acats as
  | [] => rfl
  | v :: t => by
    have h := acats_sl G t
    unfold lg_sl at h ⊢
    simp only [List.map_cons, List.flatMap_cons, List.length_append, acat_conc, acats, List.sum_cons] at h ⊢
    rw [h]
    rcases v with v | v
    · cases v <;> rfl
    · rfl
theorem acats_sum (G : GG) (r : List AV) : ((r.map (conc G)).map fun v => v.category).sum = acats r := by
  rw [List.map_map]
  congr 1
  apply List.map_congr_left
  intro a _
  exact acat_conc G a
/-- no handlers -/
def NoH (x : Cx) : Prop := ∀ z ∈ (xC x).exceptionTable.toList, False
/-- x is a body of y at l, over G, that owes Φ -/
def Bd (x : Cx) (l : Launch) (G : GG) (y : MI) (Φ : AOut → Mem → Prop) : Prop := Gd x ∧ x.1 = l ∧ x.2.1 = G ∧ xY x = y ∧ xP x = Φ
theorem World.moved {G : GG} {τ : Mem} {u U : State} {H : Heap} (hG : Gok G) (hw : u.WarmedH U.vm) (h : World G τ u H) : World G τ U H := by
  obtain ⟨w1, w2, w3, w4, w5⟩ := h
  exact ⟨va_K.moved hw.alike w1, w2, w3, hG.2.2.2.2.1 _ _ _ hw w4, w5⟩
theorem World.grow {G : GG} {τ τ' : Mem} {u : State} {H H1 : Heap} (hG : Gok G) (h0 : World G τ u H) (h : WH G τ' H1) (hz : H.size ≤ H1.size) (hk : ∀ q : Nat, q < H.size → ¬ AA G q → H1[q]? = H[q]?) : World G τ' u H1 := by
  obtain ⟨w2, w3, w5⟩ := h
  obtain ⟨v1, v2, v3, v4, v5⟩ := h0
  exact ⟨v1, w2, w3, hG.2.2.2.2.2.1 _ _ _ hk hz v4, w5⟩
theorem World.blind {G : GG} {τ : Mem} (hG : Gok G) (as : List Value) : FrameBlind (va_Pc as (fun U => World G τ U U.heap)) := by
  intro a U g mk q
  exact ⟨q.1, q.2.moved hG (State.WarmedH.refl U)⟩
/-- from a body's walk to its contract -/
theorem Sat_of {l : Launch} {G : GG} {y : MI} {as : List AV} {τ : Mem} {Φ : AOut → Mem → Prop} (hG : Gok G) (hl : l.stackTraces = false) (hp : plainName y.1.cls = true) (hn : acats as ≤ y.2.2.1)
    (body : ∀ x : Cx, Bd x l G y Φ → NoH x → V x τ 0 0 (alA 0 as) []) : Sat l G y as τ Φ := by
  refine vx_ofW hp rfl ?_
  intro p e s m args below meth c s₁ B hml hh hv
  obtain ⟨rfl, hW⟩ := hv
  have hts : ∀ w ∈ TBg, w.before ((as.map (conc G)).toArray) s = true := fun w h => atoms_spec (ws := Cond.code y.1 y.2.1 y.2.2.1 y.2.2.2.1 :: TBg) B.pre w (List.mem_cons_of_mem _ h)
  have k := body (l, G, p, e, s, m, (as.map (conc G)).toArray, below, meth, c, y, Φ) ⟨⟨B.exec, B.bytes, findClass_of_methodNamed B.named, hts, hml, B.notSynchronized, B.returns, hl, hG, hW.2.2.2.1⟩, rfl, rfl, rfl, rfl⟩ hh
  rw [lg_entry_eq]
  refine k s.heap [] _ hW va_S.rf ?_
  have h := lv_entry (as.map (conc G)) (n := y.2.2.1) (by rw [acats_sl]; exact hn)
  unfold Lh
  rw [alA_args]
  exact h
/-- a stretch of a body -/
theorem V_run {x : Cx} {l : Launch} {G : GG} {y : MI} {Φ : AOut → Mem → Prop} (hB : Bd x l G y Φ) {rt : Option FieldType} {nL mc : Nat} (h1 : y.2.2.2.1 = rt) (h2 : y.2.2.1 = nL) (h3 : y.2.2.2.2.1 = mc) {ops : List Op3} {pc n : Nat} (hd : dcd y.1.cls y.2.1 pc ops = true) {τ : Mem} {al : Al} {st : List AV}
    (h : wpb rt nL (fun pc τ al st => V x τ n pc al st) (fun v τ => n ≤ mc ∧ Φ (.inl v) τ) ops pc τ al st) : V x τ n pc al st := by
  obtain ⟨hg, -, -, rfl, rfl⟩ := hB
  subst h1 h2 h3
  exact wpb_ok hg hd h
theorem room_ok {y z : MI} (hd : z.2.2.2.2.2 + 1 ≤ y.2.2.2.2.2) (hL : z.2.2.1 ≤ 21) : (rmI z).frames + 1 ≤ (rmI y).frames ∧ 8 + (z.2.2.1 + 11) + (rmI z).locals ≤ (rmI y).locals := by
  simp only [rmI]
  omega
theorem V_ret {x : Cx} {l : Launch} {G : GG} {y : MI} {Φ : AOut → Mem → Prop} (hB : Bd x l G y Φ) (hno : NoH x) {z : MI} {Ψ : AOut → Mem → Prop} {τ : Mem} {n pc : Nat} {al : Al} {st r : List AV} {as9 : Array Value}
    (hn : n + z.2.2.2.2.1 ≤ y.2.2.2.2.1) (k : ∀ v τ', Ψ (.inl v) τ' → V x τ' (n + z.2.2.2.2.1) (pc + 3) al (v.toList ++ r)) (kx : ∀ E τ', Ψ (.inr E) τ' → Φ (.inr E) τ')
    (H : Heap) (locs : List Loc) (ls : Array Slot) (hW : World x.2.1 τ x.2.2.2.2.1 H) (hS : va_S (AA x.2.1) x.2.2.2.2.1.heap H locs) (hL : Lh x.2.1 ls (xY x).2.2.1 al)
    (hr : vx_Run x.2.2.1 x.1 x.2.2.2.1 (rmI (xY x)) x.2.2.2.2.1 x.2.2.2.2.2.1 x.2.2.2.2.2.2.1 x.2.2.2.2.2.2.2.1 x.2.2.2.2.2.2.2.2.1 (xC x) H locs n (10 * n) z.2.2.2.2.1 (10 * z.2.2.2.2.1) (F0 x.2.2.2.2.2.1 pc ls (st.map (conc x.2.1))) (r.map (conc x.2.1)) (Qn x.2.1 Ψ as9) (Xn x.2.1 Ψ) (AA x.2.1)) :
    W x.2.2.1 x.1 x.2.2.2.1 (rmI (xY x)) x.2.2.2.2.1 x.2.2.2.2.2.1 x.2.2.2.2.2.2.1 x.2.2.2.2.2.2.2.1 x.2.2.2.2.2.2.2.2.1 (xC x) H locs n (10 * n) (vx_MQ x.2.2.2.2.2.2.2.1 (Qn x.2.1 (xP x)) (Xn x.2.1 (xP x)) x.2.2.2.2.2.2.1 x.2.2.2.2.1 (xY x).2.2.2.2.1 (10 * (xY x).2.2.2.2.1) (AA x.2.1)) (F0 x.2.2.2.2.2.1 pc ls (st.map (conc x.2.1))) := by
  obtain ⟨hg, rfl, rfl, rfl, rfl⟩ := hB
  obtain ⟨l, G, p, e, s, m, args, below, meth, c, y, Φ⟩ := x
  obtain ⟨hx, hb, hown, hts, hml, hlk, hret, hst, hG, hX⟩ := hg
  have hA : ∀ q, q < H.size → AA G q → AA G q := fun _ _ h => h
  intro T hT X
  rcases hr T hT X with ⟨v, st₀, t, T', L, h0, X', hL9, e1, e2, ⟨⟨w, τ', hv, hp, hw⟩, hF⟩, stp⟩ | ⟨q, st₀, t, T', L, E, ce, h0, X', hL9, e1, e2, ⟨⟨τ', hp, hw⟩, hF⟩, hce, hcv, hcl, stp⟩
  · cases hv
    obtain ⟨k1, k2, k3⟩ := vx_keep h0 e1 hS hA (fun _ h => h) hL9 hF
    have hW1 : World G τ' s T'.heap := World.grow hG hW (by rw [e1]; exact hw) k1 k2
    have kk := k w τ' hp T'.heap (locs ++ L) ls hW1 k3 hL
    rw [Nat.mul_add] at kk
    have hst9 : List.map (conc G) (w.toList ++ r) = (w.map (conc G)).toList ++ r.map (conc G) := by cases w <;> simp
    rw [hst9] at kk
    obtain ⟨t2, a1, b1⟩ := kk T' rfl X'
    exact ⟨t2, stp t2 a1, b1⟩
  · obtain ⟨k1, k2, k3⟩ := vx_keep h0 e1 hS hA (fun _ h => h) hL9 hF
    have hW1 : World G τ' s T'.heap := World.grow hG hW (by rw [e1]; exact hw) k1 k2
    have hout : vx_W p l e (rmI y) s m args below meth c T'.heap (locs ++ L) (n + z.2.2.2.2.1) (10 * n + 10 * z.2.2.2.2.1) (vx_MQ below (Qn G Φ) (Xn G Φ) args s y.2.2.2.2.1 (10 * y.2.2.2.2.1) (AA G)) (F0 m pc ls (r.map (conc G))) q := by
      refine vx_out (fun z9 hz => (hno z9 hz).elim) hlk (by rw [e1]; exact hce) hcv hcl (fun t9 ht9 hvm => ?_) k3.2.2 hn (by rw [← Nat.mul_add]; exact Nat.mul_le_mul_left _ hn)
      refine ⟨⟨τ', kx E τ' hp, ?_⟩, k3.F ht9⟩
      rw [ht9]
      exact hW1.wh
    obtain ⟨t2, a1, b1⟩ := hout T' rfl X'
    exact ⟨t2, stp.trans a1, b1⟩
theorem V_callV {x : Cx} {l : Launch} {G : GG} {y : MI} {Φ : AOut → Mem → Prop} (hB : Bd x l G y Φ) (hno : NoH x) {z : MI} {as : List AV} {Ψ : AOut → Mem → Prop} {τ : Mem} {K s' j n pc idx : Nat} {al : Al} {r st : List AV}
    (hs : Sat l G z (.inr (K, s', j) :: as) τ Ψ) (hst : st = as.reverse ++ .inr (K, s', j) :: r) (hd : decode y.2.1 pc = .ok (.invokevirtual idx, 3)) (hw : CV y.1.cls idx z K) (h0 : dom (K, s', j)) (hp : npar z as.length) (hrm : z.2.2.2.2.2 + 1 ≤ y.2.2.2.2.2 ∧ z.2.2.1 ≤ 21) (hc : acats r ≤ 8)
    (hn : n + z.2.2.2.2.1 ≤ y.2.2.2.2.1) (k : ∀ v τ', Ψ (.inl v) τ' → V x τ' (n + z.2.2.2.2.1) (pc + 3) al (v.toList ++ r)) (kx : ∀ E τ', Ψ (.inr E) τ' → Φ (.inr E) τ') : V x τ n pc al st := by
  subst hst
  have hB0 := hB
  obtain ⟨hg, rfl, rfl, rfl, rfl⟩ := hB
  obtain ⟨l, G, p, e, s, m, args, below, meth, c, y, Φ⟩ := x
  obtain ⟨hx, hb, hown, hts, hml, hlk, hret, hstt, hG, hX⟩ := hg
  obtain ⟨T, N, w1, w2, w3, w4, w5, w6, w7, w8, w9⟩ := hw
  intro H locs ls hW hS hL
  refine V_ret hB0 hno (z := z) (Ψ := Ψ) (r := r) (as9 := (.inr (K, s', j) :: as |>.map (conc G)).toArray) hn k kx H locs ls hW hS hL ?_
  have hcell := hW.2.1 _ h0
  simp only [cel, w2, if_true] at hcell
  obtain ⟨rr, r1, cell, q1, q2, q3, -⟩ := hcell
  have hr : rr = (z.1.cls, T, N) := Option.some.inj (r1.symm.trans w1)
  subst hr
  have hfc := (hW.1.1 _ _ w1).2.1
  have hin : ∀ w ∈ wsV y.1.cls idx z.1.cls z.1 (Cond.code z.1 z.2.1 z.2.2.1 z.2.2.2.1 :: TBg), w ∈ TBg := by
    intro w h
    simp only [wsV, List.cons_append, List.nil_append, List.mem_cons] at h
    rcases h with rfl | rfl | rfl | rfl | rfl | h
    · exact w3
    · exact w4
    · exact w5
    · exact w6
    · exact w7
    · exact h
  have hgi : GoodIn TBg (wsV y.1.cls idx z.1.cls z.1 (Cond.code z.1 z.2.1 z.2.2.1 z.2.2.2.1 :: TBg)) := fun w h => TBg_good w (hin w h)
  refine vx_runV (As := as.map (conc G)) (n := as.length) (C := z.1.cls) ⟨hx, hb, hml, hown, hts⟩ hs (cwV as.length hts hgi rfl rfl rfl ⟨rfl, w8, w9, hp⟩ (room_ok hrm.1 hrm.2)) ⟨World.blind hG _, ⟨cell, q1, by rw [q3]; rfl, by rw [q2]; exact hfc⟩, fun U hU hWU => ⟨rfl, (show World G τ U U.heap by rw [hU]; exact hW.moved hG hWU)⟩⟩ rfl (by simp) hL.1 (by simp [conc]) (lv_room (by rw [acats_sum]; exact hc)) hd ⟨hn, by rw [← Nat.mul_add]; exact Nat.mul_le_mul_left _ hn⟩
theorem V_callS {x : Cx} {l : Launch} {G : GG} {y : MI} {Φ : AOut → Mem → Prop} (hB : Bd x l G y Φ) (hno : NoH x) {z : MI} {as : List AV} {Ψ : AOut → Mem → Prop} {τ : Mem} {n pc idx : Nat} {al : Al} {r st : List AV}
    (hs : Sat l G z as τ Ψ) (hst : st = as.reverse ++ r) (hd : decode y.2.1 pc = .ok (.invokestatic idx, 3)) (hw : CS y.1.cls idx z) (hp : npar z as.length) (hrm : z.2.2.2.2.2 + 1 ≤ y.2.2.2.2.2 ∧ z.2.2.1 ≤ 21) (hc : acats r ≤ 8)
    (hn : n + z.2.2.2.2.1 ≤ y.2.2.2.2.1) (k : ∀ v τ', Ψ (.inl v) τ' → V x τ' (n + z.2.2.2.2.1) (pc + 3) al (v.toList ++ r)) (kx : ∀ E τ', Ψ (.inr E) τ' → Φ (.inr E) τ') : V x τ n pc al st := by
  subst hst
  have hB0 := hB
  obtain ⟨hg, rfl, rfl, rfl, rfl⟩ := hB
  obtain ⟨l, G, p, e, s, m, args, below, meth, c, y, Φ⟩ := x
  obtain ⟨hx, hb, hown, hts, hml, hlk, hret, hstt, hG, hX⟩ := hg
  obtain ⟨w3, w4, w6, w7, w8, w9⟩ := hw
  intro H locs ls hW hS hL
  refine V_ret hB0 hno (z := z) (Ψ := Ψ) (r := r) (as9 := (as.map (conc G)).toArray) hn k kx H locs ls hW hS hL ?_
  have hgi : GoodIn TBg (Cond.code z.1 z.2.1 z.2.2.1 z.2.2.2.1 :: TBg) := fun w h => TBg_good w ((List.mem_cons.mp h).elim (fun q => by rw [q]; exact w7) id)
  refine vx_runS (As := as.map (conc G)) (n := as.length) ⟨hx, hb, hml, hown, hts⟩ hs ⟨callB_of as.length hts hgi rfl rfl rfl (hts _ w6) (hts _ w3) ⟨w8, w9, hp⟩ (room_ok hrm.1 hrm.2), hts _ w4⟩ ⟨World.blind hG _, fun U hU hWU => ⟨rfl, (show World G τ U U.heap by rw [hU]; exact hW.moved hG hWU)⟩⟩ rfl (by simp) hL.1 (by simp) (lv_room (by rw [acats_sum]; exact hc)) hd ⟨hn, by rw [← Nat.mul_add]; exact Nat.mul_le_mul_left _ hn⟩
theorem rte_fit : ∀ n ∈ rte, Bundle.fit n = true := by decide +kernel
theorem WH.grow {G : GG} {τ : Mem} {H H1 : Heap} (h : WH G τ H) (hz : H.size ≤ H1.size) (hk : ∀ q : Nat, q < H.size → H1[q]? = H[q]?) : WH G τ H1 := by
  obtain ⟨w2, w3, w5⟩ := h
  refine ⟨fun nm hd => (w2 nm hd).kept (hk _ (w2 nm hd).lt), ?_, Nat.le_trans w5 hz⟩
  refine w3.kept rfl ?_ ?_
  · obtain ⟨ml, a, q1, q2, -⟩ := w3
    exact hk _ q1.lt
  · obtain ⟨ml, a, q1, q2, -⟩ := w3
    exact hk _ q2.lt
theorem V_throw {x : Cx} {l : Launch} {G : GG} {y : MI} {Φ : AOut → Mem → Prop} (hB : Bd x l G y Φ) (hno : NoH x) {ik is ic n pc : Nat} {E text : String} {τ : Mem} {al : Al} {r : List AV} (ht : TH y.1.cls ik is ic E text)
    (hd : decode y.2.1 pc = .ok (.new ik, 3) ∧ decode y.2.1 (pc + 3) = .ok (.dup, 1) ∧ decode y.2.1 (pc + 4) = .ok (.ldc is, 2) ∧ decode y.2.1 (pc + 6) = .ok (.invokespecial ic, 3) ∧ decode y.2.1 (pc + 9) = .ok (.athrow, 1)) (hc : acats r ≤ 8) (hn : n + 1 ≤ y.2.2.2.2.1) (k : Φ (.inr E) τ) : V x τ n pc al r := by
  obtain ⟨hg, rfl, rfl, rfl, rfl⟩ := hB
  obtain ⟨l, G, p, e, s, m, args, below, meth, c, y, Φ⟩ := x
  obtain ⟨hx, hb, hown, hts, hml, hlk, hret, hstt, hG, hX⟩ := hg
  obtain ⟨ix, rx, ⟨z0, z1, z2, z5⟩, t1, t2, t3, t4, t5, t6, t7⟩ := ht
  have hn : n + 1 ≤ y.2.2.2.2.1 := hn
  intro H locs ls hW hS hL
  obtain ⟨-, -, -, -, g5, g6, g7, g8, g9⟩ := hG
  obtain ⟨hU, hN⟩ := g7 _ _ hX
  obtain ⟨sa, hsa⟩ := g8 _ _ hX _ t4
  have hat : ∀ w ∈ vz_at y.1.cls ic E ix rx rte, w.before args s = true := by
    intro w hw
    by_cases gw : goodWord w = true
    · exact hts w (List.mem_filter.mpr ⟨t5 w (List.mem_filter.mpr ⟨hw, gw⟩), gw⟩)
    · have h1 := g9 _ _ hX w (t6 w (List.mem_filter.mpr ⟨hw, by simpa using gw⟩))
      have h2 := t7 w hw
      simp only [vx_ot, Bool.or_eq_true] at h2
      rcases h2 with h2 | h2
      · exact va_tabs h2 rfl h1
      · exact absurd h2 gw
  refine vz_makeS z0 z1 z2 z5 (A := AA G) (own := y.1.cls) (cls := E) (names := rte) (text := text) hx hb hstt hown t1 rte_fit (hts _ t2) (hts _ t3) hsa hat (fun w hw => ?_) hU hN hS (hL.1.trans hml.symm) hd.1 hd.2.1 hd.2.2.1 hd.2.2.2.1 ?_ ?_ ?_ ?_ ?_
  · rcases List.mem_cons.mp hw with rfl | hw
    · rfl
    · rcases List.mem_cons.mp hw with rfl | hw
      · rfl
      · exact t7 w hw
  · simp only [rmI, rte, List.length_cons, List.length_nil]; omega
  · rw [acats_sum]
    simp only [rmI, rte, List.length_cons, List.length_nil]; omega
  · simp only [rmI]; exact hn
  · simp only [rmI]; omega
  · intro q H1 ce hce hcv hcl hz hk
    refine vx_athrow hx hb hd.2.2.2.2 ?_
    refine vx_out (fun z9 hz9 => (hno z9 hz9).elim) hlk hce hcv hcl (fun t9 ht9 hvm => ?_) hS.2.2 hn (by omega)
    refine ⟨⟨τ, k, ?_⟩, ?_⟩
    · rw [ht9]; exact hW.wh.grow hz hk
    · exact ⟨by rw [ht9]; exact Nat.le_trans hS.1 hz, fun q h1 h2 => by rw [ht9]; exact (hk q (Nat.lt_of_lt_of_le h1 hS.1)).trans (hS.2.1 q h1 h2)⟩
