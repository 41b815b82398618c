/-! ===== constructors: their contracts, their calls ===== -/
def nestW : List Cond := [Cond.methodLinkNest RX9 20 yX1_init "MinutePawnshop", Cond.methodLinkNest RX9 41 yX6_init "MinutePawnshop", Cond.methodLinkNest RX10 32 yX8_init "MinutePawnshop", Cond.methodLinkNest RX10 39 yX4_init "MinutePawnshop", Cond.methodLinkNest RX10 46 yX7_init "MinutePawnshop"]
def NsF (G : GG) : Prop := ∀ U H, G.2.2.2.2 U H → ∀ w ∈ nestW, va_Nw w U
def KPre (G : GG) (Pre : Heap → Prop) (U : State) : Prop := va_K G.1 vwCl (tysG G) U ∧ G.2.2.2.2 U U.heap ∧ G.2.2.1 ≤ U.heap.size ∧ Pre U.heap
theorem KPre.moved {G : GG} {Pre : Heap → Prop} {u U : State} (hG : Gok G) (hw : u.WarmedH U.vm) (hh : U.heap = u.heap) (h : KPre G Pre u) : KPre G Pre U := by
  obtain ⟨h1, h2, h3, h4⟩ := h
  exact ⟨va_K.moved hw.alike h1, by rw [hh]; exact hG.2.2.2.2.1 _ _ _ hw h2, by rw [hh]; exact h3, by rw [hh]; exact h4⟩
def QK (G : GG) (Post : Heap → Heap → Prop) : Array Value → State → Outcome → State → Prop := fun _ st oc t => (oc = .returned none ∧ Post st.heap t.heap) ∧ va_F (AA G) st t
def KC (l : Launch) (G : GG) (y : MX) (as : List AV) (Pre : Heap → Prop) (Post : Heap → Heap → Prop) : Prop :=
  Met l y.1 (Cond.code y.1 y.2.1 y.2.2.1 y.2.2.2.1 :: TBg) (rmX y) (va_Pc (as.map (conc G)) (KPre G Pre)) (QK G Post) y.2.2.2.2.1 y.2.2.2.2.2.1 (AA G)
def Bw (x : Cw) (l : Launch) (G : GG) (y : MX) (Post : Heap → Heap → Prop) : Prop := Gw x ∧ x.1 = l ∧ wY x = y ∧ wG x = G ∧ (wMe x).name = y.1.name ∧ (wMe x).sig.returnType = y.2.2.2.1 ∧ (wMe x).locks = false ∧ wQ x = MQ (wB x) (QK G Post) (wR x) (wS x) y.2.2.2.2.1 y.2.2.2.2.2.1 (AA G) ∧ G.2.2.1 ≤ (wS x).heap.size
theorem KC_of {l : Launch} {G : GG} {y : MX} {as : List AV} {Pre : Heap → Prop} {Post : Heap → Heap → Prop} (hp : plainName y.1.cls = true) (hn : acats as ≤ y.2.2.1)
    (body : ∀ x : Cw, Bw x l G y Post → Pre (wS x).heap → KW x (wS x).heap [] 0 0 0 (alA 0 as) []) : KC l G y as Pre Post := by
  refine Met.ofW (cc := y.2.1) (maxL := y.2.2.1) (ret := y.2.2.2.1) hp rfl ?_
  intro p e s m args below meth c s₁ B hml hv
  obtain ⟨rfl, hK, hX, hz, hpre⟩ := hv
  have hts : ∀ w ∈ TBg, w.before ((as.map (conc G)).toArray) s = true := fun w h => atoms_spec (ws := Cond.code y.1 y.2.1 y.2.2.1 y.2.2.2.1 :: TBg) B.pre w (List.mem_cons_of_mem _ h)
  have k := body (l, G, p, e, s, m, (as.map (conc G)).toArray, below, meth, c, y, MQ below (QK G Post) ((as.map (conc G)).toArray) s y.2.2.2.2.1 y.2.2.2.2.2.1 (AA G)) ⟨⟨B.exec, B.bytes, findClass_of_methodNamed B.named, hts, hml, hK, hX⟩, rfl, rfl, rfl, (name_of_methodNamed B.named B.method).1, B.returns, B.notSynchronized, rfl, hz⟩ hpre
  rw [lg_entry_eq]
  refine k _ ?_
  have h := lv_entry (as.map (conc G)) (n := y.2.2.1) (by rw [acats_sl]; exact hn)
  unfold Lh
  rw [alA_args]
  exact h
section KCALL
variable {x : Cw} {H : Heap} {locs : List Loc} {n m0 pc : Nat} {al : Al} {r : List AV}
theorem k_ret {l : Launch} {G : GG} {y : MX} {Post : Heap → Heap → Prop} (hB : Bw x l G y Post) (hd : decode y.2.1 pc = .ok (.return_, 1)) (hr : y.2.2.2.1 = none) (hS : va_S (AA G) (wS x).heap H locs) (hn : n ≤ y.2.2.2.2.1) (hm : m0 ≤ y.2.2.2.2.2.1) (hq : Post (wS x).heap H) : KW x H locs n m0 pc al [] := by
  obtain ⟨hg, -, rfl, rfl, -, h5, h6, h7, -⟩ := hB
  refine k_vret hg rfl rfl h7 hd (h5.trans hr) h6 hS hn hm (fun t ht => ⟨⟨rfl, by rw [ht]; exact hq⟩, hS.F ht⟩)
/-- what holds at a call -/
theorem KPre.at {x : Cw} {H : Heap} {locs : List Loc} (hg : Gw x) (hG : Gok (wG x)) {Pre : Heap → Prop} (hS : va_S (AA (wG x)) (wS x).heap H locs) (hz : (wG x).2.2.1 ≤ (wS x).heap.size) (hp : Pre H) {U : State} (hU : U.heap = H) (hW : (wS x).WarmedH U.vm) : KPre (wG x) Pre U := by
  obtain ⟨l, G, p, e, s, m, args, below, meth, c, y, Q⟩ := x
  obtain ⟨hx, hb, hown, hts, hml, hK, hX⟩ := hg
  have hXH : G.2.2.2.2 s H := hG.2.2.2.2.2.1 _ _ _ hS.2.1 hS.1 hX
  exact ⟨va_K.moved hW.alike hK, by rw [hU]; exact hG.2.2.2.2.1 _ _ _ hW hXH, by rw [hU]; exact Nat.le_trans hz hS.1, by rw [hU]; exact hp⟩
def CI (own : String) (idx : Nat) (z : MX) (n : Nat) : Prop := Cond.methodLink own idx z.1 ∈ TBg ∧ Cond.initialized z.1.cls ∈ TBg ∧ Cond.instanceMethod z.1 ∈ TBg ∧ Cond.code z.1 z.2.1 z.2.2.1 z.2.2.2.1 ∈ TBg ∧ z.1.name = "<init>" ∧ z.1.cls ≠ "java/lang/invoke/MethodHandle" ∧ z.1.cls ≠ "java/lang/invoke/VarHandle" ∧ z.2.2.2.1 = none ∧ (parseMethodDescriptor z.1.desc).map (fun d => d.parameters.length) = some n
theorem roomX_ok {y z : MX} (hd : z.2.2.2.2.2.2 + 1 ≤ y.2.2.2.2.2.2) (hL : z.2.2.1 ≤ 21) : (rmX z).frames + 1 ≤ (rmX y).frames ∧ 8 + (z.2.2.1 + 11) + (rmX z).locals ≤ (rmX y).locals := by
  simp only [rmX]
  omega
theorem k_run {G : GG} {z : MX} {Post : Heap → Heap → Prop} {st : List AV} {a9 : Array Value} (hG : wG x = G) (hS : va_S (AA G) (wS x).heap H locs)
    (hr : ∀ ls, Lh G ls (wY x).2.2.1 al → va_Run x.2.2.1 x.1 x.2.2.2.1 (rmX (wY x)) x.2.2.2.2.1 x.2.2.2.2.2.1 x.2.2.2.2.2.2.1 x.2.2.2.2.2.2.2.1 x.2.2.2.2.2.2.2.2.1 x.2.2.2.2.2.2.2.2.2.1 H locs n m0 z.2.2.2.2.1 z.2.2.2.2.2.1 (F0 x.2.2.2.2.2.1 pc ls (st.map (conc G))) (r.map (conc G)) (QK G Post a9) (AA G))
    (kk : ∀ H1 locs1, Post H H1 → va_S (AA G) (wS x).heap H1 locs1 → KW x H1 locs1 (n + z.2.2.2.2.1) (m0 + z.2.2.2.2.2.1) (pc + 3) al r) : KW x H locs n m0 pc al st := by
  obtain ⟨l, G, p, e, s, m, args, below, meth, c, y, Q⟩ := x
  subst hG
  intro ls hL T hT X
  obtain ⟨v, st₀, t, T', L, h0, X', hL9, e1, e2, ⟨⟨hv, hpost⟩, hF⟩, stp⟩ := hr ls hL T hT X
  cases hv
  obtain ⟨k1, k2, k3⟩ := vx_keep h0 e1 hS (fun _ _ h => h) (fun _ h => h) hL9 hF
  rw [h0] at hpost
  obtain ⟨t2, a1, b1⟩ := kk T'.heap (locs ++ L) (by rw [e1]; exact hpost) k3 ls hL T' rfl X'
  exact ⟨t2, stp t2 a1, b1⟩
theorem KBlind {G : GG} (hG : Gok G) {as : List Value} {Pre : Heap → Prop} : FrameBlind (va_Pc as (KPre G Pre)) := by
  intro a U g mk q
  exact ⟨q.1, q.2.moved hG (State.WarmedH.refl U) rfl⟩
/-- a constructor called -/
theorem k_init {y9 : MX} {G : GG} {l : Launch} {idx a : Nat} {z : MX} {as : List AV} {Pre : Heap → Prop} {Post : Heap → Heap → Prop} {st : List AV} (hg : Gw x) (hy : wY x = y9) (hwG : wG x = G) (hl : x.1 = l) (hG : Gok G) (hC : KC l G z (.inl (.ref a) :: as) Pre Post) (hst : st = as.reverse ++ .inl (.ref a) :: r) (hd : decode y9.2.1 pc = .ok (.invokespecial idx, 3)) (hw : CI y9.1.cls idx z as.length)
    (hrm : z.2.2.2.2.2.2 + 1 ≤ y9.2.2.2.2.2.2 ∧ z.2.2.1 ≤ 21) (hc : acats r ≤ 8) (hn : n + z.2.2.2.2.1 ≤ y9.2.2.2.2.1) (hm : m0 + z.2.2.2.2.2.1 ≤ y9.2.2.2.2.2.1) (hz : G.2.2.1 ≤ (wS x).heap.size) (hS : va_S (AA G) (wS x).heap H locs) (hp : Pre H)
    (kk : ∀ H1 locs1, Post H H1 → va_S (AA G) (wS x).heap H1 locs1 → KW x H1 locs1 (n + z.2.2.2.2.1) (m0 + z.2.2.2.2.2.1) (pc + 3) al r) : KW x H locs n m0 pc al st := by
  subst hy
  subst hst
  refine k_run (z := z) (Post := Post) (a9 := (.inl (.ref a) :: as |>.map (conc G)).toArray) hwG hS (fun ls hL => ?_) kk
  subst hwG
  have hat := fun U hU hW => KPre.at (U := U) hg hG hS hz hp hU hW
  obtain ⟨l9, G, p, e, s, m, args, below, meth, c, y, Q⟩ := x
  subst hl
  obtain ⟨hx, hb, hown, hts, hml, hK, hX⟩ := hg
  obtain ⟨w1, w2, w3, w4, w5, w6, w7, w8, w9⟩ := hw
  have hgi : GoodIn TBg (Cond.code z.1 z.2.1 z.2.2.1 z.2.2.2.1 :: TBg) := fun w h => TBg_good w ((List.mem_cons.mp h).elim (fun q => by rw [q]; exact w4) id)
  exact va_runI (As := as.map (conc G)) (n := as.length) ⟨hx, hb, hml, hown, hts⟩ hC (cwI as.length hts hgi (by rw [w8]) rfl rfl (hts _ w2) (hts _ w1) (hts _ w3) w5 ⟨w6, w7, w9⟩ (roomX_ok hrm.1 hrm.2)) ⟨KBlind hG, fun U hU hWU => ⟨rfl, hat U hU hWU⟩⟩ rfl (by simp) hL.1 (by simp [conc]) (lv_room (by rw [acats_sum]; exact hc)) hd ⟨hn, hm⟩
/-- a private constructor of a nest mate called -/
theorem k_initN {y9 : MX} {G : GG} {l : Launch} {idx a : Nat} {z : MX} {Pre : Heap → Prop} {Post : Heap → Heap → Prop} (hg : Gw x) (hy : wY x = y9) (hwG : wG x = G) (hl : x.1 = l) (hG : Gok G) (hNs : NsF G) (hC : KC l G z [.inl (.ref a)] Pre Post) (hd : decode y9.2.1 pc = .ok (.invokespecial idx, 3))
    (hw : Cond.methodLinkNest y9.1.cls idx z.1 "MinutePawnshop" ∈ nestW ∧ Cond.initialized z.1.cls ∈ TBg ∧ Cond.instanceMethod z.1 ∈ TBg ∧ Cond.code z.1 z.2.1 z.2.2.1 z.2.2.2.1 ∈ TBg ∧ z.1.name = "<init>" ∧ z.1.cls ≠ "java/lang/invoke/MethodHandle" ∧ z.1.cls ≠ "java/lang/invoke/VarHandle" ∧ z.2.2.2.1 = none ∧ (parseMethodDescriptor z.1.desc).map (fun d => d.parameters.length) = some 0)
    (hrm : z.2.2.2.2.2.2 + 1 ≤ y9.2.2.2.2.2.2 ∧ z.2.2.1 ≤ 21) (hc : acats r ≤ 8) (hn : n + z.2.2.2.2.1 ≤ y9.2.2.2.2.1) (hm : m0 + z.2.2.2.2.2.1 ≤ y9.2.2.2.2.2.1) (hz : G.2.2.1 ≤ (wS x).heap.size) (hS : va_S (AA G) (wS x).heap H locs) (hp : Pre H)
    (kk : ∀ H1 locs1, Post H H1 → va_S (AA G) (wS x).heap H1 locs1 → KW x H1 locs1 (n + z.2.2.2.2.1) (m0 + z.2.2.2.2.2.1) (pc + 3) al r) : KW x H locs n m0 pc al (.inl (.ref a) :: r) := by
  subst hy
  refine k_run (z := z) (Post := Post) (a9 := ([.inl (.ref a)] |>.map (conc G)).toArray) hwG hS (fun ls hL => ?_) kk
  subst hwG
  have hat := fun U hU hW => KPre.at (U := U) hg hG hS hz hp hU hW
  obtain ⟨l9, G, p, e, s, m, args, below, meth, c, y, Q⟩ := x
  subst hl
  obtain ⟨hx, hb, hown, hts, hml, hK, hX⟩ := hg
  obtain ⟨w1, w2, w3, w4, w5, w6, w7, w8, w9⟩ := hw
  have hgi : GoodIn TBg (Cond.code z.1 z.2.1 z.2.2.1 z.2.2.2.1 :: TBg) := fun w h => TBg_good w ((List.mem_cons.mp h).elim (fun q => by rw [q]; exact w4) id)
  have hN9 := hNs _ _ hX _ w1
  obtain ⟨z1, z2, z3, z4, z5, z6, z7⟩ := z
  have w8 : z4 = none := w8
  subst w8
  exact va_runIN (host := "MinutePawnshop") (As := []) (n := 0) ⟨hx, hb, hml, hown, hts⟩ hC ⟨va_cnB 0 hts hgi rfl rfl rfl hN9 (hts _ w2) ⟨w6, w7, w9⟩ (roomX_ok (z := (z1, z2, z3, none, z5, z6, z7)) hrm.1 hrm.2), w5, hts _ w3⟩ ⟨KBlind hG, fun U hU hWU => ⟨rfl, hat U hU hWU⟩⟩ rfl rfl hL.1 rfl (lv_room (by rw [acats_sum]; exact hc)) hd ⟨hn, hm⟩
/-- a static method called -/
theorem k_stat {y9 : MX} {G : GG} {l : Launch} {idx : Nat} {z : MX} {as : List AV} {Pre : Heap → Prop} {Post : Heap → Heap → Prop} {st : List AV} (hg : Gw x) (hy : wY x = y9) (hwG : wG x = G) (hl : x.1 = l) (hG : Gok G) (hC : KC l G z as Pre Post) (hst : st = as.reverse ++ r) (hd : decode y9.2.1 pc = .ok (.invokestatic idx, 3))
    (hw : Cond.methodLink y9.1.cls idx z.1 ∈ TBg ∧ Cond.static z.1 ∈ TBg ∧ Cond.initialized z.1.cls ∈ TBg ∧ Cond.code z.1 z.2.1 z.2.2.1 z.2.2.2.1 ∈ TBg ∧ z.1.cls ≠ "java/lang/invoke/MethodHandle" ∧ z.1.cls ≠ "java/lang/invoke/VarHandle" ∧ (parseMethodDescriptor z.1.desc).map (fun d => d.parameters.length) = some as.length)
    (hrm : z.2.2.2.2.2.2 + 1 ≤ y9.2.2.2.2.2.2 ∧ z.2.2.1 ≤ 21) (hc : acats r ≤ 8) (hn : n + z.2.2.2.2.1 ≤ y9.2.2.2.2.1) (hm : m0 + z.2.2.2.2.2.1 ≤ y9.2.2.2.2.2.1) (hz : G.2.2.1 ≤ (wS x).heap.size) (hS : va_S (AA G) (wS x).heap H locs) (hp : Pre H)
    (kk : ∀ H1 locs1, Post H H1 → va_S (AA G) (wS x).heap H1 locs1 → KW x H1 locs1 (n + z.2.2.2.2.1) (m0 + z.2.2.2.2.2.1) (pc + 3) al r) : KW x H locs n m0 pc al st := by
  subst hy
  subst hst
  refine k_run (z := z) (Post := Post) (a9 := (as.map (conc G)).toArray) hwG hS (fun ls hL => ?_) kk
  subst hwG
  have hat := fun U hU hW => KPre.at (U := U) hg hG hS hz hp hU hW
  obtain ⟨l9, G, p, e, s, m, args, below, meth, c, y, Q⟩ := x
  subst hl
  obtain ⟨hx, hb, hown, hts, hml, hK, hX⟩ := hg
  obtain ⟨w1, w2, w3, w4, w6, w7, w9⟩ := hw
  have hgi : GoodIn TBg (Cond.code z.1 z.2.1 z.2.2.1 z.2.2.2.1 :: TBg) := fun w h => TBg_good w ((List.mem_cons.mp h).elim (fun q => by rw [q]; exact w4) id)
  exact va_runS (As := as.map (conc G)) (n := as.length) ⟨hx, hb, hml, hown, hts⟩ hC ⟨callB_of as.length hts hgi rfl rfl rfl (hts _ w3) (hts _ w1) ⟨w6, w7, w9⟩ (roomX_ok hrm.1 hrm.2), hts _ w2⟩ ⟨KBlind hG, fun U hU hWU => ⟨rfl, hat U hU hWU⟩⟩ rfl (by simp) hL.1 (by simp) (lv_room (by rw [acats_sum]; exact hc)) hd ⟨hn, hm⟩
end KCALL
/-! ===== cells in the open ===== -/
def cO (G : GG) (a ci : Nat) (fs : List Value) (H : Heap) : Prop := va_at G.1 vwCl (a, .inr (ci, fs)) H
def cI (G : GG) (t a N : Nat) (f : Nat → Int32) (H : Heap) : Prop := va_at G.1 vwCl (a, .inl (G.2.2.2.1 t, N, .inl f)) H
def cQ (G : GG) (t a N : Nat) (f : Nat → Option Nat) (H : Heap) : Prop := va_at G.1 vwCl (a, .inl (G.2.2.2.1 t, N, .inr (.inr (.inr (.inr f))))) H
theorem cO.kept {G : GG} {a ci : Nat} {fs : List Value} {H H1 : Heap} (h : cO G a ci fs H) (hq : H1[a]? = H[a]?) : cO G a ci fs H1 := va_at.kept h hq
theorem cI.kept {G : GG} {t a N : Nat} {f : Nat → Int32} {H H1 : Heap} (h : cI G t a N f H) (hq : H1[a]? = H[a]?) : cI G t a N f H1 := va_at.kept h hq
theorem cQ.kept {G : GG} {t a N : Nat} {f : Nat → Option Nat} {H H1 : Heap} (h : cQ G t a N f H) (hq : H1[a]? = H[a]?) : cQ G t a N f H1 := va_at.kept h hq
theorem arrV_eq {cA : ClassId} {N : Nat} {f g : Nat → Value} (h : ∀ j, j < N → f j = g j) : arrV cA N f = arrV cA N g := by
  unfold arrV
  congr 1
  apply Array.ext
  · simp
  · intro i h1 h2
    simp only [Array.size_ofFn] at h1
    simp [h i h1]
theorem cI.congr {G : GG} {t a N : Nat} {f g : Nat → Int32} {H : Heap} (h : cI G t a N f H) (hf : ∀ j, j < N → f j = g j) : cI G t a N g H := by
  have h1 : H[a]? = some (vp_cell (G.2.2.2.1 t) (N, .inl f)) := h
  show H[a]? = some (vp_cell (G.2.2.2.1 t) (N, .inl g))
  rw [h1, vp_cell_i, vp_cell_i, arrV_eq (fun j hj => by rw [hf j hj])]
theorem cQ.congr {G : GG} {t a N : Nat} {f g : Nat → Option Nat} {H : Heap} (h : cQ G t a N f H) (hf : ∀ j, j < N → f j = g j) : cQ G t a N g H := by
  have h1 : H[a]? = some (vp_cell (G.2.2.2.1 t) (N, .inr (.inr (.inr (.inr f))))) := h
  show H[a]? = some (vp_cell (G.2.2.2.1 t) (N, .inr (.inr (.inr (.inr g)))))
  rw [h1, vp_cell_q, vp_cell_q, arrV_eq (fun j hj => by rw [hf j hj])]
