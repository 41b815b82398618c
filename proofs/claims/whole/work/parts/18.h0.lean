/-! ===== methods with handlers ===== -/
/-- the rows of a table, with the class that each names -/
abbrev Hs : Type := List (Nat × Nat × Nat × Nat × String)
def hsT (hs : Hs) : List (Nat × Nat × Nat × Nat) := hs.map (fun q => (q.1, q.2.1, q.2.2.1, q.2.2.2.1))
/-- the handler that takes E at pc -/
def hnd (E : String) (pc : Nat) : Hs → Option Nat
  | [] => none
  | q :: t => if q.1 ≤ pc ∧ pc < q.2.1 ∧ q.2.2.2.2 = E then some q.2.2.1 else hnd E pc t
def exc6 : List String := [IAE, ISE, UOE, NSE, IOE, ARE]
def NcF (G : GG) : Prop := ∀ U H, G.2.2.2.2 U H → (∀ a ∈ exc6, ∀ b ∈ exc6, a ≠ b → va_Nc a b U) ∧ ∀ a ∈ exc6, (Cond.castable a a).before #[] U = true
def HOK (own : String) (hs : Hs) : Prop := ∀ q ∈ hs, q.2.2.2.1 ≠ 0 ∧ q.2.2.2.2 ∈ exc6 ∧ Cond.classLink own q.2.2.2.1 q.2.2.2.2 ∈ TBg
theorem hnd_split {E : String} {pc h : Nat} : ∀ {hs : Hs}, hnd E pc hs = some h → ∃ pre a b i suf, hs = pre ++ (a, b, h, i, E) :: suf ∧ a ≤ pc ∧ pc < b ∧ ∀ z ∈ pre, ¬ (z.1 ≤ pc ∧ pc < z.2.1 ∧ z.2.2.2.2 = E)
  | [], e => by cases e
  | (a, b, h', i, E') :: t, e => by
    unfold hnd at e
    by_cases c : a ≤ pc ∧ pc < b ∧ E' = E
    · rw [if_pos c] at e
      cases e
      obtain ⟨c1, c2, rfl⟩ := c
      exact ⟨[], a, b, i, t, rfl, c1, c2, fun z hz => by cases hz⟩
    · rw [if_neg c] at e
      obtain ⟨pre, a2, b2, i2, suf, h1, h2, h3, h4⟩ := hnd_split e
      refine ⟨(a, b, h', i, E') :: pre, a2, b2, i2, suf, by rw [h1]; rfl, h2, h3, fun z hz => ?_⟩
      rcases List.mem_cons.mp hz with rfl | hz
      · exact c
      · exact h4 z hz
def SatH (l : Launch) (G : GG) (y : MI) (hs : Hs) (as : List AV) (τ : Mem) (Φ : AOut → Mem → Prop) : Prop :=
  vx_Met l y.1 (Cond.codeWith y.1 y.2.1 y.2.2.1 y.2.2.2.1 (hsT hs) :: TBg) (rmI y) (va_Pc (as.map (conc G)) (fun U => World G τ U U.heap)) (Qn G Φ) (Xn G Φ) y.2.2.2.2.1 (10 * y.2.2.2.2.1) (AA G)
theorem SatH_of {l : Launch} {G : GG} {y : MI} {hs : Hs} {as : List AV} {τ : Mem} {Φ : AOut → Mem → Prop} (hG : Gok G) (hl : l.stackTraces = false) (hp : plainName y.1.cls = true) (hn : acats as ≤ y.2.2.1)
    (body : ∀ x : Cx, Bd x l G y Φ → (xC x).exceptionTable.toList = tableOf (hsT hs) → V x τ 0 0 (alA 0 as) []) : SatH l G y hs as τ Φ := by
  refine vx_ofWH (hh := hsT hs) hp rfl ?_
  intro p e s m args below meth c s₁ B hml hv
  obtain ⟨rfl, hW⟩ := hv
  have hts : ∀ w ∈ TBg, w.before ((as.map (conc G)).toArray) s = true := fun w h => atoms_spec (ws := Cond.codeWith y.1 y.2.1 y.2.2.1 y.2.2.2.1 (hsT hs) :: TBg) B.pre w (List.mem_cons_of_mem _ h)
  have ht := vx_table (x := y.1) B (atoms_spec (ws := Cond.codeWith y.1 y.2.1 y.2.2.1 y.2.2.2.1 (hsT hs) :: TBg) B.pre _ List.mem_cons_self)
  have k := body (l, G, p, e, s, m, (as.map (conc G)).toArray, below, meth, c, y, Φ) ⟨⟨B.exec, B.bytes, findClass_of_methodNamed B.named, hts, hml, B.notSynchronized, B.returns, hl, hG, hW.2.2.2.1⟩, rfl, rfl, rfl, rfl⟩ ht
  rw [lg_entry_eq]
  refine k s.heap [] _ hW va_S.rf ?_
  have h := lv_entry (as.map (conc G)) (n := y.2.2.1) (by rw [acats_sl]; exact hn)
  unfold Lh
  rw [alA_args]
  exact h
/-- behind a call, in a method whose rows catch what the callee throws -/
theorem V_retH {x : Cx} {l : Launch} {G : GG} {y : MI} {Φ : AOut → Mem → Prop} (hB : Bd x l G y Φ) {hs : Hs} (hT : (xC x).exceptionTable.toList = tableOf (hsT hs)) (hk : HOK y.1.cls hs) (hN : NcF G) {z : MI} {Ψ : AOut → Mem → Prop} {τ : Mem} {n pc : Nat} {al : Al} {st r : List AV} {as9 : Array Value}
    (hn : n + z.2.2.2.2.1 ≤ y.2.2.2.2.1) (k : ∀ v τ', Ψ (.inl v) τ' → V x τ' (n + z.2.2.2.2.1) (pc + 3) al (v.toList ++ r)) (kx : ∀ E τ', Ψ (.inr E) τ' → E ∈ exc6 ∧ ∃ h, hnd E pc hs = some h ∧ ∀ q : Nat, V x τ' (n + z.2.2.2.2.1) h al [.inl (.ref q)])
    (H : Heap) (locs : List Loc) (ls : Array Slot) (hW : World x.2.1 τ x.2.2.2.2.1 H) (hS : va_S (AA x.2.1) x.2.2.2.2.1.heap H locs) (hL : Lh x.2.1 ls (xY x).2.2.1 al)
    (hr : vx_Run x.2.2.1 x.1 x.2.2.2.1 (rmI (xY x)) x.2.2.2.2.1 x.2.2.2.2.2.1 x.2.2.2.2.2.2.1 x.2.2.2.2.2.2.2.1 x.2.2.2.2.2.2.2.2.1 (xC x) H locs n (10 * n) z.2.2.2.2.1 (10 * z.2.2.2.2.1) (F0 x.2.2.2.2.2.1 pc ls (st.map (conc x.2.1))) (r.map (conc x.2.1)) (Qn x.2.1 Ψ as9) (Xn x.2.1 Ψ) (AA x.2.1)) :
    W x.2.2.1 x.1 x.2.2.2.1 (rmI (xY x)) x.2.2.2.2.1 x.2.2.2.2.2.1 x.2.2.2.2.2.2.1 x.2.2.2.2.2.2.2.1 x.2.2.2.2.2.2.2.2.1 (xC x) H locs n (10 * n) (vx_MQ x.2.2.2.2.2.2.2.1 (Qn x.2.1 (xP x)) (Xn x.2.1 (xP x)) x.2.2.2.2.2.2.1 x.2.2.2.2.1 (xY x).2.2.2.2.1 (10 * (xY x).2.2.2.2.1) (AA x.2.1)) (F0 x.2.2.2.2.2.1 pc ls (st.map (conc x.2.1))) := by
  obtain ⟨hg, rfl, rfl, rfl, rfl⟩ := hB
  obtain ⟨l, G, p, e, s, m, args, below, meth, c, y, Φ⟩ := x
  obtain ⟨hx, hb, hown, hts, hml, hlk, hret, hst, hG, hX⟩ := hg
  have hA : ∀ q, q < H.size → AA G q → AA G q := fun _ _ h => h
  intro T hT0 X
  rcases hr T hT0 X with ⟨v, st₀, t, T', L, h0, X', hL9, e1, e2, ⟨⟨w, τ', hv, hp, hw⟩, hF⟩, stp⟩ | ⟨q, st₀, t, T', L, E, ce, h0, X', hL9, e1, e2, ⟨⟨τ', hp, hw⟩, hF⟩, hce, hcv, hcl, stp⟩
  · cases hv
    obtain ⟨k1, k2, k3⟩ := vx_keep h0 e1 hS hA (fun _ h => h) hL9 hF
    have hW1 : World G τ' s T'.heap := World.grow hG hW (by rw [e1]; exact hw) k1 k2
    have kk := k w τ' hp T'.heap (locs ++ L) ls hW1 k3 hL
    rw [Nat.mul_add] at kk
    have hst9 : List.map (conc G) (w.toList ++ r) = (w.map (conc G)).toList ++ r.map (conc G) := by cases w <;> simp
    rw [hst9] at kk
    obtain ⟨t2, a1, b1⟩ := kk T' rfl X'
    exact ⟨t2, stp t2 a1, b1⟩
  · obtain ⟨k1, k2, k3⟩ := vx_keep h0 e1 hS hA (fun _ h => h) hL9 hF
    have hW1 : World G τ' s T'.heap := World.grow hG hW (by rw [e1]; exact hw) k1 k2
    obtain ⟨hE, h, hh, kq⟩ := kx E τ' hp
    obtain ⟨pre, a, b, i, suf, s1, s2, s3, s4⟩ := hnd_split hh
    have kk := kq q T'.heap (locs ++ L) ls hW1 k3 hL
    rw [Nat.mul_add] at kk
    obtain ⟨n0, n1, n2⟩ := hk (a, b, h, i, E) (by rw [s1]; exact List.mem_append_right _ List.mem_cons_self)
    have hout := vx_catch (p := p) (l := l) (e := e) (R := rmI y) (below := below) (meth := meth) (locs := locs ++ L) (cells := n + z.2.2.2.2.1) (slots := 10 * n + 10 * z.2.2.2.2.1) (Q := vx_MQ below (Qn G Φ) (Xn G Φ) args s y.2.2.2.2.1 (10 * y.2.2.2.2.1) (AA G)) (pc := pc) (ls := ls) (rest := r.map (conc G))
      hown (name := E) (pre.map fun z => ⟨z.1, z.2.1, z.2.2.1, z.2.2.2.1⟩) ⟨a, b, h, i⟩ (suf.map fun z => ⟨z.1, z.2.1, z.2.2.1, z.2.2.2.1⟩)
      (hT.trans (by rw [s1]; simp only [tableOf, hsT, List.map_append, List.map_cons, List.map_map]; rfl))
      (fun z9 hz9 => by
        obtain ⟨u, hu, rfl⟩ := List.mem_map.mp hz9
        obtain ⟨m0, m1, m2⟩ := hk u (by rw [s1]; exact List.mem_append_left _ hu)
        by_cases c1 : u.1 ≤ pc ∧ pc < u.2.1
        · exact Or.inr ⟨m0, _, hts _ m2, (hN _ _ hW1.2.2.2.1).1 E hE _ m1 (fun e9 => s4 u hu ⟨c1.1, c1.2, e9.symm⟩)⟩
        · left
          simp only [covers, Bool.and_eq_false_iff, decide_eq_false_iff_not]
          by_cases c2 : u.1 ≤ pc
          · exact Or.inr (fun c3 => c1 ⟨c2, c3⟩)
          · exact Or.inl c2)
      (by simp only [covers, Bool.and_eq_true, decide_eq_true_eq]; exact ⟨s2, s3⟩) n0 (hts _ n2) (va_tabs (by rfl) rfl ((hN _ _ hW1.2.2.2.1).2 E hE)) (by rw [e1]; exact hce) hcv hcl kk
    obtain ⟨t2, a1, b1⟩ := hout T' rfl X'
    exact ⟨t2, stp.trans a1, b1⟩
theorem V_callVH {x : Cx} {l : Launch} {G : GG} {y : MI} {Φ : AOut → Mem → Prop} (hB : Bd x l G y Φ) {hs : Hs} (hT : (xC x).exceptionTable.toList = tableOf (hsT hs)) (hk : HOK y.1.cls hs) (hN : NcF G) {z : MI} {as : List AV} {Ψ : AOut → Mem → Prop} {τ : Mem} {K s' j n pc idx : Nat} {al : Al} {r st : List AV}
    (hs1 : Sat l G z (.inr (K, s', j) :: as) τ Ψ) (hst : st = as.reverse ++ .inr (K, s', j) :: r) (hd : decode y.2.1 pc = .ok (.invokevirtual idx, 3)) (hw : CV y.1.cls idx z K) (h0 : dom (K, s', j)) (hp : npar z as.length) (hrm : z.2.2.2.2.2 + 1 ≤ y.2.2.2.2.2 ∧ z.2.2.1 ≤ 21) (hc : acats r ≤ 8)
    (hn : n + z.2.2.2.2.1 ≤ y.2.2.2.2.1) (k : ∀ v τ', Ψ (.inl v) τ' → V x τ' (n + z.2.2.2.2.1) (pc + 3) al (v.toList ++ r)) (kx : ∀ E τ', Ψ (.inr E) τ' → E ∈ exc6 ∧ ∃ h, hnd E pc hs = some h ∧ ∀ q : Nat, V x τ' (n + z.2.2.2.2.1) h al [.inl (.ref q)]) : V x τ n pc al st := by
  subst hst
  have hB0 := hB
  obtain ⟨hg, rfl, rfl, rfl, rfl⟩ := hB
  obtain ⟨l, G, p, e, s, m, args, below, meth, c, y, Φ⟩ := x
  obtain ⟨hx, hb, hown, hts, hml, hlk, hret, hstt, hG, hX⟩ := hg
  obtain ⟨T, N, w1, w2, w3, w4, w5, w6, w7, w8, w9⟩ := hw
  intro H locs ls hW hS hL
  refine V_retH hB0 hT hk hN (z := z) (Ψ := Ψ) (r := r) (as9 := (.inr (K, s', j) :: as |>.map (conc G)).toArray) hn k kx H locs ls hW hS hL ?_
  have hcell := hW.2.1 _ h0
  simp only [cel, w2, if_true] at hcell
  obtain ⟨rr, r1, cell, q1, q2, q3, -⟩ := hcell
  have hr : rr = (z.1.cls, T, N) := Option.some.inj (r1.symm.trans w1)
  subst hr
  have hfc := (hW.1.1 _ _ w1).2.1
  have hin : ∀ w ∈ wsV y.1.cls idx z.1.cls z.1 (Cond.code z.1 z.2.1 z.2.2.1 z.2.2.2.1 :: TBg), w ∈ TBg := by
    intro w h
    simp only [wsV, List.cons_append, List.nil_append, List.mem_cons] at h
    rcases h with rfl | rfl | rfl | rfl | rfl | h
    · exact w3
    · exact w4
    · exact w5
    · exact w6
    · exact w7
    · exact h
  have hgi : GoodIn TBg (wsV y.1.cls idx z.1.cls z.1 (Cond.code z.1 z.2.1 z.2.2.1 z.2.2.2.1 :: TBg)) := fun w h => TBg_good w (hin w h)
  refine vx_runV (As := as.map (conc G)) (n := as.length) (C := z.1.cls) ⟨hx, hb, hml, hown, hts⟩ hs1 (cwV as.length hts hgi rfl rfl rfl ⟨rfl, w8, w9, hp⟩ (room_ok hrm.1 hrm.2)) ⟨World.blind hG _, ⟨cell, q1, by rw [q3]; rfl, by rw [q2]; exact hfc⟩, fun U hU hWU => ⟨rfl, (show World G τ U U.heap by rw [hU]; exact hW.moved hG hWU)⟩⟩ rfl (by simp) hL.1 (by simp [conc]) (lv_room (by rw [acats_sum]; exact hc)) hd ⟨hn, by rw [← Nat.mul_add]; exact Nat.mul_le_mul_left _ hn⟩
/-- call sites of methods with handlers -/
def CVX (own : String) (idx : Nat) (z : MI) (hs : Hs) (K : Nat) : Prop := ∃ (T : u_T) (N : Nat), vwCl[oCi K]? = some (z.1.cls, T, N) ∧ isO K = true ∧ Cond.methodLink own idx z.1 ∈ TBg ∧ Cond.instanceMethod z.1 ∈ TBg ∧ Cond.selects z.1.cls z.1 z.1 ∈ TBg ∧ Cond.initialized z.1.cls ∈ TBg ∧ Cond.codeWith z.1 z.2.1 z.2.2.1 z.2.2.2.1 (hsT hs) ∈ TBg ∧
  z.1.cls ≠ "java/lang/invoke/MethodHandle" ∧ z.1.cls ≠ "java/lang/invoke/VarHandle"
def CSX (own : String) (idx : Nat) (z : MI) (hs : Hs) : Prop := Cond.methodLink own idx z.1 ∈ TBg ∧ Cond.static z.1 ∈ TBg ∧ Cond.initialized z.1.cls ∈ TBg ∧ Cond.codeWith z.1 z.2.1 z.2.2.1 z.2.2.2.1 (hsT hs) ∈ TBg ∧ z.1.cls ≠ "java/lang/invoke/MethodHandle" ∧ z.1.cls ≠ "java/lang/invoke/VarHandle"
theorem V_callVX {x : Cx} {l : Launch} {G : GG} {y : MI} {Φ : AOut → Mem → Prop} (hB : Bd x l G y Φ) (hno : NoH x) {z : MI} {hs : Hs} {as : List AV} {Ψ : AOut → Mem → Prop} {τ : Mem} {K s' j n pc idx : Nat} {al : Al} {r st : List AV}
    (hs1 : SatH l G z hs (.inr (K, s', j) :: as) τ Ψ) (hst : st = as.reverse ++ .inr (K, s', j) :: r) (hd : decode y.2.1 pc = .ok (.invokevirtual idx, 3)) (hw : CVX y.1.cls idx z hs K) (h0 : dom (K, s', j)) (hp : npar z as.length) (hrm : z.2.2.2.2.2 + 1 ≤ y.2.2.2.2.2 ∧ z.2.2.1 ≤ 21) (hc : acats r ≤ 8)
    (hn : n + z.2.2.2.2.1 ≤ y.2.2.2.2.1) (k : ∀ v τ', Ψ (.inl v) τ' → V x τ' (n + z.2.2.2.2.1) (pc + 3) al (v.toList ++ r)) (kx : ∀ E τ', Ψ (.inr E) τ' → Φ (.inr E) τ') : V x τ n pc al st := by
  subst hst
  have hB0 := hB
  obtain ⟨hg, rfl, rfl, rfl, rfl⟩ := hB
  obtain ⟨l, G, p, e, s, m, args, below, meth, c, y, Φ⟩ := x
  obtain ⟨hx, hb, hown, hts, hml, hlk, hret, hstt, hG, hX⟩ := hg
  obtain ⟨T, N, w1, w2, w3, w4, w5, w6, w7, w8, w9⟩ := hw
  intro H locs ls hW hS hL
  refine V_ret hB0 hno (z := z) (Ψ := Ψ) (r := r) (as9 := (.inr (K, s', j) :: as |>.map (conc G)).toArray) hn k kx H locs ls hW hS hL ?_
  have hcell := hW.2.1 _ h0
  simp only [cel, w2, if_true] at hcell
  obtain ⟨rr, r1, cell, q1, q2, q3, -⟩ := hcell
  have hr : rr = (z.1.cls, T, N) := Option.some.inj (r1.symm.trans w1)
  subst hr
  have hfc := (hW.1.1 _ _ w1).2.1
  have hin : ∀ w ∈ wsV y.1.cls idx z.1.cls z.1 (Cond.codeWith z.1 z.2.1 z.2.2.1 z.2.2.2.1 (hsT hs) :: TBg), w ∈ TBg := by
    intro w h
    simp only [wsV, List.cons_append, List.nil_append, List.mem_cons] at h
    rcases h with rfl | rfl | rfl | rfl | rfl | h
    · exact w3
    · exact w4
    · exact w5
    · exact w6
    · exact w7
    · exact h
  have hgi : GoodIn TBg (wsV y.1.cls idx z.1.cls z.1 (Cond.codeWith z.1 z.2.1 z.2.2.1 z.2.2.2.1 (hsT hs) :: TBg)) := fun w h => TBg_good w (hin w h)
  refine vx_runVX (hh := hsT hs) (As := as.map (conc G)) (n := as.length) (C := z.1.cls) ⟨hx, hb, hml, hown, hts⟩ hs1 (vx_cwVW as.length hts hgi rfl rfl rfl ⟨rfl, w8, w9, hp⟩ (room_ok hrm.1 hrm.2)) ⟨World.blind hG _, ⟨cell, q1, by rw [q3]; rfl, by rw [q2]; exact hfc⟩, fun U hU hWU => ⟨rfl, (show World G τ U U.heap by rw [hU]; exact hW.moved hG hWU)⟩⟩ rfl (by simp) hL.1 (by simp [conc]) (lv_room (by rw [acats_sum]; exact hc)) hd ⟨hn, by rw [← Nat.mul_add]; exact Nat.mul_le_mul_left _ hn⟩
theorem V_callSX {x : Cx} {l : Launch} {G : GG} {y : MI} {Φ : AOut → Mem → Prop} (hB : Bd x l G y Φ) (hno : NoH x) {z : MI} {hs : Hs} {as : List AV} {Ψ : AOut → Mem → Prop} {τ : Mem} {n pc idx : Nat} {al : Al} {r st : List AV}
    (hs1 : SatH l G z hs as τ Ψ) (hst : st = as.reverse ++ r) (hd : decode y.2.1 pc = .ok (.invokestatic idx, 3)) (hw : CSX y.1.cls idx z hs) (hp : npar z as.length) (hrm : z.2.2.2.2.2 + 1 ≤ y.2.2.2.2.2 ∧ z.2.2.1 ≤ 21) (hc : acats r ≤ 8)
    (hn : n + z.2.2.2.2.1 ≤ y.2.2.2.2.1) (k : ∀ v τ', Ψ (.inl v) τ' → V x τ' (n + z.2.2.2.2.1) (pc + 3) al (v.toList ++ r)) (kx : ∀ E τ', Ψ (.inr E) τ' → Φ (.inr E) τ') : V x τ n pc al st := by
  subst hst
  have hB0 := hB
  obtain ⟨hg, rfl, rfl, rfl, rfl⟩ := hB
  obtain ⟨l, G, p, e, s, m, args, below, meth, c, y, Φ⟩ := x
  obtain ⟨hx, hb, hown, hts, hml, hlk, hret, hstt, hG, hX⟩ := hg
  obtain ⟨w3, w4, w6, w7, w8, w9⟩ := hw
  intro H locs ls hW hS hL
  refine V_ret hB0 hno (z := z) (Ψ := Ψ) (r := r) (as9 := (as.map (conc G)).toArray) hn k kx H locs ls hW hS hL ?_
  have hin : ∀ w ∈ va_wsS y.1.cls idx z.1 (Cond.codeWith z.1 z.2.1 z.2.2.1 z.2.2.2.1 (hsT hs) :: TBg), w ∈ TBg := by
    intro w h
    simp only [va_wsS, List.cons_append, List.nil_append, List.mem_cons] at h
    rcases h with rfl | rfl | rfl | rfl | h
    · exact w3
    · exact w4
    · exact w6
    · exact w7
    · exact h
  have hgi : GoodIn TBg (va_wsS y.1.cls idx z.1 (Cond.codeWith z.1 z.2.1 z.2.2.1 z.2.2.2.1 (hsT hs) :: TBg)) := fun w h => TBg_good w (hin w h)
  refine vx_runSX (hh := hsT hs) (As := as.map (conc G)) (n := as.length) ⟨hx, hb, hml, hown, hts⟩ hs1 (vx_cwSW as.length hts hgi rfl rfl rfl ⟨w8, w9, hp⟩ (room_ok hrm.1 hrm.2)) ⟨World.blind hG _, fun U hU hWU => ⟨rfl, (show World G τ U U.heap by rw [hU]; exact hW.moved hG hWU)⟩⟩ rfl (by simp) hL.1 (by simp) (lv_room (by rw [acats_sum]; exact hc)) hd ⟨hn, by rw [← Nat.mul_add]; exact Nat.mul_le_mul_left _ hn⟩
