section VROWS2
variable {x : Cx} {τ : Mem} {n pc : Nat} {al : Al} {r : List AV}
theorem s_icmp_eq {a b : Int32} {off : Int} {tgt : Nat} (hg : Gd x) (hd : decode (xY x).2.1 pc = .ok (.if_icmp .eq off, 3)) (ht : (pc : Int) + off = (tgt : Int)) (kt : a = b → V x τ n tgt al r) (kf : ¬ a = b → V x τ n (pc + 3) al r) : V x τ n pc al (.inl (.int b) :: .inl (.int a) :: r) := by
  obtain ⟨l, G, p, e, s, m, args, below, meth, c, y, Φ⟩ := x
  obtain ⟨hx, hb, -⟩ := hg
  exact fun H locs ls hW hS hL => lv_icmp_eq hx hb hd ht (fun q => kt q H locs ls hW hS hL) (fun q => kf q H locs ls hW hS hL)
theorem s_if_eq {a : Int32} {off : Int} {tgt : Nat} (hg : Gd x) (hd : decode (xY x).2.1 pc = .ok (.ifCond .eq off, 3)) (ht : (pc : Int) + off = (tgt : Int)) (kt : a = 0 → V x τ n tgt al r) (kf : ¬ a = 0 → V x τ n (pc + 3) al r) : V x τ n pc al (.inl (.int a) :: r) := by
  obtain ⟨l, G, p, e, s, m, args, below, meth, c, y, Φ⟩ := x
  obtain ⟨hx, hb, -⟩ := hg
  exact fun H locs ls hW hS hL => lv_if_eq hx hb hd ht (fun q => kt q H locs ls hW hS hL) (fun q => kf q H locs ls hW hS hL)
theorem s_icmp_ne {a b : Int32} {off : Int} {tgt : Nat} (hg : Gd x) (hd : decode (xY x).2.1 pc = .ok (.if_icmp .ne off, 3)) (ht : (pc : Int) + off = (tgt : Int)) (kt : ¬ a = b → V x τ n tgt al r) (kf : a = b → V x τ n (pc + 3) al r) : V x τ n pc al (.inl (.int b) :: .inl (.int a) :: r) := by
  obtain ⟨l, G, p, e, s, m, args, below, meth, c, y, Φ⟩ := x
  obtain ⟨hx, hb, -⟩ := hg
  exact fun H locs ls hW hS hL => lv_icmp_ne hx hb hd ht (fun q => kt q H locs ls hW hS hL) (fun q => kf q H locs ls hW hS hL)
theorem s_if_ne {a : Int32} {off : Int} {tgt : Nat} (hg : Gd x) (hd : decode (xY x).2.1 pc = .ok (.ifCond .ne off, 3)) (ht : (pc : Int) + off = (tgt : Int)) (kt : ¬ a = 0 → V x τ n tgt al r) (kf : a = 0 → V x τ n (pc + 3) al r) : V x τ n pc al (.inl (.int a) :: r) := by
  obtain ⟨l, G, p, e, s, m, args, below, meth, c, y, Φ⟩ := x
  obtain ⟨hx, hb, -⟩ := hg
  exact fun H locs ls hW hS hL => lv_if_ne hx hb hd ht (fun q => kt q H locs ls hW hS hL) (fun q => kf q H locs ls hW hS hL)
theorem s_icmp_lt {a b : Int32} {off : Int} {tgt : Nat} (hg : Gd x) (hd : decode (xY x).2.1 pc = .ok (.if_icmp .lt off, 3)) (ht : (pc : Int) + off = (tgt : Int)) (kt : a < b → V x τ n tgt al r) (kf : ¬ a < b → V x τ n (pc + 3) al r) : V x τ n pc al (.inl (.int b) :: .inl (.int a) :: r) := by
  obtain ⟨l, G, p, e, s, m, args, below, meth, c, y, Φ⟩ := x
  obtain ⟨hx, hb, -⟩ := hg
  exact fun H locs ls hW hS hL => lv_icmp_lt hx hb hd ht (fun q => kt q H locs ls hW hS hL) (fun q => kf q H locs ls hW hS hL)
theorem s_if_lt {a : Int32} {off : Int} {tgt : Nat} (hg : Gd x) (hd : decode (xY x).2.1 pc = .ok (.ifCond .lt off, 3)) (ht : (pc : Int) + off = (tgt : Int)) (kt : a < 0 → V x τ n tgt al r) (kf : ¬ a < 0 → V x τ n (pc + 3) al r) : V x τ n pc al (.inl (.int a) :: r) := by
  obtain ⟨l, G, p, e, s, m, args, below, meth, c, y, Φ⟩ := x
  obtain ⟨hx, hb, -⟩ := hg
  exact fun H locs ls hW hS hL => lv_if_lt hx hb hd ht (fun q => kt q H locs ls hW hS hL) (fun q => kf q H locs ls hW hS hL)
theorem s_icmp_ge {a b : Int32} {off : Int} {tgt : Nat} (hg : Gd x) (hd : decode (xY x).2.1 pc = .ok (.if_icmp .ge off, 3)) (ht : (pc : Int) + off = (tgt : Int)) (kt : b ≤ a → V x τ n tgt al r) (kf : ¬ b ≤ a → V x τ n (pc + 3) al r) : V x τ n pc al (.inl (.int b) :: .inl (.int a) :: r) := by
  obtain ⟨l, G, p, e, s, m, args, below, meth, c, y, Φ⟩ := x
  obtain ⟨hx, hb, -⟩ := hg
  exact fun H locs ls hW hS hL => lv_icmp_ge hx hb hd ht (fun q => kt q H locs ls hW hS hL) (fun q => kf q H locs ls hW hS hL)
theorem s_if_ge {a : Int32} {off : Int} {tgt : Nat} (hg : Gd x) (hd : decode (xY x).2.1 pc = .ok (.ifCond .ge off, 3)) (ht : (pc : Int) + off = (tgt : Int)) (kt : 0 ≤ a → V x τ n tgt al r) (kf : ¬ 0 ≤ a → V x τ n (pc + 3) al r) : V x τ n pc al (.inl (.int a) :: r) := by
  obtain ⟨l, G, p, e, s, m, args, below, meth, c, y, Φ⟩ := x
  obtain ⟨hx, hb, -⟩ := hg
  exact fun H locs ls hW hS hL => lv_if_ge hx hb hd ht (fun q => kt q H locs ls hW hS hL) (fun q => kf q H locs ls hW hS hL)
theorem s_icmp_gt {a b : Int32} {off : Int} {tgt : Nat} (hg : Gd x) (hd : decode (xY x).2.1 pc = .ok (.if_icmp .gt off, 3)) (ht : (pc : Int) + off = (tgt : Int)) (kt : b < a → V x τ n tgt al r) (kf : ¬ b < a → V x τ n (pc + 3) al r) : V x τ n pc al (.inl (.int b) :: .inl (.int a) :: r) := by
  obtain ⟨l, G, p, e, s, m, args, below, meth, c, y, Φ⟩ := x
  obtain ⟨hx, hb, -⟩ := hg
  exact fun H locs ls hW hS hL => lv_icmp_gt hx hb hd ht (fun q => kt q H locs ls hW hS hL) (fun q => kf q H locs ls hW hS hL)
theorem s_if_gt {a : Int32} {off : Int} {tgt : Nat} (hg : Gd x) (hd : decode (xY x).2.1 pc = .ok (.ifCond .gt off, 3)) (ht : (pc : Int) + off = (tgt : Int)) (kt : 0 < a → V x τ n tgt al r) (kf : ¬ 0 < a → V x τ n (pc + 3) al r) : V x τ n pc al (.inl (.int a) :: r) := by
  obtain ⟨l, G, p, e, s, m, args, below, meth, c, y, Φ⟩ := x
  obtain ⟨hx, hb, -⟩ := hg
  exact fun H locs ls hW hS hL => lv_if_gt hx hb hd ht (fun q => kt q H locs ls hW hS hL) (fun q => kf q H locs ls hW hS hL)
theorem s_icmp_le {a b : Int32} {off : Int} {tgt : Nat} (hg : Gd x) (hd : decode (xY x).2.1 pc = .ok (.if_icmp .le off, 3)) (ht : (pc : Int) + off = (tgt : Int)) (kt : a ≤ b → V x τ n tgt al r) (kf : ¬ a ≤ b → V x τ n (pc + 3) al r) : V x τ n pc al (.inl (.int b) :: .inl (.int a) :: r) := by
  obtain ⟨l, G, p, e, s, m, args, below, meth, c, y, Φ⟩ := x
  obtain ⟨hx, hb, -⟩ := hg
  exact fun H locs ls hW hS hL => lv_icmp_le hx hb hd ht (fun q => kt q H locs ls hW hS hL) (fun q => kf q H locs ls hW hS hL)
theorem s_if_le {a : Int32} {off : Int} {tgt : Nat} (hg : Gd x) (hd : decode (xY x).2.1 pc = .ok (.ifCond .le off, 3)) (ht : (pc : Int) + off = (tgt : Int)) (kt : a ≤ 0 → V x τ n tgt al r) (kf : ¬ a ≤ 0 → V x τ n (pc + 3) al r) : V x τ n pc al (.inl (.int a) :: r) := by
  obtain ⟨l, G, p, e, s, m, args, below, meth, c, y, Φ⟩ := x
  obtain ⟨hx, hb, -⟩ := hg
  exact fun H locs ls hW hS hL => lv_if_le hx hb hd ht (fun q => kt q H locs ls hW hS hL) (fun q => kf q H locs ls hW hS hL)
theorem s_goto {off : Int} {tgt : Nat} (hg : Gd x) (hd : decode (xY x).2.1 pc = .ok (.goto off, 3)) (ht : (pc : Int) + off = (tgt : Int)) (k : V x τ n tgt al r) : V x τ n pc al r := by
  obtain ⟨l, G, p, e, s, m, args, below, meth, c, y, Φ⟩ := x
  obtain ⟨hx, hb, -⟩ := hg
  exact fun H locs ls hW hS hL => lv_goto hx hb hd ht (k H locs ls hW hS hL)
theorem s_ifnonnull {nm : Nm} {off : Int} {tgt : Nat} (hg : Gd x) (hd : decode (xY x).2.1 pc = .ok (.ifnonnull off, 3)) (ht : (pc : Int) + off = (tgt : Int)) (k : V x τ n tgt al r) : V x τ n pc al (.inr nm :: r) := by
  obtain ⟨l, G, p, e, s, m, args, below, meth, c, y, Φ⟩ := x
  obtain ⟨hx, hb, -⟩ := hg
  exact fun H locs ls hW hS hL => lv_ifnonnull hx hb hd ht (k H locs ls hW hS hL)
theorem s_ifnonnullN {off : Int} (hg : Gd x) (hd : decode (xY x).2.1 pc = .ok (.ifnonnull off, 3)) (k : V x τ n (pc + 3) al r) : V x τ n pc al (.inl .null :: r) := by
  obtain ⟨l, G, p, e, s, m, args, below, meth, c, y, Φ⟩ := x
  obtain ⟨hx, hb, -⟩ := hg
  exact fun H locs ls hW hS hL => lv_ifnonnullN hx hb hd (k H locs ls hW hS hL)
/-! ===== fields ===== -/
/-- entry idx of the class own names the field k of the cells of kind K -/
def FOK (own : String) (idx K k : Nat) : Prop := ∃ (C : String) (T : u_T) (N : Nat), vwCl[oCi K]? = some (C, T, N) ∧ isO K = true ∧ N = oN K ∧ k < N ∧ Cond.fieldLink own idx (T k).1 (T k).2.1 (T k).2.2.1 ∈ TBg ∧ (∀ w ∈ u_ws C T N, w ∈ TBg)
/-- .. which may be written, of type ty -/
def FPT (K k : Nat) (ty : FieldType) : Prop := ∃ (C : String) (T : u_T) (N : Nat) (ty0 : Nat → FieldType), vwCl[oCi K]? = some (C, T, N) ∧ (∀ k, k < N → parseFieldDescriptor (T k).2.2.1 = some (ty0 k)) ∧ (∀ a, a < N → ∀ b, b < N → a ≠ b → (T a).2.1 ≠ (T b).2.1) ∧ (T k).2.2.2 = false ∧ parseFieldDescriptor (T k).2.2.1 = some ty
theorem s_get {idx K s' j k : Nat} (hg : Gd x) (hd : decode (xY x).2.1 pc = .ok (.getfield idx, 3)) (hf : FOK (xY x).1.cls idx K k) (h0 : dom (K, s', j)) (kk : V x τ n (pc + 3) al (fAV τ K s' j k :: r)) : V x τ n pc al (.inr (K, s', j) :: r) := by
  obtain ⟨l, G, p, e, s, m, args, below, meth, c, y, Φ⟩ := x
  obtain ⟨hx, hb, hown, hts, -⟩ := hg
  obtain ⟨C, T, N, f1, f2, f3, f4, f5, f6⟩ := hf
  intro H locs ls hW hS hL
  have k1 := kk H locs ls hW hS hL
  obtain ⟨hK, hP, -⟩ := hW
  have h1 := hP _ h0
  simp only [cel, f2, if_true] at h1
  have hP1 : va_P G.1 vwCl [(G.2.1 (K, s', j), .inr (oCi K, celO G τ (K, s', j)))] H := fun i q hq => by
    match i, hq with
    | 0, hq => cases hq; exact h1
  refine va_get hx hb hts f6 hown hK hP1 0 rfl f1 k f4 (hts _ f5) (fun _ h => h) (v := conc G (fAV τ K s' j k)) ?_ hd k1
  simp [celO, List.getElem?_map, List.getElem?_range (show k < oN K by rw [← f3]; exact f4)]
theorem celO_set {G : GG} {τ τ' : Mem} {K s' j k : Nat} {v : AV} (hk : k < oN K) (hv : fAV τ' K s' j k = v) (ho : ∀ i, i ≠ k → fAV τ' K s' j i = fAV τ K s' j i) : (celO G τ (K, s', j)).set k (conc G v) = celO G τ' (K, s', j) := by
  apply List.ext_getElem?
  intro i
  by_cases hi : i = k
  · subst hi
    rw [List.getElem?_set_self (by simp [celO, hk])]
    simp [celO, hk, hv]
  · rw [List.getElem?_set_ne (Ne.symm hi)]
    by_cases hN : i < oN K
    · simp [celO, hN, ho i hi]
    · simp [celO, Nat.not_lt.mp hN]
/-- the row behind the stores to a field -/
theorem s_put {idx K s' j k : Nat} {ty : FieldType} {v : AV} {τ' : Mem} (hg : Gd x) (hd : decode (xY x).2.1 pc = .ok (.putfield idx, 3)) (hf : FOK (xY x).1.cls idx K k) (hp : FPT K k ty) (h0 : dom (K, s', j)) (hn : ∀ G, narrow ty (conc G v) = conc G v) (hfit : ∀ G, fits ty (conc G v) = true)
    (hs : τ'.2.2 = τ.2.2) (h1 : ∀ a, a ≠ (K, s', j) → τ'.1 a = τ.1 a) (h2 : ∀ a, a ≠ (K, s', j) → τ'.2.1 a = τ.2.1 a) (hv : fAV τ' K s' j k = v) (ho : ∀ i, i ≠ k → fAV τ' K s' j i = fAV τ K s' j i)
    (kk : V x τ' n (pc + 3) al r) : V x τ n pc al (v :: .inr (K, s', j) :: r) := by
  obtain ⟨l, G, p, e, s, m, args, below, meth, c, y, Φ⟩ := x
  have hG : Gok G := hg.2.2.2.2.2.2.2.2.1
  obtain ⟨hx, hb, hown, hts, -⟩ := hg
  obtain ⟨C, T, N, f1, f2, f3, f4, f5, f6⟩ := hf
  obtain ⟨C', T', N', ty0, p1, p2, p3, p4, p5⟩ := hp
  cases Option.some.inj (p1.symm.trans f1)
  intro H locs ls hW hS hL
  have hK := hW.1
  have hc := hW.2.1 _ h0
  simp only [cel, f2, if_true] at hc
  obtain ⟨rr, r1, cell, q1, q2, q3, q4⟩ := hc
  have hr : rr = (C, T, N) := Option.some.inj (r1.symm.trans f1)
  subst hr
  have hap := va_apart (own := y.1.cls) hts f6 ty0 p2 p3 hK f1
  obtain ⟨hSl, hfc, kC, hkC, hkind⟩ := hK.1 _ _ f1
  obtain ⟨cf, kf, fi, f, hi, hsl⟩ := hSl k f4
  have hlay := hts _ (f6 _ (u_in_lay f4))
  unfold u_lay at hlay
  rw [if_neg (by rw [p4]; decide)] at hlay
  have hst := (u_facts hfc hkC (u_lays hts f6 f4) hi).1
  have h6 := u_store hfc hkC hkind hlay hi p5 (hn G) (hfit G)
  refine W.putK hx hb (f := f) ⟨hown, hts _ f5, ⟨_, _, _, hi⟩, hst⟩ (by rw [q2]; exact h6) q1 q3 (by rw [hsl]; exact k2_hasslot (q4 k f4)) rfl rfl hd fun H' e1 e2 e3 => ?_
  rw [hsl] at e1 ⊢
  refine kk H' _ ls (hW.put hG h0 hs h1 h2 ?_ e2 e3) (hS.put e2 e3 (hG.2.1 _ h0)) hL
  simp only [cel, f2, if_true]
  refine ⟨_, f1, ?_⟩
  rw [← celO_set (by rw [← f3]; exact f4) hv ho]
  exact t_OB.to (V := updV (vp_V (celO G τ (K, s', j))) k (conc G v)) ⟨_, e1, q2, q3, t_set q4 hap f4 _⟩ (fun i _ => vp_updV_set (by simp [celO, ← f3, f4]) _ i)
theorem fAV_put {τ : Mem} {K s' j k : Nat} {v : Int32} (ht : (fT K k).1 = 0) : fAV (wI τ (K, s', j) k v) K s' j k = .inl (.int v) := by
  unfold fAV
  split <;> rename_i h <;> simp_all [upM]
theorem fAV_putn {τ : Mem} {K s' j k i : Nat} {v : Int32} (h : i ≠ k) : fAV (wI τ (K, s', j) k v) K s' j i = fAV τ K s' j i := by
  unfold fAV
  split <;> simp_all [upM]
theorem fAV_putL {τ : Mem} {K s' j k : Nat} {v : Int64} (ht : (fT K k).1 = 1) : fAV (wL τ (K, s', j) k v) K s' j k = .inl (.long v) := by
  unfold fAV
  split <;> rename_i h <;> simp_all [upL]
theorem fAV_putLn {τ : Mem} {K s' j k i : Nat} {v : Int64} (h : i ≠ k) : fAV (wL τ (K, s', j) k v) K s' j i = fAV τ K s' j i := by
  unfold fAV
  split <;> simp_all [upL]
theorem s_putI {idx K s' j k : Nat} {v : Int32} (hg : Gd x) (hd : decode (xY x).2.1 pc = .ok (.putfield idx, 3)) (hf : FOK (xY x).1.cls idx K k) (hp : FPT K k .int) (ht : (fT K k).1 = 0) (h0 : dom (K, s', j)) (kk : V x (wI τ (K, s', j) k v) n (pc + 3) al r) : V x τ n pc al (.inl (.int v) :: .inr (K, s', j) :: r) :=
  s_put (τ' := wI τ (K, s', j) k v) hg hd hf hp h0 (fun _ => rfl) (fun _ => rfl) rfl (fun a h => upM_nef h) (fun _ _ => rfl) (fAV_put ht) (fun i h => fAV_putn h) kk
theorem s_putZ {idx K s' j k : Nat} {v : Int32} (hg : Gd x) (hd : decode (xY x).2.1 pc = .ok (.putfield idx, 3)) (hf : FOK (xY x).1.cls idx K k) (hp : FPT K k .boolean) (ht : (fT K k).1 = 0) (h0 : dom (K, s', j)) (hv : v = 0 ∨ v = 1) (kk : V x (wI τ (K, s', j) k v) n (pc + 3) al r) : V x τ n pc al (.inl (.int v) :: .inr (K, s', j) :: r) :=
  s_put (τ' := wI τ (K, s', j) k v) hg hd hf hp h0 (fun _ => by rcases hv with rfl | rfl <;> rfl) (fun _ => by rcases hv with rfl | rfl <;> rfl) rfl (fun a h => upM_nef h) (fun _ _ => rfl) (fAV_put ht) (fun i h => fAV_putn h) kk
theorem s_putL {idx K s' j k : Nat} {v : Int64} (hg : Gd x) (hd : decode (xY x).2.1 pc = .ok (.putfield idx, 3)) (hf : FOK (xY x).1.cls idx K k) (hp : FPT K k .long) (ht : (fT K k).1 = 1) (h0 : dom (K, s', j)) (kk : V x (wL τ (K, s', j) k v) n (pc + 3) al r) : V x τ n pc al (.inl (.long v) :: .inr (K, s', j) :: r) :=
  s_put (τ' := wL τ (K, s', j) k v) hg hd hf hp h0 (fun _ => rfl) (fun _ => rfl) rfl (fun _ _ => rfl) (fun a h => upL_nef h) (fAV_putL ht) (fun i h => fAV_putLn h) kk
/-! ===== arrays ===== -/
theorem celA_at {G : GG} {τ : Mem} {U : State} {H : Heap} {K s' j : Nat} (hW : World G τ U H) (h0 : dom (K, s', j)) (hO : isO K = false) : H[G.2.1 (K, s', j)]? = some (vp_cell (G.2.2.2.1 (aTy K)) (celA G τ (K, s', j))) := by
  have h := hW.2.1 _ h0
  simp only [cel, hO, Bool.false_eq_true, if_false] at h
  exact h
theorem s_iald {K s' j : Nat} {i : Int32} (hg : Gd x) (hd : decode (xY x).2.1 pc = .ok (.iaload, 1)) (h0 : dom (K, s', j)) (hO : isO K = false) (ht : aTy K = 0) (hi : vp_in i (aLen K)) (k : V x τ n (pc + 1) al (.inl (.int (τ.1 (K, s', j) i.toNatClampNeg)) :: r)) : V x τ n pc al (.inl (.int i) :: .inr (K, s', j) :: r) := by
  obtain ⟨l, G, p, e, s, m, args, below, meth, c, y, Φ⟩ := x
  obtain ⟨hx, hb, -⟩ := hg
  intro H locs ls hW hS hL
  have k1 := k H locs ls hW hS hL
  have hc := celA_at hW h0 hO
  simp only [celA, ht] at hc
  refine va_iald hx hb hW.1 (ws := [(G.2.1 (K, s', j), .inl (G.2.2.2.1 0, aLen K, .inl (τ.1 (K, s', j))))]) (fun i q hq => ?_) 0 0 rfl rfl hi hd k1
  match i, hq with
  | 0, hq => cases hq; exact hc
theorem s_cald {K s' j : Nat} {i : Int32} (hg : Gd x) (hd : decode (xY x).2.1 pc = .ok (.caload, 1)) (h0 : dom (K, s', j)) (hO : isO K = false) (ht : aTy K = 1) (hi : vp_in i (aLen K)) (k : V x τ n (pc + 1) al (.inl (.int (τ.1 (K, s', j) i.toNatClampNeg)) :: r)) : V x τ n pc al (.inl (.int i) :: .inr (K, s', j) :: r) := by
  obtain ⟨l, G, p, e, s, m, args, below, meth, c, y, Φ⟩ := x
  obtain ⟨hx, hb, -⟩ := hg
  intro H locs ls hW hS hL
  have k1 := k H locs ls hW hS hL
  have hc := celA_at hW h0 hO
  simp only [celA, ht] at hc
  refine va_cald hx hb hW.1 (ws := [(G.2.1 (K, s', j), .inl (G.2.2.2.1 1, aLen K, .inl (τ.1 (K, s', j))))]) (fun i q hq => ?_) 0 1 rfl rfl hi hd k1
  match i, hq with
  | 0, hq => cases hq; exact hc
theorem s_lald {K s' j : Nat} {i : Int32} (hg : Gd x) (hd : decode (xY x).2.1 pc = .ok (.laload, 1)) (h0 : dom (K, s', j)) (hO : isO K = false) (ht : aTy K = 2) (hi : vp_in i (aLen K)) (k : V x τ n (pc + 1) al (.inl (.long (τ.2.1 (K, s', j) i.toNatClampNeg)) :: r)) : V x τ n pc al (.inl (.int i) :: .inr (K, s', j) :: r) := by
  obtain ⟨l, G, p, e, s, m, args, below, meth, c, y, Φ⟩ := x
  obtain ⟨hx, hb, -⟩ := hg
  intro H locs ls hW hS hL
  have k1 := k H locs ls hW hS hL
  have hc := celA_at hW h0 hO
  simp only [celA, ht] at hc
  refine va_lald hx hb hW.1 (ws := [(G.2.1 (K, s', j), .inl (G.2.2.2.1 2, aLen K, .inr (.inl (τ.2.1 (K, s', j)))))]) (fun i q hq => ?_) 0 2 rfl rfl hi hd k1
  match i, hq with
  | 0, hq => cases hq; exact hc
theorem s_dald {K s' j : Nat} {i : Int32} (hg : Gd x) (hd : decode (xY x).2.1 pc = .ok (.daload, 1)) (h0 : dom (K, s', j)) (hO : isO K = false) (ht : aTy K = 3) (hi : vp_in i (aLen K)) (k : V x τ n (pc + 1) al (.inl (.double (τ.2.1 (K, s', j) i.toNatClampNeg).toUInt64) :: r)) : V x τ n pc al (.inl (.int i) :: .inr (K, s', j) :: r) := by
  obtain ⟨l, G, p, e, s, m, args, below, meth, c, y, Φ⟩ := x
  obtain ⟨hx, hb, -⟩ := hg
  intro H locs ls hW hS hL
  have k1 := k H locs ls hW hS hL
  have hc := celA_at hW h0 hO
  simp only [celA, ht] at hc
  refine va_dald hx hb hW.1 (ws := [(G.2.1 (K, s', j), .inl (G.2.2.2.1 3, aLen K, .inr (.inr (.inr (.inl (fun i => (τ.2.1 (K, s', j) i).toUInt64))))))]) (fun i q hq => ?_) 0 3 rfl rfl hi hd k1
  match i, hq with
  | 0, hq => cases hq; exact hc
/-- the value that an array of references gives -/
def elAV (o : Option Nm) : AV := match o with
  | none => .inl .null
  | some nm => .inr nm
def tyR : Nat → FieldType
  | 4 => .object RX6 | 5 => .object RX3 | 6 => .object RX9 | _ => .array .int
theorem s_aald {K s' j : Nat} {i : Int32} (hg : Gd x) (hd : decode (xY x).2.1 pc = .ok (.aaload, 1)) (h0 : dom (K, s', j)) (hO : isO K = false) (ht : 4 ≤ aTy K ∧ aTy K ≤ 7) (hi : vp_in i (aLen K)) (k : V x τ n (pc + 1) al (elAV (elR τ K s' j i.toNatClampNeg) :: r)) : V x τ n pc al (.inl (.int i) :: .inr (K, s', j) :: r) := by
  obtain ⟨l, G, p, e, s, m, args, below, meth, c, y, Φ⟩ := x
  obtain ⟨hx, hb, -⟩ := hg
  intro H locs ls hW hS hL
  have k1 := k H locs ls hW hS hL
  have hc := celA_at hW h0 hO
  obtain ⟨t, htt⟩ : ∃ t, t = aTy K := ⟨_, rfl⟩
  have hlt : i.toNatClampNeg < aLen K := Nat.not_le.mp fun q => hi (Or.inr q)
  have hcel : celA G τ (K, s', j) = (aLen K, .inr (.inr (.inr (.inr (fun i => (elR τ K s' j i).map G.2.1))))) := by
    unfold celA
    rw [← htt] at ht ⊢
    match t, ht with
    | 4, _ => rfl
    | 5, _ => rfl
    | 6, _ => rfl
    | 7, _ => rfl
  rw [hcel] at hc
  have hv : conc G (elAV (elR τ K s' j i.toNatClampNeg)) = va_rf ((elR τ K s' j i.toNatClampNeg).map G.2.1) := by
    cases elR τ K s' j i.toNatClampNeg <;> rfl
  rw [List.map_cons, hv] at k1
  have harr : ArrOfT s (G.2.2.2.1 (aTy K)) (tyR (aTy K)) := by
    rw [← htt] at ht ⊢
    match t, ht with
    | 4, _ => exact (hW.1.2 4 _ rfl).1
    | 5, _ => exact (hW.1.2 5 _ rfl).1
    | 6, _ => exact (hW.1.2 6 _ rfl).1
    | 7, _ => exact (hW.1.2 7 _ rfl).1
  have hre : (tyR (aTy K)).isReference = true := by
    rw [← htt] at ht ⊢
    match t, ht with
    | 4, _ => rfl
    | 5, _ => rfl
    | 6, _ => rfl
    | 7, _ => rfl
  exact W.aald (v := va_rf ((elR τ K s' j i.toNatClampNeg).map G.2.1)) (ty := tyR (aTy K)) hx hb hc (harr (aLen K) (fun i => va_rf ((elR τ K s' j i).map G.2.1))) hre (fun q => by cases q) (by show ¬ (i < 0 ∨ (arrV _ _ _).slots.size ≤ _); rw [arrV_size]; exact hi) (by show (arrV _ _ _).slots[_]? = _; rw [arrV_read _ _ hlt]) rfl rfl hd k1
theorem s_alen {K s' j : Nat} {v : Int32} (hg : Gd x) (hd : decode (xY x).2.1 pc = .ok (.arraylength, 1)) (h0 : dom (K, s', j)) (hO : isO K = false) (hv : Int32.ofNat (aLen K) = v) (k : V x τ n (pc + 1) al (.inl (.int v) :: r)) (ht : aTy K ≤ 7) : V x τ n pc al (.inr (K, s', j) :: r) := by
  obtain ⟨l, G, p, e, s, m, args, below, meth, c, y, Φ⟩ := x
  obtain ⟨hx, hb, -⟩ := hg
  intro H locs ls hW hS hL
  have k1 := k H locs ls hW hS hL
  have hc := celA_at hW h0 hO
  have hty : ∃ ty, (tysG G)[aTy K]? = some (G.2.2.2.1 (aTy K), ty) := by
    obtain ⟨t, htt⟩ : ∃ t, t = aTy K := ⟨_, rfl⟩
    rw [← htt] at ht ⊢
    match t, ht with
    | 0, _ => exact ⟨_, rfl⟩
    | 1, _ => exact ⟨_, rfl⟩
    | 2, _ => exact ⟨_, rfl⟩
    | 3, _ => exact ⟨_, rfl⟩
    | 4, _ => exact ⟨_, rfl⟩
    | 5, _ => exact ⟨_, rfl⟩
    | 6, _ => exact ⟨_, rfl⟩
    | 7, _ => exact ⟨_, rfl⟩
  obtain ⟨ty, hty⟩ := hty
  refine va_alen hx hb hW.1 (ws := [(G.2.1 (K, s', j), .inl (G.2.2.2.1 (aTy K), celA G τ (K, s', j)))]) (fun i q hq => ?_) 0 (aTy K) rfl hty hv hd k1
  match i, hq with
  | 0, hq => cases hq; exact hc
/-- stores of ints -/
theorem s_iast {K s' j : Nat} {i v : Int32} (hg : Gd x) (hd : decode (xY x).2.1 pc = .ok (.iastore, 1)) (h0 : dom (K, s', j)) (hO : isO K = false) (ht : aTy K = 0) (hi : vp_in i (aLen K)) (k : V x (wI τ (K, s', j) i.toNatClampNeg v) n (pc + 1) al r) : V x τ n pc al (.inl (.int v) :: .inl (.int i) :: .inr (K, s', j) :: r) := by
  obtain ⟨l, G, p, e, s, m, args, below, meth, c, y, Φ⟩ := x
  have hG : Gok G := hg.2.2.2.2.2.2.2.2.1
  obtain ⟨hx, hb, -⟩ := hg
  intro H locs ls hW hS hL
  have hc := celA_at hW h0 hO
  simp only [celA, ht] at hc
  refine W.iast hx hb hc ((hW.1.2 0 _ rfl).1 (aLen K) (fun i => .int (τ.1 (K, s', j) i))) (fun q => by cases q) (by show ¬ (i < 0 ∨ (arrV _ _ _).slots.size ≤ _); rw [arrV_size]; exact hi) rfl rfl hd fun H1 e z oq => ?_
  refine k H1 _ ls (hW.put hG h0 rfl (fun a h => upM_nef h) (fun _ _ => rfl) ?_ z oq) (hS.put z oq (hG.2.1 _ h0)) hL
  simp only [cel, hO, Bool.false_eq_true, if_false, celA, ht]
  show H1[_]? = some (vp_cell _ _)
  rw [e, vp_cell_i, vp_cell_i, arrV_store]
  congr 2
  funext q
  by_cases hq : q = i.toNatClampNeg
  · subst hq; simp [updV, upM]
  · simp [updV, upM, hq]
theorem s_cast {K s' j : Nat} {i v : Int32} (hg : Gd x) (hd : decode (xY x).2.1 pc = .ok (.castore, 1)) (h0 : dom (K, s', j)) (hO : isO K = false) (ht : aTy K = 1) (hi : vp_in i (aLen K)) (k : V x (wI τ (K, s', j) i.toNatClampNeg (vp_nar .char v)) n (pc + 1) al r) : V x τ n pc al (.inl (.int v) :: .inl (.int i) :: .inr (K, s', j) :: r) := by
  obtain ⟨l, G, p, e, s, m, args, below, meth, c, y, Φ⟩ := x
  have hG : Gok G := hg.2.2.2.2.2.2.2.2.1
  obtain ⟨hx, hb, -⟩ := hg
  intro H locs ls hW hS hL
  have hc := celA_at hW h0 hO
  simp only [celA, ht] at hc
  refine W.cast hx hb hc ((hW.1.2 1 _ rfl).1 (aLen K) (fun i => .int (τ.1 (K, s', j) i))) (fun q => by cases q) (by show ¬ (i < 0 ∨ (arrV _ _ _).slots.size ≤ _); rw [arrV_size]; exact hi) rfl rfl hd fun H1 e z oq => ?_
  refine k H1 _ ls (hW.put hG h0 rfl (fun a h => upM_nef h) (fun _ _ => rfl) ?_ z oq) (hS.put z oq (hG.2.1 _ h0)) hL
  simp only [cel, hO, Bool.false_eq_true, if_false, celA, ht]
  show H1[_]? = some (vp_cell _ _)
  rw [e, vp_cell_i, vp_cell_i, arrV_store]
  congr 2
  funext q
  by_cases hq : q = i.toNatClampNeg
  · subst hq; simp [updV, upM, vp_nar, narrow]
  · simp [updV, upM, hq]
theorem s_last {K s' j : Nat} {i : Int32} {v : Int64} (hg : Gd x) (hd : decode (xY x).2.1 pc = .ok (.lastore, 1)) (h0 : dom (K, s', j)) (hO : isO K = false) (ht : aTy K = 2) (hi : vp_in i (aLen K)) (k : V x (wL τ (K, s', j) i.toNatClampNeg v) n (pc + 1) al r) : V x τ n pc al (.inl (.long v) :: .inl (.int i) :: .inr (K, s', j) :: r) := by
  obtain ⟨l, G, p, e, s, m, args, below, meth, c, y, Φ⟩ := x
  have hG : Gok G := hg.2.2.2.2.2.2.2.2.1
  obtain ⟨hx, hb, -⟩ := hg
  intro H locs ls hW hS hL
  have hc := celA_at hW h0 hO
  simp only [celA, ht] at hc
  refine W.last hx hb hc ((hW.1.2 2 _ rfl).1 (aLen K) (fun i => .long (τ.2.1 (K, s', j) i))) (fun q => by cases q) (by show ¬ (i < 0 ∨ (arrV _ _ _).slots.size ≤ _); rw [arrV_size]; exact hi) rfl rfl hd fun H1 e z oq => ?_
  refine k H1 _ ls (hW.put hG h0 rfl (fun _ _ => rfl) (fun a h => upL_nef h) ?_ z oq) (hS.put z oq (hG.2.1 _ h0)) hL
  simp only [cel, hO, Bool.false_eq_true, if_false, celA, ht]
  show H1[_]? = some (vp_cell _ _)
  rw [e, vp_cell_l, vp_cell_l, arrV_store]
  congr 2
  funext q
  by_cases hq : q = i.toNatClampNeg
  · subst hq; simp [updV, upL]
  · simp [updV, upL, hq]
theorem s_dast {K s' j : Nat} {i : Int32} {v : UInt64} (hg : Gd x) (hd : decode (xY x).2.1 pc = .ok (.dastore, 1)) (h0 : dom (K, s', j)) (hO : isO K = false) (ht : aTy K = 3) (hi : vp_in i (aLen K)) (k : V x (wL τ (K, s', j) i.toNatClampNeg v.toInt64) n (pc + 1) al r) : V x τ n pc al (.inl (.double v) :: .inl (.int i) :: .inr (K, s', j) :: r) := by
  obtain ⟨l, G, p, e, s, m, args, below, meth, c, y, Φ⟩ := x
  have hG : Gok G := hg.2.2.2.2.2.2.2.2.1
  obtain ⟨hx, hb, -⟩ := hg
  intro H locs ls hW hS hL
  have hc := celA_at hW h0 hO
  simp only [celA, ht] at hc
  refine W.dast hx hb hc ((hW.1.2 3 _ rfl).1 (aLen K) (fun i => .double (τ.2.1 (K, s', j) i).toUInt64)) (fun q => by cases q) (by show ¬ (i < 0 ∨ (arrV _ _ _).slots.size ≤ _); rw [arrV_size]; exact hi) rfl rfl hd fun H1 e z oq => ?_
  refine k H1 _ ls (hW.put hG h0 rfl (fun _ _ => rfl) (fun a h => upL_nef h) ?_ z oq) (hS.put z oq (hG.2.1 _ h0)) hL
  simp only [cel, hO, Bool.false_eq_true, if_false, celA, ht]
  show H1[_]? = some (vp_cell _ _)
  rw [e, vp_cell_d, vp_cell_d, arrV_store]
  congr 2
  funext q
  by_cases hq : q = i.toNatClampNeg
  · subst hq; simp [updV, upL]
  · simp [updV, upL, hq]
/-- an item into its shop's row -/
theorem s_astI {s' j t : Nat} {i : Int32} (hg : Gd x) (hd : decode (xY x).2.1 pc = .ok (.aastore, 1)) (h0 : dom (10, s', t)) (h1 : dom (5, s', j)) (hi : vp_in i 10) (k : V x (wI τ (10, s', t) i.toNatClampNeg (nI j)) n (pc + 1) al r) : V x τ n pc al (.inr (5, s', j) :: .inl (.int i) :: .inr (10, s', t) :: r) := by
  obtain ⟨l, G, p, e, s, m, args, below, meth, c, y, Φ⟩ := x
  have hG : Gok G := hg.2.2.2.2.2.2.2.2.1
  obtain ⟨hx, hb, -⟩ := hg
  intro H locs ls hW hS hL
  have hc : H[G.2.1 (10, s', t)]? = some (vp_cell (G.2.2.2.1 4) (10, .inr (.inr (.inr (.inr (fun i => (elR τ 10 s' t i).map G.2.1)))))) := celA_at hW h0 rfl
  have hi' : ¬ i < 0 := fun q => hi (Or.inl q)
  have hlt : i.toNatClampNeg < 10 := Nat.not_le.mp fun q => hi (Or.inr q)
  obtain ⟨rr, r1, cellV, g1, g2, g3, -⟩ := hW.2.1 _ h1
  have hr : rr = (RX6, TX6, 8) := Option.some.inj (r1.symm.trans rfl)
  subst hr
  have hcls := (hW.1.1 8 _ rfl).2
  obtain ⟨kA, comp, k1, k2, k3, -⟩ := (hW.1.2 4 _ rfl).2
  have hcomp : comp = G.1.1 8 := Option.some.inj (k3.symm.trans hcls.1)
  subst hcomp
  obtain ⟨kC, hkC, -⟩ := hcls.2
  refine W.aast hx hb hc (fun q h => by cases h) (fun h => by cases h) k1 k2 rfl hkC ⟨hi', by show _ < (arrV _ _ _).slots.size; rw [arrV_size]; exact hlt⟩ g1 (fun q h => by rw [g3] at h; cases h) (by rw [g2]; exact hkC) (by rw [g2]; exact va_assign hcls) rfl rfl hd fun H1 e z oq => ?_
  refine k H1 _ ls (hW.put hG h0 rfl (fun a h => upM_nef h) (fun _ _ => rfl) ?_ z oq) (hS.put z oq (hG.2.1 _ h0)) hL
  show H1[_]? = some (vp_cell (G.2.2.2.1 4) (10, .inr (.inr (.inr (.inr (fun i => (elR _ 10 s' t i).map G.2.1))))))
  rw [e, vp_cell_q, vp_cell_q, arrV_store]
  have hj : j < 10 := h1.2
  have hcl : (nI j).toNatClampNeg = j := nI_clamp (Nat.lt_of_lt_of_le hj (by decide))
  have hu : ∀ q, t = 0 → elR (wI τ (10, s', 0) i.toNatClampNeg (nI j)) 10 s' 0 q = if q = i.toNatClampNeg then some (5, s', j) else elR τ 10 s' 0 q := by
    intro q _
    unfold elR
    by_cases hq : q = i.toNatClampNeg
    · subst hq; simp [upM, hcl]
    · simp [upM, hq]
  have ht : t = 0 := by have := h0.2; simp only [dJ] at this; omega
  subst ht
  congr 2
  funext q
  by_cases hq : q = i.toNatClampNeg
  · subst hq; rw [hu _ rfl]; simp [updV, va_rf]
  · rw [hu _ rfl]; simp [updV, hq]
end VROWS2
