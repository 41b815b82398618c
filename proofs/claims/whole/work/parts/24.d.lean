/-! ===== the start: the context ===== -/
def XP (s0 : State) (U : State) (H : Heap) : Prop := s0.WarmedH U.vm ∧ s0.heap.size ≤ H.size ∧ ∀ q : Nat, q < s0.heap.size → H[q]? = s0.heap[q]?
section XPS
variable {s0 u U : State} {H H1 : Heap}
theorem XP.rf : XP s0 s0 s0.heap := ⟨State.WarmedH.refl s0, Nat.le_refl _, fun _ _ => rfl⟩
theorem XP.warm (h : XP s0 u H) (hW : u.WarmedH U.vm) : XP s0 U H := ⟨State.WarmedH.trans h.1 hW, h.2⟩
theorem XP.grow (h : XP s0 U H) (hq : ∀ q : Nat, q < H.size → ¬ s0.heap.size ≤ q → H1[q]? = H[q]?) (hz : H.size ≤ H1.size) : XP s0 U H1 :=
  ⟨h.1, Nat.le_trans h.2.1 hz, fun q z => (hq q (Nat.lt_of_lt_of_le z h.2.1) (Nat.not_le.mpr z)).trans (h.2.2 q z)⟩
theorem XP.q (h : XP s0 U H) : ∀ a : Nat, a < s0.heap.size → ¬ s0.heap.size ≤ a → H[a]? = s0.heap[a]? := fun a z _ => h.2.2 a z
theorem XP.Z {C n d : String} {v : Value} (h : XP s0 U H) (k : va_Z C n d v (fun q => s0.heap.size ≤ q) s0 s0.heap) : va_Z C n d v (fun q => s0.heap.size ≤ q) U H := (k.moved h.1.alike).kept h.q
theorem XP.Zq {C n d : String} (h : XP s0 U H) (k : va_Zq C n d (fun q => s0.heap.size ≤ q) s0 s0.heap) : va_Zq C n d (fun q => s0.heap.size ≤ q) U H := (k.moved h.1.alike).kept h.q
theorem XP.Zx {C n d : String} (h : XP s0 U H) (k : vx_Zq C n d (fun q => s0.heap.size ≤ q) s0 s0.heap) : vx_Zq C n d (fun q => s0.heap.size ≤ q) U H := (k.moved h.1.alike).kept h.q
theorem XP.T {ty : FieldType} {t N : Nat} {f : Nat → Value} (h : XP s0 U H) (k : va_T ty t N f (fun q => s0.heap.size ≤ q) s0 s0.heap) : va_T ty t N f (fun q => s0.heap.size ≤ q) U H := (k.moved h.1.alike).kept h.q
theorem XP.O {E : String} {t : Nat} (h : XP s0 U H) (k : va_O E t (fun q => s0.heap.size ≤ q) s0 s0.heap) : va_O E t (fun q => s0.heap.size ≤ q) U H := (k.moved h.1.alike).kept h.q
theorem XP.OF {o n d : String} {v : Value} {t : Nat} (h : XP s0 U H) (k : va_OF o n d v t (fun q => s0.heap.size ≤ q) s0 s0.heap) : va_OF o n d v t (fun q => s0.heap.size ≤ q) U H := (k.moved h.1.alike).kept h.q
theorem XP.S {a v n : Nat} {f : Nat → Int32} (h : XP s0 U H) (k : StrF (fun q => s0.heap.size ≤ q) a v n f s0 s0.heap) : StrF (fun q => s0.heap.size ≤ q) a v n f U H := ⟨h.O k.1, h.OF k.2.1, h.OF k.2.2.1, h.T k.2.2.2⟩
end XPS
/-- what the slip's methods read -/
def SlF (G : GG) : Prop := ∀ U H, G.2.2.2.2 U H → (va_Z "java/lang/Integer" "DigitOnes" "[B" (.ref (G.2.1 (67, 0, 0))) (AA G) U H ∧ va_T .byte (G.2.1 (67, 0, 0)) 100 (fun j => .int (nI (48 + j % 10))) (AA G) U H) ∧
  (va_Z "java/lang/Integer" "DigitTens" "[B" (.ref (G.2.1 (68, 0, 0))) (AA G) U H ∧ va_T .byte (G.2.1 (68, 0, 0)) 100 (fun j => .int (nI (48 + j / 10))) (AA G) U H) ∧
  (∀ k, k < 3 → vk_R RX10 (slK k) (slX k) (G.2.1 (65, k, 0)) U ∧ StrF (AA G) (G.2.1 (65, k, 0)) (G.2.1 (66, k, 0)) (slT k).length (fun j => nI ((slT k).getD j 0)) U H) ∧ ∀ z ∈ privSB, (Cond.selects RJ4 z z).before #[] U = true
section ST
variable {b : Nat} {s : State}
def tw (hts : ∀ w ∈ lw_tbl, w.before #[Value.ref b] s = true) (i : Nat) {w : Cond} (h : lw_tbl[i]? = some w) : w.before #[Value.ref b] s = true := hts w (List.mem_of_getElem? h)
theorem arC_of {args : Array Value} {ty : FieldType} (hty : ∀ C, ty ≠ .object C) (h : (Cond.arrayClass ty).before args s = true) : ∃ cA : ClassId, ArrOfT s cA ty ∧ va_RA s cA ty := by
  obtain ⟨c, k, comp, h1, h2, h3⟩ := Cond.arrayClass_spec h
  refine ⟨c, fun N z => ⟨(fun k h => by cases h), k, h2, comp, h3⟩, ?_⟩
  cases ty with
  | object C => exact absurd rfl (hty C)
  | _ => exact h1
theorem arO_of {args : Array Value} {C : String} (h : (Cond.arrayOver (.object C)).before args s = true) : ∃ cA : ClassId, ArrOfT s cA (.object C) ∧ va_RA s cA (.object C) := by
  obtain ⟨comp, c, k, h1, h2, h3, h4, h5⟩ := Cond.arrayOver_spec h
  exact ⟨c, fun N z => ⟨(fun k h => by cases h), k, h3, comp, h4⟩, k, comp, h3, h4, h1, h5⟩
theorem arA_of {args : Array Value} {t : FieldType} (h : (Cond.arrayOver (.array t)).before args s = true) : ∃ cA : ClassId, ArrOfT s cA (.array t) ∧ va_RA s cA (.array t) := by
  obtain ⟨comp, c, k, h1, h2, h3, h4, h5⟩ := Jvm.Stand.arrayOver_specB h
  exact ⟨c, fun N z => ⟨(fun k h => by cases h), k, h3, comp, h4⟩, h5⟩
theorem lays_ok : vwCl.all (fun q => (u_ws q.1 q.2.1 q.2.2).all (fun w => decide (w ∈ lw_tbl))) = true := by decide +kernel
theorem kn_all (hts : ∀ w ∈ lw_tbl, w.before #[Value.ref b] s = true) : ∀ c : Nat, ∃ q : ClassId × (Nat → Nat), ∀ r : vw_C, vwCl[c]? = some r → u_Kn s r.1 r.2.1 r.2.2 q.1 q.2 := by
  intro c
  by_cases hc : 14 ≤ c
  · exact ⟨(0, fun _ => 0), fun r hr => absurd (List.getElem?_eq_some_iff.mp hr).1 (Nat.not_lt.mpr hc)⟩
  have hin : ∀ r : vw_C, vwCl[c]? = some r → ∀ w ∈ u_ws r.1 r.2.1 r.2.2, w ∈ lw_tbl := fun r hr w hw => of_decide_eq_true (List.all_eq_true.mp (List.all_eq_true.mp lays_ok r (List.mem_of_getElem? hr)) w hw)
  rcases (by omega : c = 0 ∨ c = 1 ∨ c = 2 ∨ c = 3 ∨ c = 4 ∨ c = 5 ∨ c = 6 ∨ c = 7 ∨ c = 8 ∨ c = 9 ∨ c = 10 ∨ c = 11 ∨ c = 12 ∨ c = 13) with rfl | rfl | rfl | rfl | rfl | rfl | rfl | rfl | rfl | rfl | rfl | rfl | rfl | rfl
  · obtain ⟨cC, iS, hk⟩ := u_known (n := 4) hts (hin _ rfl) (tw hts 836 (by decide +kernel))
    exact ⟨(cC, iS), fun r hr => by cases hr; exact hk⟩
  · obtain ⟨cC, iS, hk⟩ := u_known (n := 4) hts (hin _ rfl) (tw hts 355 (by decide +kernel))
    exact ⟨(cC, iS), fun r hr => by cases hr; exact hk⟩
  · obtain ⟨cC, iS, hk⟩ := u_known (n := 6) hts (hin _ rfl) (tw hts 818 (by decide +kernel))
    exact ⟨(cC, iS), fun r hr => by cases hr; exact hk⟩
  · obtain ⟨cC, iS, hk⟩ := u_known (n := 6) hts (hin _ rfl) (tw hts 1376 (by decide +kernel))
    exact ⟨(cC, iS), fun r hr => by cases hr; exact hk⟩
  · obtain ⟨cC, iS, hk⟩ := u_known (n := 9) hts (hin _ rfl) (tw hts 131 (by decide +kernel))
    exact ⟨(cC, iS), fun r hr => by cases hr; exact hk⟩
  · obtain ⟨cC, iS, hk⟩ := u_known (n := 2) hts (hin _ rfl) (tw hts 111 (by decide +kernel))
    exact ⟨(cC, iS), fun r hr => by cases hr; exact hk⟩
  · obtain ⟨cC, iS, hk⟩ := u_known (n := 5) hts (hin _ rfl) (tw hts 297 (by decide +kernel))
    exact ⟨(cC, iS), fun r hr => by cases hr; exact hk⟩
  · obtain ⟨cC, iS, hk⟩ := u_known (n := 3) hts (hin _ rfl) (tw hts 252 (by decide +kernel))
    exact ⟨(cC, iS), fun r hr => by cases hr; exact hk⟩
  · obtain ⟨cC, iS, hk⟩ := u_known (n := 8) hts (hin _ rfl) (tw hts 173 (by decide +kernel))
    exact ⟨(cC, iS), fun r hr => by cases hr; exact hk⟩
  · obtain ⟨cC, iS, hk⟩ := u_known (n := 6) hts (hin _ rfl) (tw hts 321 (by decide +kernel))
    exact ⟨(cC, iS), fun r hr => by cases hr; exact hk⟩
  · obtain ⟨cC, iS, hk⟩ := u_known (n := 6) hts (hin _ rfl) (tw hts 272 (by decide +kernel))
    exact ⟨(cC, iS), fun r hr => by cases hr; exact hk⟩
  · obtain ⟨cC, iS, hk⟩ := u_known (n := 6) hts (hin _ rfl) (tw hts 105 (by decide +kernel))
    exact ⟨(cC, iS), fun r hr => by cases hr; exact hk⟩
  · obtain ⟨cC, iS, hk⟩ := u_known (n := 10) hts (hin _ rfl) (tw hts 97 (by decide +kernel))
    exact ⟨(cC, iS), fun r hr => by cases hr; exact hk⟩
  · obtain ⟨cC, iS, hk⟩ := u_known (n := 22) hts (hin _ rfl) (tw hts 1594 (by decide +kernel))
    exact ⟨(cC, iS), fun r hr => by cases hr; exact hk⟩
def tyL : List FieldType := [.int, .char, .long, .double, (.object RX6), (.object RX3), (.object RX9), (.array .int), .byte]
theorem ar_all (hts : ∀ w ∈ lw_tbl, w.before #[Value.ref b] s = true) : ∀ k : Nat, ∃ cA : ClassId, ∀ t : FieldType, tyL[k]? = some t → ArrOfT s cA t ∧ va_RA s cA t := by
  intro c
  by_cases hc : 9 ≤ c
  · exact ⟨0, fun r hr => absurd (List.getElem?_eq_some_iff.mp hr).1 (Nat.not_lt.mpr hc)⟩
  rcases (by omega : c = 0 ∨ c = 1 ∨ c = 2 ∨ c = 3 ∨ c = 4 ∨ c = 5 ∨ c = 6 ∨ c = 7 ∨ c = 8) with rfl | rfl | rfl | rfl | rfl | rfl | rfl | rfl | rfl
  · obtain ⟨cA, hk⟩ := arC_of (ty := .int) (fun C h => by cases h) (tw hts 129 (by decide +kernel))
    exact ⟨cA, fun r hr => by cases hr; exact hk⟩
  · obtain ⟨cA, hk⟩ := arC_of (ty := .char) (fun C h => by cases h) (tw hts 353 (by decide +kernel))
    exact ⟨cA, fun r hr => by cases hr; exact hk⟩
  · obtain ⟨cA, hk⟩ := arC_of (ty := .long) (fun C h => by cases h) (tw hts 2050 (by decide +kernel))
    exact ⟨cA, fun r hr => by cases hr; exact hk⟩
  · obtain ⟨cA, hk⟩ := arC_of (ty := .double) (fun C h => by cases h) (tw hts 2051 (by decide +kernel))
    exact ⟨cA, fun r hr => by cases hr; exact hk⟩
  · obtain ⟨cA, hk⟩ := arO_of (C := RX6) (tw hts 172 (by decide +kernel))
    exact ⟨cA, fun r hr => by cases hr; exact hk⟩
  · obtain ⟨cA, hk⟩ := arO_of (C := RX3) (tw hts 327 (by decide +kernel))
    exact ⟨cA, fun r hr => by cases hr; exact hk⟩
  · obtain ⟨cA, hk⟩ := arO_of (C := RX9) (tw hts 258 (by decide +kernel))
    exact ⟨cA, fun r hr => by cases hr; exact hk⟩
  · obtain ⟨cA, hk⟩ := arA_of (t := .int) (tw hts 303 (by decide +kernel))
    exact ⟨cA, fun r hr => by cases hr; exact hk⟩
  · obtain ⟨cA, hk⟩ := arC_of (ty := .byte) (fun C h => by cases h) (tw hts 386 (by decide +kernel))
    exact ⟨cA, fun r hr => by cases hr; exact hk⟩
theorem pv_ok : privSB.all (fun z => decide (z.cls = yJ5_isLatin1_aae02.cls) && decide (Cond.privateMethod z ∈ lw_tbl) && decide (Cond.instanceMethod z ∈ lw_tbl) && decide (Cond.selects RJ4 yJ5_isLatin1_aae02 yJ5_isLatin1_aae02 ∈ lw_tbl)) = true := by decide +kernel
theorem sel_warm {z : MethodName} {A : Array Value} {s U : State} (hW : s.WarmedH U.vm) (h : (Cond.selects RJ4 z z).before A s = true) : (Cond.selects RJ4 z z).before #[] U = true := word_at hW (Or.inl rfl) h
/-- at the law's entry: the context -/
theorem start_ctx {l : Launch} (hst : l.stackTraces = false) (h : (Jvm.Cond.and given_1 narrow_1).before #[Value.ref b] s = true) (hts : ∀ w ∈ lw_tbl, w.before #[Value.ref b] s = true) {N : Nat} {xs : Nat → Int32} (hN : N ≤ 2048) (hX : va_X b N xs s s.heap) (hb : b < s.heap.size) :
    ∃ (D : va_G) (ka : Nat → Nat → Nat) (tt : Nat → ClassId), ka 70 0 = b ∧ va_K D vwCl (tysG (GS D s.heap.size ka tt (XP s))) s ∧ CtxE l (GS D s.heap.size ka tt (XP s)) ∧ NcF (GS D s.heap.size ka tt (XP s)) ∧ NsF (GS D s.heap.size ka tt (XP s)) ∧ ArF (GS D s.heap.size ka tt (XP s)) ∧ ScF (GS D s.heap.size ka tt (XP s)) xs N ∧ SlF (GS D s.heap.size ka tt (XP s)) := by
  obtain ⟨fk, hfk⟩ := Classical.axiomOfChoice (kn_all hts)
  obtain ⟨ft, hft⟩ := Classical.axiomOfChoice (ar_all hts)
  have hA : ∀ a : Nat, a < s.heap.size → ¬ (fun q : Nat => s.heap.size ≤ q) a := fun a h1 h2 => absurd h1 (Nat.not_lt.mpr h2)
  obtain ⟨fc, hfc⟩ := Classical.axiomOfChoice (cmd_all h hA)
  obtain ⟨fs, hfs⟩ := Classical.axiomOfChoice (sls_all h hts hA)
  obtain ⟨tK, hK1, hK2⟩ := kinds_all h hA (fun k hk => (hfc k hk).1)
  obtain ⟨tM, hM1, hM2⟩ := map_all h hA
  obtain ⟨tO, hO1, hO2⟩ := ones_all h hA
  obtain ⟨tT, hT1, hT2⟩ := tens_all h hA
  have tz := fun (w : Cond) (hw : w ∈ _) => hts w (of_decide_eq_true (List.all_eq_true.mp zr_ok w hw))
  have nz := fun (w : Cond) (hw : w ∈ _) => flat_of_before _ h w (of_decide_eq_true (List.all_eq_true.mp zn_ok w hw))
  have zU := vx_Zqof (tz (Cond.laysStatic Bundle.tN "UNASSIGNED_STACK" Bundle.steD) (by simp)) (tz (Cond.initialized Bundle.tN) (by simp)) (nz (Cond.isRef (.static Bundle.tN "UNASSIGNED_STACK" Bundle.steD)) (by simp)) hA
  have zS := vx_Zqof (tz (Cond.laysStatic Bundle.tN "SUPPRESSED_SENTINEL" Bundle.listD) (by simp)) (tz (Cond.initialized Bundle.tN) (by simp)) (nz (Cond.isRef (.static Bundle.tN "SUPPRESSED_SENTINEL" Bundle.listD)) (by simp)) hA
  have zP := va_Zqof (tz (Cond.laysStatic "jdk/internal/util/Preconditions" "SIOOBE_FORMATTER" "Ljava/util/function/BiFunction;") (by simp)) (tz (Cond.initialized "jdk/internal/util/Preconditions") (by simp)) (nz (Cond.isRef (.static "jdk/internal/util/Preconditions" "SIOOBE_FORMATTER" "Ljava/util/function/BiFunction;")) (by simp)) hA
  have zC := va_Zof (tz (Cond.laysStatic "java/lang/String" "COMPACT_STRINGS" "Z") (by simp)) (tz (Cond.initialized "java/lang/String") (by simp)) (va_eqt (nz (Cond.eq (.static "java/lang/String" "COMPACT_STRINGS" "Z") (.int 1)) (by simp))) hA
  have zK := va_Zof (tz (Cond.laysStatic RX7 "KINDS" "[LMinutePawnshop$Command;") (by simp)) (tz (Cond.initialized RX7) (by simp)) hK1 hA
  have zM := va_Zof (tz (Cond.laysStatic "MinutePawnshop$1" "$SwitchMap$MinutePawnshop$Command" "[I") (by simp)) (tz (Cond.initialized "MinutePawnshop$1") (by simp)) hM1 hA
  have zO := va_Zof (tz (Cond.laysStatic "java/lang/Integer" "DigitOnes" "[B") (by simp)) (tz (Cond.initialized "java/lang/Integer") (by simp)) hO1 hA
  have zT := va_Zof (tz (Cond.laysStatic "java/lang/Integer" "DigitTens" "[B") (by simp)) (tz (Cond.initialized "java/lang/Integer") (by simp)) hT1 hA
  have htr := thr_all h hts
  have hnc := nc_all h
  have tn : ∀ w ∈ ngW, w.before #[Value.ref b] s = true ∧ w.onTables = true := fun w hw => by
    have := List.all_eq_true.mp tab_ok.1 w hw
    simp only [Bool.and_eq_true, decide_eq_true_eq] at this
    exact ⟨hts w this.1, this.2⟩
  have ts : ∀ w ∈ nestW, w.before #[Value.ref b] s = true ∧ w.onTables = true := fun w hw => by
    have := List.all_eq_true.mp tab_ok.2.1 w hw
    simp only [Bool.and_eq_true, decide_eq_true_eq] at this
    exact ⟨hts w this.1, this.2⟩
  have ta : ∀ w ∈ arW, w.before #[Value.ref b] s = true := fun w hw => hts w (of_decide_eq_true (List.all_eq_true.mp tab_ok.2.2 w hw))
  have tv : ∀ z ∈ privSB, (Cond.selects RJ4 z z).before #[Value.ref b] s = true := fun z hz => by
    have h1 := List.all_eq_true.mp pv_ok z hz
    simp only [Bool.and_eq_true, decide_eq_true_eq] at h1
    exact sel_priv (yL := yJ5_isLatin1_aae02) h1.1.1.1 ⟨by rw [h1.1.1.1]; decide +kernel, by rw [h1.1.1.1]; decide +kernel⟩ (hts _ h1.2) (hts _ h1.1.1.2) (hts _ h1.1.2)
  have wC : ∀ (U : State), s.WarmedH U.vm → ∀ E, Cond.castable E E ∈ ngW → (Cond.castable E E).before #[] U = true := fun U hW E hE => va_Nw.warmC hW (va_Nw.of (tn _ hE).2 (tn _ hE).1)
  refine ⟨(fun c => (fk c).1, fun c => (fk c).2), fun K j => match K with
    | 60 => (fc j).1
    | 61 => tK
    | 62 => (fc j).2.1
    | 63 => (fc j).2.2
    | 64 => tM
    | 65 => (fs j).1
    | 66 => (fs j).2
    | 67 => tO
    | 68 => tT
    | _ => b, ft, rfl, ⟨hfk, fun k q hq => ?_⟩, ⟨⟨⟨?_, ?_, ?_, ?_, ?_, ?_, ?_, ?_, ?_⟩, hst⟩, ?_⟩, ?_, ?_, ?_, ?_, ?_⟩
  · rcases (by have := (List.getElem?_eq_some_iff.mp hq).1; simp only [tysG, List.length_cons, List.length_nil] at this; omega : k = 0 ∨ k = 1 ∨ k = 2 ∨ k = 3 ∨ k = 4 ∨ k = 5 ∨ k = 6 ∨ k = 7 ∨ k = 8) with rfl | rfl | rfl | rfl | rfl | rfl | rfl | rfl | rfl <;> (cases hq; exact hft _ _ rfl)
  · exact fun nm nm' h1 h2 e => adN_inj h1 h2 e
  · exact fun nm h1 => (adN_lt h1).1
  · exact fun nm h1 => (adN_lt h1).2.2.1
  · exact Nat.le_add_right _ 334
  · exact fun u U H hW hx => XP.warm hx hW
  · exact fun U H H1 hq hz hx => XP.grow hx hq hz
  · exact fun U H hx => ⟨XP.Zx hx zU, XP.Zx hx zS⟩
  · exact fun U H hx q hq => by
      obtain ⟨a, ha⟩ := htr q hq
      exact ⟨a, ha.warm hx.1⟩
  · intro U H hx w hw
    simp only [ngW, List.map_cons, List.map_nil, List.cons_append, List.nil_append, List.mem_cons, List.not_mem_nil, or_false] at hw
    rcases hw with rfl | rfl | rfl | rfl | rfl | rfl | rfl | rfl | rfl
    · exact va_Nw.warmD hx.1 (va_Nw.of (tn _ (by decide +kernel)).2 (tn _ (by decide +kernel)).1)
    · exact va_Nw.warmD hx.1 (va_Nw.of (tn _ (by decide +kernel)).2 (tn _ (by decide +kernel)).1)
    · exact va_Nw.warmD hx.1 (va_Nw.of (tn _ (by decide +kernel)).2 (tn _ (by decide +kernel)).1)
    all_goals exact wC U hx.1 _ (by decide +kernel)
  · intro U H hx
    exact ⟨⟨XP.Z hx zK, XP.T hx hK2⟩, fun k hk => ⟨XP.O hx (hfc k hk).2.1.1, XP.OF hx (hfc k hk).2.1.2.1, XP.OF hx (hfc k hk).2.1.2.2⟩, fun k hk => XP.S hx (hfc k hk).2.2, ⟨XP.Z hx zM, XP.T hx hM2⟩, XP.Z hx zC, XP.Zq hx zP⟩
  · intro U H hx
    refine ⟨fun a ha c hc hne => (hnc a ha c hc hne).moved hx.1.alike, fun a ha => wC U hx.1 a ?_⟩
    simp only [exc6, List.mem_cons, List.not_mem_nil, or_false] at ha
    rcases ha with rfl | rfl | rfl | rfl | rfl | rfl <;> decide +kernel
  · intro U H hx w hw
    have hw2 := hw
    simp only [nestW, List.mem_cons, List.not_mem_nil, or_false] at hw
    rcases hw with rfl | rfl | rfl | rfl | rfl <;> exact va_Nw.warmM hx.1 (va_Nw.of (ts _ hw2).2 (ts _ hw2).1)
  · intro U H hx ty hw
    have hw2 := ta _ hw
    simp only [arW, List.mem_cons, List.not_mem_nil, or_false] at hw
    rcases hw with e | e | e | e
    · cases e; exact Cond.arrayOver_alike hx.1.alike hw2
    · cases e; exact Cond.arrayOver_alike hx.1.alike hw2
    · cases e; exact Cond.arrayOver_alike hx.1.alike hw2
    · cases e; exact Jvm.Stand.arrayOver_alikeB hx.1.alike hw2
  · intro U H hx
    obtain ⟨scr, h1, h2, h3, h4, h5⟩ := hX
    refine XP.T hx ⟨scr, h1, h2, h3, by omega, by rw [h4], fun j hj => h5 j hj, hA b hb⟩
  · intro U H hx
    exact ⟨⟨XP.Z hx zO, XP.T hx hO2⟩, ⟨XP.Z hx zT, XP.T hx hT2⟩, fun k hk => ⟨(hfs k hk).1.warm hx.1, XP.S hx (hfs k hk).2⟩, fun z hz => sel_warm hx.1 (tv z hz)⟩
end ST
