/-! ===== the start: what the statement gives ===== -/
def nwL : List Cond := flatC (Jvm.Cond.and given_1 narrow_1)
theorem va_eqr {args : Array Value} {s : State} {t u : Term} {a : Nat} (h : (Cond.eq t u).before args s = true) (hu : u.eval args s none [] s = some (.ref a)) : t.eval args s none [] s = some (.ref a) := by
  cases hv : t.eval args s none [] s with
  | none => simp [Cond.before, Cond.holds, Cond.value, hv] at h
  | some w =>
    simp only [Cond.before, Cond.holds, Cond.value, hv, hu] at h
    cases w <;> simp_all
theorem ex_of {args : Array Value} {s : State} {t : Term} {nm : String} {A : Nat → Prop} (h : (Cond.exactly t nm).before args s = true) (hA : ∀ a : Nat, a < s.heap.size → ¬ A a) : ∃ a : Nat, t.eval args s none [] s = some (.ref a) ∧ va_O nm a A s s.heap := by
  obtain ⟨a, c, cA, kA, q1, q2, q3, q4, q5, q6, -⟩ := Cond.exactly_spec (args := args) (first := s) (o := none) (s := s) (idx := []) (t := t) (cls := nm) h
  exact ⟨a, q1, va_Oof h q1 hA⟩
/-- the elements of an array, as the statement lists them from one place on -/
def elOK (base : Nat) (tm : Term) (f : Nat → Int32) (n : Nat) : Bool := (List.range n).all (fun j => decide (nwL[base + j]? = some (Cond.eq (.elem tm (.int (Int32.ofNat j))) (.int (f j)))))
section ST
variable {b : Nat} {s : State}
theorem nw_at (h : (Jvm.Cond.and given_1 narrow_1).before #[Value.ref b] s = true) (i : Nat) {c : Cond} (hc : nwL[i]? = some c) : c.before #[Value.ref b] s = true := flat_of_before _ h c (List.mem_of_getElem? hc)
theorem el_of (h : (Jvm.Cond.and given_1 narrow_1).before #[Value.ref b] s = true) {base n : Nat} {tm : Term} {f : Nat → Int32} (hc : elOK base tm f n = true) : ∀ j : Nat, j < n → (Term.elem tm (.int (Int32.ofNat j))).eval #[Value.ref b] s none [] s = some (.int (f j)) := fun j hj =>
  va_eqt (nw_at h (base + j) (of_decide_eq_true (List.all_eq_true.mp hc j (List.mem_range.mpr hj))))
/-- a text that the class names -/
def StrF (A : Nat → Prop) (a v n : Nat) (f : Nat → Int32) (U : State) (H : Heap) : Prop := va_O "java/lang/String" a A U H ∧ va_OF "java/lang/String" "coder" "B" (.int 0) a A U H ∧ va_OF "java/lang/String" "value" "[B" (.ref v) a A U H ∧ va_T .byte v n (fun j => .int (f j)) A U H
abbrev vlT (fm : Term) : Term := .field fm "java/lang/String" "value" "[B"
theorem str_of (h : (Jvm.Cond.and given_1 narrow_1).before #[Value.ref b] s = true) {A : Nat → Prop} (hA : ∀ a : Nat, a < s.heap.size → ¬ A a) {fm : Term} {n : Nat} {f : Nat → Int32} (i : Nat) (hn : n < 2 ^ 31) (h1 : nwL[i]? = some (.exactly fm "java/lang/String") ∧ nwL[i + 1]? = some (.eq (.field fm "java/lang/String" "coder" "B") (.int 0)) ∧ nwL[i + 2]? = some (.arrayOf (vlT fm) .byte) ∧ nwL[i + 3]? = some (.eq (.length (vlT fm)) (.int (Int32.ofNat n)))) (h2 : elOK (i + 4) (vlT fm) f n = true) :
    ∃ a v : Nat, fm.eval #[Value.ref b] s none [] s = some (.ref a) ∧ StrF A a v n f s s.heap := by
  obtain ⟨g1, g2, g3, g4⟩ := h1
  obtain ⟨a, e1, e2⟩ := ex_of (nw_at h _ g1) hA
  obtain ⟨v, e3, e4⟩ := va_Tof (A := A) hn (nw_at h _ g3) (va_eqt (nw_at h _ g4)) (el_of h h2) hA
  exact ⟨a, v, e1, e2, vk_OFof e1 (va_eqt (nw_at h _ g2)) hA, vk_OFof e1 e3 hA, e4⟩
/-- a command's constant -/
theorem cmd_of (h : (Jvm.Cond.and given_1 narrow_1).before #[Value.ref b] s = true) {A : Nat → Prop} (hA : ∀ a : Nat, a < s.heap.size → ¬ A a) {tm fm : Term} {k n : Nat} {f : Nat → Int32} (i0 i : Nat) (hn : n < 2 ^ 31) (h0 : nwL[i0]? = some (.exactly tm RX3) ∧ nwL[i0 + 1]? = some (.eq (.field tm "java/lang/Enum" "ordinal" "I") (.int (nI k))) ∧ nwL[i0 + 2]? = some (.eq (.field tm RX3 "form" "Ljava/lang/String;") fm))
    (h1 : nwL[i]? = some (.exactly fm "java/lang/String") ∧ nwL[i + 1]? = some (.eq (.field fm "java/lang/String" "coder" "B") (.int 0)) ∧ nwL[i + 2]? = some (.arrayOf (vlT fm) .byte) ∧ nwL[i + 3]? = some (.eq (.length (vlT fm)) (.int (Int32.ofNat n)))) (h2 : elOK (i + 4) (vlT fm) f n = true) :
    ∃ c a v : Nat, tm.eval #[Value.ref b] s none [] s = some (.ref c) ∧ (va_O RX3 c A s s.heap ∧ va_OF "java/lang/Enum" "ordinal" "I" (.int (nI k)) c A s s.heap ∧ va_OF RX3 "form" "Ljava/lang/String;" (.ref a) c A s s.heap) ∧ StrF A a v n f s s.heap := by
  obtain ⟨g1, g2, g3⟩ := h0
  obtain ⟨a, v, e1, e2⟩ := str_of h hA i hn h1 h2
  obtain ⟨c, e3, e4⟩ := ex_of (nw_at h _ g1) hA
  exact ⟨c, a, v, e3, ⟨e4, vk_OFof e3 (va_eqt (nw_at h _ g2)) hA, vk_OFof e3 (va_eqr (nw_at h _ g3) e1) hA⟩, e2⟩
def cmT : Nat → Term
  | 0 => .static "MinutePawnshop$Command" "PLEDGE" "LMinutePawnshop$Command;"
  | 1 => .static "MinutePawnshop$Command" "REDEEM" "LMinutePawnshop$Command;"
  | 2 => .static "MinutePawnshop$Command" "EXTEND" "LMinutePawnshop$Command;"
  | 3 => .static "MinutePawnshop$Command" "DAYS" "LMinutePawnshop$Command;"
  | 4 => .static "MinutePawnshop$Command" "PRICE" "LMinutePawnshop$Command;"
  | 5 => .static "MinutePawnshop$Command" "RATE" "LMinutePawnshop$Command;"
  | 6 => .static "MinutePawnshop$Command" "BID" "LMinutePawnshop$Command;"
  | 7 => .static "MinutePawnshop$Command" "SELL" "LMinutePawnshop$Command;"
  | _ => .static "MinutePawnshop$Command" "EVENING" "LMinutePawnshop$Command;"
def fmT : Nat → Term
  | 0 => .string "MinutePawnshop$Command" 55
  | 1 => .string "MinutePawnshop$Command" 61
  | 2 => .string "MinutePawnshop$Command" 64
  | 3 => .string "MinutePawnshop$Command" 67
  | 4 => .string "MinutePawnshop$Command" 70
  | 5 => .string "MinutePawnshop$Command" 73
  | 6 => .string "MinutePawnshop$Command" 76
  | 7 => .string "MinutePawnshop$Command" 79
  | _ => .string "MinutePawnshop$Command" 82
theorem cmd_all (h : (Jvm.Cond.and given_1 narrow_1).before #[Value.ref b] s = true) {A : Nat → Prop} (hA : ∀ a : Nat, a < s.heap.size → ¬ A a) : ∀ k : Nat, ∃ q : Nat × Nat × Nat, k < 9 → (cmT k).eval #[Value.ref b] s none [] s = some (.ref q.1) ∧ (va_O RX3 q.1 A s s.heap ∧ va_OF "java/lang/Enum" "ordinal" "I" (.int (nI k)) q.1 A s s.heap ∧ va_OF RX3 "form" "Ljava/lang/String;" (.ref q.2.1) q.1 A s s.heap) ∧ StrF A q.2.1 q.2.2 (fmL k).length (fun j => nI ((fmL k).getD j 0)) s s.heap := by
  intro k
  by_cases hk : 9 ≤ k
  · exact ⟨(0, 0, 0), fun z => absurd z (by omega)⟩
  rcases (by omega : k = 0 ∨ k = 1 ∨ k = 2 ∨ k = 3 ∨ k = 4 ∨ k = 5 ∨ k = 6 ∨ k = 7 ∨ k = 8) with rfl | rfl | rfl | rfl | rfl | rfl | rfl | rfl | rfl
  · obtain ⟨c, a, v, e1, e2, e3⟩ := cmd_of h hA (tm := cmT 0) (fm := fmT 0) (k := 0) (n := (fmL 0).length) (f := fun j => nI ((fmL 0).getD j 0)) 243 1390 (by decide) ⟨by decide +kernel, by decide +kernel, by decide +kernel⟩ ⟨by decide +kernel, by decide +kernel, by decide +kernel, by decide +kernel⟩ (by decide +kernel)
    exact ⟨(c, a, v), fun _ => ⟨e1, e2, e3⟩⟩
  · obtain ⟨c, a, v, e1, e2, e3⟩ := cmd_of h hA (tm := cmT 1) (fm := fmT 1) (k := 1) (n := (fmL 1).length) (f := fun j => nI ((fmL 1).getD j 0)) 246 1406 (by decide) ⟨by decide +kernel, by decide +kernel, by decide +kernel⟩ ⟨by decide +kernel, by decide +kernel, by decide +kernel, by decide +kernel⟩ (by decide +kernel)
    exact ⟨(c, a, v), fun _ => ⟨e1, e2, e3⟩⟩
  · obtain ⟨c, a, v, e1, e2, e3⟩ := cmd_of h hA (tm := cmT 2) (fm := fmT 2) (k := 2) (n := (fmL 2).length) (f := fun j => nI ((fmL 2).getD j 0)) 250 1418 (by decide) ⟨by decide +kernel, by decide +kernel, by decide +kernel⟩ ⟨by decide +kernel, by decide +kernel, by decide +kernel, by decide +kernel⟩ (by decide +kernel)
    exact ⟨(c, a, v), fun _ => ⟨e1, e2, e3⟩⟩
  · obtain ⟨c, a, v, e1, e2, e3⟩ := cmd_of h hA (tm := cmT 3) (fm := fmT 3) (k := 3) (n := (fmL 3).length) (f := fun j => nI ((fmL 3).getD j 0)) 255 1432 (by decide) ⟨by decide +kernel, by decide +kernel, by decide +kernel⟩ ⟨by decide +kernel, by decide +kernel, by decide +kernel, by decide +kernel⟩ (by decide +kernel)
    exact ⟨(c, a, v), fun _ => ⟨e1, e2, e3⟩⟩
  · obtain ⟨c, a, v, e1, e2, e3⟩ := cmd_of h hA (tm := cmT 4) (fm := fmT 4) (k := 4) (n := (fmL 4).length) (f := fun j => nI ((fmL 4).getD j 0)) 261 1442 (by decide) ⟨by decide +kernel, by decide +kernel, by decide +kernel⟩ ⟨by decide +kernel, by decide +kernel, by decide +kernel, by decide +kernel⟩ (by decide +kernel)
    exact ⟨(c, a, v), fun _ => ⟨e1, e2, e3⟩⟩
  · obtain ⟨c, a, v, e1, e2, e3⟩ := cmd_of h hA (tm := cmT 5) (fm := fmT 5) (k := 5) (n := (fmL 5).length) (f := fun j => nI ((fmL 5).getD j 0)) 268 1453 (by decide) ⟨by decide +kernel, by decide +kernel, by decide +kernel⟩ ⟨by decide +kernel, by decide +kernel, by decide +kernel, by decide +kernel⟩ (by decide +kernel)
    exact ⟨(c, a, v), fun _ => ⟨e1, e2, e3⟩⟩
  · obtain ⟨c, a, v, e1, e2, e3⟩ := cmd_of h hA (tm := cmT 6) (fm := fmT 6) (k := 6) (n := (fmL 6).length) (f := fun j => nI ((fmL 6).getD j 0)) 276 1465 (by decide) ⟨by decide +kernel, by decide +kernel, by decide +kernel⟩ ⟨by decide +kernel, by decide +kernel, by decide +kernel, by decide +kernel⟩ (by decide +kernel)
    exact ⟨(c, a, v), fun _ => ⟨e1, e2, e3⟩⟩
  · obtain ⟨c, a, v, e1, e2, e3⟩ := cmd_of h hA (tm := cmT 7) (fm := fmT 7) (k := 7) (n := (fmL 7).length) (f := fun j => nI ((fmL 7).getD j 0)) 285 1478 (by decide) ⟨by decide +kernel, by decide +kernel, by decide +kernel⟩ ⟨by decide +kernel, by decide +kernel, by decide +kernel, by decide +kernel⟩ (by decide +kernel)
    exact ⟨(c, a, v), fun _ => ⟨e1, e2, e3⟩⟩
  · obtain ⟨c, a, v, e1, e2, e3⟩ := cmd_of h hA (tm := cmT 8) (fm := fmT 8) (k := 8) (n := (fmL 8).length) (f := fun j => nI ((fmL 8).getD j 0)) 295 1488 (by decide) ⟨by decide +kernel, by decide +kernel, by decide +kernel⟩ ⟨by decide +kernel, by decide +kernel, by decide +kernel, by decide +kernel⟩ (by decide +kernel)
    exact ⟨(c, a, v), fun _ => ⟨e1, e2, e3⟩⟩
def slK : Nat → Nat
  | 0 => 293
  | 1 => 311
  | _ => 313
def slX : Nat → String
  | 0 => "min"
  | 1 => " by "
  | _ => " lot"
def slT : Nat → List Nat
  | 0 => [109, 105, 110]
  | 1 => [32, 98, 121, 32]
  | _ => [32, 108, 111, 116]
theorem sls_all (h : (Jvm.Cond.and given_1 narrow_1).before #[Value.ref b] s = true) (hts : ∀ w ∈ lw_tbl, w.before #[Value.ref b] s = true) {A : Nat → Prop} (hA : ∀ a : Nat, a < s.heap.size → ¬ A a) : ∀ k : Nat, ∃ q : Nat × Nat, k < 3 → vk_R RX10 (slK k) (slX k) q.1 s ∧ StrF A q.1 q.2 (slT k).length (fun j => nI ((slT k).getD j 0)) s s.heap := by
  intro k
  by_cases hk : 3 ≤ k
  · exact ⟨(0, 0), fun z => absurd z (by omega)⟩
  rcases (by omega : k = 0 ∨ k = 1 ∨ k = 2) with rfl | rfl | rfl
  · obtain ⟨a, v, e1, e2⟩ := str_of h hA (fm := .string "MinutePawnshop" 293) (n := (slT 0).length) (f := fun j => nI ((slT 0).getD j 0)) 1168 (by decide) ⟨by decide +kernel, by decide +kernel, by decide +kernel, by decide +kernel⟩ (by decide +kernel)
    exact ⟨(a, v), fun _ => ⟨vk_R.of (hts _ (List.mem_of_getElem? (i := 1427) (by decide +kernel))) e1, e2⟩⟩
  · obtain ⟨a, v, e1, e2⟩ := str_of h hA (fm := .string "MinutePawnshop" 311) (n := (slT 1).length) (f := fun j => nI ((slT 1).getD j 0)) 1183 (by decide) ⟨by decide +kernel, by decide +kernel, by decide +kernel, by decide +kernel⟩ (by decide +kernel)
    exact ⟨(a, v), fun _ => ⟨vk_R.of (hts _ (List.mem_of_getElem? (i := 1438) (by decide +kernel))) e1, e2⟩⟩
  · obtain ⟨a, v, e1, e2⟩ := str_of h hA (fm := .string "MinutePawnshop" 313) (n := (slT 2).length) (f := fun j => nI ((slT 2).getD j 0)) 1175 (by decide) ⟨by decide +kernel, by decide +kernel, by decide +kernel, by decide +kernel⟩ (by decide +kernel)
    exact ⟨(a, v), fun _ => ⟨vk_R.of (hts _ (List.mem_of_getElem? (i := 1433) (by decide +kernel))) e1, e2⟩⟩
theorem thr_ok : thrS.all (fun q => decide (Cond.stringRef q.1 q.2.1 q.2.2 ∈ lw_tbl) && decide (Cond.exactly (.string q.1 q.2.1) "java/lang/String" ∈ nwL)) = true := by decide +kernel
theorem thr_all (h : (Jvm.Cond.and given_1 narrow_1).before #[Value.ref b] s = true) (hts : ∀ w ∈ lw_tbl, w.before #[Value.ref b] s = true) : ∀ q ∈ thrS, ∃ a, vk_R q.1 q.2.1 q.2.2 a s := by
  intro q hq
  have h1 := List.all_eq_true.mp thr_ok q hq
  simp only [Bool.and_eq_true, decide_eq_true_eq] at h1
  obtain ⟨a, e1, -⟩ := ex_of (A := fun a => s.heap.size ≤ a) (flat_of_before _ h _ h1.2) (fun a h1 h2 => absurd h1 (Nat.not_lt.mpr h2))
  exact ⟨a, vk_R.of (hts _ h1.1) e1⟩
theorem nc_ok : exc6.all (fun a => exc6.all (fun b => a == b || decide (Cond.not (.castable a b) ∈ nwL))) = true := by decide +kernel
theorem nc_all (h : (Jvm.Cond.and given_1 narrow_1).before #[Value.ref b] s = true) : ∀ a ∈ exc6, ∀ b ∈ exc6, a ≠ b → va_Nc a b s := by
  intro x hx y hy hne
  have h1 := List.all_eq_true.mp (List.all_eq_true.mp nc_ok x hx) y hy
  simp only [Bool.or_eq_true, beq_iff_eq, decide_eq_true_eq] at h1
  exact va_Nc.of (flat_of_before _ h _ (h1.resolve_left hne))
theorem tab_ok : ngW.all (fun w => decide (w ∈ lw_tbl) && w.onTables) = true ∧ nestW.all (fun w => decide (w ∈ lw_tbl) && w.onTables) = true ∧ arW.all (fun w => decide (w ∈ lw_tbl)) = true := by decide +kernel
theorem zr_ok : [Cond.laysStatic Bundle.tN "UNASSIGNED_STACK" Bundle.steD, Cond.laysStatic Bundle.tN "SUPPRESSED_SENTINEL" Bundle.listD, Cond.initialized Bundle.tN, Cond.laysStatic "jdk/internal/util/Preconditions" "SIOOBE_FORMATTER" "Ljava/util/function/BiFunction;", Cond.initialized "jdk/internal/util/Preconditions", Cond.laysStatic "java/lang/String" "COMPACT_STRINGS" "Z", Cond.initialized "java/lang/String", Cond.laysStatic RX7 "KINDS" "[LMinutePawnshop$Command;", Cond.initialized RX7, Cond.laysStatic "MinutePawnshop$1" "$SwitchMap$MinutePawnshop$Command" "[I", Cond.initialized "MinutePawnshop$1", Cond.laysStatic "java/lang/Integer" "DigitOnes" "[B", Cond.laysStatic "java/lang/Integer" "DigitTens" "[B", Cond.initialized "java/lang/Integer"].all (fun w => decide (w ∈ lw_tbl)) = true := by decide +kernel
theorem zn_ok : [Cond.isRef (.static Bundle.tN "UNASSIGNED_STACK" Bundle.steD), Cond.isRef (.static Bundle.tN "SUPPRESSED_SENTINEL" Bundle.listD), Cond.isRef (.static "jdk/internal/util/Preconditions" "SIOOBE_FORMATTER" "Ljava/util/function/BiFunction;"), Cond.eq (.static "java/lang/String" "COMPACT_STRINGS" "Z") (.int 1)].all (fun w => decide (w ∈ nwL)) = true := by decide +kernel
theorem kinds_el : (List.range 9).all (fun j => decide (nwL[222 + j]? = some (Cond.eq (.elem (.static "MinutePawnshop$Program" "KINDS" "[LMinutePawnshop$Command;") (.int (Int32.ofNat j))) (cmT j)))) = true := by decide +kernel
theorem kinds_all (h : (Jvm.Cond.and given_1 narrow_1).before #[Value.ref b] s = true) {A : Nat → Prop} (hA : ∀ a : Nat, a < s.heap.size → ¬ A a) {c : Nat → Nat} (hc : ∀ k, k < 9 → (cmT k).eval #[Value.ref b] s none [] s = some (.ref (c k))) : ∃ t : Nat, (Term.static "MinutePawnshop$Program" "KINDS" "[LMinutePawnshop$Command;").eval #[Value.ref b] s none [] s = some (.ref t) ∧ va_T (.object RX3) t 9 (fun j => .ref (c j)) A s s.heap :=
  va_Tof (by decide) (nw_at h 219 (by decide +kernel)) (va_eqt (nw_at h 220 (by decide +kernel))) (fun j hj => va_eqr (nw_at h (222 + j) (of_decide_eq_true (List.all_eq_true.mp kinds_el j (List.mem_range.mpr hj)))) (hc j hj)) hA
theorem map_all (h : (Jvm.Cond.and given_1 narrow_1).before #[Value.ref b] s = true) {A : Nat → Prop} (hA : ∀ a : Nat, a < s.heap.size → ¬ A a) : ∃ t : Nat, (Term.static "MinutePawnshop$1" "$SwitchMap$MinutePawnshop$Command" "[I").eval #[Value.ref b] s none [] s = some (.ref t) ∧ va_T .int t 9 (fun j => .int (nI (j + 1))) A s s.heap :=
  va_Tof (by decide) (nw_at h 232 (by decide +kernel)) (va_eqt (nw_at h 233 (by decide +kernel))) (el_of h (f := fun j => nI (j + 1)) (base := 234) (by decide +kernel)) hA
theorem ones_all (h : (Jvm.Cond.and given_1 narrow_1).before #[Value.ref b] s = true) {A : Nat → Prop} (hA : ∀ a : Nat, a < s.heap.size → ¬ A a) : ∃ t : Nat, (Term.static "java/lang/Integer" "DigitOnes" "[B").eval #[Value.ref b] s none [] s = some (.ref t) ∧ va_T .byte t 100 (fun j => .int (nI (48 + j % 10))) A s s.heap :=
  va_Tof (by decide) (nw_at h 12 (by decide +kernel)) (va_eqt (nw_at h 13 (by decide +kernel))) (el_of h (f := fun j => nI (48 + j % 10)) (base := 14) (by decide +kernel)) hA
theorem tens_all (h : (Jvm.Cond.and given_1 narrow_1).before #[Value.ref b] s = true) {A : Nat → Prop} (hA : ∀ a : Nat, a < s.heap.size → ¬ A a) : ∃ t : Nat, (Term.static "java/lang/Integer" "DigitTens" "[B").eval #[Value.ref b] s none [] s = some (.ref t) ∧ va_T .byte t 100 (fun j => .int (nI (48 + j / 10))) A s s.heap :=
  va_Tof (by decide) (nw_at h 115 (by decide +kernel)) (va_eqt (nw_at h 116 (by decide +kernel))) (el_of h (f := fun j => nI (48 + j / 10)) (base := 117) (by decide +kernel)) hA
end ST
