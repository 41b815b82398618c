/-! ===== names, memory, world ===== -/
abbrev Nm : Type := Nat × Nat × Nat
abbrev AV : Type := Value ⊕ Nm
abbrev Al : Type := List (Nat × AV)
abbrev Sb : Type := Nat × Nat × Nat × (Nat → Nat)
abbrev Mem : Type := (Nm → Nat → Int32) × (Nm → Nat → Int64) × Sb
abbrev GG : Type := va_G × (Nm → Nat) × Nat × (Nat → ClassId) × (State → Heap → Prop)
abbrev MI : Type := MethodName × ByteArray × Nat × Option FieldType × Nat × Nat
abbrev AOut : Type := Option AV ⊕ String
abbrev Cx : Type := Launch × GG × Program × Env × State × MethodId × Array Value × List Frame × Method × Code × MI × (AOut → Mem → Prop)
abbrev Ex : Type := Nat × Nat × Nat × Nat × Nat × Nat
abbrev Op3 : Type := Nat × Instr × Nat × Ex × Int32
def TBg : List Cond := lw_tbl.filter goodWord
theorem TBg_good : GoodIn TBg TBg := fun w h => ⟨h, good_of_word (List.mem_filter.mp h).2⟩
theorem TBg_at {w : Cond} (i : Nat) (h : (decide (lw_tbl[i]? = some w) && goodWord w) = true) : w ∈ TBg := by
  simp only [Bool.and_eq_true, decide_eq_true_eq] at h
  exact List.mem_filter.mpr ⟨List.mem_of_getElem? h.1, h.2⟩
def conc (G : GG) : AV → Value
  | .inl v => v
  | .inr nm => .ref (G.2.1 nm)
def acat : AV → Nat
  | .inl (.int _) => 1
  | .inl (.long _) => 2
  | .inl (.float _) => 1
  | .inl (.double _) => 2
  | .inl .null => 1
  | .inl (.ref _) => 1
  | .inl (.retAddr _) => 1
  | .inr _ => 1
theorem acat_conc (G : GG) (v : AV) : (conc G v).category = acat v := by
  rcases v with v | v
  · cases v <;> rfl
  · rfl
def AA (G : GG) : Nat → Prop := fun q => G.2.2.1 ≤ q
/-- objects: their place in vwCl; arrays have none -/
def oCi : Nat → Nat
  | 1 => 12 | 2 => 11 | 3 => 5 | 4 => 4 | 5 => 8 | 6 => 10 | 7 => 6 | 8 => 7 | 9 => 9 | 30 => 13 | _ => 99
def oN : Nat → Nat
  | 1 => 10 | 2 => 6 | 3 => 2 | 4 => 9 | 5 => 8 | 6 => 6 | 7 => 5 | 8 => 3 | 9 => 6 | 30 => 22 | _ => 0
/-- (0, ..): an int; (1, ..): a long; (2, K, ds, dj): the cell (K, s + ds, j + dj) -/
def fT : Nat → Nat → Nat × Nat × Nat × Nat
  | 1, 0 => (2, 2, 0, 0)
  | 1, 1 => (2, 2, 1, 0)
  | 1, 3 => (2, 8, 0, 0)
  | 1, 4 => (2, 6, 0, 0)
  | 1, 5 => (2, 7, 0, 0)
  | 1, 6 => (2, 9, 0, 0)
  | 1, 7 => (2, 50, 0, 0)
  | 2, 0 => (2, 3, 0, 0)
  | 2, 1 => (2, 4, 0, 0)
  | 2, 4 => (2, 10, 0, 0)
  | 3, 1 => (2, 11, 0, 0)
  | 4, 5 => (1, 0, 0, 0)
  | 5, 7 => (2, 12, 0, 0)
  | 6, 0 => (2, 13, 0, 0)
  | 6, 1 => (2, 14, 0, 0)
  | 6, 3 => (2, 15, 0, 0)
  | 6, 4 => (2, 16, 0, 0)
  | 6, 5 => (2, 17, 0, 0)
  | 7, 0 => (2, 18, 0, 0)
  | 7, 1 => (2, 20, 0, 0)
  | 7, 2 => (2, 22, 0, 0)
  | 7, 3 => (2, 24, 0, 0)
  | 8, 0 => (2, 25, 0, 0)
  | 9, 0 => (2, 26, 0, 0)
  | 9, 2 => (2, 27, 0, 0)
  | 9, 3 => (2, 28, 0, 0)
  | 30, 5 => (2, 31, 0, 0)
  | 30, 6 => (2, 32, 0, 0)
  | 30, 7 => (2, 33, 0, 0)
  | 30, 8 => (2, 34, 0, 0)
  | 30, 9 => (2, 35, 0, 0)
  | 30, 10 => (2, 36, 0, 0)
  | 30, 11 => (2, 37, 0, 0)
  | 30, 12 => (2, 38, 0, 0)
  | 30, 13 => (2, 39, 0, 0)
  | 30, 14 => (2, 40, 0, 0)
  | 30, 15 => (2, 41, 0, 0)
  | _, _ => (0, 0, 0, 0)
/-- arrays: their length, and what they hold: 0 int, 1 char, 2 long, 3 double, 4 Item, 5 Command, 6 Shop, 7 int[] -/
def aLen : Nat → Nat
  | 10 => 10 | 11 => 7 | 12 => 5 | 13 => 10 | 14 => 10 | 15 => 1024 | 16 => 1024 | 17 => 2401 | 18 => 10 | 19 => 5 | 20 => 11 | 21 => 32 | 22 => 11 | 23 => 5 | 24 => 10 | 25 => 9
  | 26 => 60 | 27 => 9 | 28 => 9 | 29 => 3 | 31 => 136 | 32 => 136 | 33 => 136 | 34 => 1088 | 35 => 352 | 36 => 10 | 37 => 60 | 38 => 80 | 39 => 9 | 40 => 53 | 41 => 10 | 42 => 1 | 43 => 1 | _ => 0
def aTy : Nat → Nat
  | 10 => 4 | 11 => 0 | 12 => 0 | 13 => 0 | 14 => 0 | 15 => 0 | 16 => 0 | 17 => 0 | 18 => 7 | 19 => 0 | 20 => 7 | 21 => 0 | 22 => 7 | 23 => 0 | 24 => 0 | 25 => 6 | 26 => 1 | 27 => 5 | 28 => 7 | 29 => 0 | 31 => 0 | 32 => 0 | 33 => 0 | 34 => 0 | 35 => 0 | 36 => 0 | 37 => 0 | 38 => 0 | 39 => 0 | 40 => 0 | 41 => 0 | 42 => 2 | 43 => 3 | _ => 0
def isO : Nat → Bool
  | 1 => true | 2 => true | 3 => true | 4 => true | 5 => true | 6 => true | 7 => true | 8 => true | 9 => true | 30 => true | 10 => false | 11 => false | 12 => false | 13 => false | 14 => false | 15 => false | 16 => false | 17 => false | 18 => false | 19 => false | 20 => false | 21 => false | 22 => false | 23 => false | 24 => false | 25 => false | 26 => false | 27 => false | 28 => false | 29 => false | 31 => false | 32 => false | 33 => false | 34 => false | 35 => false | 36 => false | 37 => false | 38 => false | 39 => false | 40 => false | 41 => false | 42 => false | 43 => false | _ => false
def dS : Nat → Nat
  | 2 => 11 | 3 => 11 | 4 => 11 | 5 => 11 | 10 => 11 | 11 => 11 | 12 => 11
  | 1 => 1 | 6 => 1 | 7 => 1 | 8 => 1 | 9 => 1 | 13 => 1 | 14 => 1 | 15 => 1 | 16 => 1 | 17 => 1 | 18 => 1 | 19 => 1 | 20 => 1 | 21 => 1 | 22 => 1 | 23 => 1 | 24 => 1 | 25 => 1 | 26 => 1 | 27 => 1 | 28 => 1 | 29 => 1
  | 30 => 1 | 31 => 1 | 32 => 1 | 33 => 1 | 34 => 1 | 35 => 1 | 36 => 1 | 37 => 1 | 38 => 1 | 39 => 1 | 40 => 1 | 41 => 1 | 42 => 1 | 43 => 1 | _ => 0
def dJ : Nat → Nat
  | 1 => 1 | 2 => 1 | 3 => 1 | 4 => 1 | 5 => 10 | 6 => 1 | 7 => 1 | 8 => 1 | 9 => 1 | 30 => 1 | 10 => 1 | 11 => 1 | 12 => 10 | 13 => 1 | 14 => 1 | 15 => 1 | 16 => 1 | 17 => 1 | 18 => 1 | 19 => 10 | 20 => 1 | 21 => 11 | 22 => 1 | 23 => 11 | 24 => 1 | 25 => 1 | 26 => 1 | 27 => 1 | 28 => 1 | 29 => 9 | 31 => 1 | 32 => 1 | 33 => 1 | 34 => 1 | 35 => 1 | 36 => 1 | 37 => 1 | 38 => 1 | 39 => 1 | 40 => 1 | 41 => 1 | 42 => 1 | 43 => 1 | _ => 1
def dom (nm : Nm) : Prop := nm.2.1 < dS nm.1 ∧ nm.2.2 < dJ nm.1
def fAV (τ : Mem) (K s j k : Nat) : AV := match fT K k with
  | (0, _) => .inl (.int (τ.1 (K, s, j) k))
  | (1, _) => .inl (.long (τ.2.1 (K, s, j) k))
  | (_, K2, ds, dj) => .inr (K2, s + ds, j + dj)
/-- what an array of references holds at a place; the items stand in an order that the memory keeps, a command's number is one more than its constant's -/
def elR (τ : Mem) (K s j i : Nat) : Option Nm := match K with
  | 10 => some (5, s, (τ.1 (10, s, j) i).toNatClampNeg)
  | 18 => some (19, 0, i)
  | 20 => some (21, 0, i)
  | 22 => some (23, 0, i)
  | 25 => some (2, i + 2, 0)
  | 27 => if τ.1 (27, s, j) i = 0 then none else some (60, (τ.1 (27, s, j) i).toNatClampNeg - 1, 0)
  | 28 => some (29, 0, i)
  | _ => none
def celO (G : GG) (τ : Mem) (nm : Nm) : List Value := (List.range (oN nm.1)).map (fun k => conc G (fAV τ nm.1 nm.2.1 nm.2.2 k))
def celA (G : GG) (τ : Mem) (nm : Nm) : vp_A := (aLen nm.1, match aTy nm.1 with
  | 0 => .inl (τ.1 nm)
  | 1 => .inl (τ.1 nm)
  | 2 => .inr (.inl (τ.2.1 nm))
  | 3 => .inr (.inr (.inr (.inl (fun i => (τ.2.1 nm i).toUInt64))))
  | _ => .inr (.inr (.inr (.inr (fun i => (elR τ nm.1 nm.2.1 nm.2.2 i).map G.2.1)))))
def cel (G : GG) (τ : Mem) (nm : Nm) : va_E := if isO nm.1 = true then .inr (oCi nm.1, celO G τ nm) else .inl (G.2.2.2.1 (aTy nm.1), celA G τ nm)
def tysG (G : GG) : List (ClassId × FieldType) := [(G.2.2.2.1 0, .int), (G.2.2.2.1 1, .char), (G.2.2.2.1 2, .long), (G.2.2.2.1 3, .double), (G.2.2.2.1 4, .object RX6), (G.2.2.2.1 5, .object RX3), (G.2.2.2.1 6, .object RX9), (G.2.2.2.1 7, .array .int), (G.2.2.2.1 8, .byte)]
/-- the slip: its object, its bytes -/
def SbW (G : GG) (τ : Mem) (H : Heap) : Prop := ∃ (ml : Int32) (a : Nat → Int32), va_at G.1 vwCl (G.2.1 (50, 0, 0), .inr (1, [.ref τ.2.2.1, .int 0, .int ml, .int (nI τ.2.2.2.2.1)])) H ∧ va_at G.1 vwCl (τ.2.2.1, .inl (G.2.2.2.1 8, τ.2.2.2.1, .inl a)) H ∧
  sb_Lat τ.2.2.2.2.2 τ.2.2.2.1 a ∧ sb_Fit a ∧ τ.2.2.2.2.1 ≤ τ.2.2.2.1 ∧ τ.2.2.2.1 ≤ 200 ∧ AA G τ.2.2.1 ∧ τ.2.2.1 ≠ G.2.1 (50, 0, 0) ∧ ∀ nm, dom nm → G.2.1 nm ≠ τ.2.2.1
def World (G : GG) (τ : Mem) (U : State) (H : Heap) : Prop := va_K G.1 vwCl (tysG G) U ∧ (∀ nm, dom nm → va_at G.1 vwCl (G.2.1 nm, cel G τ nm) H) ∧ SbW G τ H ∧ G.2.2.2.2 U H ∧ G.2.2.1 ≤ H.size
/-- .. what of it lies in the heap -/
def WH (G : GG) (τ : Mem) (H : Heap) : Prop := (∀ nm, dom nm → va_at G.1 vwCl (G.2.1 nm, cel G τ nm) H) ∧ SbW G τ H ∧ G.2.2.1 ≤ H.size
theorem World.wh {G : GG} {τ : Mem} {U : State} {H : Heap} (h : World G τ U H) : WH G τ H := ⟨h.2.1, h.2.2.1, h.2.2.2.2⟩
/-- the strings that the class throws with -/
def thrS : List (String × Nat × String) := [("MinutePawnshop$Shop", 82, "customer, minutes or term out of range"), ("MinutePawnshop$Shop", 87, "no room for a pledge"), ("MinutePawnshop$Shop", 95, "too few coins for the loan"), ("MinutePawnshop$Shop", 70, "no such pledge"), ("MinutePawnshop$Shop", 132, "days out of range"), ("MinutePawnshop$Shop", 154, "price out of range"), ("MinutePawnshop$Calendar", 33, "weekday or rate out of range"), ("MinutePawnshop", 107, "no such weekday"), ("MinutePawnshop", 139, "no pledge at this position"), ("MinutePawnshop$Shop", 61, "no such pledge or lot"), ("MinutePawnshop", 171, "no such place"), ("MinutePawnshop", 182, "days out of range"), ("MinutePawnshop", 201, "customer or coins out of range"), ("java/util/Arrays", 48, "fromIndex("), ("java/util/Arrays", 57, ") > toIndex("), ("java/util/Arrays", 59, ")"), ("java/util/Arrays", 337, " > "), ("java/lang/ArrayIndexOutOfBoundsException", 13, "Array index out of range: "), ("MinutePawnshop", 203, "no such customer"), ("MinutePawnshop", 208, "no pledges"), ("MinutePawnshop$Shop", 72, "no such lot"), ("MinutePawnshop$Shop", 166, "bidder or bid out of range"), ("MinutePawnshop$Shop", 171, "no bid is as high as the loan"), ("MinutePawnshop$Shop", 185, "no lot can be sold"), ("MinutePawnshop", 220, "no lot at this position"), ("MinutePawnshop", 225, "no such bidder"), ("MinutePawnshop", 233, "no bid is as high as the loan"), ("MinutePawnshop", 254, "the lot would not be sold"), ("java/lang/StringIndexOutOfBoundsException", 13, "String index out of range: "), ("MinutePawnshop", 293, "min"), ("MinutePawnshop", 313, " lot"), ("MinutePawnshop", 311, " by "), ("MinutePawnshop", 315, "no such character"), ("MinutePawnshop", 321, "character out of range"), ("MinutePawnshop", 327, "the buffer is full"), ("MinutePawnshop", 343, "malformed program"), ("MinutePawnshop", 363, "a command failed"), ("MinutePawnshop", 381, "no program was malformed"), ("MinutePawnshop", 383, "no command failed"), ("MinutePawnshop", 388, "nothing can be undone"), ("MinutePawnshop", 396, "no snapshot"), ("MinutePawnshop$Command", 55, "pledge # * *"), ("MinutePawnshop$Command", 61, "redeem *"), ("MinutePawnshop$Command", 64, "extend * *"), ("MinutePawnshop$Command", 67, "days *"), ("MinutePawnshop$Command", 70, "price #"), ("MinutePawnshop$Command", 73, "rate # #"), ("MinutePawnshop$Command", 76, "bid * # *"), ("MinutePawnshop$Command", 79, "sell *"), ("MinutePawnshop$Command", 82, "evening")]
/-- the words of the throws that are no good words -/
def ngW : List Cond := [.declares (Bundle.initS "java/lang/RuntimeException"), .declares (Bundle.initS "java/lang/Exception"), .declares (Bundle.initS Bundle.tN)] ++ ["java/lang/IllegalArgumentException", "java/lang/IllegalStateException", "java/lang/UnsupportedOperationException", "java/util/NoSuchElementException", "java/lang/IndexOutOfBoundsException", "java/lang/ArithmeticException"].map (fun E => .castable E E)
/-- what is known of the names and of the facts that stay -/
def Gok (G : GG) : Prop := (∀ nm nm', dom nm → dom nm' → G.2.1 nm = G.2.1 nm' → nm = nm') ∧ (∀ nm, dom nm → AA G (G.2.1 nm)) ∧ (∀ nm, dom nm → G.2.1 nm ≠ G.2.1 (50, 0, 0)) ∧ AA G (G.2.1 (50, 0, 0)) ∧
  (∀ u U H, u.WarmedH U.vm → G.2.2.2.2 u H → G.2.2.2.2 U H) ∧ (∀ U H H1, (∀ q : Nat, q < H.size → ¬ AA G q → H1[q]? = H[q]?) → H.size ≤ H1.size → G.2.2.2.2 U H → G.2.2.2.2 U H1) ∧
  (∀ U H, G.2.2.2.2 U H → vx_Zq Bundle.tN "UNASSIGNED_STACK" Bundle.steD (AA G) U H ∧ vx_Zq Bundle.tN "SUPPRESSED_SENTINEL" Bundle.listD (AA G) U H) ∧
  (∀ U H, G.2.2.2.2 U H → ∀ q ∈ thrS, ∃ a, vk_R q.1 q.2.1 q.2.2 a U) ∧ (∀ U H, G.2.2.2.2 U H → ∀ w ∈ ngW, w.before #[] U = true)
def rmI (y : MI) : Room := { frames := y.2.2.2.2.2 + 8, cells := y.2.2.2.2.1, slots := 10 * y.2.2.2.2.1, locals := 40 * y.2.2.2.2.2 + 300 }
def Qn (G : GG) (Φ : AOut → Mem → Prop) : Array Value → State → Outcome → State → Prop := fun _ st oc t => (∃ (v : Option AV) (τ : Mem), oc = .returned (v.map (conc G)) ∧ Φ (.inl v) τ ∧ WH G τ t.heap) ∧ va_F (AA G) st t
def Xn (G : GG) (Φ : AOut → Mem → Prop) : String → State → State → Prop := fun E st t => (∃ τ : Mem, Φ (.inr E) τ ∧ WH G τ t.heap) ∧ va_F (AA G) st t
/-- a method's contract: from the memory τ with the arguments as it comes to some outcome with Φ -/
def Sat (l : Launch) (G : GG) (y : MI) (as : List AV) (τ : Mem) (Φ : AOut → Mem → Prop) : Prop :=
  vx_Met l y.1 (Cond.code y.1 y.2.1 y.2.2.1 y.2.2.2.1 :: TBg) (rmI y) (va_Pc (as.map (conc G)) (fun U => World G τ U U.heap)) (Qn G Φ) (Xn G Φ) y.2.2.2.2.1 (10 * y.2.2.2.2.1) (AA G)
def Lh (G : GG) (ls : Array Slot) (nL : Nat) (al : Al) : Prop := lv_has ls nL (al.map (fun q => (q.1, conc G q.2)))
/-- the machine at pc, with the memory τ, n units made so far, the locals al, the stack st, comes to the method's end -/
def V (x : Cx) (τ : Mem) (n pc : Nat) (al : Al) (st : List AV) : Prop := match x with
  | (l, G, p, e, s, m, args, below, meth, c, y, Φ) => ∀ (H : Heap) (locs : List Loc) (ls : Array Slot), World G τ s H → va_S (AA G) s.heap H locs → Lh G ls y.2.2.1 al →
    W p l e (rmI y) s m args below meth c H locs n (10 * n) (vx_MQ below (Qn G Φ) (Xn G Φ) args s y.2.2.2.2.1 (10 * y.2.2.2.2.1) (AA G)) (F0 m pc ls (st.map (conc G)))
def Gd (x : Cx) : Prop := match x with
  | (l, G, p, _, s, m, args, _, meth, c, y, _) => p.tables.exec = Jvm.exec ∧ c.code = y.2.1 ∧ s.vm.findClass y.1.cls = some m.cls ∧ (∀ w ∈ TBg, w.before args s = true) ∧ c.maxLocals = y.2.2.1 ∧ meth.locks = false ∧ meth.sig.returnType = y.2.2.2.1 ∧ l.stackTraces = false ∧ Gok G ∧ G.2.2.2.2 s s.heap
abbrev xY (x : Cx) : MI := x.2.2.2.2.2.2.2.2.2.2.1
abbrev xC (x : Cx) : Code := x.2.2.2.2.2.2.2.2.2.1
abbrev xP (x : Cx) : AOut → Mem → Prop := x.2.2.2.2.2.2.2.2.2.2.2
/-! ===== locals ===== -/
def lk : Al → Nat → Option AV
  | [], _ => none
  | (j, v) :: t, i => if j = i then some v else lk t i
def lbad (j : Nat) (w : AV) (i : Nat) (v : AV) : Bool := (j == i) || (((j + 1 == i) && (acat w == 2)) || ((j == i + 1) && (acat v == 2)))
def ldel : Al → Nat → AV → Al
  | [], _, _ => []
  | (j, w) :: t, i, v => match lbad j w i v with
    | true => ldel t i v
    | false => (j, w) :: ldel t i v
def lput : Al → Nat → AV → Al
  | [], i, v => [(i, v)]
  | (j, w) :: t, i, v => match j == i with
    | true => (i, v) :: ldel t i v
    | false => match lbad j w i v with
      | true => lput t i v
      | false => (j, w) :: lput t i v
theorem lk_mem : ∀ {al : Al} {i : Nat} {v : AV}, lk al i = some v → (i, v) ∈ al
  | [], i, v, h => by simp [lk] at h
  | (j, w) :: t, i, v, h => by
    unfold lk at h
    split at h
    · rename_i e; cases h; subst e; exact List.mem_cons_self
    · exact List.mem_cons_of_mem _ (lk_mem h)
theorem ldel_mem : ∀ {al : Al} {i : Nat} {v : AV} {q : Nat × AV}, q ∈ ldel al i v → q ∈ al ∧ lbad q.1 q.2 i v = false
  | [], i, v, q, h => by simp [ldel] at h
  | (j, w) :: t, i, v, q, h => by
    unfold ldel at h
    cases hb : lbad j w i v with
    | true =>
      rw [hb] at h
      obtain ⟨h1, h2⟩ := ldel_mem h; exact ⟨List.mem_cons_of_mem _ h1, h2⟩
    | false =>
      rw [hb] at h
      rcases List.mem_cons.mp h with rfl | h
      · exact ⟨List.mem_cons_self, hb⟩
      · obtain ⟨h1, h2⟩ := ldel_mem h; exact ⟨List.mem_cons_of_mem _ h1, h2⟩
theorem lput_mem : ∀ {al : Al} {i : Nat} {v : AV} {q : Nat × AV}, q ∈ lput al i v → q = (i, v) ∨ (q ∈ al ∧ lbad q.1 q.2 i v = false)
  | [], i, v, q, h => Or.inl (by simpa [lput] using h)
  | (j, w) :: t, i, v, q, h => by
    unfold lput at h
    cases hji : j == i with
    | true =>
      rw [hji] at h
      rcases List.mem_cons.mp h with h | h
      · exact Or.inl h
      · obtain ⟨h1, h2⟩ := ldel_mem h; exact Or.inr ⟨List.mem_cons_of_mem _ h1, h2⟩
    | false =>
      rw [hji] at h
      cases hb : lbad j w i v with
      | true =>
        rw [hb] at h
        rcases lput_mem h with h | ⟨h1, h2⟩
        · exact Or.inl h
        · exact Or.inr ⟨List.mem_cons_of_mem _ h1, h2⟩
      | false =>
        rw [hb] at h
        rcases List.mem_cons.mp h with rfl | h
        · exact Or.inr ⟨List.mem_cons_self, hb⟩
        · rcases lput_mem h with h | ⟨h1, h2⟩
          · exact Or.inl h
          · exact Or.inr ⟨List.mem_cons_of_mem _ h1, h2⟩
theorem Lh.at {G : GG} {ls : Array Slot} {nL : Nat} {al : Al} (h : Lh G ls nL al) {i : Nat} {v : AV} (hv : lk al i = some v) : ls[i]? = some (.val (conc G v)) :=
  h.2.2 (i, conc G v) (List.mem_map.mpr ⟨(i, v), lk_mem hv, rfl⟩)
/-- what a store of a value of one slot leaves -/
theorem Lh.put1 {G : GG} {ls' : Array Slot} {nL i : Nat} {al : Al} {v : AV} (hc : acat v = 1) {w : Value} (hw : w = conc G v) (h : lv_has ls' nL ((i, w) :: (al.map (fun q => (q.1, conc G q.2))).filter (fun q => !(q.1 == i) && !(q.1 + 1 == i && q.2.category == 2)))) : Lh G ls' nL (lput al i v) := by
  subst hw
  refine ⟨h.1, h.2.1, fun q hq => ?_⟩
  obtain ⟨⟨j, u⟩, hm, rfl⟩ := List.mem_map.mp hq
  rcases lput_mem hm with h1 | ⟨h1, h2⟩
  · cases h1
    exact h.2.2 _ List.mem_cons_self
  · refine h.2.2 _ (List.mem_cons_of_mem _ (List.mem_filter.mpr ⟨List.mem_map.mpr ⟨_, h1, rfl⟩, ?_⟩))
    simp only [lbad, Bool.or_eq_false_iff, Bool.and_eq_false_iff, beq_eq_false_iff_ne] at h2
    simp only [acat_conc, Bool.and_eq_true, Bool.not_eq_true', beq_eq_false_iff_ne, Bool.and_eq_false_iff]
    exact ⟨h2.1, h2.2.1⟩
theorem Lh.put2 {G : GG} {ls' : Array Slot} {nL i : Nat} {al : Al} {v : AV} (hc : acat v = 2) {w : Value} (hw : w = conc G v) (h : lv_has ls' nL ((i, w) :: (al.map (fun q => (q.1, conc G q.2))).filter (fun q => !(q.1 == i) && (!(q.1 == i + 1) && !(q.1 + 1 == i && q.2.category == 2))))) : Lh G ls' nL (lput al i v) := by
  subst hw
  refine ⟨h.1, h.2.1, fun q hq => ?_⟩
  obtain ⟨⟨j, u⟩, hm, rfl⟩ := List.mem_map.mp hq
  rcases lput_mem hm with h1 | ⟨h1, h2⟩
  · cases h1
    exact h.2.2 _ List.mem_cons_self
  · refine h.2.2 _ (List.mem_cons_of_mem _ (List.mem_filter.mpr ⟨List.mem_map.mpr ⟨_, h1, rfl⟩, ?_⟩))
    simp only [lbad, Bool.or_eq_false_iff, Bool.and_eq_false_iff, beq_eq_false_iff_ne, hc] at h2
    simp only [acat_conc, Bool.and_eq_true, Bool.not_eq_true', beq_eq_false_iff_ne, Bool.and_eq_false_iff]
    exact ⟨h2.1, h2.2.2.elim id (fun q => absurd rfl q), h2.2.1⟩
/-- fewer known locals, in any order -/
theorem Lh.sub {G : GG} {ls : Array Slot} {nL : Nat} {al al' : Al} (h : Lh G ls nL al) (hs : ∀ q ∈ al', lk al q.1 = some q.2) : Lh G ls nL al' := by
  refine ⟨h.1, h.2.1, fun q hq => ?_⟩
  obtain ⟨q0, hm, rfl⟩ := List.mem_map.mp hq
  exact h.at (hs q0 hm)
theorem V.sub {x : Cx} {τ : Mem} {n pc : Nat} {al al' : Al} {st : List AV} (k : V x τ n pc al' st) (hs : ∀ q ∈ al', lk al q.1 = some q.2) : V x τ n pc al st := by
  obtain ⟨l, G, p, e, s, m, args, below, meth, c, y, Φ⟩ := x
  exact fun H locs ls hW hS hL => k H locs ls hW hS (hL.sub hs)
theorem V.widen {x : Cx} {τ : Mem} {n n' pc : Nat} {al : Al} {st : List AV} (h : n ≤ n') (k : V x τ n' pc al st) : V x τ n pc al st := by
  obtain ⟨l, G, p, e, s, m, args, below, meth, c, y, Φ⟩ := x
  exact fun H locs ls hW hS hL => W.widen h (Nat.mul_le_mul_left _ h) (k H locs ls hW hS hL)
/-- a call site: the entry idx of own, of the method z of the objects of kind K -/
def CV (own : String) (idx : Nat) (z : MI) (K : Nat) : Prop := ∃ (T : u_T) (N : Nat), vwCl[oCi K]? = some (z.1.cls, T, N) ∧ isO K = true ∧ Cond.methodLink own idx z.1 ∈ TBg ∧ Cond.instanceMethod z.1 ∈ TBg ∧ Cond.selects z.1.cls z.1 z.1 ∈ TBg ∧ Cond.initialized z.1.cls ∈ TBg ∧ Cond.code z.1 z.2.1 z.2.2.1 z.2.2.2.1 ∈ TBg ∧
  z.1.cls ≠ "java/lang/invoke/MethodHandle" ∧ z.1.cls ≠ "java/lang/invoke/VarHandle"
def CS (own : String) (idx : Nat) (z : MI) : Prop := Cond.methodLink own idx z.1 ∈ TBg ∧ Cond.static z.1 ∈ TBg ∧ Cond.initialized z.1.cls ∈ TBg ∧ Cond.code z.1 z.2.1 z.2.2.1 z.2.2.2.1 ∈ TBg ∧ z.1.cls ≠ "java/lang/invoke/MethodHandle" ∧ z.1.cls ≠ "java/lang/invoke/VarHandle"
def npar (z : MI) (n : Nat) : Prop := (parseMethodDescriptor z.1.desc).map (fun d => d.parameters.length) = some n
/-- throw new E("text") at the entries ik, is, ic of own -/
def rte : List String := ["java/lang/RuntimeException", "java/lang/Exception"]
def TH (own : String) (ik is ic : Nat) (E text : String) : Prop := ∃ (ix : Nat) (rx : ByteArray), (decode rx 0 = .ok (.aload_n 0, 1) ∧ decode rx 1 = .ok (.aload_n 1, 1) ∧ decode rx 2 = .ok (.invokespecial ix, 3) ∧ decode rx 5 = .ok (.return_, 1)) ∧
  Bundle.fit E = true ∧ Cond.classLink own ik E ∈ TBg ∧ Cond.initialized E ∈ TBg ∧ (own, is, text) ∈ thrS ∧ (∀ w ∈ (vz_at own ic E ix rx rte).filter goodWord, w ∈ lw_tbl) ∧ (∀ w ∈ (vz_at own ic E ix rx rte).filter (fun w => !goodWord w), w ∈ ngW) ∧ (∀ w ∈ vz_at own ic E ix rx rte, vx_ot w = true)
