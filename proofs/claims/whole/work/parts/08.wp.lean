/-! ===== what an instruction wants, and leaves ===== -/
def vI (v : AV) (K : Int32 → Prop) : Prop := match v with
  | .inl (.int x) => K x
  | _ => False
def ldI : Al → Nat → (Int32 → Prop) → Prop
  | [], _, _ => False
  | (j, v) :: t, i, K => match j == i with
    | true => vI v K
    | false => ldI t i K
def vL (v : AV) (K : Int64 → Prop) : Prop := match v with
  | .inl (.long x) => K x
  | _ => False
def ldL : Al → Nat → (Int64 → Prop) → Prop
  | [], _, _ => False
  | (j, v) :: t, i, K => match j == i with
    | true => vL v K
    | false => ldL t i K
def vD (v : AV) (K : UInt64 → Prop) : Prop := match v with
  | .inl (.double x) => K x
  | _ => False
def ldD : Al → Nat → (UInt64 → Prop) → Prop
  | [], _, _ => False
  | (j, v) :: t, i, K => match j == i with
    | true => vD v K
    | false => ldD t i K
def ldR : Al → Nat → (AV → Prop) → Prop
  | [], _, _ => False
  | (j, v) :: t, i, K => match j == i with
    | true => isRf v = true ∧ K v
    | false => ldR t i K
def k1 (st : List AV) (K : AV → List AV → Prop) : Prop := match st with
  | v :: r => K v r
  | [] => False
def k2 (st : List AV) (K : AV → AV → List AV → Prop) : Prop := match st with
  | v :: w :: r => K v w r
  | _ => False
def kI (st : List AV) (K : Int32 → List AV → Prop) : Prop := match st with
  | .inl (.int a) :: r => K a r
  | _ => False
def kL (st : List AV) (K : Int64 → List AV → Prop) : Prop := match st with
  | .inl (.long a) :: r => K a r
  | _ => False
def kD (st : List AV) (K : UInt64 → List AV → Prop) : Prop := match st with
  | .inl (.double a) :: r => K a r
  | _ => False
def kII (st : List AV) (K : Int32 → Int32 → List AV → Prop) : Prop := match st with
  | .inl (.int b) :: .inl (.int a) :: r => K a b r
  | _ => False
def kLL (st : List AV) (K : Int64 → Int64 → List AV → Prop) : Prop := match st with
  | .inl (.long b) :: .inl (.long a) :: r => K a b r
  | _ => False
def kDD (st : List AV) (K : UInt64 → UInt64 → List AV → Prop) : Prop := match st with
  | .inl (.double b) :: .inl (.double a) :: r => K a b r
  | _ => False
def kR (st : List AV) (K : Nat → Nat → Nat → List AV → Prop) : Prop := match st with
  | .inr (t, s, j) :: r => K t s j r
  | _ => False
def kIR (st : List AV) (K : Int32 → Nat → Nat → Nat → List AV → Prop) : Prop := match st with
  | .inl (.int i) :: .inr (t, s, j) :: r => K i t s j r
  | _ => False
def kVR (st : List AV) (K : Int32 → Nat → Nat → Nat → List AV → Prop) : Prop := kIR st K
def kLR (st : List AV) (K : Int64 → Nat → Nat → Nat → List AV → Prop) : Prop := match st with
  | .inl (.long i) :: .inr (t, s, j) :: r => K i t s j r
  | _ => False
def kIIR (st : List AV) (K : Int32 → Int32 → Nat → Nat → Nat → List AV → Prop) : Prop := match st with
  | .inl (.int v) :: .inl (.int i) :: .inr (t, s, j) :: r => K v i t s j r
  | _ => False
def kLIR (st : List AV) (K : Int64 → Int32 → Nat → Nat → Nat → List AV → Prop) : Prop := match st with
  | .inl (.long v) :: .inl (.int i) :: .inr (t, s, j) :: r => K v i t s j r
  | _ => False
def kDIR (st : List AV) (K : UInt64 → Int32 → Nat → Nat → Nat → List AV → Prop) : Prop := match st with
  | .inl (.double v) :: .inl (.int i) :: .inr (t, s, j) :: r => K v i t s j r
  | _ => False
def kRIR (st : List AV) (K : Nat → Nat → Nat → Int32 → Nat → Nat → Nat → List AV → Prop) : Prop := match st with
  | .inr (t', s', j') :: .inl (.int i) :: .inr (t, s, j) :: r => K t' s' j' i t s j r
  | _ => False
def kNN (st : List AV) (Kn Ks : List AV → Prop) : Prop := match st with
  | .inl .null :: r => Kn r
  | .inr _ :: r => Ks r
  | _ => False
def kE (st : List AV) (P : Prop) : Prop := match st with
  | [] => P
  | _ => False
def br (c t f : Prop) : Prop := (c → t) ∧ (¬ c → f)
def bn (c t f : Prop) : Prop := (¬ c → t) ∧ (c → f)
/-- an int as the answer of a method of the type rt -/
def rtI (rt : Option FieldType) (v : Int32) (P : Prop) : Prop := match rt with
  | some .int => P
  | some .boolean => (v = 0 ∨ v = 1) ∧ P
  | some .char => narrow .char (.int v) = .int v ∧ P
  | _ => False
def zchk (c : Nat) (a : Int32) : Prop := match c with
  | 3 => a = 0 ∨ a = 1
  | _ => True
/-- the value of a field, by the numbers beside the instruction -/
def gfv (τ : Mem) (t s j : Nat) (e : Ex) : AV := match e.2.2.1 with
  | 0 => .inl (.int (τ.1 (t, s, j) e.2.1))
  | 1 => .inl (.long (τ.2.1 (t, s, j) e.2.1))
  | _ => .inr (e.2.2.2.1, s + e.2.2.2.2.1, j + e.2.2.2.2.2)
def wp1 (rt : Option FieldType) (nL : Nat) (Kj : Nat → Mem → Al → List AV → Prop) (Kr : Option AV → Mem → Prop) (i : Instr) (e : Ex) (v : Int32) (τ : Mem) (al : Al) (st : List AV) (Kn : Mem → Al → List AV → Prop) : Prop := match i with
  | .iload _ => ldI al e.1 (fun a => Kn τ al (.inl (.int a) :: st))
  | .iload_n _ => ldI al e.1 (fun a => Kn τ al (.inl (.int a) :: st))
  | .lload _ => ldL al e.1 (fun a => Kn τ al (.inl (.long a) :: st))
  | .lload_n _ => ldL al e.1 (fun a => Kn τ al (.inl (.long a) :: st))
  | .dload _ => ldD al e.1 (fun a => Kn τ al (.inl (.double a) :: st))
  | .dload_n _ => ldD al e.1 (fun a => Kn τ al (.inl (.double a) :: st))
  | .aload _ => ldR al e.1 (fun a => Kn τ al (a :: st))
  | .aload_n _ => ldR al e.1 (fun a => Kn τ al (a :: st))
  | .istore _ => kI st (fun a r => e.1 < nL ∧ Kn τ (lput al e.1 (.inl (.int a))) r)
  | .istore_n _ => kI st (fun a r => e.1 < nL ∧ Kn τ (lput al e.1 (.inl (.int a))) r)
  | .lstore _ => kL st (fun a r => e.1 + 1 < nL ∧ Kn τ (lput al e.1 (.inl (.long a))) r)
  | .lstore_n _ => kL st (fun a r => e.1 + 1 < nL ∧ Kn τ (lput al e.1 (.inl (.long a))) r)
  | .dstore _ => kD st (fun a r => e.1 + 1 < nL ∧ Kn τ (lput al e.1 (.inl (.double a))) r)
  | .dstore_n _ => kD st (fun a r => e.1 + 1 < nL ∧ Kn τ (lput al e.1 (.inl (.double a))) r)
  | .astore _ => k1 st (fun a r => isRf a = true ∧ e.1 < nL ∧ Kn τ (lput al e.1 a) r)
  | .astore_n _ => k1 st (fun a r => isRf a = true ∧ e.1 < nL ∧ Kn τ (lput al e.1 a) r)
  | .iinc _ _ => ldI al e.1 (fun a => e.1 < nL ∧ Kn τ (lput al e.1 (.inl (.int (a + v)))) st)
  | .iconst _ => Kn τ al (.inl (.int v) :: st)
  | .bipush _ => Kn τ al (.inl (.int v) :: st)
  | .sipush _ => Kn τ al (.inl (.int v) :: st)
  | .lconst _ => Kn τ al (.inl (.long 0) :: st)
  | .dconst _ => Kn τ al (.inl (.double FP.dconst0) :: st)
  | .aconst_null => Kn τ al (.inl .null :: st)
  | .iadd => kII st (fun a b r => Kn τ al (.inl (.int (a + b)) :: r))
  | .isub => kII st (fun a b r => Kn τ al (.inl (.int (a - b)) :: r))
  | .imul => kII st (fun a b r => Kn τ al (.inl (.int (a * b)) :: r))
  | .iand => kII st (fun a b r => Kn τ al (.inl (.int (a &&& b)) :: r))
  | .ior => kII st (fun a b r => Kn τ al (.inl (.int (a ||| b)) :: r))
  | .ishl => kII st (fun a b r => Kn τ al (.inl (.int (a <<< (b &&& 31))) :: r))
  | .ishr => kII st (fun a b r => Kn τ al (.inl (.int (a >>> (b &&& 31))) :: r))
  | .idiv => kII st (fun a b r => ¬ b = 0 ∧ Kn τ al (.inl (.int (a / b)) :: r))
  | .irem => kII st (fun a b r => ¬ b = 0 ∧ Kn τ al (.inl (.int (a - a / b * b)) :: r))
  | .ineg => kI st (fun a r => Kn τ al (.inl (.int (-a)) :: r))
  | .i2l => kI st (fun a r => Kn τ al (.inl (.long a.toInt64) :: r))
  | .i2c => kI st (fun a r => Kn τ al (.inl (.int (a.toUInt32 % 65536).toInt32) :: r))
  | .i2d => kI st (fun a r => Kn τ al (.inl (.double (FP.i2d a)) :: r))
  | .ladd => kLL st (fun a b r => Kn τ al (.inl (.long (a + b)) :: r))
  | .lcmp => kLL st (fun a b r => Kn τ al (.inl (.int (lg_cmp a b)) :: r))
  | .ddiv => kDD st (fun a b r => vf_n64 (FP.ddiv a b) ∧ Kn τ al (.inl (.double (FP.ddiv a b)) :: r))
  | .dcmp op => kDD st (fun a b r => Kn τ al (.inl (.int (Op.cmpValue (FP.dcmp a b) op)) :: r))
  | .dup => k1 st (fun a r => acat a = 1 ∧ Kn τ al (a :: a :: r))
  | .pop => k1 st (fun a r => acat a = 1 ∧ Kn τ al r)
  | .dup2 => k2 st (fun a b r => acat a = 1 ∧ acat b = 1 ∧ Kn τ al (a :: b :: a :: b :: r))
  | .dup_x1 => k2 st (fun a b r => acat a = 1 ∧ acat b = 1 ∧ Kn τ al (a :: b :: a :: r))
  | .if_icmp .eq _ => kII st (fun a b r => br (a = b) (Kj e.1 τ al r) (Kn τ al r))
  | .ifCond .eq _ => kI st (fun a r => br (a = 0) (Kj e.1 τ al r) (Kn τ al r))
  | .if_icmp .ne _ => kII st (fun a b r => bn (a = b) (Kj e.1 τ al r) (Kn τ al r))
  | .ifCond .ne _ => kI st (fun a r => bn (a = 0) (Kj e.1 τ al r) (Kn τ al r))
  | .if_icmp .lt _ => kII st (fun a b r => br (a < b) (Kj e.1 τ al r) (Kn τ al r))
  | .ifCond .lt _ => kI st (fun a r => br (a < 0) (Kj e.1 τ al r) (Kn τ al r))
  | .if_icmp .ge _ => kII st (fun a b r => br (b ≤ a) (Kj e.1 τ al r) (Kn τ al r))
  | .ifCond .ge _ => kI st (fun a r => br (0 ≤ a) (Kj e.1 τ al r) (Kn τ al r))
  | .if_icmp .gt _ => kII st (fun a b r => br (b < a) (Kj e.1 τ al r) (Kn τ al r))
  | .ifCond .gt _ => kI st (fun a r => br (0 < a) (Kj e.1 τ al r) (Kn τ al r))
  | .if_icmp .le _ => kII st (fun a b r => br (a ≤ b) (Kj e.1 τ al r) (Kn τ al r))
  | .ifCond .le _ => kI st (fun a r => br (a ≤ 0) (Kj e.1 τ al r) (Kn τ al r))
  | .goto _ => Kj e.1 τ al st
  | .ifnonnull _ => kNN st (fun r => Kn τ al r) (fun r => Kj e.1 τ al r)
  | .getfield _ => kR st (fun t s j r => t = e.1 ∧ dom (t, s, j) ∧ Kn τ al (gfv τ t s j e :: r))
  | .putfield _ => match e.2.2.1 == 1 with | true => kLR st (fun a t s j r => t = e.1 ∧ dom (t, s, j) ∧ Kn (wL τ (t, s, j) e.2.1 a) al r) | false => kIR st (fun a t s j r => t = e.1 ∧ dom (t, s, j) ∧ zchk e.2.2.1 a ∧ Kn (wI τ (t, s, j) e.2.1 a) al r)
  | .iaload => kIR st (fun i t s j r => dom (t, s, j) ∧ isO t = false ∧ aTy t = 0 ∧ vp_in i (aLen t) ∧ Kn τ al (.inl (.int (τ.1 (t, s, j) i.toNatClampNeg)) :: r))
  | .caload => kIR st (fun i t s j r => dom (t, s, j) ∧ isO t = false ∧ aTy t = 1 ∧ vp_in i (aLen t) ∧ Kn τ al (.inl (.int (τ.1 (t, s, j) i.toNatClampNeg)) :: r))
  | .laload => kIR st (fun i t s j r => dom (t, s, j) ∧ isO t = false ∧ aTy t = 2 ∧ vp_in i (aLen t) ∧ Kn τ al (.inl (.long (τ.2.1 (t, s, j) i.toNatClampNeg)) :: r))
  | .daload => kIR st (fun i t s j r => dom (t, s, j) ∧ isO t = false ∧ aTy t = 3 ∧ vp_in i (aLen t) ∧ Kn τ al (.inl (.double (τ.2.1 (t, s, j) i.toNatClampNeg).toUInt64) :: r))
  | .aaload => kIR st (fun i t s j r => dom (t, s, j) ∧ isO t = false ∧ (4 ≤ aTy t ∧ aTy t ≤ 7) ∧ vp_in i (aLen t) ∧ Kn τ al (elAV (elR τ t s j i.toNatClampNeg) :: r))
  | .arraylength => kR st (fun t s j r => dom (t, s, j) ∧ isO t = false ∧ aTy t ≤ 7 ∧ Kn τ al (.inl (.int (Int32.ofNat (aLen t))) :: r))
  | .iastore => kIIR st (fun a i t s j r => dom (t, s, j) ∧ isO t = false ∧ aTy t = 0 ∧ vp_in i (aLen t) ∧ Kn (wI τ (t, s, j) i.toNatClampNeg a) al r)
  | .castore => kIIR st (fun a i t s j r => dom (t, s, j) ∧ isO t = false ∧ aTy t = 1 ∧ vp_in i (aLen t) ∧ Kn (wI τ (t, s, j) i.toNatClampNeg (vp_nar .char a)) al r)
  | .lastore => kLIR st (fun a i t s j r => dom (t, s, j) ∧ isO t = false ∧ aTy t = 2 ∧ vp_in i (aLen t) ∧ Kn (wL τ (t, s, j) i.toNatClampNeg a) al r)
  | .dastore => kDIR st (fun a i t s j r => dom (t, s, j) ∧ isO t = false ∧ aTy t = 3 ∧ vp_in i (aLen t) ∧ Kn (wL τ (t, s, j) i.toNatClampNeg a.toInt64) al r)
  | .aastore => kRIR st (fun t9 s9 j9 i t s j r => t9 = 5 ∧ t = 10 ∧ s9 = s ∧ dom (10, s, j) ∧ dom (5, s, j9) ∧ vp_in i 10 ∧ Kn (wI τ (10, s, j) i.toNatClampNeg (nI j9)) al r)
  | .ireturn => kI st (fun a r => kE r (rtI rt a (Kr (some (.inl (.int a))) τ)))
  | .lreturn => kL st (fun a r => kE r (rt = some .long ∧ Kr (some (.inl (.long a))) τ))
  | .dreturn => kD st (fun a r => kE r (rt = some .double ∧ Kr (some (.inl (.double a))) τ))
  | .areturn => k1 st (fun a r => kE r (isRf a = true ∧ ((∃ C, rt = some (.object C)) ∨ ∃ t, rt = some (.array t)) ∧ Kr (some a) τ))
  | .return_ => kE st (rt = none ∧ Kr none τ)
  | _ => False
section WP
variable {x : Cx} {τ : Mem} {n pc : Nat} {al : Al} {st : List AV}
/-- what the method owes at an end -/
def Kre (x : Cx) (n : Nat) : Option AV → Mem → Prop := fun v τ => n ≤ (xY x).2.2.2.2.1 ∧ xP x (.inl v) τ
theorem e_ret {x : Cx} {τ : Mem} {H : Heap} {locs : List Loc} {a : Option AV} (hW : World x.2.1 τ x.2.2.2.2.1 H) (hS : va_S (AA x.2.1) x.2.2.2.2.1.heap H locs) (hk : xP x (.inl a) τ) :
    ∀ t : State, t.heap = H → Qn x.2.1 (xP x) x.2.2.2.2.2.2.1 x.2.2.2.2.1 (.returned (a.map (conc x.2.1))) t := by
  intro t ht
  exact ⟨⟨a, τ, rfl, hk, by rw [ht]; exact hW.wh⟩, hS.F ht⟩
theorem s_iret {a : Int32} {ty : FieldType} (hg : Gd x) (hd : decode (xY x).2.1 pc = .ok (.ireturn, 1)) (hr : (xY x).2.2.2.1 = some ty) (hn : narrow ty (.int a) = .int a) (hk : Kre x n (some (.inl (.int a))) τ) : V x τ n pc al [.inl (.int a)] := by
  obtain ⟨l, G, p, e, s, m, args, below, meth, c, y, Φ⟩ := x
  have hg0 := hg
  obtain ⟨hx, hb, hown, hts, hml, hlk, hret, hst, hG, -⟩ := hg
  intro H locs ls hW hS hL
  refine W.widen hk.1 (Nat.mul_le_mul_left _ hk.1) (vx_ret ?_)
  exact W.zret hx hb (hret.trans hr) hn (fun t ht hw => e_ret (x := (l, G, p, e, s, m, args, below, meth, c, y, Φ)) hW hS hk.2 t ht) hS.2.2 hd hlk
theorem s_lret {a : Int64} (hg : Gd x) (hd : decode (xY x).2.1 pc = .ok (.lreturn, 1)) (hr : (xY x).2.2.2.1 = some .long) (hk : Kre x n (some (.inl (.long a))) τ) : V x τ n pc al [.inl (.long a)] := by
  obtain ⟨l, G, p, e, s, m, args, below, meth, c, y, Φ⟩ := x
  obtain ⟨hx, hb, hown, hts, hml, hlk, hret, hst, hG, -⟩ := hg
  intro H locs ls hW hS hL
  refine W.widen hk.1 (Nat.mul_le_mul_left _ hk.1) (vx_ret ?_)
  exact W.lret hx hb (hret.trans hr) (fun t ht hw => e_ret (x := (l, G, p, e, s, m, args, below, meth, c, y, Φ)) hW hS hk.2 t ht) hS.2.2 hd hlk
theorem s_dret {a : UInt64} (hg : Gd x) (hd : decode (xY x).2.1 pc = .ok (.dreturn, 1)) (hr : (xY x).2.2.2.1 = some .double) (hk : Kre x n (some (.inl (.double a))) τ) : V x τ n pc al [.inl (.double a)] := by
  obtain ⟨l, G, p, e, s, m, args, below, meth, c, y, Φ⟩ := x
  obtain ⟨hx, hb, hown, hts, hml, hlk, hret, hst, hG, -⟩ := hg
  intro H locs ls hW hS hL
  refine W.widen hk.1 (Nat.mul_le_mul_left _ hk.1) (vx_ret ?_)
  exact W.dret hx hb (hret.trans hr) (fun t ht hw => e_ret (x := (l, G, p, e, s, m, args, below, meth, c, y, Φ)) hW hS hk.2 t ht) hS.2.2 hd hlk
theorem s_vret (hg : Gd x) (hd : decode (xY x).2.1 pc = .ok (.return_, 1)) (hr : (xY x).2.2.2.1 = none) (hk : Kre x n none τ) : V x τ n pc al [] := by
  obtain ⟨l, G, p, e, s, m, args, below, meth, c, y, Φ⟩ := x
  obtain ⟨hx, hb, hown, hts, hml, hlk, hret, hst, hG, -⟩ := hg
  intro H locs ls hW hS hL
  refine W.widen hk.1 (Nat.mul_le_mul_left _ hk.1) (vx_ret ?_)
  exact W.vret hx hb (hret.trans hr) (fun t ht hw => e_ret (x := (l, G, p, e, s, m, args, below, meth, c, y, Φ)) hW hS hk.2 t ht) hS.2.2 hd hlk
theorem s_aret {a : AV} (hg : Gd x) (hd : decode (xY x).2.1 pc = .ok (.areturn, 1)) (ha : isRf a = true) (hr : (∃ C, (xY x).2.2.2.1 = some (.object C)) ∨ ∃ t, (xY x).2.2.2.1 = some (.array t)) (hk : Kre x n (some a) τ) : V x τ n pc al [a] := by
  obtain ⟨l, G, p, e, s, m, args, below, meth, c, y, Φ⟩ := x
  obtain ⟨hx, hb, hown, hts, hml, hlk, hret, hst, hG, -⟩ := hg
  intro H locs ls hW hS hL
  refine W.widen hk.1 (Nat.mul_le_mul_left _ hk.1) (vx_ret ?_)
  have q := fun t ht (_ : s.WarmedH t.vm) => e_ret (x := (l, G, p, e, s, m, args, below, meth, c, y, Φ)) hW hS hk.2 t ht
  rcases hr with ⟨C, hr⟩ | ⟨ty, hr⟩
  · exact W.aret hx hb (hret.trans hr) (Or.inl ⟨_, rfl⟩) (isRf_conc ha) q hS.2.2 hd hlk
  · exact W.aret hx hb (hret.trans hr) (Or.inr ⟨_, rfl⟩) (isRf_conc ha) q hS.2.2 hd hlk
theorem kII_e {st : List AV} {K : Int32 → Int32 → List AV → Prop} (h : kII st K) : ∃ a b r, st = .inl (.int b) :: .inl (.int a) :: r ∧ K a b r := by
  unfold kII at h; split at h
  · exact ⟨_, _, _, rfl, h⟩
  · exact h.elim
theorem k1_e {st : List AV} {K : AV → List AV → Prop} (h : k1 st K) : ∃ v r, st = v :: r ∧ K v r := by
  unfold k1 at h; split at h
  · exact ⟨_, _, rfl, h⟩
  · exact h.elim
theorem k2_e {st : List AV} {K : AV → AV → List AV → Prop} (h : k2 st K) : ∃ v w r, st = v :: w :: r ∧ K v w r := by
  unfold k2 at h; split at h
  · exact ⟨_, _, _, rfl, h⟩
  · exact h.elim
theorem kI_e {st : List AV} {K : Int32 → List AV → Prop} (h : kI st K) : ∃ a r, st = .inl (.int a) :: r ∧ K a r := by
  unfold kI at h; split at h
  · exact ⟨_, _, rfl, h⟩
  · exact h.elim
theorem kL_e {st : List AV} {K : Int64 → List AV → Prop} (h : kL st K) : ∃ a r, st = .inl (.long a) :: r ∧ K a r := by
  unfold kL at h; split at h
  · exact ⟨_, _, rfl, h⟩
  · exact h.elim
theorem kD_e {st : List AV} {K : UInt64 → List AV → Prop} (h : kD st K) : ∃ a r, st = .inl (.double a) :: r ∧ K a r := by
  unfold kD at h; split at h
  · exact ⟨_, _, rfl, h⟩
  · exact h.elim
theorem kLL_e {st : List AV} {K : Int64 → Int64 → List AV → Prop} (h : kLL st K) : ∃ a b r, st = .inl (.long b) :: .inl (.long a) :: r ∧ K a b r := by
  unfold kLL at h; split at h
  · exact ⟨_, _, _, rfl, h⟩
  · exact h.elim
theorem kDD_e {st : List AV} {K : UInt64 → UInt64 → List AV → Prop} (h : kDD st K) : ∃ a b r, st = .inl (.double b) :: .inl (.double a) :: r ∧ K a b r := by
  unfold kDD at h; split at h
  · exact ⟨_, _, _, rfl, h⟩
  · exact h.elim
theorem kR_e {st : List AV} {K : Nat → Nat → Nat → List AV → Prop} (h : kR st K) : ∃ t s j r, st = .inr (t, s, j) :: r ∧ K t s j r := by
  unfold kR at h; split at h
  · exact ⟨_, _, _, _, rfl, h⟩
  · exact h.elim
theorem kIR_e {st : List AV} {K : Int32 → Nat → Nat → Nat → List AV → Prop} (h : kIR st K) : ∃ i t s j r, st = .inl (.int i) :: .inr (t, s, j) :: r ∧ K i t s j r := by
  unfold kIR at h; split at h
  · exact ⟨_, _, _, _, _, rfl, h⟩
  · exact h.elim
theorem kLR_e {st : List AV} {K : Int64 → Nat → Nat → Nat → List AV → Prop} (h : kLR st K) : ∃ i t s j r, st = .inl (.long i) :: .inr (t, s, j) :: r ∧ K i t s j r := by
  unfold kLR at h; split at h
  · exact ⟨_, _, _, _, _, rfl, h⟩
  · exact h.elim
theorem kIIR_e {st : List AV} {K : Int32 → Int32 → Nat → Nat → Nat → List AV → Prop} (h : kIIR st K) : ∃ a i t s j r, st = .inl (.int a) :: .inl (.int i) :: .inr (t, s, j) :: r ∧ K a i t s j r := by
  unfold kIIR at h; split at h
  · exact ⟨_, _, _, _, _, _, rfl, h⟩
  · exact h.elim
theorem kLIR_e {st : List AV} {K : Int64 → Int32 → Nat → Nat → Nat → List AV → Prop} (h : kLIR st K) : ∃ a i t s j r, st = .inl (.long a) :: .inl (.int i) :: .inr (t, s, j) :: r ∧ K a i t s j r := by
  unfold kLIR at h; split at h
  · exact ⟨_, _, _, _, _, _, rfl, h⟩
  · exact h.elim
theorem kDIR_e {st : List AV} {K : UInt64 → Int32 → Nat → Nat → Nat → List AV → Prop} (h : kDIR st K) : ∃ a i t s j r, st = .inl (.double a) :: .inl (.int i) :: .inr (t, s, j) :: r ∧ K a i t s j r := by
  unfold kDIR at h; split at h
  · exact ⟨_, _, _, _, _, _, rfl, h⟩
  · exact h.elim
theorem kRIR_e {st : List AV} {K : Nat → Nat → Nat → Int32 → Nat → Nat → Nat → List AV → Prop} (h : kRIR st K) : ∃ u v w i t s j r, st = .inr (u, v, w) :: .inl (.int i) :: .inr (t, s, j) :: r ∧ K u v w i t s j r := by
  unfold kRIR at h; split at h
  · exact ⟨_, _, _, _, _, _, _, _, rfl, h⟩
  · exact h.elim
theorem ldI_e {K : Int32 → Prop} : ∀ {al : Al} {i : Nat}, ldI al i K → ∃ a, lk al i = some (.inl (.int a)) ∧ K a
  | [], i, h => h.elim
  | (j, v) :: t, i, h => by
    unfold ldI at h
    unfold lk
    split at h
    · rename_i e
      rw [if_pos (by simpa using e)]
      unfold vI at h
      split at h
      · exact ⟨_, rfl, h⟩
      · exact h.elim
    · rename_i e
      rw [if_neg (by simpa using e)]
      exact ldI_e h
theorem ldL_e {K : Int64 → Prop} : ∀ {al : Al} {i : Nat}, ldL al i K → ∃ a, lk al i = some (.inl (.long a)) ∧ K a
  | [], i, h => h.elim
  | (j, v) :: t, i, h => by
    unfold ldL at h
    unfold lk
    split at h
    · rename_i e
      rw [if_pos (by simpa using e)]
      unfold vL at h
      split at h
      · exact ⟨_, rfl, h⟩
      · exact h.elim
    · rename_i e
      rw [if_neg (by simpa using e)]
      exact ldL_e h
theorem ldD_e {K : UInt64 → Prop} : ∀ {al : Al} {i : Nat}, ldD al i K → ∃ a, lk al i = some (.inl (.double a)) ∧ K a
  | [], i, h => h.elim
  | (j, v) :: t, i, h => by
    unfold ldD at h
    unfold lk
    split at h
    · rename_i e
      rw [if_pos (by simpa using e)]
      unfold vD at h
      split at h
      · exact ⟨_, rfl, h⟩
      · exact h.elim
    · rename_i e
      rw [if_neg (by simpa using e)]
      exact ldD_e h
theorem ldR_e {K : AV → Prop} : ∀ {al : Al} {i : Nat}, ldR al i K → ∃ a, lk al i = some a ∧ isRf a = true ∧ K a
  | [], i, h => h.elim
  | (j, v) :: t, i, h => by
    unfold ldR at h
    unfold lk
    split at h
    · rename_i e
      rw [if_pos (by simpa using e)]
      exact ⟨_, rfl, h⟩
    · rename_i e
      rw [if_neg (by simpa using e)]
      exact ldR_e h
theorem kE_e {st : List AV} {P : Prop} (h : kE st P) : st = [] ∧ P := by
  unfold kE at h; split at h
  · exact ⟨rfl, h⟩
  · exact h.elim
theorem kNN_e {st : List AV} {K K' : List AV → Prop} (h : kNN st K K') : (∃ r, st = .inl .null :: r ∧ K r) ∨ ∃ nm r, st = .inr nm :: r ∧ K' r := by
  unfold kNN at h; split at h
  · exact Or.inl ⟨_, rfl, h⟩
  · exact Or.inr ⟨_, _, rfl, h⟩
  · exact h.elim
theorem rtI_e {rt : Option FieldType} {v : Int32} {P : Prop} (h : rtI rt v P) : ∃ ty, rt = some ty ∧ narrow ty (.int v) = .int v ∧ P := by
  unfold rtI at h; split at h
  · exact ⟨_, rfl, rfl, h⟩
  · exact ⟨_, rfl, by rcases h.1 with rfl | rfl <;> rfl, h.2⟩
  · exact ⟨_, rfl, h.1, h.2⟩
  · exact h.elim
set_option maxHeartbeats 4000000 in
theorem wp1_ok {i : Instr} {e : Ex} {v : Int32} (hg : Gd x) (hd : decode (xY x).2.1 pc = .ok (i, ilen i)) (hc : xchk (xY x).1.cls pc i e v = true)
    {Kn : Mem → Al → List AV → Prop} (hk : ∀ a b c, Kn a b c → V x a n (pc + ilen i) b c) (h : wp1 (xY x).2.2.2.1 (xY x).2.2.1 (fun pc τ al st => V x τ n pc al st) (Kre x n) i e v τ al st Kn) : V x τ n pc al st := by
  cases i
  case if_icmp cnd off =>
    simp only [xchk, decide_eq_true_eq] at hc
    cases cnd
    all_goals
      obtain ⟨a, b, r, rfl, h1, h2⟩ := kII_e h
    · exact s_icmp_eq hg hd hc h1 (fun q => hk _ _ _ (h2 q))
    · exact s_icmp_ne hg hd hc h1 (fun q => hk _ _ _ (h2 q))
    · exact s_icmp_lt hg hd hc h1 (fun q => hk _ _ _ (h2 q))
    · exact s_icmp_ge hg hd hc h1 (fun q => hk _ _ _ (h2 q))
    · exact s_icmp_gt hg hd hc h1 (fun q => hk _ _ _ (h2 q))
    · exact s_icmp_le hg hd hc h1 (fun q => hk _ _ _ (h2 q))
  case ifCond cnd off =>
    simp only [xchk, decide_eq_true_eq] at hc
    cases cnd
    all_goals
      obtain ⟨a, r, rfl, h1, h2⟩ := kI_e h
    · exact s_if_eq hg hd hc h1 (fun q => hk _ _ _ (h2 q))
    · exact s_if_ne hg hd hc h1 (fun q => hk _ _ _ (h2 q))
    · exact s_if_lt hg hd hc h1 (fun q => hk _ _ _ (h2 q))
    · exact s_if_ge hg hd hc h1 (fun q => hk _ _ _ (h2 q))
    · exact s_if_gt hg hd hc h1 (fun q => hk _ _ _ (h2 q))
    · exact s_if_le hg hd hc h1 (fun q => hk _ _ _ (h2 q))
  case iload k =>
    simp only [xchk, decide_eq_true_eq] at hc
    obtain ⟨a, h1, h2⟩ := ldI_e h
    exact s_iload hg hd (hc ▸ h1) (hk _ _ _ h2)
  case iload_n k =>
    simp only [xchk, decide_eq_true_eq] at hc
    obtain ⟨a, h1, h2⟩ := ldI_e h
    exact s_iload_n hg hd hc h1 (hk _ _ _ h2)
  case lload k =>
    simp only [xchk, decide_eq_true_eq] at hc
    obtain ⟨a, h1, h2⟩ := ldL_e h
    exact s_lload hg hd (hc ▸ h1) (hk _ _ _ h2)
  case lload_n k =>
    simp only [xchk, decide_eq_true_eq] at hc
    obtain ⟨a, h1, h2⟩ := ldL_e h
    exact s_lload_n hg hd hc h1 (hk _ _ _ h2)
  case dload k =>
    simp only [xchk, decide_eq_true_eq] at hc
    obtain ⟨a, h1, h2⟩ := ldD_e h
    exact s_dload hg hd (hc ▸ h1) (hk _ _ _ h2)
  case dload_n k =>
    simp only [xchk, decide_eq_true_eq] at hc
    obtain ⟨a, h1, h2⟩ := ldD_e h
    exact s_dload_n hg hd hc h1 (hk _ _ _ h2)
  case aload k =>
    simp only [xchk, decide_eq_true_eq] at hc
    obtain ⟨a, h1, h2, h3⟩ := ldR_e h
    exact s_aload hg hd h2 (hc ▸ h1) (hk _ _ _ h3)
  case aload_n k =>
    simp only [xchk, decide_eq_true_eq] at hc
    obtain ⟨a, h1, h2, h3⟩ := ldR_e h
    exact s_aload_n hg hd hc h2 h1 (hk _ _ _ h3)
  case istore k =>
    simp only [xchk, decide_eq_true_eq] at hc
    obtain ⟨a, r, rfl, h1, h2⟩ := kI_e h
    subst hc
    exact s_istore hg hd h1 (hk _ _ _ h2)
  case istore_n k =>
    simp only [xchk, decide_eq_true_eq] at hc
    obtain ⟨a, r, rfl, h1, h2⟩ := kI_e h
    exact s_istore_n hg hd hc h1 (hk _ _ _ h2)
  case lstore k =>
    simp only [xchk, decide_eq_true_eq] at hc
    obtain ⟨a, r, rfl, h1, h2⟩ := kL_e h
    subst hc
    exact s_lstore hg hd h1 (hk _ _ _ h2)
  case lstore_n k =>
    simp only [xchk, decide_eq_true_eq] at hc
    obtain ⟨a, r, rfl, h1, h2⟩ := kL_e h
    exact s_lstore_n hg hd hc h1 (hk _ _ _ h2)
  case dstore k =>
    simp only [xchk, decide_eq_true_eq] at hc
    obtain ⟨a, r, rfl, h1, h2⟩ := kD_e h
    subst hc
    exact s_dstore hg hd h1 (hk _ _ _ h2)
  case dstore_n k =>
    simp only [xchk, decide_eq_true_eq] at hc
    obtain ⟨a, r, rfl, h1, h2⟩ := kD_e h
    exact s_dstore_n hg hd hc h1 (hk _ _ _ h2)
  case astore k =>
    simp only [xchk, decide_eq_true_eq] at hc
    obtain ⟨a, r, rfl, h1, h2, h3⟩ := k1_e h
    subst hc
    exact s_astore hg hd h1 h2 (hk _ _ _ h3)
  case astore_n k =>
    simp only [xchk, decide_eq_true_eq] at hc
    obtain ⟨a, r, rfl, h1, h2, h3⟩ := k1_e h
    exact s_astore_n hg hd hc h1 h2 (hk _ _ _ h3)
  case iinc k l =>
    simp only [xchk, Bool.and_eq_true, decide_eq_true_eq] at hc
    obtain ⟨a, h1, h2, h3⟩ := ldI_e h
    obtain ⟨hc1, hc2⟩ := hc
    subst hc1
    exact s_iinc hg hd h2 h1 hc2 (hk _ _ _ h3)
  case iconst k =>
    simp only [xchk, decide_eq_true_eq] at hc
    exact s_iconst hg hc hd (hk _ _ _ h)
  case bipush k =>
    simp only [xchk, decide_eq_true_eq] at hc
    exact s_bipush hg hc hd (hk _ _ _ h)
  case sipush k =>
    simp only [xchk, decide_eq_true_eq] at hc
    exact s_sipush hg hc hd (hk _ _ _ h)
  case lconst k =>
    simp only [xchk, decide_eq_true_eq] at hc
    subst hc
    exact s_lconst0 hg hd (hk _ _ _ h)
  case dconst k =>
    simp only [xchk, decide_eq_true_eq] at hc
    subst hc
    exact s_dconst0 hg hd (hk _ _ _ h)
  case aconst_null =>
    exact s_null hg hd (hk _ _ _ h)
  case iadd =>
    obtain ⟨a9, b9, r9, rfl, h⟩ := kII_e h
    exact s_iadd hg hd (hk _ _ _ h)
  case isub =>
    obtain ⟨a9, b9, r9, rfl, h⟩ := kII_e h
    exact s_isub hg hd (hk _ _ _ h)
  case imul =>
    obtain ⟨a9, b9, r9, rfl, h⟩ := kII_e h
    exact s_imul hg hd (hk _ _ _ h)
  case iand =>
    obtain ⟨a9, b9, r9, rfl, h⟩ := kII_e h
    exact s_iand hg hd (hk _ _ _ h)
  case ior =>
    obtain ⟨a9, b9, r9, rfl, h⟩ := kII_e h
    exact s_ior hg hd (hk _ _ _ h)
  case ishl =>
    obtain ⟨a9, b9, r9, rfl, h⟩ := kII_e h
    exact s_ishl hg hd (hk _ _ _ h)
  case ishr =>
    obtain ⟨a9, b9, r9, rfl, h⟩ := kII_e h
    exact s_ishr hg hd (hk _ _ _ h)
  case idiv =>
    obtain ⟨a9, b9, r9, rfl, h⟩ := kII_e h
    exact s_idiv hg h.1 hd (hk _ _ _ h.2)
  case irem =>
    obtain ⟨a9, b9, r9, rfl, h⟩ := kII_e h
    exact s_irem hg h.1 hd (hk _ _ _ h.2)
  case ineg =>
    obtain ⟨a9, r9, rfl, h⟩ := kI_e h
    exact s_ineg hg hd (hk _ _ _ h)
  case i2l =>
    obtain ⟨a9, r9, rfl, h⟩ := kI_e h
    exact s_i2l hg hd (hk _ _ _ h)
  case i2c =>
    obtain ⟨a9, r9, rfl, h⟩ := kI_e h
    exact s_i2c hg hd (hk _ _ _ h)
  case i2d =>
    obtain ⟨a9, r9, rfl, h⟩ := kI_e h
    exact s_i2d hg hd (hk _ _ _ h)
  case ladd =>
    obtain ⟨a9, b9, r9, rfl, h⟩ := kLL_e h
    exact s_ladd hg hd (hk _ _ _ h)
  case lcmp =>
    obtain ⟨a9, b9, r9, rfl, h⟩ := kLL_e h
    exact s_lcmp hg hd (hk _ _ _ h)
  case ddiv =>
    obtain ⟨a9, b9, r9, rfl, h⟩ := kDD_e h
    exact s_ddiv hg h.1 hd (hk _ _ _ h.2)
  case dcmp k =>
    obtain ⟨a9, b9, r9, rfl, h⟩ := kDD_e h
    exact s_dcmp hg hd (hk _ _ _ h)
  case dup =>
    obtain ⟨v9, r9, rfl, h⟩ := k1_e h
    exact s_dup hg h.1 hd (hk _ _ _ h.2)
  case pop =>
    obtain ⟨v9, r9, rfl, h⟩ := k1_e h
    exact s_pop hg h.1 hd (hk _ _ _ h.2)
  case dup2 =>
    obtain ⟨v9, w9, r9, rfl, h⟩ := k2_e h
    exact s_dup2 hg h.1 h.2.1 hd (hk _ _ _ h.2.2)
  case dup_x1 =>
    obtain ⟨v9, w9, r9, rfl, h⟩ := k2_e h
    exact s_dup_x1 hg h.1 h.2.1 hd (hk _ _ _ h.2.2)
  case goto k =>
    simp only [xchk, decide_eq_true_eq] at hc
    exact s_goto hg hd hc h
  case ifnonnull k =>
    simp only [xchk, decide_eq_true_eq] at hc
    rcases kNN_e h with ⟨r, rfl, h⟩ | ⟨nm, r, rfl, h⟩
    · exact s_ifnonnullN hg hd (hk _ _ _ h)
    · exact s_ifnonnull hg hd hc h
  case getfield k =>
    simp only [xchk, Bool.and_eq_true, decide_eq_true_eq] at hc
    obtain ⟨t, s, j, r, rfl, h1, h2, h3⟩ := kR_e h
    obtain ⟨⟨hc1, hc2⟩, hc3⟩ := hc
    subst h1
    refine s_get hg hd (frT_ok _ hc1) h2 ?_
    have hf : fAV τ e.1 s j e.2.1 = gfv τ e.1 s j e := by
      unfold fAV gfv
      rw [hc2]
      generalize e.2.2.1 = c0
      match c0 with
      | 0 => rfl
      | 1 => rfl
      | m + 2 => rfl
    rw [hf]
    exact hk _ _ _ h3
  case putfield k =>
    simp only [xchk, Bool.and_eq_true, Bool.or_eq_true, decide_eq_true_eq] at hc
    obtain ⟨hc1, hc2⟩ := hc
    simp only [wp1] at h
    rcases hc2 with (⟨⟨c1, c2⟩, c3⟩ | ⟨⟨c1, c2⟩, c3⟩) | ⟨⟨c1, c2⟩, c3⟩
    · rw [show (e.2.2.1 == 1) = false by rw [c1]; rfl] at h
      obtain ⟨a, t, s, j, r, rfl, h1, h2, -, h3⟩ := kIR_e h
      subst h1
      exact s_putI hg hd (frT_ok _ hc1) (fpL0_ok _ c2) c3 h2 (hk _ _ _ h3)
    · rw [show (e.2.2.1 == 1) = true by rw [c1]; rfl] at h
      obtain ⟨a, t, s, j, r, rfl, h1, h2, h3⟩ := kLR_e h
      subst h1
      exact s_putL hg hd (frT_ok _ hc1) (fpL1_ok _ c2) c3 h2 (hk _ _ _ h3)
    · rw [show (e.2.2.1 == 1) = false by rw [c1]; rfl] at h
      obtain ⟨a, t, s, j, r, rfl, h1, h2, h4, h3⟩ := kIR_e h
      subst h1
      exact s_putZ hg hd (frT_ok _ hc1) (fpL3_ok _ c2) c3 h2 (by rw [c1] at h4; exact h4) (hk _ _ _ h3)
  case iaload =>
    obtain ⟨i9, t9, s9, j9, r9, rfl, h⟩ := kIR_e h
    exact s_iald hg hd h.1 h.2.1 h.2.2.1 h.2.2.2.1 (hk _ _ _ h.2.2.2.2)
  case caload =>
    obtain ⟨i9, t9, s9, j9, r9, rfl, h⟩ := kIR_e h
    exact s_cald hg hd h.1 h.2.1 h.2.2.1 h.2.2.2.1 (hk _ _ _ h.2.2.2.2)
  case laload =>
    obtain ⟨i9, t9, s9, j9, r9, rfl, h⟩ := kIR_e h
    exact s_lald hg hd h.1 h.2.1 h.2.2.1 h.2.2.2.1 (hk _ _ _ h.2.2.2.2)
  case daload =>
    obtain ⟨i9, t9, s9, j9, r9, rfl, h⟩ := kIR_e h
    exact s_dald hg hd h.1 h.2.1 h.2.2.1 h.2.2.2.1 (hk _ _ _ h.2.2.2.2)
  case aaload =>
    obtain ⟨i9, t9, s9, j9, r9, rfl, h⟩ := kIR_e h
    exact s_aald hg hd h.1 h.2.1 h.2.2.1 h.2.2.2.1 (hk _ _ _ h.2.2.2.2)
  case arraylength =>
    obtain ⟨t9, s9, j9, r9, rfl, h⟩ := kR_e h
    exact s_alen hg hd h.1 h.2.1 rfl (hk _ _ _ h.2.2.2) h.2.2.1
  case iastore =>
    obtain ⟨a9, i9, t9, s9, j9, r9, rfl, h⟩ := kIIR_e h
    exact s_iast hg hd h.1 h.2.1 h.2.2.1 h.2.2.2.1 (hk _ _ _ h.2.2.2.2)
  case castore =>
    obtain ⟨a9, i9, t9, s9, j9, r9, rfl, h⟩ := kIIR_e h
    exact s_cast hg hd h.1 h.2.1 h.2.2.1 h.2.2.2.1 (hk _ _ _ h.2.2.2.2)
  case lastore =>
    obtain ⟨a9, i9, t9, s9, j9, r9, rfl, h⟩ := kLIR_e h
    exact s_last hg hd h.1 h.2.1 h.2.2.1 h.2.2.2.1 (hk _ _ _ h.2.2.2.2)
  case dastore =>
    obtain ⟨a9, i9, t9, s9, j9, r9, rfl, h⟩ := kDIR_e h
    exact s_dast hg hd h.1 h.2.1 h.2.2.1 h.2.2.2.1 (hk _ _ _ h.2.2.2.2)
  case aastore =>
    obtain ⟨u, v, w, i, t, s, j, r, rfl, h1, h2, h3, h4, h5, h6, h7⟩ := kRIR_e h
    subst h1 h2 h3
    exact s_astI hg hd h4 h5 h6 (hk _ _ _ h7)
  case ireturn =>
    obtain ⟨a, r, rfl, h⟩ := kI_e h
    obtain ⟨rfl, h⟩ := kE_e h
    obtain ⟨ty, h1, h2, h3⟩ := rtI_e h
    exact s_iret hg hd h1 h2 h3
  case lreturn =>
    obtain ⟨a, r, rfl, h⟩ := kL_e h
    obtain ⟨rfl, h1, h2⟩ := kE_e h
    exact s_lret hg hd h1 h2
  case dreturn =>
    obtain ⟨a, r, rfl, h⟩ := kD_e h
    obtain ⟨rfl, h1, h2⟩ := kE_e h
    exact s_dret hg hd h1 h2
  case areturn =>
    obtain ⟨a, r, rfl, h⟩ := k1_e h
    obtain ⟨rfl, h1, h2, h3⟩ := kE_e h
    exact s_aret hg hd h1 h2 h3
  case return_ =>
    obtain ⟨rfl, h1, h2⟩ := kE_e h
    exact s_vret hg hd h1 h2
  all_goals exact h.elim
/-- a stretch of instructions; a jump leaves it -/
def wpb (rt : Option FieldType) (nL : Nat) (Kj : Nat → Mem → Al → List AV → Prop) (Kr : Option AV → Mem → Prop) : List Op3 → Nat → Mem → Al → List AV → Prop
  | [], pc, τ, al, st => Kj pc τ al st
  | (_, i, len, e, v) :: r, pc, τ, al, st => wp1 rt nL Kj Kr i e v τ al st (wpb rt nL Kj Kr r (pc + len))
theorem wpb_ok (hg : Gd x) : ∀ {ops : List Op3} {pc : Nat} {τ : Mem} {al : Al} {st : List AV} (_ : dcd (xY x).1.cls (xY x).2.1 pc ops = true)
    (_ : wpb (xY x).2.2.2.1 (xY x).2.2.1 (fun pc τ al st => V x τ n pc al st) (Kre x n) ops pc τ al st), V x τ n pc al st
  | [], _, _, _, _, _, h => h
  | (q, i, len, e, v) :: r, pc, τ, al, st, hd, h => by
    simp only [dcd, Bool.and_eq_true, decide_eq_true_eq] at hd
    obtain ⟨⟨⟨⟨h1, h2⟩, h3⟩, h4⟩, h5⟩ := hd
    subst h2
    exact wp1_ok hg h3 h4 (fun a b c hk => wpb_ok hg h5 hk) h
end WP
