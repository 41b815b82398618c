/-! ===== the class: a constant's ordinal, walked in its own frame ===== -/
section ORD
variable {p : Program} {l : Launch} {e : Env} {R : Room} {s : State} {m : MethodId} {args : Array Value} {below : List Frame} {meth : Method} {c : Code}
theorem o_walk {T : State} {locs : List Loc} {cells slots : Nat} (X : Stand p l e R s m args below meth c T locs cells slots) (hexec : p.tables.exec = Jvm.exec) {own C owner ref nme d : String} {index fx : Nat} {x y : MethodName} {bytes : ByteArray}
    (hown : s.vm.findClass own = some m.cls) (hlink : (Cond.methodLink own index x).before args s = true) (hsame : (Cond.sameMethod x.cls owner x.name x.desc).before args s = true)
    (hd0 : va_Decl s ⟨owner, x.name, x.desc⟩) (howner : owner ≠ "java/lang/invoke/MethodHandle" ∧ owner ≠ "java/lang/invoke/VarHandle") (hp : plainName y.cls = true)
    (hsel : (Cond.selects C x y).before args s = true) (hinst : (Cond.instanceMethod y).before args s = true) (hcode : (Cond.code y bytes 1 (some .int)).before args s = true)
    (d0 : decode bytes 0 = .ok (.aload_n 0, 1)) (d1 : decode bytes 1 = .ok (.getfield fx, 3)) (d4 : decode bytes 4 = .ok (.ireturn, 1))
    (hfl : (Cond.fieldLink y.cls fx ref nme d).before args s = true) {cf i : Nat} {k : Class} {f : Field} (hi : s.fieldFound? ref nme d = some (cf, k, i, f)) (hst : f.isStatic = false)
    {b : Addr} {cellB : Cell} (hcell : T.heap[b]? = some cellB) (hobj : cellB.vm.isStatics = false) (hcls : s.vm.findClass C = some cellB.cls) (hknown : cellB.vm ≠ .unknown) {v : Int32} (hslot : cellB.slots[f.slot]? = some (.int v))
    {g : JFrame} (hg : g.method = m) (hsize : g.locals.size = c.maxLocals) {rest : List Value} (hlen : ∀ sig, parseMethodDescriptor x.desc = some sig → 0 = sig.parameters.length)
    (hstack : g.stack = .ref b :: rest) (hframes : 1 ≤ R.frames) (hW : 2 * g.monitorRoom + (rest.map fun v => v.category).sum + 12 ≤ R.locals) (hdg : decode c.code g.pc = .ok (.invokevirtual index, 3)) :
    ∃ vm', Stand p l e R s m args below meth c (T.setVm vm') locs cells slots ∧
      ∀ target, Steps p.tables e below ((T.setVm vm').setTop { g with pc := g.pc + 3, stack := .int v :: rest }) target → Steps p.tables e below (T.setTop g) target := by
  obtain ⟨r0, r, hn, hrm, hstR, hsigR⟩ := hd0
  obtain ⟨cn, ck, r1, hcn, hck, hni, hf, hn1⟩ := Cond.sameMethod_found hsame
  cases hn.symm.trans hn1
  obtain ⟨mk, methM, hnamed, hmethM, -, habM⟩ := Cond.instanceMethod_spec hinst
  obtain ⟨c2, r2, m2, q1, q2, q3, q4, kP, hkP, hkPi⟩ := Cond.selects_spec hsel
  cases hcls.symm.trans q1
  cases hf.symm.trans q2
  cases hnamed.symm.trans q3
  have hselP : selectMethod e.platform s.vm cellB.cls r0 = .method mk := by rw [Launch.admits_selectMethod X.admits]; exact q4
  obtain ⟨vm₁, X₁, hstep₁⟩ := X.invokevirtualUp hexec hown hlink hsame howner hn hrm hstR (a := b) (cell := cellB) hcell
    (fun z h => by rw [h] at hobj; cases hobj) hselP hmethM habM hkP hkPi (g := g) hg (argsL := []) (rest := rest) (hlen _ hsigR) hstack hdg
  obtain ⟨methY, cY, hmY, hcY, hbY, hlY, hretY, hlockY, -⟩ := Cond.code_spec hnamed hcode
  have hown2 : s.vm.findClass y.cls = some mk.cls := findClass_of_methodNamed hnamed
  have hpl : e.platform.magicAccessors = ({} : Platform).magicAccessors := by rw [X.admits.platform]
  obtain ⟨ci', cfl, k', i', f', hi', hlinks, hright⟩ := Cond.fieldLink_spec hown2 hfl e.platform hpl
  cases hi.symm.trans hi'
  obtain ⟨hk, hff⟩ := State.fieldFound?_spec hi
  obtain ⟨vm', hgives, hW', hready, hfi⟩ := State.fieldEntry (e := e) X₁.warmed hlinks hright hk hff
  subst hg
  have hm1 : (T.setVm vm₁).vm.method? mk = some methY := by rw [X₁.warmed.alike.method?]; exact hmY
  have hm2 : vm'.method? mk = some methY := by rw [hW'.alike.method?]; exact hmY
  refine ⟨vm', X₁.noted hW', fun target hrest => hstep₁ _ fun acts => ?_⟩
  obtain ⟨g₀, hfr0⟩ := X.frames_eq
  obtain ⟨g1, hg1⟩ : ∃ z, z = ({ g with stack := rest } : JFrame) := ⟨_, rfl⟩
  rw [← hg1]
  have hmg : g1.method = g.method := by rw [hg1]
  have hsg : g1.stack = rest := by rw [hg1]
  have hpg : g1.pc = g.pc := by rw [hg1]
  have hse : ({ g with pc := g.pc + 3, stack := .int v :: rest } : JFrame) = { g1 with pc := g1.pc + 3, stack := .int v :: g1.stack } := by rw [hg1]
  rw [hse] at hrest
  have X1h : At (T.setVm vm₁) g1.method c below := by rw [hmg]; exact X₁.here
  rw [doInvoke_enter (g := g1) X₁.here.top acts hm1 hcY hlockY (X₁.notFull (g := g1) (by rw [hg1]; exact hsize) hframes (by rw [hlY, hg1]; exact hW))]
  have hplain : (T.setVm vm₁).plainMethod mk := by
    refine State.plainMethod.of_name ?_
    intro k hk
    obtain ⟨k', hk', hn⟩ := className_of_methodNamed (X₁.named hnamed)
    cases (show (T.setVm vm₁).vm.classes[mk.cls]? = some k from hk).symm.trans hk'
    rw [hn]; exact hp
  have A0 := At.enter (g := g1) X1h #[.ref b] hm1 hcY hplain
  rw [hlY] at A0 ⊢
  have hfr := frames_entered (g := g1) X₁.here.top (.java (entryFrame mk #[.ref b] 1))
  have hse1 := setFrames_entered (g := g1) X₁.here.top (.java (entryFrame mk #[.ref b] 1))
  have a1 : (T.setVm vm₁).setTop g1 = (T.setVm vm₁).setFrames (.java g1 :: below) := State.setTop_of_frames g1 hfr0
  have a2 : (T.setVm vm').setTop g1 = (T.setVm vm').setFrames (.java g1 :: below) := State.setTop_of_frames g1 hfr0
  have hvm0 : (((T.setVm vm₁).setTop g1).pushFrame (.java (entryFrame mk #[.ref b] 1))).vm = vm₁ := rfl
  have hhp0 : (((T.setVm vm₁).setTop g1).pushFrame (.java (entryFrame mk #[.ref b] 1))).heap = T.heap := rfl
  show Steps p.tables e below ((((T.setVm vm₁).setTop g1).pushFrame (.java (entryFrame mk #[.ref b] 1))).setTop { method := mk, pc := 0, locals := #[.val (.ref b)], stack := [], locked := none }) target
  generalize ((T.setVm vm₁).setTop g1).pushFrame (.java (entryFrame mk #[.ref b] 1)) = u0 at *
  have d0' : decode cY.code 0 = .ok (.aload_n 0, 1) := by rw [hbY]; exact d0
  have d1' : decode cY.code 1 = .ok (.getfield fx, 3) := by rw [hbY]; exact d1
  have d4' : decode cY.code 4 = .ok (.ireturn, 1) := by rw [hbY]; exact d4
  have A1 : At (u0.setVm vm') mk cY below := A0.setVm (by rw [hvm0]; exact X₁.warmed.alike.symm.trans hW'.alike)
  jvm_step A0 [hexec, d0', Value.isRef]
  jvm_step A0 [hexec, d1', getfield.wp_cold (e := e) (s := u0) (f := { method := mk, pc := 1, locals := #[.val (.ref b)], stack := [.ref b], locked := none }) A0.top (by rw [hvm0]; exact hgives) hready hfi (hsz := by rw [hvm0]; first | exact Vm.Alike.size_le (X₁.warmed.alike.symm.trans hW'.alike) | exact Vm.Alike.size_le (X₁.warmed.alike.symm.trans hW'.alike).symm),
    getfield.wp_ready (e := e) (s := u0.setVm vm') (f := { method := mk, pc := 1, locals := #[.val (.ref b)], stack := [.ref b], locked := none }) A1.top hready hst rfl (show u0.heap[b]? = some cellB by rw [hhp0]; exact hcell) hknown hslot]
  jvm_step A1 [hexec, d4', (show (u0.setVm vm').vm.method? mk = some methY from hm2), hretY, narrow]
  refine ⟨_, State.topJava?_setTop' _ A1.top, _, _, rfl, methY, hm2, .int, hretY, fun acts' => ?_⟩
  have hcg : (u0.setVm vm').code? g1.method = some c := by
    have h0 := X.here.code
    rw [State.code?_eq, X.warmed.alike.method?] at h0
    rw [State.code?_eq]
    show (vm'.method? g1.method).bind _ = _
    rw [hmg, hW'.alike.method?]
    exact h0
  have hz : (u0.setVm vm').setFrames (.java g1 :: (T.setVm vm₁).frames.tail) = (T.setVm vm').setTop g1 := by
    rw [a1] at hse1
    rw [a2]
    exact congrArg (fun z : State => z.setVm vm') hse1
  show Steps p.tables e below (doReturn e ((u0.setVm vm').setTop { method := mk, pc := 4, locals := #[.val (.ref b)], stack := [], locked := none }) acts' (some (.int v))).1 target
  rw [doReturn_leave (u := u0.setVm vm') (f := { method := mk, pc := 4, locals := #[.val (.ref b)], stack := [], locked := none }) (f₀ := entryFrame mk #[.ref b] 1) (g := g1) (r := (T.setVm vm₁).frames.tail) (meth := methY) (cg := c) (ig := .invokevirtual index) (len := 3) acts' hfr hm2 hlockY rfl rfl hcg (by rw [hpg]; exact hdg), hz, State.setTop_setTop]
  exact hrest
end ORD
theorem ordH {l : Launch} {G : GG} (hc : CtxE l G) : OrdH l G := by
  intro x Φ hB τ al w r hw hr kk
  obtain ⟨hg, rfl, rfl, hy, rfl⟩ := hB
  obtain ⟨l, G, p, e, s, m, args, below, meth, c, y, Φ⟩ := x
  simp only [xY] at hy
  subst hy
  obtain ⟨hx, hb, hown, hts, hml, hlk, hret, hstt, hG, hX⟩ := hg
  intro H locs ls hW hS hL T hT X
  obtain ⟨hO, hF, -⟩ := (hc.2 _ _ hX).2.1 w hw
  obtain ⟨cf, k, fi, f, cell, h1, h2, h3, h4, h5, h6⟩ := hF.kept hS.2.1
  obtain ⟨cell', q1, q2, q3, -⟩ := hO.kept hS.2.1
  cases h3.symm.trans q1
  obtain ⟨vm', X', st⟩ := o_walk X hx (own := RX10) (C := RX3) (owner := "java/lang/Enum") (index := 376) (x := ⟨"MinutePawnshop$Command", "ordinal", "()I"⟩) (y := yJx29ce0_ordinal_8abf5) (bytes := cJx29ce0_ordinal_8abf5) (fx := 7) hown
    (hts _ (TBg_at 1542 (by decide +kernel))) (hts _ (TBg_at 1543 (by decide +kernel)))
    (va_Decl.of (b := cJx29ce0_ordinal_8abf5) (m := 1) (ret := some .int) (hts _ (TBg_at 1546 (by decide +kernel))) (hts _ (TBg_at 1547 (by decide +kernel)))) ⟨by decide, by decide⟩ (by decide +kernel) (hts _ (TBg_at 1545 (by decide +kernel))) (hts _ (TBg_at 1546 (by decide +kernel))) (hts _ (TBg_at 1547 (by decide +kernel)))
    (by decide +kernel : decode cJx29ce0_ordinal_8abf5 0 = .ok (.aload_n 0, 1)) (by decide +kernel : decode cJx29ce0_ordinal_8abf5 1 = .ok (.getfield 7, 3)) (by decide +kernel : decode cJx29ce0_ordinal_8abf5 4 = .ok (.ireturn, 1)) (hts _ (TBg_at 2090 (by decide +kernel))) h1 h2 (b := G.2.1 (60, w, 0)) (by rw [hT]; exact h3) q2 q3 h4 h5 (g := F0 m 4 ls (((.inr (60, w, 0) :: r : List AV)).map (conc G))) rfl (hL.1.trans hml.symm) (rest := r.map (conc G)) (fun sig h => by
      have h9 : parseMethodDescriptor "()I" = some ⟨[], some .int⟩ := by decide
      rw [show ((⟨"MinutePawnshop$Command", "ordinal", "()I"⟩ : MethodName).desc) = "()I" from rfl, h9] at h
      cases h; rfl) rfl (by decide) (by
      have h8 : 2 * (F0 m 4 ls (((.inr (60, w, 0) :: r : List AV)).map (conc G))).monitorRoom + ((r.map (conc G)).map fun v => v.category).sum ≤ 8 := lv_room (by rw [acats_sum]; exact hr)
      exact Nat.le_trans (Nat.add_le_add_right h8 12) (Nat.le_of_ble_eq_true rfl)) (by rw [hb]; exact (by decide +kernel : decode cX10_run 4 = .ok (.invokevirtual 376, 3)))
  obtain ⟨t, b1, b2⟩ := kk H locs ls hW hS hL (T.setVm vm') hT X'
  exact ⟨t, st _ b1, b2⟩
