/-- the texts of the forms -/
def fmL : Nat → List Nat
  | 0 => [112, 108, 101, 100, 103, 101, 32, 35, 32, 42, 32, 42]
  | 1 => [114, 101, 100, 101, 101, 109, 32, 42]
  | 2 => [101, 120, 116, 101, 110, 100, 32, 42, 32, 42]
  | 3 => [100, 97, 121, 115, 32, 42]
  | 4 => [112, 114, 105, 99, 101, 32, 35]
  | 5 => [114, 97, 116, 101, 32, 35, 32, 35]
  | 6 => [98, 105, 100, 32, 42, 32, 35, 32, 42]
  | 7 => [115, 101, 108, 108, 32, 42]
  | 8 => [101, 118, 101, 110, 105, 110, 103]
  | _ => []
theorem fmL_ok : ∀ k, k < 9 → (fmL k).length ≤ 12 ∧ ∀ c ∈ fmL k, c < 128 := by decide
/-- the constants that the class reads -/
def EnF (G : GG) (U : State) (H : Heap) : Prop :=
  (va_Z RX7 "KINDS" "[LMinutePawnshop$Command;" (.ref (G.2.1 (61, 0, 0))) (AA G) U H ∧ va_T (.object RX3) (G.2.1 (61, 0, 0)) 9 (fun j => .ref (G.2.1 (60, j, 0))) (AA G) U H) ∧
  (∀ k, k < 9 → va_O RX3 (G.2.1 (60, k, 0)) (AA G) U H ∧ va_OF "java/lang/Enum" "ordinal" "I" (.int (nI k)) (G.2.1 (60, k, 0)) (AA G) U H ∧ va_OF RX3 "form" "Ljava/lang/String;" (.ref (G.2.1 (62, k, 0))) (G.2.1 (60, k, 0)) (AA G) U H) ∧
  (∀ k, k < 9 → va_O "java/lang/String" (G.2.1 (62, k, 0)) (AA G) U H ∧ va_OF "java/lang/String" "coder" "B" (.int 0) (G.2.1 (62, k, 0)) (AA G) U H ∧ va_OF "java/lang/String" "value" "[B" (.ref (G.2.1 (63, k, 0))) (G.2.1 (62, k, 0)) (AA G) U H ∧ va_T .byte (G.2.1 (63, k, 0)) (fmL k).length (fun j => .int (nI ((fmL k).getD j 0))) (AA G) U H) ∧
  (va_Z "MinutePawnshop$1" "$SwitchMap$MinutePawnshop$Command" "[I" (.ref (G.2.1 (64, 0, 0))) (AA G) U H ∧ va_T .int (G.2.1 (64, 0, 0)) 9 (fun j => .int (nI (j + 1))) (AA G) U H) ∧
  va_Z "java/lang/String" "COMPACT_STRINGS" "Z" (.int 1) (AA G) U H ∧ va_Zq "jdk/internal/util/Preconditions" "SIOOBE_FORMATTER" "Ljava/util/function/BiFunction;" (AA G) U H
def CtxE (l : Launch) (G : GG) : Prop := Ctx l G ∧ ∀ U H, G.2.2.2.2 U H → EnF G U H
section KO
variable {x : Cx} {l : Launch} {G : GG} {y : MI} {Φ : AOut → Mem → Prop} {τ : Mem} {n pc idx : Nat} {al : Al} {r : List AV}
theorem V_gets (hB : Bd x l G y Φ) {C nme d : String} {v : AV} (hZ : ∀ U H, G.2.2.2.2 U H → va_Z C nme d (conc G v) (AA G) U H) (hl : Cond.fieldLink y.1.cls idx C nme d ∈ TBg) (hd : decode y.2.1 pc = .ok (.getstatic idx, 3)) (k : V x τ n (pc + 3) al (v :: r)) : V x τ n pc al r := by
  obtain ⟨hg, rfl, rfl, rfl, rfl⟩ := hB
  obtain ⟨l, G, p, e, s, m, args, below, meth, c, y, Φ⟩ := x
  obtain ⟨hx, hb, hown, hts, hml, hlk, hret, hstt, hG, hX⟩ := hg
  exact fun H locs ls hW hS hL => va_gets hx hb (hZ _ _ hX) hS hown (hts _ hl) (fun _ h => h) hd (k H locs ls hW hS hL)
theorem V_getsq (hB : Bd x l G y Φ) {C nme d : String} (hZ : ∀ U H, G.2.2.2.2 U H → va_Zq C nme d (AA G) U H) (hl : Cond.fieldLink y.1.cls idx C nme d ∈ TBg) (hd : decode y.2.1 pc = .ok (.getstatic idx, 3)) (k : ∀ v : Value, (v = .null ∨ ∃ q, v = .ref q) → V x τ n (pc + 3) al (.inl v :: r)) : V x τ n pc al r := by
  obtain ⟨hg, rfl, rfl, rfl, rfl⟩ := hB
  obtain ⟨l, G, p, e, s, m, args, below, meth, c, y, Φ⟩ := x
  obtain ⟨hx, hb, hown, hts, hml, hlk, hret, hstt, hG, hX⟩ := hg
  intro H locs ls hW hS hL
  rcases hZ _ _ hX with h | ⟨t, h⟩
  · exact va_gets hx hb h hS hown (hts _ hl) (fun _ h => h) hd (k _ (Or.inl rfl) H locs ls hW hS hL)
  · exact va_gets hx hb h hS hown (hts _ hl) (fun _ h => h) hd (k _ (Or.inr ⟨t, rfl⟩) H locs ls hW hS hL)
theorem V_tlen (hB : Bd x l G y Φ) {ty : FieldType} {N : Nat} {f : Nat → Value} {nm : Nm} (hT : ∀ U H, G.2.2.2.2 U H → va_T ty (G.2.1 nm) N f (AA G) U H) (hd : decode y.2.1 pc = .ok (.arraylength, 1)) (k : V x τ n (pc + 1) al (aI (nI N) :: r)) : V x τ n pc al (.inr nm :: r) := by
  obtain ⟨hg, rfl, rfl, rfl, rfl⟩ := hB
  obtain ⟨l, G, p, e, s, m, args, below, meth, c, y, Φ⟩ := x
  obtain ⟨hx, hb, hown, hts, hml, hlk, hret, hstt, hG, hX⟩ := hg
  exact fun H locs ls hW hS hL => va_tlen hx hb (hT _ _ hX) hS (v := nI N) rfl hd (k H locs ls hW hS hL)
theorem V_taa (hB : Bd x l G y Φ) {C : String} {N i : Nat} {f : Nat → Value} {nm : Nm} {v : AV} (hT : ∀ U H, G.2.2.2.2 U H → va_T (.object C) (G.2.1 nm) N f (AA G) U H) (hi : i < N) (hN : N < 2147483648) (hv : f i = conc G v) (hd : decode y.2.1 pc = .ok (.aaload, 1)) (k : V x τ n (pc + 1) al (v :: r)) : V x τ n pc al (aI (nI i) :: .inr nm :: r) := by
  obtain ⟨hg, rfl, rfl, rfl, rfl⟩ := hB
  obtain ⟨l, G, p, e, s, m, args, below, meth, c, y, Φ⟩ := x
  obtain ⟨hx, hb, hown, hts, hml, hlk, hret, hstt, hG, hX⟩ := hg
  have hin : vp_in (nI i) N := (vpL hi (by omega)).symm ▸ trivial
  exact fun H locs ls hW hS hL => vb_tq hx hb (hT _ _ hX) hS hin (by rw [ixL (show i < 2147483648 by omega)]; exact hv) hd (k H locs ls hW hS hL)
theorem V_tia (hB : Bd x l G y Φ) {N i : Nat} {f : Nat → Int32} {nm : Nm} (hT : ∀ U H, G.2.2.2.2 U H → va_T .int (G.2.1 nm) N (fun j => .int (f j)) (AA G) U H) (hi : i < N) (hN : N < 2147483648) (hd : decode y.2.1 pc = .ok (.iaload, 1)) (k : V x τ n (pc + 1) al (aI (f i) :: r)) : V x τ n pc al (aI (nI i) :: .inr nm :: r) := by
  obtain ⟨hg, rfl, rfl, rfl, rfl⟩ := hB
  obtain ⟨l, G, p, e, s, m, args, below, meth, c, y, Φ⟩ := x
  obtain ⟨hx, hb, hown, hts, hml, hlk, hret, hstt, hG, hX⟩ := hg
  have hin : vp_in (nI i) N := (vpL hi (by omega)).symm ▸ trivial
  exact fun H locs ls hW hS hL => va_ti hx hb (hT _ _ hX) hS hin (v := .int (f i)) (by rw [ixL (show i < 2147483648 by omega)]) hd (k H locs ls hW hS hL)
theorem V_tba (hB : Bd x l G y Φ) {N i : Nat} {f : Nat → Int32} {nm : Nm} (hT : ∀ U H, G.2.2.2.2 U H → va_T .byte (G.2.1 nm) N (fun j => .int (f j)) (AA G) U H) (hi : i < N) (hN : N < 2147483648) (hd : decode y.2.1 pc = .ok (.baload, 1)) (k : V x τ n (pc + 1) al (aI (f i) :: r)) : V x τ n pc al (aI (nI i) :: .inr nm :: r) := by
  obtain ⟨hg, rfl, rfl, rfl, rfl⟩ := hB
  obtain ⟨l, G, p, e, s, m, args, below, meth, c, y, Φ⟩ := x
  obtain ⟨hx, hb, hown, hts, hml, hlk, hret, hstt, hG, hX⟩ := hg
  have hin : vp_in (nI i) N := (vpL hi (by omega)).symm ▸ trivial
  exact fun H locs ls hW hS hL => va_tb hx hb (hT _ _ hX) hS hin (v := .int (f i)) (by rw [ixL (show i < 2147483648 by omega)]) hd (k H locs ls hW hS hL)
theorem V_ogf (hB : Bd x l G y Φ) {o nme d : String} {nm : Nm} {v : AV} (hF : ∀ U H, G.2.2.2.2 U H → va_OF o nme d (conc G v) (G.2.1 nm) (AA G) U H) (hl : Cond.fieldLink y.1.cls idx o nme d ∈ TBg) (hd : decode y.2.1 pc = .ok (.getfield idx, 3)) (k : V x τ n (pc + 3) al (v :: r)) : V x τ n pc al (.inr nm :: r) := by
  obtain ⟨hg, rfl, rfl, rfl, rfl⟩ := hB
  obtain ⟨l, G, p, e, s, m, args, below, meth, c, y, Φ⟩ := x
  obtain ⟨hx, hb, hown, hts, hml, hlk, hret, hstt, hG, hX⟩ := hg
  exact fun H locs ls hW hS hL => vk_getf hx hb (hF _ _ hX) hS hown (hts _ hl) (fun _ h => h) hd (k H locs ls hW hS hL)
/-- a byte answered -/
theorem V_bret (hB : Bd x l G y Φ) {v : Int32} (hr : y.2.2.2.1 = some .byte) (hn : narrow .byte (.int v) = .int v) (hd : decode y.2.1 pc = .ok (.ireturn, 1)) (h0 : n ≤ y.2.2.2.2.1) (k : Φ (.inl (some (aI v))) τ) : V x τ n pc al [aI v] := by
  obtain ⟨hg, rfl, rfl, rfl, rfl⟩ := hB
  exact s_iret hg hd hr hn ⟨h0, k⟩
theorem V_callK (hB : Bd x l G y Φ) (hno : NoH x) {z : MI} {as : List AV} {Ψ : AOut → Mem → Prop} {nm : Nm} {st : List AV}
    (hs : Sat l G z (.inr nm :: as) τ Ψ) (hst : st = as.reverse ++ .inr nm :: r) (hO : ∀ U H, G.2.2.2.2 U H → va_O z.1.cls (G.2.1 nm) (AA G) U H) (hd : decode y.2.1 pc = .ok (.invokevirtual idx, 3)) (hw : CK y.1.cls idx z) (hp : npar z as.length) (hrm : z.2.2.2.2.2 + 1 ≤ y.2.2.2.2.2 ∧ z.2.2.1 ≤ 21) (hc : acats r ≤ 8)
    (hn : n + z.2.2.2.2.1 ≤ y.2.2.2.2.1) (k : ∀ v τ', Ψ (.inl v) τ' → V x τ' (n + z.2.2.2.2.1) (pc + 3) al (v.toList ++ r)) (kx : ∀ E τ', Ψ (.inr E) τ' → Φ (.inr E) τ') : V x τ n pc al st := by
  subst hst
  have hB0 := hB
  obtain ⟨hg, rfl, rfl, rfl, rfl⟩ := hB
  obtain ⟨l, G, p, e, s, m, args, below, meth, c, y, Φ⟩ := x
  obtain ⟨hx, hb, hown, hts, hml, hlk, hret, hstt, hG, hX⟩ := hg
  obtain ⟨w3, w4, w5, w6, w7, w8, w9⟩ := hw
  intro H locs ls hW hS hL
  refine V_ret hB0 hno (z := z) (Ψ := Ψ) (r := r) (as9 := (.inr nm :: as |>.map (conc G)).toArray) hn k kx H locs ls hW hS hL ?_
  obtain ⟨cell, h1, h2, h3, -⟩ := (hO _ _ hX).kept hS.2.1
  have hin : ∀ w ∈ wsV y.1.cls idx z.1.cls z.1 (Cond.code z.1 z.2.1 z.2.2.1 z.2.2.2.1 :: TBg), w ∈ TBg := by
    intro w h
    simp only [wsV, List.cons_append, List.nil_append, List.mem_cons] at h
    rcases h with rfl | rfl | rfl | rfl | rfl | h
    · exact w3
    · exact w4
    · exact w5
    · exact w6
    · exact w7
    · exact h
  have hgi : GoodIn TBg (wsV y.1.cls idx z.1.cls z.1 (Cond.code z.1 z.2.1 z.2.2.1 z.2.2.2.1 :: TBg)) := fun w h => TBg_good w (hin w h)
  refine vx_runV (As := as.map (conc G)) (n := as.length) (C := z.1.cls) ⟨hx, hb, hml, hown, hts⟩ hs (cwV as.length hts hgi rfl rfl rfl ⟨rfl, w8, w9, hp⟩ (room_ok hrm.1 hrm.2)) ⟨World.blind hG _, ⟨cell, h1, h2, h3⟩, fun U hU hWU => ⟨rfl, (show World G τ U U.heap by rw [hU]; exact hW.moved hG hWU)⟩⟩ rfl (by simp) hL.1 (by simp [conc]) (lv_room (by rw [acats_sum]; exact hc)) hd ⟨hn, by rw [← Nat.mul_add]; exact Nat.mul_le_mul_left _ hn⟩
/-- such a call that answers and leaves the memory -/
theorem V_cK (hB : Bd x l G y Φ) (hno : NoH x) {z : MI} {as : List AV} {v : AV} {nm : Nm} {st : List AV}
    (hs : Sat l G z (.inr nm :: as) τ (retA v τ)) (hst : st = as.reverse ++ .inr nm :: r) (hO : ∀ U H, G.2.2.2.2 U H → va_O z.1.cls (G.2.1 nm) (AA G) U H) (hd : decode y.2.1 pc = .ok (.invokevirtual idx, 3)) (hw : CK y.1.cls idx z) (hp : npar z as.length) (hrm : z.2.2.2.2.2 + 1 ≤ y.2.2.2.2.2 ∧ z.2.2.1 ≤ 21) (hc : acats r ≤ 8)
    (hz : z.2.2.2.2.1 = 0) (hn : n ≤ y.2.2.2.2.1) (k : V x τ n (pc + 3) al (v :: r)) : V x τ n pc al st := by
  refine V_callK hB hno hs hst hO hd hw hp hrm hc (by rw [hz]; exact hn) (fun w τ' h => ?_) (fun E τ' h => by cases h.1)
  obtain ⟨e, rfl⟩ := h
  cases e
  rw [hz]
  exact k
end KO
section KS
variable {l : Launch} {G : GG} {τ : Mem} {k : Nat}
theorem ch128 : ∀ c, c < 128 → nI c &&& nI 255 = nI c ∧ narrow .char (.int (nI c)) = .int (nI c) ∧ ((nI c).toUInt32 % 65536).toInt32 = nI c := by decide +kernel
theorem k_coder (hc : CtxE l G) (hk : k < 9) : Sat l G iJ0_coder_7d493 [.inr (62, k, 0)] τ (retI (nI 0) τ) := by
  refine Sat_ofF hc.1.1 hc.1.2 (by decide +kernel) (Nat.le_of_ble_eq_true rfl) (fun x hB hno => ?_)
  refine V_gets hB (v := aI (nI 1)) (fun U H h => (hc.2 U H h).2.2.2.2.1) (idx := 38) (TBg_at 1068 (by decide +kernel)) (by decide +kernel) ?_
  refine V_run hB (rt := some .byte) (nL := 1) (mc := 0) rfl rfl rfl obJ0_coder_7d493_3 ?_
  dsimp only [bJ0_coder_7d493_3, ↓wpb, ↓wp1, ↓vI, ↓vL, ↓vD, ↓ldI, ↓ldL, ↓ldD, ↓ldR, ↓k1, ↓k2, ↓kI, ↓kL, ↓kD, ↓kII, ↓kLL, ↓kDD, ↓kR, ↓kIR, ↓kLR, ↓kIIR, ↓kLIR, ↓kDIR, ↓kRIR, ↓kNN, ↓kE, ↓br, ↓bn, ↓rtI, ↓gfv, ↓zchk, lput, ldel, lbad, alA, acat, isRf, dom, dS, dJ, isO, aTy, aLen, elAV, elR, Nat.reduceBEq, Nat.reduceAdd, Bool.or, Bool.and, Nat.add_zero, Nat.zero_add]
  try simp only [Nat.reduceLT, Nat.reduceLeDiff, Nat.reduceEqDiff, true_and, and_true, and_self, Nat.zero_le, Nat.le_refl, true_or, or_true, Bool.false_eq_true, not_false_eq_true, Nat.reduceAdd, Nat.lt_add_one, Nat.zero_lt_one, nI_add, pk_mul, ixL, vpL, ne_eq, reduceIte, wI_sN, wL_sM, sN_same, sN_K, sN_2, sM_1, sM_same, sM_K, sM_s, uI_at, uN_at, enc_at, uI_enc, uI_uI, upM_s, upM_n]
  refine ⟨fun q => absurd q (by decide), fun _ => ?_⟩
  refine V_ogf hB (v := aI (nI 0)) (fun U H h => ((hc.2 U H h).2.2.1 k hk).2.1) (idx := 15) (TBg_at 1181 (by decide +kernel)) (by decide +kernel) ?_
  refine V_run hB (rt := some .byte) (nL := 1) (mc := 0) rfl rfl rfl (ops := [(10, .goto 4, 3, (14, 0, 0, 0, 0, 0), 0)]) (by decide +kernel) ?_
  dsimp only [↓wpb, ↓wp1, ↓vI, ↓vL, ↓vD, ↓ldI, ↓ldL, ↓ldD, ↓ldR, ↓k1, ↓k2, ↓kI, ↓kL, ↓kD, ↓kII, ↓kLL, ↓kDD, ↓kR, ↓kIR, ↓kLR, ↓kIIR, ↓kLIR, ↓kDIR, ↓kRIR, ↓kNN, ↓kE, ↓br, ↓bn, ↓rtI, ↓gfv, ↓zchk, lput, ldel, lbad, alA, acat, isRf, dom, dS, dJ, isO, aTy, aLen, elAV, elR, Nat.reduceBEq, Nat.reduceAdd, Bool.or, Bool.and, Nat.add_zero, Nat.zero_add]
  try simp only [Nat.reduceLT, Nat.reduceLeDiff, Nat.reduceEqDiff, true_and, and_true, and_self, Nat.zero_le, Nat.le_refl, true_or, or_true, Bool.false_eq_true, not_false_eq_true, Nat.reduceAdd, Nat.lt_add_one, Nat.zero_lt_one, nI_add, pk_mul, ixL, vpL, ne_eq, reduceIte, wI_sN, wL_sM, sN_same, sN_K, sN_2, sM_1, sM_same, sM_K, sM_s, uI_at, uN_at, enc_at, uI_enc, uI_uI, upM_s, upM_n]
  exact V_bret hB rfl (by decide +kernel) (by decide +kernel) (Nat.zero_le _) ⟨rfl, rfl⟩
theorem k_isLatin1 (hc : CtxE l G) (hk : k < 9) : Sat l G iJ0_isLatin1_aae02 [.inr (62, k, 0)] τ (retI (nI 1) τ) := by
  refine Sat_ofF hc.1.1 hc.1.2 (by decide +kernel) (Nat.le_of_ble_eq_true rfl) (fun x hB hno => ?_)
  refine V_gets hB (v := aI (nI 1)) (fun U H h => (hc.2 U H h).2.2.2.2.1) (idx := 38) (TBg_at 1068 (by decide +kernel)) (by decide +kernel) ?_
  refine V_run hB (rt := some .boolean) (nL := 1) (mc := 0) rfl rfl rfl obJ0_isLatin1_aae02_3 ?_
  dsimp only [bJ0_isLatin1_aae02_3, ↓wpb, ↓wp1, ↓vI, ↓vL, ↓vD, ↓ldI, ↓ldL, ↓ldD, ↓ldR, ↓k1, ↓k2, ↓kI, ↓kL, ↓kD, ↓kII, ↓kLL, ↓kDD, ↓kR, ↓kIR, ↓kLR, ↓kIIR, ↓kLIR, ↓kDIR, ↓kRIR, ↓kNN, ↓kE, ↓br, ↓bn, ↓rtI, ↓gfv, ↓zchk, lput, ldel, lbad, alA, acat, isRf, dom, dS, dJ, isO, aTy, aLen, elAV, elR, Nat.reduceBEq, Nat.reduceAdd, Bool.or, Bool.and, Nat.add_zero, Nat.zero_add]
  try simp only [Nat.reduceLT, Nat.reduceLeDiff, Nat.reduceEqDiff, true_and, and_true, and_self, Nat.zero_le, Nat.le_refl, true_or, or_true, Bool.false_eq_true, not_false_eq_true, Nat.reduceAdd, Nat.lt_add_one, Nat.zero_lt_one, nI_add, pk_mul, ixL, vpL, ne_eq, reduceIte, wI_sN, wL_sM, sN_same, sN_K, sN_2, sM_1, sM_same, sM_K, sM_s, uI_at, uN_at, enc_at, uI_enc, uI_uI, upM_s, upM_n]
  refine ⟨fun q => absurd q (by decide), fun _ => ?_⟩
  refine V_ogf hB (v := aI (nI 0)) (fun U H h => ((hc.2 U H h).2.2.1 k hk).2.1) (idx := 15) (TBg_at 1181 (by decide +kernel)) (by decide +kernel) ?_
  refine V_run hB (rt := some .boolean) (nL := 1) (mc := 0) rfl rfl rfl obJ0_isLatin1_aae02_10 ?_
  dsimp only [bJ0_isLatin1_aae02_10, ↓wpb, ↓wp1, ↓vI, ↓vL, ↓vD, ↓ldI, ↓ldL, ↓ldD, ↓ldR, ↓k1, ↓k2, ↓kI, ↓kL, ↓kD, ↓kII, ↓kLL, ↓kDD, ↓kR, ↓kIR, ↓kLR, ↓kIIR, ↓kLIR, ↓kDIR, ↓kRIR, ↓kNN, ↓kE, ↓br, ↓bn, ↓rtI, ↓gfv, ↓zchk, lput, ldel, lbad, alA, acat, isRf, dom, dS, dJ, isO, aTy, aLen, elAV, elR, Nat.reduceBEq, Nat.reduceAdd, Bool.or, Bool.and, Nat.add_zero, Nat.zero_add]
  try simp only [Nat.reduceLT, Nat.reduceLeDiff, Nat.reduceEqDiff, true_and, and_true, and_self, Nat.zero_le, Nat.le_refl, true_or, or_true, Bool.false_eq_true, not_false_eq_true, Nat.reduceAdd, Nat.lt_add_one, Nat.zero_lt_one, nI_add, pk_mul, ixL, vpL, ne_eq, reduceIte, wI_sN, wL_sM, sN_same, sN_K, sN_2, sM_1, sM_same, sM_K, sM_s, uI_at, uN_at, enc_at, uI_enc, uI_uI, upM_s, upM_n]
  refine ⟨fun q => absurd rfl q, fun _ => ?_⟩
  refine V_run hB (rt := some .boolean) (nL := 1) (mc := 0) rfl rfl rfl obJ0_isLatin1_aae02_18 ?_
  dsimp only [bJ0_isLatin1_aae02_18, ↓wpb, ↓wp1, ↓vI, ↓vL, ↓vD, ↓ldI, ↓ldL, ↓ldD, ↓ldR, ↓k1, ↓k2, ↓kI, ↓kL, ↓kD, ↓kII, ↓kLL, ↓kDD, ↓kR, ↓kIR, ↓kLR, ↓kIIR, ↓kLIR, ↓kDIR, ↓kRIR, ↓kNN, ↓kE, ↓br, ↓bn, ↓rtI, ↓gfv, ↓zchk, lput, ldel, lbad, alA, acat, isRf, dom, dS, dJ, isO, aTy, aLen, elAV, elR, Nat.reduceBEq, Nat.reduceAdd, Bool.or, Bool.and, Nat.add_zero, Nat.zero_add]
  try simp only [Nat.reduceLT, Nat.reduceLeDiff, Nat.reduceEqDiff, true_and, and_true, and_self, Nat.zero_le, Nat.le_refl, true_or, or_true, Bool.false_eq_true, not_false_eq_true, Nat.reduceAdd, Nat.lt_add_one, Nat.zero_lt_one, nI_add, pk_mul, ixL, vpL, ne_eq, reduceIte, wI_sN, wL_sM, sN_same, sN_K, sN_2, sM_1, sM_same, sM_K, sM_s, uI_at, uN_at, enc_at, uI_enc, uI_uI, upM_s, upM_n]
  exact ⟨by decide, rfl, rfl⟩
theorem k_length (hc : CtxE l G) (hk : k < 9) : Sat l G iJ0_length_8abf5 [.inr (62, k, 0)] τ (retI (nI (fmL k).length) τ) := by
  have hl := (fmL_ok k hk).1
  have es : nI (fmL k).length >>> (nI 0 &&& 31) = nI (fmL k).length := by rw [show nI 0 &&& 31 = (0 : Int32) from by decide, Int32.shiftRight_zero]
  refine Sat_ofF hc.1.1 hc.1.2 (by decide +kernel) (Nat.le_of_ble_eq_true rfl) (fun x hB hno => ?_)
  refine V_run hB (rt := some .int) (nL := 1) (mc := 0) rfl rfl rfl obJ0_length_8abf5_0 ?_
  dsimp only [bJ0_length_8abf5_0, ↓wpb, ↓wp1, ↓vI, ↓vL, ↓vD, ↓ldI, ↓ldL, ↓ldD, ↓ldR, ↓k1, ↓k2, ↓kI, ↓kL, ↓kD, ↓kII, ↓kLL, ↓kDD, ↓kR, ↓kIR, ↓kLR, ↓kIIR, ↓kLIR, ↓kDIR, ↓kRIR, ↓kNN, ↓kE, ↓br, ↓bn, ↓rtI, ↓gfv, ↓zchk, lput, ldel, lbad, alA, acat, isRf, dom, dS, dJ, isO, aTy, aLen, elAV, elR, Nat.reduceBEq, Nat.reduceAdd, Bool.or, Bool.and, Nat.add_zero, Nat.zero_add]
  try simp only [Nat.reduceLT, Nat.reduceLeDiff, Nat.reduceEqDiff, true_and, and_true, and_self, Nat.zero_le, Nat.le_refl, true_or, or_true, Bool.false_eq_true, not_false_eq_true, Nat.reduceAdd, Nat.lt_add_one, Nat.zero_lt_one, nI_add, pk_mul, ixL, vpL, ne_eq, reduceIte, wI_sN, wL_sM, sN_same, sN_K, sN_2, sM_1, sM_same, sM_K, sM_s, uI_at, uN_at, enc_at, uI_enc, uI_uI, upM_s, upM_n]
  refine V_ogf hB (v := .inr (63, k, 0)) (fun U H h => ((hc.2 U H h).2.2.1 k hk).2.2.1) (idx := 9) (TBg_at 1180 (by decide +kernel)) (by decide +kernel) ?_
  refine V_tlen hB (fun U H h => ((hc.2 U H h).2.2.1 k hk).2.2.2) (by decide +kernel) ?_
  refine V_run hB (rt := some .int) (nL := 1) (mc := 0) rfl rfl rfl (ops := [(5, .aload_n 0, 1, (0, 0, 0, 0, 0, 0), 0)]) (by decide +kernel) ?_
  dsimp only [↓wpb, ↓wp1, ↓vI, ↓vL, ↓vD, ↓ldI, ↓ldL, ↓ldD, ↓ldR, ↓k1, ↓k2, ↓kI, ↓kL, ↓kD, ↓kII, ↓kLL, ↓kDD, ↓kR, ↓kIR, ↓kLR, ↓kIIR, ↓kLIR, ↓kDIR, ↓kRIR, ↓kNN, ↓kE, ↓br, ↓bn, ↓rtI, ↓gfv, ↓zchk, lput, ldel, lbad, alA, acat, isRf, dom, dS, dJ, isO, aTy, aLen, elAV, elR, Nat.reduceBEq, Nat.reduceAdd, Bool.or, Bool.and, Nat.add_zero, Nat.zero_add]
  try simp only [Nat.reduceLT, Nat.reduceLeDiff, Nat.reduceEqDiff, true_and, and_true, and_self, Nat.zero_le, Nat.le_refl, true_or, or_true, Bool.false_eq_true, not_false_eq_true, Nat.reduceAdd, Nat.lt_add_one, Nat.zero_lt_one, nI_add, pk_mul, ixL, vpL, ne_eq, reduceIte, wI_sN, wL_sM, sN_same, sN_K, sN_2, sM_1, sM_same, sM_K, sM_s, uI_at, uN_at, enc_at, uI_enc, uI_uI, upM_s, upM_n]
  refine V_cK hB hno (k_coder hc hk) rfl (fun U H h => ((hc.2 U H h).2.2.1 k hk).1) (by decide +kernel) ckJ0_335 npJ0_coder_7d493 ⟨by decide, by decide⟩ (Nat.le_of_ble_eq_true rfl) rfl (Nat.zero_le _) ?_
  refine V_run hB (rt := some .int) (nL := 1) (mc := 0) rfl rfl rfl obJ0_length_8abf5_9 ?_
  dsimp only [bJ0_length_8abf5_9, ↓wpb, ↓wp1, ↓vI, ↓vL, ↓vD, ↓ldI, ↓ldL, ↓ldD, ↓ldR, ↓k1, ↓k2, ↓kI, ↓kL, ↓kD, ↓kII, ↓kLL, ↓kDD, ↓kR, ↓kIR, ↓kLR, ↓kIIR, ↓kLIR, ↓kDIR, ↓kRIR, ↓kNN, ↓kE, ↓br, ↓bn, ↓rtI, ↓gfv, ↓zchk, lput, ldel, lbad, alA, acat, isRf, dom, dS, dJ, isO, aTy, aLen, elAV, elR, Nat.reduceBEq, Nat.reduceAdd, Bool.or, Bool.and, Nat.add_zero, Nat.zero_add]
  try simp only [Nat.reduceLT, Nat.reduceLeDiff, Nat.reduceEqDiff, true_and, and_true, and_self, Nat.zero_le, Nat.le_refl, true_or, or_true, Bool.false_eq_true, not_false_eq_true, Nat.reduceAdd, Nat.lt_add_one, Nat.zero_lt_one, nI_add, pk_mul, ixL, vpL, ne_eq, reduceIte, wI_sN, wL_sM, sN_same, sN_K, sN_2, sM_1, sM_same, sM_K, sM_s, uI_at, uN_at, enc_at, uI_enc, uI_uI, upM_s, upM_n, es]
  exact ⟨rfl, rfl⟩
theorem k_checkIndex3 (hc : CtxE l G) {i n : Nat} (hi : i < n) (hn : n < 2147483648) {v : Value} (hv : v = .null ∨ ∃ q, v = .ref q) : Sat l G iJ3_checkIndex_8e157 [aI (nI i), aI (nI n), .inl v] τ (retI (nI i) τ) := by
  refine Sat_ofF hc.1.1 hc.1.2 (by decide +kernel) (by rcases hv with rfl | ⟨q, rfl⟩ <;> exact Nat.le_of_ble_eq_true rfl) (fun x hB hno => ?_)
  refine V.sub (al' := [(0, aI (nI i)), (1, aI (nI n))]) ?_ (List.forall_mem_cons.mpr ⟨rfl, List.forall_mem_cons.mpr ⟨rfl, fun _ h => absurd h List.not_mem_nil⟩⟩)
  refine V_run hB (rt := some .int) (nL := 3) (mc := 0) rfl rfl rfl obJ3_checkIndex_8e157_0 ?_
  dsimp only [bJ3_checkIndex_8e157_0, ↓wpb, ↓wp1, ↓vI, ↓vL, ↓vD, ↓ldI, ↓ldL, ↓ldD, ↓ldR, ↓k1, ↓k2, ↓kI, ↓kL, ↓kD, ↓kII, ↓kLL, ↓kDD, ↓kR, ↓kIR, ↓kLR, ↓kIIR, ↓kLIR, ↓kDIR, ↓kRIR, ↓kNN, ↓kE, ↓br, ↓bn, ↓rtI, ↓gfv, ↓zchk, lput, ldel, lbad, alA, acat, isRf, dom, dS, dJ, isO, aTy, aLen, elAV, elR, Nat.reduceBEq, Nat.reduceAdd, Bool.or, Bool.and, Nat.add_zero, Nat.zero_add]
  try simp only [Nat.reduceLT, Nat.reduceLeDiff, Nat.reduceEqDiff, true_and, and_true, and_self, Nat.zero_le, Nat.le_refl, true_or, or_true, Bool.false_eq_true, not_false_eq_true, Nat.reduceAdd, Nat.lt_add_one, Nat.zero_lt_one, nI_add, pk_mul, ixL, vpL, ne_eq, reduceIte, wI_sN, wL_sM, sN_same, sN_K, sN_2, sM_1, sM_same, sM_K, sM_s, uI_at, uN_at, enc_at, uI_enc, uI_uI, upM_s, upM_n]
  refine ⟨fun q => absurd q (nI_pos (by omega)), fun _ => ⟨fun _ => ?_, fun q => absurd (nI_lt hi hn) q⟩⟩
  refine V_run hB (rt := some .int) (nL := 3) (mc := 0) rfl rfl rfl obJ3_checkIndex_8e157_16 ?_
  dsimp only [bJ3_checkIndex_8e157_16, ↓wpb, ↓wp1, ↓vI, ↓vL, ↓vD, ↓ldI, ↓ldL, ↓ldD, ↓ldR, ↓k1, ↓k2, ↓kI, ↓kL, ↓kD, ↓kII, ↓kLL, ↓kDD, ↓kR, ↓kIR, ↓kLR, ↓kIIR, ↓kLIR, ↓kDIR, ↓kRIR, ↓kNN, ↓kE, ↓br, ↓bn, ↓rtI, ↓gfv, ↓zchk, lput, ldel, lbad, alA, acat, isRf, dom, dS, dJ, isO, aTy, aLen, elAV, elR, Nat.reduceBEq, Nat.reduceAdd, Bool.or, Bool.and, Nat.add_zero, Nat.zero_add]
  try simp only [Nat.reduceLT, Nat.reduceLeDiff, Nat.reduceEqDiff, true_and, and_true, and_self, Nat.zero_le, Nat.le_refl, true_or, or_true, Bool.false_eq_true, not_false_eq_true, Nat.reduceAdd, Nat.lt_add_one, Nat.zero_lt_one, nI_add, pk_mul, ixL, vpL, ne_eq, reduceIte, wI_sN, wL_sM, sN_same, sN_K, sN_2, sM_1, sM_same, sM_K, sM_s, uI_at, uN_at, enc_at, uI_enc, uI_uI, upM_s, upM_n]
  exact ⟨rfl, rfl⟩
theorem k_checkIndex0 (hc : CtxE l G) {i n : Nat} (hi : i < n) (hn : n < 2147483648) : Sat l G iJ0_checkIndex_df160 [aI (nI i), aI (nI n)] τ (retV τ) := by
  refine Sat_ofF hc.1.1 hc.1.2 (by decide +kernel) (Nat.le_of_ble_eq_true rfl) (fun x hB hno => ?_)
  refine V_run hB (rt := none) (nL := 2) (mc := 0) rfl rfl rfl obJ0_checkIndex_df160_0 ?_
  dsimp only [bJ0_checkIndex_df160_0, ↓wpb, ↓wp1, ↓vI, ↓vL, ↓vD, ↓ldI, ↓ldL, ↓ldD, ↓ldR, ↓k1, ↓k2, ↓kI, ↓kL, ↓kD, ↓kII, ↓kLL, ↓kDD, ↓kR, ↓kIR, ↓kLR, ↓kIIR, ↓kLIR, ↓kDIR, ↓kRIR, ↓kNN, ↓kE, ↓br, ↓bn, ↓rtI, ↓gfv, ↓zchk, lput, ldel, lbad, alA, acat, isRf, dom, dS, dJ, isO, aTy, aLen, elAV, elR, Nat.reduceBEq, Nat.reduceAdd, Bool.or, Bool.and, Nat.add_zero, Nat.zero_add]
  try simp only [Nat.reduceLT, Nat.reduceLeDiff, Nat.reduceEqDiff, true_and, and_true, and_self, Nat.zero_le, Nat.le_refl, true_or, or_true, Bool.false_eq_true, not_false_eq_true, Nat.reduceAdd, Nat.lt_add_one, Nat.zero_lt_one, nI_add, pk_mul, ixL, vpL, ne_eq, reduceIte, wI_sN, wL_sM, sN_same, sN_K, sN_2, sM_1, sM_same, sM_K, sM_s, uI_at, uN_at, enc_at, uI_enc, uI_uI, upM_s, upM_n]
  refine V_getsq hB (fun U H h => (hc.2 U H h).2.2.2.2.2) (idx := 1053) (TBg_at 1046 (by decide +kernel)) (by decide +kernel) (fun v hv => ?_)
  refine V_cS hB hno (k_checkIndex3 hc hi hn hv) rfl (by decide +kernel) csJ0_1059 npJ3_checkIndex_8e157 ⟨by decide, by decide⟩ (Nat.le_of_ble_eq_true rfl) (n' := 0) (by decide) rfl ?_
  refine V_run hB (rt := none) (nL := 2) (mc := 0) rfl rfl rfl obJ0_checkIndex_df160_8 ?_
  dsimp only [bJ0_checkIndex_df160_8, ↓wpb, ↓wp1, ↓vI, ↓vL, ↓vD, ↓ldI, ↓ldL, ↓ldD, ↓ldR, ↓k1, ↓k2, ↓kI, ↓kL, ↓kD, ↓kII, ↓kLL, ↓kDD, ↓kR, ↓kIR, ↓kLR, ↓kIIR, ↓kLIR, ↓kDIR, ↓kRIR, ↓kNN, ↓kE, ↓br, ↓bn, ↓rtI, ↓gfv, ↓zchk, lput, ldel, lbad, alA, acat, isRf, dom, dS, dJ, isO, aTy, aLen, elAV, elR, Nat.reduceBEq, Nat.reduceAdd, Bool.or, Bool.and, Nat.add_zero, Nat.zero_add]
  try simp only [Nat.reduceLT, Nat.reduceLeDiff, Nat.reduceEqDiff, true_and, and_true, and_self, Nat.zero_le, Nat.le_refl, true_or, or_true, Bool.false_eq_true, not_false_eq_true, Nat.reduceAdd, Nat.lt_add_one, Nat.zero_lt_one, nI_add, pk_mul, ixL, vpL, ne_eq, reduceIte, wI_sN, wL_sM, sN_same, sN_K, sN_2, sM_1, sM_same, sM_K, sM_s, uI_at, uN_at, enc_at, uI_enc, uI_uI, upM_s, upM_n]
  exact ⟨rfl, rfl⟩
theorem k_latCharAt (hc : CtxE l G) (hk : k < 9) {i : Nat} (hi : i < (fmL k).length) : Sat l G iJ1_charAt_3b067 [.inr (63, k, 0), aI (nI i)] τ (retI (nI ((fmL k).getD i 0)) τ) := by
  have hl := (fmL_ok k hk).1
  have hch : (fmL k).getD i 0 < 128 := by
    rw [List.getD_eq_getElem?_getD, List.getElem?_eq_getElem hi]
    exact (fmL_ok k hk).2 _ (List.getElem_mem hi)
  obtain ⟨e1, e2, e3⟩ := ch128 _ hch
  refine Sat_ofF hc.1.1 hc.1.2 (by decide +kernel) (Nat.le_of_ble_eq_true rfl) (fun x hB hno => ?_)
  refine V_run hB (rt := some .char) (nL := 2) (mc := 0) rfl rfl rfl (ops := [(0, .iload_n 1, 1, (1, 0, 0, 0, 0, 0), 0), (1, .aload_n 0, 1, (0, 0, 0, 0, 0, 0), 0)]) (by decide +kernel) ?_
  dsimp only [↓wpb, ↓wp1, ↓vI, ↓vL, ↓vD, ↓ldI, ↓ldL, ↓ldD, ↓ldR, ↓k1, ↓k2, ↓kI, ↓kL, ↓kD, ↓kII, ↓kLL, ↓kDD, ↓kR, ↓kIR, ↓kLR, ↓kIIR, ↓kLIR, ↓kDIR, ↓kRIR, ↓kNN, ↓kE, ↓br, ↓bn, ↓rtI, ↓gfv, ↓zchk, lput, ldel, lbad, alA, acat, isRf, dom, dS, dJ, isO, aTy, aLen, elAV, elR, Nat.reduceBEq, Nat.reduceAdd, Bool.or, Bool.and, Nat.add_zero, Nat.zero_add]
  try simp only [Nat.reduceLT, Nat.reduceLeDiff, Nat.reduceEqDiff, true_and, and_true, and_self, Nat.zero_le, Nat.le_refl, true_or, or_true, Bool.false_eq_true, not_false_eq_true, Nat.reduceAdd, Nat.lt_add_one, Nat.zero_lt_one, nI_add, pk_mul, ixL, vpL, ne_eq, reduceIte, wI_sN, wL_sM, sN_same, sN_K, sN_2, sM_1, sM_same, sM_K, sM_s, uI_at, uN_at, enc_at, uI_enc, uI_uI, upM_s, upM_n]
  refine V_tlen hB (fun U H h => ((hc.2 U H h).2.2.1 k hk).2.2.2) (by decide +kernel) ?_
  refine V_cSv hB hno (k_checkIndex0 hc hi (by omega)) rfl (by decide +kernel) csJ1_9 npJ0_checkIndex_df160 ⟨by decide, by decide⟩ (Nat.le_of_ble_eq_true rfl) (n' := 0) (by decide) rfl ?_
  refine V_run hB (rt := some .char) (nL := 2) (mc := 0) rfl rfl rfl obJ1_charAt_3b067_6 ?_
  dsimp only [bJ1_charAt_3b067_6, ↓wpb, ↓wp1, ↓vI, ↓vL, ↓vD, ↓ldI, ↓ldL, ↓ldD, ↓ldR, ↓k1, ↓k2, ↓kI, ↓kL, ↓kD, ↓kII, ↓kLL, ↓kDD, ↓kR, ↓kIR, ↓kLR, ↓kIIR, ↓kLIR, ↓kDIR, ↓kRIR, ↓kNN, ↓kE, ↓br, ↓bn, ↓rtI, ↓gfv, ↓zchk, lput, ldel, lbad, alA, acat, isRf, dom, dS, dJ, isO, aTy, aLen, elAV, elR, Nat.reduceBEq, Nat.reduceAdd, Bool.or, Bool.and, Nat.add_zero, Nat.zero_add]
  try simp only [Nat.reduceLT, Nat.reduceLeDiff, Nat.reduceEqDiff, true_and, and_true, and_self, Nat.zero_le, Nat.le_refl, true_or, or_true, Bool.false_eq_true, not_false_eq_true, Nat.reduceAdd, Nat.lt_add_one, Nat.zero_lt_one, nI_add, pk_mul, ixL, vpL, ne_eq, reduceIte, wI_sN, wL_sM, sN_same, sN_K, sN_2, sM_1, sM_same, sM_K, sM_s, uI_at, uN_at, enc_at, uI_enc, uI_uI, upM_s, upM_n]
  refine V_tba hB (f := fun j => nI ((fmL k).getD j 0)) (fun U H h => ((hc.2 U H h).2.2.1 k hk).2.2.2) hi (by omega) (by decide +kernel) ?_
  refine V_run hB (rt := some .char) (nL := 2) (mc := 0) rfl rfl rfl obJ1_charAt_3b067_9 ?_
  dsimp only [bJ1_charAt_3b067_9, ↓wpb, ↓wp1, ↓vI, ↓vL, ↓vD, ↓ldI, ↓ldL, ↓ldD, ↓ldR, ↓k1, ↓k2, ↓kI, ↓kL, ↓kD, ↓kII, ↓kLL, ↓kDD, ↓kR, ↓kIR, ↓kLR, ↓kIIR, ↓kLIR, ↓kDIR, ↓kRIR, ↓kNN, ↓kE, ↓br, ↓bn, ↓rtI, ↓gfv, ↓zchk, lput, ldel, lbad, alA, acat, isRf, dom, dS, dJ, isO, aTy, aLen, elAV, elR, Nat.reduceBEq, Nat.reduceAdd, Bool.or, Bool.and, Nat.add_zero, Nat.zero_add]
  try simp only [Nat.reduceLT, Nat.reduceLeDiff, Nat.reduceEqDiff, true_and, and_true, and_self, Nat.zero_le, Nat.le_refl, true_or, or_true, Bool.false_eq_true, not_false_eq_true, Nat.reduceAdd, Nat.lt_add_one, Nat.zero_lt_one, nI_add, pk_mul, ixL, vpL, ne_eq, reduceIte, wI_sN, wL_sM, sN_same, sN_K, sN_2, sM_1, sM_same, sM_K, sM_s, uI_at, uN_at, enc_at, uI_enc, uI_uI, upM_s, upM_n, e1, e3]
  exact ⟨e2, rfl, rfl⟩
theorem k_charAt (hc : CtxE l G) (hk : k < 9) {i : Nat} (hi : i < (fmL k).length) : Sat l G iJ0_charAt_5068e [.inr (62, k, 0), aI (nI i)] τ (retI (nI ((fmL k).getD i 0)) τ) := by
  have hch : (fmL k).getD i 0 < 128 := by
    rw [List.getD_eq_getElem?_getD, List.getElem?_eq_getElem hi]
    exact (fmL_ok k hk).2 _ (List.getElem_mem hi)
  obtain ⟨e1, e2, e3⟩ := ch128 _ hch
  refine Sat_ofF hc.1.1 hc.1.2 (by decide +kernel) (Nat.le_of_ble_eq_true rfl) (fun x hB hno => ?_)
  refine V_run hB (rt := some .char) (nL := 2) (mc := 0) rfl rfl rfl obJ0_charAt_5068e_0 ?_
  dsimp only [bJ0_charAt_5068e_0, ↓wpb, ↓wp1, ↓vI, ↓vL, ↓vD, ↓ldI, ↓ldL, ↓ldD, ↓ldR, ↓k1, ↓k2, ↓kI, ↓kL, ↓kD, ↓kII, ↓kLL, ↓kDD, ↓kR, ↓kIR, ↓kLR, ↓kIIR, ↓kLIR, ↓kDIR, ↓kRIR, ↓kNN, ↓kE, ↓br, ↓bn, ↓rtI, ↓gfv, ↓zchk, lput, ldel, lbad, alA, acat, isRf, dom, dS, dJ, isO, aTy, aLen, elAV, elR, Nat.reduceBEq, Nat.reduceAdd, Bool.or, Bool.and, Nat.add_zero, Nat.zero_add]
  try simp only [Nat.reduceLT, Nat.reduceLeDiff, Nat.reduceEqDiff, true_and, and_true, and_self, Nat.zero_le, Nat.le_refl, true_or, or_true, Bool.false_eq_true, not_false_eq_true, Nat.reduceAdd, Nat.lt_add_one, Nat.zero_lt_one, nI_add, pk_mul, ixL, vpL, ne_eq, reduceIte, wI_sN, wL_sM, sN_same, sN_K, sN_2, sM_1, sM_same, sM_K, sM_s, uI_at, uN_at, enc_at, uI_enc, uI_uI, upM_s, upM_n]
  refine V_cK hB hno (k_isLatin1 hc hk) rfl (fun U H h => ((hc.2 U H h).2.2.1 k hk).1) (by decide +kernel) ckJ0_492 npJ0_isLatin1_aae02 ⟨by decide, by decide⟩ (Nat.le_of_ble_eq_true rfl) rfl (Nat.zero_le _) ?_
  refine V_run hB (rt := some .char) (nL := 2) (mc := 0) rfl rfl rfl obJ0_charAt_5068e_4 ?_
  dsimp only [bJ0_charAt_5068e_4, ↓wpb, ↓wp1, ↓vI, ↓vL, ↓vD, ↓ldI, ↓ldL, ↓ldD, ↓ldR, ↓k1, ↓k2, ↓kI, ↓kL, ↓kD, ↓kII, ↓kLL, ↓kDD, ↓kR, ↓kIR, ↓kLR, ↓kIIR, ↓kLIR, ↓kDIR, ↓kRIR, ↓kNN, ↓kE, ↓br, ↓bn, ↓rtI, ↓gfv, ↓zchk, lput, ldel, lbad, alA, acat, isRf, dom, dS, dJ, isO, aTy, aLen, elAV, elR, Nat.reduceBEq, Nat.reduceAdd, Bool.or, Bool.and, Nat.add_zero, Nat.zero_add]
  try simp only [Nat.reduceLT, Nat.reduceLeDiff, Nat.reduceEqDiff, true_and, and_true, and_self, Nat.zero_le, Nat.le_refl, true_or, or_true, Bool.false_eq_true, not_false_eq_true, Nat.reduceAdd, Nat.lt_add_one, Nat.zero_lt_one, nI_add, pk_mul, ixL, vpL, ne_eq, reduceIte, wI_sN, wL_sM, sN_same, sN_K, sN_2, sM_1, sM_same, sM_K, sM_s, uI_at, uN_at, enc_at, uI_enc, uI_uI, upM_s, upM_n]
  refine ⟨fun q => absurd q (by decide), fun _ => ?_⟩
  refine V_ogf hB (v := .inr (63, k, 0)) (fun U H h => ((hc.2 U H h).2.2.1 k hk).2.2.1) (idx := 9) (TBg_at 1180 (by decide +kernel)) (by decide +kernel) ?_
  refine V_run hB (rt := some .char) (nL := 2) (mc := 0) rfl rfl rfl obJ0_charAt_5068e_11 ?_
  dsimp only [bJ0_charAt_5068e_11, ↓wpb, ↓wp1, ↓vI, ↓vL, ↓vD, ↓ldI, ↓ldL, ↓ldD, ↓ldR, ↓k1, ↓k2, ↓kI, ↓kL, ↓kD, ↓kII, ↓kLL, ↓kDD, ↓kR, ↓kIR, ↓kLR, ↓kIIR, ↓kLIR, ↓kDIR, ↓kRIR, ↓kNN, ↓kE, ↓br, ↓bn, ↓rtI, ↓gfv, ↓zchk, lput, ldel, lbad, alA, acat, isRf, dom, dS, dJ, isO, aTy, aLen, elAV, elR, Nat.reduceBEq, Nat.reduceAdd, Bool.or, Bool.and, Nat.add_zero, Nat.zero_add]
  try simp only [Nat.reduceLT, Nat.reduceLeDiff, Nat.reduceEqDiff, true_and, and_true, and_self, Nat.zero_le, Nat.le_refl, true_or, or_true, Bool.false_eq_true, not_false_eq_true, Nat.reduceAdd, Nat.lt_add_one, Nat.zero_lt_one, nI_add, pk_mul, ixL, vpL, ne_eq, reduceIte, wI_sN, wL_sM, sN_same, sN_K, sN_2, sM_1, sM_same, sM_K, sM_s, uI_at, uN_at, enc_at, uI_enc, uI_uI, upM_s, upM_n]
  refine V_cS hB hno (k_latCharAt hc hk hi) rfl (by decide +kernel) csJ0_495 npJ1_charAt_3b067 ⟨by decide, by decide⟩ (Nat.le_of_ble_eq_true rfl) (n' := 0) (by decide) rfl ?_
  refine V_run hB (rt := some .char) (nL := 2) (mc := 0) rfl rfl rfl obJ0_charAt_5068e_15 ?_
  dsimp only [bJ0_charAt_5068e_15, ↓wpb, ↓wp1, ↓vI, ↓vL, ↓vD, ↓ldI, ↓ldL, ↓ldD, ↓ldR, ↓k1, ↓k2, ↓kI, ↓kL, ↓kD, ↓kII, ↓kLL, ↓kDD, ↓kR, ↓kIR, ↓kLR, ↓kIIR, ↓kLIR, ↓kDIR, ↓kRIR, ↓kNN, ↓kE, ↓br, ↓bn, ↓rtI, ↓gfv, ↓zchk, lput, ldel, lbad, alA, acat, isRf, dom, dS, dJ, isO, aTy, aLen, elAV, elR, Nat.reduceBEq, Nat.reduceAdd, Bool.or, Bool.and, Nat.add_zero, Nat.zero_add]
  try simp only [Nat.reduceLT, Nat.reduceLeDiff, Nat.reduceEqDiff, true_and, and_true, and_self, Nat.zero_le, Nat.le_refl, true_or, or_true, Bool.false_eq_true, not_false_eq_true, Nat.reduceAdd, Nat.lt_add_one, Nat.zero_lt_one, nI_add, pk_mul, ixL, vpL, ne_eq, reduceIte, wI_sN, wL_sM, sN_same, sN_K, sN_2, sM_1, sM_same, sM_K, sM_s, uI_at, uN_at, enc_at, uI_enc, uI_uI, upM_s, upM_n]
  exact ⟨e2, rfl, rfl⟩
end KS
