/-! ===== the JDK methods that the class calls: facts of the tables, stretches ===== -/
def iJ9_floorMod_7cf53 : MI := (yJ9_floorMod_7cf53, cJ9_floorMod_7cf53, 3, some .int, 0, 3)
theorem npJ9_floorMod_7cf53 : npar iJ9_floorMod_7cf53 2 := (by decide +kernel : (parseMethodDescriptor yJ9_floorMod_7cf53.desc).map (fun d => d.parameters.length) = some 2)
def iJ9_max_7cf53 : MI := (yJ9_max_7cf53, cJ9_max_7cf53, 2, some .int, 0, 3)
theorem npJ9_max_7cf53 : npar iJ9_max_7cf53 2 := (by decide +kernel : (parseMethodDescriptor yJ9_max_7cf53.desc).map (fun d => d.parameters.length) = some 2)
def iJ9_min_7cf53 : MI := (yJ9_min_7cf53, cJ9_min_7cf53, 2, some .int, 0, 3)
theorem npJ9_min_7cf53 : npar iJ9_min_7cf53 2 := (by decide +kernel : (parseMethodDescriptor yJ9_min_7cf53.desc).map (fun d => d.parameters.length) = some 2)
def iJ7_fill_53178 : MI := (yJ7_fill_53178, cJ7_fill_53178, 4, none, 0, 3)
theorem npJ7_fill_53178 : npar iJ7_fill_53178 2 := (by decide +kernel : (parseMethodDescriptor yJ7_fill_53178.desc).map (fun d => d.parameters.length) = some 2)
def iJ7_fill_fda19 : MI := (yJ7_fill_fda19, cJ7_fill_fda19, 5, none, 0, 4)
theorem npJ7_fill_fda19 : npar iJ7_fill_fda19 4 := (by decide +kernel : (parseMethodDescriptor yJ7_fill_fda19.desc).map (fun d => d.parameters.length) = some 4)
def iJ7_rangeCheck_23922 : MI := (yJ7_rangeCheck_23922, cJ7_rangeCheck_23922, 3, none, 0, 3)
theorem npJ7_rangeCheck_23922 : npar iJ7_rangeCheck_23922 3 := (by decide +kernel : (parseMethodDescriptor yJ7_rangeCheck_23922.desc).map (fun d => d.parameters.length) = some 3)
theorem csX2_19 : CS RX2 19 iJ7_fill_53178 := ⟨TBg_at 116 (by decide +kernel), TBg_at 117 (by decide +kernel), TBg_at 65 (by decide +kernel), TBg_at 118 (by decide +kernel), by decide +kernel, by decide +kernel⟩
theorem csX2_38 : CS RX2 38 iJ9_floorMod_7cf53 := ⟨TBg_at 454 (by decide +kernel), TBg_at 455 (by decide +kernel), TBg_at 84 (by decide +kernel), TBg_at 456 (by decide +kernel), by decide +kernel, by decide +kernel⟩
theorem csX4_53 : CS RX4 53 iJ7_fill_53178 := ⟨TBg_at 473 (by decide +kernel), TBg_at 117 (by decide +kernel), TBg_at 65 (by decide +kernel), TBg_at 118 (by decide +kernel), by decide +kernel, by decide +kernel⟩
theorem csX4_77 : CS RX4 77 iJ9_max_7cf53 := ⟨TBg_at 490 (by decide +kernel), TBg_at 491 (by decide +kernel), TBg_at 84 (by decide +kernel), TBg_at 492 (by decide +kernel), by decide +kernel, by decide +kernel⟩
theorem csX5_29 : CS RX5 29 iJ9_min_7cf53 := ⟨TBg_at 699 (by decide +kernel), TBg_at 700 (by decide +kernel), TBg_at 84 (by decide +kernel), TBg_at 701 (by decide +kernel), by decide +kernel, by decide +kernel⟩
theorem csX6_44 : CS RX6 44 iJ9_max_7cf53 := ⟨TBg_at 1259 (by decide +kernel), TBg_at 491 (by decide +kernel), TBg_at 84 (by decide +kernel), TBg_at 492 (by decide +kernel), by decide +kernel, by decide +kernel⟩
theorem csX7_64 : CS RX7 64 iJ9_max_7cf53 := ⟨TBg_at 1518 (by decide +kernel), TBg_at 491 (by decide +kernel), TBg_at 84 (by decide +kernel), TBg_at 492 (by decide +kernel), by decide +kernel, by decide +kernel⟩
theorem csX8_61 : CS RX8 61 iJ9_max_7cf53 := ⟨TBg_at 962 (by decide +kernel), TBg_at 491 (by decide +kernel), TBg_at 84 (by decide +kernel), TBg_at 492 (by decide +kernel), by decide +kernel, by decide +kernel⟩
theorem csX8_72 : CS RX8 72 iJ7_fill_fda19 := ⟨TBg_at 979 (by decide +kernel), TBg_at 980 (by decide +kernel), TBg_at 65 (by decide +kernel), TBg_at 981 (by decide +kernel), by decide +kernel, by decide +kernel⟩
theorem csX8_82 : CS RX8 82 iJ9_min_7cf53 := ⟨TBg_at 1201 (by decide +kernel), TBg_at 700 (by decide +kernel), TBg_at 84 (by decide +kernel), TBg_at 701 (by decide +kernel), by decide +kernel, by decide +kernel⟩
theorem csX9_145 : CS RX9 145 iJ7_fill_53178 := ⟨TBg_at 777 (by decide +kernel), TBg_at 117 (by decide +kernel), TBg_at 65 (by decide +kernel), TBg_at 118 (by decide +kernel), by decide +kernel, by decide +kernel⟩
theorem csJ7_13 : CS RJ7 13 iJ7_rangeCheck_23922 := ⟨TBg_at 982 (by decide +kernel), TBg_at 983 (by decide +kernel), TBg_at 65 (by decide +kernel), TBg_at 984 (by decide +kernel), by decide +kernel, by decide +kernel⟩
def bJ9_floorMod_7cf53_0 : List Op3 := [(0, .iload_n 0, 1, (0, 0, 0, 0, 0, 0), 0), (1, .iload_n 1, 1, (1, 0, 0, 0, 0, 0), 0), (2, .irem, 1, (0, 0, 0, 0, 0, 0), 0), (3, .istore_n 2, 1, (2, 0, 0, 0, 0, 0), 0), (4, .iload_n 0, 1, (0, 0, 0, 0, 0, 0), 0), (5, .iload_n 1, 1, (1, 0, 0, 0, 0, 0), 0)]
theorem obJ9_floorMod_7cf53_0 : dcd RJ9 cJ9_floorMod_7cf53 0 bJ9_floorMod_7cf53_0 = true := by decide +kernel
def bJ9_floorMod_7cf53_7 : List Op3 := [(7, .ifCond .ge 11, 3, (18, 0, 0, 0, 0, 0), 0), (10, .iload_n 2, 1, (2, 0, 0, 0, 0, 0), 0), (11, .ifCond .eq 7, 3, (18, 0, 0, 0, 0, 0), 0), (14, .iload_n 2, 1, (2, 0, 0, 0, 0, 0), 0), (15, .iload_n 1, 1, (1, 0, 0, 0, 0, 0), 0), (16, .iadd, 1, (0, 0, 0, 0, 0, 0), 0), (17, .ireturn, 1, (0, 0, 0, 0, 0, 0), 0)]
theorem obJ9_floorMod_7cf53_7 : dcd RJ9 cJ9_floorMod_7cf53 7 bJ9_floorMod_7cf53_7 = true := by decide +kernel
def bJ9_floorMod_7cf53_18 : List Op3 := [(18, .iload_n 2, 1, (2, 0, 0, 0, 0, 0), 0), (19, .ireturn, 1, (0, 0, 0, 0, 0, 0), 0)]
theorem obJ9_floorMod_7cf53_18 : dcd RJ9 cJ9_floorMod_7cf53 18 bJ9_floorMod_7cf53_18 = true := by decide +kernel
def bJ9_max_7cf53_0 : List Op3 := [(0, .iload_n 0, 1, (0, 0, 0, 0, 0, 0), 0), (1, .iload_n 1, 1, (1, 0, 0, 0, 0, 0), 0), (2, .if_icmp .lt 7, 3, (9, 0, 0, 0, 0, 0), 0), (5, .iload_n 0, 1, (0, 0, 0, 0, 0, 0), 0), (6, .goto 4, 3, (10, 0, 0, 0, 0, 0), 0)]
theorem obJ9_max_7cf53_0 : dcd RJ9 cJ9_max_7cf53 0 bJ9_max_7cf53_0 = true := by decide +kernel
def bJ9_max_7cf53_9 : List Op3 := [(9, .iload_n 1, 1, (1, 0, 0, 0, 0, 0), 0), (10, .ireturn, 1, (0, 0, 0, 0, 0, 0), 0)]
theorem obJ9_max_7cf53_9 : dcd RJ9 cJ9_max_7cf53 9 bJ9_max_7cf53_9 = true := by decide +kernel
def bJ9_max_7cf53_10 : List Op3 := [(10, .ireturn, 1, (0, 0, 0, 0, 0, 0), 0)]
theorem obJ9_max_7cf53_10 : dcd RJ9 cJ9_max_7cf53 10 bJ9_max_7cf53_10 = true := by decide +kernel
def bJ9_min_7cf53_0 : List Op3 := [(0, .iload_n 0, 1, (0, 0, 0, 0, 0, 0), 0), (1, .iload_n 1, 1, (1, 0, 0, 0, 0, 0), 0), (2, .if_icmp .gt 7, 3, (9, 0, 0, 0, 0, 0), 0), (5, .iload_n 0, 1, (0, 0, 0, 0, 0, 0), 0), (6, .goto 4, 3, (10, 0, 0, 0, 0, 0), 0)]
theorem obJ9_min_7cf53_0 : dcd RJ9 cJ9_min_7cf53 0 bJ9_min_7cf53_0 = true := by decide +kernel
def bJ9_min_7cf53_9 : List Op3 := [(9, .iload_n 1, 1, (1, 0, 0, 0, 0, 0), 0), (10, .ireturn, 1, (0, 0, 0, 0, 0, 0), 0)]
theorem obJ9_min_7cf53_9 : dcd RJ9 cJ9_min_7cf53 9 bJ9_min_7cf53_9 = true := by decide +kernel
def bJ9_min_7cf53_10 : List Op3 := [(10, .ireturn, 1, (0, 0, 0, 0, 0, 0), 0)]
theorem obJ9_min_7cf53_10 : dcd RJ9 cJ9_min_7cf53 10 bJ9_min_7cf53_10 = true := by decide +kernel
def bJ7_fill_53178_0 : List Op3 := [(0, .iconst 0, 1, (0, 0, 0, 0, 0, 0), nI 0), (1, .istore_n 2, 1, (2, 0, 0, 0, 0, 0), 0), (2, .aload_n 0, 1, (0, 0, 0, 0, 0, 0), 0), (3, .arraylength, 1, (0, 0, 0, 0, 0, 0), 0), (4, .istore_n 3, 1, (3, 0, 0, 0, 0, 0), 0)]
theorem obJ7_fill_53178_0 : dcd RJ7 cJ7_fill_53178 0 bJ7_fill_53178_0 = true := by decide +kernel
def bJ7_fill_53178_5 : List Op3 := [(5, .iload_n 2, 1, (2, 0, 0, 0, 0, 0), 0), (6, .iload_n 3, 1, (3, 0, 0, 0, 0, 0), 0), (7, .if_icmp .ge 13, 3, (20, 0, 0, 0, 0, 0), 0), (10, .aload_n 0, 1, (0, 0, 0, 0, 0, 0), 0), (11, .iload_n 2, 1, (2, 0, 0, 0, 0, 0), 0), (12, .iload_n 1, 1, (1, 0, 0, 0, 0, 0), 0), (13, .iastore, 1, (0, 0, 0, 0, 0, 0), 0), (14, .iinc 2 1, 3, (2, 0, 0, 0, 0, 0), nI 1), (17, .goto (-12), 3, (5, 0, 0, 0, 0, 0), 0)]
theorem obJ7_fill_53178_5 : dcd RJ7 cJ7_fill_53178 5 bJ7_fill_53178_5 = true := by decide +kernel
def bJ7_fill_53178_20 : List Op3 := [(20, .return_, 1, (0, 0, 0, 0, 0, 0), 0)]
theorem obJ7_fill_53178_20 : dcd RJ7 cJ7_fill_53178 20 bJ7_fill_53178_20 = true := by decide +kernel
def bJ7_fill_fda19_0 : List Op3 := [(0, .aload_n 0, 1, (0, 0, 0, 0, 0, 0), 0), (1, .arraylength, 1, (0, 0, 0, 0, 0, 0), 0), (2, .iload_n 1, 1, (1, 0, 0, 0, 0, 0), 0), (3, .iload_n 2, 1, (2, 0, 0, 0, 0, 0), 0)]
theorem obJ7_fill_fda19_0 : dcd RJ7 cJ7_fill_fda19 0 bJ7_fill_fda19_0 = true := by decide +kernel
def bJ7_fill_fda19_7 : List Op3 := [(7, .iload_n 1, 1, (1, 0, 0, 0, 0, 0), 0), (8, .istore 4, 2, (4, 0, 0, 0, 0, 0), 0)]
theorem obJ7_fill_fda19_7 : dcd RJ7 cJ7_fill_fda19 7 bJ7_fill_fda19_7 = true := by decide +kernel
def bJ7_fill_fda19_10 : List Op3 := [(10, .iload 4, 2, (4, 0, 0, 0, 0, 0), 0), (12, .iload_n 2, 1, (2, 0, 0, 0, 0, 0), 0), (13, .if_icmp .ge 14, 3, (27, 0, 0, 0, 0, 0), 0), (16, .aload_n 0, 1, (0, 0, 0, 0, 0, 0), 0), (17, .iload 4, 2, (4, 0, 0, 0, 0, 0), 0), (19, .iload_n 3, 1, (3, 0, 0, 0, 0, 0), 0), (20, .iastore, 1, (0, 0, 0, 0, 0, 0), 0), (21, .iinc 4 1, 3, (4, 0, 0, 0, 0, 0), nI 1), (24, .goto (-14), 3, (10, 0, 0, 0, 0, 0), 0)]
theorem obJ7_fill_fda19_10 : dcd RJ7 cJ7_fill_fda19 10 bJ7_fill_fda19_10 = true := by decide +kernel
def bJ7_fill_fda19_27 : List Op3 := [(27, .return_, 1, (0, 0, 0, 0, 0, 0), 0)]
theorem obJ7_fill_fda19_27 : dcd RJ7 cJ7_fill_fda19 27 bJ7_fill_fda19_27 = true := by decide +kernel
def bJ7_rangeCheck_23922_0 : List Op3 := [(0, .iload_n 1, 1, (1, 0, 0, 0, 0, 0), 0), (1, .iload_n 2, 1, (2, 0, 0, 0, 0, 0), 0), (2, .if_icmp .le 44, 3, (46, 0, 0, 0, 0, 0), 0)]
theorem obJ7_rangeCheck_23922_0 : dcd RJ7 cJ7_rangeCheck_23922 0 bJ7_rangeCheck_23922_0 = true := by decide +kernel
def bJ7_rangeCheck_23922_8 : List Op3 := [(8, .dup, 1, (0, 0, 0, 0, 0, 0), 0)]
theorem obJ7_rangeCheck_23922_8 : dcd RJ7 cJ7_rangeCheck_23922 8 bJ7_rangeCheck_23922_8 = true := by decide +kernel
def bJ7_rangeCheck_23922_12 : List Op3 := [(12, .dup, 1, (0, 0, 0, 0, 0, 0), 0)]
theorem obJ7_rangeCheck_23922_12 : dcd RJ7 cJ7_rangeCheck_23922 12 bJ7_rangeCheck_23922_12 = true := by decide +kernel
def bJ7_rangeCheck_23922_21 : List Op3 := [(21, .iload_n 1, 1, (1, 0, 0, 0, 0, 0), 0)]
theorem obJ7_rangeCheck_23922_21 : dcd RJ7 cJ7_rangeCheck_23922 21 bJ7_rangeCheck_23922_21 = true := by decide +kernel
def bJ7_rangeCheck_23922_30 : List Op3 := [(30, .iload_n 2, 1, (2, 0, 0, 0, 0, 0), 0)]
theorem obJ7_rangeCheck_23922_30 : dcd RJ7 cJ7_rangeCheck_23922 30 bJ7_rangeCheck_23922_30 = true := by decide +kernel
def bJ7_rangeCheck_23922_46 : List Op3 := [(46, .iload_n 1, 1, (1, 0, 0, 0, 0, 0), 0), (47, .ifCond .ge 12, 3, (59, 0, 0, 0, 0, 0), 0)]
theorem obJ7_rangeCheck_23922_46 : dcd RJ7 cJ7_rangeCheck_23922 46 bJ7_rangeCheck_23922_46 = true := by decide +kernel
def bJ7_rangeCheck_23922_53 : List Op3 := [(53, .dup, 1, (0, 0, 0, 0, 0, 0), 0), (54, .iload_n 1, 1, (1, 0, 0, 0, 0, 0), 0)]
theorem obJ7_rangeCheck_23922_53 : dcd RJ7 cJ7_rangeCheck_23922 53 bJ7_rangeCheck_23922_53 = true := by decide +kernel
def bJ7_rangeCheck_23922_59 : List Op3 := [(59, .iload_n 2, 1, (2, 0, 0, 0, 0, 0), 0), (60, .iload_n 0, 1, (0, 0, 0, 0, 0, 0), 0), (61, .if_icmp .le 12, 3, (73, 0, 0, 0, 0, 0), 0)]
theorem obJ7_rangeCheck_23922_59 : dcd RJ7 cJ7_rangeCheck_23922 59 bJ7_rangeCheck_23922_59 = true := by decide +kernel
def bJ7_rangeCheck_23922_67 : List Op3 := [(67, .dup, 1, (0, 0, 0, 0, 0, 0), 0), (68, .iload_n 2, 1, (2, 0, 0, 0, 0, 0), 0)]
theorem obJ7_rangeCheck_23922_67 : dcd RJ7 cJ7_rangeCheck_23922 67 bJ7_rangeCheck_23922_67 = true := by decide +kernel
def bJ7_rangeCheck_23922_73 : List Op3 := [(73, .return_, 1, (0, 0, 0, 0, 0, 0), 0)]
theorem obJ7_rangeCheck_23922_73 : dcd RJ7 cJ7_rangeCheck_23922 73 bJ7_rangeCheck_23922_73 = true := by decide +kernel
/-! ===== rows of any cell, set whole ===== -/
def sN (τ : Mem) (nm : Nm) (f : Nat → Int32) : Mem := (fun a => if a = nm then f else τ.1 a, τ.2)
def sM (τ : Mem) (nm : Nm) (g : Nat → Int64) : Mem := (τ.1, fun a => if a = nm then g else τ.2.1 a, τ.2.2)
def uL (f : Nat → Int64) (k : Nat) (x : Int64) : Nat → Int64 := fun i => if i = k then x else f i
theorem wI_sN (τ : Mem) (nm : Nm) (k : Nat) (x : Int32) : wI τ nm k x = sN τ nm (uI (τ.1 nm) k x) := by
  refine Prod.ext ?_ rfl
  funext a i
  simp only [wI, sN, upM, uI]
  by_cases h : a = nm
  · subst h; simp [uI]
  · simp [h]
theorem wL_sM (τ : Mem) (nm : Nm) (k : Nat) (x : Int64) : wL τ nm k x = sM τ nm (uL (τ.2.1 nm) k x) := by
  refine Prod.ext rfl (Prod.ext ?_ rfl)
  funext a i
  simp only [wL, sM, upL, uL]
  by_cases h : a = nm
  · subst h; simp [uL]
  · simp [h]
theorem sN_same (τ : Mem) (nm : Nm) (f : Nat → Int32) : (sN τ nm f).1 nm = f := by simp [sN]
theorem sN_ne {τ : Mem} {nm a : Nm} {f : Nat → Int32} (h : a ≠ nm) : (sN τ nm f).1 a = τ.1 a := by simp [sN, h]
theorem sN_K {τ : Mem} {K K' s j s' j' : Nat} {f : Nat → Int32} (h : K' ≠ K) : (sN τ (K, s, j) f).1 (K', s', j') = τ.1 (K', s', j') := by simp [sN, h]
theorem sN_2 (τ : Mem) (nm : Nm) (f : Nat → Int32) : (sN τ nm f).2 = τ.2 := rfl
theorem sM_1 (τ : Mem) (nm : Nm) (g : Nat → Int64) : (sM τ nm g).1 = τ.1 := rfl
theorem sM_same (τ : Mem) (nm : Nm) (g : Nat → Int64) : (sM τ nm g).2.1 nm = g := by simp [sM]
theorem sM_K {τ : Mem} {K K' s j s' j' : Nat} {g : Nat → Int64} (h : K' ≠ K) : (sM τ (K, s, j) g).2.1 (K', s', j') = τ.2.1 (K', s', j') := by simp [sM, h]
theorem sM_s (τ : Mem) (nm : Nm) (g : Nat → Int64) : (sM τ nm g).2.2 = τ.2.2 := rfl
theorem sN_sN (τ : Mem) (nm : Nm) (f g : Nat → Int32) : sN (sN τ nm f) nm g = sN τ nm g := by
  refine Prod.ext ?_ rfl
  funext a
  simp only [sN]
  split <;> rfl
theorem sN_id {τ : Mem} {nm : Nm} {f : Nat → Int32} (h : τ.1 nm = f) : sN τ nm f = τ := by
  refine Prod.ext ?_ rfl
  funext a
  simp only [sN]
  split
  · rename_i e; rw [e, h]
  · rfl
/-- the same but at the names of P -/
def Same (P : Nm → Prop) (τ τ' : Mem) : Prop := τ'.2.2 = τ.2.2 ∧ ∀ a, ¬ P a → τ'.1 a = τ.1 a ∧ τ'.2.1 a = τ.2.1 a
theorem Same.refl (P : Nm → Prop) (τ : Mem) : Same P τ τ := ⟨rfl, fun _ _ => ⟨rfl, rfl⟩⟩
theorem Same.trans {P : Nm → Prop} {τ τ1 τ2 : Mem} (h : Same P τ τ1) (g : Same P τ1 τ2) : Same P τ τ2 := ⟨g.1.trans h.1, fun a ha => ⟨(g.2 a ha).1.trans (h.2 a ha).1, (g.2 a ha).2.trans (h.2 a ha).2⟩⟩
theorem Same.mono {P Q : Nm → Prop} {τ τ1 : Mem} (h : Same P τ τ1) (hq : ∀ a, P a → Q a) : Same Q τ τ1 := ⟨h.1, fun a ha => h.2 a (fun z => ha (hq a z))⟩
theorem Same.sN {P : Nm → Prop} {τ τ1 : Mem} (h : Same P τ τ1) {nm : Nm} (f : Nat → Int32) (hp : P nm) : Same P τ (sN τ1 nm f) := ⟨h.1, fun a ha => ⟨(sN_ne (fun e => ha (by rw [e]; exact hp))).trans (h.2 a ha).1, (h.2 a ha).2⟩⟩
theorem Same.sM {P : Nm → Prop} {τ τ1 : Mem} (h : Same P τ τ1) {nm : Nm} (g : Nat → Int64) (hp : P nm) : Same P τ (sM τ1 nm g) := ⟨h.1, fun a ha => ⟨(h.2 a ha).1, by
  have e : a ≠ nm := fun e => ha (by rw [e]; exact hp)
  show (if a = nm then g else τ1.2.1 a) = _
  rw [if_neg e]
  exact (h.2 a ha).2⟩⟩
theorem xorN (a b : Nat) : nI a ^^^ nI b = nI (a ^^^ b) := by
  apply Int32.toBitVec_inj.mp
  rw [Int32.toBitVec_xor]
  show BitVec.ofNat 32 a ^^^ BitVec.ofNat 32 b = BitVec.ofNat 32 (a ^^^ b)
  exact BitVec.ofNat_xor.symm
theorem V_ixor {x : Cx} {l : Launch} {G : GG} {y : MI} {Φ : AOut → Mem → Prop} (hB : Bd x l G y Φ) {τ : Mem} {n pc : Nat} {al : Al} {r : List AV} {a b : Int32}
    (hd : decode y.2.1 pc = .ok (.ixor, 1)) (k : V x τ n (pc + 1) al (.inl (.int (a ^^^ b)) :: r)) : V x τ n pc al (.inl (.int b) :: .inl (.int a) :: r) := by
  obtain ⟨hg, -, -, rfl, -⟩ := hB
  obtain ⟨l, G, p, e, s, m, args, below, meth, c, y, Φ⟩ := x
  obtain ⟨hx, hb, -⟩ := hg
  exact fun H locs ls hW hS hL => lv_ixor hx hb hd (k H locs ls hW hS hL)
/-! ===== a body of a method of the JDK's ===== -/
theorem vx_ofWF {l : Launch} {y : MethodName} {ws ws' : List Cond} {rm : Room} {Pc : Array Value → State → Prop} {Qc : Array Value → State → Outcome → State → Prop} {XC : String → State → State → Prop} {mc ms : Nat} {free : Addr → Prop} {cc : ByteArray} {maxL : Nat} {ret : Option FieldType}
    (hy : plainFor y = true) (hw : ws = Cond.code y cc maxL ret :: ws')
    (body : ∀ p e s m args below meth c s₁, BodyLoose p l y (headSpec ws rm) cc maxL ret e s m args below meth c s₁ → c.maxLocals = maxL → (∀ x ∈ c.exceptionTable.toList, False) → Pc args s →
      W p l e (headSpec ws rm).room s m args below meth c s.heap [] 0 0 (vx_MQ below Qc XC args s mc ms free) (entryFrame m args maxL)) : vx_Met l y ws rm Pc Qc XC mc ms free := by
  refine MetFree.of_bodySF (code := cc) (maxLocals := maxL) (ret := ret) hy ?_ ?_
  · intro args s m h hn
    obtain ⟨meth, c, h1, h2, h3, h4, h5, h6, -, -⟩ := Cond.code_spec hn (atoms_spec (ws := ws) h _ (by rw [hw]; exact List.mem_cons_self))
    exact ⟨meth, c, h1, h2, h3, h4, h5, h6⟩
  · intro p e s m args below meth c s₁ B hml hP _
    have hh0 : s₁.heap = s.heap := by rw [B.state]; rfl
    have ht : ∀ x ∈ c.exceptionTable.toList, False := by
      obtain ⟨meth9, c9, h1, h2, -, -, -, -, h7, -⟩ := Cond.code_spec B.named (atoms_spec (ws := ws) B.pre _ (by rw [hw]; exact List.mem_cons_self))
      cases Option.some.inj (h1.symm.trans B.method)
      cases Option.some.inj (h2.symm.trans (Stand.of_body B).code)
      intro x hx
      rw [Array.isEmpty_iff.mp h7] at hx
      cases hx
    obtain ⟨t, a1, o, b1, b2, b3⟩ := body p e s m args below meth c s₁ B hml ht hP s₁ hh0 (Stand.of_body B)
    exact ⟨t, o, a1, b1, b2, b3⟩
theorem Sat_ofF {l : Launch} {G : GG} {y : MI} {as : List AV} {τ : Mem} {Φ : AOut → Mem → Prop} (hG : Gok G) (hl : l.stackTraces = false) (hp : plainFor y.1 = true) (hn : acats as ≤ y.2.2.1)
    (body : ∀ x : Cx, Bd x l G y Φ → NoH x → V x τ 0 0 (alA 0 as) []) : Sat l G y as τ Φ := by
  refine vx_ofWF hp rfl ?_
  intro p e s m args below meth c s₁ B hml hh hv
  obtain ⟨rfl, hW⟩ := hv
  have hts : ∀ w ∈ TBg, w.before ((as.map (conc G)).toArray) s = true := fun w h => atoms_spec (ws := Cond.code y.1 y.2.1 y.2.2.1 y.2.2.2.1 :: TBg) B.pre w (List.mem_cons_of_mem _ h)
  have k := body (l, G, p, e, s, m, (as.map (conc G)).toArray, below, meth, c, y, Φ) ⟨⟨B.exec, B.bytes, findClass_of_methodNamed B.named, hts, hml, B.notSynchronized, B.returns, hl, hG, hW.2.2.2.1⟩, rfl, rfl, rfl, rfl⟩ hh
  rw [lg_entry_eq]
  refine k s.heap [] _ hW va_S.rf ?_
  have h := lv_entry (as.map (conc G)) (n := y.2.2.1) (by rw [acats_sl]; exact hn)
  unfold Lh
  rw [alA_args]
  exact h
section J1
variable {l : Launch} {G : GG}
theorem q_floorMod (hc : Ctx l G) (τ : Mem) {a m : Nat} (ha : a < 2147483648) (h0 : 0 < m) (hm : m < 2147483648) : Sat l G iJ9_floorMod_7cf53 [aI (nI a), aI (nI m)] τ (retI (nI (a % m)) τ) := by
  have e : nI a - nI a / nI m * nI m = nI (a % m) := pk_rem ha h0 hm
  have hx : a ^^^ m < 2 ^ 31 := Nat.xor_lt_two_pow ha hm
  refine Sat_ofF hc.1 hc.2 (by decide +kernel) (Nat.le_of_ble_eq_true rfl) (fun x hB hno => ?_)
  refine V_run hB (rt := some .int) (nL := 3) (mc := 0) rfl rfl rfl obJ9_floorMod_7cf53_0 ?_
  dsimp only [bJ9_floorMod_7cf53_0, ↓wpb, ↓wp1, ↓vI, ↓vL, ↓vD, ↓ldI, ↓ldL, ↓ldD, ↓ldR, ↓k1, ↓k2, ↓kI, ↓kL, ↓kD, ↓kII, ↓kLL, ↓kDD, ↓kR, ↓kIR, ↓kLR, ↓kIIR, ↓kLIR, ↓kDIR, ↓kRIR, ↓kNN, ↓kE, ↓br, ↓bn, ↓rtI, ↓gfv, ↓zchk, lput, ldel, lbad, alA, acat, isRf, dom, dS, dJ, isO, aTy, aLen, elAV, elR, Nat.reduceBEq, Nat.reduceAdd, Bool.or, Bool.and, Nat.add_zero, Nat.zero_add]
  try simp only [Nat.reduceLT, Nat.reduceLeDiff, Nat.reduceEqDiff, true_and, and_true, and_self, Nat.zero_le, Nat.le_refl, true_or, or_true, Bool.false_eq_true, not_false_eq_true, Nat.reduceAdd, Nat.lt_add_one, Nat.zero_lt_one, nI_add, pk_mul, ixL, vpL, ne_eq, reduceIte, wI_sN, wL_sM, sN_same, sN_K, sN_2, sM_1, sM_same, sM_K, sM_s, uI_at, uN_at, enc_at, uI_enc, uI_uI, upM_s, upM_n, e]
  refine ⟨fun q => absurd ((nI_eq (by omega) (by omega)).mp (show nI m = nI 0 from q)) (by omega), ?_⟩
  refine V_ixor hB (by decide +kernel) ?_
  rw [xorN]
  refine V_run hB (rt := some .int) (nL := 3) (mc := 0) rfl rfl rfl obJ9_floorMod_7cf53_7 ?_
  dsimp only [bJ9_floorMod_7cf53_7, ↓wpb, ↓wp1, ↓vI, ↓vL, ↓vD, ↓ldI, ↓ldL, ↓ldD, ↓ldR, ↓k1, ↓k2, ↓kI, ↓kL, ↓kD, ↓kII, ↓kLL, ↓kDD, ↓kR, ↓kIR, ↓kLR, ↓kIIR, ↓kLIR, ↓kDIR, ↓kRIR, ↓kNN, ↓kE, ↓br, ↓bn, ↓rtI, ↓gfv, ↓zchk, lput, ldel, lbad, alA, acat, isRf, dom, dS, dJ, isO, aTy, aLen, elAV, elR, Nat.reduceBEq, Nat.reduceAdd, Bool.or, Bool.and, Nat.add_zero, Nat.zero_add]
  try simp only [Nat.reduceLT, Nat.reduceLeDiff, Nat.reduceEqDiff, true_and, and_true, and_self, Nat.zero_le, Nat.le_refl, true_or, or_true, Bool.false_eq_true, not_false_eq_true, Nat.reduceAdd, Nat.lt_add_one, Nat.zero_lt_one, nI_add, pk_mul, ixL, vpL, ne_eq, reduceIte, wI_sN, wL_sM, sN_same, sN_K, sN_2, sM_1, sM_same, sM_K, sM_s, uI_at, uN_at, enc_at, uI_enc, uI_uI, upM_s, upM_n]
  refine ⟨fun _ => ?_, fun q => absurd (nI_pos' hx) q⟩
  refine V_run hB (rt := some .int) (nL := 3) (mc := 0) rfl rfl rfl obJ9_floorMod_7cf53_18 ?_
  dsimp only [bJ9_floorMod_7cf53_18, ↓wpb, ↓wp1, ↓vI, ↓vL, ↓vD, ↓ldI, ↓ldL, ↓ldD, ↓ldR, ↓k1, ↓k2, ↓kI, ↓kL, ↓kD, ↓kII, ↓kLL, ↓kDD, ↓kR, ↓kIR, ↓kLR, ↓kIIR, ↓kLIR, ↓kDIR, ↓kRIR, ↓kNN, ↓kE, ↓br, ↓bn, ↓rtI, ↓gfv, ↓zchk, lput, ldel, lbad, alA, acat, isRf, dom, dS, dJ, isO, aTy, aLen, elAV, elR, Nat.reduceBEq, Nat.reduceAdd, Bool.or, Bool.and, Nat.add_zero, Nat.zero_add]
  try simp only [Nat.reduceLT, Nat.reduceLeDiff, Nat.reduceEqDiff, true_and, and_true, and_self, Nat.zero_le, Nat.le_refl, true_or, or_true, Bool.false_eq_true, not_false_eq_true, Nat.reduceAdd, Nat.lt_add_one, Nat.zero_lt_one, nI_add, pk_mul, ixL, vpL, ne_eq, reduceIte, wI_sN, wL_sM, sN_same, sN_K, sN_2, sM_1, sM_same, sM_K, sM_s, uI_at, uN_at, enc_at, uI_enc, uI_uI, upM_s, upM_n]
  exact ⟨rfl, rfl⟩
theorem q_max (hc : Ctx l G) (τ : Mem) {a b : Nat} (ha : a < 2147483648) (hb : b < 2147483648) : Sat l G iJ9_max_7cf53 [aI (nI a), aI (nI b)] τ (retI (nI (max a b)) τ) := by
  refine Sat_ofF hc.1 hc.2 (by decide +kernel) (Nat.le_of_ble_eq_true rfl) (fun x hB hno => ?_)
  refine V_run hB (rt := some .int) (nL := 2) (mc := 0) rfl rfl rfl obJ9_max_7cf53_0 ?_
  dsimp only [bJ9_max_7cf53_0, ↓wpb, ↓wp1, ↓vI, ↓vL, ↓vD, ↓ldI, ↓ldL, ↓ldD, ↓ldR, ↓k1, ↓k2, ↓kI, ↓kL, ↓kD, ↓kII, ↓kLL, ↓kDD, ↓kR, ↓kIR, ↓kLR, ↓kIIR, ↓kLIR, ↓kDIR, ↓kRIR, ↓kNN, ↓kE, ↓br, ↓bn, ↓rtI, ↓gfv, ↓zchk, lput, ldel, lbad, alA, acat, isRf, dom, dS, dJ, isO, aTy, aLen, elAV, elR, Nat.reduceBEq, Nat.reduceAdd, Bool.or, Bool.and, Nat.add_zero, Nat.zero_add]
  try simp only [Nat.reduceLT, Nat.reduceLeDiff, Nat.reduceEqDiff, true_and, and_true, and_self, Nat.zero_le, Nat.le_refl, true_or, or_true, Bool.false_eq_true, not_false_eq_true, Nat.reduceAdd, Nat.lt_add_one, Nat.zero_lt_one, nI_add, pk_mul, ixL, vpL, ne_eq, reduceIte, wI_sN, wL_sM, sN_same, sN_K, sN_2, sM_1, sM_same, sM_K, sM_s, uI_at, uN_at, enc_at, uI_enc, uI_uI, upM_s, upM_n]
  rw [nI_ltI ha hb]
  refine ⟨fun q => ?_, fun q => ?_⟩
  · rw [Nat.max_eq_right (by omega)] at hB
    refine V_run hB (rt := some .int) (nL := 2) (mc := 0) rfl rfl rfl obJ9_max_7cf53_9 ?_
    dsimp only [bJ9_max_7cf53_9, ↓wpb, ↓wp1, ↓vI, ↓vL, ↓vD, ↓ldI, ↓ldL, ↓ldD, ↓ldR, ↓k1, ↓k2, ↓kI, ↓kL, ↓kD, ↓kII, ↓kLL, ↓kDD, ↓kR, ↓kIR, ↓kLR, ↓kIIR, ↓kLIR, ↓kDIR, ↓kRIR, ↓kNN, ↓kE, ↓br, ↓bn, ↓rtI, ↓gfv, ↓zchk, lput, ldel, lbad, alA, acat, isRf, dom, dS, dJ, isO, aTy, aLen, elAV, elR, Nat.reduceBEq, Nat.reduceAdd, Bool.or, Bool.and, Nat.add_zero, Nat.zero_add]
    try simp only [Nat.reduceLT, Nat.reduceLeDiff, Nat.reduceEqDiff, true_and, and_true, and_self, Nat.zero_le, Nat.le_refl, true_or, or_true, Bool.false_eq_true, not_false_eq_true, Nat.reduceAdd, Nat.lt_add_one, Nat.zero_lt_one, nI_add, pk_mul, ixL, vpL, ne_eq, reduceIte, wI_sN, wL_sM, sN_same, sN_K, sN_2, sM_1, sM_same, sM_K, sM_s, uI_at, uN_at, enc_at, uI_enc, uI_uI, upM_s, upM_n]
    exact ⟨rfl, rfl⟩
  · rw [Nat.max_eq_left (by omega)] at hB
    refine V_run hB (rt := some .int) (nL := 2) (mc := 0) rfl rfl rfl obJ9_max_7cf53_10 ?_
    dsimp only [bJ9_max_7cf53_10, ↓wpb, ↓wp1, ↓vI, ↓vL, ↓vD, ↓ldI, ↓ldL, ↓ldD, ↓ldR, ↓k1, ↓k2, ↓kI, ↓kL, ↓kD, ↓kII, ↓kLL, ↓kDD, ↓kR, ↓kIR, ↓kLR, ↓kIIR, ↓kLIR, ↓kDIR, ↓kRIR, ↓kNN, ↓kE, ↓br, ↓bn, ↓rtI, ↓gfv, ↓zchk, lput, ldel, lbad, alA, acat, isRf, dom, dS, dJ, isO, aTy, aLen, elAV, elR, Nat.reduceBEq, Nat.reduceAdd, Bool.or, Bool.and, Nat.add_zero, Nat.zero_add]
    try simp only [Nat.reduceLT, Nat.reduceLeDiff, Nat.reduceEqDiff, true_and, and_true, and_self, Nat.zero_le, Nat.le_refl, true_or, or_true, Bool.false_eq_true, not_false_eq_true, Nat.reduceAdd, Nat.lt_add_one, Nat.zero_lt_one, nI_add, pk_mul, ixL, vpL, ne_eq, reduceIte, wI_sN, wL_sM, sN_same, sN_K, sN_2, sM_1, sM_same, sM_K, sM_s, uI_at, uN_at, enc_at, uI_enc, uI_uI, upM_s, upM_n]
    exact ⟨rfl, rfl⟩
theorem q_min (hc : Ctx l G) (τ : Mem) {a b : Nat} (ha : a < 2147483648) (hb : b < 2147483648) : Sat l G iJ9_min_7cf53 [aI (nI a), aI (nI b)] τ (retI (nI (min a b)) τ) := by
  refine Sat_ofF hc.1 hc.2 (by decide +kernel) (Nat.le_of_ble_eq_true rfl) (fun x hB hno => ?_)
  refine V_run hB (rt := some .int) (nL := 2) (mc := 0) rfl rfl rfl obJ9_min_7cf53_0 ?_
  dsimp only [bJ9_min_7cf53_0, ↓wpb, ↓wp1, ↓vI, ↓vL, ↓vD, ↓ldI, ↓ldL, ↓ldD, ↓ldR, ↓k1, ↓k2, ↓kI, ↓kL, ↓kD, ↓kII, ↓kLL, ↓kDD, ↓kR, ↓kIR, ↓kLR, ↓kIIR, ↓kLIR, ↓kDIR, ↓kRIR, ↓kNN, ↓kE, ↓br, ↓bn, ↓rtI, ↓gfv, ↓zchk, lput, ldel, lbad, alA, acat, isRf, dom, dS, dJ, isO, aTy, aLen, elAV, elR, Nat.reduceBEq, Nat.reduceAdd, Bool.or, Bool.and, Nat.add_zero, Nat.zero_add]
  try simp only [Nat.reduceLT, Nat.reduceLeDiff, Nat.reduceEqDiff, true_and, and_true, and_self, Nat.zero_le, Nat.le_refl, true_or, or_true, Bool.false_eq_true, not_false_eq_true, Nat.reduceAdd, Nat.lt_add_one, Nat.zero_lt_one, nI_add, pk_mul, ixL, vpL, ne_eq, reduceIte, wI_sN, wL_sM, sN_same, sN_K, sN_2, sM_1, sM_same, sM_K, sM_s, uI_at, uN_at, enc_at, uI_enc, uI_uI, upM_s, upM_n]
  rw [nI_ltI hb ha]
  refine ⟨fun q => ?_, fun q => ?_⟩
  · rw [Nat.min_eq_right (by omega)] at hB
    refine V_run hB (rt := some .int) (nL := 2) (mc := 0) rfl rfl rfl obJ9_min_7cf53_9 ?_
    dsimp only [bJ9_min_7cf53_9, ↓wpb, ↓wp1, ↓vI, ↓vL, ↓vD, ↓ldI, ↓ldL, ↓ldD, ↓ldR, ↓k1, ↓k2, ↓kI, ↓kL, ↓kD, ↓kII, ↓kLL, ↓kDD, ↓kR, ↓kIR, ↓kLR, ↓kIIR, ↓kLIR, ↓kDIR, ↓kRIR, ↓kNN, ↓kE, ↓br, ↓bn, ↓rtI, ↓gfv, ↓zchk, lput, ldel, lbad, alA, acat, isRf, dom, dS, dJ, isO, aTy, aLen, elAV, elR, Nat.reduceBEq, Nat.reduceAdd, Bool.or, Bool.and, Nat.add_zero, Nat.zero_add]
    try simp only [Nat.reduceLT, Nat.reduceLeDiff, Nat.reduceEqDiff, true_and, and_true, and_self, Nat.zero_le, Nat.le_refl, true_or, or_true, Bool.false_eq_true, not_false_eq_true, Nat.reduceAdd, Nat.lt_add_one, Nat.zero_lt_one, nI_add, pk_mul, ixL, vpL, ne_eq, reduceIte, wI_sN, wL_sM, sN_same, sN_K, sN_2, sM_1, sM_same, sM_K, sM_s, uI_at, uN_at, enc_at, uI_enc, uI_uI, upM_s, upM_n]
    exact ⟨rfl, rfl⟩
  · rw [Nat.min_eq_left (by omega)] at hB
    refine V_run hB (rt := some .int) (nL := 2) (mc := 0) rfl rfl rfl obJ9_min_7cf53_10 ?_
    dsimp only [bJ9_min_7cf53_10, ↓wpb, ↓wp1, ↓vI, ↓vL, ↓vD, ↓ldI, ↓ldL, ↓ldD, ↓ldR, ↓k1, ↓k2, ↓kI, ↓kL, ↓kD, ↓kII, ↓kLL, ↓kDD, ↓kR, ↓kIR, ↓kLR, ↓kIIR, ↓kLIR, ↓kDIR, ↓kRIR, ↓kNN, ↓kE, ↓br, ↓bn, ↓rtI, ↓gfv, ↓zchk, lput, ldel, lbad, alA, acat, isRf, dom, dS, dJ, isO, aTy, aLen, elAV, elR, Nat.reduceBEq, Nat.reduceAdd, Bool.or, Bool.and, Nat.add_zero, Nat.zero_add]
    try simp only [Nat.reduceLT, Nat.reduceLeDiff, Nat.reduceEqDiff, true_and, and_true, and_self, Nat.zero_le, Nat.le_refl, true_or, or_true, Bool.false_eq_true, not_false_eq_true, Nat.reduceAdd, Nat.lt_add_one, Nat.zero_lt_one, nI_add, pk_mul, ixL, vpL, ne_eq, reduceIte, wI_sN, wL_sM, sN_same, sN_K, sN_2, sM_1, sM_same, sM_K, sM_s, uI_at, uN_at, enc_at, uI_enc, uI_uI, upM_s, upM_n]
    exact ⟨rfl, rfl⟩
theorem q_rangeCheck (hc : Ctx l G) (τ : Mem) {n a b : Nat} (hn : n < 2147483648) (hab : a ≤ b) (hbn : b ≤ n) : Sat l G iJ7_rangeCheck_23922 [aI (nI n), aI (nI a), aI (nI b)] τ (retV τ) := by
  refine Sat_ofF hc.1 hc.2 (by decide +kernel) (Nat.le_of_ble_eq_true rfl) (fun x hB hno => ?_)
  refine V_run hB (rt := none) (nL := 3) (mc := 0) rfl rfl rfl obJ7_rangeCheck_23922_0 ?_
  dsimp only [bJ7_rangeCheck_23922_0, ↓wpb, ↓wp1, ↓vI, ↓vL, ↓vD, ↓ldI, ↓ldL, ↓ldD, ↓ldR, ↓k1, ↓k2, ↓kI, ↓kL, ↓kD, ↓kII, ↓kLL, ↓kDD, ↓kR, ↓kIR, ↓kLR, ↓kIIR, ↓kLIR, ↓kDIR, ↓kRIR, ↓kNN, ↓kE, ↓br, ↓bn, ↓rtI, ↓gfv, ↓zchk, lput, ldel, lbad, alA, acat, isRf, dom, dS, dJ, isO, aTy, aLen, elAV, elR, Nat.reduceBEq, Nat.reduceAdd, Bool.or, Bool.and, Nat.add_zero, Nat.zero_add]
  try simp only [Nat.reduceLT, Nat.reduceLeDiff, Nat.reduceEqDiff, true_and, and_true, and_self, Nat.zero_le, Nat.le_refl, true_or, or_true, Bool.false_eq_true, not_false_eq_true, Nat.reduceAdd, Nat.lt_add_one, Nat.zero_lt_one, nI_add, pk_mul, ixL, vpL, ne_eq, reduceIte, wI_sN, wL_sM, sN_same, sN_K, sN_2, sM_1, sM_same, sM_K, sM_s, uI_at, uN_at, enc_at, uI_enc, uI_uI, upM_s, upM_n]
  refine ⟨fun _ => ?_, fun q => absurd (nI_le hab (by omega)) q⟩
  refine V_run hB (rt := none) (nL := 3) (mc := 0) rfl rfl rfl obJ7_rangeCheck_23922_46 ?_
  dsimp only [bJ7_rangeCheck_23922_46, ↓wpb, ↓wp1, ↓vI, ↓vL, ↓vD, ↓ldI, ↓ldL, ↓ldD, ↓ldR, ↓k1, ↓k2, ↓kI, ↓kL, ↓kD, ↓kII, ↓kLL, ↓kDD, ↓kR, ↓kIR, ↓kLR, ↓kIIR, ↓kLIR, ↓kDIR, ↓kRIR, ↓kNN, ↓kE, ↓br, ↓bn, ↓rtI, ↓gfv, ↓zchk, lput, ldel, lbad, alA, acat, isRf, dom, dS, dJ, isO, aTy, aLen, elAV, elR, Nat.reduceBEq, Nat.reduceAdd, Bool.or, Bool.and, Nat.add_zero, Nat.zero_add]
  try simp only [Nat.reduceLT, Nat.reduceLeDiff, Nat.reduceEqDiff, true_and, and_true, and_self, Nat.zero_le, Nat.le_refl, true_or, or_true, Bool.false_eq_true, not_false_eq_true, Nat.reduceAdd, Nat.lt_add_one, Nat.zero_lt_one, nI_add, pk_mul, ixL, vpL, ne_eq, reduceIte, wI_sN, wL_sM, sN_same, sN_K, sN_2, sM_1, sM_same, sM_K, sM_s, uI_at, uN_at, enc_at, uI_enc, uI_uI, upM_s, upM_n]
  refine ⟨fun _ => ?_, fun q => absurd (nI_pos' (by omega)) q⟩
  refine V_run hB (rt := none) (nL := 3) (mc := 0) rfl rfl rfl obJ7_rangeCheck_23922_59 ?_
  dsimp only [bJ7_rangeCheck_23922_59, ↓wpb, ↓wp1, ↓vI, ↓vL, ↓vD, ↓ldI, ↓ldL, ↓ldD, ↓ldR, ↓k1, ↓k2, ↓kI, ↓kL, ↓kD, ↓kII, ↓kLL, ↓kDD, ↓kR, ↓kIR, ↓kLR, ↓kIIR, ↓kLIR, ↓kDIR, ↓kRIR, ↓kNN, ↓kE, ↓br, ↓bn, ↓rtI, ↓gfv, ↓zchk, lput, ldel, lbad, alA, acat, isRf, dom, dS, dJ, isO, aTy, aLen, elAV, elR, Nat.reduceBEq, Nat.reduceAdd, Bool.or, Bool.and, Nat.add_zero, Nat.zero_add]
  try simp only [Nat.reduceLT, Nat.reduceLeDiff, Nat.reduceEqDiff, true_and, and_true, and_self, Nat.zero_le, Nat.le_refl, true_or, or_true, Bool.false_eq_true, not_false_eq_true, Nat.reduceAdd, Nat.lt_add_one, Nat.zero_lt_one, nI_add, pk_mul, ixL, vpL, ne_eq, reduceIte, wI_sN, wL_sM, sN_same, sN_K, sN_2, sM_1, sM_same, sM_K, sM_s, uI_at, uN_at, enc_at, uI_enc, uI_uI, upM_s, upM_n]
  refine ⟨fun _ => ?_, fun q => absurd (nI_le hbn (by omega)) q⟩
  refine V_run hB (rt := none) (nL := 3) (mc := 0) rfl rfl rfl obJ7_rangeCheck_23922_73 ?_
  dsimp only [bJ7_rangeCheck_23922_73, ↓wpb, ↓wp1, ↓vI, ↓vL, ↓vD, ↓ldI, ↓ldL, ↓ldD, ↓ldR, ↓k1, ↓k2, ↓kI, ↓kL, ↓kD, ↓kII, ↓kLL, ↓kDD, ↓kR, ↓kIR, ↓kLR, ↓kIIR, ↓kLIR, ↓kDIR, ↓kRIR, ↓kNN, ↓kE, ↓br, ↓bn, ↓rtI, ↓gfv, ↓zchk, lput, ldel, lbad, alA, acat, isRf, dom, dS, dJ, isO, aTy, aLen, elAV, elR, Nat.reduceBEq, Nat.reduceAdd, Bool.or, Bool.and, Nat.add_zero, Nat.zero_add]
  try simp only [Nat.reduceLT, Nat.reduceLeDiff, Nat.reduceEqDiff, true_and, and_true, and_self, Nat.zero_le, Nat.le_refl, true_or, or_true, Bool.false_eq_true, not_false_eq_true, Nat.reduceAdd, Nat.lt_add_one, Nat.zero_lt_one, nI_add, pk_mul, ixL, vpL, ne_eq, reduceIte, wI_sN, wL_sM, sN_same, sN_K, sN_2, sM_1, sM_same, sM_K, sM_s, uI_at, uN_at, enc_at, uI_enc, uI_uI, upM_s, upM_n]
  exact ⟨rfl, rfl⟩
def flR (f : Nat → Int32) (a b : Nat) (v : Int32) : Nat → Int32 := fun i => if a ≤ i ∧ i < b then v else f i
theorem flR_0 (f : Nat → Int32) (a : Nat) (v : Int32) : flR f a a v = f := by funext i; unfold flR; rw [if_neg (by omega)]
theorem flR_s (f : Nat → Int32) {a b : Nat} (v : Int32) (h : a ≤ b) : uI (flR f a b v) b v = flR f a (b + 1) v := by
  funext i
  simp only [uI, flR]
  by_cases hi : i = b
  · subst hi; rw [if_pos rfl, if_pos (by omega)]
  · rw [if_neg hi]
    by_cases h6 : a ≤ i ∧ i < b
    · rw [if_pos h6, if_pos (by omega)]
    · rw [if_neg h6, if_neg (by omega)]
theorem q_fill (hc : Ctx l G) (τ : Mem) {K s j N : Nat} (h1 : s < dS K) (h2 : j < dJ K) (h3 : isO K = false) (h4 : aTy K = 0) (h5 : aLen K = N) (hN : N < 100000) (v : Int32) : Sat l G iJ7_fill_53178 [.inr (K, s, j), aI v] τ (retV (sN τ (K, s, j) (flR (τ.1 (K, s, j)) 0 N v))) := by
  refine Sat_ofF hc.1 hc.2 (by decide +kernel) (Nat.le_of_ble_eq_true rfl) (fun x hB hno => ?_)
  have hz : (0 : Nat) ≤ 7 := by omega
  have head : ∀ w k, k + w = N → V x (sN τ (K, s, j) (flR (τ.1 (K, s, j)) 0 k v)) 0 5 [(0, .inr (K, s, j)), (1, aI v), (2, aI (nI k)), (3, aI (nI N))] [] := by
    intro w
    induction w with
    | zero =>
      intro k hk
      have hk : k = N := by omega
      subst hk
      refine V_run hB (rt := none) (nL := 4) (mc := 0) rfl rfl rfl obJ7_fill_53178_5 ?_
      dsimp only [bJ7_fill_53178_5, ↓wpb, ↓wp1, ↓vI, ↓vL, ↓vD, ↓ldI, ↓ldL, ↓ldD, ↓ldR, ↓k1, ↓k2, ↓kI, ↓kL, ↓kD, ↓kII, ↓kLL, ↓kDD, ↓kR, ↓kIR, ↓kLR, ↓kIIR, ↓kLIR, ↓kDIR, ↓kRIR, ↓kNN, ↓kE, ↓br, ↓bn, ↓rtI, ↓gfv, ↓zchk, lput, ldel, lbad, alA, acat, isRf, dom, elAV, elR, Nat.reduceBEq, Nat.reduceAdd, Bool.or, Bool.and, Nat.add_zero, Nat.zero_add]
      try simp only [Nat.reduceLT, Nat.reduceLeDiff, Nat.reduceEqDiff, true_and, and_true, and_self, Nat.zero_le, Nat.le_refl, true_or, or_true, Bool.false_eq_true, not_false_eq_true, Nat.reduceAdd, Nat.lt_add_one, Nat.zero_lt_one, nI_add, pk_mul, ixL, vpL, ne_eq, reduceIte, wI_sN, wL_sM, sN_same, sN_K, sN_2, sM_1, sM_same, sM_K, sM_s, uI_at, uN_at, enc_at, uI_enc, uI_uI, upM_s, upM_n, h1, h2, h3, h4, h5]
      refine ⟨fun _ => ?_, fun q => absurd (nI_le (Nat.le_refl _) (by omega)) q⟩
      refine V_run hB (rt := none) (nL := 4) (mc := 0) rfl rfl rfl obJ7_fill_53178_20 ?_
      dsimp only [bJ7_fill_53178_20, ↓wpb, ↓wp1, ↓vI, ↓vL, ↓vD, ↓ldI, ↓ldL, ↓ldD, ↓ldR, ↓k1, ↓k2, ↓kI, ↓kL, ↓kD, ↓kII, ↓kLL, ↓kDD, ↓kR, ↓kIR, ↓kLR, ↓kIIR, ↓kLIR, ↓kDIR, ↓kRIR, ↓kNN, ↓kE, ↓br, ↓bn, ↓rtI, ↓gfv, ↓zchk, lput, ldel, lbad, alA, acat, isRf, dom, elAV, elR, Nat.reduceBEq, Nat.reduceAdd, Bool.or, Bool.and, Nat.add_zero, Nat.zero_add]
      try simp only [Nat.reduceLT, Nat.reduceLeDiff, Nat.reduceEqDiff, true_and, and_true, and_self, Nat.zero_le, Nat.le_refl, true_or, or_true, Bool.false_eq_true, not_false_eq_true, Nat.reduceAdd, Nat.lt_add_one, Nat.zero_lt_one, nI_add, pk_mul, ixL, vpL, ne_eq, reduceIte, wI_sN, wL_sM, sN_same, sN_K, sN_2, sM_1, sM_same, sM_K, sM_s, uI_at, uN_at, enc_at, uI_enc, uI_uI, upM_s, upM_n]
      exact ⟨rfl, rfl⟩
    | succ w ih =>
      intro k hk
      have ix : (nI k).toNatClampNeg = k := ixL (by omega)
      have vx : vp_in (nI k) N = True := vpL (by omega) (by omega)
      refine V_run hB (rt := none) (nL := 4) (mc := 0) rfl rfl rfl obJ7_fill_53178_5 ?_
      dsimp only [bJ7_fill_53178_5, ↓wpb, ↓wp1, ↓vI, ↓vL, ↓vD, ↓ldI, ↓ldL, ↓ldD, ↓ldR, ↓k1, ↓k2, ↓kI, ↓kL, ↓kD, ↓kII, ↓kLL, ↓kDD, ↓kR, ↓kIR, ↓kLR, ↓kIIR, ↓kLIR, ↓kDIR, ↓kRIR, ↓kNN, ↓kE, ↓br, ↓bn, ↓rtI, ↓gfv, ↓zchk, lput, ldel, lbad, alA, acat, isRf, dom, elAV, elR, Nat.reduceBEq, Nat.reduceAdd, Bool.or, Bool.and, Nat.add_zero, Nat.zero_add]
      try simp only [Nat.reduceLT, Nat.reduceLeDiff, Nat.reduceEqDiff, true_and, and_true, and_self, Nat.zero_le, Nat.le_refl, true_or, or_true, Bool.false_eq_true, not_false_eq_true, Nat.reduceAdd, Nat.lt_add_one, Nat.zero_lt_one, nI_add, pk_mul, ixL, vpL, ne_eq, reduceIte, wI_sN, wL_sM, sN_same, sN_K, sN_2, sM_1, sM_same, sM_K, sM_s, uI_at, uN_at, enc_at, uI_enc, uI_uI, upM_s, upM_n, h1, h2, h3, h4, h5, ix, vx, sN_sN]
      refine ⟨fun q => absurd q (nI_ge (by omega) (by omega)), fun _ => ?_⟩
      rw [flR_s _ _ (Nat.zero_le _)]
      exact ih (k + 1) (by omega)
  refine V_run hB (rt := none) (nL := 4) (mc := 0) rfl rfl rfl obJ7_fill_53178_0 ?_
  dsimp only [bJ7_fill_53178_0, ↓wpb, ↓wp1, ↓vI, ↓vL, ↓vD, ↓ldI, ↓ldL, ↓ldD, ↓ldR, ↓k1, ↓k2, ↓kI, ↓kL, ↓kD, ↓kII, ↓kLL, ↓kDD, ↓kR, ↓kIR, ↓kLR, ↓kIIR, ↓kLIR, ↓kDIR, ↓kRIR, ↓kNN, ↓kE, ↓br, ↓bn, ↓rtI, ↓gfv, ↓zchk, lput, ldel, lbad, alA, acat, isRf, dom, elAV, elR, Nat.reduceBEq, Nat.reduceAdd, Bool.or, Bool.and, Nat.add_zero, Nat.zero_add]
  try simp only [Nat.reduceLT, Nat.reduceLeDiff, Nat.reduceEqDiff, true_and, and_true, and_self, Nat.zero_le, Nat.le_refl, true_or, or_true, Bool.false_eq_true, not_false_eq_true, Nat.reduceAdd, Nat.lt_add_one, Nat.zero_lt_one, nI_add, pk_mul, ixL, vpL, ne_eq, reduceIte, wI_sN, wL_sM, sN_same, sN_K, sN_2, sM_1, sM_same, sM_K, sM_s, uI_at, uN_at, enc_at, uI_enc, uI_uI, upM_s, upM_n, h1, h2, h3, h4, h5, hz]
  have h := head N 0 (by omega)
  rw [flR_0, sN_id rfl] at h
  exact h
theorem q_fill2 (hc : Ctx l G) (τ : Mem) {K s j N a b : Nat} (h1 : s < dS K) (h2 : j < dJ K) (h3 : isO K = false) (h4 : aTy K = 0) (h5 : aLen K = N) (hN : N < 100000) (hab : a ≤ b) (hbN : b ≤ N) (v : Int32) : Sat l G iJ7_fill_fda19 [.inr (K, s, j), aI (nI a), aI (nI b), aI v] τ (retV (sN τ (K, s, j) (flR (τ.1 (K, s, j)) a b v))) := by
  refine Sat_ofF hc.1 hc.2 (by decide +kernel) (Nat.le_of_ble_eq_true rfl) (fun x hB hno => ?_)
  have hz : (0 : Nat) ≤ 7 := by omega
  have head : ∀ w k, k + w = b → a ≤ k → V x (sN τ (K, s, j) (flR (τ.1 (K, s, j)) a k v)) 0 10 [(0, .inr (K, s, j)), (1, aI (nI a)), (2, aI (nI b)), (3, aI v), (4, aI (nI k))] [] := by
    intro w
    induction w with
    | zero =>
      intro k hk hak
      have hk : k = b := by omega
      subst hk
      refine V_run hB (rt := none) (nL := 5) (mc := 0) rfl rfl rfl obJ7_fill_fda19_10 ?_
      dsimp only [bJ7_fill_fda19_10, ↓wpb, ↓wp1, ↓vI, ↓vL, ↓vD, ↓ldI, ↓ldL, ↓ldD, ↓ldR, ↓k1, ↓k2, ↓kI, ↓kL, ↓kD, ↓kII, ↓kLL, ↓kDD, ↓kR, ↓kIR, ↓kLR, ↓kIIR, ↓kLIR, ↓kDIR, ↓kRIR, ↓kNN, ↓kE, ↓br, ↓bn, ↓rtI, ↓gfv, ↓zchk, lput, ldel, lbad, alA, acat, isRf, dom, elAV, elR, Nat.reduceBEq, Nat.reduceAdd, Bool.or, Bool.and, Nat.add_zero, Nat.zero_add]
      try simp only [Nat.reduceLT, Nat.reduceLeDiff, Nat.reduceEqDiff, true_and, and_true, and_self, Nat.zero_le, Nat.le_refl, true_or, or_true, Bool.false_eq_true, not_false_eq_true, Nat.reduceAdd, Nat.lt_add_one, Nat.zero_lt_one, nI_add, pk_mul, ixL, vpL, ne_eq, reduceIte, wI_sN, wL_sM, sN_same, sN_K, sN_2, sM_1, sM_same, sM_K, sM_s, uI_at, uN_at, enc_at, uI_enc, uI_uI, upM_s, upM_n, h1, h2, h3, h4, h5]
      refine ⟨fun _ => ?_, fun q => absurd (nI_le (Nat.le_refl _) (by omega)) q⟩
      refine V_run hB (rt := none) (nL := 5) (mc := 0) rfl rfl rfl obJ7_fill_fda19_27 ?_
      dsimp only [bJ7_fill_fda19_27, ↓wpb, ↓wp1, ↓vI, ↓vL, ↓vD, ↓ldI, ↓ldL, ↓ldD, ↓ldR, ↓k1, ↓k2, ↓kI, ↓kL, ↓kD, ↓kII, ↓kLL, ↓kDD, ↓kR, ↓kIR, ↓kLR, ↓kIIR, ↓kLIR, ↓kDIR, ↓kRIR, ↓kNN, ↓kE, ↓br, ↓bn, ↓rtI, ↓gfv, ↓zchk, lput, ldel, lbad, alA, acat, isRf, dom, elAV, elR, Nat.reduceBEq, Nat.reduceAdd, Bool.or, Bool.and, Nat.add_zero, Nat.zero_add]
      try simp only [Nat.reduceLT, Nat.reduceLeDiff, Nat.reduceEqDiff, true_and, and_true, and_self, Nat.zero_le, Nat.le_refl, true_or, or_true, Bool.false_eq_true, not_false_eq_true, Nat.reduceAdd, Nat.lt_add_one, Nat.zero_lt_one, nI_add, pk_mul, ixL, vpL, ne_eq, reduceIte, wI_sN, wL_sM, sN_same, sN_K, sN_2, sM_1, sM_same, sM_K, sM_s, uI_at, uN_at, enc_at, uI_enc, uI_uI, upM_s, upM_n]
      exact ⟨rfl, rfl⟩
    | succ w ih =>
      intro k hk hak
      have ix : (nI k).toNatClampNeg = k := ixL (by omega)
      have vx : vp_in (nI k) N = True := vpL (by omega) (by omega)
      refine V_run hB (rt := none) (nL := 5) (mc := 0) rfl rfl rfl obJ7_fill_fda19_10 ?_
      dsimp only [bJ7_fill_fda19_10, ↓wpb, ↓wp1, ↓vI, ↓vL, ↓vD, ↓ldI, ↓ldL, ↓ldD, ↓ldR, ↓k1, ↓k2, ↓kI, ↓kL, ↓kD, ↓kII, ↓kLL, ↓kDD, ↓kR, ↓kIR, ↓kLR, ↓kIIR, ↓kLIR, ↓kDIR, ↓kRIR, ↓kNN, ↓kE, ↓br, ↓bn, ↓rtI, ↓gfv, ↓zchk, lput, ldel, lbad, alA, acat, isRf, dom, elAV, elR, Nat.reduceBEq, Nat.reduceAdd, Bool.or, Bool.and, Nat.add_zero, Nat.zero_add]
      try simp only [Nat.reduceLT, Nat.reduceLeDiff, Nat.reduceEqDiff, true_and, and_true, and_self, Nat.zero_le, Nat.le_refl, true_or, or_true, Bool.false_eq_true, not_false_eq_true, Nat.reduceAdd, Nat.lt_add_one, Nat.zero_lt_one, nI_add, pk_mul, ixL, vpL, ne_eq, reduceIte, wI_sN, wL_sM, sN_same, sN_K, sN_2, sM_1, sM_same, sM_K, sM_s, uI_at, uN_at, enc_at, uI_enc, uI_uI, upM_s, upM_n, h1, h2, h3, h4, h5, ix, vx, sN_sN]
      refine ⟨fun q => absurd q (nI_ge (by omega) (by omega)), fun _ => ?_⟩
      rw [flR_s _ _ hak]
      exact ih (k + 1) (by omega) (by omega)
  refine V_run hB (rt := none) (nL := 5) (mc := 0) rfl rfl rfl obJ7_fill_fda19_0 ?_
  dsimp only [bJ7_fill_fda19_0, ↓wpb, ↓wp1, ↓vI, ↓vL, ↓vD, ↓ldI, ↓ldL, ↓ldD, ↓ldR, ↓k1, ↓k2, ↓kI, ↓kL, ↓kD, ↓kII, ↓kLL, ↓kDD, ↓kR, ↓kIR, ↓kLR, ↓kIIR, ↓kLIR, ↓kDIR, ↓kRIR, ↓kNN, ↓kE, ↓br, ↓bn, ↓rtI, ↓gfv, ↓zchk, lput, ldel, lbad, alA, acat, isRf, dom, elAV, elR, Nat.reduceBEq, Nat.reduceAdd, Bool.or, Bool.and, Nat.add_zero, Nat.zero_add]
  try simp only [Nat.reduceLT, Nat.reduceLeDiff, Nat.reduceEqDiff, true_and, and_true, and_self, Nat.zero_le, Nat.le_refl, true_or, or_true, Bool.false_eq_true, not_false_eq_true, Nat.reduceAdd, Nat.lt_add_one, Nat.zero_lt_one, nI_add, pk_mul, ixL, vpL, ne_eq, reduceIte, wI_sN, wL_sM, sN_same, sN_K, sN_2, sM_1, sM_same, sM_K, sM_s, uI_at, uN_at, enc_at, uI_enc, uI_uI, upM_s, upM_n, h1, h2, h3, h4, h5, hz]
  refine V_cSv hB hno (q_rangeCheck hc τ (n := N) (by omega) hab hbN) rfl (by decide +kernel) csJ7_13 npJ7_rangeCheck_23922 ⟨by decide, by decide⟩ (Nat.le_of_ble_eq_true rfl) (n' := 0) (by decide) rfl ?_
  refine V_run hB (rt := none) (nL := 5) (mc := 0) rfl rfl rfl obJ7_fill_fda19_7 ?_
  dsimp only [bJ7_fill_fda19_7, ↓wpb, ↓wp1, ↓vI, ↓vL, ↓vD, ↓ldI, ↓ldL, ↓ldD, ↓ldR, ↓k1, ↓k2, ↓kI, ↓kL, ↓kD, ↓kII, ↓kLL, ↓kDD, ↓kR, ↓kIR, ↓kLR, ↓kIIR, ↓kLIR, ↓kDIR, ↓kRIR, ↓kNN, ↓kE, ↓br, ↓bn, ↓rtI, ↓gfv, ↓zchk, lput, ldel, lbad, alA, acat, isRf, dom, elAV, elR, Nat.reduceBEq, Nat.reduceAdd, Bool.or, Bool.and, Nat.add_zero, Nat.zero_add]
  try simp only [Nat.reduceLT, Nat.reduceLeDiff, Nat.reduceEqDiff, true_and, and_true, and_self, Nat.zero_le, Nat.le_refl, true_or, or_true, Bool.false_eq_true, not_false_eq_true, Nat.reduceAdd, Nat.lt_add_one, Nat.zero_lt_one, nI_add, pk_mul, ixL, vpL, ne_eq, reduceIte, wI_sN, wL_sM, sN_same, sN_K, sN_2, sM_1, sM_same, sM_K, sM_s, uI_at, uN_at, enc_at, uI_enc, uI_uI, upM_s, upM_n]
  have h := head (b - a) a (by omega) (Nat.le_refl _)
  rw [flR_0, sN_id rfl] at h
  exact h
end J1
/-! ===== copying a row of ints ===== -/
theorem s_copyI {x : Cx} {l : Launch} {G : GG} {y : MI} {Φ : AOut → Mem → Prop} (hB : Bd x l G y Φ) {τ : Mem} {n pc idx : Nat} {al : Al} {r : List AV} {K s' j s2 j2 N : Nat} (hlink : Cond.methodLink y.1.cls idx arraycopyName ∈ TBg) (hnat : Cond.native arraycopyName ∈ TBg) (hstat : Cond.static arraycopyName ∈ TBg) (hini : Cond.initialized "java/lang/System" ∈ TBg)
    (hd : decode y.2.1 pc = .ok (.invokestatic idx, 3)) (h0 : dom (K, s', j)) (h1 : dom (K, s2, j2)) (hO : isO K = false) (ht : aTy K = 0) (hN : aLen K = N) (hN2 : N < 1000) (hr : acats r ≤ 8)
    (k : V x (sN τ (K, s2, j2) (va_cpy (τ.1 (K, s', j)) (τ.1 (K, s2, j2)) 0 0 N)) n (pc + 3) al r) : V x τ n pc al (.inl (.int (nI N)) :: .inl (.int (nI 0)) :: .inr (K, s2, j2) :: .inl (.int (nI 0)) :: .inr (K, s', j) :: r) := by
  obtain ⟨hg, rfl, rfl, rfl, rfl⟩ := hB
  obtain ⟨l, G, p, e, s, m, args, below, meth, c, y, Φ⟩ := x
  obtain ⟨hx, hb, hown, hts, hml, hlk, hret, hst, hG, hX⟩ := hg
  subst hN
  intro H locs ls hW hS hL
  have hc0 := celA_at hW h0 hO
  have hc1 := celA_at hW h1 hO
  simp only [celA, ht] at hc0 hc1
  have hnf : nativeFrameWords "java/lang/System" "arraycopy" 5 ≤ 200 := by decide +kernel
  have z0 : ¬ (nI 0 : Int32) < 0 := nI_pos (by omega)
  have zN : ¬ nI (aLen K) < 0 := nI_pos (by omega)
  have t0 : (nI 0).toInt = 0 := rfl
  have tN : (nI (aLen K)).toInt = (aLen K : Int) := nI_toInt (by omega)
  have cN : (nI (aLen K)).toNatClampNeg = aLen K := ixL (by omega)
  have c0 : (nI 0).toNatClampNeg = 0 := rfl
  intro T hT X
  obtain ⟨-, k0, hk0, cm0, hkk0⟩ := (hW.1.2 0 _ rfl).1 (aLen K) (fun i => .int (τ.1 (K, s', j) i))
  obtain ⟨-, k1, hk1, cm1, hkk1⟩ := (hW.1.2 0 _ rfl).1 (aLen K) (fun i => .int (τ.1 (K, s2, j2) i))
  have hroom : 2 * 0 + ((r.map (conc G)).map fun v => v.category).sum + (nativeFrameWords "java/lang/System" "arraycopy" 5 + 11) ≤ (rmI y).locals := by
    rw [acats_sum]
    simp only [rmI]
    omega
  obtain ⟨vm', X', step⟩ := X.arraycopy hx hown (hts _ hlink) (hts _ hnat) (hts _ hstat) (hts _ hini) (src := G.2.1 (K, s', j)) (dst := G.2.1 (K, s2, j2)) (cs := vp_cell (G.2.2.2.1 0) (aLen K, .inl (τ.1 (K, s', j)))) (cd := vp_cell (G.2.2.2.1 0) (aLen K, .inl (τ.1 (K, s2, j2)))) (srcPos := nI 0) (destPos := nI 0) (n := nI (aLen K)) (by rw [hT]; exact hc0) (by rw [hT]; exact hc1)
    (fun _ h => by cases h) (fun _ h => by cases h) (fun h => by cases h) (fun h => by cases h) hk0 hk1 hkk0 hkk1 (by simp [refKind]) z0 z0 zN
    (by rw [t0, tN]; show ¬ _ > ((arrV (G.2.2.2.1 0) (aLen K) (fun j9 => .int (τ.1 (K, s', j) j9))).slots.size : Int); rw [arrV_size]; omega)
    (by rw [t0, tN]; show ¬ _ > ((arrV (G.2.2.2.1 0) (aLen K) (fun j9 => .int (τ.1 (K, s2, j2) j9))).slots.size : Int); rw [arrV_size]; omega)
    (fun vm₁ _ i hi => by
      rw [cN] at hi
      rw [c0, Nat.zero_add]
      have e : (vp_cell (G.2.2.2.1 0) (aLen K, .inl (τ.1 (K, s', j)))).slots.getD i .null = .int (τ.1 (K, s', j) i) := by
        show (arrV (G.2.2.2.1 0) (aLen K) (fun j9 => .int (τ.1 (K, s', j) j9))).slots.getD _ _ = _
        rw [Array.getD_eq_getD_getElem?, arrV_read _ _ (by omega)]
        rfl
      refine ⟨?_, ?_⟩
      · rw [e]; rfl
      · rw [e]; exact trivial)
    (g := F0 m pc ls (.int (nI (aLen K)) :: .int (nI 0) :: .ref (G.2.1 (K, s2, j2)) :: .int (nI 0) :: .ref (G.2.1 (K, s', j)) :: r.map (conc G))) rfl (by rw [← hml] at hL; exact hL.1) (rest := r.map (conc G)) rfl (by rw [hb]; exact hd) (by show 1 ≤ y.2.2.2.2.2 + 8; omega) hroom
  have e1 : copied (vp_cell (G.2.2.2.1 0) (aLen K, .inl (τ.1 (K, s', j)))) (vp_cell (G.2.2.2.1 0) (aLen K, .inl (τ.1 (K, s2, j2)))) (nI 0) (nI 0) (nI (aLen K)) = vp_cell (G.2.2.2.1 0) (aLen K, .inl (va_cpy (τ.1 (K, s', j)) (τ.1 (K, s2, j2)) (nI 0).toNatClampNeg (nI 0).toNatClampNeg (nI (aLen K)).toNatClampNeg)) := va_copied (fun z => .int z) (G.2.2.2.1 0) (G.2.2.2.1 0) (τ.1 (K, s', j)) (τ.1 (K, s2, j2)) (by rw [c0, cN]; omega)
  rw [e1, c0, cN] at X' step
  have hl : G.2.1 (K, s2, j2) < H.size := (Array.getElem?_eq_some_iff.mp hc1).1
  have hheap : ((T.setVm vm').setCell (G.2.1 (K, s2, j2)) (vp_cell (G.2.2.2.1 0) (aLen K, .inl (va_cpy (τ.1 (K, s', j)) (τ.1 (K, s2, j2)) 0 0 (aLen K))))).heap = H.setIfInBounds (G.2.1 (K, s2, j2)) (vp_cell (G.2.2.2.1 0) (aLen K, .inl (va_cpy (τ.1 (K, s', j)) (τ.1 (K, s2, j2)) 0 0 (aLen K)))) := by rw [← hT]; rfl
  have oq : ∀ q : Nat, q ≠ G.2.1 (K, s2, j2) → (H.setIfInBounds (G.2.1 (K, s2, j2)) (vp_cell (G.2.2.2.1 0) (aLen K, .inl (va_cpy (τ.1 (K, s', j)) (τ.1 (K, s2, j2)) 0 0 (aLen K)))))[q]? = H[q]? := fun q hq => by simp [Array.getElem?_setIfInBounds, Ne.symm hq]
  have hW2 : World G (sN τ (K, s2, j2) (va_cpy (τ.1 (K, s', j)) (τ.1 (K, s2, j2)) 0 0 (aLen K))) s (H.setIfInBounds (G.2.1 (K, s2, j2)) (vp_cell (G.2.2.2.1 0) (aLen K, .inl (va_cpy (τ.1 (K, s', j)) (τ.1 (K, s2, j2)) 0 0 (aLen K))))) := by
    refine hW.put hG h1 rfl (fun a h => sN_ne h) (fun _ _ => rfl) ?_ (by simp) oq
    simp only [cel, hO, Bool.false_eq_true, if_false, celA, ht, sN_same]
    show (H.setIfInBounds _ _)[_]? = some _
    simp [Array.getElem?_setIfInBounds, hl]
  obtain ⟨t, a1, b1⟩ := k _ _ ls hW2 ⟨by simp; exact hS.1, fun q g1 g2 => by
      rw [oq q (fun e => g2 (by rw [e]; exact hG.2.1 _ h1))]
      exact hS.2.1 q g1 g2, fun q hq => by
      rcases List.mem_append.mp hq with h | h
      · exact hS.2.2 q h
      · obtain ⟨z, -, hz⟩ := List.mem_map.mp h
        rw [← hz]
        exact hG.2.1 _ h1⟩ hL _ hheap X'
  exact ⟨t, step t a1, b1⟩
