/-! ===== constants: the forms of the commands, their texts ===== -/
def iJ0_coder_7d493 : MI := (yJ0_coder_7d493, cJ0_coder_7d493, 1, some .byte, 0, 3)
theorem npJ0_coder_7d493 : npar iJ0_coder_7d493 0 := (by decide +kernel : (parseMethodDescriptor yJ0_coder_7d493.desc).map (fun d => d.parameters.length) = some 0)
def iJ0_isLatin1_aae02 : MI := (yJ0_isLatin1_aae02, cJ0_isLatin1_aae02, 1, some .boolean, 0, 3)
theorem npJ0_isLatin1_aae02 : npar iJ0_isLatin1_aae02 0 := (by decide +kernel : (parseMethodDescriptor yJ0_isLatin1_aae02.desc).map (fun d => d.parameters.length) = some 0)
def iJ0_length_8abf5 : MI := (yJ0_length_8abf5, cJ0_length_8abf5, 1, some .int, 0, 4)
theorem npJ0_length_8abf5 : npar iJ0_length_8abf5 0 := (by decide +kernel : (parseMethodDescriptor yJ0_length_8abf5.desc).map (fun d => d.parameters.length) = some 0)
def iJ3_checkIndex_8e157 : MI := (yJ3_checkIndex_8e157, cJ3_checkIndex_8e157, 3, some .int, 0, 3)
theorem npJ3_checkIndex_8e157 : npar iJ3_checkIndex_8e157 3 := (by decide +kernel : (parseMethodDescriptor yJ3_checkIndex_8e157.desc).map (fun d => d.parameters.length) = some 3)
def iJ0_checkIndex_df160 : MI := (yJ0_checkIndex_df160, cJ0_checkIndex_df160, 2, none, 0, 4)
theorem npJ0_checkIndex_df160 : npar iJ0_checkIndex_df160 2 := (by decide +kernel : (parseMethodDescriptor yJ0_checkIndex_df160.desc).map (fun d => d.parameters.length) = some 2)
def iJ1_charAt_3b067 : MI := (yJ1_charAt_3b067, cJ1_charAt_3b067, 2, some .char, 0, 5)
theorem npJ1_charAt_3b067 : npar iJ1_charAt_3b067 2 := (by decide +kernel : (parseMethodDescriptor yJ1_charAt_3b067.desc).map (fun d => d.parameters.length) = some 2)
def iJ0_charAt_5068e : MI := (yJ0_charAt_5068e, cJ0_charAt_5068e, 2, some .char, 0, 6)
theorem npJ0_charAt_5068e : npar iJ0_charAt_5068e 1 := (by decide +kernel : (parseMethodDescriptor yJ0_charAt_5068e.desc).map (fun d => d.parameters.length) = some 1)
def iJx29ce0_ordinal_8abf5 : MI := (yJx29ce0_ordinal_8abf5, cJx29ce0_ordinal_8abf5, 1, some .int, 0, 3)
theorem npJx29ce0_ordinal_8abf5 : npar iJx29ce0_ordinal_8abf5 0 := (by decide +kernel : (parseMethodDescriptor yJx29ce0_ordinal_8abf5.desc).map (fun d => d.parameters.length) = some 0)
/-- a call site on a constant of class C -/
def CK (own : String) (idx : Nat) (z : MI) : Prop := Cond.methodLink own idx z.1 ∈ TBg ∧ Cond.instanceMethod z.1 ∈ TBg ∧ Cond.selects z.1.cls z.1 z.1 ∈ TBg ∧ Cond.initialized z.1.cls ∈ TBg ∧ Cond.code z.1 z.2.1 z.2.2.1 z.2.2.2.1 ∈ TBg ∧ z.1.cls ≠ "java/lang/invoke/MethodHandle" ∧ z.1.cls ≠ "java/lang/invoke/VarHandle"
theorem ckX7_51 : CK RX7 51 iJ0_length_8abf5 := ⟨TBg_at 1494 (by decide +kernel), TBg_at 1061 (by decide +kernel), TBg_at 1062 (by decide +kernel), TBg_at 74 (by decide +kernel), TBg_at 1063 (by decide +kernel), by decide +kernel, by decide +kernel⟩
theorem ckX7_56 : CK RX7 56 iJ0_charAt_5068e := ⟨TBg_at 1495 (by decide +kernel), TBg_at 1496 (by decide +kernel), TBg_at 1497 (by decide +kernel), TBg_at 74 (by decide +kernel), TBg_at 1498 (by decide +kernel), by decide +kernel, by decide +kernel⟩
theorem ckJ0_335 : CK RJ0 335 iJ0_coder_7d493 := ⟨TBg_at 1064 (by decide +kernel), TBg_at 1065 (by decide +kernel), TBg_at 1066 (by decide +kernel), TBg_at 74 (by decide +kernel), TBg_at 1067 (by decide +kernel), by decide +kernel, by decide +kernel⟩
theorem csJ0_1059 : CS RJ0 1059 iJ3_checkIndex_8e157 := ⟨TBg_at 1423 (by decide +kernel), TBg_at 1424 (by decide +kernel), TBg_at 89 (by decide +kernel), TBg_at 1425 (by decide +kernel), by decide +kernel, by decide +kernel⟩
theorem csJ1_9 : CS RJ1 9 iJ0_checkIndex_df160 := ⟨TBg_at 1506 (by decide +kernel), TBg_at 1421 (by decide +kernel), TBg_at 74 (by decide +kernel), TBg_at 1422 (by decide +kernel), by decide +kernel, by decide +kernel⟩
theorem ckJ0_492 : CK RJ0 492 iJ0_isLatin1_aae02 := ⟨TBg_at 1499 (by decide +kernel), TBg_at 1500 (by decide +kernel), TBg_at 1501 (by decide +kernel), TBg_at 74 (by decide +kernel), TBg_at 1502 (by decide +kernel), by decide +kernel, by decide +kernel⟩
theorem csJ0_495 : CS RJ0 495 iJ1_charAt_3b067 := ⟨TBg_at 1503 (by decide +kernel), TBg_at 1504 (by decide +kernel), TBg_at 90 (by decide +kernel), TBg_at 1505 (by decide +kernel), by decide +kernel, by decide +kernel⟩
def bJ0_coder_7d493_3 : List Op3 := [(3, .ifCond .eq 10, 3, (13, 0, 0, 0, 0, 0), 0), (6, .aload_n 0, 1, (0, 0, 0, 0, 0, 0), 0)]
theorem obJ0_coder_7d493_3 : dcd RJ0 cJ0_coder_7d493 3 bJ0_coder_7d493_3 = true := by decide +kernel
def bJ0_coder_7d493_10 : List Op3 := [(10, .goto 4, 3, (14, 0, 0, 0, 0, 0), 0)]
theorem obJ0_coder_7d493_10 : dcd RJ0 cJ0_coder_7d493 10 bJ0_coder_7d493_10 = true := by decide +kernel
def bJ0_coder_7d493_13 : List Op3 := [(13, .iconst 1, 1, (0, 0, 0, 0, 0, 0), nI 1), (14, .ireturn, 1, (0, 0, 0, 0, 0, 0), 0)]
theorem obJ0_coder_7d493_13 : dcd RJ0 cJ0_coder_7d493 13 bJ0_coder_7d493_13 = true := by decide +kernel
def bJ0_coder_7d493_14 : List Op3 := [(14, .ireturn, 1, (0, 0, 0, 0, 0, 0), 0)]
theorem obJ0_coder_7d493_14 : dcd RJ0 cJ0_coder_7d493 14 bJ0_coder_7d493_14 = true := by decide +kernel
def bJ0_isLatin1_aae02_3 : List Op3 := [(3, .ifCond .eq 14, 3, (17, 0, 0, 0, 0, 0), 0), (6, .aload_n 0, 1, (0, 0, 0, 0, 0, 0), 0)]
theorem obJ0_isLatin1_aae02_3 : dcd RJ0 cJ0_isLatin1_aae02 3 bJ0_isLatin1_aae02_3 = true := by decide +kernel
def bJ0_isLatin1_aae02_10 : List Op3 := [(10, .ifCond .ne 7, 3, (17, 0, 0, 0, 0, 0), 0), (13, .iconst 1, 1, (0, 0, 0, 0, 0, 0), nI 1), (14, .goto 4, 3, (18, 0, 0, 0, 0, 0), 0)]
theorem obJ0_isLatin1_aae02_10 : dcd RJ0 cJ0_isLatin1_aae02 10 bJ0_isLatin1_aae02_10 = true := by decide +kernel
def bJ0_isLatin1_aae02_17 : List Op3 := [(17, .iconst 0, 1, (0, 0, 0, 0, 0, 0), nI 0), (18, .ireturn, 1, (0, 0, 0, 0, 0, 0), 0)]
theorem obJ0_isLatin1_aae02_17 : dcd RJ0 cJ0_isLatin1_aae02 17 bJ0_isLatin1_aae02_17 = true := by decide +kernel
def bJ0_isLatin1_aae02_18 : List Op3 := [(18, .ireturn, 1, (0, 0, 0, 0, 0, 0), 0)]
theorem obJ0_isLatin1_aae02_18 : dcd RJ0 cJ0_isLatin1_aae02 18 bJ0_isLatin1_aae02_18 = true := by decide +kernel
def bJ0_length_8abf5_0 : List Op3 := [(0, .aload_n 0, 1, (0, 0, 0, 0, 0, 0), 0)]
theorem obJ0_length_8abf5_0 : dcd RJ0 cJ0_length_8abf5 0 bJ0_length_8abf5_0 = true := by decide +kernel
def bJ0_length_8abf5_4 : List Op3 := [(4, .arraylength, 1, (0, 0, 0, 0, 0, 0), 0), (5, .aload_n 0, 1, (0, 0, 0, 0, 0, 0), 0)]
theorem obJ0_length_8abf5_4 : dcd RJ0 cJ0_length_8abf5 4 bJ0_length_8abf5_4 = true := by decide +kernel
def bJ0_length_8abf5_9 : List Op3 := [(9, .ishr, 1, (0, 0, 0, 0, 0, 0), 0), (10, .ireturn, 1, (0, 0, 0, 0, 0, 0), 0)]
theorem obJ0_length_8abf5_9 : dcd RJ0 cJ0_length_8abf5 9 bJ0_length_8abf5_9 = true := by decide +kernel
def bJ3_checkIndex_8e157_0 : List Op3 := [(0, .iload_n 0, 1, (0, 0, 0, 0, 0, 0), 0), (1, .ifCond .lt 8, 3, (9, 0, 0, 0, 0, 0), 0), (4, .iload_n 0, 1, (0, 0, 0, 0, 0, 0), 0), (5, .iload_n 1, 1, (1, 0, 0, 0, 0, 0), 0), (6, .if_icmp .lt 10, 3, (16, 0, 0, 0, 0, 0), 0), (9, .aload_n 2, 1, (2, 0, 0, 0, 0, 0), 0), (10, .iload_n 0, 1, (0, 0, 0, 0, 0, 0), 0), (11, .iload_n 1, 1, (1, 0, 0, 0, 0, 0), 0)]
theorem obJ3_checkIndex_8e157_0 : dcd RJ3 cJ3_checkIndex_8e157 0 bJ3_checkIndex_8e157_0 = true := by decide +kernel
def bJ3_checkIndex_8e157_9 : List Op3 := [(9, .aload_n 2, 1, (2, 0, 0, 0, 0, 0), 0), (10, .iload_n 0, 1, (0, 0, 0, 0, 0, 0), 0), (11, .iload_n 1, 1, (1, 0, 0, 0, 0, 0), 0)]
theorem obJ3_checkIndex_8e157_9 : dcd RJ3 cJ3_checkIndex_8e157 9 bJ3_checkIndex_8e157_9 = true := by decide +kernel
def bJ3_checkIndex_8e157_16 : List Op3 := [(16, .iload_n 0, 1, (0, 0, 0, 0, 0, 0), 0), (17, .ireturn, 1, (0, 0, 0, 0, 0, 0), 0)]
theorem obJ3_checkIndex_8e157_16 : dcd RJ3 cJ3_checkIndex_8e157 16 bJ3_checkIndex_8e157_16 = true := by decide +kernel
def bJ0_checkIndex_df160_0 : List Op3 := [(0, .iload_n 0, 1, (0, 0, 0, 0, 0, 0), 0), (1, .iload_n 1, 1, (1, 0, 0, 0, 0, 0), 0)]
theorem obJ0_checkIndex_df160_0 : dcd RJ0 cJ0_checkIndex_df160 0 bJ0_checkIndex_df160_0 = true := by decide +kernel
def bJ0_checkIndex_df160_8 : List Op3 := [(8, .pop, 1, (0, 0, 0, 0, 0, 0), 0), (9, .return_, 1, (0, 0, 0, 0, 0, 0), 0)]
theorem obJ0_checkIndex_df160_8 : dcd RJ0 cJ0_checkIndex_df160 8 bJ0_checkIndex_df160_8 = true := by decide +kernel
def bJ1_charAt_3b067_0 : List Op3 := [(0, .iload_n 1, 1, (1, 0, 0, 0, 0, 0), 0), (1, .aload_n 0, 1, (0, 0, 0, 0, 0, 0), 0), (2, .arraylength, 1, (0, 0, 0, 0, 0, 0), 0)]
theorem obJ1_charAt_3b067_0 : dcd RJ1 cJ1_charAt_3b067 0 bJ1_charAt_3b067_0 = true := by decide +kernel
def bJ1_charAt_3b067_6 : List Op3 := [(6, .aload_n 0, 1, (0, 0, 0, 0, 0, 0), 0), (7, .iload_n 1, 1, (1, 0, 0, 0, 0, 0), 0)]
theorem obJ1_charAt_3b067_6 : dcd RJ1 cJ1_charAt_3b067 6 bJ1_charAt_3b067_6 = true := by decide +kernel
def bJ1_charAt_3b067_9 : List Op3 := [(9, .sipush 255, 3, (0, 0, 0, 0, 0, 0), nI 255), (12, .iand, 1, (0, 0, 0, 0, 0, 0), 0), (13, .i2c, 1, (0, 0, 0, 0, 0, 0), 0), (14, .ireturn, 1, (0, 0, 0, 0, 0, 0), 0)]
theorem obJ1_charAt_3b067_9 : dcd RJ1 cJ1_charAt_3b067 9 bJ1_charAt_3b067_9 = true := by decide +kernel
def bJ0_charAt_5068e_0 : List Op3 := [(0, .aload_n 0, 1, (0, 0, 0, 0, 0, 0), 0)]
theorem obJ0_charAt_5068e_0 : dcd RJ0 cJ0_charAt_5068e 0 bJ0_charAt_5068e_0 = true := by decide +kernel
def bJ0_charAt_5068e_4 : List Op3 := [(4, .ifCond .eq 12, 3, (16, 0, 0, 0, 0, 0), 0), (7, .aload_n 0, 1, (0, 0, 0, 0, 0, 0), 0)]
theorem obJ0_charAt_5068e_4 : dcd RJ0 cJ0_charAt_5068e 4 bJ0_charAt_5068e_4 = true := by decide +kernel
def bJ0_charAt_5068e_11 : List Op3 := [(11, .iload_n 1, 1, (1, 0, 0, 0, 0, 0), 0)]
theorem obJ0_charAt_5068e_11 : dcd RJ0 cJ0_charAt_5068e 11 bJ0_charAt_5068e_11 = true := by decide +kernel
def bJ0_charAt_5068e_15 : List Op3 := [(15, .ireturn, 1, (0, 0, 0, 0, 0, 0), 0)]
theorem obJ0_charAt_5068e_15 : dcd RJ0 cJ0_charAt_5068e 15 bJ0_charAt_5068e_15 = true := by decide +kernel
def bJ0_charAt_5068e_16 : List Op3 := [(16, .aload_n 0, 1, (0, 0, 0, 0, 0, 0), 0)]
theorem obJ0_charAt_5068e_16 : dcd RJ0 cJ0_charAt_5068e 16 bJ0_charAt_5068e_16 = true := by decide +kernel
def bJ0_charAt_5068e_20 : List Op3 := [(20, .iload_n 1, 1, (1, 0, 0, 0, 0, 0), 0)]
theorem obJ0_charAt_5068e_20 : dcd RJ0 cJ0_charAt_5068e 20 bJ0_charAt_5068e_20 = true := by decide +kernel
def bJ0_charAt_5068e_24 : List Op3 := [(24, .ireturn, 1, (0, 0, 0, 0, 0, 0), 0)]
theorem obJ0_charAt_5068e_24 : dcd RJ0 cJ0_charAt_5068e 24 bJ0_charAt_5068e_24 = true := by decide +kernel
def bJx29ce0_ordinal_8abf5_0 : List Op3 := [(0, .aload_n 0, 1, (0, 0, 0, 0, 0, 0), 0)]
theorem obJx29ce0_ordinal_8abf5_0 : dcd RJx29ce0 cJx29ce0_ordinal_8abf5 0 bJx29ce0_ordinal_8abf5_0 = true := by decide +kernel
def bJx29ce0_ordinal_8abf5_4 : List Op3 := [(4, .ireturn, 1, (0, 0, 0, 0, 0, 0), 0)]
theorem obJx29ce0_ordinal_8abf5_4 : dcd RJx29ce0 cJx29ce0_ordinal_8abf5 4 bJx29ce0_ordinal_8abf5_4 = true := by decide +kernel
