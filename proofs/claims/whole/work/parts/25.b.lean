/-! ===== the slip: its methods, their words ===== -/
def iJ5_isLatin1_aae02 : MI := (yJ5_isLatin1_aae02, cJ5_isLatin1_aae02, 1, (Option.some FieldType.boolean), 0, 1)
theorem npJ5_isLatin1_aae02 : npar iJ5_isLatin1_aae02 0 := (by decide +kernel : (parseMethodDescriptor yJ5_isLatin1_aae02.desc).map (fun d => d.parameters.length) = some 0)
def iJ5_length_8abf5 : MI := (yJ5_length_8abf5, cJ5_length_8abf5, 1, (Option.some FieldType.int), 0, 1)
theorem npJ5_length_8abf5 : npar iJ5_length_8abf5 0 := (by decide +kernel : (parseMethodDescriptor yJ5_length_8abf5.desc).map (fun d => d.parameters.length) = some 0)
def iJ1_canEncode_fc78d : MI := (yJ1_canEncode_fc78d, cJ1_canEncode_fc78d, 1, (Option.some FieldType.boolean), 0, 1)
theorem npJ1_canEncode_fc78d : npar iJ1_canEncode_fc78d 1 := (by decide +kernel : (parseMethodDescriptor yJ1_canEncode_fc78d.desc).map (fun d => d.parameters.length) = some 1)
def iJ8_newLength_cabcc : MI := (yJ8_newLength_cabcc, cJ8_newLength_cabcc, 4, (Option.some FieldType.int), 0, 2)
theorem npJ8_newLength_cabcc : npar iJ8_newLength_cabcc 3 := (by decide +kernel : (parseMethodDescriptor yJ8_newLength_cabcc.desc).map (fun d => d.parameters.length) = some 3)
def iJ5_newCapacity_0f7a4 : MI := (yJ5_newCapacity_0f7a4, cJ5_newCapacity_0f7a4, 6, (Option.some FieldType.int), 0, 3)
theorem npJ5_newCapacity_0f7a4 : npar iJ5_newCapacity_0f7a4 1 := (by decide +kernel : (parseMethodDescriptor yJ5_newCapacity_0f7a4.desc).map (fun d => d.parameters.length) = some 1)
def iJ7_copyOf_9075b : MI := (yJ7_copyOf_9075b, cJ7_copyOf_9075b, 3, (Option.some (FieldType.array FieldType.byte)), 20, 2)
theorem npJ7_copyOf_9075b : npar iJ7_copyOf_9075b 2 := (by decide +kernel : (parseMethodDescriptor yJ7_copyOf_9075b.desc).map (fun d => d.parameters.length) = some 2)
def iJ5_ensureCapacityInternal_d00df : MI := (yJ5_ensureCapacityInternal_d00df, cJ5_ensureCapacityInternal_d00df, 3, none, 20, 4)
theorem npJ5_ensureCapacityInternal_d00df : npar iJ5_ensureCapacityInternal_d00df 1 := (by decide +kernel : (parseMethodDescriptor yJ5_ensureCapacityInternal_d00df.desc).map (fun d => d.parameters.length) = some 1)
def iJ5_append_3fe6f : MI := (yJ5_append_3fe6f, cJ5_append_3fe6f, 2, (Option.some (FieldType.object "java/lang/AbstractStringBuilder")), 20, 5)
theorem npJ5_append_3fe6f : npar iJ5_append_3fe6f 1 := (by decide +kernel : (parseMethodDescriptor yJ5_append_3fe6f.desc).map (fun d => d.parameters.length) = some 1)
def iJ4_append_cf468 : MI := (yJ4_append_cf468, cJ4_append_cf468, 2, (Option.some (FieldType.object "java/lang/StringBuilder")), 20, 6)
theorem npJ4_append_cf468 : npar iJ4_append_cf468 1 := (by decide +kernel : (parseMethodDescriptor yJ4_append_cf468.desc).map (fun d => d.parameters.length) = some 1)
def iJ6_stringSize_0f7a4 : MI := (yJ6_stringSize_0f7a4, cJ6_stringSize_0f7a4, 4, (Option.some FieldType.int), 0, 1)
theorem npJ6_stringSize_0f7a4 : npar iJ6_stringSize_0f7a4 1 := (by decide +kernel : (parseMethodDescriptor yJ6_stringSize_0f7a4.desc).map (fun d => d.parameters.length) = some 1)
def iJ6_getChars_ba4f3 : MI := (yJ6_getChars_ba4f3, cJ6_getChars_ba4f3, 7, (Option.some FieldType.int), 0, 1)
theorem npJ6_getChars_ba4f3 : npar iJ6_getChars_ba4f3 3 := (by decide +kernel : (parseMethodDescriptor yJ6_getChars_ba4f3.desc).map (fun d => d.parameters.length) = some 3)
def iJ5_append_c97b9 : MI := (yJ5_append_c97b9, cJ5_append_c97b9, 4, (Option.some (FieldType.object "java/lang/AbstractStringBuilder")), 20, 5)
theorem npJ5_append_c97b9 : npar iJ5_append_c97b9 1 := (by decide +kernel : (parseMethodDescriptor yJ5_append_c97b9.desc).map (fun d => d.parameters.length) = some 1)
def iJ4_append_bf812 : MI := (yJ4_append_bf812, cJ4_append_bf812, 2, (Option.some (FieldType.object "java/lang/StringBuilder")), 20, 6)
theorem npJ4_append_bf812 : npar iJ4_append_bf812 1 := (by decide +kernel : (parseMethodDescriptor yJ4_append_bf812.desc).map (fun d => d.parameters.length) = some 1)
def iJ0_getBytes_840e7 : MI := (yJ0_getBytes_840e7, cJ0_getBytes_840e7, 4, none, 0, 4)
theorem npJ0_getBytes_840e7 : npar iJ0_getBytes_840e7 3 := (by decide +kernel : (parseMethodDescriptor yJ0_getBytes_840e7.desc).map (fun d => d.parameters.length) = some 3)
def iJ5_inflateIfNeededFor_a7421 : MI := (yJ5_inflateIfNeededFor_a7421, cJ5_inflateIfNeededFor_a7421, 2, none, 0, 4)
theorem npJ5_inflateIfNeededFor_a7421 : npar iJ5_inflateIfNeededFor_a7421 1 := (by decide +kernel : (parseMethodDescriptor yJ5_inflateIfNeededFor_a7421.desc).map (fun d => d.parameters.length) = some 1)
def iJ5_putStringAt_47b60 : MI := (yJ5_putStringAt_47b60, cJ5_putStringAt_47b60, 3, none, 0, 5)
theorem npJ5_putStringAt_47b60 : npar iJ5_putStringAt_47b60 2 := (by decide +kernel : (parseMethodDescriptor yJ5_putStringAt_47b60.desc).map (fun d => d.parameters.length) = some 2)
def iJ5_append_cf1ce : MI := (yJ5_append_cf1ce, cJ5_append_cf1ce, 3, (Option.some (FieldType.object "java/lang/AbstractStringBuilder")), 20, 6)
theorem npJ5_append_cf1ce : npar iJ5_append_cf1ce 1 := (by decide +kernel : (parseMethodDescriptor yJ5_append_cf1ce.desc).map (fun d => d.parameters.length) = some 1)
def iJ4_append_15ec4 : MI := (yJ4_append_15ec4, cJ4_append_15ec4, 2, (Option.some (FieldType.object "java/lang/StringBuilder")), 20, 7)
theorem npJ4_append_15ec4 : npar iJ4_append_15ec4 1 := (by decide +kernel : (parseMethodDescriptor yJ4_append_15ec4.desc).map (fun d => d.parameters.length) = some 1)
def iJ5_setLength_d00df : MI := (yJ5_setLength_d00df, cJ5_setLength_d00df, 2, none, 20, 5)
theorem npJ5_setLength_d00df : npar iJ5_setLength_d00df 1 := (by decide +kernel : (parseMethodDescriptor yJ5_setLength_d00df.desc).map (fun d => d.parameters.length) = some 1)
def iJ4_setLength_d00df : MI := (yJ4_setLength_d00df, cJ4_setLength_d00df, 2, none, 20, 6)
theorem npJ4_setLength_d00df : npar iJ4_setLength_d00df 1 := (by decide +kernel : (parseMethodDescriptor yJ4_setLength_d00df.desc).map (fun d => d.parameters.length) = some 1)
def iJ4_length_8abf5 : MI := (yJ4_length_8abf5, cJ4_length_8abf5, 1, (Option.some FieldType.int), 0, 2)
theorem npJ4_length_8abf5 : npar iJ4_length_8abf5 0 := (by decide +kernel : (parseMethodDescriptor yJ4_length_8abf5.desc).map (fun d => d.parameters.length) = some 0)
def iJ5_charAt_5068e : MI := (yJ5_charAt_5068e, cJ5_charAt_5068e, 5, (Option.some FieldType.char), 0, 5)
theorem npJ5_charAt_5068e : npar iJ5_charAt_5068e 1 := (by decide +kernel : (parseMethodDescriptor yJ5_charAt_5068e.desc).map (fun d => d.parameters.length) = some 1)
def iJ4_charAt_5068e : MI := (yJ4_charAt_5068e, cJ4_charAt_5068e, 2, (Option.some FieldType.char), 0, 6)
theorem npJ4_charAt_5068e : npar iJ4_charAt_5068e 1 := (by decide +kernel : (parseMethodDescriptor yJ4_charAt_5068e.desc).map (fun d => d.parameters.length) = some 1)
def iJ9_max1 : MI := (yJ9_max_7cf53, cJ9_max_7cf53, 2, some .int, 0, 1)
theorem npJ9_max1 : npar iJ9_max1 2 := npJ9_max_7cf53
def iJ9_min1 : MI := (yJ9_min_7cf53, cJ9_min_7cf53, 2, some .int, 0, 1)
theorem npJ9_min1 : npar iJ9_min1 2 := npJ9_min_7cf53
theorem cs5J8_194 : CS RJ8 194 iJ9_max1 := ⟨(TBg_at 1011 (by decide +kernel)), (TBg_at 491 (by decide +kernel)), (TBg_at 84 (by decide +kernel)), (TBg_at 492 (by decide +kernel)), (by decide +kernel), (by decide +kernel)⟩
theorem cs5J5_114 : CS RJ5 114 iJ8_newLength_cabcc := ⟨(TBg_at 1008 (by decide +kernel)), (TBg_at 1009 (by decide +kernel)), (TBg_at 88 (by decide +kernel)), (TBg_at 1010 (by decide +kernel)), (by decide +kernel), (by decide +kernel)⟩
theorem cs5J7_304 : CS RJ7 304 iJ9_min1 := ⟨(TBg_at 1027 (by decide +kernel)), (TBg_at 700 (by decide +kernel)), (TBg_at 84 (by decide +kernel)), (TBg_at 701 (by decide +kernel)), (by decide +kernel), (by decide +kernel)⟩
theorem cu5J5_104 : CUW RJ5 104 iJ5_newCapacity_0f7a4 := ⟨(TBg_at 1004 (by decide +kernel)), (TBg_at 2056 (by decide +kernel)), (TBg_at 1006 (by decide +kernel)), (TBg_at 72 (by decide +kernel)), (TBg_at 1007 (by decide +kernel)), rfl, (by decide +kernel), Or.inr (by decide +kernel)⟩
theorem cs5J5_108 : CS RJ5 108 iJ7_copyOf_9075b := ⟨(TBg_at 1017 (by decide +kernel)), (TBg_at 1018 (by decide +kernel)), (TBg_at 65 (by decide +kernel)), (TBg_at 1019 (by decide +kernel)), (by decide +kernel), (by decide +kernel)⟩
theorem cu5J5_100 : CUW RJ5 100 iJ5_ensureCapacityInternal_d00df := ⟨(TBg_at 1000 (by decide +kernel)), (TBg_at 2055 (by decide +kernel)), (TBg_at 1002 (by decide +kernel)), (TBg_at 72 (by decide +kernel)), (TBg_at 1003 (by decide +kernel)), rfl, (by decide +kernel), Or.inr (by decide +kernel)⟩
theorem cu5J5_83 : CUW RJ5 83 iJ5_isLatin1_aae02 := ⟨(TBg_at 1029 (by decide +kernel)), (TBg_at 1031 (by decide +kernel)), (TBg_at 1030 (by decide +kernel)), (TBg_at 72 (by decide +kernel)), (TBg_at 1033 (by decide +kernel)), rfl, (by decide +kernel), Or.inl (TBg_at 1032 (by decide +kernel))⟩
theorem cs5J5_191 : CS RJ5 191 iJ1_canEncode_fc78d := ⟨(TBg_at 1411 (by decide +kernel)), (TBg_at 1412 (by decide +kernel)), (TBg_at 90 (by decide +kernel)), (TBg_at 1413 (by decide +kernel)), (by decide +kernel), (by decide +kernel)⟩
theorem su5J4_50 : CSU RJ4 50 iJ5_append_3fe6f := ⟨(TBg_at 1408 (by decide +kernel)), (TBg_at 2062 (by decide +kernel)), (TBg_at 385 (by decide +kernel)), (TBg_at 1409 (by decide +kernel)), (TBg_at 72 (by decide +kernel)), (TBg_at 1410 (by decide +kernel)), (by decide +kernel)⟩
theorem cs5J5_245 : CS RJ5 245 iJ6_stringSize_0f7a4 := ⟨(TBg_at 1110 (by decide +kernel)), (TBg_at 1111 (by decide +kernel)), (TBg_at 92 (by decide +kernel)), (TBg_at 1112 (by decide +kernel)), (by decide +kernel), (by decide +kernel)⟩
theorem cs5J5_248 : CS RJ5 248 iJ6_getChars_ba4f3 := ⟨(TBg_at 1113 (by decide +kernel)), (TBg_at 1114 (by decide +kernel)), (TBg_at 92 (by decide +kernel)), (TBg_at 1115 (by decide +kernel)), (by decide +kernel), (by decide +kernel)⟩
theorem su5J4_53 : CSU RJ4 53 iJ5_append_c97b9 := ⟨(TBg_at 1107 (by decide +kernel)), (TBg_at 2060 (by decide +kernel)), (TBg_at 385 (by decide +kernel)), (TBg_at 1108 (by decide +kernel)), (TBg_at 72 (by decide +kernel)), (TBg_at 1109 (by decide +kernel)), (by decide +kernel)⟩
theorem ck5J0_335 : CK RJ0 335 iJ0_coder_7d493 := ⟨(TBg_at 1064 (by decide +kernel)), (TBg_at 1065 (by decide +kernel)), (TBg_at 1066 (by decide +kernel)), (TBg_at 74 (by decide +kernel)), (TBg_at 1067 (by decide +kernel)), (by decide +kernel), (by decide +kernel)⟩
theorem ck5J5_40 : CK RJ5 40 iJ0_coder_7d493 := ⟨(TBg_at 1077 (by decide +kernel)), (TBg_at 1065 (by decide +kernel)), (TBg_at 1066 (by decide +kernel)), (TBg_at 74 (by decide +kernel)), (TBg_at 1067 (by decide +kernel)), (by decide +kernel), (by decide +kernel)⟩
theorem cu5J5_397 : CUW RJ5 397 iJ5_inflateIfNeededFor_a7421 := ⟨(TBg_at 1073 (by decide +kernel)), (TBg_at 2058 (by decide +kernel)), (TBg_at 1075 (by decide +kernel)), (TBg_at 72 (by decide +kernel)), (TBg_at 1076 (by decide +kernel)), rfl, (by decide +kernel), Or.inr (by decide +kernel)⟩
theorem ck5J5_399 : CK RJ5 399 iJ0_getBytes_840e7 := ⟨(TBg_at 1097 (by decide +kernel)), (TBg_at 1098 (by decide +kernel)), (TBg_at 1099 (by decide +kernel)), (TBg_at 74 (by decide +kernel)), (TBg_at 1100 (by decide +kernel)), (by decide +kernel), (by decide +kernel)⟩
theorem ck5J5_32 : CK RJ5 32 iJ0_length_8abf5 := ⟨(TBg_at 1060 (by decide +kernel)), (TBg_at 1061 (by decide +kernel)), (TBg_at 1062 (by decide +kernel)), (TBg_at 74 (by decide +kernel)), (TBg_at 1063 (by decide +kernel)), (by decide +kernel), (by decide +kernel)⟩
theorem cu5J5_208 : CUW RJ5 208 iJ5_putStringAt_47b60 := ⟨(TBg_at 1069 (by decide +kernel)), (TBg_at 2057 (by decide +kernel)), (TBg_at 1071 (by decide +kernel)), (TBg_at 72 (by decide +kernel)), (TBg_at 1072 (by decide +kernel)), rfl, (by decide +kernel), Or.inr (by decide +kernel)⟩
theorem su5J4_29 : CSU RJ4 29 iJ5_append_cf1ce := ⟨(TBg_at 993 (by decide +kernel)), (TBg_at 2053 (by decide +kernel)), (TBg_at 385 (by decide +kernel)), (TBg_at 994 (by decide +kernel)), (TBg_at 72 (by decide +kernel)), (TBg_at 995 (by decide +kernel)), (by decide +kernel)⟩
theorem su5J4_333 : CSU RJ4 333 iJ5_setLength_d00df := ⟨(TBg_at 1372 (by decide +kernel)), (TBg_at 2061 (by decide +kernel)), (TBg_at 385 (by decide +kernel)), (TBg_at 1373 (by decide +kernel)), (TBg_at 72 (by decide +kernel)), (TBg_at 1374 (by decide +kernel)), (by decide +kernel)⟩
theorem su5J4_343 : CSU RJ4 343 iJ5_length_8abf5 := ⟨(TBg_at 1153 (by decide +kernel)), (TBg_at 1149 (by decide +kernel)), (TBg_at 385 (by decide +kernel)), (TBg_at 1148 (by decide +kernel)), (TBg_at 72 (by decide +kernel)), (TBg_at 1154 (by decide +kernel)), (by decide +kernel)⟩
theorem cs5J5_138 : CS RJ5 138 iJ9_min1 := ⟨(TBg_at 1455 (by decide +kernel)), (TBg_at 700 (by decide +kernel)), (TBg_at 84 (by decide +kernel)), (TBg_at 701 (by decide +kernel)), (by decide +kernel), (by decide +kernel)⟩
theorem cs5J5_144 : CS RJ5 144 iJ0_checkIndex_df160 := ⟨(TBg_at 1456 (by decide +kernel)), (TBg_at 1421 (by decide +kernel)), (TBg_at 74 (by decide +kernel)), (TBg_at 1422 (by decide +kernel)), (by decide +kernel), (by decide +kernel)⟩
theorem su5J4_329 : CSU RJ4 329 iJ5_charAt_5068e := ⟨(TBg_at 1452 (by decide +kernel)), (TBg_at 2064 (by decide +kernel)), (TBg_at 385 (by decide +kernel)), (TBg_at 1453 (by decide +kernel)), (TBg_at 72 (by decide +kernel)), (TBg_at 1454 (by decide +kernel)), (by decide +kernel)⟩
theorem ck5X10_282 : CK RX10 282 iJ4_setLength_d00df := ⟨(TBg_at 1368 (by decide +kernel)), (TBg_at 1369 (by decide +kernel)), (TBg_at 1370 (by decide +kernel)), (TBg_at 73 (by decide +kernel)), (TBg_at 1371 (by decide +kernel)), (by decide +kernel), (by decide +kernel)⟩
theorem ck5X10_286 : CK RX10 286 iJ4_append_cf468 := ⟨(TBg_at 1404 (by decide +kernel)), (TBg_at 1405 (by decide +kernel)), (TBg_at 1406 (by decide +kernel)), (TBg_at 73 (by decide +kernel)), (TBg_at 1407 (by decide +kernel)), (by decide +kernel), (by decide +kernel)⟩
theorem ck5X10_290 : CK RX10 290 iJ4_append_bf812 := ⟨(TBg_at 1426 (by decide +kernel)), (TBg_at 1104 (by decide +kernel)), (TBg_at 1105 (by decide +kernel)), (TBg_at 73 (by decide +kernel)), (TBg_at 1106 (by decide +kernel)), (by decide +kernel), (by decide +kernel)⟩
theorem ck5X10_295 : CK RX10 295 iJ4_append_15ec4 := ⟨(TBg_at 1428 (by decide +kernel)), (TBg_at 990 (by decide +kernel)), (TBg_at 991 (by decide +kernel)), (TBg_at 73 (by decide +kernel)), (TBg_at 992 (by decide +kernel)), (by decide +kernel), (by decide +kernel)⟩
theorem ck5X10_308 : CK RX10 308 iJ4_length_8abf5 := ⟨(TBg_at 1439 (by decide +kernel)), (TBg_at 1151 (by decide +kernel)), (TBg_at 2063 (by decide +kernel)), (TBg_at 73 (by decide +kernel)), (TBg_at 1152 (by decide +kernel)), (by decide +kernel), (by decide +kernel)⟩
theorem ck5X10_317 : CK RX10 317 iJ4_charAt_5068e := ⟨(TBg_at 1448 (by decide +kernel)), (TBg_at 1449 (by decide +kernel)), (TBg_at 1450 (by decide +kernel)), (TBg_at 73 (by decide +kernel)), (TBg_at 1451 (by decide +kernel)), (by decide +kernel), (by decide +kernel)⟩
