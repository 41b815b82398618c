/-! ===== the law: bounds of codes ===== -/
theorem u32_nI (u : UInt32) : u.toInt32 = nI u.toNat := by
  apply Int32.toBitVec_inj.mp
  show u.toBitVec = BitVec.ofNat 32 u.toNat
  apply BitVec.eq_of_toNat_eq
  rw [BitVec.toNat_ofNat]
  exact (Nat.mod_eq_of_lt u.toNat_lt).symm
theorem i2c_nI (a : Int32) : (a.toUInt32 % 65536).toInt32 = nI (a.toUInt32.toNat % 65536) := by
  rw [u32_nI]
  congr 1
theorem opS_le {σ : Sg} {r : Nat × Nat × (Nat → Nat)} {m : Nat} (h : r.1 ≤ m) : (opS σ r).1 ≤ m := by
  unfold opS
  split
  · exact Nat.zero_le _
  · exact h
section BD
variable {a : Nat → Nat}
theorem sRof_le (w : Int32) : (sRof a w).1 ≤ 1 := by
  unfold sRof
  repeat' split
  all_goals simp
theorem sPlc_le (p : Int32) (b : Bool) : (sPlc a p b).1 ≤ 1 := by
  unfold sPlc
  repeat' split
  all_goals simp
theorem sTel_le (o : Option Nat) (w : Nat) : (sTel a o w).1 ≤ 1 := by
  unfold sTel
  repeat' split
  all_goals simp
theorem sInt_le (o : Option Nat) : (sInt a o).1 ≤ 1 := by
  unfold sInt
  repeat' split
  all_goals simp
theorem sDbA_le (o : Option Nat) (d : Int32) : (sDbA a o d).1 ≤ 2 := by
  unfold sDbA
  repeat' split
  all_goals simp
theorem sBof_le (o : Option Nat) (d : Int32) : (sBof a o d).1 ≤ 2 := by
  unfold sBof
  repeat' split
  all_goals simp
theorem sByr_le (o : Option Nat) : (sByr a o).1 ≤ 1 := by
  unfold sByr
  repeat' split
  all_goals simp
theorem sPrc_le (o : Option Nat) : (sPrc a o).1 ≤ 1 := by
  unfold sPrc
  repeat' split
  all_goals simp
theorem sDOf_le (p : Int32) : (sDOf a p).1 ≤ 1 := by
  unfold sDOf
  repeat' split
  all_goals simp
theorem sMos_le (p q : Int32) : (sMos a p q).1 ≤ 1 := by
  unfold sMos
  repeat' split
  all_goals simp
theorem sDtF_le  : (sDtF a).1 ≤ 1 := by
  unfold sDtF
  repeat' split
  all_goals simp
theorem sByD_le (p : Int32) : (sByD a p).1 ≤ 1 := by
  unfold sByD
  repeat' split
  all_goals simp
theorem sEvB_le (o : Option Nat) : (sEvB a o).1 ≤ 1 := by
  unfold sEvB
  repeat' split
  all_goals simp
theorem sEp_le (o : Option Nat) : (sEp o).1 ≤ 1 := by
  unfold sEp
  repeat' split
  all_goals simp
theorem sSl_le (ln : List Nat) (p : Int32) : (sSl ln p).1 ≤ 1 := by
  unfold sSl
  repeat' split
  all_goals simp
theorem sTyp_le (σ : Sg) (c : Nat) : (sTyp σ c).1 ≤ 2 := by
  unfold sTyp
  repeat' split
  all_goals simp
theorem sUnd_le (σ : Sg) : (sUnd σ).1 ≤ 1 := by
  unfold sUnd
  repeat' split
  all_goals simp
theorem sRes_le (σ : Sg) : (sRes σ).1 ≤ 1 := by
  unfold sRes
  repeat' split
  all_goals simp
theorem sExe_le (σ : Sg) : (sExe σ).1 ≤ 2 := by
  unfold sExe
  repeat' split
  all_goals simp
theorem sSlp_le {σ : Sg} (t : Int32) : (sSlp σ t).1 ≤ 1 := by
  unfold sSlp
  split
  all_goals simp
end BD
