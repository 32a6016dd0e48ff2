theorem nar_c (x : Int32) : vp_nar .char x = x.toUInt32.toUInt16.toUInt32.toInt32 := rfl
theorem nar_idem (x : Int32) : vp_nar .char (vp_nar .char x) = vp_nar .char x := by
  rw [nar_c, nar_c]
  simp
  exact congrArg UInt32.toInt32 (UInt32.toNat_inj.mp (by rw [UInt32.toNat_mod, UInt32.toNat_mod]; exact Nat.mod_mod _ _))
