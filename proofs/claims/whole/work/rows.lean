section
/-! The doubles of the mean: no NaN, and 1.0 times a number is the number. -/
theorem fp_ok {a : UInt64} (h : Jvm.FP.Core.val64 a ≠ .nan) : vf_n64 a := by
  have h1 := (Jvm.FP.Core.ne_nan a).mp h
  unfold vf_n64
  rw [UInt64.le_iff_toNat_le, UInt64.toNat_and]
  rw [show (0x7fffffffffffffff : UInt64).toNat = 2 ^ 63 - 1 by decide, Nat.and_two_pow_sub_one_eq_mod, show (0x7ff0000000000000 : UInt64).toNat = 9218868437227405312 by decide]
  exact h1
theorem fp_div {a n : Int32} (h : n ≠ 0) : vf_n64 (FP.ddiv (FP.i2d a) (FP.i2d n)) :=
  fp_ok ((Jvm.FP.Core.notNaN_iff _).mp (Jvm.FP.Core.ddiv_out ((Jvm.FP.Core.notNaN_iff _).mpr (Jvm.FP.Core.i2d_fin a).ne_nan) (Jvm.FP.Core.i2d_fin n) (fun hz => Jvm.FP.Core.i2d_ne_zero h ((Jvm.FP.Core.zero_bits2 _).mp hz))))
theorem fp_one (a : Int32) : FP.dmul FP.dconst1 (FP.i2d a) = FP.i2d a := (Jvm.FP.Core.dmul_comm _ _).trans (Jvm.FP.Core.dmul_one (Jvm.FP.Core.i2d_fin a).ne_nan)
theorem fp_i (a : Int32) : vf_n64 (FP.i2d a) := fp_ok (Jvm.FP.Core.i2d_fin a).ne_nan
end
