theorem fp_div {a n : Int32} (h : n ≠ 0) : vf_n64 (FP.ddiv (FP.i2d a) (FP.i2d n)) := sorry
theorem fp_one (a : Int32) : FP.dmul FP.dconst1 (FP.i2d a) = FP.i2d a := sorry
theorem fp_i (a : Int32) : vf_n64 (FP.i2d a) := sorry
