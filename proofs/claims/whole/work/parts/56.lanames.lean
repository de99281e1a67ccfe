theorem in0 : vp_in 0 1 := by unfold vp_in; decide
theorem nc_1 : ("java/lang/IllegalStateException", "java/lang/IllegalArgumentException") ∈ NCL := by decide +kernel
theorem nc_2 : ("java/lang/IllegalStateException", "java/lang/IndexOutOfBoundsException") ∈ NCL := by decide +kernel
theorem nc_3 : ("java/lang/IndexOutOfBoundsException", "java/lang/IllegalArgumentException") ∈ NCL := by decide +kernel
theorem nc_4 : ("java/lang/ArithmeticException", "java/lang/IllegalStateException") ∈ NCL := by decide +kernel
