theorem zx_cast_IllegalArgumentException : Cond.castable "java/lang/IllegalArgumentException" "java/lang/IllegalArgumentException" ∈ lw_tbl := by decide +kernel
theorem zx_cast_IllegalStateException : Cond.castable "java/lang/IllegalStateException" "java/lang/IllegalStateException" ∈ lw_tbl := by decide +kernel
theorem zx_cast_ArithmeticException : Cond.castable "java/lang/ArithmeticException" "java/lang/ArithmeticException" ∈ lw_tbl := by decide +kernel
theorem zx_cast_NoSuchElementException : Cond.castable "java/util/NoSuchElementException" "java/util/NoSuchElementException" ∈ lw_tbl := by decide +kernel
