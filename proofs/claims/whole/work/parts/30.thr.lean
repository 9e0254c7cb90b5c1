theorem zz1 : ∀ w ∈ vx_atS RX9 82 "java/lang/IllegalStateException" ["java/lang/RuntimeException", "java/lang/Exception"], w ∈ lw2 := by decide +kernel
theorem zz2 : (vx_atS RX9 82 "java/lang/IllegalStateException" ["java/lang/RuntimeException", "java/lang/Exception"]).all osOt = true := by decide +kernel
theorem zz3 : ((vx_atS RX9 82 "java/lang/IllegalStateException" ["java/lang/RuntimeException", "java/lang/Exception"]).filter (fun w => !osOt w)).length = 0 := by decide +kernel
