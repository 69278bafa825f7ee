/-! ## the constructors' run -/
theorem zR1_9 : zr9 zR1 1464 = true := by decide +kernel
