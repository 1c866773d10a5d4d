theorem mjc_0 : mjChM 0 = true := by decide +kernel
theorem mjc_1 : mjChM 1 = true := by decide +kernel
theorem mjy_0 : mjChY 0 = true := by decide +kernel
theorem mjy_17 : mjChY 17 = true := by decide +kernel
theorem mjy_31 : mjChY 31 = true := by decide +kernel
theorem mjy_50 : mjChY 50 = true := by decide +kernel
theorem mjcl_0 : mjChR 263 0 109 = true := by decide +kernel
theorem mjcl_109 : mjChR 263 109 109 = true := by decide +kernel
