theorem mjc_0 : mjChM 0 = true := by decide +kernel
theorem mjc_17 : mjChM 17 = true := by decide +kernel
theorem mjc_51 : mjChM 51 = true := by decide +kernel
theorem mjc_95 : mjChM 95 = true := by decide +kernel
theorem mjc_100 : mjChM 100 = true := by decide +kernel
theorem mjc_138 : mjChM 138 = true := by decide +kernel
theorem mjc_149 : mjChM 149 = true := by decide +kernel
theorem mjc_203 : mjChM 203 = true := by decide +kernel
