theorem ri_dL1728 : ri_da ri_r124 1728 36 = true := by decide +kernel
theorem ri_dL1764 : ri_da ri_r124 1764 32 = true := by decide +kernel
