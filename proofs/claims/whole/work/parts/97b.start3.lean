/-! the start: what is fixed is there -/
theorem okX : chkX M149 = true := by decide +kernel
