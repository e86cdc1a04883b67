set_option maxRecDepth 100000 in
theorem yStD : yStOk true 36 5 = true := by decide +kernel
