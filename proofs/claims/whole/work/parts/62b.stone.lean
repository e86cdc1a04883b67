set_option maxRecDepth 100000 in
theorem yStC : yStOk true 29 7 = true := by decide +kernel
