theorem xi2_rounds3 : ((List.range 1024).all fun k => decide (xI xg2 84 (3072 + k) = 0)) = true := by decide +kernel
