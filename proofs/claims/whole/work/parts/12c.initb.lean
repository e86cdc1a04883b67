theorem xi2_ptr : (decide (xR xg2 0 4 = some 2) && (decide (xR xg2 0 5 = some 11) && (xPo.all fun o => (List.range 90).all fun k => match xPtr o k with
  | some t => decide (xR xg2 o k = some t)
  | none => true))) = true := by decide +kernel
