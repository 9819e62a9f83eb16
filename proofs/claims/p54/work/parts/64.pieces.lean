/-! PIECES OF THE LAW'S FIRST PART, run by the kernel -/
theorem xseg0 : (match xrs (xgo xMs xKo xZo 20 3000) 11 xKo xZo xcL_law 4 (xcL_law.drop 0) [(0, .ref 1000000)] [] xEh0 with
  | some (cs, l, h) => decide (cs.length = 366) && (decide (l = [(1, .ref 0), (0, .ref 1000000)]) && decide (h = xEh1))
  | none => false) = true := by decide +kernel
theorem xseg1 : (match xrs (xgo xMs xKo xZo 20 3000) 11 xKo xZo xcL_law 11 (xcL_law.drop 4) [(1, .ref 0), (0, .ref 1000000)] [] xEh1 with
  | some (cs, l, h) => decide (cs.length = 355) && (decide (l = [(1, .ref 0), (0, .ref 1000000)]) && decide (h = xEh2))
  | none => false) = true := by decide +kernel
theorem xseg2 : (match xrs (xgo xMs xKo xZo 20 3000) 11 xKo xZo xcL_law 4 (xcL_law.drop 15) [(1, .ref 0), (0, .ref 1000000)] [] xEh2 with
  | some (cs, l, h) => decide (cs.length = 351) && (decide (l = [(1, .ref 0), (0, .ref 1000000)]) && decide (h = xEh3))
  | none => false) = true := by decide +kernel
theorem xseg3 : (match xrs (xgo xMs xKo xZo 20 3000) 11 xKo xZo xcL_law 12 (xcL_law.drop 19) [(1, .ref 0), (0, .ref 1000000)] [] xEh3 with
  | some (cs, l, h) => decide (cs.length = 337) && (decide (l = [(1, .ref 0), (0, .ref 1000000)]) && decide (h = xEh4))
  | none => false) = true := by decide +kernel
theorem xseg4 : (match xrs (xgo xMs xKo xZo 20 3000) 11 xKo xZo xcL_law 135 (xcL_law.drop 33) [(1, .ref 0), (0, .ref 1000000)] [] xEh4 with
  | some (cs, l, h) => decide (cs.length = 320) && (decide (l = [(2, .int 8), (1, .ref 0), (0, .ref 1000000)]) && decide (h = xEh5))
  | none => false) = true := by decide +kernel
theorem xseg5 : (match xrs (xgo xMs xKo xZo 20 3000) 11 xKo xZo xcL_law 135 (xcL_law.drop 50) [(2, .int 8), (1, .ref 0), (0, .ref 1000000)] [] xEh5 with
  | some (cs, l, h) => decide (cs.length = 320) && (decide (l = [(2, .int 17), (1, .ref 0), (0, .ref 1000000)]) && decide (h = xEh6))
  | none => false) = true := by decide +kernel
