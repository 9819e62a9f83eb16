/-! PIECES OF THE LAW'S FIRST PART, run by the kernel -/
theorem xseg6 : (match xrs (xgo xMs xKo xZo 20 3000) 11 xKo xZo xcL_law 135 (xcL_law.drop 50) [(2, .int 17), (1, .ref 0), (0, .ref 1000000)] [] xEh6 with
  | some (cs, l, h) => decide (cs.length = 320) && (decide (l = [(2, .int 26), (1, .ref 0), (0, .ref 1000000)]) && decide (h = xEh7))
  | none => false) = true := by decide +kernel
theorem xseg7 : (match xrs (xgo xMs xKo xZo 20 3000) 11 xKo xZo xcL_law 135 (xcL_law.drop 50) [(2, .int 26), (1, .ref 0), (0, .ref 1000000)] [] xEh7 with
  | some (cs, l, h) => decide (cs.length = 320) && (decide (l = [(2, .int 35), (1, .ref 0), (0, .ref 1000000)]) && decide (h = xEh8))
  | none => false) = true := by decide +kernel
theorem xseg8 : (match xrs (xgo xMs xKo xZo 20 3000) 11 xKo xZo xcL_law 135 (xcL_law.drop 50) [(2, .int 35), (1, .ref 0), (0, .ref 1000000)] [] xEh8 with
  | some (cs, l, h) => decide (cs.length = 320) && (decide (l = [(2, .int 44), (1, .ref 0), (0, .ref 1000000)]) && decide (h = xEh9))
  | none => false) = true := by decide +kernel
theorem xseg9 : (match xrs (xgo xMs xKo xZo 20 3000) 11 xKo xZo xcL_law 135 (xcL_law.drop 50) [(2, .int 44), (1, .ref 0), (0, .ref 1000000)] [] xEh9 with
  | some (cs, l, h) => decide (cs.length = 320) && (decide (l = [(2, .int 53), (1, .ref 0), (0, .ref 1000000)]) && decide (h = xEh10))
  | none => false) = true := by decide +kernel
theorem xseg10n : (match xrs (xgo xMs xKo (xZ .null) 20 3000) 11 xKo (xZ .null) xcL_law 104 (xcL_law.drop 50) [(2, .int 53), (1, .ref 0), (0, .ref 1000000)] [] xEh10 with
  | some (cs, l, h) => decide (cs.length = 309) && (decide (l = [(2, .int 60), (1, .ref 0), (0, .ref 1000000)]) && decide (h = xEh11))
  | none => false) = true := by decide +kernel
theorem xseg10r : (match xrs (xgo xMs xKo (xZ (.ref 1999999)) 20 3000) 11 xKo (xZ (.ref 1999999)) xcL_law 104 (xcL_law.drop 50) [(2, .int 53), (1, .ref 0), (0, .ref 1000000)] [] xEh10 with
  | some (cs, l, h) => decide (cs.length = 309) && (decide (l = [(2, .int 60), (1, .ref 0), (0, .ref 1000000)]) && decide (h = xEh11))
  | none => false) = true := by decide +kernel
theorem xseg11n : (match xrs (xgo xMs xKo (xZ .null) 20 3000) 11 xKo (xZ .null) xcL_law 12 (xcL_law.drop 61) [(2, .int 60), (1, .ref 0), (0, .ref 1000000)] [] xEh11 with
  | some (cs, l, h) => decide (cs.length = 297) && (decide (l = [(2, .int 60), (1, .ref 0), (0, .ref 1000000)]) && decide (h = xEh12))
  | none => false) = true := by decide +kernel
theorem xseg11r : (match xrs (xgo xMs xKo (xZ (.ref 1999999)) 20 3000) 11 xKo (xZ (.ref 1999999)) xcL_law 12 (xcL_law.drop 61) [(2, .int 60), (1, .ref 0), (0, .ref 1000000)] [] xEh11 with
  | some (cs, l, h) => decide (cs.length = 297) && (decide (l = [(2, .int 60), (1, .ref 0), (0, .ref 1000000)]) && decide (h = xEh12))
  | none => false) = true := by decide +kernel
theorem xseg12 : (match xrs (xgo xMs xKo xZo 20 3000) 11 xKo xZo xcL_law 16 (xcL_law.drop 73) [(2, .int 60), (1, .ref 0), (0, .ref 1000000)] [] xEh12 with
  | some (cs, l, h) => decide (cs.length = 277) && (decide (l = [(2, .int 0), (1, .ref 0), (0, .ref 1000000)]) && decide (h = xEh13))
  | none => false) = true := by decide +kernel
theorem xseg13 : (match xrs (xgo xMs xKo xZo 20 3000) 11 xKo xZo xcL_law 12 (xcL_law.drop 93) [(2, .int 0), (1, .ref 0), (0, .ref 1000000)] [] xEh13 with
  | some (cs, l, h) => decide (cs.length = 277) && (decide (l = [(2, .int 1), (1, .ref 0), (0, .ref 1000000)]) && decide (h = xEh14))
  | none => false) = true := by decide +kernel
theorem xseg14 : (match xrs (xgo xMs xKo xZo 20 3000) 11 xKo xZo xcL_law 12 (xcL_law.drop 93) [(2, .int 1), (1, .ref 0), (0, .ref 1000000)] [] xEh14 with
  | some (cs, l, h) => decide (cs.length = 277) && (decide (l = [(2, .int 2), (1, .ref 0), (0, .ref 1000000)]) && decide (h = xEh15))
  | none => false) = true := by decide +kernel
