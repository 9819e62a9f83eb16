/-! PIECES OF THE LAW'S FIRST PART, run by the kernel -/
theorem xseg15 : (match xrs (xgo xMs xKo xZo 20 3000) 11 xKo xZo xcL_law 12 (xcL_law.drop 93) [(2, .int 2), (1, .ref 0), (0, .ref 1000000)] [] xEh15 with
  | some (cs, l, h) => decide (cs.length = 277) && (decide (l = [(2, .int 3), (1, .ref 0), (0, .ref 1000000)]) && decide (h = xEh16))
  | none => false) = true := by decide +kernel
theorem xseg16 : (match xrs (xgo xMs xKo xZo 20 3000) 11 xKo xZo xcL_law 12 (xcL_law.drop 93) [(2, .int 3), (1, .ref 0), (0, .ref 1000000)] [] xEh16 with
  | some (cs, l, h) => decide (cs.length = 277) && (decide (l = [(2, .int 4), (1, .ref 0), (0, .ref 1000000)]) && decide (h = xEh17))
  | none => false) = true := by decide +kernel
theorem xseg17 : (match xrs (xgo xMs xKo xZo 20 3000) 11 xKo xZo xcL_law 12 (xcL_law.drop 93) [(2, .int 4), (1, .ref 0), (0, .ref 1000000)] [] xEh17 with
  | some (cs, l, h) => decide (cs.length = 277) && (decide (l = [(2, .int 5), (1, .ref 0), (0, .ref 1000000)]) && decide (h = xEh18))
  | none => false) = true := by decide +kernel
theorem xseg18 : (match xrs (xgo xMs xKo xZo 20 3000) 11 xKo xZo xcL_law 12 (xcL_law.drop 93) [(2, .int 5), (1, .ref 0), (0, .ref 1000000)] [] xEh18 with
  | some (cs, l, h) => decide (cs.length = 277) && (decide (l = [(2, .int 6), (1, .ref 0), (0, .ref 1000000)]) && decide (h = xEh19))
  | none => false) = true := by decide +kernel
theorem xseg19 : (match xrs (xgo xMs xKo xZo 20 3000) 11 xKo xZo xcL_law 12 (xcL_law.drop 93) [(2, .int 6), (1, .ref 0), (0, .ref 1000000)] [] xEh19 with
  | some (cs, l, h) => decide (cs.length = 277) && (decide (l = [(2, .int 7), (1, .ref 0), (0, .ref 1000000)]) && decide (h = xEh20))
  | none => false) = true := by decide +kernel
theorem xseg20 : (match xrs (xgo xMs xKo xZo 20 3000) 11 xKo xZo xcL_law 12 (xcL_law.drop 93) [(2, .int 7), (1, .ref 0), (0, .ref 1000000)] [] xEh20 with
  | some (cs, l, h) => decide (cs.length = 268) && (decide (l = [(2, .int 8), (1, .ref 0), (0, .ref 1000000)]) && decide (h = xEh21))
  | none => false) = true := by decide +kernel
theorem xseg21 : (match xrs (xgo xMs xKo xZo 20 3000) 11 xKo xZo xcL_law 9 (xcL_law.drop 102) [(2, .int 8), (1, .ref 0), (0, .ref 1000000)] [] xEh21 with
  | some (cs, l, h) => decide (cs.length = 259) && (decide (l = [(2, .int 8), (1, .ref 0), (0, .ref 1000000)]) && decide (h = xEh22))
  | none => false) = true := by decide +kernel
theorem xseg22 : (match xrs (xgo xMs xKo xZo 20 3000) 11 xKo xZo xcL_law 20 (xcL_law.drop 111) [(2, .int 8), (1, .ref 0), (0, .ref 1000000)] [] xEh22 with
  | some (cs, l, h) => decide (cs.length = 239) && (decide (l = [(2, .int 8), (1, .ref 0), (0, .ref 1000000)]) && decide (h = xEh23))
  | none => false) = true := by decide +kernel
theorem xseg23 : (match xrs (xgo xMs xKo xZo 20 3000) 11 xKo xZo xcL_law 5 (xcL_law.drop 131) [(2, .int 8), (1, .ref 0), (0, .ref 1000000)] [] xEh23 with
  | some (cs, l, h) => decide (cs.length = 234) && (decide (l = [(2, .int 8), (1, .ref 0), (0, .ref 1000000)]) && decide (h = xEh24))
  | none => false) = true := by decide +kernel
theorem xseg24 : (match xrs (xgo xMs xKo xZo 20 3000) 11 xKo xZo xcL_law 8 (xcL_law.drop 136) [(2, .int 8), (1, .ref 0), (0, .ref 1000000)] [] xEh24 with
  | some (cs, l, h) => decide (cs.length = 226) && (decide (l = [(2, .int 8), (1, .ref 0), (0, .ref 1000000)]) && decide (h = xEh25))
  | none => false) = true := by decide +kernel
