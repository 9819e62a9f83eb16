/-! PIECES OF THE LAW'S FIRST PART, run by the kernel -/
theorem xseg25 : (match xrs (xgo xMs xKo xZo 20 3000) 11 xKo xZo xcL_law 8 (xcL_law.drop 144) [(2, .int 8), (1, .ref 0), (0, .ref 1000000)] [] xEh25 with
  | some (cs, l, h) => decide (cs.length = 216) && (decide (l = [(2, .int 8), (1, .ref 0), (0, .ref 1000000)]) && decide (h = xEh26))
  | none => false) = true := by decide +kernel
theorem xseg26 : (match xrs (xgo xMs xKo xZo 20 3000) 11 xKo xZo xcL_law 8 (xcL_law.drop 154) [(2, .int 8), (1, .ref 0), (0, .ref 1000000)] [] xEh26 with
  | some (cs, l, h) => decide (cs.length = 208) && (decide (l = [(2, .int 8), (1, .ref 0), (0, .ref 1000000)]) && decide (h = xEh27))
  | none => false) = true := by decide +kernel
theorem xseg27 : (match xrs (xgo xMs xKo xZo 20 3000) 11 xKo xZo xcL_law 11 (xcL_law.drop 162) [(2, .int 8), (1, .ref 0), (0, .ref 1000000)] [] xEh27 with
  | some (cs, l, h) => decide (cs.length = 197) && (decide (l = [(2, .int 8), (1, .ref 0), (0, .ref 1000000)]) && decide (h = xEh28))
  | none => false) = true := by decide +kernel
theorem xseg28 : (match xrs (xgo xMs xKo xZo 20 3000) 11 xKo xZo xcL_law 8 (xcL_law.drop 173) [(2, .int 8), (1, .ref 0), (0, .ref 1000000)] [] xEh28 with
  | some (cs, l, h) => decide (cs.length = 189) && (decide (l = [(2, .int 8), (1, .ref 0), (0, .ref 1000000)]) && decide (h = xEh29))
  | none => false) = true := by decide +kernel
theorem xseg29 : (match xrs (xgo xMs xKo xZo 20 3000) 11 xKo xZo xcL_law 10 (xcL_law.drop 181) [(2, .int 8), (1, .ref 0), (0, .ref 1000000)] [] xEh29 with
  | some (cs, l, h) => decide (cs.length = 179) && (decide (l = [(2, .int 8), (1, .ref 0), (0, .ref 1000000)]) && decide (h = xEh30))
  | none => false) = true := by decide +kernel
theorem xseg30 : (match xrs (xgo xMs xKo xZo 20 3000) 11 xKo xZo xcL_law 8 (xcL_law.drop 191) [(2, .int 8), (1, .ref 0), (0, .ref 1000000)] [] xEh30 with
  | some (cs, l, h) => decide (cs.length = 171) && (decide (l = [(2, .int 8), (1, .ref 0), (0, .ref 1000000)]) && decide (h = xEh31))
  | none => false) = true := by decide +kernel
theorem xseg31 : (match xrs (xgo xMs xKo xZo 20 3000) 11 xKo xZo xcL_law 4 (xcL_law.drop 199) [(2, .int 8), (1, .ref 0), (0, .ref 1000000)] [] xEh31 with
  | some (cs, l, h) => decide (cs.length = 167) && (decide (l = [(2, .int 8), (1, .ref 0), (0, .ref 1000000)]) && decide (h = xEh32))
  | none => false) = true := by decide +kernel
theorem xseg32 : (match xrs (xgo xMs xKo xZo 20 3000) 11 xKo xZo xcL_law 3 (xcL_law.drop 203) [(2, .int 8), (1, .ref 0), (0, .ref 1000000)] [] xEh32 with
  | some (cs, l, h) => decide (cs.length = 164) && (decide (l = [(2, .int 8), (1, .ref 0), (0, .ref 1000000)]) && decide (h = xEh33))
  | none => false) = true := by decide +kernel
theorem xseg33 : (match xrs (xgo xMs xKo xZo 20 3000) 11 xKo xZo xcL_law 15 (xcL_law.drop 206) [(2, .int 8), (1, .ref 0), (0, .ref 1000000)] [] xEh33 with
  | some (cs, l, h) => decide (cs.length = 147) && (decide (l = [(2, .int 8), (1, .ref 0), (0, .ref 1000000)]) && decide (h = xEh34))
  | none => false) = true := by decide +kernel
