/-! PIECES OF THE LAW'S FIRST PART, run by the kernel -/
theorem xseg0 : xsgB (xrs (xgo xMs xKo xZo 20 3000) 11 xKo xZo xcL_law 4 (xcL_law.drop 0) [(0, .ref 1000000)] [] xEh0) 366 [(1, .ref 0), (0, .ref 1000000)] xEh1 = true := by decide +kernel
theorem xseg1 : xsgB (xrs (xgo xMs xKo xZo 20 3000) 11 xKo xZo xcL_law 11 (xcL_law.drop 4) [(1, .ref 0), (0, .ref 1000000)] [] xEh1) 355 [(1, .ref 0), (0, .ref 1000000)] xEh2 = true := by decide +kernel
theorem xseg2 : xsgB (xrs (xgo xMs xKo xZo 20 3000) 11 xKo xZo xcL_law 4 (xcL_law.drop 15) [(1, .ref 0), (0, .ref 1000000)] [] xEh2) 351 [(1, .ref 0), (0, .ref 1000000)] xEh3 = true := by decide +kernel
theorem xseg3 : xsgB (xrs (xgo xMs xKo xZo 20 3000) 11 xKo xZo xcL_law 12 (xcL_law.drop 19) [(1, .ref 0), (0, .ref 1000000)] [] xEh3) 337 [(1, .ref 0), (0, .ref 1000000)] xEh4 = true := by decide +kernel
theorem xseg4 : xsgB (xrs (xgo xMs xKo xZo 20 3000) 11 xKo xZo xcL_law 135 (xcL_law.drop 33) [(1, .ref 0), (0, .ref 1000000)] [] xEh4) 320 [(2, .int 8), (1, .ref 0), (0, .ref 1000000)] xEh5 = true := by decide +kernel
theorem xseg5 : xsgB (xrs (xgo xMs xKo xZo 20 3000) 11 xKo xZo xcL_law 135 (xcL_law.drop 50) [(2, .int 8), (1, .ref 0), (0, .ref 1000000)] [] xEh5) 320 [(2, .int 17), (1, .ref 0), (0, .ref 1000000)] xEh6 = true := by decide +kernel
