/-! UNDO AND RESTORE BY THE LAW'S WRAPPERS -/
section XWF
variable {K : List (Nat × List Value)} {Z : List Value} {pre g : xH} {B L : Nat} {N : Nat → Nat → Int32} {C : Nat → Nat}
theorem xl_undoE (hB : xBok pre B) (h0 : N 58 2 = 0) (hg : B + 253 + g.length < 1000000) : xRn K Z 2 235 [.ref (B + 0)] (xHn pre B N C L g) (.ok (some (.int (-1001)))) (xHn pre B N C L (xgx g)) :=
  xw_undo hB (xo_undoE_ (K := K) (Z := Z) hB h0 hg) (Or.inr ⟨_, rfl, rfl⟩)
theorem xl_undo (hB : xBok pre B) (h0 : ¬ N 58 2 = 0) (hx : xwin (xNtake N 58 1) 0 8 = true) (hr : xrul (xNtake N) (60 + 19 * xNx (xNtake N))) : xRn K Z 5 235 [.ref (B + 0)] (xHn pre B N C L g) (.ok (some (.int (N 58 2 - 1)))) (xHn pre B (xNcopy (xNtake N) 1 (60 + 19 * xNx (xNtake N))) C L g) :=
  xw_undo hB (xo_undo_ (K := K) (Z := Z) hB h0 hx hr) (Or.inl rfl)
theorem xl_restoreE (hB : xBok pre B) (h0 : N 0 7 = 0) (hg : B + 253 + g.length < 1000000) : xRn K Z 2 236 [.ref (B + 0)] (xHn pre B N C L g) (.ok (some (.int (-1001)))) (xHn pre B N C L (xgx g)) :=
  xw_restore hB (xo_restoreE_ (K := K) (Z := Z) hB h0 hg) (Or.inr ⟨_, rfl, rfl⟩)
theorem xl_restore (hB : xBok pre B) (h0 : ¬ N 0 7 = 0) (hr : xrul N 39) : xRn K Z 4 236 [.ref (B + 0)] (xHn pre B N C L g) (.ok (some (.int (N 39 2)))) (xHn pre B (xupN (xNcopy N 1 39) 58 2 0) C L g) :=
  xw_restore hB (xo_restore_ (K := K) (Z := Z) hB h0 hr) (Or.inl rfl)
end XWF
