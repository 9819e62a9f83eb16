/-! EXECUTE'S SUCCESS AND FAILURE, AND THE WRAPPER'S THREE ANSWERS -/
section XEX2
variable {xs : List Int32} {z : Value} {pre g : xH} {B L : Nat} {N : Nat → Nat → Int32} {C : Nat → Nat}
theorem xo_exec2_ (hB : xBok pre B) (hz : z.category = 1) {p : Int32} {V : Nat → Nat → Option Int32} {C' : Nat → Nat} (hpar : xPar (xSig N) (N 231 2) 16 0 0 (fun _ _ => none) C = (-1, p, V, C')) (hx : xwin (xupN (xTxM N p V) 231 2 0 58 1) 0 8 = true) (hr : xrul (xupN (xTxM N p V) 231 2 0) 1) (hg : B + 253 + g.length < 1000000) {cnt : Nat} (hcnt : cnt ≤ 16) (hC : ∀ n, n < cnt → 1 ≤ C' (234 + n) ∧ C' (234 + n) ≤ 9) (h4 : xNn (xupN (xTxM N p V) 231 2 0) 231 4 = Int32.ofNat cnt) {M2 : Nat → Nat → Int32} {i : Nat} {ans : Int32} (hx2 : xwin (xNfail M2 (Int32.ofNat i) (M2 (234 + i) 2) ans 58 1) 0 8 = true) (hr2 : xrul (xNfail M2 (Int32.ofNat i) (M2 (234 + i) 2) ans) (60 + 19 * xNx (xNfail M2 (Int32.ofNat i) (M2 (234 + i) 2) ans))) (he : xExc C' cnt 0 (xNn (xupN (xTxM N p V) 231 2 0)) = (some (i, ans), M2)) : xRn (xK xs) (xZ z) 9 98 [.ref (B + 0)] (xHn pre B N C L g) (.error (2, B + 253 + g.length)) (xHn pre B (xNcopy (xNfail M2 (Int32.ofNat i) (M2 (234 + i) 2) ans) 1 (60 + 19 * xNx (xNfail M2 (Int32.ofNat i) (M2 (234 + i) 2) ans))) C' L (xgx g)) := by
  refine xRp_eq (xRp_of (m := (yX9_execute, cX9_execute, 5, (some .int), [], [], xcX9_execute)) rfl (by show 1 ≤ 5; decide) ?_)
  show xBp (xK xs) (xZ z) 8 5 [] xcX9_execute xcX9_execute [(0, .ref (B + 0))] [] _ _
  exact xs_execB hB hz hpar hx hr (xs_exec2 hB hg hcnt hC hx2 hr2 cnt 0 _ (by omega) h4 he)
theorem xo_exec1_ (hB : xBok pre B) (hz : z.category = 1) {p : Int32} {V : Nat → Nat → Option Int32} {C' : Nat → Nat} (hpar : xPar (xSig N) (N 231 2) 16 0 0 (fun _ _ => none) C = (-1, p, V, C')) (hx : xwin (xupN (xTxM N p V) 231 2 0 58 1) 0 8 = true) (hr : xrul (xupN (xTxM N p V) 231 2 0) 1) (hg : B + 253 + g.length < 1000000) {cnt : Nat} (hcnt : cnt ≤ 16) (hC : ∀ n, n < cnt → 1 ≤ C' (234 + n) ∧ C' (234 + n) ≤ 9) (h4 : xNn (xupN (xTxM N p V) 231 2 0) 231 4 = Int32.ofNat cnt) {M2 : Nat → Nat → Int32} (he : xExc C' cnt 0 (xNn (xupN (xTxM N p V) 231 2 0)) = (none, M2)) : xRn (xK xs) (xZ z) 9 98 [.ref (B + 0)] (xHn pre B N C L g) (.ok (some (.int (M2 231 4)))) (xHn pre B (xNconf M2) C' L g) := by
  have e4 : xNconf M2 231 4 = M2 231 4 := by
    unfold xNconf xupN
    rw [if_neg (by omega), if_neg (by omega)]
  refine xRp_eq (xRp_of (m := (yX9_execute, cX9_execute, 5, (some .int), [], [], xcX9_execute)) rfl (by show 1 ≤ 5; decide) ?_)
  show xBp (xK xs) (xZ z) 8 5 [] xcX9_execute xcX9_execute [(0, .ref (B + 0))] [] _ _
  refine xs_execB hB hz hpar hx hr (xs_exec1 hB hg hcnt hC ?_ cnt 0 _ (by omega) h4 he)
  refine xp_step rfl ?_
  refine xp_ref hB (i := 0) (k := 3) (q := 58) (by decide) rfl (by decide) rfl ?_
  refine xp_virt (i := 58) hB (by decide) rfl rfl (Nat.le_of_ble_eq_true rfl) rfl (xR_up (by decide) (xs_confirm hB)) ?_
  refine xp_step rfl ?_
  refine xp_ref hB (i := 0) (k := 4) (q := 231) (by decide) rfl (by decide) rfl ?_
  refine xp_get hB (i := 231) (k := 4) (by decide) rfl (by decide) (by decide) ?_
  rw [e4]
  exact xp_ret rfl ⟨fun v q => by cases q; rfl, rfl, rfl⟩
end XEX2
