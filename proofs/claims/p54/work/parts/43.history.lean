/-! THE HISTORY -/
theorem xp_rem {K : List (Nat × List Value)} {Z : List Value} {d nL : Nat} {hs : List (Nat × Nat × Nat × Nat)} {code cs : List xE} {loc : xL} {st : List Value} {P : xA → xH → Prop} {pc ln : Nat} {aux : List Nat} {x y : Int32} {h : xH} (hy : y ≠ 0) (hb : xBp K Z d nL hs code cs loc (.int (x - x / y * y) :: st) h P) : xBp K Z d nL hs code ((pc, .irem, ln, aux) :: cs) loc (.int y :: .int x :: st) h P :=
  xp_step (show xiz (fun x y => x - x / y * y) loc (.int y :: .int x :: st) h = _ by unfold xiz; dsimp only; rw [decide_eq_false hy]; rfl) hb
def xNx (N : Nat → Nat → Int32) : Nat := (N 58 1).toNatClampNeg
theorem xrow_in : ∀ k, k < 9 → 60 + 19 * k ∈ xRbs ∧ (1 : Nat) ≠ 60 + 19 * k := by decide
theorem xwin9 {x : Int32} (h : xwin x 0 8 = true) : xin x 9 = true ∧ x.toNatClampNeg < 9 := by
  unfold xwin at h
  simp only [Bool.and_eq_true, decide_eq_true_eq] at h
  have h1 : x.toNatClampNeg < 9 := by
    have a := Int32.le_iff_toInt_le.mp h.1
    have b := Int32.le_iff_toInt_le.mp h.2
    have c : (0 : Int32).toInt = 0 := rfl
    have d : (8 : Int32).toInt = 8 := rfl
    rw [c] at a
    rw [d] at b
    show x.toInt.toNat < 9
    omega
  refine ⟨?_, h1⟩
  unfold xin
  rw [decide_eq_true h.1, decide_eq_true h1]
  rfl
/-- the rule's sign of a river's reaches is a char -/
def xrul (N : Nat → Nat → Int32) (w : Nat) : Prop := ∀ r, r < 8 → 0 ≤ N (w + 3 + r) 8 ∧ N (w + 3 + r) 8 ≤ 65535
def xinc9 (x : Int32) : Int32 := x + 1 - (x + 1) / 9 * 9
def xdec9 (x : Int32) : Int32 := x + 9 - 1 - (x + 9 - 1) / 9 * 9
def xNconf (N : Nat → Nat → Int32) : Nat → Nat → Int32 := xupN (xupN N 58 1 (xinc9 (N 58 1))) 58 2 (xmin (N 58 2 + 1) 8)
def xNtake (N : Nat → Nat → Int32) : Nat → Nat → Int32 := xupN (xupN N 58 1 (xdec9 (N 58 1))) 58 2 (N 58 2 - 1)
section XHI
variable {K : List (Nat × List Value)} {Z : List Value} {pre g : xH} {B L : Nat} {N : Nat → Nat → Int32} {C : Nat → Nat}
theorem xs_nextRow (hB : xBok pre B) (hx : xwin (N 58 1) 0 8 = true) : xRn K Z 2 5 [.ref (B + 58)] (xHn pre B N C L g) (.ok (some (.ref (B + (60 + 19 * xNx N))))) (xHn pre B N C L g) := by
  have hx9 := xwin9 hx
  refine xRp_eq (xRp_of (m := (yX3_nextRow, cX3_nextRow, 1, (some (.object "RiverReaches$River")), [], [], xcX3_nextRow)) rfl (by show 1 ≤ 1; decide) ?_)
  show xBp K Z 1 1 [] xcX3_nextRow xcX3_nextRow [(0, .ref (B + 58))] [] _ _
  refine xp_step rfl ?_
  refine xp_ref hB (i := 58) (k := 0) (q := 59) (by decide) rfl (by decide) rfl ?_
  refine xp_step rfl ?_
  refine xp_get hB (i := 58) (k := 1) (by decide) rfl (by decide) (by decide) ?_
  refine xp_step rfl ?_
  refine xp_step rfl ?_
  refine xp_callR rfl (xR_up (by decide) (xs_within _ (N 58 1) 0 8)) ?_
  rw [hx]
  refine xp_if1 rfl (fun q1 => absurd q1 (by decide)) (fun _ => ?_)
  refine xp_step rfl ?_
  refine xp_get hB (i := 58) (k := 1) (by decide) rfl (by decide) (by decide) ?_
  refine xp_jump rfl ?_
  refine xp_aald hB (i := 59) (by decide) (show xKd 59 = (50 + 6, 9) from rfl) (by decide) hx9.1 rfl ?_
  exact xp_ret rfl ⟨fun v q => by cases q; rfl, rfl, rfl⟩
theorem xs_note (hB : xBok pre B) (hx : xwin (N 58 1) 0 8 = true) (hr : xrul N 1) : xRn K Z 3 6 [.ref (B + 58), .ref (B + 1)] (xHn pre B N C L g) (.ok none) (xHn pre B (xNcopy N (60 + 19 * xNx N) 1) C L g) := by
  have hrm := xrow_in (xNx N) (xwin9 hx).2
  have hm1 : 1 ∈ xRbs := by decide
  have hwl := (xrb_river _ hrm.1).2.2.2.1
  refine xRp_eq (xRp_of (m := (yX3_note, cX3_note, 2, none, [], [], xcX3_note)) rfl (by show 2 ≤ 2; decide) ?_)
  show xBp K Z 2 2 [] xcX3_note xcX3_note [(0, .ref (B + 58)), (1, .ref (B + 1))] [] _ _
  refine xp_step rfl ?_
  refine xp_virt (i := 58) hB (by first | decide | omega) rfl rfl (Nat.le_of_ble_eq_true rfl) rfl (xR_up (by decide) (xs_nextRow hB hx)) ?_
  refine xp_step rfl ?_
  refine xp_virt (i := 60 + 19 * xNx N) hB (by first | decide | omega) (xrb_river _ hrm.1).1 rfl (Nat.le_of_ble_eq_true rfl) rfl (xR_up (by decide) (xs_copy hB hrm.1 hm1 hrm.2.symm hr)) ?_
  exact xp_ret rfl ⟨fun v q => by cases q; rfl, rfl, rfl⟩
theorem xs_putBack (hB : xBok pre B) (hx : xwin (N 58 1) 0 8 = true) (hr : xrul N (60 + 19 * xNx N)) : xRn K Z 3 8 [.ref (B + 58), .ref (B + 1)] (xHn pre B N C L g) (.ok none) (xHn pre B (xNcopy N 1 (60 + 19 * xNx N)) C L g) := by
  have hrm := xrow_in (xNx N) (xwin9 hx).2
  have hm1 : 1 ∈ xRbs := by decide
  refine xRp_eq (xRp_of (m := (yX3_putBack, cX3_putBack, 2, none, [], [], xcX3_putBack)) rfl (by show 2 ≤ 2; decide) ?_)
  show xBp K Z 2 2 [] xcX3_putBack xcX3_putBack [(0, .ref (B + 58)), (1, .ref (B + 1))] [] _ _
  refine xp_step rfl ?_
  refine xp_step rfl ?_
  refine xp_virt (i := 58) hB (by first | decide | omega) rfl rfl (Nat.le_of_ble_eq_true rfl) rfl (xR_up (by decide) (xs_nextRow hB hx)) ?_
  refine xp_virt (i := 1) hB (by first | decide | omega) (xrb_river _ hm1).1 rfl (Nat.le_of_ble_eq_true rfl) rfl (xR_up (by decide) (xs_copy hB hm1 hrm.1 hrm.2 hr)) ?_
  exact xp_ret rfl ⟨fun v q => by cases q; rfl, rfl, rfl⟩
theorem xs_forget (hB : xBok pre B) : xRn K Z 1 10 [.ref (B + 58)] (xHn pre B N C L g) (.ok none) (xHn pre B (xupN N 58 2 0) C L g) := by
  refine xRp_eq (xRp_of (m := (yX3_forgetAll, cX3_forgetAll, 1, none, [], [], xcX3_forgetAll)) rfl (by show 1 ≤ 1; decide) ?_)
  show xBp K Z 0 1 [] xcX3_forgetAll xcX3_forgetAll [(0, .ref (B + 58))] [] _ _
  refine xp_step rfl ?_
  refine xp_step rfl ?_
  refine xp_put hB (i := 58) (k := 2) (by decide) rfl (by decide) (by decide) rfl ?_
  exact xp_ret rfl ⟨fun v q => by cases q; rfl, rfl, rfl⟩
theorem xs_confirm (hB : xBok pre B) : xRn K Z 2 7 [.ref (B + 58)] (xHn pre B N C L g) (.ok none) (xHn pre B (xNconf N) C L g) := by
  have e2 : xupN N 58 1 (xinc9 (N 58 1)) 58 2 = N 58 2 := by simp [xupN]
  refine xRp_eq (xRp_of (m := (yX3_confirm, cX3_confirm, 1, none, [], [], xcX3_confirm)) rfl (by show 1 ≤ 1; decide) ?_)
  show xBp K Z 1 1 [] xcX3_confirm xcX3_confirm [(0, .ref (B + 58))] [] _ _
  refine xp_step rfl ?_
  refine xp_step rfl ?_
  refine xp_get hB (i := 58) (k := 1) (by decide) rfl (by decide) (by decide) ?_
  refine xp_step rfl ?_
  refine xp_step rfl ?_
  refine xp_step rfl ?_
  refine xp_rem (by decide) ?_
  refine xp_put (x := xinc9 (N 58 1)) hB (i := 58) (k := 1) (by decide) rfl (by decide) (by decide) rfl ?_
  refine xp_step rfl ?_
  refine xp_step rfl ?_
  refine xp_get hB (i := 58) (k := 2) (by decide) rfl (by decide) (by decide) ?_
  rw [e2]
  refine xp_step rfl ?_
  refine xp_step rfl ?_
  refine xp_step rfl ?_
  refine xp_callR rfl (xs_min _ (N 58 2 + 1) 8) ?_
  refine xp_put hB (i := 58) (k := 2) (by decide) rfl (by decide) (by decide) rfl ?_
  exact xp_ret rfl ⟨fun v q => by cases q; rfl, rfl, rfl⟩
theorem xs_takeBack (hB : xBok pre B) (hx : xwin (xNtake N 58 1) 0 8 = true) (hr : xrul (xNtake N) (60 + 19 * xNx (xNtake N))) : xRn K Z 3 9 [.ref (B + 58), .ref (B + 1)] (xHn pre B N C L g) (.ok none) (xHn pre B (xNcopy (xNtake N) 1 (60 + 19 * xNx (xNtake N))) C L g) := by
  have e2 : xupN N 58 1 (xdec9 (N 58 1)) 58 2 = N 58 2 := by simp [xupN]
  have hrm := xrow_in (xNx (xNtake N)) (xwin9 hx).2
  have hm1 : 1 ∈ xRbs := by decide
  refine xRp_eq (xRp_of (m := (yX3_takeBack, cX3_takeBack, 2, none, [], [], xcX3_takeBack)) rfl (by show 2 ≤ 2; decide) ?_)
  show xBp K Z 2 2 [] xcX3_takeBack xcX3_takeBack [(0, .ref (B + 58)), (1, .ref (B + 1))] [] _ _
  refine xp_step rfl ?_
  refine xp_step rfl ?_
  refine xp_get hB (i := 58) (k := 1) (by decide) rfl (by decide) (by decide) ?_
  refine xp_step rfl ?_
  refine xp_step rfl ?_
  refine xp_step rfl ?_
  refine xp_step rfl ?_
  refine xp_step rfl ?_
  refine xp_rem (by decide) ?_
  refine xp_put (x := xdec9 (N 58 1)) hB (i := 58) (k := 1) (by decide) rfl (by decide) (by decide) rfl ?_
  refine xp_step rfl ?_
  refine xp_step rfl ?_
  refine xp_get hB (i := 58) (k := 2) (by decide) rfl (by decide) (by decide) ?_
  rw [e2]
  refine xp_step rfl ?_
  refine xp_step rfl ?_
  refine xp_put (x := N 58 2 - 1) hB (i := 58) (k := 2) (by decide) rfl (by decide) (by decide) rfl ?_
  change xBp K Z 2 2 [] xcX3_takeBack _ _ _ (xHn pre B (xNtake N) C L g) _
  refine xp_step rfl ?_
  refine xp_step rfl ?_
  refine xp_virt (i := 58) hB (by decide) rfl rfl (Nat.le_of_ble_eq_true rfl) rfl (xs_nextRow hB hx) ?_
  refine xp_virt (i := 1) hB (by decide) rfl rfl (Nat.le_of_ble_eq_true rfl) rfl (xs_copy hB hm1 hrm.1 hrm.2 hr) ?_
  exact xp_ret rfl ⟨fun v q => by cases q; rfl, rfl, rfl⟩
end XHI
