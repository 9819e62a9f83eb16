/-! A RIVER: whether it has a reach, and the reach's row -/
def xhas (N : Nat → Nat → Int32) (w : Nat) (x : Int32) : Bool := decide (0 ≤ x) && (decide (x < N w 2) && decide (x < 8))
theorem xin8 {x : Int32} (h0 : 0 ≤ x) (h8 : x < 8) : xin x 8 = true ∧ x.toNatClampNeg < 8 := by
  have h1 : x.toNatClampNeg < 8 := by
    have a := Int32.le_iff_toInt_le.mp h0
    have b := Int32.lt_iff_toInt_lt.mp h8
    have c : (0 : Int32).toInt = 0 := rfl
    have d : (8 : Int32).toInt = 8 := rfl
    rw [c] at a
    rw [d] at b
    show x.toInt.toNat < 8
    omega
  refine ⟨?_, h1⟩
  unfold xin
  rw [decide_eq_true h0, decide_eq_true h1]
  rfl
theorem xHn_app {pre g : xH} {B L : Nat} {N : Nat → Nat → Int32} {C : Nat → Nat} {q : Nat × List Value} : xHn pre B N C L g ++ [q] = xHn pre B N C L (g ++ [q]) := by
  unfold xHn xHp
  rw [List.append_assoc, List.append_assoc]
theorem xHn_len {pre g : xH} {B L : Nat} {N : Nat → Nat → Int32} {C : Nat → Nat} (hB : xBok pre B) : (xHn pre B N C L g).length = B + 253 + g.length := by
  unfold xHn xHp
  rw [List.length_append, List.length_append, xLay_len, hB.1]
  omega
/-- an exception's cell -/
def xgx (g : xH) : xH := g ++ [(40, List.replicate 6 .null)]
section XRW
variable {K : List (Nat × List Value)} {Z : List Value} {pre g : xH} {B L : Nat} {N : Nat → Nat → Int32} {C : Nat → Nat}
theorem xs_has (hB : xBok pre B) {w : Nat} (hw : w ∈ xRbs) (x : Int32) : xRn K Z 1 23 [.ref (B + w), .int x] (xHn pre B N C L g) (.ok (some (.int (if xhas N w x = true then 1 else 0)))) (xHn pre B N C L g) := by
  obtain ⟨k1, -, -, k2, -, -, k3, -, -⟩ := xrb_river w hw
  have k4 : w < 253 := by omega
  refine xRp_eq (xRp_of (m := (yX7_hasReach, cX7_hasReach, 2, some .boolean, [], [], xcX7_hasReach)) rfl (Nat.le_refl _) ?_)
  show xBp K Z 0 2 [] xcX7_hasReach xcX7_hasReach [(0, .ref (B + w)), (1, .int x)] [] _ _
  repeat' (first
    | refine xp_get hB k4 k1 (by decide) (k3 _ (by decide) (by decide)) ?_
    | refine xp_if2 rfl (fun _ => ?_) (fun _ => ?_)
    | refine xp_if1 rfl (fun _ => ?_) (fun _ => ?_)
    | refine xp_ret rfl ?_
    | refine xp_step rfl ?_
    | refine xp_jump rfl ?_)
  all_goals refine ⟨fun v q => by cases q; rfl, congrArg (fun x => Except.ok (some (Value.int x))) ?_, rfl⟩
  all_goals unfold xhas
  all_goals simp_all [xic]
  all_goals simp only [Int32.le_iff_toInt_le, Int32.lt_iff_toInt_lt] at *
  all_goals omega
/-- the row of a reach, or the exception -/
theorem xs_row (hB : xBok pre B) {w : Nat} (hw : w ∈ xRbs) (x : Int32) (hg : B + 253 + g.length < 1000000) : xRn K Z 1 24 [.ref (B + w), .int x] (xHn pre B N C L g) (if xhas N w x = true then .ok (some (.ref (B + (w + 3 + x.toNatClampNeg)))) else .error (0, B + 253 + g.length)) (xHn pre B N C L (if xhas N w x = true then g else xgx g)) := by
  obtain ⟨k1, k1a, -, k2, k5, -, k3, k6, -⟩ := xrb_river w hw
  have k4 : w < 253 := by omega
  have k4a : w + 1 < 253 := by omega
  refine xRp_eq (xRp_of (m := (yX7_row, cX7_row, 2, some (.object "RiverReaches$Reach"), [], [], xcX7_row)) rfl (Nat.le_refl _) ?_)
  show xBp K Z 0 2 [] xcX7_row xcX7_row [(0, .ref (B + w)), (1, .int x)] [] _ _
  have bad : xhas N w x = false → xBp K Z 0 2 [] xcX7_row (xseek xcX7_row 18) [(0, .ref (B + w)), (1, .int x)] [] (xHn pre B N C L g) (fun r h' => (∀ v, r = .ok v → xrfit (some (.object "RiverReaches$Reach")) v = true) ∧ r = (if xhas N w x = true then .ok (some (.ref (B + (w + 3 + x.toNatClampNeg)))) else .error (0, B + 253 + g.length)) ∧ h' = xHn pre B N C L (if xhas N w x = true then g else xgx g)) := by
    intro hno
    refine xp_new (E := 0) (h1 := xHn pre B N C L g) rfl (by rw [xHn_len hB]; exact hg) ⟨fun v q => (nomatch q), ?_, ?_⟩
    · rw [hno, xHn_len hB]
      rfl
    · rw [hno, xHn_app]
      rfl
  have good : xhas N w x = true → xBp K Z 0 2 [] xcX7_row (xseek xcX7_row 26) [(0, .ref (B + w)), (1, .int x)] [] (xHn pre B N C L g) (fun r h' => (∀ v, r = .ok v → xrfit (some (.object "RiverReaches$Reach")) v = true) ∧ r = (if xhas N w x = true then .ok (some (.ref (B + (w + 3 + x.toNatClampNeg)))) else .error (0, B + 253 + g.length)) ∧ h' = xHn pre B N C L (if xhas N w x = true then g else xgx g)) := by
    intro hyes
    have hyes' := hyes
    unfold xhas at hyes'
    simp only [Bool.and_eq_true, decide_eq_true_eq] at hyes'
    obtain ⟨i1, i2⟩ := xin8 hyes'.1 hyes'.2.2
    refine xp_step rfl ?_
    refine xp_ref hB k4 k1 (by decide) k5 ?_
    refine xp_step rfl ?_
    refine xp_aald hB k4a (show xKd (w + 1) = (50 + 5, 8) from k1a) (by decide) i1 (k6 _ i2) ?_
    refine xp_ret rfl ⟨fun v q => by cases q; rfl, ?_, ?_⟩
    · rw [if_pos hyes]
    · rw [if_pos hyes]
  refine xp_step rfl ?_
  refine xp_if1 rfl (fun q => bad ?_) (fun q => ?_)
  · unfold xhas
    simp_all [xic]
    simp only [Int32.le_iff_toInt_le, Int32.lt_iff_toInt_lt] at *
    omega
  refine xp_step rfl ?_
  refine xp_step rfl ?_
  refine xp_get hB k4 k1 (by decide) (k3 _ (by decide) (by decide)) ?_
  refine xp_if2 rfl (fun q2 => bad ?_) (fun q2 => ?_)
  · unfold xhas
    simp_all [xic]
    simp only [Int32.le_iff_toInt_le, Int32.lt_iff_toInt_lt] at *
    omega
  refine xp_step rfl ?_
  refine xp_step rfl ?_
  refine xp_if2 rfl (fun q3 => good ?_) (fun q3 => bad ?_)
  · unfold xhas
    simp_all [xic]
  · unfold xhas
    simp_all [xic]
end XRW
