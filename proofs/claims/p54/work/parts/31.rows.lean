/-! A RIVER: whether it has a reach, and the reach's row -/
def xhas (N : Nat → Nat → Int32) (w : Nat) (x : Int32) : Bool := decide (0 ≤ x) && (decide (x < N w 2) && decide (x < 8))
theorem xin8 {x : Int32} (h0 : 0 ≤ x) (h8 : x < 8) : xin x 8 = true ∧ x.toNatClampNeg < 8 := by
  have h1 : x.toNatClampNeg < 8 := by
    have a := Int32.le_iff_toInt_le.mp h0
    have b := Int32.lt_iff_toInt_lt.mp h8
    have c : (0 : Int32).toInt = 0 := rfl
    have d : (8 : Int32).toInt = 8 := rfl
    rw [c] at a
    rw [d] at b
    show x.toInt.toNat < 8
    omega
  refine ⟨?_, h1⟩
  unfold xin
  rw [decide_eq_true h0, decide_eq_true h1]
  rfl
theorem xHn_app {pre g : xH} {B L : Nat} {N : Nat → Nat → Int32} {C : Nat → Nat} {q : Nat × List Value} : xHn pre B N C L g ++ [q] = xHn pre B N C L (g ++ [q]) := by
  unfold xHn xHp
  rw [List.append_assoc, List.append_assoc]
theorem xHn_len {pre g : xH} {B L : Nat} {N : Nat → Nat → Int32} {C : Nat → Nat} (hB : xBok pre B) : (xHn pre B N C L g).length = B + 253 + g.length := by
  unfold xHn xHp
  rw [List.length_append, List.length_append, xLay_len, hB.1]
  omega
/-- an exception's cell -/
def xgx (g : xH) : xH := g ++ [(40, List.replicate 6 .null)]
section XRW
variable {K : List (Nat × List Value)} {Z : List Value} {pre g : xH} {B L : Nat} {N : Nat → Nat → Int32} {C : Nat → Nat}
theorem xs_has (hB : xBok pre B) {w : Nat} (hw : w ∈ xRbs) (x : Int32) : xRn K Z 1 23 [.ref (B + w), .int x] (xHn pre B N C L g) (.ok (some (.int (if xhas N w x = true then 1 else 0)))) (xHn pre B N C L g) := by
  obtain ⟨k1, -, -, k2, -, -, k3, -, -⟩ := xrb_river w hw
  have k4 : w < 253 := by omega
  refine xRp_eq (xRp_of (m := (yX7_hasReach, cX7_hasReach, 2, some .boolean, [], [], xcX7_hasReach)) rfl (Nat.le_refl _) ?_)
  show xBp K Z 0 2 [] xcX7_hasReach xcX7_hasReach [(0, .ref (B + w)), (1, .int x)] [] _ _
  repeat' (first
    | refine xp_get hB k4 k1 (by decide) (k3 _ (by decide) (by decide)) ?_
    | refine xp_if2 rfl (fun _ => ?_) (fun _ => ?_)
    | refine xp_if1 rfl (fun _ => ?_) (fun _ => ?_)
    | refine xp_ret rfl ?_
    | refine xp_step rfl ?_
    | refine xp_jump rfl ?_)
  all_goals refine ⟨fun v q => by cases q; rfl, congrArg (fun x => Except.ok (some (Value.int x))) ?_, rfl⟩
  all_goals unfold xhas
  all_goals simp_all [xic]
  all_goals trace_state
end XRW
