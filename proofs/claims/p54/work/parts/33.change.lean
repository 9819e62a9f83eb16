/-! CHANGES OF A RIVER, first: within, the lateral inflow -/
def xwin (v a b : Int32) : Bool := decide (a ≤ v) && decide (v ≤ b)
section XCH
variable {K : List (Nat × List Value)} {Z : List Value} {pre g : xH} {B L : Nat} {N : Nat → Nat → Int32} {C : Nat → Nat}
theorem xs_within (h : xH) (v a b : Int32) : xRn K Z 1 116 [.int v, .int a, .int b] h (.ok (some (.int (if xwin v a b = true then 1 else 0)))) h := by
  refine xRp_eq (xRp_of (m := (yX9_within, cX9_within, 3, some .boolean, [], [], xcX9_within)) rfl (by show 3 ≤ 3; decide) ?_)
  show xBp K Z 0 3 [] xcX9_within xcX9_within [(0, .int v), (1, .int a), (2, .int b)] [] _ _
  repeat' (first
    | refine xp_if2 rfl (fun _ => ?_) (fun _ => ?_)
    | refine xp_ret rfl ?_
    | refine xp_step rfl ?_
    | refine xp_jump rfl ?_)
  all_goals refine ⟨fun v q => by cases q; rfl, congrArg (fun x => Except.ok (some (Value.int x))) ?_, rfl⟩
  all_goals unfold xwin
  all_goals simp_all [xic]
  all_goals simp only [Int32.le_iff_toInt_le, Int32.lt_iff_toInt_lt] at *
  all_goals omega
/-- setLateral's change: the answer (or the refusal), the numbers afterwards -/
def xfLat (N : Nat → Nat → Int32) (w : Nat) (x f : Int32) : Int32 × (Nat → Nat → Int32) :=
  if xhas N w x = false then (-11, N) else if xwin f 0 50 = false then (-12, N) else if N (w + 3 + x.toNatClampNeg) 3 = f then (-4, N) else (N (w + 3 + x.toNatClampNeg) 3, xupN N (w + 3 + x.toNatClampNeg) 3 f)
theorem xs_lat (hB : xBok pre B) {w : Nat} (hw : w ∈ xRbs) (x f : Int32) : xRn K Z 2 29 [.ref (B + w), .int x, .int f] (xHn pre B N C L g) (.ok (some (.int (xfLat N w x f).1))) (xHn pre B (xfLat N w x f).2 C L g) := by
  obtain ⟨k1, k1a, -, k2, k5, -, k3, k6, -⟩ := xrb_river w hw
  have k4 : w < 253 := by omega
  have k4a : w + 1 < 253 := by omega
  have h1 := xs_has (K := K) (Z := Z) (N := N) (L := L) (C := C) (g := g) hB hw x
  have h2 := xs_within (K := K) (Z := Z) (xHn pre B N C L g) f 0 50
  refine xRp_eq (xRp_of (m := (yX7_changeLateral, cX7_changeLateral, 5, some .int, [], [], xcX7_changeLateral)) rfl (by show 3 ≤ 5; decide) ?_)
  show xBp K Z 1 5 [] xcX7_changeLateral xcX7_changeLateral [(0, .ref (B + w)), (1, .int x), (2, .int f)] [] _ _
  refine xp_step rfl ?_
  refine xp_step rfl ?_
  refine xp_virt (i := w) hB k4 k1 rfl (Nat.le_of_ble_eq_true rfl) rfl h1 ?_
  cases hh : xhas N w x with
  | false =>
    refine xp_step rfl ?_
    refine xp_step rfl ?_
    refine xp_ret rfl ⟨fun v q => by cases q; rfl, ?_, ?_⟩
    · unfold xfLat; rw [if_pos hh]; rfl
    · unfold xfLat; rw [if_pos hh]
  | true =>
    have hne : ¬ xhas N w x = false := by rw [hh]; decide
    refine xp_jump rfl ?_
    refine xp_step rfl ?_
    refine xp_step rfl ?_
    refine xp_step rfl ?_
    refine xp_callR rfl h2 ?_
    cases hf : xwin f 0 50 with
    | false =>
      refine xp_step rfl ?_
      refine xp_step rfl ?_
      refine xp_ret rfl ⟨fun v q => by cases q; rfl, ?_, ?_⟩
      · unfold xfLat; rw [if_neg hne, if_pos hf]; rfl
      · unfold xfLat; rw [if_neg hne, if_pos hf]
    | true =>
      have hnf : ¬ xwin f 0 50 = false := by rw [hf]; decide
      have hyes' := hh
      unfold xhas at hyes'
      simp only [Bool.and_eq_true, decide_eq_true_eq] at hyes'
      obtain ⟨i1, i2⟩ := xin8 hyes'.1 hyes'.2.2
      obtain ⟨r1, r2, r3⟩ := xrb_reach w hw x.toNatClampNeg i2
      refine xp_jump rfl ?_
      refine xp_step rfl ?_
      refine xp_ref hB k4 k1 (by decide) k5 ?_
      refine xp_step rfl ?_
      refine xp_aald hB k4a (show xKd (w + 1) = (50 + 5, 8) from k1a) (by decide) i1 (k6 _ i2) ?_
      refine xp_step rfl ?_
      refine xp_step rfl ?_
      refine xp_get hB r2 r1 (by decide) (r3 _ (by decide)) ?_
      refine xp_step rfl ?_
      refine xp_step rfl ?_
      refine xp_step rfl ?_
      refine xp_if2 rfl (fun q => ?_) (fun q => ?_)
      · have q9 : ¬ N (w + 3 + x.toNatClampNeg) 3 = f := by simpa [xic] using q
        refine xp_step rfl ?_
        refine xp_step rfl ?_
        refine xp_put hB r2 r1 (by decide) (r3 _ (by decide)) rfl ?_
        refine xp_step rfl ?_
        refine xp_ret rfl ⟨fun v q => by cases q; rfl, ?_, ?_⟩
        · unfold xfLat; rw [if_neg hne, if_neg hnf, if_neg q9]
        · unfold xfLat; rw [if_neg hne, if_neg hnf, if_neg q9]
      · have q9 : N (w + 3 + x.toNatClampNeg) 3 = f := by simpa [xic] using q
        refine xp_step rfl ?_
        refine xp_ret rfl ⟨fun v q => by cases q; rfl, ?_, ?_⟩
        · unfold xfLat; rw [if_neg hne, if_neg hnf, if_pos q9]; rfl
        · unfold xfLat; rw [if_neg hne, if_neg hnf, if_pos q9]
end XCH
