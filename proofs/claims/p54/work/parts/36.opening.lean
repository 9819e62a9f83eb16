/-! RULES AND OPENINGS -/
def xrule (x : Int32) : Bool := decide (x = 102) || (decide (x = 104) || decide (x = 114))
/-- the opening of a reach that is there -/
def xfOpen (N : Nat → Nat → Int32) (w : Nat) (x : Int32) : Int32 :=
  if N (w + 3 + x.toNatClampNeg) 8 = 114 ∧ xsta N (w + 3 + x.toNatClampNeg) = 2 then 100 else if N (w + 3 + x.toNatClampNeg) 8 = 104 ∧ (xhas N w (x + 1) = true ∧ xsta N (w + 3 + (x + 1).toNatClampNeg) = 2) then N (w + 3 + x.toNatClampNeg) 7 / 2 else N (w + 3 + x.toNatClampNeg) 7
section XOP
variable {K : List (Nat × List Value)} {Z : List Value} {pre g : xH} {B L : Nat} {N : Nat → Nat → Int32} {C : Nat → Nat}
theorem xs_isRule (h : xH) (x : Int32) : xRn K Z 1 117 [.int x] h (.ok (some (.int (if xrule x = true then 1 else 0)))) h := by
  refine xRp_eq (xRp_of (m := (yX9_isRule, cX9_isRule, 1, some .boolean, [], [], xcX9_isRule)) rfl (by show 1 ≤ 1; decide) ?_)
  show xBp K Z 0 1 [] xcX9_isRule xcX9_isRule [(0, .int x)] [] _ _
  repeat' (first
    | refine xp_if2 rfl (fun _ => ?_) (fun _ => ?_)
    | refine xp_ret rfl ?_
    | refine xp_step rfl ?_
    | refine xp_jump rfl ?_)
  all_goals refine ⟨fun v q => by cases q; rfl, congrArg (fun x => Except.ok (some (Value.int x))) ?_, rfl⟩
  all_goals unfold xrule
  all_goals rename_i q
  all_goals simp_all [xic]
  all_goals first | rfl | (intros; rfl) | skip
theorem xs_open (hB : xBok pre B) {w : Nat} (hw : w ∈ xRbs) (x : Int32) (hh : xhas N w x = true) (hg : B + 253 + g.length < 1000000) : xRn K Z 2 40 [.ref (B + w), .int x] (xHn pre B N C L g) (.ok (some (.int (xfOpen N w x)))) (xHn pre B N C L g) := by
  obtain ⟨k1, k1a, -, k2, k5, -, k3, k6, -⟩ := xrb_river w hw
  have k4 : w < 253 := by omega
  have k4a : w + 1 < 253 := by omega
  have hrow := xs_row (K := K) (Z := Z) (N := N) (L := L) (C := C) (g := g) hB hw x hg
  rw [if_pos hh, if_pos hh] at hrow
  have h1 := xs_has (K := K) (Z := Z) (N := N) (L := L) (C := C) (g := g) hB hw (x + 1)
  have hyes' := hh
  unfold xhas at hyes'
  simp only [Bool.and_eq_true, decide_eq_true_eq] at hyes'
  obtain ⟨-, i2⟩ := xin8 hyes'.1 hyes'.2.2
  obtain ⟨r1, r2, r3⟩ := xrb_reach w hw x.toNatClampNeg i2
  have hs := xs_status (K := K) (Z := Z) (N := N) (L := L) (C := C) (g := g) hB hw i2
  refine xRp_eq (xRp_of (m := (yX7_openingOf, cX7_openingOf, 3, some .int, [], [], xcX7_openingOf)) rfl (by show 2 ≤ 3; decide) ?_)
  show xBp K Z 1 3 [] xcX7_openingOf xcX7_openingOf [(0, .ref (B + w)), (1, .int x)] [] _ _
  have last : ¬ (N (w + 3 + x.toNatClampNeg) 8 = 114 ∧ xsta N (w + 3 + x.toNatClampNeg) = 2) → ¬ (N (w + 3 + x.toNatClampNeg) 8 = 104 ∧ (xhas N w (x + 1) = true ∧ xsta N (w + 3 + (x + 1).toNatClampNeg) = 2)) → xBp K Z 1 3 [] xcX7_openingOf (xseek xcX7_openingOf 67) [(2, .ref (B + (w + 3 + x.toNatClampNeg))), (0, .ref (B + w)), (1, .int x)] [] (xHn pre B N C L g) (fun r h' => (∀ v, r = .ok v → xrfit (some .int) v = true) ∧ r = .ok (some (.int (xfOpen N w x))) ∧ h' = xHn pre B N C L g) := by
    intro n1 n2
    refine xp_step rfl ?_
    refine xp_get hB r2 r1 (by decide) (r3 _ (by decide)) ?_
    refine xp_ret rfl ⟨fun v q => by cases q; rfl, ?_, rfl⟩
    unfold xfOpen; rw [if_neg n1, if_neg n2]
  have mid : ¬ (N (w + 3 + x.toNatClampNeg) 8 = 114 ∧ xsta N (w + 3 + x.toNatClampNeg) = 2) → xBp K Z 1 3 [] xcX7_openingOf (xseek xcX7_openingOf 26) [(2, .ref (B + (w + 3 + x.toNatClampNeg))), (0, .ref (B + w)), (1, .int x)] [] (xHn pre B N C L g) (fun r h' => (∀ v, r = .ok v → xrfit (some .int) v = true) ∧ r = .ok (some (.int (xfOpen N w x))) ∧ h' = xHn pre B N C L g) := by
    intro n1
    refine xp_step rfl ?_
    refine xp_get hB r2 r1 (by decide) (r3 _ (by decide)) ?_
    refine xp_step rfl ?_
    refine xp_if2 rfl (fun q => last n1 (fun z => ?_)) (fun q => ?_)
    · have q9 : ¬ N (w + 3 + x.toNatClampNeg) 8 = 104 := by simpa [xic] using q
      exact q9 z.1
    have q9 : N (w + 3 + x.toNatClampNeg) 8 = 104 := by simpa [xic] using q
    refine xp_step rfl ?_
    refine xp_step rfl ?_
    refine xp_step rfl ?_
    refine xp_step rfl ?_
    refine xp_virt (i := w) hB k4 k1 rfl (Nat.le_of_ble_eq_true rfl) rfl h1 ?_
    cases e1 : xhas N w (x + 1) with
    | false => exact xp_jump rfl (last n1 (fun z => by rw [e1] at z; cases z.2.1))
    | true =>
      have hy2 := e1
      unfold xhas at hy2
      simp only [Bool.and_eq_true, decide_eq_true_eq] at hy2
      obtain ⟨j1, j2⟩ := xin8 hy2.1 hy2.2.2
      have hs2 := xs_status (K := K) (Z := Z) (N := N) (L := L) (C := C) (g := g) hB hw j2
      refine xp_step rfl ?_
      refine xp_step rfl ?_
      refine xp_ref hB k4 k1 (by decide) k5 ?_
      refine xp_step rfl ?_
      refine xp_step rfl ?_
      refine xp_step rfl ?_
      refine xp_aald (y := x + 1) hB k4a (show xKd (w + 1) = (50 + 5, 8) from k1a) (by decide) j1 (k6 _ j2) ?_
      refine xp_virt hB (xrb_reach w hw _ j2).2.1 (xrb_reach w hw _ j2).1 rfl (Nat.le_of_ble_eq_true rfl) rfl hs2 ?_
      refine xp_step rfl ?_
      refine xp_if2 rfl (fun q2 => last n1 (fun z => ?_)) (fun q2 => ?_)
      · have q8 : ¬ xsta N (w + 3 + (x + 1).toNatClampNeg) = 2 := by simpa [xic] using q2
        exact q8 z.2.2
      have q8 : xsta N (w + 3 + (x + 1).toNatClampNeg) = 2 := by simpa [xic] using q2
      refine xp_step rfl ?_
      refine xp_get hB r2 r1 (by decide) (r3 _ (by decide)) ?_
      refine xp_step rfl ?_
      refine xp_div (by decide) ?_
      refine xp_ret rfl ⟨fun v q => by cases q; rfl, ?_, rfl⟩
      unfold xfOpen; rw [if_neg n1, if_pos ⟨q9, e1, q8⟩]; rfl
  refine xp_step rfl ?_
  refine xp_step rfl ?_
  refine xp_virt (i := w) hB k4 k1 rfl (Nat.le_of_ble_eq_true rfl) rfl hrow ?_
  refine xp_step rfl ?_
  refine xp_step rfl ?_
  refine xp_get hB r2 r1 (by decide) (r3 _ (by decide)) ?_
  refine xp_step rfl ?_
  refine xp_if2 rfl (fun q => mid (fun z => ?_)) (fun q => ?_)
  · have q9 : ¬ N (w + 3 + x.toNatClampNeg) 8 = 114 := by simpa [xic] using q
    exact q9 z.1
  have q9 : N (w + 3 + x.toNatClampNeg) 8 = 114 := by simpa [xic] using q
  refine xp_step rfl ?_
  refine xp_virt hB r2 r1 rfl (Nat.le_of_ble_eq_true rfl) rfl hs ?_
  refine xp_step rfl ?_
  refine xp_if2 rfl (fun q2 => mid (fun z => ?_)) (fun q2 => ?_)
  · have q8 : ¬ xsta N (w + 3 + x.toNatClampNeg) = 2 := by simpa [xic] using q2
    exact q8 z.2
  have q8 : xsta N (w + 3 + x.toNatClampNeg) = 2 := by simpa [xic] using q2
  refine xp_step rfl ?_
  refine xp_ret rfl ⟨fun v q => by cases q; rfl, ?_, rfl⟩
  unfold xfOpen; rw [if_pos ⟨q9, q8⟩]; rfl
end XOP
