/-! A NEW PULSE -/
section XPU
variable {K : List (Nat × List Value)} {Z : List Value} {pre g : xH} {B L : Nat} {N : Nat → Nat → Int32} {C : Nat → Nat}
def xpuOk (s p c : Int32) : Bool := xwin s 0 999 && (xwin p 1 24 && xwin c 1 200)
def xNpz (N : Nat → Nat → Int32) (w : Nat) (s p c : Int32) : Nat → Nat → Int32 := xupN (xNpu N (w + 11 + (N w 3).toNatClampNeg) s p c) w 3 (N w 3 + 1)
/-- addPulse's change -/
def xfPulse (N : Nat → Nat → Int32) (w : Nat) (s p c : Int32) : Int32 × (Nat → Nat → Int32) :=
  if xpuOk s p c = false then (-12, N) else if s < N w 4 then (-2, N) else if xwin (N w 3) 0 7 = false then (-1, N) else (N w 3 + 1, xNpz N w s p c)
theorem xs_pulse (hB : xBok pre B) {w : Nat} (hw : w ∈ xRbs) (s p c : Int32) : xRn K Z 2 34 [.ref (B + w), .int s, .int p, .int c] (xHn pre B N C L g) (.ok (some (.int (xfPulse N w s p c).1))) (xHn pre B (xfPulse N w s p c).2 C L g) := by
  obtain ⟨k1, -, k1a, k2, -, k5, k3, -, k6⟩ := xrb_river w hw
  have k4 : w < 253 := by omega
  have k4a : w + 2 < 253 := by omega
  have h1 := xs_within (K := K) (Z := Z) (xHn pre B N C L g) s 0 999
  have h2 := xs_within (K := K) (Z := Z) (xHn pre B N C L g) p 1 24
  have h3 := xs_within (K := K) (Z := Z) (xHn pre B N C L g) c 1 200
  have h4 := xs_within (K := K) (Z := Z) (xHn pre B N C L g) (N w 3) 0 7
  refine xRp_eq (xRp_of (m := (yX7_appendPulse, cX7_appendPulse, 4, some .int, [], [], xcX7_appendPulse)) rfl (by show 4 ≤ 4; decide) ?_)
  show xBp K Z 1 4 [] xcX7_appendPulse xcX7_appendPulse [(0, .ref (B + w)), (1, .int s), (2, .int p), (3, .int c)] [] _ _
  have bad : xpuOk s p c = false → xBp K Z 1 4 [] xcX7_appendPulse (xseek xcX7_appendPulse 32) [(0, .ref (B + w)), (1, .int s), (2, .int p), (3, .int c)] [] (xHn pre B N C L g) (fun r h' => (∀ v, r = .ok v → xrfit (some .int) v = true) ∧ r = .ok (some (.int (xfPulse N w s p c).1)) ∧ h' = xHn pre B (xfPulse N w s p c).2 C L g) := by
    intro hf
    refine xp_step rfl ?_
    refine xp_ret rfl ⟨fun v q => by cases q; rfl, ?_, ?_⟩
    · unfold xfPulse; rw [if_pos hf]; rfl
    · unfold xfPulse; rw [if_pos hf]
  refine xp_step rfl ?_
  refine xp_step rfl ?_
  refine xp_step rfl ?_
  refine xp_callR rfl h1 ?_
  cases e1 : xwin s 0 999 with
  | false =>
    refine xp_jump rfl (bad ?_)
    unfold xpuOk; rw [e1]; rfl
  | true =>
    refine xp_step rfl ?_
    refine xp_step rfl ?_
    refine xp_step rfl ?_
    refine xp_step rfl ?_
    refine xp_callR rfl h2 ?_
    cases e2 : xwin p 1 24 with
    | false =>
      refine xp_jump rfl (bad ?_)
      unfold xpuOk; rw [e1, e2]; rfl
    | true =>
      refine xp_step rfl ?_
      refine xp_step rfl ?_
      refine xp_step rfl ?_
      refine xp_step rfl ?_
      refine xp_callR rfl h3 ?_
      cases e3 : xwin c 1 200 with
      | false =>
        refine xp_step rfl ?_
        refine bad ?_
        unfold xpuOk; rw [e1, e2, e3]; rfl
      | true =>
        have hok : ¬ xpuOk s p c = false := by unfold xpuOk; rw [e1, e2, e3]; decide
        refine xp_jump rfl ?_
        refine xp_step rfl ?_
        refine xp_step rfl ?_
        refine xp_get hB k4 k1 (by decide) (k3 _ (by decide) (by decide)) ?_
        refine xp_if2 rfl (fun qh => ?_) (fun qh => ?_)
        rotate_left
        · have qh9 : s < N w 4 := Int32.not_le.mp (of_decide_eq_false qh)
          refine xp_step rfl ?_
          refine xp_ret rfl ⟨fun v q => by cases q; rfl, ?_, ?_⟩
          · unfold xfPulse; rw [if_neg hok, if_pos qh9]; rfl
          · unfold xfPulse; rw [if_neg hok, if_pos qh9]
        have qh9 : ¬ s < N w 4 := Int32.not_lt.mpr (of_decide_eq_true qh)
        refine xp_step rfl ?_
        refine xp_get hB k4 k1 (by decide) (k3 _ (by decide) (by decide)) ?_
        refine xp_step rfl ?_
        refine xp_step rfl ?_
        refine xp_callR rfl h4 ?_
        cases e4 : xwin (N w 3) 0 7 with
        | false =>
          refine xp_step rfl ?_
          refine xp_step rfl ?_
          refine xp_ret rfl ⟨fun v q => by cases q; rfl, ?_, ?_⟩
          · unfold xfPulse; rw [if_neg hok, if_neg qh9, if_pos e4]; rfl
          · unfold xfPulse; rw [if_neg hok, if_neg qh9, if_pos e4]
        | true =>
          have hn4 : ¬ xwin (N w 3) 0 7 = false := by rw [e4]; decide
          have hyes' := e4
          unfold xwin at hyes'
          simp only [Bool.and_eq_true, decide_eq_true_eq] at hyes'
          have h78 : N w 3 < 8 := by
            have a := hyes'.2
            rw [Int32.le_iff_toInt_le] at a
            rw [Int32.lt_iff_toInt_lt]
            have c7 : (7 : Int32).toInt = 7 := rfl
            have c8 : (8 : Int32).toInt = 8 := rfl
            rw [c7] at a
            rw [c8]
            omega
          obtain ⟨i1, i2⟩ := xin8 hyes'.1 h78
          obtain ⟨r1, r2, r3⟩ := xrb_pulse w hw (N w 3).toNatClampNeg i2
          have hb := xs_pbegin (K := K) (Z := Z) (N := N) (L := L) (C := C) (g := g) hB hw i2 s p c
          have ew : xNpu N (w + 11 + (N w 3).toNatClampNeg) s p c w 3 = N w 3 := by unfold xNpu; rw [if_neg (by omega)]
          have ew2 : xNpz N w s p c w 3 = N w 3 + 1 := by simp [xNpz, xupN]
          refine xp_jump rfl ?_
          refine xp_step rfl ?_
          refine xp_ref hB k4 k1 (by decide) k5 ?_
          refine xp_step rfl ?_
          refine xp_get hB k4 k1 (by decide) (k3 _ (by decide) (by decide)) ?_
          refine xp_aald hB k4a (show xKd (w + 2) = (50 + 4, 8) from k1a) (by decide) i1 (k6 _ i2) ?_
          refine xp_step rfl ?_
          refine xp_step rfl ?_
          refine xp_step rfl ?_
          refine xp_virt (i := w + 11 + (N w 3).toNatClampNeg) hB r2 r1 rfl (Nat.le_of_ble_eq_true rfl) rfl (xR_up (by decide) hb) ?_
          refine xp_step rfl ?_
          refine xp_step rfl ?_
          refine xp_get hB k4 k1 (by decide) (k3 _ (by decide) (by decide)) ?_
          rw [ew]
          refine xp_step rfl ?_
          refine xp_step rfl ?_
          refine xp_put (x := N w 3 + 1) hB k4 k1 (by decide) (k3 _ (by decide) (by decide)) rfl ?_
          refine xp_step rfl ?_
          refine xp_get hB k4 k1 (by decide) (k3 _ (by decide) (by decide)) ?_
          rw [show xupN (xNpu N (w + 11 + (N w 3).toNatClampNeg) s p c) w 3 (N w 3 + 1) w 3 = N w 3 + 1 from ew2]
          refine xp_ret rfl ⟨fun v q => by cases q; rfl, ?_, ?_⟩
          · unfold xfPulse; rw [if_neg hok, if_neg qh9, if_neg hn4]
          · unfold xfPulse; rw [if_neg hok, if_neg qh9, if_neg hn4]; rfl
end XPU
