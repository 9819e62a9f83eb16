/-! MORE CHANGES OF A RIVER: stages, a new reach -/
section XCH3
variable {K : List (Nat × List Value)} {Z : List Value} {pre g : xH} {B L : Nat} {N : Nat → Nat → Int32} {C : Nat → Nat}
def xstOk (a f : Int32) : Bool := xwin a 1 998 && (xwin f 2 999 && decide (a < f))
def xNst (N : Nat → Nat → Int32) (i : Nat) (a f : Int32) : Nat → Nat → Int32 := xupN (xupN N i 5 a) i 6 f
/-- setStages' change -/
def xfStages (N : Nat → Nat → Int32) (w : Nat) (x a f : Int32) : Int32 × (Nat → Nat → Int32) :=
  if xhas N w x = false then (-11, N) else if xstOk a f = false then (-12, N) else (xsta (xNst N (w + 3 + x.toNatClampNeg) a f) (w + 3 + x.toNatClampNeg), xNst N (w + 3 + x.toNatClampNeg) a f)
theorem xs_stages (hB : xBok pre B) {w : Nat} (hw : w ∈ xRbs) (x a f : Int32) : xRn K Z 2 31 [.ref (B + w), .int x, .int a, .int f] (xHn pre B N C L g) (.ok (some (.int (xfStages N w x a f).1))) (xHn pre B (xfStages N w x a f).2 C L g) := by
  obtain ⟨k1, k1a, -, k2, k5, -, k3, k6, -⟩ := xrb_river w hw
  have k4 : w < 253 := by omega
  have k4a : w + 1 < 253 := by omega
  have h1 := xs_has (K := K) (Z := Z) (N := N) (L := L) (C := C) (g := g) hB hw x
  have h2 := xs_within (K := K) (Z := Z) (xHn pre B N C L g) a 1 998
  have h3 := xs_within (K := K) (Z := Z) (xHn pre B N C L g) f 2 999
  refine xRp_eq (xRp_of (m := (yX7_changeStages, cX7_changeStages, 5, some .int, [], [], xcX7_changeStages)) rfl (by show 4 ≤ 5; decide) ?_)
  show xBp K Z 1 5 [] xcX7_changeStages xcX7_changeStages [(0, .ref (B + w)), (1, .int x), (2, .int a), (3, .int f)] [] _ _
  refine xp_step rfl ?_
  refine xp_step rfl ?_
  refine xp_virt (i := w) hB k4 k1 rfl (Nat.le_of_ble_eq_true rfl) rfl h1 ?_
  cases hh : xhas N w x with
  | false =>
    refine xp_step rfl ?_
    refine xp_step rfl ?_
    refine xp_ret rfl ⟨fun v q => by cases q; rfl, ?_, ?_⟩
    · unfold xfStages; rw [if_pos hh]; rfl
    · unfold xfStages; rw [if_pos hh]
  | true =>
    have hne : ¬ xhas N w x = false := by rw [hh]; decide
    have bad : xstOk a f = false → xBp K Z 1 5 [] xcX7_changeStages (xseek xcX7_changeStages 38) [(0, .ref (B + w)), (1, .int x), (2, .int a), (3, .int f)] [] (xHn pre B N C L g) (fun r h' => (∀ v, r = .ok v → xrfit (some .int) v = true) ∧ r = .ok (some (.int (xfStages N w x a f).1)) ∧ h' = xHn pre B (xfStages N w x a f).2 C L g) := by
      intro hf
      refine xp_step rfl ?_
      refine xp_ret rfl ⟨fun v q => by cases q; rfl, ?_, ?_⟩
      · unfold xfStages; rw [if_neg hne, if_pos hf]; rfl
      · unfold xfStages; rw [if_neg hne, if_pos hf]
    refine xp_jump rfl ?_
    refine xp_step rfl ?_
    refine xp_step rfl ?_
    refine xp_step rfl ?_
    refine xp_callR rfl h2 ?_
    cases e1 : xwin a 1 998 with
    | false =>
      refine xp_jump rfl (bad ?_)
      unfold xstOk; rw [e1]; rfl
    | true =>
      refine xp_step rfl ?_
      refine xp_step rfl ?_
      refine xp_step rfl ?_
      refine xp_step rfl ?_
      refine xp_callR rfl h3 ?_
      cases e2 : xwin f 2 999 with
      | false =>
        refine xp_jump rfl (bad ?_)
        unfold xstOk; rw [e1, e2]; rfl
      | true =>
        refine xp_step rfl ?_
        refine xp_step rfl ?_
        refine xp_step rfl ?_
        refine xp_if2 rfl (fun q => ?_) (fun q => bad ?_)
        · have q9 : decide (a < f) = true := q
          have hnf : ¬ xstOk a f = false := by unfold xstOk; rw [e1, e2, q9]; decide
          have hyes' := hh
          unfold xhas at hyes'
          simp only [Bool.and_eq_true, decide_eq_true_eq] at hyes'
          obtain ⟨i1, i2⟩ := xin8 hyes'.1 hyes'.2.2
          obtain ⟨r1, r2, r3⟩ := xrb_reach w hw x.toNatClampNeg i2
          have hs := xs_status (K := K) (Z := Z) (N := xNst N (w + 3 + x.toNatClampNeg) a f) (L := L) (C := C) (g := g) hB hw i2
          refine xp_step rfl ?_
          refine xp_ref hB k4 k1 (by decide) k5 ?_
          refine xp_step rfl ?_
          refine xp_aald hB k4a (show xKd (w + 1) = (50 + 5, 8) from k1a) (by decide) i1 (k6 _ i2) ?_
          refine xp_step rfl ?_
          refine xp_step rfl ?_
          refine xp_step rfl ?_
          refine xp_put hB r2 r1 (by decide) (r3 _ (by decide)) rfl ?_
          refine xp_step rfl ?_
          refine xp_step rfl ?_
          refine xp_put hB r2 r1 (by decide) (r3 _ (by decide)) rfl ?_
          refine xp_step rfl ?_
          refine xp_virt (i := w + 3 + x.toNatClampNeg) hB r2 r1 rfl (Nat.le_of_ble_eq_true rfl) rfl hs ?_
          refine xp_ret rfl ⟨fun v q => by cases q; rfl, ?_, ?_⟩
          · unfold xfStages; rw [if_neg hne, if_neg hnf]
          · unfold xfStages; rw [if_neg hne, if_neg hnf]
        · have q9 : decide (a < f) = false := q
          unfold xstOk; rw [e1, e2, q9]; rfl
def xapOk (s p c : Int32) : Bool := xwin s 1 50 && (xwin p 5 60 && xwin c 1 500)
def xNap (N : Nat → Nat → Int32) (w : Nat) (s p c : Int32) : Nat → Nat → Int32 := xupN (xNbeg N (w + 3 + (N w 2).toNatClampNeg) s p c) w 2 (N w 2 + 1)
/-- addReach's change -/
def xfAppend (N : Nat → Nat → Int32) (w : Nat) (s p c : Int32) : Int32 × (Nat → Nat → Int32) :=
  if xapOk s p c = false then (-12, N) else if xwin (N w 2) 0 7 = false then (-1, N) else (N w 2 + 1 - 1, xNap N w s p c)
theorem xs_append (hB : xBok pre B) {w : Nat} (hw : w ∈ xRbs) (s p c : Int32) : xRn K Z 2 27 [.ref (B + w), .int s, .int p, .int c] (xHn pre B N C L g) (.ok (some (.int (xfAppend N w s p c).1))) (xHn pre B (xfAppend N w s p c).2 C L g) := by
  obtain ⟨k1, k1a, -, k2, k5, -, k3, k6, -⟩ := xrb_river w hw
  have k4 : w < 253 := by omega
  have k4a : w + 1 < 253 := by omega
  have h1 := xs_within (K := K) (Z := Z) (xHn pre B N C L g) s 1 50
  have h2 := xs_within (K := K) (Z := Z) (xHn pre B N C L g) p 5 60
  have h3 := xs_within (K := K) (Z := Z) (xHn pre B N C L g) c 1 500
  have h4 := xs_within (K := K) (Z := Z) (xHn pre B N C L g) (N w 2) 0 7
  refine xRp_eq (xRp_of (m := (yX7_appendReach, cX7_appendReach, 4, some .int, [], [], xcX7_appendReach)) rfl (by show 4 ≤ 4; decide) ?_)
  show xBp K Z 1 4 [] xcX7_appendReach xcX7_appendReach [(0, .ref (B + w)), (1, .int s), (2, .int p), (3, .int c)] [] _ _
  have bad : xapOk s p c = false → xBp K Z 1 4 [] xcX7_appendReach (xseek xcX7_appendReach 31) [(0, .ref (B + w)), (1, .int s), (2, .int p), (3, .int c)] [] (xHn pre B N C L g) (fun r h' => (∀ v, r = .ok v → xrfit (some .int) v = true) ∧ r = .ok (some (.int (xfAppend N w s p c).1)) ∧ h' = xHn pre B (xfAppend N w s p c).2 C L g) := by
    intro hf
    refine xp_step rfl ?_
    refine xp_ret rfl ⟨fun v q => by cases q; rfl, ?_, ?_⟩
    · unfold xfAppend; rw [if_pos hf]; rfl
    · unfold xfAppend; rw [if_pos hf]
  refine xp_step rfl ?_
  refine xp_step rfl ?_
  refine xp_step rfl ?_
  refine xp_callR rfl h1 ?_
  cases e1 : xwin s 1 50 with
  | false =>
    refine xp_jump rfl (bad ?_)
    unfold xapOk; rw [e1]; rfl
  | true =>
    refine xp_step rfl ?_
    refine xp_step rfl ?_
    refine xp_step rfl ?_
    refine xp_step rfl ?_
    refine xp_callR rfl h2 ?_
    cases e2 : xwin p 5 60 with
    | false =>
      refine xp_jump rfl (bad ?_)
      unfold xapOk; rw [e1, e2]; rfl
    | true =>
      refine xp_step rfl ?_
      refine xp_step rfl ?_
      refine xp_step rfl ?_
      refine xp_step rfl ?_
      refine xp_callR rfl h3 ?_
      cases e3 : xwin c 1 500 with
      | false =>
        refine xp_step rfl ?_
        refine bad ?_
        unfold xapOk; rw [e1, e2, e3]; rfl
      | true =>
        have hok : ¬ xapOk s p c = false := by unfold xapOk; rw [e1, e2, e3]; decide
        refine xp_jump rfl ?_
        refine xp_step rfl ?_
        refine xp_get hB k4 k1 (by decide) (k3 _ (by decide) (by decide)) ?_
        refine xp_step rfl ?_
        refine xp_step rfl ?_
        refine xp_callR rfl h4 ?_
        cases e4 : xwin (N w 2) 0 7 with
        | false =>
          refine xp_step rfl ?_
          refine xp_step rfl ?_
          refine xp_ret rfl ⟨fun v q => by cases q; rfl, ?_, ?_⟩
          · unfold xfAppend; rw [if_neg hok, if_pos e4]; rfl
          · unfold xfAppend; rw [if_neg hok, if_pos e4]
        | true =>
          have hn4 : ¬ xwin (N w 2) 0 7 = false := by rw [e4]; decide
          have hyes' := e4
          unfold xwin at hyes'
          simp only [Bool.and_eq_true, decide_eq_true_eq] at hyes'
          have h78 : N w 2 < 8 := by
            have a := hyes'.2
            rw [Int32.le_iff_toInt_le] at a
            rw [Int32.lt_iff_toInt_lt]
            have c7 : (7 : Int32).toInt = 7 := rfl
            have c8 : (8 : Int32).toInt = 8 := rfl
            rw [c7] at a
            rw [c8]
            omega
          obtain ⟨i1, i2⟩ := xin8 hyes'.1 h78
          obtain ⟨r1, r2, r3⟩ := xrb_reach w hw (N w 2).toNatClampNeg i2
          have hb := xs_begin (K := K) (Z := Z) (N := N) (L := L) (C := C) (g := g) hB hw i2 s p c
          have ew : xNbeg N (w + 3 + (N w 2).toNatClampNeg) s p c w 2 = N w 2 := by unfold xNbeg; rw [if_neg (by omega)]
          have ew2 : xNap N w s p c w 2 = N w 2 + 1 := by simp [xNap, xupN]
          refine xp_jump rfl ?_
          refine xp_step rfl ?_
          refine xp_ref hB k4 k1 (by decide) k5 ?_
          refine xp_step rfl ?_
          refine xp_get hB k4 k1 (by decide) (k3 _ (by decide) (by decide)) ?_
          refine xp_aald hB k4a (show xKd (w + 1) = (50 + 5, 8) from k1a) (by decide) i1 (k6 _ i2) ?_
          refine xp_step rfl ?_
          refine xp_step rfl ?_
          refine xp_step rfl ?_
          refine xp_virt (i := w + 3 + (N w 2).toNatClampNeg) hB r2 r1 rfl (Nat.le_of_ble_eq_true rfl) rfl (xR_up (by decide) hb) ?_
          refine xp_step rfl ?_
          refine xp_step rfl ?_
          refine xp_get hB k4 k1 (by decide) (k3 _ (by decide) (by decide)) ?_
          rw [ew]
          refine xp_step rfl ?_
          refine xp_step rfl ?_
          refine xp_put (x := N w 2 + 1) hB k4 k1 (by decide) (k3 _ (by decide) (by decide)) rfl ?_
          refine xp_step rfl ?_
          refine xp_get hB k4 k1 (by decide) (k3 _ (by decide) (by decide)) ?_
          rw [show xupN (xNbeg N (w + 3 + (N w 2).toNatClampNeg) s p c) w 2 (N w 2 + 1) w 2 = N w 2 + 1 from ew2]
          refine xp_step rfl ?_
          refine xp_step rfl ?_
          refine xp_ret rfl ⟨fun v q => by cases q; rfl, ?_, ?_⟩
          · unfold xfAppend; rw [if_neg hok, if_neg hn4]; rfl
          · unfold xfAppend; rw [if_neg hok, if_neg hn4]; rfl
end XCH3
