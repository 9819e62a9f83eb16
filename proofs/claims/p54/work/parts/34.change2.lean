/-! MORE CHANGES OF A RIVER -/
section XCH2
variable {K : List (Nat × List Value)} {Z : List Value} {pre g : xH} {B L : Nat} {N : Nat → Nat → Int32} {C : Nat → Nat}
/-- setGate's change: the answer (or the refusal), the numbers afterwards -/
def xfSet (N : Nat → Nat → Int32) (w : Nat) (x f : Int32) : Int32 × (Nat → Nat → Int32) :=
  if xhas N w x = false then (-11, N) else if xwin f 0 100 = false then (-12, N) else if N (w + 3 + x.toNatClampNeg) 7 = f then (-4, N) else (N (w + 3 + x.toNatClampNeg) 7, xupN N (w + 3 + x.toNatClampNeg) 7 f)
theorem xs_setting (hB : xBok pre B) {w : Nat} (hw : w ∈ xRbs) (x f : Int32) : xRn K Z 2 32 [.ref (B + w), .int x, .int f] (xHn pre B N C L g) (.ok (some (.int (xfSet N w x f).1))) (xHn pre B (xfSet N w x f).2 C L g) := by
  obtain ⟨k1, k1a, -, k2, k5, -, k3, k6, -⟩ := xrb_river w hw
  have k4 : w < 253 := by omega
  have k4a : w + 1 < 253 := by omega
  have h1 := xs_has (K := K) (Z := Z) (N := N) (L := L) (C := C) (g := g) hB hw x
  have h2 := xs_within (K := K) (Z := Z) (xHn pre B N C L g) f 0 100
  refine xRp_eq (xRp_of (m := (yX7_changeSetting, cX7_changeSetting, 5, some .int, [], [], xcX7_changeSetting)) rfl (by show 3 ≤ 5; decide) ?_)
  show xBp K Z 1 5 [] xcX7_changeSetting xcX7_changeSetting [(0, .ref (B + w)), (1, .int x), (2, .int f)] [] _ _
  refine xp_step rfl ?_
  refine xp_step rfl ?_
  refine xp_virt (i := w) hB k4 k1 rfl (Nat.le_of_ble_eq_true rfl) rfl h1 ?_
  cases hh : xhas N w x with
  | false =>
    refine xp_step rfl ?_
    refine xp_step rfl ?_
    refine xp_ret rfl ⟨fun v q => by cases q; rfl, ?_, ?_⟩
    · unfold xfSet; rw [if_pos hh]; rfl
    · unfold xfSet; rw [if_pos hh]
  | true =>
    have hne : ¬ xhas N w x = false := by rw [hh]; decide
    refine xp_jump rfl ?_
    refine xp_step rfl ?_
    refine xp_step rfl ?_
    refine xp_step rfl ?_
    refine xp_callR rfl h2 ?_
    cases hf : xwin f 0 100 with
    | false =>
      refine xp_step rfl ?_
      refine xp_step rfl ?_
      refine xp_ret rfl ⟨fun v q => by cases q; rfl, ?_, ?_⟩
      · unfold xfSet; rw [if_neg hne, if_pos hf]; rfl
      · unfold xfSet; rw [if_neg hne, if_pos hf]
    | true =>
      have hnf : ¬ xwin f 0 100 = false := by rw [hf]; decide
      have hyes' := hh
      unfold xhas at hyes'
      simp only [Bool.and_eq_true, decide_eq_true_eq] at hyes'
      obtain ⟨i1, i2⟩ := xin8 hyes'.1 hyes'.2.2
      obtain ⟨r1, r2, r3⟩ := xrb_reach w hw x.toNatClampNeg i2
      refine xp_jump rfl ?_
      refine xp_step rfl ?_
      refine xp_ref hB k4 k1 (by decide) k5 ?_
      refine xp_step rfl ?_
      refine xp_aald hB k4a (show xKd (w + 1) = (50 + 5, 8) from k1a) (by decide) i1 (k6 _ i2) ?_
      refine xp_step rfl ?_
      refine xp_step rfl ?_
      refine xp_get hB r2 r1 (by decide) (r3 _ (by decide)) ?_
      refine xp_step rfl ?_
      refine xp_step rfl ?_
      refine xp_step rfl ?_
      refine xp_if2 rfl (fun q => ?_) (fun q => ?_)
      · have q9 : ¬ N (w + 3 + x.toNatClampNeg) 7 = f := by simpa [xic] using q
        refine xp_step rfl ?_
        refine xp_step rfl ?_
        refine xp_put hB r2 r1 (by decide) (r3 _ (by decide)) rfl ?_
        refine xp_step rfl ?_
        refine xp_ret rfl ⟨fun v q => by cases q; rfl, ?_, ?_⟩
        · unfold xfSet; rw [if_neg hne, if_neg hnf, if_neg q9]
        · unfold xfSet; rw [if_neg hne, if_neg hnf, if_neg q9]
      · have q9 : N (w + 3 + x.toNatClampNeg) 7 = f := by simpa [xic] using q
        refine xp_step rfl ?_
        refine xp_ret rfl ⟨fun v q => by cases q; rfl, ?_, ?_⟩
        · unfold xfSet; rw [if_neg hne, if_neg hnf, if_pos q9]; rfl
        · unfold xfSet; rw [if_neg hne, if_neg hnf, if_pos q9]
/-- fill's change -/
def xNpour (N : Nat → Nat → Int32) (w i : Nat) (f : Int32) : Nat → Nat → Int32 := xupN (xupN N i 4 (N i 4 + f)) w 5 (N w 5 + f)
def xfPour (N : Nat → Nat → Int32) (w : Nat) (x f : Int32) : Int32 × (Nat → Nat → Int32) :=
  if xhas N w x = false then (-11, N) else if xwin f 1 999 = false then (-12, N) else (xlvl (N (w + 3 + x.toNatClampNeg) 0) (N (w + 3 + x.toNatClampNeg) 4 + f), xNpour N w (w + 3 + x.toNatClampNeg) f)
theorem xs_pour (hB : xBok pre B) {w : Nat} (hw : w ∈ xRbs) (x f : Int32) : xRn K Z 2 30 [.ref (B + w), .int x, .int f] (xHn pre B N C L g) (.ok (some (.int (xfPour N w x f).1))) (xHn pre B (xfPour N w x f).2 C L g) := by
  obtain ⟨k1, k1a, -, k2, k5, -, k3, k6, -⟩ := xrb_river w hw
  have k4 : w < 253 := by omega
  have k4a : w + 1 < 253 := by omega
  have h1 := xs_has (K := K) (Z := Z) (N := N) (L := L) (C := C) (g := g) hB hw x
  have h2 := xs_within (K := K) (Z := Z) (xHn pre B N C L g) f 1 999
  refine xRp_eq (xRp_of (m := (yX7_pourInto, cX7_pourInto, 4, some .int, [], [], xcX7_pourInto)) rfl (by show 3 ≤ 4; decide) ?_)
  show xBp K Z 1 4 [] xcX7_pourInto xcX7_pourInto [(0, .ref (B + w)), (1, .int x), (2, .int f)] [] _ _
  refine xp_step rfl ?_
  refine xp_step rfl ?_
  refine xp_virt (i := w) hB k4 k1 rfl (Nat.le_of_ble_eq_true rfl) rfl h1 ?_
  cases hh : xhas N w x with
  | false =>
    refine xp_step rfl ?_
    refine xp_step rfl ?_
    refine xp_ret rfl ⟨fun v q => by cases q; rfl, ?_, ?_⟩
    · unfold xfPour; rw [if_pos hh]; rfl
    · unfold xfPour; rw [if_pos hh]
  | true =>
    have hne : ¬ xhas N w x = false := by rw [hh]; decide
    refine xp_jump rfl ?_
    refine xp_step rfl ?_
    refine xp_step rfl ?_
    refine xp_step rfl ?_
    refine xp_callR rfl h2 ?_
    cases hf : xwin f 1 999 with
    | false =>
      refine xp_step rfl ?_
      refine xp_step rfl ?_
      refine xp_ret rfl ⟨fun v q => by cases q; rfl, ?_, ?_⟩
      · unfold xfPour; rw [if_neg hne, if_pos hf]; rfl
      · unfold xfPour; rw [if_neg hne, if_pos hf]
    | true =>
      have hnf : ¬ xwin f 1 999 = false := by rw [hf]; decide
      have hyes' := hh
      unfold xhas at hyes'
      simp only [Bool.and_eq_true, decide_eq_true_eq] at hyes'
      obtain ⟨i1, i2⟩ := xin8 hyes'.1 hyes'.2.2
      obtain ⟨r1, r2, r3⟩ := xrb_reach w hw x.toNatClampNeg i2
      have hl := xs_level (K := K) (Z := Z) (N := xNpour N w (w + 3 + x.toNatClampNeg) f) (L := L) (C := C) (g := g) hB hw i2
      have e0 : xNpour N w (w + 3 + x.toNatClampNeg) f (w + 3 + x.toNatClampNeg) 0 = N (w + 3 + x.toNatClampNeg) 0 := by simp [xNpour, xupN]
      have e4 : xNpour N w (w + 3 + x.toNatClampNeg) f (w + 3 + x.toNatClampNeg) 4 = N (w + 3 + x.toNatClampNeg) 4 + f := by
        have : ¬ w + 3 + x.toNatClampNeg = w := by omega
        simp [xNpour, xupN]
      rw [e0, e4] at hl
      have e5 : xupN N (w + 3 + x.toNatClampNeg) 4 (N (w + 3 + x.toNatClampNeg) 4 + f) w 5 = N w 5 := by simp [xupN]
      refine xp_jump rfl ?_
      refine xp_step rfl ?_
      refine xp_ref hB k4 k1 (by decide) k5 ?_
      refine xp_step rfl ?_
      refine xp_aald hB k4a (show xKd (w + 1) = (50 + 5, 8) from k1a) (by decide) i1 (k6 _ i2) ?_
      refine xp_step rfl ?_
      refine xp_step rfl ?_
      refine xp_step rfl ?_
      refine xp_get hB r2 r1 (by decide) (r3 _ (by decide)) ?_
      refine xp_step rfl ?_
      refine xp_step rfl ?_
      refine xp_put hB r2 r1 (by decide) (r3 _ (by decide)) rfl ?_
      refine xp_step rfl ?_
      refine xp_step rfl ?_
      refine xp_get hB k4 k1 (by decide) (k3 _ (by decide) (by decide)) ?_
      refine xp_step rfl ?_
      refine xp_step rfl ?_
      refine xp_put hB k4 k1 (by decide) (k3 _ (by decide) (by decide)) rfl ?_
      rw [e5]
      refine xp_step rfl ?_
      refine xp_virt (i := w + 3 + x.toNatClampNeg) hB r2 r1 rfl (Nat.le_of_ble_eq_true rfl) rfl hl ?_
      refine xp_ret rfl ⟨fun v q => by cases q; rfl, ?_, ?_⟩
      · unfold xfPour; rw [if_neg hne, if_neg hnf]
      · unfold xfPour; rw [if_neg hne, if_neg hnf]
/-- removeLastReach's change -/
def xNcut (N : Nat → Nat → Int32) (w : Nat) (v : Int32) : Nat → Nat → Int32 := xupN (xupN N w 2 (N w 2 - 1)) w 6 (N w 6 + v)
def xfCut (N : Nat → Nat → Int32) (w : Nat) : Int32 × (Nat → Nat → Int32) :=
  if xhas N w (N w 2 - 1) = false then (-3, N) else (N (w + 3 + (N w 2 - 1).toNatClampNeg) 4, xNcut N w (N (w + 3 + (N w 2 - 1).toNatClampNeg) 4))
theorem xs_cut (hB : xBok pre B) {w : Nat} (hw : w ∈ xRbs) : xRn K Z 2 28 [.ref (B + w)] (xHn pre B N C L g) (.ok (some (.int (xfCut N w).1))) (xHn pre B (xfCut N w).2 C L g) := by
  obtain ⟨k1, k1a, -, k2, k5, -, k3, k6, -⟩ := xrb_river w hw
  have k4 : w < 253 := by omega
  have k4a : w + 1 < 253 := by omega
  have h1 := xs_has (K := K) (Z := Z) (N := N) (L := L) (C := C) (g := g) hB hw (N w 2 - 1)
  refine xRp_eq (xRp_of (m := (yX7_cutReach, cX7_cutReach, 2, some .int, [], [], xcX7_cutReach)) rfl (by show 1 ≤ 2; decide) ?_)
  show xBp K Z 1 2 [] xcX7_cutReach xcX7_cutReach [(0, .ref (B + w))] [] _ _
  refine xp_step rfl ?_
  refine xp_step rfl ?_
  refine xp_get hB k4 k1 (by decide) (k3 _ (by decide) (by decide)) ?_
  refine xp_step rfl ?_
  refine xp_step rfl ?_
  refine xp_virt (i := w) hB k4 k1 rfl (Nat.le_of_ble_eq_true rfl) rfl h1 ?_
  cases hh : xhas N w (N w 2 - 1) with
  | false =>
    refine xp_step rfl ?_
    refine xp_step rfl ?_
    refine xp_ret rfl ⟨fun v q => by cases q; rfl, ?_, ?_⟩
    · unfold xfCut; rw [if_pos hh]; rfl
    · unfold xfCut; rw [if_pos hh]
  | true =>
    have hne : ¬ xhas N w (N w 2 - 1) = false := by rw [hh]; decide
    have hyes' := hh
    unfold xhas at hyes'
    simp only [Bool.and_eq_true, decide_eq_true_eq] at hyes'
    obtain ⟨i1, i2⟩ := xin8 hyes'.1 hyes'.2.2
    obtain ⟨r1, r2, r3⟩ := xrb_reach w hw (N w 2 - 1).toNatClampNeg i2
    have e6 : xupN N w 2 (N w 2 - 1) w 6 = N w 6 := by simp [xupN]
    refine xp_jump rfl ?_
    refine xp_step rfl ?_
    refine xp_ref hB k4 k1 (by decide) k5 ?_
    refine xp_step rfl ?_
    refine xp_get hB k4 k1 (by decide) (k3 _ (by decide) (by decide)) ?_
    refine xp_step rfl ?_
    refine xp_step rfl ?_
    refine xp_aald (y := N w 2 - 1) hB k4a (show xKd (w + 1) = (50 + 5, 8) from k1a) (by decide) i1 (k6 _ i2) ?_
    refine xp_get hB r2 r1 (by decide) (r3 _ (by decide)) ?_
    refine xp_step rfl ?_
    refine xp_step rfl ?_
    refine xp_step rfl ?_
    refine xp_get hB k4 k1 (by decide) (k3 _ (by decide) (by decide)) ?_
    refine xp_step rfl ?_
    refine xp_step rfl ?_
    refine xp_put (x := N w 2 - 1) hB k4 k1 (by decide) (k3 _ (by decide) (by decide)) rfl ?_
    refine xp_step rfl ?_
    refine xp_step rfl ?_
    refine xp_get hB k4 k1 (by decide) (k3 _ (by decide) (by decide)) ?_
    refine xp_step rfl ?_
    refine xp_step rfl ?_
    refine xp_put hB k4 k1 (by decide) (k3 _ (by decide) (by decide)) rfl ?_
    rw [e6]
    refine xp_step rfl ?_
    refine xp_ret rfl ⟨fun v q => by cases q; rfl, ?_, ?_⟩
    · unfold xfCut; rw [if_neg hne]
    · unfold xfCut; rw [if_neg hne]; rfl
end XCH2
