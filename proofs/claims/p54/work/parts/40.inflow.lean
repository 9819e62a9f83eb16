/-! A REACH'S INFLOW, AND A NEW PULSE -/
theorem xhas_pred {N : Nat → Nat → Int32} {w : Nat} {x : Int32} (h : xhas N w x = true) (h0 : x ≠ 0) : xhas N w (x - 1) = true := by
  unfold xhas at h ⊢
  simp only [Bool.and_eq_true, decide_eq_true_eq] at h ⊢
  obtain ⟨a, b, c⟩ := h
  have z0 : (0 : Int32).toInt = 0 := rfl
  have z8 : (8 : Int32).toInt = 8 := rfl
  have z1 : (1 : Int32).toInt = 1 := rfl
  rw [Int32.le_iff_toInt_le, z0] at a ⊢
  rw [Int32.lt_iff_toInt_lt] at b ⊢
  rw [Int32.lt_iff_toInt_lt, z8] at c ⊢
  have h1 : x.toInt ≠ 0 := fun q => h0 (Int32.toInt_inj.mp (by rw [q, z0]))
  have e : (x - 1).toInt = x.toInt - 1 := by
    rw [Int32.toInt_sub, z1]
    exact Int.bmod_eq_of_le (by omega) (by omega)
  rw [e]
  omega
def xfIn (N : Nat → Nat → Int32) (w : Nat) (x : Int32) : Int32 := N (w + 3 + x.toNatClampNeg) 3 + (if x = 0 then xfHead N w (N w 4) else xfOut N w (x - 1))
section XIN
variable {K : List (Nat × List Value)} {Z : List Value} {pre g : xH} {B L : Nat} {N : Nat → Nat → Int32} {C : Nat → Nat}
theorem xs_in (hB : xBok pre B) {w : Nat} (hw : w ∈ xRbs) (x : Int32) (hh : xhas N w x = true) (hg : B + 253 + g.length < 1000000) : xRn K Z 4 38 [.ref (B + w), .int x] (xHn pre B N C L g) (.ok (some (.int (xfIn N w x)))) (xHn pre B N C L g) := by
  obtain ⟨k1, -, -, k2, -, -, k3, -, -⟩ := xrb_river w hw
  have k4 : w < 253 := by omega
  have hrow := xs_row (K := K) (Z := Z) (N := N) (L := L) (C := C) (g := g) hB hw x hg
  rw [if_pos hh, if_pos hh] at hrow
  have hyes' := hh
  unfold xhas at hyes'
  simp only [Bool.and_eq_true, decide_eq_true_eq] at hyes'
  obtain ⟨-, i2⟩ := xin8 hyes'.1 hyes'.2.2
  obtain ⟨r1, r2, r3⟩ := xrb_reach w hw x.toNatClampNeg i2
  have hhd := xs_head (K := K) (Z := Z) (N := N) (L := L) (C := C) (g := g) hB hw (N w 4)
  refine xRp_eq (xRp_of (m := (yX7_inflowOf, cX7_inflowOf, 3, some .int, [], [], xcX7_inflowOf)) rfl (by show 2 ≤ 3; decide) ?_)
  show xBp K Z 3 3 [] xcX7_inflowOf xcX7_inflowOf [(0, .ref (B + w)), (1, .int x)] [] _ _
  refine xp_step rfl ?_
  refine xp_step rfl ?_
  refine xp_virt (i := w) hB k4 k1 rfl (Nat.le_of_ble_eq_true rfl) rfl (xR_up (show 1 ≤ 3 by decide) hrow) ?_
  refine xp_get hB r2 r1 (by decide) (r3 _ (by decide)) ?_
  refine xp_step rfl ?_
  refine xp_step rfl ?_
  refine xp_step rfl ?_
  refine xp_if1 rfl (fun q => ?_) (fun q => ?_)
  · have q9 : ¬ x = 0 := by simpa [xic] using q
    have ho := xs_out (K := K) (Z := Z) (N := N) (L := L) (C := C) (g := g) hB hw (x - 1) (xhas_pred hh q9) hg
    refine xp_step rfl ?_
    refine xp_step rfl ?_
    refine xp_step rfl ?_
    refine xp_step rfl ?_
    refine xp_virt (i := w) hB k4 k1 rfl (Nat.le_of_ble_eq_true rfl) rfl ho ?_
    refine xp_step rfl ?_
    refine xp_ret rfl ⟨fun v q => by cases q; rfl, ?_, rfl⟩
    unfold xfIn; rw [if_neg q9]
  · have q9 : x = 0 := by simpa [xic] using q
    refine xp_step rfl ?_
    refine xp_step rfl ?_
    refine xp_get hB k4 k1 (by decide) (k3 _ (by decide) (by decide)) ?_
    refine xp_virt (i := w) hB k4 k1 rfl (Nat.le_of_ble_eq_true rfl) rfl hhd ?_
    refine xp_jump rfl ?_
    refine xp_step rfl ?_
    refine xp_ret rfl ⟨fun v q => by cases q; rfl, ?_, rfl⟩
    unfold xfIn; rw [if_pos q9]
end XIN
