/-! FLOWS: the lesser of two, a reach's outflow, the head's inflow of an hour -/
def xmin (a b : Int32) : Int32 := if b < a then b else a
def xmax (a b : Int32) : Int32 := if a < b then b else a
/-- the outflow of a reach that is there -/
def xfOut (N : Nat → Nat → Int32) (w : Nat) (x : Int32) : Int32 := xmin (N (w + 3 + x.toNatClampNeg) 4 * N (w + 3 + x.toNatClampNeg) 1 / 100) (N (w + 3 + x.toNatClampNeg) 2 * xfOpen N w x / 100)
/-- what the first n pulses bring in the hour t -/
def xfHeadN (N : Nat → Nat → Int32) (w : Nat) (t : Int32) : Nat → Int32
  | 0 => 0
  | n + 1 => xfHeadN N w t n + xrate N (w + 11 + n) t
/-- how many rows a loop 'i < count and i < 8' passes -/
def xcnt (c : Int32) : Nat := if c < 0 then 0 else if 8 ≤ c then 8 else c.toNatClampNeg
def xfHead (N : Nat → Nat → Int32) (w : Nat) (t : Int32) : Int32 := xfHeadN N w t (xcnt (N w 3))
theorem xcnt_lt : ∀ n, n < 8 → ∀ c : Int32, (n < xcnt c ↔ Int32.ofNat n < c) := by
  intro n hn c
  have e : (Int32.ofNat n).toInt = n := Int32.toInt_ofNat_small (by omega)
  have z0 : (0 : Int32).toInt = 0 := rfl
  have z8 : (8 : Int32).toInt = 8 := rfl
  have zc : c.toNatClampNeg = c.toInt.toNat := rfl
  have key : Int32.ofNat n < c ↔ (n : Int) < c.toInt := by rw [Int32.lt_iff_toInt_lt, e]
  rw [key]
  unfold xcnt
  split
  · rename_i h
    rw [Int32.lt_iff_toInt_lt, z0] at h
    omega
  · rename_i h
    rw [Int32.lt_iff_toInt_lt, z0] at h
    split
    · rename_i h2
      rw [Int32.le_iff_toInt_le, z8] at h2
      omega
    · rw [zc]
      omega
theorem xcnt_le (c : Int32) : xcnt c ≤ 8 := by
  have z8 : (8 : Int32).toInt = 8 := rfl
  have zc : c.toNatClampNeg = c.toInt.toNat := rfl
  unfold xcnt
  split
  · omega
  · split
    · omega
    · rename_i h2
      rw [Int32.le_iff_toInt_le, z8] at h2
      rw [zc]
      omega
section XFL
variable {K : List (Nat × List Value)} {Z : List Value} {pre g : xH} {B L : Nat} {N : Nat → Nat → Int32} {C : Nat → Nat}
theorem xs_min (h : xH) (a b : Int32) : xRn K Z 1 143 [.int a, .int b] h (.ok (some (.int (xmin a b)))) h := by
  refine xRp_eq (xRp_of (m := (yJ9_min_7cf53, cJ9_min_7cf53, 2, some .int, [], [], xcJ9_min_7cf53)) rfl (by show 2 ≤ 2; decide) ?_)
  show xBp K Z 0 2 [] xcJ9_min_7cf53 xcJ9_min_7cf53 [(0, .int a), (1, .int b)] [] _ _
  refine xp_step rfl ?_
  refine xp_step rfl ?_
  refine xp_if2 rfl (fun q => ?_) (fun q => ?_)
  · refine xp_step rfl ?_
    refine xp_ret rfl ⟨fun v q => by cases q; rfl, ?_, rfl⟩
    unfold xmin; rw [if_pos (of_decide_eq_true q)]
  · refine xp_step rfl ?_
    refine xp_jump rfl ?_
    refine xp_ret rfl ⟨fun v q => by cases q; rfl, ?_, rfl⟩
    unfold xmin; rw [if_neg (of_decide_eq_false q)]
theorem xs_max (h : xH) (a b : Int32) : xRn K Z 1 142 [.int a, .int b] h (.ok (some (.int (xmax a b)))) h := by
  refine xRp_eq (xRp_of (m := (yJ9_max_7cf53, cJ9_max_7cf53, 2, some .int, [], [], xcJ9_max_7cf53)) rfl (by show 2 ≤ 2; decide) ?_)
  show xBp K Z 0 2 [] xcJ9_max_7cf53 xcJ9_max_7cf53 [(0, .int a), (1, .int b)] [] _ _
  refine xp_step rfl ?_
  refine xp_step rfl ?_
  refine xp_if2 rfl (fun q => ?_) (fun q => ?_)
  · refine xp_step rfl ?_
    refine xp_ret rfl ⟨fun v q => by cases q; rfl, ?_, rfl⟩
    unfold xmax; rw [if_pos (of_decide_eq_true q)]
  · refine xp_step rfl ?_
    refine xp_jump rfl ?_
    refine xp_ret rfl ⟨fun v q => by cases q; rfl, ?_, rfl⟩
    unfold xmax; rw [if_neg (of_decide_eq_false q)]
theorem xs_out (hB : xBok pre B) {w : Nat} (hw : w ∈ xRbs) (x : Int32) (hh : xhas N w x = true) (hg : B + 253 + g.length < 1000000) : xRn K Z 3 39 [.ref (B + w), .int x] (xHn pre B N C L g) (.ok (some (.int (xfOut N w x)))) (xHn pre B N C L g) := by
  obtain ⟨k1, -, -, k2, -, -, -, -, -⟩ := xrb_river w hw
  have k4 : w < 253 := by omega
  have hrow := xs_row (K := K) (Z := Z) (N := N) (L := L) (C := C) (g := g) hB hw x hg
  rw [if_pos hh, if_pos hh] at hrow
  have ho := xs_open (K := K) (Z := Z) (N := N) (L := L) (C := C) (g := g) hB hw x hh hg
  have hyes' := hh
  unfold xhas at hyes'
  simp only [Bool.and_eq_true, decide_eq_true_eq] at hyes'
  obtain ⟨-, i2⟩ := xin8 hyes'.1 hyes'.2.2
  obtain ⟨r1, r2, r3⟩ := xrb_reach w hw x.toNatClampNeg i2
  have hm := xs_min (K := K) (Z := Z) (xHn pre B N C L g) (N (w + 3 + x.toNatClampNeg) 4 * N (w + 3 + x.toNatClampNeg) 1 / 100) (N (w + 3 + x.toNatClampNeg) 2 * xfOpen N w x / 100)
  refine xRp_eq (xRp_of (m := (yX7_outflowOf, cX7_outflowOf, 5, some .int, [], [], xcX7_outflowOf)) rfl (by show 2 ≤ 5; decide) ?_)
  show xBp K Z 2 5 [] xcX7_outflowOf xcX7_outflowOf [(0, .ref (B + w)), (1, .int x)] [] _ _
  refine xp_step rfl ?_
  refine xp_step rfl ?_
  refine xp_virt (i := w) hB k4 k1 rfl (Nat.le_of_ble_eq_true rfl) rfl (xR_up (show 1 ≤ 2 by decide) hrow) ?_
  refine xp_step rfl ?_
  refine xp_step rfl ?_
  refine xp_get hB r2 r1 (by decide) (r3 _ (by decide)) ?_
  refine xp_step rfl ?_
  refine xp_get hB r2 r1 (by decide) (r3 _ (by decide)) ?_
  refine xp_step rfl ?_
  refine xp_step rfl ?_
  refine xp_div (by decide) ?_
  refine xp_step rfl ?_
  refine xp_step rfl ?_
  refine xp_get hB r2 r1 (by decide) (r3 _ (by decide)) ?_
  refine xp_step rfl ?_
  refine xp_step rfl ?_
  refine xp_virt (i := w) hB k4 k1 rfl (Nat.le_of_ble_eq_true rfl) rfl ho ?_
  refine xp_step rfl ?_
  refine xp_step rfl ?_
  refine xp_div (by decide) ?_
  refine xp_step rfl ?_
  refine xp_step rfl ?_
  refine xp_step rfl ?_
  refine xp_callR rfl (xR_up (show 1 ≤ 2 by decide) hm) ?_
  refine xp_ret rfl ⟨fun v q => by cases q; rfl, rfl, rfl⟩
end XFL
