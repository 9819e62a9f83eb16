/-! A TEXT BEHIND THE OBJECT STAYS WHEN THE OBJECT CHANGES -/
section XKP
variable {K : List (Nat × List Value)} {pre g : xH} {B L : Nat} {N : Nat → Nat → Int32} {C : Nat → Nat}
theorem xHn_behind (hB : xBok pre B) {M : Nat → Nat → Int32} {C' : Nat → Nat} {L' q : Nat} (hq : B + 253 ≤ q) : (xHn pre B M C' L' g)[q]? = (xHn pre B N C L g)[q]? := by
  have e := hB.1
  have k : ∀ X, (pre ++ (xLay X ++ g))[q]? = g[q - pre.length - 253]? := fun X => by
    rw [List.getElem?_append_right (by omega), List.getElem?_append_right (by rw [xLay_len]; omega), xLay_len]
  exact (k _).trans (k _).symm
theorem xcell_behind (hB : xBok pre B) {M : Nat → Nat → Int32} {C' : Nat → Nat} {L' q : Nat} (hq : B + 253 ≤ q) : xcell K (xHn pre B M C' L' g) q = xcell K (xHn pre B N C L g) q := by
  by_cases h : q < 1000000
  · unfold xcell
    rw [decide_eq_true h]
    exact xHn_behind hB hq
  · unfold xcell
    rw [decide_eq_false h]
/-- a text all whose cells lie behind the object -/
def xStB (K : List (Nat × List Value)) (pre : xH) (B : Nat) (N : Nat → Nat → Int32) (C : Nat → Nat) (L : Nat) (g : xH) (sa : Nat) (s : List Nat) : Prop := ∃ b v2 v3, (B + 253 ≤ sa ∧ B + 253 ≤ b) ∧ (xcell K (xHn pre B N C L g) sa = some (0, [.ref b, .int 0, v2, v3]) ∧ (xcell K (xHn pre B N C L g) b = some (50, s.map fun n => .int (Int32.ofNat n)) ∧ ((∀ n ∈ s, n < 128) ∧ s.length < 1000)))
theorem xStB_str (hB : xBok pre B) {sa : Nat} {s : List Nat} (h : xStB K pre B N C L g sa s) : ∀ M, xStr K (xHn pre B M C L g) sa s := by
  obtain ⟨b, v2, v3, ⟨p1, p2⟩, h1, h2, h3, h4⟩ := h
  intro M
  exact ⟨b, v2, v3, by rw [xcell_behind (N := N) (C := C) (L := L) hB p1]; exact h1, by rw [xcell_behind (N := N) (C := C) (L := L) hB p2]; exact h2, h3, h4⟩
end XKP
