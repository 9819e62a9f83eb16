/-! FRAMES: what a river's changes leave alone -/
section XFM
variable {N : Nat → Nat → Int32} {w a b : Nat} {x y z s p c f : Int32}
theorem xwin7_lt (h : xwin x 0 7 = true) : x.toNatClampNeg < 8 := by
  unfold xwin at h
  simp only [Bool.and_eq_true, decide_eq_true_eq] at h
  have h2 := Int32.le_iff_toInt_le.mp h.2
  rw [show (7 : Int32).toInt = 7 from rfl] at h2
  have := (xlp_max x).2
  omega
theorem xoff_append (h : a < w ∨ w + 19 ≤ a) : (xfAppend N w s p c).2 a b = N a b := by
  unfold xfAppend
  split
  · rfl
  · split
    · rfl
    · rename_i h1 h2
      have h3 := xwin7_lt (x := N w 2) (by simpa using h2)
      show xNap N w s p c a b = _
      unfold xNap xupN
      rw [if_neg (by omega)]
      unfold xNbeg
      rw [if_neg (by omega)]
theorem xoff_cut (h : a < w ∨ w + 19 ≤ a) : (xfCut N w).2 a b = N a b := by
  unfold xfCut
  split
  · rfl
  · show xNcut N w _ a b = _
    unfold xNcut xupN
    rw [if_neg (by omega), if_neg (by omega)]
theorem xoff_lat (h : a < w ∨ w + 19 ≤ a) : (xfLat N w x f).2 a b = N a b := by
  unfold xfLat
  split
  · rfl
  · rename_i h1
    have h3 := xhas_lt (N := N) (w := w) (x := x) (by simpa using h1)
    split
    · rfl
    · split
      · rfl
      · show xupN N _ 3 f a b = _
        unfold xupN
        rw [if_neg (by omega)]
theorem xoff_set (h : a < w ∨ w + 19 ≤ a) : (xfSet N w x f).2 a b = N a b := by
  unfold xfSet
  split
  · rfl
  · rename_i h1
    have h3 := xhas_lt (N := N) (w := w) (x := x) (by simpa using h1)
    split
    · rfl
    · split
      · rfl
      · show xupN N _ 7 f a b = _
        unfold xupN
        rw [if_neg (by omega)]
theorem xoff_rule (h : a < w ∨ w + 19 ≤ a) : (xfRule N w x f).2 a b = N a b := by
  unfold xfRule
  split
  · rfl
  · rename_i h1
    have h3 := xhas_lt (N := N) (w := w) (x := x) (by simpa using h1)
    split
    · rfl
    · split
      · rfl
      · show xupN N _ 8 f a b = _
        unfold xupN
        rw [if_neg (by omega)]
theorem xoff_pour (h : a < w ∨ w + 19 ≤ a) : (xfPour N w x f).2 a b = N a b := by
  unfold xfPour
  split
  · rfl
  · rename_i h1
    have h3 := xhas_lt (N := N) (w := w) (x := x) (by simpa using h1)
    split
    · rfl
    · show xNpour N w _ f a b = _
      unfold xNpour xupN
      rw [if_neg (by omega), if_neg (by omega)]
theorem xoff_stages (h : a < w ∨ w + 19 ≤ a) : (xfStages N w x y f).2 a b = N a b := by
  unfold xfStages
  split
  · rfl
  · rename_i h1
    have h3 := xhas_lt (N := N) (w := w) (x := x) (by simpa using h1)
    split
    · rfl
    · show xNst N _ y f a b = _
      unfold xNst xupN
      rw [if_neg (by omega), if_neg (by omega)]
theorem xoff_pulse (h : a < w ∨ w + 19 ≤ a) : (xfPulse N w s p c).2 a b = N a b := by
  unfold xfPulse
  split
  · rfl
  · split
    · rfl
    · split
      · rfl
      · rename_i h1 h2 h4
        have h3 := xwin7_lt (x := N w 3) (by simpa using h4)
        show xNpz N w s p c a b = _
        unfold xNpz xupN
        rw [if_neg (by omega)]
        unfold xNpu
        rw [if_neg (by omega)]
theorem xoff_pass (h : a < w ∨ w + 19 ≤ a) : (xPass N w).2 a b = N a b := by
  show xDropN (xPe N w) w a b = _
  have c3 := xcnt_le (xPe N w w 3)
  have c2 := xcnt_le (N w 2)
  unfold xDropN xupN
  rw [if_neg (by omega), xDrop_off _ (by omega)]
  unfold xPe xupN
  rw [if_neg (by omega)]
  unfold xPd xupN
  rw [if_neg (by omega)]
  unfold xPc
  rw [xP2_off _ (by omega) (by omega)]
  unfold xPb xupN
  rw [if_neg (by omega)]
  unfold xPa
  exact xP1_off _ (by omega)
theorem xoff_letN (h : a < w ∨ w + 19 ≤ a) : ∀ n, (xLet N w n).2 a b = N a b := by
  intro n
  induction n with
  | zero => rfl
  | succ n ih =>
    show (xPass (xLet N w n).2 w).2 a b = _
    rw [xoff_pass h]
    exact ih
theorem xoff_let (h : a < w ∨ w + 19 ≤ a) : (xfLet N w x).2 a b = N a b := by
  unfold xfLet
  split
  · rfl
  · split
    · rfl
    · exact xoff_letN h _
theorem xoff_per {k : Nat} (h : a < w ∨ w + 19 ≤ a) : (xfPer N w k x y z).2 a b = N a b := by
  unfold xfPer
  split
  · exact xoff_append h
  · exact xoff_cut h
  · exact xoff_lat h
  · exact xoff_pour h
  · exact xoff_stages h
  · exact xoff_set h
  · exact xoff_rule h
  · exact xoff_pulse h
  · exact xoff_let h
theorem xoff_fc (h : a < 20 ∨ 39 ≤ a) {n : Nat} : xFc N n a b = N a b := by
  unfold xFc
  rw [xoff_letN (by omega)]
  exact xNcopy_off (by omega)
end XFM
