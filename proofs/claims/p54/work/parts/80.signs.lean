/-! THE RULES' SIGNS STAY SIGNS, in the rows that do not count too -/
section XRS8
variable {N M : Nat → Nat → Int32} {w : Nat} {x y z f s p c : Int32}
theorem xrul_append (h : xrul N w) : xrul (xfAppend N w s p c).2 w := by
  unfold xfAppend
  split
  · exact h
  · split
    · exact h
    · intro r hr
      show 0 ≤ xNap N w s p c (w + 3 + r) 8 ∧ xNap N w s p c (w + 3 + r) 8 ≤ 65535
      unfold xNap xupN
      rw [if_neg (by omega)]
      unfold xNbeg
      split
      · exact (show (0 : Int32) ≤ 102 ∧ (102 : Int32) ≤ 65535 by decide)
      · exact h r hr
theorem xrul_cut (h : xrul N w) : xrul (xfCut N w).2 w := by
  unfold xfCut
  split
  · exact h
  · refine xrul_off (fun r hr => ?_) h
    show xNcut N w _ (w + 3 + r) 8 = _
    unfold xNcut xupN
    rw [if_neg (by omega), if_neg (by omega)]
theorem xrul_lat (h : xrul N w) : xrul (xfLat N w x f).2 w := by
  unfold xfLat
  split
  · exact h
  · split
    · exact h
    · split
      · exact h
      · refine xrul_off (fun r hr => ?_) h
        show xupN N _ 3 f (w + 3 + r) 8 = _
        unfold xupN
        rw [if_neg (by omega)]
theorem xrul_set (h : xrul N w) : xrul (xfSet N w x f).2 w := by
  unfold xfSet
  split
  · exact h
  · split
    · exact h
    · split
      · exact h
      · refine xrul_off (fun r hr => ?_) h
        show xupN N _ 7 f (w + 3 + r) 8 = _
        unfold xupN
        rw [if_neg (by omega)]
theorem xrul_pour (h : xrul N w) : xrul (xfPour N w x f).2 w := by
  unfold xfPour
  split
  · exact h
  · split
    · exact h
    · refine xrul_off (fun r hr => ?_) h
      show xNpour N w _ f (w + 3 + r) 8 = _
      unfold xNpour xupN
      rw [if_neg (by omega), if_neg (by omega)]
theorem xrul_stages (h : xrul N w) : xrul (xfStages N w x y f).2 w := by
  unfold xfStages
  split
  · exact h
  · split
    · exact h
    · refine xrul_off (fun r hr => ?_) h
      show xNst N _ y f (w + 3 + r) 8 = _
      unfold xNst xupN
      rw [if_neg (by omega), if_neg (by omega)]
theorem xrul_rule (h : xrul N w) : xrul (xfRule N w x f).2 w := by
  unfold xfRule
  split
  · exact h
  · split
    · exact h
    · rename_i hf
      split
      · exact h
      · intro r hr
        show 0 ≤ xupN N _ 8 f (w + 3 + r) 8 ∧ xupN N _ 8 f (w + 3 + r) 8 ≤ 65535
        unfold xupN
        split
        · rcases xrule_or (f := f) (by simpa using hf) with rfl | rfl | rfl <;> exact ⟨by decide, by decide⟩
        · exact h r hr
theorem xrul_pulse (h : xrul N w) : xrul (xfPulse N w s p c).2 w := by
  unfold xfPulse
  split
  · exact h
  · split
    · exact h
    · split
      · exact h
      · refine xrul_off (fun r hr => ?_) h
        show xNpz N w s p c (w + 3 + r) 8 = _
        unfold xNpz xupN
        rw [if_neg (by omega)]
        unfold xNpu
        rw [if_neg (by omega)]
theorem xrul_letN (h : xrul N w) : ∀ n, xrul (xLet N w n).2 w := by
  intro n
  induction n with
  | zero => exact h
  | succ n ih => exact xrul_off (fun r hr => xpass_row hr (by decide) (by decide)) ih
theorem xrul_let (h : xrul N w) : xrul (xfLet N w x).2 w := by
  unfold xfLet
  split
  · exact h
  · split
    · exact h
    · exact xrul_letN h _
theorem xrul_per {k : Nat} (h : xrul N w) : xrul (xfPer N w k x y z).2 w := by
  unfold xfPer
  split
  · exact xrul_append h
  · exact xrul_cut h
  · exact xrul_lat h
  · exact xrul_pour h
  · exact xrul_stages h
  · exact xrul_set h
  · exact xrul_rule h
  · exact xrul_pulse h
  · exact xrul_let h
/-- all rivers' signs -/
def xRul (N : Nat → Nat → Int32) : Prop := ∀ w ∈ xRbs, xrul N w
theorem xRul_off (h : xRul N) {u : Nat} (hu : u ∈ xRbs) (hM : ∀ a b, (a < u ∨ u + 19 ≤ a) → M a b = N a b) (hw : xrul M u) : xRul M := by
  intro v hv
  by_cases e : v = u
  · rw [e]; exact hw
  · have := xrb_apart v hv u hu e
    exact xrul_off (fun r hr => hM _ _ (by omega)) (h v hv)
theorem xRul_copy (h : xRul N) {u v : Nat} (hu : u ∈ xRbs) (hv : v ∈ xRbs) : xRul (xNcopy N u v) := by
  refine xRul_off h hu (fun a b hab => xNcopy_off hab) (fun r hr => ?_)
  have e := (xSm_copy (N := N) (w := u) (v := v)).2.1 r 8 hr (by decide)
  rw [e]
  exact h v hv r hr
end XRS8
