/-! A RIVER IS COPIED -/
theorem xrb_apart : ∀ w ∈ xRbs, ∀ w' ∈ xRbs, w ≠ w' → w + 19 ≤ w' ∨ w' + 19 ≤ w := by decide
/-- the first n reaches copied -/
def xNcr (N : Nat → Nat → Int32) (w w' n : Nat) : Nat → Nat → Int32 := fun a b => if (w + 3 ≤ a ∧ a < w + 3 + n) ∧ b < 9 then N (a - w + w') b else N a b
/-- the first n pulses copied -/
def xNcq (N : Nat → Nat → Int32) (w w' n : Nat) : Nat → Nat → Int32 := fun a b => if (w + 11 ≤ a ∧ a < w + 11 + n) ∧ b < 3 then N (a - w + w') b else N a b
/-- a river copied: its reaches' first nine numbers, its pulses, its own numbers -/
def xNcopy (N : Nat → Nat → Int32) (w w' : Nat) : Nat → Nat → Int32 := fun a b => if (a = w ∧ 2 ≤ b ∧ b < 8) ∨ ((w + 3 ≤ a ∧ a < w + 11) ∧ b < 9) ∨ ((w + 11 ≤ a ∧ a < w + 19) ∧ b < 3) then N (a - w + w') b else N a b
theorem xloop8 : ∀ n, n < 8 → xin (Int32.ofNat n) 8 = true ∧ (Int32.ofNat n).toNatClampNeg = n ∧ xic .ge (Int32.ofNat n) (Int8.ofInt 8).toInt32 = false ∧ Int32.ofNat n + Int32.ofInt 1 = Int32.ofNat (n + 1) := by decide
theorem xNcr_succ {N : Nat → Nat → Int32} {w w' n : Nat} (hw : w ∈ xRbs) (hw' : w' ∈ xRbs) (hne : w ≠ w') (hn : n < 8) : xNcp (xNcr N w w' n) 9 (w + 3 + n) (w' + 3 + n) = xNcr N w w' (n + 1) := by
  have hap := xrb_apart w hw w' hw' hne
  funext a b
  unfold xNcp xNcr
  by_cases ha : a = w + 3 + n ∧ b < 9
  · rw [if_pos ha, if_neg (by omega), if_pos (by omega)]
    congr 1
    omega
  · rw [if_neg ha]
    by_cases h2 : (w + 3 ≤ a ∧ a < w + 3 + n) ∧ b < 9
    · rw [if_pos h2, if_pos (by omega)]
    · rw [if_neg h2, if_neg (by omega)]
theorem xNcq_succ {N : Nat → Nat → Int32} {w w' n : Nat} (hw : w ∈ xRbs) (hw' : w' ∈ xRbs) (hne : w ≠ w') (hn : n < 8) : xNpu (xNcq N w w' n) (w + 11 + n) (xNcq N w w' n (w' + 11 + n) 0) (xNcq N w w' n (w' + 11 + n) 1) (xNcq N w w' n (w' + 11 + n) 2) = xNcq N w w' (n + 1) := by
  have hap := xrb_apart w hw w' hw' hne
  have hz : ∀ b, xNcq N w w' n (w' + 11 + n) b = N (w' + 11 + n) b := fun b => by unfold xNcq; rw [if_neg (by omega)]
  rw [hz, hz, hz]
  funext a b
  unfold xNpu xNcq
  by_cases ha : a = w + 11 + n
  · subst ha
    rw [if_pos rfl]
    have e : w + 11 + n - w + w' = w' + 11 + n := by omega
    rw [e]
    rcases b with _ | _ | _ | b
    · exact (if_pos ⟨⟨by omega, by omega⟩, by decide⟩).symm
    · exact (if_pos ⟨⟨by omega, by omega⟩, by decide⟩).symm
    · exact (if_pos ⟨⟨by omega, by omega⟩, by decide⟩).symm
    · exact (if_neg (by omega)).trans (if_neg (by omega)).symm
  · rw [if_neg ha]
    by_cases h2 : (w + 11 ≤ a ∧ a < w + 11 + n) ∧ b < 3
    · rw [if_pos h2, if_pos (by omega)]
    · rw [if_neg h2, if_neg (by omega)]
section XCP
variable {K : List (Nat × List Value)} {Z : List Value} {pre g : xH} {B L : Nat} {N : Nat → Nat → Int32} {C : Nat → Nat} {P : xA → xH → Prop}
theorem xs_copy1 (hB : xBok pre B) {w w' : Nat} (hw : w ∈ xRbs) (hw' : w' ∈ xRbs) (hne : w ≠ w') (hch : ∀ r, r < 8 → 0 ≤ N (w' + 3 + r) 8 ∧ N (w' + 3 + r) 8 ≤ 65535)
    (kk : xBp K Z 1 4 [] xcX7_copyFrom (xseek xcX7_copyFrom 29) [(2, .int 8), (0, .ref (B + w)), (1, .ref (B + w'))] [] (xHn pre B (xNcr N w w' 8) C L g) P) :
    ∀ k n, n + k = 8 → xBp K Z 1 4 [] xcX7_copyFrom (xseek xcX7_copyFrom 2) [(2, .int (Int32.ofNat n)), (0, .ref (B + w)), (1, .ref (B + w'))] [] (xHn pre B (xNcr N w w' n) C L g) P := by
  obtain ⟨k1, k1a, -, k2, k5, -, -, k6, -⟩ := xrb_river w hw
  obtain ⟨l1, l1a, -, l2, l5, -, -, l6, -⟩ := xrb_river w' hw'
  have hap := xrb_apart w hw w' hw' hne
  intro k
  induction k with
  | zero =>
    intro n hn
    obtain rfl : n = 8 := by omega
    refine xp_step rfl ?_
    refine xp_step rfl ?_
    refine xp_if2 rfl (fun q => ?_) (fun q => ?_)
    · exact kk
    · exact absurd q (by decide)
  | succ k ih =>
    intro n hn
    obtain ⟨f1, f2, f3, f4⟩ := xloop8 n (by omega)
    have ih := ih (n + 1) (by omega)
    refine xp_step rfl ?_
    refine xp_step rfl ?_
    refine xp_if2 rfl (fun q => absurd (q.symm.trans f3) (by decide)) (fun q => ?_)
    refine xp_step rfl ?_
    refine xp_ref hB (by omega) k1 (by decide) k5 ?_
    refine xp_step rfl ?_
    refine xp_aald hB (by omega) (show xKd (w + 1) = (50 + 5, 8) from k1a) (by decide) f1 (by rw [f2]; exact k6 n (by omega)) ?_
    refine xp_step rfl ?_
    refine xp_ref hB (by omega) l1 (by decide) l5 ?_
    refine xp_step rfl ?_
    refine xp_aald hB (by omega) (show xKd (w' + 1) = (50 + 5, 8) from l1a) (by decide) f1 (by rw [f2]; exact l6 n (by omega)) ?_
    have hcp := xs_rcopy (K := K) (Z := Z) (L := L) (C := C) (g := g) (N := xNcr N w w' n) hB hw hw' (show n < 8 by omega) hne (by
      have e : xNcr N w w' n (w' + 3 + n) 8 = N (w' + 3 + n) 8 := by unfold xNcr; rw [if_neg (by omega)]
      rw [e]
      exact hch n (by omega))
    rw [xNcr_succ hw hw' hne (by omega)] at hcp
    refine xp_virt (i := w + 3 + n) hB (by omega) (xrb_reach w hw n (by omega)).1 rfl (Nat.le_of_ble_eq_true rfl) rfl hcp ?_
    refine xp_step (st1 := []) (loc1 := [(2, .int (Int32.ofNat n + Int32.ofInt 1)), (0, .ref (B + w)), (1, .ref (B + w'))]) rfl ?_
    refine xp_jump rfl ?_
    rw [f4]
    exact ih
theorem xs_copy2 (hB : xBok pre B) {w w' : Nat} (hw : w ∈ xRbs) (hw' : w' ∈ xRbs) (hne : w ≠ w')
    (kk : ∀ l3 : xL, (l3 = [] ∨ ∃ q, l3 = [(3, .ref q)]) → xBp K Z 1 4 [] xcX7_copyFrom (xseek xcX7_copyFrom 71) ((2, .int 8) :: (l3 ++ [(0, .ref (B + w)), (1, .ref (B + w'))])) [] (xHn pre B (xNcq N w w' 8) C L g) P) :
    ∀ k n (l3 : xL), n + k = 8 → (l3 = [] ∨ ∃ q, l3 = [(3, .ref q)]) → xBp K Z 1 4 [] xcX7_copyFrom (xseek xcX7_copyFrom 31) ((2, .int (Int32.ofNat n)) :: (l3 ++ [(0, .ref (B + w)), (1, .ref (B + w'))])) [] (xHn pre B (xNcq N w w' n) C L g) P := by
  obtain ⟨k1, -, k1a, k2, -, k5, -, -, k6⟩ := xrb_river w hw
  obtain ⟨l1, -, l1a, l2, -, l5, -, -, l6⟩ := xrb_river w' hw'
  have hap := xrb_apart w hw w' hw' hne
  intro k
  induction k with
  | zero =>
    intro n l3 hn hl3
    obtain rfl : n = 8 := by omega
    refine xp_step rfl ?_
    refine xp_step rfl ?_
    refine xp_if2 rfl (fun q => ?_) (fun q => ?_)
    · exact kk l3 hl3
    · exact absurd q (by decide)
  | succ k ih =>
    intro n l3 hn hl3
    obtain ⟨f1, f2, f3, f4⟩ := xloop8 n (by omega)
    have ih := ih (n + 1) [(3, .ref (B + (w' + 11 + n)))] (by omega) (Or.inr ⟨_, rfl⟩)
    obtain ⟨p1, p2, p3⟩ := xrb_pulse w' hw' n (by omega)
    have hcp := xs_pbegin (K := K) (Z := Z) (L := L) (C := C) (g := g) (N := xNcq N w w' n) hB hw (show n < 8 by omega) (xNcq N w w' n (w' + 11 + n) 0) (xNcq N w w' n (w' + 11 + n) 1) (xNcq N w w' n (w' + 11 + n) 2)
    rw [xNcq_succ hw hw' hne (by omega)] at hcp
    rcases hl3 with rfl | ⟨q0, rfl⟩
    all_goals
      refine xp_step rfl ?_
      refine xp_step rfl ?_
      refine xp_if2 rfl (fun q => absurd (q.symm.trans f3) (by decide)) (fun q => ?_)
      refine xp_step rfl ?_
      refine xp_ref hB (by omega) l1 (by decide) l5 ?_
      refine xp_step rfl ?_
      refine xp_aald hB (by omega) (show xKd (w' + 2) = (50 + 4, 8) from l1a) (by decide) f1 (by rw [f2]; exact l6 n (by omega)) ?_
      refine xp_step rfl ?_
      refine xp_step rfl ?_
      refine xp_ref hB (by omega) k1 (by decide) k5 ?_
      refine xp_step rfl ?_
      refine xp_aald hB (by omega) (show xKd (w + 2) = (50 + 4, 8) from k1a) (by decide) f1 (by rw [f2]; exact k6 n (by omega)) ?_
      refine xp_step rfl ?_
      refine xp_get hB p2 p1 (by decide) (p3 _ (by decide)) ?_
      refine xp_step rfl ?_
      refine xp_get hB p2 p1 (by decide) (p3 _ (by decide)) ?_
      refine xp_step rfl ?_
      refine xp_get hB p2 p1 (by decide) (p3 _ (by decide)) ?_
      refine xp_virt (i := w + 11 + n) hB (by omega) (xrb_pulse w hw n (by omega)).1 rfl (Nat.le_of_ble_eq_true rfl) rfl hcp ?_
      refine xp_step (st1 := []) (loc1 := (2, .int (Int32.ofNat n + Int32.ofInt 1)) :: ([(3, .ref (B + (w' + 11 + n)))] ++ [(0, .ref (B + w)), (1, .ref (B + w'))])) rfl ?_
      refine xp_jump rfl ?_
      rw [f4]
      exact ih
/-- copyFrom -/
theorem xs_copy (hB : xBok pre B) {w w' : Nat} (hw : w ∈ xRbs) (hw' : w' ∈ xRbs) (hne : w ≠ w') (hch : ∀ r, r < 8 → 0 ≤ N (w' + 3 + r) 8 ∧ N (w' + 3 + r) 8 ≤ 65535) : xRn K Z 2 22 [.ref (B + w), .ref (B + w')] (xHn pre B N C L g) (.ok none) (xHn pre B (xNcopy N w w') C L g) := by
  obtain ⟨k1, -, -, k2, -, -, k3, -, -⟩ := xrb_river w hw
  obtain ⟨l1, -, -, l2, -, -, l3, -, -⟩ := xrb_river w' hw'
  have hap := xrb_apart w hw w' hw' hne
  have hk : w < 253 := by omega
  have hl : w' < 253 := by omega
  refine xRp_eq (xRp_of (m := (yX7_copyFrom, cX7_copyFrom, 4, none, [], [], xcX7_copyFrom)) rfl (by show 2 ≤ 4; decide) ?_)
  show xBp K Z 1 4 [] xcX7_copyFrom xcX7_copyFrom [(0, .ref (B + w)), (1, .ref (B + w'))] [] _ _
  refine xp_step rfl ?_
  refine xp_step rfl ?_
  have z0 : xNcr N w w' 0 = N := by
    funext a b
    unfold xNcr
    rw [if_neg (by omega)]
  have key := xs_copy1 (K := K) (Z := Z) (L := L) (C := C) (g := g) (N := N) (P := fun r h' => (∀ v, r = .ok v → xrfit none v = true) ∧ r = .ok none ∧ h' = xHn pre B (xNcopy N w w') C L g) hB hw hw' hne hch ?_ 8 0 rfl
  · rw [z0] at key
    exact key
  refine xp_step rfl ?_
  refine xp_step rfl ?_
  have z1 : xNcq (xNcr N w w' 8) w w' 0 = xNcr N w w' 8 := by
    funext a b
    unfold xNcq
    rw [if_neg (by omega)]
  have key := xs_copy2 (K := K) (Z := Z) (L := L) (C := C) (g := g) (N := xNcr N w w' 8) (P := fun r h' => (∀ v, r = .ok v → xrfit none v = true) ∧ r = .ok none ∧ h' = xHn pre B (xNcopy N w w') C L g) hB hw hw' hne ?_ 8 0 [] rfl (Or.inl rfl)
  · rw [z1] at key
    exact key
  have hww : w - w + w' = w' := by omega
  have hv : ∀ b, xNcq (xNcr N w w' 8) w w' 8 w' b = N w' b := fun b => by
    unfold xNcq
    rw [if_neg (by omega)]
    unfold xNcr
    rw [if_neg (by omega)]
  have hv2 : ∀ b, xNcq (xNcr N w w' 8) w w' 8 w b = N w b := fun b => by
    unfold xNcq
    rw [if_neg (by omega)]
    unfold xNcr
    rw [if_neg (by omega)]
  intro l3' hl3'
  rcases hl3' with rfl | ⟨q0, rfl⟩
  all_goals
    repeat' (first
      | refine xp_put hB hk k1 (by decide) (k3 _ (by decide) (by decide)) rfl ?_
      | refine xp_get hB hl l1 (by decide) (l3 _ (by decide) (by decide)) ?_
      | refine xp_ret rfl ?_
      | refine xp_step rfl ?_)
    refine ⟨fun v q => by cases q; rfl, rfl, congrArg (fun n => xHn pre B n C L g) ?_⟩
    funext a b
    unfold xNcopy
    by_cases ha : a = w
    · rw [ha]
      rcases b with _ | _ | _ | _ | _ | _ | _ | _ | b
      all_goals first
        | (rw [if_pos (by omega), hww]; simp [xupN, hv, hv2, hne, hne.symm]; done)
        | (rw [if_neg (by omega)]; simp [xupN, hv, hv2])
    · simp only [xupN, ha, false_and, if_false, false_or]
      unfold xNcq xNcr
      by_cases h1 : (w + 11 ≤ a ∧ a < w + 11 + 8) ∧ b < 3
      · rw [if_pos h1, if_neg (by omega), if_pos (by omega)]
      · rw [if_neg h1]
        by_cases h2 : (w + 3 ≤ a ∧ a < w + 3 + 8) ∧ b < 9
        · rw [if_pos h2, if_pos (by omega)]
        · rw [if_neg h2, if_neg (by omega)]
end XCP
