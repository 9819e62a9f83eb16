/-! THE HEAD'S INFLOW OF AN HOUR -/
theorem xloop9 : ∀ n, n ≤ 8 → (xic .ge (Int32.ofNat n) (Int8.ofInt 8).toInt32 = decide (8 ≤ n)) ∧ Int32.ofNat n + Int32.ofInt 1 = Int32.ofNat (n + 1) := by decide
section XHD
variable {K : List (Nat × List Value)} {Z : List Value} {pre g : xH} {B L : Nat} {N : Nat → Nat → Int32} {C : Nat → Nat}
theorem xs_head0 (hB : xBok pre B) {w : Nat} (hw : w ∈ xRbs) (t : Int32) : ∀ k n, n + k = xcnt (N w 3) → xBp K Z 2 4 [] xcX7_headInflowIn (xseek xcX7_headInflowIn 4) [(3, .int (Int32.ofNat n)), (2, .int (xfHeadN N w t n)), (0, .ref (B + w)), (1, .int t)] [] (xHn pre B N C L g) (fun r h' => (∀ v, r = .ok v → xrfit (some .int) v = true) ∧ r = .ok (some (.int (xfHead N w t))) ∧ h' = xHn pre B N C L g) := by
  obtain ⟨k1, -, k1a, k2, -, k5, k3, -, k6⟩ := xrb_river w hw
  have k4 : w < 253 := by omega
  have k4a : w + 2 < 253 := by omega
  have hc8 := xcnt_le (N w 3)
  intro k
  induction k with
  | zero =>
    intro n hn
    have fin : xBp K Z 2 4 [] xcX7_headInflowIn (xseek xcX7_headInflowIn 37) [(3, .int (Int32.ofNat n)), (2, .int (xfHeadN N w t n)), (0, .ref (B + w)), (1, .int t)] [] (xHn pre B N C L g) (fun r h' => (∀ v, r = .ok v → xrfit (some .int) v = true) ∧ r = .ok (some (.int (xfHead N w t))) ∧ h' = xHn pre B N C L g) := by
      refine xp_step rfl ?_
      refine xp_ret rfl ⟨fun v q => by cases q; rfl, ?_, rfl⟩
      unfold xfHead
      rw [show xcnt (N w 3) = n by omega]
    refine xp_step rfl ?_
    refine xp_step rfl ?_
    refine xp_get hB k4 k1 (by decide) (k3 _ (by decide) (by decide)) ?_
    refine xp_if2 rfl (fun _ => fin) (fun q => ?_)
    have q9 : Int32.ofNat n < N w 3 := Int32.not_le.mp (of_decide_eq_false q)
    have h8 : n = 8 := by
      by_cases h : n < 8
      · have := (xcnt_lt n h (N w 3)).mpr q9
        omega
      · omega
    refine xp_step rfl ?_
    refine xp_step rfl ?_
    refine xp_if2 rfl (fun _ => fin) (fun q => ?_)
    rw [(xloop9 n (by omega)).1, h8] at q
    cases q
  | succ k ih =>
    intro n hn
    have hn8 : n < 8 := by omega
    obtain ⟨f1, f2, f3, f4⟩ := xloop8 n hn8
    have hlt := (xcnt_lt n hn8 (N w 3)).mp (by omega)
    have ih := ih (n + 1) (by omega)
    have hr := xs_prate (K := K) (Z := Z) (N := N) (L := L) (C := C) (g := g) hB hw hn8 t
    refine xp_step rfl ?_
    refine xp_step rfl ?_
    refine xp_get hB k4 k1 (by decide) (k3 _ (by decide) (by decide)) ?_
    refine xp_if2 rfl (fun q => absurd hlt (Int32.not_lt.mpr (of_decide_eq_true q))) (fun _ => ?_)
    refine xp_step rfl ?_
    refine xp_step rfl ?_
    refine xp_if2 rfl (fun q => absurd (q.symm.trans f3) (by decide)) (fun _ => ?_)
    refine xp_step rfl ?_
    refine xp_step rfl ?_
    refine xp_ref hB k4 k1 (by decide) k5 ?_
    refine xp_step rfl ?_
    refine xp_aald hB k4a (show xKd (w + 2) = (50 + 4, 8) from k1a) (by decide) f1 (by rw [f2]; exact k6 n hn8) ?_
    refine xp_step rfl ?_
    refine xp_virt (i := w + 11 + n) hB (by omega) (xrb_pulse w hw n hn8).1 rfl (Nat.le_of_ble_eq_true rfl) rfl hr ?_
    refine xp_step rfl ?_
    refine xp_step rfl ?_
    refine xp_step (st1 := []) (loc1 := [(3, .int (Int32.ofNat n + Int32.ofInt 1)), (2, .int (xfHeadN N w t n + xrate N (w + 11 + n) t)), (0, .ref (B + w)), (1, .int t)]) rfl ?_
    refine xp_jump rfl ?_
    rw [f4]
    exact ih
theorem xs_head (hB : xBok pre B) {w : Nat} (hw : w ∈ xRbs) (t : Int32) : xRn K Z 3 41 [.ref (B + w), .int t] (xHn pre B N C L g) (.ok (some (.int (xfHead N w t)))) (xHn pre B N C L g) := by
  refine xRp_eq (xRp_of (m := (yX7_headInflowIn, cX7_headInflowIn, 4, some .int, [], [], xcX7_headInflowIn)) rfl (by show 2 ≤ 4; decide) ?_)
  show xBp K Z 2 4 [] xcX7_headInflowIn xcX7_headInflowIn [(0, .ref (B + w)), (1, .int t)] [] _ _
  refine xp_step rfl ?_
  refine xp_step rfl ?_
  refine xp_step rfl ?_
  refine xp_step rfl ?_
  exact xs_head0 hB hw t (xcnt (N w 3)) 0 (by omega)
end XHD
