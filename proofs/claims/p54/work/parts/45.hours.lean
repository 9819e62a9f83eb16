/-! THE HOURS PASS -/
/-- the first loop of an hour: status and outflow of the first n reaches are put down -/
def xP1s (M : Nat → Nat → Int32) (w n : Nat) : Nat → Nat → Int32 := xupN (xupN M (w + 3 + n) 9 (xsta M (w + 3 + n))) (w + 3 + n) 10 (xfOut (xupN M (w + 3 + n) 9 (xsta M (w + 3 + n))) w (Int32.ofNat n))
def xP1 (N : Nat → Nat → Int32) (w : Nat) : Nat → (Nat → Nat → Int32)
  | 0 => N
  | n + 1 => xP1s (xP1 N w n) w n
/-- the second loop: what is arriving, the numbers -/
def xP2a (M : Nat → Nat → Int32) (w i : Nat) (a : Int32) : Nat → Nat → Int32 := xupN M i 4 (M i 4 + (a + M i 3 - M i 10))
def xP2b (M : Nat → Nat → Int32) (w i : Nat) : Nat → Nat → Int32 := xupN M w 5 (M w 5 + M i 3)
def xP2c (M : Nat → Nat → Int32) (w i : Nat) : Nat → Nat → Int32 := if M i 9 < xsta M i then xupN M w 7 (M w 7 + 1) else M
def xP2s (M : Nat → Nat → Int32) (w i : Nat) (a : Int32) : Nat → Nat → Int32 := xP2c (xP2b (xP2a M w i a) w i) w i
def xP2 (w : Nat) (a : Int32) (M : Nat → Nat → Int32) : Nat → Int32 × (Nat → Nat → Int32)
  | 0 => (a, M)
  | n + 1 => (xP2s (xP2 w a M n).2 w (w + 3 + n) (xP2 w a M n).1 (w + 3 + n) 10, xP2s (xP2 w a M n).2 w (w + 3 + n) (xP2 w a M n).1)
/-- the pulses that are not over at t: how many of the first n, the numbers -/
def xDrop (N : Nat → Nat → Int32) (w : Nat) (t : Int32) : Nat → Nat × (Nat → Nat → Int32)
  | 0 => (0, N)
  | n + 1 => if t < (xDrop N w t n).2 (w + 11 + n) 0 + (xDrop N w t n).2 (w + 11 + n) 1 then ((xDrop N w t n).1 + 1, xNpu (xDrop N w t n).2 (w + 11 + (xDrop N w t n).1) ((xDrop N w t n).2 (w + 11 + n) 0) ((xDrop N w t n).2 (w + 11 + n) 1) ((xDrop N w t n).2 (w + 11 + n) 2)) else xDrop N w t n
def xDropN (N : Nat → Nat → Int32) (w : Nat) : Nat → Nat → Int32 := xupN (xDrop N w (N w 4) (xcnt (N w 3))).2 w 3 (Int32.ofNat (xDrop N w (N w 4) (xcnt (N w 3))).1)
def xPa (N : Nat → Nat → Int32) (w : Nat) : Nat → Nat → Int32 := xP1 N w (xcnt (N w 2))
def xPh (N : Nat → Nat → Int32) (w : Nat) : Int32 := xfHead (xPa N w) w (xPa N w w 4)
def xPb (N : Nat → Nat → Int32) (w : Nat) : Nat → Nat → Int32 := xupN (xPa N w) w 5 (xPa N w w 5 + xPh N w)
def xPc (N : Nat → Nat → Int32) (w : Nat) : Int32 × (Nat → Nat → Int32) := xP2 w (xPh N w) (xPb N w) (xcnt (N w 2))
def xPd (N : Nat → Nat → Int32) (w : Nat) : Nat → Nat → Int32 := xupN (xPc N w).2 w 6 ((xPc N w).2 w 6 + (xPc N w).1)
def xPe (N : Nat → Nat → Int32) (w : Nat) : Nat → Nat → Int32 := xupN (xPd N w) w 4 (xPd N w w 4 + 1)
/-- an hour: what flows out of the last reach, the numbers -/
def xPass (N : Nat → Nat → Int32) (w : Nat) : Int32 × (Nat → Nat → Int32) := ((xPc N w).1, xDropN (xPe N w) w)
theorem xP1_off {N : Nat → Nat → Int32} {w a b : Nat} : ∀ n, (b < 9 ∨ a < w + 3 ∨ w + 3 + n ≤ a) → xP1 N w n a b = N a b := by
  intro n
  induction n with
  | zero => intro _; rfl
  | succ n ih =>
    intro h
    have ih := ih (by omega)
    show xP1s (xP1 N w n) w n a b = _
    unfold xP1s xupN
    rw [if_neg (by omega), if_neg (by omega)]
    exact ih
theorem xP2s_off {M : Nat → Nat → Int32} {w i a b : Nat} {x : Int32} (h1 : ¬ (a = i ∧ b = 4)) (h2 : ¬ (a = w ∧ b = 5)) (h3 : ¬ (a = w ∧ b = 7)) : xP2s M w i x a b = M a b := by
  unfold xP2s xP2c
  have e : xP2b (xP2a M w i x) w i a b = M a b := by
    unfold xP2b xP2a xupN
    rw [if_neg h2, if_neg h1]
  split
  · unfold xupN
    rw [if_neg h3]
    exact e
  · exact e
theorem xP2_off {M : Nat → Nat → Int32} {w a b : Nat} {x : Int32} : ∀ n, (b ≠ 4 ∨ a < w + 3 ∨ w + 3 + n ≤ a) → (a ≠ w ∨ (b ≠ 5 ∧ b ≠ 7)) → (xP2 w x M n).2 a b = M a b := by
  intro n
  induction n with
  | zero => intro _ _; rfl
  | succ n ih =>
    intro h h2
    have ih := ih (by omega) h2
    show xP2s (xP2 w x M n).2 w (w + 3 + n) (xP2 w x M n).1 a b = _
    rw [xP2s_off (by omega) (by omega) (by omega)]
    exact ih
theorem xDrop_le {N : Nat → Nat → Int32} {w : Nat} {t : Int32} : ∀ n, (xDrop N w t n).1 ≤ n := by
  intro n
  induction n with
  | zero => exact Nat.le_refl _
  | succ n ih =>
    rw [xDrop]
    split
    · exact Nat.succ_le_succ ih
    · omega
theorem xDrop_off {N : Nat → Nat → Int32} {w a b : Nat} {t : Int32} : ∀ n, (a < w + 11 ∨ w + 11 + n ≤ a ∨ 3 ≤ b) → (xDrop N w t n).2 a b = N a b := by
  intro n
  induction n with
  | zero => intro _; rfl
  | succ n ih =>
    intro h
    have ih := ih (by omega)
    have hle := xDrop_le (N := N) (w := w) (t := t) n
    rw [xDrop]
    split
    · show xNpu _ _ _ _ _ a b = _
      unfold xNpu
      split
      · rcases b with _ | _ | _ | b
        · omega
        · omega
        · omega
        · exact ih
      · exact ih
    · exact ih
theorem xhas_n {M : Nat → Nat → Int32} {w n : Nat} (hn : n < 8) (h : Int32.ofNat n < M w 2) : xhas M w (Int32.ofNat n) = true := by
  have h0 : (0 : Int32) ≤ Int32.ofNat n ∧ Int32.ofNat n < 8 := by
    have := (show ∀ n, n < 8 → (0 : Int32) ≤ Int32.ofNat n ∧ Int32.ofNat n < 8 by decide) n hn
    exact this
  unfold xhas
  rw [decide_eq_true h0.1, decide_eq_true h, decide_eq_true h0.2]
  rfl
section XPS
variable {K : List (Nat × List Value)} {Z : List Value} {pre g : xH} {B L : Nat} {N : Nat → Nat → Int32} {C : Nat → Nat}
theorem xs_drop0 (hB : xBok pre B) {w : Nat} (hw : w ∈ xRbs) {P : xA → xH → Prop} (kk : xBp K Z 1 4 [] xcX7_dropPassedPulses (xseek xcX7_dropPassedPulses 66) [(2, .int (Int32.ofNat (xcnt (N w 3)))), (1, .int (Int32.ofNat (xDrop N w (N w 4) (xcnt (N w 3))).1)), (0, .ref (B + w))] [] (xHn pre B ((xDrop N w (N w 4) (xcnt (N w 3))).2) C L g) P) : ∀ k n, n + k = xcnt (N w 3) → xBp K Z 1 4 [] xcX7_dropPassedPulses (xseek xcX7_dropPassedPulses 4) [(2, .int (Int32.ofNat n)), (1, .int (Int32.ofNat (xDrop N w (N w 4) n).1)), (0, .ref (B + w))] [] (xHn pre B ((xDrop N w (N w 4) n).2) C L g) P := by
  have hrv := xrb_river w hw
  have hwl := hrv.2.2.2.1
  have hc8 := xcnt_le (N w 3)
  have hcn : ∀ n, (xDrop N w (N w 4) n).2 w 3 = N w 3 := fun n => xDrop_off n (by omega)
  have ht : ∀ n, (xDrop N w (N w 4) n).2 w 4 = N w 4 := fun n => xDrop_off n (by omega)
  intro k
  induction k with
  | zero =>
    intro n hn
    have hn0 : xcnt (N w 3) = n := by omega
    have fin := kk
    rw [hn0] at fin
    refine xp_step rfl ?_
    refine xp_step rfl ?_
    refine xp_get hB (by omega) hrv.1 (by decide) (hrv.2.2.2.2.2.2.1 _ (by decide) (by decide)) ?_
    refine xp_if2 rfl (fun _ => fin) (fun q => ?_)
    rw [hcn] at q
    have q9 : Int32.ofNat n < N w 3 := Int32.not_le.mp (of_decide_eq_false q)
    have h8 : n = 8 := by
      by_cases h : n < 8
      · have := (xcnt_lt n h (N w 3)).mpr q9
        omega
      · omega
    refine xp_step rfl ?_
    refine xp_step rfl ?_
    refine xp_if2 rfl (fun _ => fin) (fun q => ?_)
    rw [(xloop9 n (by omega)).1, h8] at q
    cases q
  | succ k ih =>
    intro n hn
    have hn8 : n < 8 := by omega
    obtain ⟨f1, f2, f3, f4⟩ := xloop8 n hn8
    have hlt := (xcnt_lt n hn8 (N w 3)).mp (by omega)
    have ih := ih (n + 1) (by omega)
    have hk8 : (xDrop N w (N w 4) n).1 < 8 := Nat.lt_of_le_of_lt (xDrop_le n) hn8
    obtain ⟨k1, k2, -, k4⟩ := xloop8 _ hk8
    refine xp_step rfl ?_
    refine xp_step rfl ?_
    refine xp_get hB (by omega) hrv.1 (by decide) (hrv.2.2.2.2.2.2.1 _ (by decide) (by decide)) ?_
    rw [hcn]
    refine xp_if2 rfl (fun q => absurd hlt (Int32.not_lt.mpr (of_decide_eq_true q))) (fun _ => ?_)
    refine xp_step rfl ?_
    refine xp_step rfl ?_
    refine xp_if2 rfl (fun q => absurd (q.symm.trans f3) (by decide)) (fun _ => ?_)
    refine xp_step rfl ?_
    refine xp_ref hB (by omega) hrv.1 (by decide) hrv.2.2.2.2.2.1 ?_
    refine xp_step rfl ?_
    refine xp_aald hB (by omega) (show xKd (w + 2) = (50 + 4, 8) from hrv.2.2.1) (by decide) f1 (by rw [f2]; exact hrv.2.2.2.2.2.2.2.2 _ hn8) ?_
    refine xp_step rfl ?_
    refine xp_step rfl ?_
    refine xp_virt (i := w + 11 + n) hB (by first | decide | omega) (xrb_pulse w hw n hn8).1 rfl (Nat.le_of_ble_eq_true rfl) rfl (xR_up (by decide) (xs_pend hB hw hn8)) ?_
    refine xp_step rfl ?_
    refine xp_get hB (by omega) hrv.1 (by decide) (hrv.2.2.2.2.2.2.1 _ (by decide) (by decide)) ?_
    refine xp_if2 rfl (fun q1 => ?_) (fun q1 => ?_)
    · skip
      refine xp_step rfl ?_
      refine xp_jump rfl ?_
      rw [ht] at q1
      have e9 : xDrop N w (N w 4) (n + 1) = xDrop N w (N w 4) n := by
        rw [xDrop]
        exact if_neg (Int32.not_lt.mpr (of_decide_eq_true q1))
      rw [e9] at ih
      rw [f4]
      refine xp_weak ?_ ih
      exact xLe_cons rfl (xLe_cons rfl (xLe_cons rfl xLe_nil))
    · skip
      refine xp_step rfl ?_
      refine xp_ref hB (by omega) hrv.1 (by decide) hrv.2.2.2.2.2.1 ?_
      refine xp_step rfl ?_
      refine xp_aald hB (by omega) (show xKd (w + 2) = (50 + 4, 8) from hrv.2.2.1) (by decide) k1 (by rw [k2]; exact hrv.2.2.2.2.2.2.2.2 _ hk8) ?_
      refine xp_step rfl ?_
      refine xp_get hB (xrb_pulse w hw n hn8).2.1 (xrb_pulse w hw n hn8).1 (by decide) ((xrb_pulse w hw n hn8).2.2 _ (by decide)) ?_
      refine xp_step rfl ?_
      refine xp_get hB (xrb_pulse w hw n hn8).2.1 (xrb_pulse w hw n hn8).1 (by decide) ((xrb_pulse w hw n hn8).2.2 _ (by decide)) ?_
      refine xp_step rfl ?_
      refine xp_get hB (xrb_pulse w hw n hn8).2.1 (xrb_pulse w hw n hn8).1 (by decide) ((xrb_pulse w hw n hn8).2.2 _ (by decide)) ?_
      refine xp_virt (i := w + 11 + (xDrop N w (N w 4) n).1) hB (by first | decide | omega) (xrb_pulse w hw _ hk8).1 rfl (Nat.le_of_ble_eq_true rfl) rfl (xR_up (by decide) (xs_pbegin hB hw hk8 _ _ _)) ?_
      refine xp_step rfl ?_
      refine xp_step rfl ?_
      refine xp_jump rfl ?_
      rw [ht] at q1
      have e9 : xDrop N w (N w 4) (n + 1) = ((xDrop N w (N w 4) n).1 + 1, xNpu (xDrop N w (N w 4) n).2 (w + 11 + (xDrop N w (N w 4) n).1) ((xDrop N w (N w 4) n).2 (w + 11 + n) 0) ((xDrop N w (N w 4) n).2 (w + 11 + n) 1) ((xDrop N w (N w 4) n).2 (w + 11 + n) 2)) := by
        rw [xDrop]
        exact if_pos (Int32.not_le.mp (of_decide_eq_false q1))
      rw [e9] at ih
      rw [f4]
      rw [k4]
      refine xp_weak ?_ ih
      exact xLe_cons rfl (xLe_cons rfl (xLe_cons rfl xLe_nil))
theorem xs_drop (hB : xBok pre B) {w : Nat} (hw : w ∈ xRbs) : xRn K Z 2 37 [.ref (B + w)] (xHn pre B N C L g) (.ok none) (xHn pre B (xDropN N w) C L g) := by
  have hrv := xrb_river w hw
  have hwl := hrv.2.2.2.1
  refine xRp_eq (xRp_of (m := (yX7_dropPassedPulses, cX7_dropPassedPulses, 4, none, [], [], xcX7_dropPassedPulses)) rfl (by show 1 ≤ 4; decide) ?_)
  show xBp K Z 1 4 [] xcX7_dropPassedPulses xcX7_dropPassedPulses [(0, .ref (B + w))] [] _ _
  refine xp_step rfl ?_
  refine xp_step rfl ?_
  refine xp_step rfl ?_
  refine xp_step rfl ?_
  refine xs_drop0 hB hw ?_ (xcnt (N w 3)) 0 (by omega)
  refine xp_step rfl ?_
  refine xp_step rfl ?_
  refine xp_put hB (by omega) hrv.1 (by decide) (hrv.2.2.2.2.2.2.1 _ (by decide) (by decide)) rfl ?_
  exact xp_ret rfl ⟨fun v q => by cases q; rfl, rfl, rfl⟩
theorem xs_pass1 (hB : xBok pre B) {w : Nat} (hw : w ∈ xRbs) (hg : B + 253 + g.length < 1000000) {P : xA → xH → Prop} (kk : xBp K Z 3 4 [] xcX7_passHour (xseek xcX7_passHour 54) [(1, .int (Int32.ofNat (xcnt (N w 2)))), (0, .ref (B + w))] [] (xHn pre B (xP1 N w (xcnt (N w 2))) C L g) P) : ∀ k n, n + k = xcnt (N w 2) → xBp K Z 3 4 [] xcX7_passHour (xseek xcX7_passHour 2) [(1, .int (Int32.ofNat n)), (0, .ref (B + w))] [] (xHn pre B (xP1 N w n) C L g) P := by
  have hrv := xrb_river w hw
  have hwl := hrv.2.2.2.1
  have hc8 := xcnt_le (N w 2)
  have hcn : ∀ n, xP1 N w n w 2 = N w 2 := fun n => xP1_off n (by omega)
  intro k
  induction k with
  | zero =>
    intro n hn
    have hn0 : xcnt (N w 2) = n := by omega
    have fin := kk
    rw [hn0] at fin
    refine xp_step rfl ?_
    refine xp_step rfl ?_
    refine xp_get hB (by omega) hrv.1 (by decide) (hrv.2.2.2.2.2.2.1 _ (by decide) (by decide)) ?_
    refine xp_if2 rfl (fun _ => fin) (fun q => ?_)
    rw [hcn] at q
    have q9 : Int32.ofNat n < N w 2 := Int32.not_le.mp (of_decide_eq_false q)
    have h8 : n = 8 := by
      by_cases h : n < 8
      · have := (xcnt_lt n h (N w 2)).mpr q9
        omega
      · omega
    refine xp_step rfl ?_
    refine xp_step rfl ?_
    refine xp_if2 rfl (fun _ => fin) (fun q => ?_)
    rw [(xloop9 n (by omega)).1, h8] at q
    cases q
  | succ k ih =>
    intro n hn
    have hn8 : n < 8 := by omega
    obtain ⟨f1, f2, f3, f4⟩ := xloop8 n hn8
    have hlt := (xcnt_lt n hn8 (N w 2)).mp (by omega)
    have ih := ih (n + 1) (by omega)
    have hhas : ∀ M : Nat → Nat → Int32, M w 2 = N w 2 → xhas M w (Int32.ofNat n) = true := fun M e => xhas_n hn8 (by rw [e]; exact hlt)
    refine xp_step rfl ?_
    refine xp_step rfl ?_
    refine xp_get hB (by omega) hrv.1 (by decide) (hrv.2.2.2.2.2.2.1 _ (by decide) (by decide)) ?_
    rw [hcn]
    refine xp_if2 rfl (fun q => absurd hlt (Int32.not_lt.mpr (of_decide_eq_true q))) (fun _ => ?_)
    refine xp_step rfl ?_
    refine xp_step rfl ?_
    refine xp_if2 rfl (fun q => absurd (q.symm.trans f3) (by decide)) (fun _ => ?_)
    refine xp_step rfl ?_
    refine xp_ref hB (by omega) hrv.1 (by decide) hrv.2.2.2.2.1 ?_
    refine xp_step rfl ?_
    refine xp_aald hB (by omega) (show xKd (w + 1) = (50 + 5, 8) from hrv.2.1) (by decide) f1 (by rw [f2]; exact hrv.2.2.2.2.2.2.2.1 _ hn8) ?_
    refine xp_step rfl ?_
    refine xp_ref hB (by omega) hrv.1 (by decide) hrv.2.2.2.2.1 ?_
    refine xp_step rfl ?_
    refine xp_aald hB (by omega) (show xKd (w + 1) = (50 + 5, 8) from hrv.2.1) (by decide) f1 (by rw [f2]; exact hrv.2.2.2.2.2.2.2.1 _ hn8) ?_
    refine xp_virt (i := w + 3 + n) hB (by omega) (xrb_reach w hw n hn8).1 rfl (Nat.le_of_ble_eq_true rfl) rfl (xR_up (by decide) (xs_status hB hw hn8)) ?_
    refine xp_put hB (xrb_reach w hw n hn8).2.1 (xrb_reach w hw n hn8).1 (by decide) ((xrb_reach w hw n hn8).2.2 _ (by decide)) rfl ?_
    refine xp_step rfl ?_
    refine xp_ref hB (by omega) hrv.1 (by decide) hrv.2.2.2.2.1 ?_
    refine xp_step rfl ?_
    refine xp_aald hB (by omega) (show xKd (w + 1) = (50 + 5, 8) from hrv.2.1) (by decide) f1 (by rw [f2]; exact hrv.2.2.2.2.2.2.2.1 _ hn8) ?_
    refine xp_step rfl ?_
    refine xp_step rfl ?_
    refine xp_virt (i := w) hB (by first | decide | omega) hrv.1 rfl (Nat.le_of_ble_eq_true rfl) rfl (xR_up (by decide) (xs_out hB hw (Int32.ofNat n) (hhas _ (by unfold xupN; rw [if_neg (by omega)]; exact hcn n)) hg)) ?_
    refine xp_put hB (xrb_reach w hw n hn8).2.1 (xrb_reach w hw n hn8).1 (by decide) ((xrb_reach w hw n hn8).2.2 _ (by decide)) rfl ?_
    refine xp_step rfl ?_
    refine xp_jump rfl ?_
    rw [f4]
    refine xp_weak ?_ ih
    exact xLe_cons rfl (xLe_cons rfl xLe_nil)
theorem xs_pass2 (hB : xBok pre B) {w : Nat} (hw : w ∈ xRbs) (a : Int32) {M : Nat → Nat → Int32} {P : xA → xH → Prop} (kk : xBp K Z 3 4 [] xcX7_passHour (xseek xcX7_passHour 161) [(2, .int (Int32.ofNat (xcnt (M w 2)))), (1, .int (xP2 w a M (xcnt (M w 2))).1), (0, .ref (B + w))] [] (xHn pre B ((xP2 w a M (xcnt (M w 2))).2) C L g) P) : ∀ k n, n + k = xcnt (M w 2) → xBp K Z 3 4 [] xcX7_passHour (xseek xcX7_passHour 75) [(2, .int (Int32.ofNat n)), (1, .int (xP2 w a M n).1), (0, .ref (B + w))] [] (xHn pre B ((xP2 w a M n).2) C L g) P := by
  have hrv := xrb_river w hw
  have hwl := hrv.2.2.2.1
  have hc8 := xcnt_le (M w 2)
  have hcn : ∀ n, (xP2 w a M n).2 w 2 = M w 2 := fun n => xP2_off n (by omega) (by omega)
  intro k
  induction k with
  | zero =>
    intro n hn
    have hn0 : xcnt (M w 2) = n := by omega
    have fin := kk
    rw [hn0] at fin
    refine xp_step rfl ?_
    refine xp_step rfl ?_
    refine xp_get hB (by omega) hrv.1 (by decide) (hrv.2.2.2.2.2.2.1 _ (by decide) (by decide)) ?_
    refine xp_if2 rfl (fun _ => fin) (fun q => ?_)
    rw [hcn] at q
    have q9 : Int32.ofNat n < M w 2 := Int32.not_le.mp (of_decide_eq_false q)
    have h8 : n = 8 := by
      by_cases h : n < 8
      · have := (xcnt_lt n h (M w 2)).mpr q9
        omega
      · omega
    refine xp_step rfl ?_
    refine xp_step rfl ?_
    refine xp_if2 rfl (fun _ => fin) (fun q => ?_)
    rw [(xloop9 n (by omega)).1, h8] at q
    cases q
  | succ k ih =>
    intro n hn
    have hn8 : n < 8 := by omega
    obtain ⟨f1, f2, f3, f4⟩ := xloop8 n hn8
    have hlt := (xcnt_lt n hn8 (M w 2)).mp (by omega)
    have ih := ih (n + 1) (by omega)
    refine xp_step rfl ?_
    refine xp_step rfl ?_
    refine xp_get hB (by omega) hrv.1 (by decide) (hrv.2.2.2.2.2.2.1 _ (by decide) (by decide)) ?_
    rw [hcn]
    refine xp_if2 rfl (fun q => absurd hlt (Int32.not_lt.mpr (of_decide_eq_true q))) (fun _ => ?_)
    refine xp_step rfl ?_
    refine xp_step rfl ?_
    refine xp_if2 rfl (fun q => absurd (q.symm.trans f3) (by decide)) (fun _ => ?_)
    refine xp_step rfl ?_
    refine xp_ref hB (by omega) hrv.1 (by decide) hrv.2.2.2.2.1 ?_
    refine xp_step rfl ?_
    refine xp_aald hB (by omega) (show xKd (w + 1) = (50 + 5, 8) from hrv.2.1) (by decide) f1 (by rw [f2]; exact hrv.2.2.2.2.2.2.2.1 _ hn8) ?_
    refine xp_step rfl ?_
    refine xp_step rfl ?_
    refine xp_step rfl ?_
    refine xp_get hB (xrb_reach w hw n hn8).2.1 (xrb_reach w hw n hn8).1 (by decide) ((xrb_reach w hw n hn8).2.2 _ (by decide)) ?_
    refine xp_step rfl ?_
    refine xp_step rfl ?_
    refine xp_get hB (xrb_reach w hw n hn8).2.1 (xrb_reach w hw n hn8).1 (by decide) ((xrb_reach w hw n hn8).2.2 _ (by decide)) ?_
    refine xp_step rfl ?_
    refine xp_step rfl ?_
    refine xp_get hB (xrb_reach w hw n hn8).2.1 (xrb_reach w hw n hn8).1 (by decide) ((xrb_reach w hw n hn8).2.2 _ (by decide)) ?_
    refine xp_step rfl ?_
    refine xp_step rfl ?_
    refine xp_put hB (xrb_reach w hw n hn8).2.1 (xrb_reach w hw n hn8).1 (by decide) ((xrb_reach w hw n hn8).2.2 _ (by decide)) rfl ?_
    refine xp_step rfl ?_
    refine xp_step rfl ?_
    refine xp_get hB (by omega) hrv.1 (by decide) (hrv.2.2.2.2.2.2.1 _ (by decide) (by decide)) ?_
    refine xp_step rfl ?_
    refine xp_get hB (xrb_reach w hw n hn8).2.1 (xrb_reach w hw n hn8).1 (by decide) ((xrb_reach w hw n hn8).2.2 _ (by decide)) ?_
    refine xp_step rfl ?_
    refine xp_put hB (by omega) hrv.1 (by decide) (hrv.2.2.2.2.2.2.1 _ (by decide) (by decide)) rfl ?_
    refine xp_step rfl ?_
    change xBp K Z 3 4 [] xcX7_passHour _ _ _ (xHn pre B (xP2b (xP2a (xP2 w a M n).2 w (w + 3 + n) (xP2 w a M n).1) w (w + 3 + n)) C L g) _
    refine xp_virt (i := w + 3 + n) hB (by omega) (xrb_reach w hw n hn8).1 rfl (Nat.le_of_ble_eq_true rfl) rfl (xR_up (by decide) (xs_status hB hw hn8)) ?_
    refine xp_step rfl ?_
    refine xp_get hB (xrb_reach w hw n hn8).2.1 (xrb_reach w hw n hn8).1 (by decide) ((xrb_reach w hw n hn8).2.2 _ (by decide)) ?_
    refine xp_if2 rfl (fun q1 => ?_) (fun q1 => ?_)
    · skip
      refine xp_step rfl ?_
      refine xp_get hB (xrb_reach w hw n hn8).2.1 (xrb_reach w hw n hn8).1 (by decide) ((xrb_reach w hw n hn8).2.2 _ (by decide)) ?_
      refine xp_step rfl ?_
      refine xp_step rfl ?_
      refine xp_jump rfl ?_
      have e9 : xP2s (xP2 w a M n).2 w (w + 3 + n) (xP2 w a M n).1 = xP2b (xP2a (xP2 w a M n).2 w (w + 3 + n) (xP2 w a M n).1) w (w + 3 + n) := by
        exact if_neg (Int32.not_lt.mpr (of_decide_eq_true q1))
      have ih := ih
      rw [xP2] at ih
      rw [e9] at ih
      rw [f4]
      refine xp_weak ?_ ih
      exact xLe_cons rfl (xLe_cons rfl (xLe_cons rfl xLe_nil))
    · skip
      refine xp_step rfl ?_
      refine xp_step rfl ?_
      refine xp_get hB (by omega) hrv.1 (by decide) (hrv.2.2.2.2.2.2.1 _ (by decide) (by decide)) ?_
      refine xp_step rfl ?_
      refine xp_step rfl ?_
      refine xp_put hB (by omega) hrv.1 (by decide) (hrv.2.2.2.2.2.2.1 _ (by decide) (by decide)) rfl ?_
      refine xp_step rfl ?_
      refine xp_get hB (xrb_reach w hw n hn8).2.1 (xrb_reach w hw n hn8).1 (by decide) ((xrb_reach w hw n hn8).2.2 _ (by decide)) ?_
      refine xp_step rfl ?_
      refine xp_step rfl ?_
      refine xp_jump rfl ?_
      have e9 : xP2s (xP2 w a M n).2 w (w + 3 + n) (xP2 w a M n).1 = xupN (xP2b (xP2a (xP2 w a M n).2 w (w + 3 + n) (xP2 w a M n).1) w (w + 3 + n)) w 7 (xP2b (xP2a (xP2 w a M n).2 w (w + 3 + n) (xP2 w a M n).1) w (w + 3 + n) w 7 + 1) := by
        exact if_pos (Int32.not_le.mp (of_decide_eq_false q1))
      have ih := ih
      rw [xP2] at ih
      rw [e9] at ih
      rw [f4]
      refine xp_weak ?_ ih
      exact xLe_cons rfl (xLe_cons rfl (xLe_cons rfl xLe_nil))
theorem xs_pass (hB : xBok pre B) {w : Nat} (hw : w ∈ xRbs) (hg : B + 253 + g.length < 1000000) : xRn K Z 4 36 [.ref (B + w)] (xHn pre B N C L g) (.ok (some (.int (xPass N w).1))) (xHn pre B (xPass N w).2 C L g) := by
  have hrv := xrb_river w hw
  have hwl := hrv.2.2.2.1
  have hcb : xPb N w w 2 = N w 2 := by
    unfold xPb xupN
    rw [if_neg (by omega)]
    exact xP1_off _ (by omega)
  refine xRp_eq (xRp_of (m := (yX7_passHour, cX7_passHour, 4, (some .int), [], [], xcX7_passHour)) rfl (by show 1 ≤ 4; decide) ?_)
  show xBp K Z 3 4 [] xcX7_passHour xcX7_passHour [(0, .ref (B + w))] [] _ _
  refine xp_step rfl ?_
  refine xp_step rfl ?_
  refine xs_pass1 hB hw hg ?_ (xcnt (N w 2)) 0 (by omega)
  change xBp K Z 3 4 [] xcX7_passHour _ _ _ (xHn pre B (xPa N w) C L g) _
  refine xp_step rfl ?_
  refine xp_step rfl ?_
  refine xp_get hB (by omega) hrv.1 (by decide) (hrv.2.2.2.2.2.2.1 _ (by decide) (by decide)) ?_
  refine xp_virt (i := w) hB (by omega) hrv.1 rfl (Nat.le_of_ble_eq_true rfl) rfl (xR_up (by decide) (xs_head hB hw _)) ?_
  refine xp_step rfl ?_
  refine xp_step rfl ?_
  refine xp_step rfl ?_
  refine xp_get hB (by omega) hrv.1 (by decide) (hrv.2.2.2.2.2.2.1 _ (by decide) (by decide)) ?_
  refine xp_step rfl ?_
  refine xp_step rfl ?_
  refine xp_put hB (by omega) hrv.1 (by decide) (hrv.2.2.2.2.2.2.1 _ (by decide) (by decide)) rfl ?_
  change xBp K Z 3 4 [] xcX7_passHour _ _ _ (xHn pre B (xPb N w) C L g) _
  refine xp_step rfl ?_
  refine xp_step rfl ?_
  have key := xs_pass2 (K := K) (Z := Z) (L := L) (C := C) (g := g) (pre := pre) hB hw (xPh N w) (M := xPb N w) (P := fun r h' => (∀ v, r = .ok v → xrfit (some .int) v = true) ∧ r = .ok (some (.int (xPass N w).1)) ∧ h' = xHn pre B (xPass N w).2 C L g) ?_ (xcnt (xPb N w w 2)) 0 (by omega)
  · refine xp_weak ?_ key
    exact xLe_cons rfl (xLe_cons rfl (xLe_cons rfl xLe_nil))
  rw [hcb]
  change xBp K Z 3 4 [] xcX7_passHour _ [(2, .int (Int32.ofNat (xcnt (N w 2)))), (1, .int (xPc N w).1), (0, .ref (B + w))] _ (xHn pre B (xPc N w).2 C L g) _
  refine xp_step rfl ?_
  refine xp_step rfl ?_
  refine xp_get hB (by omega) hrv.1 (by decide) (hrv.2.2.2.2.2.2.1 _ (by decide) (by decide)) ?_
  refine xp_step rfl ?_
  refine xp_step rfl ?_
  refine xp_put hB (by omega) hrv.1 (by decide) (hrv.2.2.2.2.2.2.1 _ (by decide) (by decide)) rfl ?_
  change xBp K Z 3 4 [] xcX7_passHour _ _ _ (xHn pre B (xPd N w) C L g) _
  refine xp_step rfl ?_
  refine xp_step rfl ?_
  refine xp_get hB (by omega) hrv.1 (by decide) (hrv.2.2.2.2.2.2.1 _ (by decide) (by decide)) ?_
  refine xp_step rfl ?_
  refine xp_step rfl ?_
  refine xp_put hB (by omega) hrv.1 (by decide) (hrv.2.2.2.2.2.2.1 _ (by decide) (by decide)) rfl ?_
  change xBp K Z 3 4 [] xcX7_passHour _ _ _ (xHn pre B (xPe N w) C L g) _
  refine xp_step rfl ?_
  refine xp_virt (i := w) hB (by omega) hrv.1 rfl (Nat.le_of_ble_eq_true rfl) rfl (xR_up (by decide) (xs_drop hB hw)) ?_
  refine xp_step rfl ?_
  exact xp_ret rfl ⟨fun v q => by cases q; rfl, rfl, rfl⟩
end XPS
