/-! WHAT A RIVER ADDS UP; the denial, a command, the history's own numbers -/
def xfSumN (f : Nat → Int32) : Nat → Int32
  | 0 => 0
  | n + 1 => xfSumN f n + f n
/-- how many of the first n reaches are flooded -/
def xfFlN (N : Nat → Nat → Int32) (w : Nat) : Nat → Int32
  | 0 => 0
  | n + 1 => if xsta N (w + 3 + n) = 2 then xfFlN N w n + 1 else xfFlN N w n
def xfVol (N : Nat → Nat → Int32) (w : Nat) : Int32 := xfSumN (fun r => N (w + 3 + r) 4) (xcnt (N w 2))
def xfLvs (N : Nat → Nat → Int32) (w : Nat) : Int32 := xfSumN (fun r => xlvl (N (w + 3 + r) 0) (N (w + 3 + r) 4)) (xcnt (N w 2))
def xfFl (N : Nat → Nat → Int32) (w : Nat) : Int32 := xfFlN N w (xcnt (N w 2))
section XSU
variable {K : List (Nat × List Value)} {Z : List Value} {pre g : xH} {B L : Nat} {N : Nat → Nat → Int32} {C : Nat → Nat}
theorem xs_vol0 (hB : xBok pre B) {w : Nat} (hw : w ∈ xRbs) : ∀ k n, n + k = xcnt (N w 2) → xBp K Z 1 3 [] xcX7_volumeOfAll (xseek xcX7_volumeOfAll 4) [(2, .int (Int32.ofNat n)), (1, .int (xfSumN (fun r => N (w + 3 + r) 4) n)), (0, .ref (B + w))] [] (xHn pre B (N) C L g) (fun r h' => (∀ v, r = .ok v → xrfit (some .int) v = true) ∧ r = .ok (some (.int (xfVol N w))) ∧ h' = xHn pre B N C L g) := by
  have hrv := xrb_river w hw
  have hwl := hrv.2.2.2.1
  have hc8 := xcnt_le (N w 2)
  intro k
  induction k with
  | zero =>
    intro n hn
    have hn0 : xcnt (N w 2) = n := by omega
    have fin : xBp K Z 1 3 [] xcX7_volumeOfAll (xseek xcX7_volumeOfAll 36) [(2, .int (Int32.ofNat n)), (1, .int (xfSumN (fun r => N (w + 3 + r) 4) n)), (0, .ref (B + w))] [] (xHn pre B (N) C L g) (fun r h' => (∀ v, r = .ok v → xrfit (some .int) v = true) ∧ r = .ok (some (.int (xfVol N w))) ∧ h' = xHn pre B N C L g) := by
      refine xp_step rfl ?_
      refine xp_ret rfl ⟨fun v q => by cases q; rfl, ?_, rfl⟩
      unfold xfVol; rw [hn0]
    refine xp_step rfl ?_
    refine xp_step rfl ?_
    refine xp_get hB (by omega) hrv.1 (by decide) (hrv.2.2.2.2.2.2.1 _ (by decide) (by decide)) ?_
    refine xp_if2 rfl (fun _ => fin) (fun q => ?_)
    have q9 : Int32.ofNat n < N w 2 := Int32.not_le.mp (of_decide_eq_false q)
    have h8 : n = 8 := by
      by_cases h : n < 8
      · have := (xcnt_lt n h (N w 2)).mpr q9
        omega
      · omega
    refine xp_step rfl ?_
    refine xp_step rfl ?_
    refine xp_if2 rfl (fun _ => fin) (fun q => ?_)
    rw [(xloop9 n (by omega)).1, h8] at q
    cases q
  | succ k ih =>
    intro n hn
    have hn8 : n < 8 := by omega
    obtain ⟨f1, f2, f3, f4⟩ := xloop8 n hn8
    have hlt := (xcnt_lt n hn8 (N w 2)).mp (by omega)
    have ih := ih (n + 1) (by omega)
    refine xp_step rfl ?_
    refine xp_step rfl ?_
    refine xp_get hB (by omega) hrv.1 (by decide) (hrv.2.2.2.2.2.2.1 _ (by decide) (by decide)) ?_
    refine xp_if2 rfl (fun q => absurd hlt (Int32.not_lt.mpr (of_decide_eq_true q))) (fun _ => ?_)
    refine xp_step rfl ?_
    refine xp_step rfl ?_
    refine xp_if2 rfl (fun q => absurd (q.symm.trans f3) (by decide)) (fun _ => ?_)
    refine xp_step rfl ?_
    refine xp_step rfl ?_
    refine xp_ref hB (by omega) hrv.1 (by decide) hrv.2.2.2.2.1 ?_
    refine xp_step rfl ?_
    refine xp_aald hB (by omega) (show xKd (w + 1) = (50 + 5, 8) from hrv.2.1) (by decide) f1 (by rw [f2]; exact hrv.2.2.2.2.2.2.2.1 _ hn8) ?_
    refine xp_get hB (xrb_reach w hw n hn8).2.1 (xrb_reach w hw n hn8).1 (by decide) ((xrb_reach w hw n hn8).2.2 _ (by decide)) ?_
    refine xp_step rfl ?_
    refine xp_step rfl ?_
    refine xp_step rfl ?_
    refine xp_jump rfl ?_
    rw [f4]
    exact ih
theorem xs_vol (hB : xBok pre B) {w : Nat} (hw : w ∈ xRbs) : xRn K Z 2 44 [.ref (B + w)] (xHn pre B N C L g) (.ok (some (.int (xfVol N w)))) (xHn pre B N C L g) := by
  refine xRp_eq (xRp_of (m := (yX7_volumeOfAll, cX7_volumeOfAll, 3, (some .int), [], [], xcX7_volumeOfAll)) rfl (by show 1 ≤ 3; decide) ?_)
  show xBp K Z 1 3 [] xcX7_volumeOfAll xcX7_volumeOfAll [(0, .ref (B + w))] [] _ _
  refine xp_step rfl ?_
  refine xp_step rfl ?_
  refine xp_step rfl ?_
  refine xp_step rfl ?_
  exact xs_vol0 hB hw (xcnt (N w 2)) 0 (by omega)
theorem xs_lvs0 (hB : xBok pre B) {w : Nat} (hw : w ∈ xRbs) : ∀ k n, n + k = xcnt (N w 2) → xBp K Z 2 3 [] xcX7_sumOfLevels (xseek xcX7_sumOfLevels 4) [(2, .int (Int32.ofNat n)), (1, .int (xfSumN (fun r => xlvl (N (w + 3 + r) 0) (N (w + 3 + r) 4)) n)), (0, .ref (B + w))] [] (xHn pre B (N) C L g) (fun r h' => (∀ v, r = .ok v → xrfit (some .int) v = true) ∧ r = .ok (some (.int (xfLvs N w))) ∧ h' = xHn pre B N C L g) := by
  have hrv := xrb_river w hw
  have hwl := hrv.2.2.2.1
  have hc8 := xcnt_le (N w 2)
  intro k
  induction k with
  | zero =>
    intro n hn
    have hn0 : xcnt (N w 2) = n := by omega
    have fin : xBp K Z 2 3 [] xcX7_sumOfLevels (xseek xcX7_sumOfLevels 36) [(2, .int (Int32.ofNat n)), (1, .int (xfSumN (fun r => xlvl (N (w + 3 + r) 0) (N (w + 3 + r) 4)) n)), (0, .ref (B + w))] [] (xHn pre B (N) C L g) (fun r h' => (∀ v, r = .ok v → xrfit (some .int) v = true) ∧ r = .ok (some (.int (xfLvs N w))) ∧ h' = xHn pre B N C L g) := by
      refine xp_step rfl ?_
      refine xp_ret rfl ⟨fun v q => by cases q; rfl, ?_, rfl⟩
      unfold xfLvs; rw [hn0]
    refine xp_step rfl ?_
    refine xp_step rfl ?_
    refine xp_get hB (by omega) hrv.1 (by decide) (hrv.2.2.2.2.2.2.1 _ (by decide) (by decide)) ?_
    refine xp_if2 rfl (fun _ => fin) (fun q => ?_)
    have q9 : Int32.ofNat n < N w 2 := Int32.not_le.mp (of_decide_eq_false q)
    have h8 : n = 8 := by
      by_cases h : n < 8
      · have := (xcnt_lt n h (N w 2)).mpr q9
        omega
      · omega
    refine xp_step rfl ?_
    refine xp_step rfl ?_
    refine xp_if2 rfl (fun _ => fin) (fun q => ?_)
    rw [(xloop9 n (by omega)).1, h8] at q
    cases q
  | succ k ih =>
    intro n hn
    have hn8 : n < 8 := by omega
    obtain ⟨f1, f2, f3, f4⟩ := xloop8 n hn8
    have hlt := (xcnt_lt n hn8 (N w 2)).mp (by omega)
    have ih := ih (n + 1) (by omega)
    refine xp_step rfl ?_
    refine xp_step rfl ?_
    refine xp_get hB (by omega) hrv.1 (by decide) (hrv.2.2.2.2.2.2.1 _ (by decide) (by decide)) ?_
    refine xp_if2 rfl (fun q => absurd hlt (Int32.not_lt.mpr (of_decide_eq_true q))) (fun _ => ?_)
    refine xp_step rfl ?_
    refine xp_step rfl ?_
    refine xp_if2 rfl (fun q => absurd (q.symm.trans f3) (by decide)) (fun _ => ?_)
    refine xp_step rfl ?_
    refine xp_step rfl ?_
    refine xp_ref hB (by omega) hrv.1 (by decide) hrv.2.2.2.2.1 ?_
    refine xp_step rfl ?_
    refine xp_aald hB (by omega) (show xKd (w + 1) = (50 + 5, 8) from hrv.2.1) (by decide) f1 (by rw [f2]; exact hrv.2.2.2.2.2.2.2.1 _ hn8) ?_
    refine xp_virt (i := w + 3 + n) hB (by omega) (xrb_reach w hw n hn8).1 rfl (Nat.le_of_ble_eq_true rfl) rfl (xR_up (by decide) (xs_level hB hw hn8)) ?_
    refine xp_step rfl ?_
    refine xp_step rfl ?_
    refine xp_step rfl ?_
    refine xp_jump rfl ?_
    rw [f4]
    exact ih
theorem xs_lvs (hB : xBok pre B) {w : Nat} (hw : w ∈ xRbs) : xRn K Z 3 45 [.ref (B + w)] (xHn pre B N C L g) (.ok (some (.int (xfLvs N w)))) (xHn pre B N C L g) := by
  refine xRp_eq (xRp_of (m := (yX7_sumOfLevels, cX7_sumOfLevels, 3, (some .int), [], [], xcX7_sumOfLevels)) rfl (by show 1 ≤ 3; decide) ?_)
  show xBp K Z 2 3 [] xcX7_sumOfLevels xcX7_sumOfLevels [(0, .ref (B + w))] [] _ _
  refine xp_step rfl ?_
  refine xp_step rfl ?_
  refine xp_step rfl ?_
  refine xp_step rfl ?_
  exact xs_lvs0 hB hw (xcnt (N w 2)) 0 (by omega)
theorem xs_fl0 (hB : xBok pre B) {w : Nat} (hw : w ∈ xRbs) : ∀ k n, n + k = xcnt (N w 2) → xBp K Z 2 3 [] xcX7_countFlooded (xseek xcX7_countFlooded 4) [(2, .int (Int32.ofNat n)), (1, .int (xfFlN N w n)), (0, .ref (B + w))] [] (xHn pre B (N) C L g) (fun r h' => (∀ v, r = .ok v → xrfit (some .int) v = true) ∧ r = .ok (some (.int (xfFl N w))) ∧ h' = xHn pre B N C L g) := by
  have hrv := xrb_river w hw
  have hwl := hrv.2.2.2.1
  have hc8 := xcnt_le (N w 2)
  intro k
  induction k with
  | zero =>
    intro n hn
    have hn0 : xcnt (N w 2) = n := by omega
    have fin : xBp K Z 2 3 [] xcX7_countFlooded (xseek xcX7_countFlooded 40) [(2, .int (Int32.ofNat n)), (1, .int (xfFlN N w n)), (0, .ref (B + w))] [] (xHn pre B (N) C L g) (fun r h' => (∀ v, r = .ok v → xrfit (some .int) v = true) ∧ r = .ok (some (.int (xfFl N w))) ∧ h' = xHn pre B N C L g) := by
      refine xp_step rfl ?_
      refine xp_ret rfl ⟨fun v q => by cases q; rfl, ?_, rfl⟩
      unfold xfFl; rw [hn0]
    refine xp_step rfl ?_
    refine xp_step rfl ?_
    refine xp_get hB (by omega) hrv.1 (by decide) (hrv.2.2.2.2.2.2.1 _ (by decide) (by decide)) ?_
    refine xp_if2 rfl (fun _ => fin) (fun q => ?_)
    have q9 : Int32.ofNat n < N w 2 := Int32.not_le.mp (of_decide_eq_false q)
    have h8 : n = 8 := by
      by_cases h : n < 8
      · have := (xcnt_lt n h (N w 2)).mpr q9
        omega
      · omega
    refine xp_step rfl ?_
    refine xp_step rfl ?_
    refine xp_if2 rfl (fun _ => fin) (fun q => ?_)
    rw [(xloop9 n (by omega)).1, h8] at q
    cases q
  | succ k ih =>
    intro n hn
    have hn8 : n < 8 := by omega
    obtain ⟨f1, f2, f3, f4⟩ := xloop8 n hn8
    have hlt := (xcnt_lt n hn8 (N w 2)).mp (by omega)
    have ih := ih (n + 1) (by omega)
    refine xp_step rfl ?_
    refine xp_step rfl ?_
    refine xp_get hB (by omega) hrv.1 (by decide) (hrv.2.2.2.2.2.2.1 _ (by decide) (by decide)) ?_
    refine xp_if2 rfl (fun q => absurd hlt (Int32.not_lt.mpr (of_decide_eq_true q))) (fun _ => ?_)
    refine xp_step rfl ?_
    refine xp_step rfl ?_
    refine xp_if2 rfl (fun q => absurd (q.symm.trans f3) (by decide)) (fun _ => ?_)
    refine xp_step rfl ?_
    refine xp_ref hB (by omega) hrv.1 (by decide) hrv.2.2.2.2.1 ?_
    refine xp_step rfl ?_
    refine xp_aald hB (by omega) (show xKd (w + 1) = (50 + 5, 8) from hrv.2.1) (by decide) f1 (by rw [f2]; exact hrv.2.2.2.2.2.2.2.1 _ hn8) ?_
    refine xp_virt (i := w + 3 + n) hB (by omega) (xrb_reach w hw n hn8).1 rfl (Nat.le_of_ble_eq_true rfl) rfl (xR_up (by decide) (xs_status hB hw hn8)) ?_
    refine xp_step rfl ?_
    refine xp_if2 rfl (fun q1 => ?_) (fun q1 => ?_)
    · skip
      refine xp_step rfl ?_
      refine xp_jump rfl ?_
      have e9 : xfFlN N w (n + 1) = xfFlN N w n := by
        show (if xsta N (w + 3 + n) = 2 then xfFlN N w n + 1 else xfFlN N w n) = _
        exact if_neg (by simpa [xic] using q1)
      rw [e9] at ih
      rw [f4]
      exact ih
    · skip
      refine xp_step rfl ?_
      refine xp_step rfl ?_
      refine xp_jump rfl ?_
      have e9 : xfFlN N w (n + 1) = xfFlN N w n + 1 := by
        show (if xsta N (w + 3 + n) = 2 then xfFlN N w n + 1 else xfFlN N w n) = _
        exact if_pos (by simpa [xic] using q1)
      rw [e9] at ih
      rw [f4]
      exact ih
theorem xs_fl (hB : xBok pre B) {w : Nat} (hw : w ∈ xRbs) : xRn K Z 3 46 [.ref (B + w)] (xHn pre B N C L g) (.ok (some (.int (xfFl N w)))) (xHn pre B N C L g) := by
  refine xRp_eq (xRp_of (m := (yX7_countFlooded, cX7_countFlooded, 3, (some .int), [], [], xcX7_countFlooded)) rfl (by show 1 ≤ 3; decide) ?_)
  show xBp K Z 2 3 [] xcX7_countFlooded xcX7_countFlooded [(0, .ref (B + w))] [] _ _
  refine xp_step rfl ?_
  refine xp_step rfl ?_
  refine xp_step rfl ?_
  refine xp_step rfl ?_
  exact xs_fl0 hB hw (xcnt (N w 2)) 0 (by omega)
/-- does the reach at i come before the one at j -/
def xbef (N : Nat → Nat → Int32) (i j : Nat) : Bool := decide (xlvl (N j 0) (N j 4) < xlvl (N i 0) (N i 4)) || (decide (xlvl (N i 0) (N i 4) = xlvl (N j 0) (N j 4)) && decide (N j 4 < N i 4))
theorem xs_before (hB : xBok pre B) {w a b : Nat} (hw : w ∈ xRbs) (ha : a < 8) (hb : b < 8) : xRn K Z 2 20 [.ref (B + (w + 3 + a)), .ref (B + (w + 3 + b))] (xHn pre B N C L g) (.ok (some (.int (if xbef N (w + 3 + a) (w + 3 + b) = true then 1 else 0)))) (xHn pre B N C L g) := by
  have hrv := xrb_river w hw
  have hwl := hrv.2.2.2.1
  refine xRp_eq (xRp_of (m := (yX6_comesBefore, cX6_comesBefore, 4, (some .boolean), [], [], xcX6_comesBefore)) rfl (by show 2 ≤ 4; decide) ?_)
  show xBp K Z 1 4 [] xcX6_comesBefore xcX6_comesBefore [(0, .ref (B + (w + 3 + a))), (1, .ref (B + (w + 3 + b)))] [] _ _
  refine xp_step rfl ?_
  refine xp_virt (i := w + 3 + a) hB (by omega) (xrb_reach w hw a ha).1 rfl (Nat.le_of_ble_eq_true rfl) rfl (xR_up (by decide) (xs_level hB hw ha)) ?_
  refine xp_step rfl ?_
  refine xp_step rfl ?_
  refine xp_virt (i := w + 3 + b) hB (by omega) (xrb_reach w hw b hb).1 rfl (Nat.le_of_ble_eq_true rfl) rfl (xR_up (by decide) (xs_level hB hw hb)) ?_
  refine xp_step rfl ?_
  refine xp_step rfl ?_
  refine xp_step rfl ?_
  refine xp_if2 rfl (fun q1 => ?_) (fun q1 => ?_)
  · skip
    refine xp_step rfl ?_
    refine xp_jump rfl ?_
    refine xp_ret rfl ⟨fun v q => by cases q; rfl, congrArg (fun x => Except.ok (some (Value.int x))) ?_, rfl⟩
    unfold xbef; simp_all [xic]
    all_goals simp only [Int32.le_iff_toInt_le, Int32.lt_iff_toInt_lt] at *
    all_goals omega
  · skip
    refine xp_step rfl ?_
    refine xp_step rfl ?_
    refine xp_if2 rfl (fun q2 => ?_) (fun q2 => ?_)
    · skip
      refine xp_step rfl ?_
      refine xp_ret rfl ⟨fun v q => by cases q; rfl, congrArg (fun x => Except.ok (some (Value.int x))) ?_, rfl⟩
      unfold xbef; simp_all [xic]
      all_goals simp only [Int32.le_iff_toInt_le, Int32.lt_iff_toInt_lt] at *
      all_goals omega
    · skip
      refine xp_step rfl ?_
      refine xp_get hB (xrb_reach w hw a ha).2.1 (xrb_reach w hw a ha).1 (by decide) ((xrb_reach w hw a ha).2.2 _ (by decide)) ?_
      refine xp_step rfl ?_
      refine xp_get hB (xrb_reach w hw b hb).2.1 (xrb_reach w hw b hb).1 (by decide) ((xrb_reach w hw b hb).2.2 _ (by decide)) ?_
      refine xp_if2 rfl (fun q3 => ?_) (fun q3 => ?_)
      · skip
        refine xp_step rfl ?_
        refine xp_ret rfl ⟨fun v q => by cases q; rfl, congrArg (fun x => Except.ok (some (Value.int x))) ?_, rfl⟩
        unfold xbef; simp_all [xic]
        all_goals simp only [Int32.le_iff_toInt_le, Int32.lt_iff_toInt_lt] at *
        all_goals omega
      · skip
        refine xp_step rfl ?_
        refine xp_jump rfl ?_
        refine xp_ret rfl ⟨fun v q => by cases q; rfl, congrArg (fun x => Except.ok (some (Value.int x))) ?_, rfl⟩
        unfold xbef; simp_all [xic]
        all_goals simp only [Int32.le_iff_toInt_le, Int32.lt_iff_toInt_lt] at *
        all_goals omega
def xfDet (N : Nat → Nat → Int32) (w : Nat) (a v : Int32) : Int32 := if a = 4 then v else if a = 1 then 8 else N w 4
theorem xs_detail (hB : xBok pre B) {w : Nat} (hw : w ∈ xRbs) (a v : Int32) : xRn K Z 1 26 [.ref (B + w), .int a, .int v] (xHn pre B N C L g) (.ok (some (.int (xfDet N w a v)))) (xHn pre B N C L g) := by
  have hrv := xrb_river w hw
  have hwl := hrv.2.2.2.1
  refine xRp_eq (xRp_of (m := (yX7_detailOf, cX7_detailOf, 3, (some .int), [], [], xcX7_detailOf)) rfl (by show 3 ≤ 3; decide) ?_)
  show xBp K Z 0 3 [] xcX7_detailOf xcX7_detailOf [(0, .ref (B + w)), (1, .int a), (2, .int v)] [] _ _
  refine xp_step rfl ?_
  refine xp_step rfl ?_
  refine xp_if2 rfl (fun q1 => ?_) (fun q1 => ?_)
  · skip
    refine xp_step rfl ?_
    refine xp_step rfl ?_
    refine xp_if2 rfl (fun q2 => ?_) (fun q2 => ?_)
    · skip
      refine xp_step rfl ?_
      refine xp_get hB (by omega) hrv.1 (by decide) (hrv.2.2.2.2.2.2.1 _ (by decide) (by decide)) ?_
      refine xp_ret rfl ⟨fun v q => by cases q; rfl, congrArg (fun x => Except.ok (some (Value.int x))) ?_, rfl⟩
      unfold xfDet; simp_all [xic]
      try rfl
    · skip
      refine xp_step rfl ?_
      refine xp_ret rfl ⟨fun v q => by cases q; rfl, congrArg (fun x => Except.ok (some (Value.int x))) ?_, rfl⟩
      unfold xfDet; simp_all [xic]
      try rfl
  · skip
    refine xp_step rfl ?_
    refine xp_ret rfl ⟨fun v q => by cases q; rfl, congrArg (fun x => Except.ok (some (Value.int x))) ?_, rfl⟩
    unfold xfDet; simp_all [xic]
    try rfl
def xNden (N : Nat → Nat → Int32) (a b c e : Int32) : Nat → Nat → Int32 := xupN (xupN (xupN (xupN N 250 0 a) 250 1 b) 250 2 c) 250 3 e
theorem xs_keep (hB : xBok pre B) (a b c e : Int32) : xRn K Z 1 3 [.ref (B + 250), .int a, .int b, .int c, .int e] (xHn pre B N C L g) (.ok none) (xHn pre B (xNden N a b c e) C L g) := by
  refine xRp_eq (xRp_of (m := (yX2_keep, cX2_keep, 5, none, [], [], xcX2_keep)) rfl (by show 5 ≤ 5; decide) ?_)
  show xBp K Z 0 5 [] xcX2_keep xcX2_keep [(0, .ref (B + 250)), (1, .int a), (2, .int b), (3, .int c), (4, .int e)] [] _ _
  refine xp_step rfl ?_
  refine xp_step rfl ?_
  refine xp_put hB (i := 250) (k := 0) (by decide) rfl (by decide) (by decide) rfl ?_
  refine xp_step rfl ?_
  refine xp_step rfl ?_
  refine xp_put hB (i := 250) (k := 1) (by decide) rfl (by decide) (by decide) rfl ?_
  refine xp_step rfl ?_
  refine xp_step rfl ?_
  refine xp_put hB (i := 250) (k := 2) (by decide) rfl (by decide) (by decide) rfl ?_
  refine xp_step rfl ?_
  refine xp_step rfl ?_
  refine xp_put hB (i := 250) (k := 3) (by decide) rfl (by decide) (by decide) rfl ?_
  exact xp_ret rfl ⟨fun v q => by cases q; rfl, rfl, rfl⟩
def xNcmd (N : Nat → Nat → Int32) (i : Nat) (p v : Int32) : Nat → Nat → Int32 := if p = 0 then xupN N i 1 v else if p = 1 then xupN N i 2 v else xupN N i 3 v
theorem xcm_cell : ∀ j, j < 16 → xKd (234 + j) = (4, 4) ∧ (234 + j < 253 ∧ ∀ k, k < 4 → 1 ≤ k → xnu (234 + j) k = true) := by
  intro j hj
  have h : (List.range 16).all (fun j => decide (xKd (234 + j) = (4, 4)) && (decide (234 + j < 253) && (List.range 4).all fun k => decide (k < 1) || xnu (234 + j) k)) = true := by decide +kernel
  have h := List.all_eq_true.mp h j (List.mem_range.mpr hj)
  simp only [Bool.and_eq_true, decide_eq_true_eq] at h
  refine ⟨h.1, h.2.1, fun k hk hk1 => ?_⟩
  rcases Bool.or_eq_true _ _ |>.mp (List.all_eq_true.mp h.2.2 k (List.mem_range.mpr hk)) with q | q
  · exact absurd (of_decide_eq_true q) (by omega)
  · exact q
theorem xs_put (hB : xBok pre B) {j : Nat} (hj : j < 16) (p v : Int32) : xRn K Z 1 1 [.ref (B + (234 + j)), .int p, .int v] (xHn pre B N C L g) (.ok none) (xHn pre B (xNcmd N (234 + j) p v) C L g) := by
  obtain ⟨c1, c2, c3⟩ := xcm_cell j hj
  refine xRp_eq (xRp_of (m := (yX1_put, cX1_put, 3, none, [], [], xcX1_put)) rfl (by show 3 ≤ 3; decide) ?_)
  show xBp K Z 0 3 [] xcX1_put xcX1_put [(0, .ref (B + (234 + j))), (1, .int p), (2, .int v)] [] _ _
  repeat' (first
    | refine xp_put hB c2 c1 (by decide) (c3 _ (by decide) (by decide)) rfl ?_
    | refine xp_if2 rfl (fun _ => ?_) (fun _ => ?_)
    | refine xp_if1 rfl (fun _ => ?_) (fun _ => ?_)
    | refine xp_ret rfl ?_
    | refine xp_step rfl ?_
    | refine xp_jump rfl ?_)
  all_goals refine ⟨fun v q => by cases q; rfl, rfl, congrArg (fun n => xHn pre B n C L g) ?_⟩
  all_goals unfold xNcmd; simp_all [xic]
  all_goals (try rfl)
end XSU
