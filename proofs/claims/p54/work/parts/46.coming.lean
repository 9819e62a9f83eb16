/-! HOURS TOGETHER; what is coming; a reach's place by level -/
theorem xlp_max (h : Int32) : h.toInt < 2147483648 ∧ h.toNatClampNeg = h.toInt.toNat := ⟨by have := h.toInt_lt; omega, rfl⟩
theorem xlp_n {h : Int32} {n : Nat} (hn : n < h.toNatClampNeg) : xic .ge (Int32.ofNat n) h = false ∧ Int32.ofNat n + Int32.ofInt 1 = Int32.ofNat (n + 1) := by
  obtain ⟨m1, m2⟩ := xlp_max h
  have e1 : (Int32.ofNat n).toInt = n := Int32.toInt_ofNat_small (by omega)
  have e2 : (Int32.ofNat (n + 1)).toInt = (n + 1 : Nat) := Int32.toInt_ofNat_small (by omega)
  constructor
  · refine decide_eq_false (fun q => ?_)
    rw [Int32.le_iff_toInt_le, e1] at q
    omega
  · apply Int32.toInt_inj.mp
    rw [Int32.toInt_add, e1, e2, show (Int32.ofInt 1).toInt = 1 from rfl, Int.bmod_eq_of_le (by omega) (by omega)]
    omega
theorem xlp_e {h : Int32} (h0 : 0 ≤ h) : xic .ge (Int32.ofNat h.toNatClampNeg) h = true := by
  obtain ⟨m1, m2⟩ := xlp_max h
  have e1 : (Int32.ofNat h.toNatClampNeg).toInt = (h.toNatClampNeg : Nat) := Int32.toInt_ofNat_small (by omega)
  refine decide_eq_true ?_
  rw [Int32.le_iff_toInt_le, e1]
  omega
/-- n hours: what flows out, the numbers -/
def xLet (N : Nat → Nat → Int32) (w : Nat) : Nat → Int32 × (Nat → Nat → Int32)
  | 0 => (0, N)
  | n + 1 => ((xLet N w n).1 + (xPass (xLet N w n).2 w).1, (xPass (xLet N w n).2 w).2)
def xfLet (N : Nat → Nat → Int32) (w : Nat) (x : Int32) : Int32 × (Nat → Nat → Int32) :=
  if xwin x 1 48 = false then (-12, N) else if N w 2 = 0 then (-3, N) else xLet N w x.toNatClampNeg
section XLT
variable {K : List (Nat × List Value)} {Z : List Value} {pre g : xH} {B L : Nat} {N : Nat → Nat → Int32} {C : Nat → Nat}
theorem xs_let0 (hB : xBok pre B) {w : Nat} (hw : w ∈ xRbs) (hg : B + 253 + g.length < 1000000) {x : Int32} (hx : 0 ≤ x) {P : xA → xH → Prop} (kk : xBp K Z 4 4 [] xcX7_letPass (xseek xcX7_letPass 45) [(3, .int (Int32.ofNat x.toNatClampNeg)), (2, .int (xLet N w x.toNatClampNeg).1), (0, .ref (B + w)), (1, .int x)] [] (xHn pre B (xLet N w x.toNatClampNeg).2 C L g) P) :
    ∀ k n, n + k = x.toNatClampNeg → xBp K Z 4 4 [] xcX7_letPass (xseek xcX7_letPass 27) [(3, .int (Int32.ofNat n)), (2, .int (xLet N w n).1), (0, .ref (B + w)), (1, .int x)] [] (xHn pre B (xLet N w n).2 C L g) P := by
  have hrv := xrb_river w hw
  have hwl := hrv.2.2.2.1
  intro k
  induction k with
  | zero =>
    intro n hn
    obtain rfl : n = x.toNatClampNeg := by omega
    refine xp_step rfl ?_
    refine xp_step rfl ?_
    refine xp_if2 rfl (fun _ => kk) (fun q => absurd (q.symm.trans (xlp_e hx)) (by decide))
  | succ k ih =>
    intro n hn
    obtain ⟨f1, f2⟩ := xlp_n (h := x) (n := n) (by omega)
    have ih := ih (n + 1) (by omega)
    refine xp_step rfl ?_
    refine xp_step rfl ?_
    refine xp_if2 rfl (fun q => absurd (q.symm.trans f1) (by decide)) (fun _ => ?_)
    refine xp_step rfl ?_
    refine xp_step rfl ?_
    refine xp_virt (i := w) hB (by omega) hrv.1 rfl (Nat.le_of_ble_eq_true rfl) rfl (xs_pass hB hw hg) ?_
    refine xp_step rfl ?_
    refine xp_step rfl ?_
    refine xp_step (st1 := []) (loc1 := [(3, .int (Int32.ofNat n + Int32.ofInt 1)), (2, .int ((xLet N w n).1 + (xPass (xLet N w n).2 w).1)), (0, .ref (B + w)), (1, .int x)]) rfl ?_
    refine xp_jump rfl ?_
    rw [f2]
    exact ih
theorem xs_let (hB : xBok pre B) {w : Nat} (hw : w ∈ xRbs) (x : Int32) (hg : B + 253 + g.length < 1000000) : xRn K Z 5 35 [.ref (B + w), .int x] (xHn pre B N C L g) (.ok (some (.int (xfLet N w x).1))) (xHn pre B (xfLet N w x).2 C L g) := by
  have hrv := xrb_river w hw
  have hwl := hrv.2.2.2.1
  refine xRp_eq (xRp_of (m := (yX7_letPass, cX7_letPass, 4, (some .int), [], [], xcX7_letPass)) rfl (by show 2 ≤ 4; decide) ?_)
  show xBp K Z 4 4 [] xcX7_letPass xcX7_letPass [(0, .ref (B + w)), (1, .int x)] [] _ _
  refine xp_step rfl ?_
  refine xp_step rfl ?_
  refine xp_step rfl ?_
  refine xp_callR rfl (xR_up (by decide) (xs_within _ x 1 48)) ?_
  cases e1 : xwin x 1 48 with
  | false =>
    refine xp_step rfl ?_
    refine xp_step rfl ?_
    refine xp_ret rfl ⟨fun v q => by cases q; rfl, ?_, ?_⟩
    · unfold xfLet; rw [if_pos e1]; rfl
    · unfold xfLet; rw [if_pos e1]
  | true =>
    have n1 : ¬ xwin x 1 48 = false := by rw [e1]; decide
    refine xp_jump rfl ?_
    refine xp_step rfl ?_
    refine xp_get hB (by omega) hrv.1 (by decide) (hrv.2.2.2.2.2.2.1 _ (by decide) (by decide)) ?_
    refine xp_if1 rfl (fun q => ?_) (fun q => ?_)
    · have q9 : ¬ N w 2 = 0 := by simpa [xic] using q
      have h0 : (0 : Int32) ≤ x := by
        unfold xwin at e1
        simp only [Bool.and_eq_true, decide_eq_true_eq] at e1
        have a := e1.1
        rw [Int32.le_iff_toInt_le] at a ⊢
        have c1 : (1 : Int32).toInt = 1 := rfl
        have c0 : (0 : Int32).toInt = 0 := rfl
        omega
      have ef : xfLet N w x = xLet N w x.toNatClampNeg := by unfold xfLet; rw [if_neg n1, if_neg q9]
      refine xp_step rfl ?_
      refine xp_step rfl ?_
      refine xp_step rfl ?_
      refine xp_step rfl ?_
      refine xs_let0 hB hw hg h0 ?_ x.toNatClampNeg 0 (by omega)
      refine xp_step rfl ?_
      exact xp_ret rfl ⟨fun v q => by cases q; rfl, by rw [ef], by rw [ef]⟩
    · have q9 : N w 2 = 0 := by simpa [xic] using q
      refine xp_step rfl ?_
      refine xp_ret rfl ⟨fun v q => by cases q; rfl, ?_, ?_⟩
      · unfold xfLet; rw [if_neg n1, if_pos q9]; rfl
      · unfold xfLet; rw [if_neg n1, if_pos q9]
end XLT
/-- the hour behind the last of the first n pulses -/
def xEnN (N : Nat → Nat → Int32) (w : Nat) : Nat → Int32
  | 0 => N w 4
  | n + 1 => xmax (xEnN N w n) (N (w + 11 + n) 0 + N (w + 11 + n) 1)
def xCoN (N : Nat → Nat → Int32) (w : Nat) : Nat → Int32
  | 0 => 0
  | n + 1 => xCoN N w n + xfHead N w (N w 4 + Int32.ofNat n)
def xEnd (N : Nat → Nat → Int32) (w : Nat) : Int32 := xEnN N w (xcnt (N w 3))
def xComs (N : Nat → Nat → Int32) (w : Nat) : Nat := ((xEnd N w).toInt - (N w 4).toInt).toNat
def xfCom (N : Nat → Nat → Int32) (w : Nat) : Int32 := xCoN N w (xComs N w)
theorem xEnN_ge {N : Nat → Nat → Int32} {w : Nat} : ∀ n, (N w 4).toInt ≤ (xEnN N w n).toInt := by
  intro n
  induction n with
  | zero => exact Int.le_refl _
  | succ n ih =>
    rw [xEnN]
    unfold xmax
    split
    · rename_i h
      rw [Int32.lt_iff_toInt_lt] at h
      omega
    · exact ih
theorem xadd_n {t : Int32} {n : Nat} (hn : n < 2147483648) (h : t.toInt + n < 2147483648) : (t + Int32.ofNat n).toInt = t.toInt + n := by
  have h1 := t.le_toInt
  have e1 : (Int32.ofNat n).toInt = n := Int32.toInt_ofNat_small (by omega)
  rw [Int32.toInt_add, e1]
  exact Int.bmod_eq_of_le (by omega) (by omega)
theorem xadd_succ (t : Int32) (n : Nat) : t + Int32.ofNat n + Int32.ofInt 1 = t + Int32.ofNat (n + 1) := by
  rw [Int32.add_assoc, Int32.ofNat_add]
  rfl
section XCO
variable {K : List (Nat × List Value)} {Z : List Value} {pre g : xH} {B L : Nat} {N : Nat → Nat → Int32} {C : Nat → Nat}
theorem xs_com1 (hB : xBok pre B) {w : Nat} (hw : w ∈ xRbs) {P : xA → xH → Prop} (kk : xBp K Z 3 4 [] xcX7_comingByHours (xseek xcX7_comingByHours 41) [(2, .int (Int32.ofNat (xcnt (N w 3)))), (1, .int (xEnN N w (xcnt (N w 3)))), (0, .ref (B + w))] [] (xHn pre B (N) C L g) P) : ∀ k n, n + k = xcnt (N w 3) → xBp K Z 3 4 [] xcX7_comingByHours (xseek xcX7_comingByHours 7) [(2, .int (Int32.ofNat n)), (1, .int (xEnN N w n)), (0, .ref (B + w))] [] (xHn pre B (N) C L g) P := by
  have hrv := xrb_river w hw
  have hwl := hrv.2.2.2.1
  have hc8 := xcnt_le (N w 3)
  intro k
  induction k with
  | zero =>
    intro n hn
    have hn0 : xcnt (N w 3) = n := by omega
    have fin := kk
    rw [hn0] at fin
    refine xp_step rfl ?_
    refine xp_step rfl ?_
    refine xp_get hB (by omega) hrv.1 (by decide) (hrv.2.2.2.2.2.2.1 _ (by decide) (by decide)) ?_
    refine xp_if2 rfl (fun _ => fin) (fun q => ?_)
    have q9 : Int32.ofNat n < N w 3 := Int32.not_le.mp (of_decide_eq_false q)
    have h8 : n = 8 := by
      by_cases h : n < 8
      · have := (xcnt_lt n h (N w 3)).mpr q9
        omega
      · omega
    refine xp_step rfl ?_
    refine xp_step rfl ?_
    refine xp_if2 rfl (fun _ => fin) (fun q => ?_)
    rw [(xloop9 n (by omega)).1, h8] at q
    cases q
  | succ k ih =>
    intro n hn
    have hn8 : n < 8 := by omega
    obtain ⟨f1, f2, f3, f4⟩ := xloop8 n hn8
    have hlt := (xcnt_lt n hn8 (N w 3)).mp (by omega)
    have ih := ih (n + 1) (by omega)
    refine xp_step rfl ?_
    refine xp_step rfl ?_
    refine xp_get hB (by omega) hrv.1 (by decide) (hrv.2.2.2.2.2.2.1 _ (by decide) (by decide)) ?_
    refine xp_if2 rfl (fun q => absurd hlt (Int32.not_lt.mpr (of_decide_eq_true q))) (fun _ => ?_)
    refine xp_step rfl ?_
    refine xp_step rfl ?_
    refine xp_if2 rfl (fun q => absurd (q.symm.trans f3) (by decide)) (fun _ => ?_)
    refine xp_step rfl ?_
    refine xp_step rfl ?_
    refine xp_ref hB (by omega) hrv.1 (by decide) hrv.2.2.2.2.2.1 ?_
    refine xp_step rfl ?_
    refine xp_aald hB (by omega) (show xKd (w + 2) = (50 + 4, 8) from hrv.2.2.1) (by decide) f1 (by rw [f2]; exact hrv.2.2.2.2.2.2.2.2 _ hn8) ?_
    refine xp_virt (i := w + 11 + n) hB (by first | decide | omega) (xrb_pulse w hw n hn8).1 rfl (Nat.le_of_ble_eq_true rfl) rfl (xR_up (by decide) (xs_pend hB hw hn8)) ?_
    refine xp_callR rfl (xR_up (by decide) (xs_max _ _ _)) ?_
    refine xp_step rfl ?_
    refine xp_step rfl ?_
    refine xp_jump rfl ?_
    rw [f4]
    refine xp_weak ?_ ih
    exact xLe_cons rfl (xLe_cons rfl (xLe_cons rfl (xLe_nil)))
theorem xs_com2 (hB : xBok pre B) {w : Nat} (hw : w ∈ xRbs) {P : xA → xH → Prop} (kk : xBp K Z 3 4 [] xcX7_comingByHours (xseek xcX7_comingByHours 67) [(3, .int (N w 4 + Int32.ofNat (xComs N w))), (2, .int (xfCom N w)), (1, .int (xEnd N w)), (0, .ref (B + w))] [] (xHn pre B N C L g) P) :
    ∀ k n, n + k = xComs N w → xBp K Z 3 4 [] xcX7_comingByHours (xseek xcX7_comingByHours 48) [(3, .int (N w 4 + Int32.ofNat n)), (2, .int (xCoN N w n)), (1, .int (xEnd N w)), (0, .ref (B + w))] [] (xHn pre B N C L g) P := by
  have hrv := xrb_river w hw
  have hwl := hrv.2.2.2.1
  have hge : (N w 4).toInt ≤ (xEnd N w).toInt := xEnN_ge _
  have hlt := (xEnd N w).toInt_lt
  have hle := (N w 4).le_toInt
  have hlt4 := (N w 4).toInt_lt
  have hcs : (xComs N w : Int) = (xEnd N w).toInt - (N w 4).toInt := by unfold xComs; omega
  have hal : ∀ n, n ≤ xComs N w → (N w 4 + Int32.ofNat n).toInt = (N w 4).toInt + n := by
    intro n hn
    by_cases q : n < 2147483648
    · exact xadd_n q (by omega)
    · have e0 : (N w 4).toInt < 0 := by omega
      have e1 : (Int32.ofNat n).toInt = (n : Int) - 4294967296 := by
        rw [Int32.toInt_ofNat', show Int32.size = 4294967296 from rfl, Int.bmod_def]
        split <;> omega
      rw [Int32.toInt_add, e1, Int.bmod_def]
      split <;> omega
  intro k
  induction k with
  | zero =>
    intro n hn
    obtain rfl : n = xComs N w := by omega
    refine xp_step rfl ?_
    refine xp_step rfl ?_
    refine xp_if2 rfl (fun _ => kk) (fun q => ?_)
    have q := of_decide_eq_false q
    rw [Int32.le_iff_toInt_le, hal _ (by omega)] at q
    omega
  | succ k ih =>
    intro n hn
    have ih := ih (n + 1) (by omega)
    refine xp_step rfl ?_
    refine xp_step rfl ?_
    refine xp_if2 rfl (fun q => ?_) (fun _ => ?_)
    · have q := of_decide_eq_true q
      rw [Int32.le_iff_toInt_le, hal _ (by omega)] at q
      omega
    refine xp_step rfl ?_
    refine xp_step rfl ?_
    refine xp_step rfl ?_
    refine xp_virt (i := w) hB (by omega) hrv.1 rfl (Nat.le_of_ble_eq_true rfl) rfl (xs_head hB hw _) ?_
    refine xp_step rfl ?_
    refine xp_step rfl ?_
    refine xp_step (st1 := []) (loc1 := [(3, .int (N w 4 + Int32.ofNat n + Int32.ofInt 1)), (2, .int (xCoN N w n + xfHead N w (N w 4 + Int32.ofNat n))), (1, .int (xEnd N w)), (0, .ref (B + w))]) rfl ?_
    refine xp_jump rfl ?_
    rw [xadd_succ]
    exact ih
theorem xs_com (hB : xBok pre B) {w : Nat} (hw : w ∈ xRbs) : xRn K Z 4 42 [.ref (B + w)] (xHn pre B N C L g) (.ok (some (.int (xfCom N w)))) (xHn pre B N C L g) := by
  have hrv := xrb_river w hw
  have hwl := hrv.2.2.2.1
  refine xRp_eq (xRp_of (m := (yX7_comingByHours, cX7_comingByHours, 4, (some .int), [], [], xcX7_comingByHours)) rfl (by show 1 ≤ 4; decide) ?_)
  show xBp K Z 3 4 [] xcX7_comingByHours xcX7_comingByHours [(0, .ref (B + w))] [] _ _
  refine xp_step rfl ?_
  refine xp_get hB (by omega) hrv.1 (by decide) (hrv.2.2.2.2.2.2.1 _ (by decide) (by decide)) ?_
  refine xp_step rfl ?_
  refine xp_step rfl ?_
  refine xp_step rfl ?_
  refine xs_com1 hB hw ?_ (xcnt (N w 3)) 0 (by omega)
  refine xp_step rfl ?_
  refine xp_step rfl ?_
  refine xp_step rfl ?_
  refine xp_get hB (by omega) hrv.1 (by decide) (hrv.2.2.2.2.2.2.1 _ (by decide) (by decide)) ?_
  refine xp_step rfl ?_
  have key := xs_com2 (K := K) (Z := Z) (L := L) (C := C) (g := g) (pre := pre) (N := N) hB hw (P := fun r h' => (∀ v, r = .ok v → xrfit (some .int) v = true) ∧ r = .ok (some (.int (xfCom N w))) ∧ h' = xHn pre B N C L g) ?_ (xComs N w) 0 (by omega)
  · refine xp_weak ?_ key
    exact xLe_cons (by rw [show N w 4 + Int32.ofNat 0 = N w 4 from Int32.add_zero _]; rfl) (xLe_cons rfl (xLe_cons rfl (xLe_cons rfl xLe_nil)))
  refine xp_step rfl ?_
  exact xp_ret rfl ⟨fun v q => by cases q; rfl, rfl, rfl⟩
end XCO
/-! the place by level -/
def xAhS (N : Nat → Nat → Int32) (w : Nat) (x : Int32) (n : Nat) : Bool := xbef N (w + 3 + n) (w + 3 + x.toNatClampNeg) || (decide (Int32.ofNat n < x) && !xbef N (w + 3 + x.toNatClampNeg) (w + 3 + n))
def xAhN (N : Nat → Nat → Int32) (w : Nat) (x : Int32) : Nat → Int32
  | 0 => 0
  | n + 1 => if xAhS N w x n = true then xAhN N w x n + 1 else xAhN N w x n
def xfAh (N : Nat → Nat → Int32) (w : Nat) (x : Int32) : Int32 := xAhN N w x (xcnt (N w 2))
section XAH
variable {K : List (Nat × List Value)} {Z : List Value} {pre g : xH} {B L : Nat} {N : Nat → Nat → Int32} {C : Nat → Nat}
theorem xs_ah0 (hB : xBok pre B) {w : Nat} (hw : w ∈ xRbs) {x : Int32} (i2 : x.toNatClampNeg < 8) {P : xA → xH → Prop} (kk : xBp K Z 2 6 [] xcX7_countAhead (xseek xcX7_countAhead 82) [(4, .int (Int32.ofNat (xcnt (N w 2)))), (3, .int (xAhN N w x (xcnt (N w 2)))), (2, .ref (B + (w + 3 + x.toNatClampNeg))), (0, .ref (B + w)), (1, .int x)] [] (xHn pre B (N) C L g) P) : ∀ k n, n + k = xcnt (N w 2) → xBp K Z 2 6 [] xcX7_countAhead (xseek xcX7_countAhead 11) [(4, .int (Int32.ofNat n)), (3, .int (xAhN N w x n)), (2, .ref (B + (w + 3 + x.toNatClampNeg))), (0, .ref (B + w)), (1, .int x)] [] (xHn pre B (N) C L g) P := by
  have hrv := xrb_river w hw
  have hwl := hrv.2.2.2.1
  have hc8 := xcnt_le (N w 2)
  intro k
  induction k with
  | zero =>
    intro n hn
    have hn0 : xcnt (N w 2) = n := by omega
    have fin := kk
    rw [hn0] at fin
    refine xp_step rfl ?_
    refine xp_step rfl ?_
    refine xp_get hB (by omega) hrv.1 (by decide) (hrv.2.2.2.2.2.2.1 _ (by decide) (by decide)) ?_
    refine xp_if2 rfl (fun _ => fin) (fun q => ?_)
    have q9 : Int32.ofNat n < N w 2 := Int32.not_le.mp (of_decide_eq_false q)
    have h8 : n = 8 := by
      by_cases h : n < 8
      · have := (xcnt_lt n h (N w 2)).mpr q9
        omega
      · omega
    refine xp_step rfl ?_
    refine xp_step rfl ?_
    refine xp_if2 rfl (fun _ => fin) (fun q => ?_)
    rw [(xloop9 n (by omega)).1, h8] at q
    cases q
  | succ k ih =>
    intro n hn
    have hn8 : n < 8 := by omega
    obtain ⟨f1, f2, f3, f4⟩ := xloop8 n hn8
    have hlt := (xcnt_lt n hn8 (N w 2)).mp (by omega)
    have ih := ih (n + 1) (by omega)
    refine xp_step rfl ?_
    refine xp_step rfl ?_
    refine xp_get hB (by omega) hrv.1 (by decide) (hrv.2.2.2.2.2.2.1 _ (by decide) (by decide)) ?_
    refine xp_if2 rfl (fun q => absurd hlt (Int32.not_lt.mpr (of_decide_eq_true q))) (fun _ => ?_)
    refine xp_step rfl ?_
    refine xp_step rfl ?_
    refine xp_if2 rfl (fun q => absurd (q.symm.trans f3) (by decide)) (fun _ => ?_)
    refine xp_step rfl ?_
    refine xp_step rfl ?_
    refine xp_ref hB (by omega) hrv.1 (by decide) hrv.2.2.2.2.1 ?_
    refine xp_step rfl ?_
    refine xp_aald hB (by omega) (show xKd (w + 1) = (50 + 5, 8) from hrv.2.1) (by decide) f1 (by rw [f2]; exact hrv.2.2.2.2.2.2.2.1 _ hn8) ?_
    refine xp_virt (i := w + 3 + x.toNatClampNeg) hB (by first | decide | omega) (xrb_reach w hw _ i2).1 rfl (Nat.le_of_ble_eq_true rfl) rfl (xR_up (by decide) (xs_before hB hw i2 hn8)) ?_
    cases hbq1 : xbef N (w + 3 + x.toNatClampNeg) (w + 3 + n) with
    | false =>
      refine xp_step rfl ?_
      refine xp_step rfl ?_
      refine xp_jump rfl ?_
      refine xp_step rfl ?_
      refine xp_step rfl ?_
      refine xp_ref hB (by omega) hrv.1 (by decide) hrv.2.2.2.2.1 ?_
      refine xp_step rfl ?_
      refine xp_aald hB (by omega) (show xKd (w + 1) = (50 + 5, 8) from hrv.2.1) (by decide) f1 (by rw [f2]; exact hrv.2.2.2.2.2.2.2.1 _ hn8) ?_
      refine xp_step rfl ?_
      refine xp_virt (i := w + 3 + n) hB (by first | decide | omega) (xrb_reach w hw n hn8).1 rfl (Nat.le_of_ble_eq_true rfl) rfl (xR_up (by decide) (xs_before hB hw hn8 i2)) ?_
      cases hbq2 : xbef N (w + 3 + n) (w + 3 + x.toNatClampNeg) with
      | false =>
        refine xp_step rfl ?_
        refine xp_step rfl ?_
        refine xp_step rfl ?_
        refine xp_if2 rfl (fun q3 => ?_) (fun q3 => ?_)
        · skip
          refine xp_step rfl ?_
          refine xp_jump rfl ?_
          have e9 : xAhS N w x n = false := by
            unfold xAhS
            rw [hbq1]
            rw [hbq2]
            rw [show decide (Int32.ofNat n < x) = false from decide_eq_false (Int32.not_lt.mpr (of_decide_eq_true q3))]
            first | rfl | simp
          have ih := ih
          rw [xAhN, if_neg (by rw [e9]; decide)] at ih
          rw [f4]
          refine xp_weak ?_ ih
          exact xLe_cons rfl (xLe_cons rfl (xLe_cons rfl (xLe_cons rfl (xLe_cons rfl xLe_nil))))
        · skip
          refine xp_step rfl ?_
          refine xp_step rfl ?_
          refine xp_step rfl ?_
          refine xp_step rfl ?_
          refine xp_jump rfl ?_
          have e9 : xAhS N w x n = true := by
            unfold xAhS
            rw [hbq1]
            rw [hbq2]
            rw [show decide (Int32.ofNat n < x) = true from decide_eq_true (Int32.not_le.mp (of_decide_eq_false q3))]
            first | rfl | simp
          have ih := ih
          rw [xAhN, if_pos e9] at ih
          rw [f4]
          refine xp_weak ?_ ih
          exact xLe_cons rfl (xLe_cons rfl (xLe_cons rfl (xLe_cons rfl (xLe_cons rfl xLe_nil))))
      | true =>
        refine xp_jump rfl ?_
        refine xp_step rfl ?_
        refine xp_step rfl ?_
        refine xp_jump rfl ?_
        have e9 : xAhS N w x n = true := by
          unfold xAhS
          rw [hbq1]
          rw [hbq2]
          first | rfl | simp
        have ih := ih
        rw [xAhN, if_pos e9] at ih
        rw [f4]
        refine xp_weak ?_ ih
        exact xLe_cons rfl (xLe_cons rfl (xLe_cons rfl (xLe_cons rfl (xLe_cons rfl xLe_nil))))
    | true =>
      refine xp_jump rfl ?_
      refine xp_step rfl ?_
      refine xp_step rfl ?_
      refine xp_step rfl ?_
      refine xp_ref hB (by omega) hrv.1 (by decide) hrv.2.2.2.2.1 ?_
      refine xp_step rfl ?_
      refine xp_aald hB (by omega) (show xKd (w + 1) = (50 + 5, 8) from hrv.2.1) (by decide) f1 (by rw [f2]; exact hrv.2.2.2.2.2.2.2.1 _ hn8) ?_
      refine xp_step rfl ?_
      refine xp_virt (i := w + 3 + n) hB (by first | decide | omega) (xrb_reach w hw n hn8).1 rfl (Nat.le_of_ble_eq_true rfl) rfl (xR_up (by decide) (xs_before hB hw hn8 i2)) ?_
      cases hbq4 : xbef N (w + 3 + n) (w + 3 + x.toNatClampNeg) with
      | false =>
        refine xp_step rfl ?_
        refine xp_step rfl ?_
        refine xp_step rfl ?_
        refine xp_if2 rfl (fun q5 => ?_) (fun q5 => ?_)
        · skip
          refine xp_step rfl ?_
          refine xp_jump rfl ?_
          have e9 : xAhS N w x n = false := by
            unfold xAhS
            rw [hbq1]
            rw [hbq4]
            rw [show decide (Int32.ofNat n < x) = false from decide_eq_false (Int32.not_lt.mpr (of_decide_eq_true q5))]
            first | rfl | simp
          have ih := ih
          rw [xAhN, if_neg (by rw [e9]; decide)] at ih
          rw [f4]
          refine xp_weak ?_ ih
          exact xLe_cons rfl (xLe_cons rfl (xLe_cons rfl (xLe_cons rfl (xLe_cons rfl xLe_nil))))
        · skip
          refine xp_step rfl ?_
          refine xp_jump rfl ?_
          refine xp_step rfl ?_
          refine xp_jump rfl ?_
          have e9 : xAhS N w x n = false := by
            unfold xAhS
            rw [hbq1]
            rw [hbq4]
            rw [show decide (Int32.ofNat n < x) = true from decide_eq_true (Int32.not_le.mp (of_decide_eq_false q5))]
            first | rfl | simp
          have ih := ih
          rw [xAhN, if_neg (by rw [e9]; decide)] at ih
          rw [f4]
          refine xp_weak ?_ ih
          exact xLe_cons rfl (xLe_cons rfl (xLe_cons rfl (xLe_cons rfl (xLe_cons rfl xLe_nil))))
      | true =>
        refine xp_jump rfl ?_
        refine xp_step rfl ?_
        refine xp_step rfl ?_
        refine xp_jump rfl ?_
        have e9 : xAhS N w x n = true := by
          unfold xAhS
          rw [hbq1]
          rw [hbq4]
          first | rfl | simp
        have ih := ih
        rw [xAhN, if_pos e9] at ih
        rw [f4]
        refine xp_weak ?_ ih
        exact xLe_cons rfl (xLe_cons rfl (xLe_cons rfl (xLe_cons rfl (xLe_cons rfl xLe_nil))))
theorem xs_ah (hB : xBok pre B) {w : Nat} (hw : w ∈ xRbs) (x : Int32) (hh : xhas N w x = true) (hg : B + 253 + g.length < 1000000) : xRn K Z 3 43 [.ref (B + w), .int x] (xHn pre B N C L g) (.ok (some (.int (xfAh N w x)))) (xHn pre B N C L g) := by
  have hrv := xrb_river w hw
  have hwl := hrv.2.2.2.1
  have hrow := xs_row (K := K) (Z := Z) (N := N) (L := L) (C := C) (g := g) hB hw x hg
  rw [if_pos hh, if_pos hh] at hrow
  have hyes' := hh
  unfold xhas at hyes'
  simp only [Bool.and_eq_true, decide_eq_true_eq] at hyes'
  obtain ⟨-, i2⟩ := xin8 hyes'.1 hyes'.2.2
  refine xRp_eq (xRp_of (m := (yX7_countAhead, cX7_countAhead, 6, (some .int), [], [], xcX7_countAhead)) rfl (by show 2 ≤ 6; decide) ?_)
  show xBp K Z 2 6 [] xcX7_countAhead xcX7_countAhead [(0, .ref (B + w)), (1, .int x)] [] _ _
  refine xp_step rfl ?_
  refine xp_step rfl ?_
  refine xp_virt (i := w) hB (by omega) hrv.1 rfl (Nat.le_of_ble_eq_true rfl) rfl (xR_up (by decide) hrow) ?_
  refine xp_step rfl ?_
  refine xp_step rfl ?_
  refine xp_step rfl ?_
  refine xp_step rfl ?_
  refine xp_step rfl ?_
  refine xs_ah0 hB hw i2 ?_ (xcnt (N w 2)) 0 (by omega)
  refine xp_step rfl ?_
  exact xp_ret rfl ⟨fun v q => by cases q; rfl, rfl, rfl⟩
end XAH
