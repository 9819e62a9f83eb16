/-! FORECASTS, RANKS, DENIALS, UNDO, SNAPSHOTS, SHARES -/
theorem xrul_off {N M : Nat → Nat → Int32} {w : Nat} (h : ∀ r, r < 8 → M (w + 3 + r) 8 = N (w + 3 + r) 8) (hr : xrul N w) : xrul M w := fun r hr8 => by rw [h r hr8]; exact hr r hr8
/-- the forecast so many hours later -/
def xFc (N : Nat → Nat → Int32) (n : Nat) : Nat → Nat → Int32 := (xLet (xNcopy N 20 1) 20 n).2
def xFcH (N : Nat → Nat → Int32) (x : Int32) : Nat := if N 1 2 = 0 then 0 else x.toNatClampNeg
def xPkN (N : Nat → Nat → Int32) (x : Int32) : Nat → Int32
  | 0 => xlvl (xFc N 0 (20 + 3 + x.toNatClampNeg) 0) (xFc N 0 (20 + 3 + x.toNatClampNeg) 4)
  | n + 1 => xmax (xPkN N x n) (xlvl (xFc N (n + 1) (20 + 3 + x.toNatClampNeg) 0) (xFc N (n + 1) (20 + 3 + x.toNatClampNeg) 4))
/-- the reach with so many before it, from the n-th on, k looked at -/
def xBy (N : Nat → Nat → Int32) (x : Int32) : Nat → Nat → Option Nat
  | 0, _ => none
  | k + 1, n => if xfAh N 1 (Int32.ofNat n) = x then some n else xBy N x k (n + 1)
def xByR (q : Nat) : Option Nat → xA
  | some n => .ok (some (.int (Int32.ofNat n)))
  | none => .error (3, q)
def xByG (g : xH) : Option Nat → xH
  | some _ => g
  | none => xgx g
section XFO
variable {K : List (Nat × List Value)} {Z : List Value} {pre g : xH} {B L : Nat} {N : Nat → Nat → Int32} {C : Nat → Nat} {P : xA → xH → Prop}
theorem xs_ahead0 (hB : xBok pre B) (hg : B + 253 + g.length < 1000000) {M : Nat → Nat → Int32} {x : Int32} (hx : 0 ≤ x) (l9 : xL) (hl9 : l9 = [(0, .ref (B + 0))]) (kk : xBp K Z 5 4 [] xcX9_ahead (xseek xcX9_ahead 48) [(0, .ref (B + 0))] [] (xHn pre B (xLet M 20 x.toNatClampNeg).2 C L g) P) :
    ∀ k n, n + k = x.toNatClampNeg → xBp K Z 5 4 [] xcX9_ahead (xseek xcX9_ahead 29) [(3, .int (Int32.ofNat n)), (2, .int x), (0, .ref (B + 0))] [] (xHn pre B (xLet M 20 n).2 C L g) P := by
  intro k
  induction k with
  | zero =>
    intro n hn
    obtain rfl : n = x.toNatClampNeg := by omega
    refine xp_step rfl ?_
    refine xp_step rfl ?_
    refine xp_if2 rfl (fun _ => ?_) (fun q => absurd (q.symm.trans (xlp_e hx)) (by decide))
    refine xp_weak ?_ kk
    exact xLe_cons rfl xLe_nil
  | succ k ih =>
    intro n hn
    obtain ⟨f1, f2⟩ := xlp_n (h := x) (n := n) (by omega)
    have ih := ih (n + 1) (by omega)
    refine xp_step rfl ?_
    refine xp_step rfl ?_
    refine xp_if2 rfl (fun q => absurd (q.symm.trans f1) (by decide)) (fun _ => ?_)
    refine xp_step rfl ?_
    refine xp_ref hB (i := 0) (k := 1) (q := 20) (by decide) rfl (by decide) rfl ?_
    refine xp_virt (i := 20) hB (by decide) rfl rfl (Nat.le_of_ble_eq_true rfl) rfl (xR_up (by decide) (xs_pass hB (show 20 ∈ xRbs by decide) hg)) ?_
    refine xp_step rfl ?_
    refine xp_step (st1 := []) (loc1 := [(3, .int (Int32.ofNat n + Int32.ofInt 1)), (2, .int x), (0, .ref (B + 0))]) rfl ?_
    refine xp_jump rfl ?_
    rw [f2]
    exact ih
theorem xo_ahead_ (hB : xBok pre B) (hr : xrul N 1) (x : Int32) (hx : 0 ≤ x) (hg : B + 253 + g.length < 1000000) : xRn K Z 6 112 [.ref (B + 0), .int x] (xHn pre B N C L g) (.ok (some (.ref (B + 20)))) (xHn pre B (xFc N (xFcH N x)) C L g) := by
  have hr1 := xrb_river 1 (by decide)
  refine xRp_eq (xRp_of (m := (yX9_ahead, cX9_ahead, 4, (some (.object "RiverReaches$River")), [], [], xcX9_ahead)) rfl (by show 2 ≤ 4; decide) ?_)
  show xBp K Z 5 4 [] xcX9_ahead xcX9_ahead [(0, .ref (B + 0)), (1, .int x)] [] _ _
  refine xp_step rfl ?_
  refine xp_ref hB (i := 0) (k := 1) (q := 20) (by decide) rfl (by decide) rfl ?_
  refine xp_step rfl ?_
  refine xp_ref hB (i := 0) (k := 0) (q := 1) (by decide) rfl (by decide) rfl ?_
  refine xp_virt (i := 20) hB (by decide) rfl rfl (Nat.le_of_ble_eq_true rfl) rfl (xR_up (by decide) (xs_copy hB (show 20 ∈ xRbs by decide) (show 1 ∈ xRbs by decide) (by decide) hr)) ?_
  refine xp_step rfl ?_
  refine xp_ref hB (i := 0) (k := 0) (q := 1) (by decide) rfl (by decide) rfl ?_
  refine xp_get hB (by decide) hr1.1 (by decide) (hr1.2.2.2.2.2.2.1 _ (by decide) (by decide)) ?_
  rw [show xNcopy N 20 1 1 2 = N 1 2 from by unfold xNcopy; rw [if_neg (by omega)]]
  have fin : ∀ y : Int32, 0 ≤ y → y.toNatClampNeg = xFcH N x → xBp K Z 5 4 [] xcX9_ahead (xseek xcX9_ahead 29) [(3, .int (Int32.ofNat 0)), (2, .int y), (0, .ref (B + 0))] [] (xHn pre B (xNcopy N 20 1) C L g) (fun r h' => (∀ v, r = .ok v → xrfit (some (.object "RiverReaches$River")) v = true) ∧ r = .ok (some (.ref (B + 20))) ∧ h' = xHn pre B (xFc N (xFcH N x)) C L g) := by
    intro y hy he
    refine xs_ahead0 (M := xNcopy N 20 1) hB hg hy _ rfl ?_ y.toNatClampNeg 0 (by omega)
    rw [he]
    refine xp_step rfl ?_
    refine xp_ref hB (i := 0) (k := 1) (q := 20) (by decide) rfl (by decide) rfl ?_
    exact xp_ret rfl ⟨fun v q => by cases q; rfl, rfl, rfl⟩
  refine xp_if1 rfl (fun q => ?_) (fun q => ?_)
  · have q : ¬ N 1 2 = 0 := by simpa [xic] using q
    refine xp_step rfl ?_
    refine xp_step rfl ?_
    refine xp_step rfl ?_
    refine xp_step rfl ?_
    refine xp_weak ?_ (fin x hx (by unfold xFcH; rw [if_neg q]))
    exact xLe_cons rfl (xLe_cons rfl (xLe_cons rfl xLe_nil))
  · have q : N 1 2 = 0 := by simpa [xic] using q
    refine xp_step rfl ?_
    refine xp_jump rfl ?_
    refine xp_step rfl ?_
    refine xp_step rfl ?_
    refine xp_step rfl ?_
    refine xp_weak ?_ (fin 0 (by decide) (by unfold xFcH; rw [if_pos q]; rfl))
    exact xLe_cons rfl (xLe_cons rfl (xLe_cons rfl xLe_nil))
theorem xwin_ge {x a b : Int32} (h : xwin x a b = true) (ha : 0 ≤ a) : 0 ≤ x := by
  unfold xwin at h
  simp only [Bool.and_eq_true, decide_eq_true_eq] at h
  exact Int32.le_trans ha h.1
theorem xo_volAfter_ (hB : xBok pre B) (hr : xrul N 1) (x : Int32) (hx : xwin x 0 48 = true) (hg : B + 253 + g.length < 1000000) : xRn K Z 7 90 [.ref (B + 0), .int x] (xHn pre B N C L g) (.ok (some (.int (xfVol (xFc N (xFcH N x)) 20)))) (xHn pre B (xFc N (xFcH N x)) C L g) := by
  have hq := xs_reqHours (K := K) (Z := Z) (N := N) (L := L) (C := C) (g := g) hB x hg
  rw [if_pos hx, if_pos hx] at hq
  refine xRp_eq (xRp_of (m := (yX9_volumeAfter, cX9_volumeAfter, 2, (some .int), [], [], xcX9_volumeAfter)) rfl (by show 2 ≤ 2; decide) ?_)
  show xBp K Z 6 2 [] xcX9_volumeAfter xcX9_volumeAfter [(0, .ref (B + 0)), (1, .int x)] [] _ _
  refine xp_step rfl ?_
  refine xp_callR rfl (xR_up (by decide) hq) ?_
  refine xp_step rfl ?_
  refine xp_step rfl ?_
  refine xp_virt (i := 0) hB (by decide) rfl rfl (Nat.le_of_ble_eq_true rfl) rfl (xo_ahead_ hB hr x (xwin_ge hx (by decide)) hg) ?_
  refine xp_virt (i := 20) hB (by decide) rfl rfl (Nat.le_of_ble_eq_true rfl) rfl (xR_up (by decide) (xs_vol hB (show 20 ∈ xRbs by decide))) ?_
  exact xp_ret rfl ⟨fun v q => by cases q; rfl, rfl, rfl⟩
theorem xo_volAfterE_ (hB : xBok pre B) (x : Int32) (hx : xwin x 0 48 = false) (hg : B + 253 + g.length < 1000000) : xRn K Z 7 90 [.ref (B + 0), .int x] (xHn pre B N C L g) (.error (1, B + 253 + g.length)) (xHn pre B N C L (xgx g)) := by
  have hq := xs_reqHours (K := K) (Z := Z) (N := N) (L := L) (C := C) (g := g) hB x hg
  rw [if_neg (by rw [hx]; decide), if_neg (by rw [hx]; decide)] at hq
  refine xRp_eq (xRp_of (m := (yX9_volumeAfter, cX9_volumeAfter, 2, (some .int), [], [], xcX9_volumeAfter)) rfl (by show 2 ≤ 2; decide) ?_)
  show xBp K Z 6 2 [] xcX9_volumeAfter xcX9_volumeAfter [(0, .ref (B + 0)), (1, .int x)] [] _ _
  refine xp_step rfl ?_
  exact xp_statP (Nat.le_of_ble_eq_true rfl) rfl (xR_up (by decide) hq) rfl ⟨fun v q => (nomatch q), rfl, rfl⟩
theorem xo_balanceE_ (hB : xBok pre B) (x : Int32) (hx : xwin x 0 48 = false) (hg : B + 253 + g.length < 1000000) : xRn K Z 3 91 [.ref (B + 0), .int x] (xHn pre B N C L g) (.error (1, B + 253 + g.length)) (xHn pre B N C L (xgx g)) := by
  have hq := xs_reqHours (K := K) (Z := Z) (N := N) (L := L) (C := C) (g := g) hB x hg
  rw [if_neg (by rw [hx]; decide), if_neg (by rw [hx]; decide)] at hq
  refine xRp_eq (xRp_of (m := (yX9_volumeAfterByBalance, cX9_volumeAfterByBalance, 5, (some .int), [], [], xcX9_volumeAfterByBalance)) rfl (by show 2 ≤ 5; decide) ?_)
  show xBp K Z 2 5 [] xcX9_volumeAfterByBalance xcX9_volumeAfterByBalance [(0, .ref (B + 0)), (1, .int x)] [] _ _
  refine xp_step rfl ?_
  exact xp_statP (Nat.le_of_ble_eq_true rfl) rfl (xR_up (by decide) hq) rfl ⟨fun v q => (nomatch q), rfl, rfl⟩
theorem xo_levelAfterE0_ (hB : xBok pre B) (x y : Int32) (hh : xhas N 1 x = false) (hg : B + 253 + g.length < 1000000) : xRn K Z 3 87 [.ref (B + 0), .int x, .int y] (xHn pre B N C L g) (.error (0, B + 253 + g.length)) (xHn pre B N C L (xgx g)) := by
  have hq := xs_reqReach (K := K) (Z := Z) (N := N) (L := L) (C := C) (g := g) hB x hg
  rw [if_neg (by rw [hh]; decide), if_neg (by rw [hh]; decide)] at hq
  refine xRp_eq (xRp_of (m := (yX9_levelAfter, cX9_levelAfter, 3, (some .int), [], [], xcX9_levelAfter)) rfl (by show 3 ≤ 3; decide) ?_)
  show xBp K Z 2 3 [] xcX9_levelAfter xcX9_levelAfter [(0, .ref (B + 0)), (1, .int x), (2, .int y)] [] _ _
  refine xp_step rfl ?_
  refine xp_step rfl ?_
  exact xp_virtP (i := 0) hB (by decide) rfl rfl (Nat.le_of_ble_eq_true rfl) rfl (xR_up (by decide) hq) rfl ⟨fun v q => (nomatch q), rfl, rfl⟩
theorem xo_levelAfterE1_ (hB : xBok pre B) (x y : Int32) (hh : xhas N 1 x = true) (hx : xwin y 0 48 = false) (hg : B + 253 + g.length < 1000000) : xRn K Z 3 87 [.ref (B + 0), .int x, .int y] (xHn pre B N C L g) (.error (1, B + 253 + g.length)) (xHn pre B N C L (xgx g)) := by
  have hq0 := xs_reqReach (K := K) (Z := Z) (N := N) (L := L) (C := C) (g := g) hB x hg
  rw [if_pos hh, if_pos hh] at hq0
  have hq := xs_reqHours (K := K) (Z := Z) (N := N) (L := L) (C := C) (g := g) hB y hg
  rw [if_neg (by rw [hx]; decide), if_neg (by rw [hx]; decide)] at hq
  refine xRp_eq (xRp_of (m := (yX9_levelAfter, cX9_levelAfter, 3, (some .int), [], [], xcX9_levelAfter)) rfl (by show 3 ≤ 3; decide) ?_)
  show xBp K Z 2 3 [] xcX9_levelAfter xcX9_levelAfter [(0, .ref (B + 0)), (1, .int x), (2, .int y)] [] _ _
  refine xp_step rfl ?_
  refine xp_step rfl ?_
  refine xp_virt (i := 0) hB (by decide) rfl rfl (Nat.le_of_ble_eq_true rfl) rfl (xR_up (by decide) hq0) ?_
  refine xp_step rfl ?_
  exact xp_statP (Nat.le_of_ble_eq_true rfl) rfl (xR_up (by decide) hq) rfl ⟨fun v q => (nomatch q), rfl, rfl⟩
theorem xo_peakE0_ (hB : xBok pre B) (x y : Int32) (hh : xhas N 1 x = false) (hg : B + 253 + g.length < 1000000) : xRn K Z 7 88 [.ref (B + 0), .int x, .int y] (xHn pre B N C L g) (.error (0, B + 253 + g.length)) (xHn pre B N C L (xgx g)) := by
  have hq := xs_reqReach (K := K) (Z := Z) (N := N) (L := L) (C := C) (g := g) hB x hg
  rw [if_neg (by rw [hh]; decide), if_neg (by rw [hh]; decide)] at hq
  refine xRp_eq (xRp_of (m := (yX9_peakLevel, cX9_peakLevel, 6, (some .int), [], [], xcX9_peakLevel)) rfl (by show 3 ≤ 6; decide) ?_)
  show xBp K Z 6 6 [] xcX9_peakLevel xcX9_peakLevel [(0, .ref (B + 0)), (1, .int x), (2, .int y)] [] _ _
  refine xp_step rfl ?_
  refine xp_step rfl ?_
  exact xp_virtP (i := 0) hB (by decide) rfl rfl (Nat.le_of_ble_eq_true rfl) rfl (xR_up (by decide) hq) rfl ⟨fun v q => (nomatch q), rfl, rfl⟩
theorem xo_peakE1_ (hB : xBok pre B) (x y : Int32) (hh : xhas N 1 x = true) (hx : xwin y 0 48 = false) (hg : B + 253 + g.length < 1000000) : xRn K Z 7 88 [.ref (B + 0), .int x, .int y] (xHn pre B N C L g) (.error (1, B + 253 + g.length)) (xHn pre B N C L (xgx g)) := by
  have hq0 := xs_reqReach (K := K) (Z := Z) (N := N) (L := L) (C := C) (g := g) hB x hg
  rw [if_pos hh, if_pos hh] at hq0
  have hq := xs_reqHours (K := K) (Z := Z) (N := N) (L := L) (C := C) (g := g) hB y hg
  rw [if_neg (by rw [hx]; decide), if_neg (by rw [hx]; decide)] at hq
  refine xRp_eq (xRp_of (m := (yX9_peakLevel, cX9_peakLevel, 6, (some .int), [], [], xcX9_peakLevel)) rfl (by show 3 ≤ 6; decide) ?_)
  show xBp K Z 6 6 [] xcX9_peakLevel xcX9_peakLevel [(0, .ref (B + 0)), (1, .int x), (2, .int y)] [] _ _
  refine xp_step rfl ?_
  refine xp_step rfl ?_
  refine xp_virt (i := 0) hB (by decide) rfl rfl (Nat.le_of_ble_eq_true rfl) rfl (xR_up (by decide) hq0) ?_
  refine xp_step rfl ?_
  exact xp_statP (Nat.le_of_ble_eq_true rfl) rfl (xR_up (by decide) hq) rfl ⟨fun v q => (nomatch q), rfl, rfl⟩
theorem xo_untilE0_ (hB : xBok pre B) (x : Int32) (hh : xhas N 1 x = false) (hg : B + 253 + g.length < 1000000) : xRn K Z 3 89 [.ref (B + 0), .int x] (xHn pre B N C L g) (.error (0, B + 253 + g.length)) (xHn pre B N C L (xgx g)) := by
  have hq := xs_reqReach (K := K) (Z := Z) (N := N) (L := L) (C := C) (g := g) hB x hg
  rw [if_neg (by rw [hh]; decide), if_neg (by rw [hh]; decide)] at hq
  refine xRp_eq (xRp_of (m := (yX9_hoursUntilFlood, cX9_hoursUntilFlood, 4, (some .int), [], [], xcX9_hoursUntilFlood)) rfl (by show 2 ≤ 4; decide) ?_)
  show xBp K Z 2 4 [] xcX9_hoursUntilFlood xcX9_hoursUntilFlood [(0, .ref (B + 0)), (1, .int x)] [] _ _
  refine xp_step rfl ?_
  refine xp_step rfl ?_
  exact xp_virtP (i := 0) hB (by decide) rfl rfl (Nat.le_of_ble_eq_true rfl) rfl (xR_up (by decide) hq) rfl ⟨fun v q => (nomatch q), rfl, rfl⟩
theorem xFc_cnt {N : Nat → Nat → Int32} {n : Nat} : xFc N 0 20 2 = N 1 2 := by
  show xNcopy N 20 1 20 2 = _
  unfold xNcopy
  rw [if_pos (by omega)]
theorem xs_peak0 (hB : xBok pre B) (hg : B + 253 + g.length < 1000000) {x y : Int32} (hy : 0 ≤ y) (i2 : x.toNatClampNeg < 8) (kk : xBp K Z 6 6 [] xcX9_peakLevel (xseek xcX9_peakLevel 59) [(4, .int (xPkN N x y.toNatClampNeg))] [] (xHn pre B (xFc N y.toNatClampNeg) C L g) P) :
    ∀ k n, n + k = y.toNatClampNeg → xBp K Z 6 6 [] xcX9_peakLevel (xseek xcX9_peakLevel 28) [(5, .int (Int32.ofNat n)), (4, .int (xPkN N x n)), (3, .ref (B + (20 + 3 + x.toNatClampNeg))), (0, .ref (B + 0)), (2, .int y)] [] (xHn pre B (xFc N n) C L g) P := by
  have rr := xrb_reach 20 (by decide) _ i2
  intro k
  induction k with
  | zero =>
    intro n hn
    obtain rfl : n = y.toNatClampNeg := by omega
    refine xp_step rfl ?_
    refine xp_step rfl ?_
    refine xp_if2 rfl (fun _ => ?_) (fun q => absurd (q.symm.trans (xlp_e hy)) (by decide))
    refine xp_weak ?_ kk
    exact xLe_cons rfl xLe_nil
  | succ k ih =>
    intro n hn
    obtain ⟨f1, f2⟩ := xlp_n (h := y) (n := n) (by omega)
    have ih := ih (n + 1) (by omega)
    refine xp_step rfl ?_
    refine xp_step rfl ?_
    refine xp_if2 rfl (fun q => absurd (q.symm.trans f1) (by decide)) (fun _ => ?_)
    refine xp_step rfl ?_
    refine xp_ref hB (i := 0) (k := 1) (q := 20) (by decide) rfl (by decide) rfl ?_
    refine xp_virt (i := 20) hB (by decide) rfl rfl (Nat.le_of_ble_eq_true rfl) rfl (xR_up (by decide) (xs_pass hB (show 20 ∈ xRbs by decide) hg)) ?_
    change xBp K Z 6 6 [] xcX9_peakLevel _ _ _ (xHn pre B (xFc N (n + 1)) C L g) _
    refine xp_step rfl ?_
    refine xp_step rfl ?_
    refine xp_step rfl ?_
    refine xp_virt (i := 20 + 3 + x.toNatClampNeg) hB (by omega) rr.1 rfl (Nat.le_of_ble_eq_true rfl) rfl (xR_up (by decide) (xs_level hB (show 20 ∈ xRbs by decide) i2)) ?_
    refine xp_callR rfl (xR_up (by decide) (xs_max _ _ _)) ?_
    refine xp_step rfl ?_
    refine xp_step rfl ?_
    refine xp_jump rfl ?_
    rw [f2]
    refine xp_weak ?_ ih
    exact xLe_cons rfl (xLe_cons rfl (xLe_cons rfl (xLe_cons rfl (xLe_cons rfl xLe_nil))))
theorem xo_peak_ (hB : xBok pre B) (hr : xrul N 1) (x y : Int32) (hh : xhas N 1 x = true) (hx : xwin y 0 48 = true) (hg : B + 253 + g.length < 1000000) : xRn K Z 7 88 [.ref (B + 0), .int x, .int y] (xHn pre B N C L g) (.ok (some (.int (xPkN N x y.toNatClampNeg)))) (xHn pre B (xFc N y.toNatClampNeg) C L g) := by
  have hq0 := xs_reqReach (K := K) (Z := Z) (N := N) (L := L) (C := C) (g := g) hB x hg
  rw [if_pos hh, if_pos hh] at hq0
  have hq := xs_reqHours (K := K) (Z := Z) (N := N) (L := L) (C := C) (g := g) hB y hg
  rw [if_pos hx, if_pos hx] at hq
  have h20 : xhas (xFc N 0) 20 x = true := by
    unfold xhas at hh ⊢
    rw [show xFc N 0 20 2 = N 1 2 from xFc_cnt (n := 0)]
    exact hh
  have hrow := xs_row (K := K) (Z := Z) (N := xFc N 0) (L := L) (C := C) (g := g) hB (show 20 ∈ xRbs by decide) x hg
  rw [if_pos h20, if_pos h20] at hrow
  have hyes' := hh
  unfold xhas at hyes'
  simp only [Bool.and_eq_true, decide_eq_true_eq] at hyes'
  obtain ⟨-, i2⟩ := xin8 hyes'.1 hyes'.2.2
  have rr := xrb_reach 20 (by decide) _ i2
  have hah := xo_ahead_ (K := K) (Z := Z) (L := L) (C := C) (g := g) hB hr 0 (by decide) hg
  rw [show xFcH N 0 = 0 from by unfold xFcH; split <;> rfl] at hah
  refine xRp_eq (xRp_of (m := (yX9_peakLevel, cX9_peakLevel, 6, (some .int), [], [], xcX9_peakLevel)) rfl (by show 3 ≤ 6; decide) ?_)
  show xBp K Z 6 6 [] xcX9_peakLevel xcX9_peakLevel [(0, .ref (B + 0)), (1, .int x), (2, .int y)] [] _ _
  refine xp_step rfl ?_
  refine xp_step rfl ?_
  refine xp_virt (i := 0) hB (by decide) rfl rfl (Nat.le_of_ble_eq_true rfl) rfl (xR_up (by decide) hq0) ?_
  refine xp_step rfl ?_
  refine xp_callR rfl (xR_up (by decide) hq) ?_
  refine xp_step rfl ?_
  refine xp_step rfl ?_
  refine xp_virt (i := 0) hB (by decide) rfl rfl (Nat.le_of_ble_eq_true rfl) rfl hah ?_
  refine xp_step rfl ?_
  refine xp_virt (i := 20) hB (by decide) rfl rfl (Nat.le_of_ble_eq_true rfl) rfl (xR_up (by decide) hrow) ?_
  refine xp_step rfl ?_
  refine xp_step rfl ?_
  refine xp_virt (i := 20 + 3 + x.toNatClampNeg) hB (by omega) rr.1 rfl (Nat.le_of_ble_eq_true rfl) rfl (xR_up (by decide) (xs_level hB (show 20 ∈ xRbs by decide) i2)) ?_
  refine xp_step rfl ?_
  refine xp_step rfl ?_
  refine xp_step rfl ?_
  refine xp_weak ?_ (xs_peak0 (N := N) hB hg (x := x) (y := y) (xwin_ge hx (by decide)) i2 ?_ y.toNatClampNeg 0 (by omega))
  · exact xLe_cons rfl (xLe_cons rfl (xLe_cons rfl (xLe_cons rfl (xLe_cons rfl xLe_nil))))
  refine xp_step rfl ?_
  exact xp_ret rfl ⟨fun v q => by cases q; rfl, rfl, rfl⟩
theorem xs_by0 (hB : xBok pre B) (hg : B + 253 + g.length < 1000000) (x : Int32) (h0 : 0 ≤ N 1 2) (h8 : N 1 2 ≤ 8) :
    ∀ k n, n + k = (N 1 2).toNatClampNeg → xBp K Z 3 3 [] xcX9_reachByLevel (xseek xcX9_reachByLevel 2) [(2, .int (Int32.ofNat n)), (0, .ref (B + 0)), (1, .int x)] [] (xHn pre B N C L g) (fun r h' => (∀ v, r = .ok v → xrfit (some .int) v = true) ∧ r = xByR (B + 253 + g.length) (xBy N x k n) ∧ h' = xHn pre B N C L (xByG g (xBy N x k n))) := by
  have hr1 := xrb_river 1 (by decide)
  have m2 : (N 1 2).toNatClampNeg ≤ 8 := by
    have a := Int32.le_iff_toInt_le.mp h8
    rw [show (8 : Int32).toInt = 8 from rfl] at a
    have := (xlp_max (N 1 2)).2
    omega
  intro k
  induction k with
  | zero =>
    intro n hn
    obtain rfl : n = (N 1 2).toNatClampNeg := by omega
    refine xp_step rfl ?_
    refine xp_step rfl ?_
    refine xp_ref hB (i := 0) (k := 0) (q := 1) (by decide) rfl (by decide) rfl ?_
    refine xp_get hB (by decide) hr1.1 (by decide) (hr1.2.2.2.2.2.2.1 _ (by decide) (by decide)) ?_
    refine xp_if2 rfl (fun _ => ?_) (fun q => absurd (q.symm.trans (xlp_e h0)) (by decide))
    refine xp_new (E := 3) (h1 := xHn pre B N C L g) rfl (by rw [xHn_len hB]; exact hg) ⟨fun v q => (nomatch q), ?_, ?_⟩
    · rw [xHn_len hB]; rfl
    · rw [xHn_app]; rfl
  | succ k ih =>
    intro n hn
    obtain ⟨f1, f2⟩ := xlp_n (h := N 1 2) (n := n) (by omega)
    have ih := ih (n + 1) (by omega)
    have hlt : Int32.ofNat n < N 1 2 := Int32.not_le.mp (of_decide_eq_false f1)
    refine xp_step rfl ?_
    refine xp_step rfl ?_
    refine xp_ref hB (i := 0) (k := 0) (q := 1) (by decide) rfl (by decide) rfl ?_
    refine xp_get hB (by decide) hr1.1 (by decide) (hr1.2.2.2.2.2.2.1 _ (by decide) (by decide)) ?_
    refine xp_if2 rfl (fun q => absurd (q.symm.trans f1) (by decide)) (fun _ => ?_)
    refine xp_step rfl ?_
    refine xp_ref hB (i := 0) (k := 0) (q := 1) (by decide) rfl (by decide) rfl ?_
    refine xp_step rfl ?_
    refine xp_virt (i := 1) hB (by decide) rfl rfl (Nat.le_of_ble_eq_true rfl) rfl (xs_ah hB (show 1 ∈ xRbs by decide) _ (xhas_n (by omega) hlt) hg) ?_
    refine xp_step rfl ?_
    refine xp_if2 rfl (fun q => ?_) (fun q => ?_)
    · have q : ¬ xfAh N 1 (Int32.ofNat n) = x := by simpa [xic] using q
      rw [xBy, if_neg q]
      refine xp_step rfl ?_
      refine xp_jump rfl ?_
      rw [f2]
      refine xp_weak ?_ ih
      exact xLe_cons rfl (xLe_cons rfl (xLe_cons rfl xLe_nil))
    · have q : xfAh N 1 (Int32.ofNat n) = x := by simpa [xic] using q
      rw [xBy, if_pos q]
      refine xp_step rfl ?_
      exact xp_ret rfl ⟨fun v q => by cases q; rfl, rfl, rfl⟩
theorem xo_by_ (hB : xBok pre B) (x : Int32) (h0 : 0 ≤ N 1 2) (h8 : N 1 2 ≤ 8) (hg : B + 253 + g.length < 1000000) : xRn K Z 4 80 [.ref (B + 0), .int x] (xHn pre B N C L g) (xByR (B + 253 + g.length) (xBy N x (N 1 2).toNatClampNeg 0)) (xHn pre B N C L (xByG g (xBy N x (N 1 2).toNatClampNeg 0))) := by
  refine xRp_eq (xRp_of (m := (yX9_reachByLevel, cX9_reachByLevel, 3, (some .int), [], [], xcX9_reachByLevel)) rfl (by show 2 ≤ 3; decide) ?_)
  show xBp K Z 3 3 [] xcX9_reachByLevel xcX9_reachByLevel [(0, .ref (B + 0)), (1, .int x)] [] _ _
  refine xp_step rfl ?_
  refine xp_step rfl ?_
  refine xp_weak ?_ (xs_by0 hB hg x h0 h8 (N 1 2).toNatClampNeg 0 (by omega))
  exact xLe_cons rfl (xLe_cons rfl (xLe_cons rfl xLe_nil))
theorem xo_denial_ (hB : xBok pre B) (hg : B + 253 + g.length < 1000000) : xRn K Z 3 102 [.ref (B + 0)] (xHn pre B N C L g) (if N 250 0 = 0 then .error (3, B + 253 + g.length) else .ok (some (.int (N 250 0)))) (xHn pre B N C L (if N 250 0 = 0 then xgx g else g)) := by
  have hq := xs_reqDenial (K := K) (Z := Z) (N := N) (L := L) (C := C) (g := g) hB (N 250 0) hg
  refine xRp_eq (xRp_of (m := (yX9_denial, cX9_denial, 1, (some .int), [], [], xcX9_denial)) rfl (by show 1 ≤ 1; decide) ?_)
  show xBp K Z 2 1 [] xcX9_denial xcX9_denial [(0, .ref (B + 0))] [] _ _
  refine xp_step rfl ?_
  refine xp_ref hB (i := 0) (k := 5) (q := 250) (by decide) rfl (by decide) rfl ?_
  refine xp_get hB (i := 250) (k := 0) (by decide) rfl (by decide) (by decide) ?_
  by_cases q : N 250 0 = 0
  · rw [if_pos q, if_pos q] at hq ⊢
    exact xp_statP (Nat.le_of_ble_eq_true rfl) rfl (xR_up (by decide) hq) rfl ⟨fun v q => (nomatch q), rfl, rfl⟩
  · rw [if_neg q, if_neg q] at hq ⊢
    refine xp_callR rfl (xR_up (by decide) hq) ?_
    refine xp_step rfl ?_
    refine xp_ref hB (i := 0) (k := 5) (q := 250) (by decide) rfl (by decide) rfl ?_
    refine xp_get hB (i := 250) (k := 0) (by decide) rfl (by decide) (by decide) ?_
    exact xp_ret rfl ⟨fun v q => by cases q; rfl, rfl, rfl⟩
theorem xo_denialDetail_ (hB : xBok pre B) (hg : B + 253 + g.length < 1000000) : xRn K Z 3 103 [.ref (B + 0)] (xHn pre B N C L g) (if N 250 0 = 0 then .error (3, B + 253 + g.length) else .ok (some (.int (N 250 1)))) (xHn pre B N C L (if N 250 0 = 0 then xgx g else g)) := by
  have hq := xs_reqDenial (K := K) (Z := Z) (N := N) (L := L) (C := C) (g := g) hB (N 250 0) hg
  refine xRp_eq (xRp_of (m := (yX9_denialDetail, cX9_denialDetail, 1, (some .int), [], [], xcX9_denialDetail)) rfl (by show 1 ≤ 1; decide) ?_)
  show xBp K Z 2 1 [] xcX9_denialDetail xcX9_denialDetail [(0, .ref (B + 0))] [] _ _
  refine xp_step rfl ?_
  refine xp_ref hB (i := 0) (k := 5) (q := 250) (by decide) rfl (by decide) rfl ?_
  refine xp_get hB (i := 250) (k := 0) (by decide) rfl (by decide) (by decide) ?_
  by_cases q : N 250 0 = 0
  · rw [if_pos q, if_pos q] at hq ⊢
    exact xp_statP (Nat.le_of_ble_eq_true rfl) rfl (xR_up (by decide) hq) rfl ⟨fun v q => (nomatch q), rfl, rfl⟩
  · rw [if_neg q, if_neg q] at hq ⊢
    refine xp_callR rfl (xR_up (by decide) hq) ?_
    refine xp_step rfl ?_
    refine xp_ref hB (i := 0) (k := 5) (q := 250) (by decide) rfl (by decide) rfl ?_
    refine xp_get hB (i := 250) (k := 1) (by decide) rfl (by decide) (by decide) ?_
    exact xp_ret rfl ⟨fun v q => by cases q; rfl, rfl, rfl⟩
theorem xo_denialCause_ (hB : xBok pre B) (hg : B + 253 + g.length < 1000000) : xRn K Z 3 104 [.ref (B + 0)] (xHn pre B N C L g) (if N 250 2 = 0 then .error (3, B + 253 + g.length) else .ok (some (.int (N 250 2)))) (xHn pre B N C L (if N 250 2 = 0 then xgx g else g)) := by
  have hq := xs_reqDenial (K := K) (Z := Z) (N := N) (L := L) (C := C) (g := g) hB (N 250 2) hg
  refine xRp_eq (xRp_of (m := (yX9_denialCause, cX9_denialCause, 1, (some .int), [], [], xcX9_denialCause)) rfl (by show 1 ≤ 1; decide) ?_)
  show xBp K Z 2 1 [] xcX9_denialCause xcX9_denialCause [(0, .ref (B + 0))] [] _ _
  refine xp_step rfl ?_
  refine xp_ref hB (i := 0) (k := 5) (q := 250) (by decide) rfl (by decide) rfl ?_
  refine xp_get hB (i := 250) (k := 2) (by decide) rfl (by decide) (by decide) ?_
  by_cases q : N 250 2 = 0
  · rw [if_pos q, if_pos q] at hq ⊢
    exact xp_statP (Nat.le_of_ble_eq_true rfl) rfl (xR_up (by decide) hq) rfl ⟨fun v q => (nomatch q), rfl, rfl⟩
  · rw [if_neg q, if_neg q] at hq ⊢
    refine xp_callR rfl (xR_up (by decide) hq) ?_
    refine xp_step rfl ?_
    refine xp_ref hB (i := 0) (k := 5) (q := 250) (by decide) rfl (by decide) rfl ?_
    refine xp_get hB (i := 250) (k := 2) (by decide) rfl (by decide) (by decide) ?_
    exact xp_ret rfl ⟨fun v q => by cases q; rfl, rfl, rfl⟩
theorem xo_denialCauseDetail_ (hB : xBok pre B) (hg : B + 253 + g.length < 1000000) : xRn K Z 3 105 [.ref (B + 0)] (xHn pre B N C L g) (if N 250 2 = 0 then .error (3, B + 253 + g.length) else .ok (some (.int (N 250 3)))) (xHn pre B N C L (if N 250 2 = 0 then xgx g else g)) := by
  have hq := xs_reqDenial (K := K) (Z := Z) (N := N) (L := L) (C := C) (g := g) hB (N 250 2) hg
  refine xRp_eq (xRp_of (m := (yX9_denialCauseDetail, cX9_denialCauseDetail, 1, (some .int), [], [], xcX9_denialCauseDetail)) rfl (by show 1 ≤ 1; decide) ?_)
  show xBp K Z 2 1 [] xcX9_denialCauseDetail xcX9_denialCauseDetail [(0, .ref (B + 0))] [] _ _
  refine xp_step rfl ?_
  refine xp_ref hB (i := 0) (k := 5) (q := 250) (by decide) rfl (by decide) rfl ?_
  refine xp_get hB (i := 250) (k := 2) (by decide) rfl (by decide) (by decide) ?_
  by_cases q : N 250 2 = 0
  · rw [if_pos q, if_pos q] at hq ⊢
    exact xp_statP (Nat.le_of_ble_eq_true rfl) rfl (xR_up (by decide) hq) rfl ⟨fun v q => (nomatch q), rfl, rfl⟩
  · rw [if_neg q, if_neg q] at hq ⊢
    refine xp_callR rfl (xR_up (by decide) hq) ?_
    refine xp_step rfl ?_
    refine xp_ref hB (i := 0) (k := 5) (q := 250) (by decide) rfl (by decide) rfl ?_
    refine xp_get hB (i := 250) (k := 3) (by decide) rfl (by decide) (by decide) ?_
    exact xp_ret rfl ⟨fun v q => by cases q; rfl, rfl, rfl⟩
theorem xo_fault_ (hB : xBok pre B) (hg : B + 253 + g.length < 1000000) : xRn K Z 1 99 [.ref (B + 0)] (xHn pre B N C L g) (if N 0 8 = -1 then .error (3, B + 253 + g.length) else .ok (some (.int (N 0 8)))) (xHn pre B N C L (if N 0 8 = -1 then xgx g else g)) := by
  refine xRp_eq (xRp_of (m := (yX9_faultPosition, cX9_faultPosition, 1, (some .int), [], [], xcX9_faultPosition)) rfl (by show 1 ≤ 1; decide) ?_)
  show xBp K Z 0 1 [] xcX9_faultPosition xcX9_faultPosition [(0, .ref (B + 0))] [] _ _
  refine xp_step rfl ?_
  refine xp_get hB (i := 0) (k := 8) (by decide) rfl (by decide) (by decide) ?_
  refine xp_step rfl ?_
  refine xp_if2 rfl (fun q => ?_) (fun q => ?_)
  · have q : ¬ N 0 8 = -1 := by simpa [xic] using q
    rw [if_neg q, if_neg q]
    refine xp_step rfl ?_
    refine xp_get hB (i := 0) (k := 8) (by decide) rfl (by decide) (by decide) ?_
    exact xp_ret rfl ⟨fun v q => by cases q; rfl, rfl, rfl⟩
  · have q : N 0 8 = -1 := by simpa [xic] using q
    rw [if_pos q, if_pos q]
    refine xp_new (E := 3) (h1 := xHn pre B N C L g) rfl (by rw [xHn_len hB]; exact hg) ⟨fun v q => (nomatch q), ?_, ?_⟩
    · rw [xHn_len hB]
    · rw [xHn_app]; rfl
theorem xo_undoE_ (hB : xBok pre B) (h0 : N 58 2 = 0) (hg : B + 253 + g.length < 1000000) : xRn K Z 1 106 [.ref (B + 0)] (xHn pre B N C L g) (.error (4, B + 253 + g.length)) (xHn pre B N C L (xgx g)) := by
  refine xRp_eq (xRp_of (m := (yX9_undo, cX9_undo, 1, (some .int), [], [], xcX9_undo)) rfl (by show 1 ≤ 1; decide) ?_)
  show xBp K Z 0 1 [] xcX9_undo xcX9_undo [(0, .ref (B + 0))] [] _ _
  refine xp_step rfl ?_
  refine xp_ref hB (i := 0) (k := 3) (q := 58) (by decide) rfl (by decide) rfl ?_
  refine xp_get hB (i := 58) (k := 2) (by decide) rfl (by decide) (by decide) ?_
  refine xp_if1 rfl (fun q => ?_) (fun q => ?_)
  · have q : ¬ N 58 2 = 0 := by simpa [xic] using q
    exact absurd h0 q
  · skip
    refine xp_new (E := 4) (h1 := xHn pre B N C L g) rfl (by rw [xHn_len hB]; exact hg) ⟨fun v q => (nomatch q), ?_, ?_⟩
    · rw [xHn_len hB]
    · rw [xHn_app]; rfl
theorem xo_undo_ (hB : xBok pre B) (h0 : ¬ N 58 2 = 0) (hx : xwin (xNtake N 58 1) 0 8 = true) (hr : xrul (xNtake N) (60 + 19 * xNx (xNtake N))) : xRn K Z 4 106 [.ref (B + 0)] (xHn pre B N C L g) (.ok (some (.int (N 58 2 - 1)))) (xHn pre B (xNcopy (xNtake N) 1 (60 + 19 * xNx (xNtake N))) C L g) := by
  refine xRp_eq (xRp_of (m := (yX9_undo, cX9_undo, 1, (some .int), [], [], xcX9_undo)) rfl (by show 1 ≤ 1; decide) ?_)
  show xBp K Z 3 1 [] xcX9_undo xcX9_undo [(0, .ref (B + 0))] [] _ _
  refine xp_step rfl ?_
  refine xp_ref hB (i := 0) (k := 3) (q := 58) (by decide) rfl (by decide) rfl ?_
  refine xp_get hB (i := 58) (k := 2) (by decide) rfl (by decide) (by decide) ?_
  refine xp_if1 rfl (fun q => ?_) (fun q => absurd (show N 58 2 = 0 by simpa [xic] using q) h0)
  refine xp_step rfl ?_
  refine xp_ref hB (i := 0) (k := 3) (q := 58) (by decide) rfl (by decide) rfl ?_
  refine xp_step rfl ?_
  refine xp_ref hB (i := 0) (k := 0) (q := 1) (by decide) rfl (by decide) rfl ?_
  refine xp_virt (i := 58) hB (by decide) rfl rfl (Nat.le_of_ble_eq_true rfl) rfl (xs_takeBack hB hx hr) ?_
  refine xp_step rfl ?_
  refine xp_ref hB (i := 0) (k := 3) (q := 58) (by decide) rfl (by decide) rfl ?_
  refine xp_get hB (i := 58) (k := 2) (by decide) rfl (by decide) (by decide) ?_
  have hw1 : xNx (xNtake N) < 9 := (xwin9 hx).2
  refine xp_ret rfl ⟨fun v q => by cases q; rfl, ?_, rfl⟩
  rw [show xNcopy (xNtake N) 1 (60 + 19 * xNx (xNtake N)) 58 2 = N 58 2 - 1 from by
    unfold xNcopy
    rw [if_neg (by omega)]
    unfold xNtake xupN
    rw [if_pos ⟨rfl, rfl⟩]]
theorem xo_save_ (hB : xBok pre B) (hr : xrul N 1) : xRn K Z 3 108 [.ref (B + 0)] (xHn pre B N C L g) (.ok (some (.int (N 1 2)))) (xHn pre B (xupN (xNcopy N 39 1) 0 7 1) C L g) := by
  have hr1 := xrb_river 1 (by decide)
  refine xRp_eq (xRp_of (m := (yX9_saveSnapshot, cX9_saveSnapshot, 1, (some .int), [], [], xcX9_saveSnapshot)) rfl (by show 1 ≤ 1; decide) ?_)
  show xBp K Z 2 1 [] xcX9_saveSnapshot xcX9_saveSnapshot [(0, .ref (B + 0))] [] _ _
  refine xp_step rfl ?_
  refine xp_ref hB (i := 0) (k := 2) (q := 39) (by decide) rfl (by decide) rfl ?_
  refine xp_step rfl ?_
  refine xp_ref hB (i := 0) (k := 0) (q := 1) (by decide) rfl (by decide) rfl ?_
  refine xp_virt (i := 39) hB (by decide) rfl rfl (Nat.le_of_ble_eq_true rfl) rfl (xs_copy hB (show 39 ∈ xRbs by decide) (show 1 ∈ xRbs by decide) (by decide) hr) ?_
  refine xp_step rfl ?_
  refine xp_step rfl ?_
  refine xp_put (x := 1) hB (i := 0) (k := 7) (by decide) rfl (by decide) (by decide) rfl ?_
  refine xp_step rfl ?_
  refine xp_ref hB (i := 0) (k := 0) (q := 1) (by decide) rfl (by decide) rfl ?_
  refine xp_get hB (by decide) hr1.1 (by decide) (hr1.2.2.2.2.2.2.1 _ (by decide) (by decide)) ?_
  refine xp_ret rfl ⟨fun v q => by cases q; rfl, ?_, rfl⟩
  rw [show xupN (xNcopy N 39 1) 0 7 1 1 2 = N 1 2 from by
    unfold xupN xNcopy
    rw [if_neg (by omega), if_neg (by omega)]]
theorem xo_restoreE_ (hB : xBok pre B) (h0 : N 0 7 = 0) (hg : B + 253 + g.length < 1000000) : xRn K Z 1 109 [.ref (B + 0)] (xHn pre B N C L g) (.error (4, B + 253 + g.length)) (xHn pre B N C L (xgx g)) := by
  refine xRp_eq (xRp_of (m := (yX9_restoreSnapshot, cX9_restoreSnapshot, 1, (some .int), [], [], xcX9_restoreSnapshot)) rfl (by show 1 ≤ 1; decide) ?_)
  show xBp K Z 0 1 [] xcX9_restoreSnapshot xcX9_restoreSnapshot [(0, .ref (B + 0))] [] _ _
  refine xp_step rfl ?_
  refine xp_get hB (i := 0) (k := 7) (by decide) rfl (by decide) (by decide) ?_
  refine xp_if1 rfl (fun q => ?_) (fun q => ?_)
  · have q : ¬ N 0 7 = 0 := by simpa [xic] using q
    exact absurd h0 q
  · skip
    refine xp_new (E := 4) (h1 := xHn pre B N C L g) rfl (by rw [xHn_len hB]; exact hg) ⟨fun v q => (nomatch q), ?_, ?_⟩
    · rw [xHn_len hB]
    · rw [xHn_app]; rfl
theorem xo_restore_ (hB : xBok pre B) (h0 : ¬ N 0 7 = 0) (hr : xrul N 39) : xRn K Z 3 109 [.ref (B + 0)] (xHn pre B N C L g) (.ok (some (.int (N 39 2)))) (xHn pre B (xupN (xNcopy N 1 39) 58 2 0) C L g) := by
  have hr1 := xrb_river 1 (by decide)
  refine xRp_eq (xRp_of (m := (yX9_restoreSnapshot, cX9_restoreSnapshot, 1, (some .int), [], [], xcX9_restoreSnapshot)) rfl (by show 1 ≤ 1; decide) ?_)
  show xBp K Z 2 1 [] xcX9_restoreSnapshot xcX9_restoreSnapshot [(0, .ref (B + 0))] [] _ _
  refine xp_step rfl ?_
  refine xp_get hB (i := 0) (k := 7) (by decide) rfl (by decide) (by decide) ?_
  refine xp_if1 rfl (fun q => ?_) (fun q => absurd (show N 0 7 = 0 by simpa [xic] using q) h0)
  refine xp_step rfl ?_
  refine xp_ref hB (i := 0) (k := 0) (q := 1) (by decide) rfl (by decide) rfl ?_
  refine xp_step rfl ?_
  refine xp_ref hB (i := 0) (k := 2) (q := 39) (by decide) rfl (by decide) rfl ?_
  refine xp_virt (i := 1) hB (by decide) rfl rfl (Nat.le_of_ble_eq_true rfl) rfl (xs_copy hB (show 1 ∈ xRbs by decide) (show 39 ∈ xRbs by decide) (by decide) hr) ?_
  refine xp_step rfl ?_
  refine xp_ref hB (i := 0) (k := 3) (q := 58) (by decide) rfl (by decide) rfl ?_
  refine xp_virt (i := 58) hB (by decide) rfl rfl (Nat.le_of_ble_eq_true rfl) rfl (xR_up (by decide) (xs_forget hB)) ?_
  refine xp_step rfl ?_
  refine xp_ref hB (i := 0) (k := 0) (q := 1) (by decide) rfl (by decide) rfl ?_
  refine xp_get hB (by decide) hr1.1 (by decide) (hr1.2.2.2.2.2.2.1 _ (by decide) (by decide)) ?_
  refine xp_ret rfl ⟨fun v q => by cases q; rfl, ?_, rfl⟩
  rw [show xupN (xNcopy N 1 39) 58 2 0 1 2 = N 39 2 from by
    unfold xupN xNcopy
    rw [if_neg (by omega), if_pos (by omega)]]
/-! shares: no number over no number -/
def xMean (N : Nat → Nat → Int32) : UInt64 := FP.ddiv (FP.i2d (xfLvs N 1)) (FP.i2d (N 1 2))
def xShare (N : Nat → Nat → Int32) : UInt32 := FP.fdiv (FP.i2f (xfFl N 1)) (FP.i2f (N 1 2))
theorem xo_mean_ (hB : xBok pre B) (hn : ¬ N 1 2 = 0 → xMean N &&& 0x7fffffffffffffff ≤ 0x7ff0000000000000) (hg : B + 253 + g.length < 1000000) : xRn K Z 4 95 [.ref (B + 0)] (xHn pre B N C L g) (if N 1 2 = 0 then .error (5, B + 253 + g.length) else .ok (some (.double (xMean N)))) (xHn pre B N C L (if N 1 2 = 0 then xgx g else g)) := by
  have hr1 := xrb_river 1 (by decide)
  refine xRp_eq (xRp_of (m := (yX9_meanLevel, cX9_meanLevel, 1, (some .double), [], [], xcX9_meanLevel)) rfl (by show 1 ≤ 1; decide) ?_)
  show xBp K Z 3 1 [] xcX9_meanLevel xcX9_meanLevel [(0, .ref (B + 0))] [] _ _
  refine xp_step rfl ?_
  refine xp_ref hB (i := 0) (k := 0) (q := 1) (by decide) rfl (by decide) rfl ?_
  refine xp_get hB (by decide) hr1.1 (by decide) (hr1.2.2.2.2.2.2.1 _ (by decide) (by decide)) ?_
  refine xp_if1 rfl (fun q => ?_) (fun q => ?_)
  · have q : ¬ N 1 2 = 0 := by simpa [xic] using q
    rw [if_neg q, if_neg q]
    refine xp_step rfl ?_
    refine xp_ref hB (i := 0) (k := 0) (q := 1) (by decide) rfl (by decide) rfl ?_
    refine xp_virt (i := 1) hB (by decide) rfl rfl (Nat.le_of_ble_eq_true rfl) rfl (xR_up (by decide) (xs_lvs hB (show 1 ∈ xRbs by decide))) ?_
    refine xp_step rfl ?_
    refine xp_step rfl ?_
    refine xp_ref hB (i := 0) (k := 0) (q := 1) (by decide) rfl (by decide) rfl ?_
    refine xp_get hB (by decide) hr1.1 (by decide) (hr1.2.2.2.2.2.2.1 _ (by decide) (by decide)) ?_
    refine xp_step rfl ?_
    refine xp_step (loc1 := [(0, .ref (B + 0))]) (st1 := [.double (xMean N)]) (h1 := xHn pre B N C L g) ?_ (xp_ret rfl ⟨fun v q => by cases q; rfl, rfl, rfl⟩)
    show xf2 xddiv [(0, .ref (B + 0))] [.double (FP.i2d (N 1 2)), .double (FP.i2d (xfLvs N 1))] (xHn pre B N C L g) = _
    unfold xf2 xddiv
    dsimp only
    have hq := hn q
    unfold xMean at hq ⊢
    rw [decide_eq_true hq]
    rfl
  · have q : N 1 2 = 0 := by simpa [xic] using q
    rw [if_pos q, if_pos q]
    refine xp_new (E := 5) (h1 := xHn pre B N C L g) rfl (by rw [xHn_len hB]; exact hg) ⟨fun v q => (nomatch q), ?_, ?_⟩
    · rw [xHn_len hB]
    · rw [xHn_app]; rfl
theorem xo_share_ (hB : xBok pre B) (hn : ¬ N 1 2 = 0 → xShare N &&& 0x7fffffff ≤ 0x7f800000) (hg : B + 253 + g.length < 1000000) : xRn K Z 4 96 [.ref (B + 0)] (xHn pre B N C L g) (if N 1 2 = 0 then .error (5, B + 253 + g.length) else .ok (some (.float (xShare N)))) (xHn pre B N C L (if N 1 2 = 0 then xgx g else g)) := by
  have hr1 := xrb_river 1 (by decide)
  refine xRp_eq (xRp_of (m := (yX9_floodedShare, cX9_floodedShare, 1, (some .float), [], [], xcX9_floodedShare)) rfl (by show 1 ≤ 1; decide) ?_)
  show xBp K Z 3 1 [] xcX9_floodedShare xcX9_floodedShare [(0, .ref (B + 0))] [] _ _
  refine xp_step rfl ?_
  refine xp_ref hB (i := 0) (k := 0) (q := 1) (by decide) rfl (by decide) rfl ?_
  refine xp_get hB (by decide) hr1.1 (by decide) (hr1.2.2.2.2.2.2.1 _ (by decide) (by decide)) ?_
  refine xp_if1 rfl (fun q => ?_) (fun q => ?_)
  · have q : ¬ N 1 2 = 0 := by simpa [xic] using q
    rw [if_neg q, if_neg q]
    refine xp_step rfl ?_
    refine xp_ref hB (i := 0) (k := 0) (q := 1) (by decide) rfl (by decide) rfl ?_
    refine xp_virt (i := 1) hB (by decide) rfl rfl (Nat.le_of_ble_eq_true rfl) rfl (xR_up (by decide) (xs_fl hB (show 1 ∈ xRbs by decide))) ?_
    refine xp_step rfl ?_
    refine xp_step rfl ?_
    refine xp_ref hB (i := 0) (k := 0) (q := 1) (by decide) rfl (by decide) rfl ?_
    refine xp_get hB (by decide) hr1.1 (by decide) (hr1.2.2.2.2.2.2.1 _ (by decide) (by decide)) ?_
    refine xp_step rfl ?_
    refine xp_step (loc1 := [(0, .ref (B + 0))]) (st1 := [.float (xShare N)]) (h1 := xHn pre B N C L g) ?_ (xp_ret rfl ⟨fun v q => by cases q; rfl, rfl, rfl⟩)
    show xf2 xfdiv [(0, .ref (B + 0))] [.float (FP.i2f (N 1 2)), .float (FP.i2f (xfFl N 1))] (xHn pre B N C L g) = _
    unfold xf2 xfdiv
    dsimp only
    have hq := hn q
    unfold xShare at hq ⊢
    rw [decide_eq_true hq]
    rfl
  · have q : N 1 2 = 0 := by simpa [xic] using q
    rw [if_pos q, if_pos q]
    refine xp_new (E := 5) (h1 := xHn pre B N C L g) rfl (by rw [xHn_len hB]; exact hg) ⟨fun v q => (nomatch q), ?_, ?_⟩
    · rw [xHn_len hB]
    · rw [xHn_app]; rfl
end XFO
