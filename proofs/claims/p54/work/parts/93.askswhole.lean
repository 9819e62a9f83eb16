/-! ASKS, WHOLE -/
section XASL
variable {xs : List Int32} {z : Value} {pre g : xH} {B L : Nat} {N : Nat → Nat → Int32} {C : Nat → Nat} {V H : Nat}
/-- what asks leaves -/
def xAskP (pre : xH) (B : Nat) (N : Nat → Nat → Int32) (C : Nat → Nat) (g : xH) : xA → xH → Prop := fun r h' => (∀ v, r = .ok v → xrfit (some .long) v = true) ∧ (r = .ok (some (.long (xAsk N))) ∧ ∃ N' L' g', h' = xHn pre B N' C L' g' ∧ (xQy N N' ∧ (xLn pre B N' C L' g' ∧ xGr g g' 130)))
theorem xs_askH (hB : xBok pre B) {N1 : Nat → Nat → Int32} {L1 : Nat} {g1 : xH} (hq : xQy N N1) (hl : xLn pre B N1 C L1 g1) (hgr : xGr g g1 130) {h0 : Nat} (e4 : N 1 4 = Int32.ofNat h0) (h0b : h0 ≤ 1000000) (hg : B + 253 + g1.length < 999990) :
    ∀ k n s, n + k = 30 → xAsH N k n s = xAsk N → xBp (xK xs) (xZ z) 9 7 [] xcL_asks (xseek xcL_asks 231) [(4, .int (Int32.ofNat n)), (0, .ref (B + 0)), (2, .long s)] [] (xHn pre B N1 C L1 g1) (xAskP pre B N C g) := by
  have hs := xQy_1 hq
  have e41 : N1 1 4 = Int32.ofNat h0 := (hs.1 4 (by decide) (by decide)).trans e4
  intro k
  induction k with
  | zero =>
    intro n s hn hS
    obtain rfl : n = 30 := by omega
    obtain rfl : s = xAsk N := hS
    refine xp_step rfl ?_
    refine xp_step rfl ?_
    refine xp_if2 rfl (fun _ => ?_) (fun q => absurd (show (30 : Int32) ≤ 30 from Int32.le_refl _) (of_decide_eq_false q))
    refine xp_step rfl ?_
    exact xp_ret rfl ⟨fun v q => by cases q; rfl, rfl, N1, L1, g1, rfl, hq, hl, hgr⟩
  | succ k ih =>
    intro n s hn hS
    have ex : N1 1 4 + Int32.ofNat n = Int32.ofNat (h0 + n) := by rw [e41, Int32.ofNat_add]
    have hx : ¬ Int32.ofNat (h0 + n) < N1 1 4 := by
      rw [e41, xi_lt (by omega) (by omega)]
      omega
    have c1 := xl_head (K := xK xs) (Z := xZ z) (N := N1) (C := C) (L := L1) (g := g1) hB _ hx (by omega)
    rw [← ex, xsm_head hs, hs.1 4 (by decide) (by decide)] at c1
    have c0 := xo_hour_ (K := xK xs) (Z := xZ z) (N := N1) (C := C) (L := L1) (g := g1) hB
    rw [hs.1 4 (by decide) (by decide)] at c0
    refine xp_step rfl ?_
    refine xp_step rfl ?_
    refine xp_if2 rfl (fun q => ?_) (fun _ => ?_)
    · have q : Int32.ofNat 30 ≤ Int32.ofNat n := of_decide_eq_true q
      rw [xi_le (by omega) (by omega)] at q
      omega
    refine xp_step rfl ?_
    refine xp_step rfl ?_
    refine xp_step rfl ?_
    refine xp_step rfl ?_
    refine xp_step rfl ?_
    refine xp_virt (i := 0) hB (by decide) rfl rfl (Nat.le_of_ble_eq_true rfl) rfl (xR_up (by decide) (c0)) ?_
    refine xp_step rfl ?_
    refine xp_step rfl ?_
    refine xp_callR rfl (xR_up (by decide) (c1)) ?_
    refine xp_step rfl ?_
    refine xp_step rfl ?_
    refine xp_step rfl ?_
    refine xp_step rfl ?_
    refine xp_jump rfl ?_
    rw [show Int32.ofNat n + Int32.ofInt 1 = Int32.ofNat (n + 1) from by rw [Int32.ofNat_add]; rfl]
    refine xp_weak ?_ (ih (n + 1) (xj s (xfHead N 1 (N 1 4 + Int32.ofNat n))) (by omega) hS)
    exact xLe_cons rfl (xLe_cons rfl (xLe_cons rfl xLe_nil))
theorem xs_askR (hB : xBok pre B) (hz : z.category = 1) (hO : xOb N V H) (hV : V ≤ 1000000) (hH : H ≤ 1000000) {n0 : Nat} (en : N 1 2 = Int32.ofNat n0) (hn8 : n0 ≤ 8) (hg : B + 253 + g.length < 999000) :
    ∀ k r s (N1 : Nat → Nat → Int32) (L1 : Nat) (g1 : xH), r + k = n0 → xQy N N1 → xLn pre B N1 C L1 g1 → xGr g g1 (2 + 15 * r) → xAsH N 30 0 (xAsL N k r s) = xAsk N → xBp (xK xs) (xZ z) 9 7 [] xcL_asks (xseek xcL_asks 112) [(4, .int (Int32.ofNat r)), (0, .ref (B + 0)), (1, .int (Int32.ofNat n0)), (2, .long s)] [] (xHn pre B N1 C L1 g1) (xAskP pre B N C g) := by
  intro k
  induction k with
  | zero =>
    intro r s N1 L1 g1 hr hq hl hgr hS
    obtain rfl : r = n0 := by omega
    obtain ⟨n, p, t, ⟨-, -, e4⟩, ⟨-, -, a4⟩, -, -⟩ := hO.1
    have hgl := hgr.2.1
    refine xp_step rfl ?_
    refine xp_step rfl ?_
    refine xp_if2 rfl (fun _ => ?_) (fun q => absurd (Int32.le_refl _) (of_decide_eq_false q))
    refine xp_step rfl ?_
    refine xp_step rfl ?_
    refine xp_weak ?_ (xs_askH (g := g) hB hq hl (xGr_mono hgr (by omega)) e4 (by omega) (by omega) 30 0 s (by decide) hS)
    exact xLe_cons rfl (xLe_cons rfl (xLe_cons rfl xLe_nil))
  | succ k ih =>
    intro r s N1 L1 g1 hr hq hl hgr hS
    have hs := xQy_1 hq
    have hO1 := xQy_ob hq hO
    have hgl := hgr.2.1
    have hr8 : r < 8 := by omega
    have er : (Int32.ofNat r).toNatClampNeg = r := (xi_ofNat (n := r) (by omega)).2.1
    have hx8 : (Int32.ofNat r).toNatClampNeg < 8 := by omega
    have hh : xhas N 1 (Int32.ofNat r) = true := xhas_n hr8 (by rw [en]; exact (xi_lt (by omega) (by omega)).mpr (by omega))
    have hh1 : xhas N1 1 (Int32.ofNat r) = true := (xsm_has hs).trans hh
    have en1 : N1 1 2 = Int32.ofNat n0 := (hs.1 2 (by decide) (by decide)).trans en
    have hn0 := (xi_ofNat (n := n0) (by omega))
    have c1 := xl_lateral (K := xK xs) (Z := xZ z) (N := N1) (C := C) (L := L1) (g := g1) hB (Int32.ofNat r) hh1 (by omega)
    rw [er, hs.2.1 r 3 hr8 (by decide)] at c1
    have c2 := xl_outflow (K := xK xs) (Z := xZ z) (N := N1) (C := C) (L := L1) (g := g1) hB (Int32.ofNat r) hh1 (by omega)
    rw [xsm_out hs hx8] at c2
    have c3 := xl_room (K := xK xs) (Z := xZ z) (N := N1) (C := C) (L := L1) (g := g1) hB (Int32.ofNat r) hh1 (by omega)
    rw [xsm_room hs hx8] at c3
    obtain ⟨k3, k3'⟩ := xRoomG_gr (N := N1) (g := g1) (Int32.ofNat r) hh1
    have hl2 : xLn pre B N1 C L1 (xRoomG N1 g1 (Int32.ofNat r)) := by
      rcases k3' with e | e
      · rw [e]; exact hl
      · rw [e]; exact xln_gx hB hl (fun _ => rfl) (fun _ => rfl)
    generalize xRoomG N1 g1 (Int32.ofNat r) = g2 at c3 k3 hl2
    have k3l := k3.2.1
    have c4 := xl_byLevel (K := xK xs) (Z := xZ z) (N := N1) (C := C) (L := L1) (g := g2) hB (Int32.ofNat r) (by rw [en1]; exact hn0.2.2) (by rw [en1]; exact (xi_le (b := 8) (by omega) (by omega)).mpr hn8) (by omega)
    rw [hs.1 2 (by decide) (by decide), xsm_by hs _ _ (by rw [en, hn0.2.1]; omega)] at c4
    obtain ⟨k4, k4'⟩ := xByG_gr (g := g2) (xBy N (Int32.ofNat r) (N 1 2).toNatClampNeg 0)
    have hl3 : xLn pre B N1 C L1 (xByG g2 (xBy N (Int32.ofNat r) (N 1 2).toNatClampNeg 0)) := by
      rcases k4' with e | e
      · rw [e]; exact hl2
      · rw [e]; exact xln_gx hB hl2 (fun _ => rfl) (fun _ => rfl)
    generalize xByG g2 (xBy N (Int32.ofNat r) (N 1 2).toNatClampNeg 0) = g3 at c4 k4 hl3
    have k4l := k4.2.1
    have c5 := xl_peak (K := xK xs) (Z := xZ z) (N := N1) (C := C) (L := L1) (g := g3) hB (hO1.2.1 1 (by decide)) (Int32.ofNat r) 12 hh1 (by decide) (by omega)
    rw [show (12 : Int32).toNatClampNeg = 12 from by decide, xsm_pk hs hx8] at c5
    have hq2 := xQy_trans hq (xQy_fc N1 12)
    have hl4 := xln_fc (n := 12) hB hl3
    generalize xFc N1 12 = N2 at c5 hq2 hl4
    have hs2 := xQy_1 hq2
    have hO2 := xQy_ob hq2 hO
    obtain ⟨N3, L3, g4, bs, c6, hne, hl5, k6, ht, htc, htl⟩ := xl_write (xs := xs) (z := z) hB hO2.1 hV hr8 ((xsm_has hs2).trans hh) hl4 (by omega)
    rw [xsm_tx hs2 hr8] at c6 hl5 ht htc htl
    have k6l := k6.2.1
    refine xp_step rfl ?_
    refine xp_step rfl ?_
    refine xp_if2 rfl (fun q => ?_) (fun _ => ?_)
    · have q : Int32.ofNat n0 ≤ Int32.ofNat r := of_decide_eq_true q
      rw [xi_le (by omega) (by omega)] at q
      omega
    refine xp_step rfl ?_
    refine xp_step rfl ?_
    refine xp_step rfl ?_
    refine xp_step rfl ?_
    refine xp_step rfl ?_
    refine xp_step rfl ?_
    refine xp_step rfl ?_
    refine xp_callR rfl (xR_up (by decide) (c1)) ?_
    refine xp_step rfl ?_
    refine xp_step rfl ?_
    refine xp_step rfl ?_
    refine xp_step rfl ?_
    refine xp_step rfl ?_
    refine xp_callR rfl (xR_up (by decide) (c2)) ?_
    refine xp_step rfl ?_
    refine xp_step rfl ?_
    refine xp_step rfl ?_
    refine xp_step rfl ?_
    refine xp_step rfl ?_
    refine xp_callR rfl (xR_up (by decide) (c3)) ?_
    refine xp_step rfl ?_
    refine xp_step rfl ?_
    refine xp_step rfl ?_
    refine xp_step rfl ?_
    refine xp_step rfl ?_
    refine xp_step rfl ?_
    refine xp_step rfl ?_
    refine xp_step rfl ?_
    refine xp_step rfl ?_
    refine xp_callR rfl (xR_up (by decide) (c4)) ?_
    refine xp_step rfl ?_
    refine xp_step rfl ?_
    refine xp_step rfl ?_
    refine xp_step rfl ?_
    refine xp_step rfl ?_
    refine xp_step rfl ?_
    refine xp_callR rfl (xR_up (by decide) (c5)) ?_
    refine xp_step rfl ?_
    refine xp_step rfl ?_
    refine xp_step rfl ?_
    refine xp_step rfl ?_
    refine xp_step rfl ?_
    refine xp_callR rfl (xR_up (by decide) (c6)) ?_
    refine xp_step rfl ?_
    refine xp_step rfl ?_
    refine xp_step rfl ?_
    refine xp_weak ?_ (xs_askC (a1 := Int32.ofNat n0) (a4 := Int32.ofNat r) (S := xAsR N r s) hB hz hl5 ht htc htl (by omega) ?_ (xTx N r).length 0 (xj (xj (xj (xj (xj s (N (1 + 3 + r) 3)) (xfOut N 1 (Int32.ofNat r))) (xRoom N (Int32.ofNat r))) (xByV (xBy N (Int32.ofNat r) (N 1 2).toNatClampNeg 0))) (xPkN N (Int32.ofNat r) 12)) (by omega) rfl)
    · exact xLe_cons rfl (xLe_cons rfl (xLe_cons rfl (xLe_cons rfl (xLe_cons rfl (xLe_cons rfl xLe_nil)))))
    refine xp_step rfl ?_
    refine xp_jump rfl ?_
    rw [show Int32.ofNat r + Int32.ofInt 1 = Int32.ofNat (r + 1) from by rw [Int32.ofNat_add]; rfl]
    refine xp_weak ?_ (ih (r + 1) (xAsR N r s) N3 L3 g4 (by omega) (xQy_trans hq2 (xQy_ne hne)) ⟨_, _, htl, hl5⟩ (xGr_mono (xGr_trans hgr (xGr_trans k3 (xGr_trans k4 k6))) (by omega)) hS)
    exact xLe_cons rfl (xLe_cons rfl (xLe_cons rfl (xLe_cons rfl xLe_nil)))
/-- ASKS: the answer is a function of the river's numbers; nothing but the forecast and the line changes -/
theorem xl_asks (hB : xBok pre B) (hz : z.category = 1) (hO : xOb N V H) (hV : V ≤ 1000000) (hH : H ≤ 1000000) (hl : xLn pre B N C L g) (hg : B + 253 + g.length < 999000) :
    ∃ N' L' g', xRn (xK xs) (xZ z) 10 241 [.ref (B + 0)] (xHn pre B N C L g) (.ok (some (.long (xAsk N)))) (xHn pre B N' C L' g') ∧ (xQy N N' ∧ (xLn pre B N' C L' g' ∧ xGr g g' 130)) := by
  obtain ⟨n0, en, hn8, -, -⟩ := xgd_n8 hO.1
  have gG : ∀ g : xH, xLn pre B N C L g → xLn pre B N C L (if N 1 2 = 0 then xgx g else g) ∧ xGr g (if N 1 2 = 0 then xgx g else g) 1 := by
    intro g hl
    split
    · exact ⟨xln_gx hB hl (fun _ => rfl) (fun _ => rfl), xGr_gx g⟩
    · exact ⟨hl, xGr_mono (xGr_refl g) (by decide)⟩
  have c1 := xl_mean (K := xK xs) (Z := xZ z) (N := N) (C := C) (L := L) (g := g) hB (by omega)
  obtain ⟨hl1, k1⟩ := gG g hl
  generalize (if N 1 2 = 0 then xgx g else g) = g1 at c1 hl1 k1
  have k1l := k1.2.1
  have c2 := xl_share (K := xK xs) (Z := xZ z) (N := N) (C := C) (L := L) (g := g1) hB (by omega)
  obtain ⟨hl2, k2⟩ := gG g1 hl1
  generalize (if N 1 2 = 0 then xgx g1 else g1) = g2 at c2 hl2 k2
  have k2l := k2.2.1
  have c3 := xl_volAfter (K := xK xs) (Z := xZ z) (N := N) (C := C) (L := L) (g := g2) hB (hO.2.1 1 (by decide)) 9 (by decide) (by omega)
  have hq1 := xQy_fc N (xFcH N 9)
  have hl3 := xln_fc (n := xFcH N 9) hB hl2
  have goal : xRp (xK xs) (xZ z) 10 241 [.ref (B + 0)] (xHn pre B N C L g) (fun r h' => r = .ok (some (.long (xAsk N))) ∧ ∃ N' L' g', h' = xHn pre B N' C L' g' ∧ (xQy N N' ∧ (xLn pre B N' C L' g' ∧ xGr g g' 130))) := by
    refine xRp_of (m := (yL_asks, cL_asks, 7, (some .long), [], [], xcL_asks)) rfl (by show 1 ≤ 7; decide) ?_
    show xBp (xK xs) (xZ z) 9 7 [] xcL_asks xcL_asks [(0, .ref (B + 0))] [] _ _
    refine xp_step rfl ?_
    refine xp_virt (i := 0) hB (by decide) rfl rfl (Nat.le_of_ble_eq_true rfl) rfl (xR_up (by decide) (xo_reachCount_ hB)) ?_
    refine xp_step rfl ?_
    refine xp_step rfl ?_
    refine xp_step rfl ?_
    refine xp_callR rfl (xR_up (by decide) (c1)) ?_
    refine xp_callR rfl (xR_up (by decide) (xs_dbits _ _)) ?_
    refine xp_step rfl ?_
    refine xp_step rfl ?_
    refine xp_callR rfl (xR_up (by decide) (c2)) ?_
    refine xp_callR rfl (xR_up (by decide) (xs_fbits _ _)) ?_
    refine xp_step rfl ?_
    refine xp_step rfl ?_
    refine xp_step rfl ?_
    refine xp_step rfl ?_
    refine xp_step rfl ?_
    refine xp_step rfl ?_
    refine xp_step rfl ?_
    refine xp_step rfl ?_
    refine xp_step rfl ?_
    refine xp_step rfl ?_
    refine xp_step rfl ?_
    refine xp_step rfl ?_
    refine xp_step rfl ?_
    refine xp_step rfl ?_
    refine xp_step rfl ?_
    refine xp_virt (i := 0) hB (by decide) rfl rfl (Nat.le_of_ble_eq_true rfl) rfl (xR_up (by decide) (xo_hour_ hB)) ?_
    refine xp_step rfl ?_
    refine xp_step rfl ?_
    refine xp_step rfl ?_
    refine xp_step rfl ?_
    refine xp_virt (i := 0) hB (by decide) rfl rfl (Nat.le_of_ble_eq_true rfl) rfl (xR_up (by decide) (xo_totalIn_ hB)) ?_
    refine xp_step rfl ?_
    refine xp_step rfl ?_
    refine xp_step rfl ?_
    refine xp_step rfl ?_
    refine xp_virt (i := 0) hB (by decide) rfl rfl (Nat.le_of_ble_eq_true rfl) rfl (xR_up (by decide) (xo_totalOut_ hB)) ?_
    refine xp_step rfl ?_
    refine xp_step rfl ?_
    refine xp_step rfl ?_
    refine xp_step rfl ?_
    refine xp_virt (i := 0) hB (by decide) rfl rfl (Nat.le_of_ble_eq_true rfl) rfl (xR_up (by decide) (xo_alarms_ hB)) ?_
    refine xp_step rfl ?_
    refine xp_step rfl ?_
    refine xp_step rfl ?_
    refine xp_step rfl ?_
    refine xp_step rfl ?_
    refine xp_step rfl ?_
    refine xp_step rfl ?_
    refine xp_step rfl ?_
    refine xp_step rfl ?_
    refine xp_virt (i := 0) hB (by decide) rfl rfl (Nat.le_of_ble_eq_true rfl) rfl (xR_up (by decide) (xo_pulseCount_ hB)) ?_
    refine xp_step rfl ?_
    refine xp_step rfl ?_
    refine xp_step rfl ?_
    refine xp_step rfl ?_
    refine xp_virt (i := 0) hB (by decide) rfl rfl (Nat.le_of_ble_eq_true rfl) rfl (xR_up (by decide) (xo_pending_ hB)) ?_
    refine xp_step rfl ?_
    refine xp_step rfl ?_
    refine xp_step rfl ?_
    refine xp_step rfl ?_
    refine xp_step rfl ?_
    refine xp_callR rfl (xR_up (by decide) (c3)) ?_
    refine xp_step rfl ?_
    refine xp_step rfl ?_
    refine xp_step rfl ?_
    refine xp_step rfl ?_
    refine xp_step rfl ?_
    refine xp_weak ?_ (xs_askR (g := g) hB hz hO hV hH en hn8 hg n0 0 (xAsA N) (xFc N (xFcH N 9)) L g2 (by omega) hq1 hl3 (xGr_mono (xGr_trans k1 k2) (by decide)) ?_)
    · exact xLe_cons rfl (xLe_cons rfl (xLe_cons (by rw [← en]; rfl) (xLe_cons rfl xLe_nil)))
    · unfold xAsk
      rw [en, (xi_ofNat (n := n0) (by omega)).2.1]
  obtain ⟨r, h', hrun, rfl, N', L', g', rfl, hh⟩ := goal
  exact ⟨N', L', g', hrun, hh⟩
end XASL
