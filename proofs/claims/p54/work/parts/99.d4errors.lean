/-! THROWN: what is asked of no reach, no hour -/
section XTHE
variable {xs : List Int32} {z : Value} {K : List (Nat × List Value)} {Z : List Value} {pre g g0 : xH} {B L : Nat} {N N0 M : Nat → Nat → Int32} {C : Nat → Nat} {V H m n0 p0 h0 : Nat} {u lt x : Int32} {S : Int64} {P : xA → xH → Prop}
theorem xAhN_bd {w j : Nat} (hj : j < 8) : ∀ n, n ≤ 8 → ∃ c, xAhN N w (Int32.ofNat j) n = Int32.ofNat c ∧ (c ≤ n ∧ (j < n → c < n)) := by
  intro n
  induction n with
  | zero => intro _; exact ⟨0, rfl, Nat.le_refl _, fun h => absurd h (by omega)⟩
  | succ n ih =>
    intro hn
    obtain ⟨c, e, h1, h2⟩ := ih (by omega)
    rw [xAhN]
    by_cases hq : xAhS N w (Int32.ofNat j) n = true
    · rw [if_pos hq, e, xi_succ]
      refine ⟨c + 1, rfl, by omega, fun h => ?_⟩
      by_cases hjn : j = n
      · exfalso
        subst hjn
        unfold xAhS at hq
        rw [(xi_ofNat (n := j) (by omega)).2.1, decide_eq_false Int32.lt_irrefl] at hq
        unfold xbef at hq
        simp [Int32.lt_irrefl] at hq
      · have := h2 (by omega)
        omega
    · rw [if_neg hq, e]
      exact ⟨c, rfl, by omega, fun _ => by omega⟩
theorem xBy_none {n0 : Nat} (en : N 1 2 = Int32.ofNat n0) (hn : n0 ≤ 8) (hx : x = Int32.ofNat n0 ∨ x < 0) : ∀ k n, n + k ≤ n0 → xBy N x k n = none := by
  intro k
  induction k with
  | zero => intro n _; rfl
  | succ k ih =>
    intro n hk
    rw [xBy, ih (n + 1) (by omega)]
    obtain ⟨c, e, -, h2⟩ := xAhN_bd (N := N) (w := 1) (j := n) (by omega) n0 hn
    have hc := h2 (by omega)
    have e2 : xfAh N 1 (Int32.ofNat n) = Int32.ofNat c := by
      unfold xfAh
      rw [en, xcnt_n hn]
      exact e
    rw [e2, if_neg]
    intro q
    rcases hx with rfl | hx
    · exact xi_ne (by omega) (by omega) (by omega) q
    · rw [← q] at hx
      exact absurd hx (Int32.not_lt.mpr (xi_ofNat (n := c) (by omega)).2.2)
theorem xt_by (hB : xBok pre B) (hF : xThF N0 n0 p0 h0) (h : xTwn pre B N0 g0 V H m N C L g) (x : Int32) (hx : x = Int32.ofNat n0 ∨ x < 0) (hg : B + 253 + g.length < 1000000) : xRn K Z 5 215 [.ref (B + 0), .int x] (xHn pre B N C L g) (.ok (some (.int (-1001)))) (xHn pre B N C L (xgx g)) := by
  have h8 := hF.2.1.2
  have en : N 1 2 = Int32.ofNat n0 := (h.1.1.1 2 (by decide) (by decide)).trans hF.1.1
  have hn0 := xi_ofNat (n := n0) (by omega)
  have c := xl_byLevel (K := K) (Z := Z) (N := N) (C := C) (L := L) (g := g) hB x (by rw [en]; exact hn0.2.2) (by rw [en]; exact (xi_le (b := 8) (by omega) (by omega)).mpr h8) hg
  rw [xBy_none en h8 hx _ _ (by rw [en, hn0.2.1]; omega)] at c
  exact c
theorem xThF_head (hF : xThF N0 n0 p0 h0) (hs : xSm N N0 1 1) : Int32.ofNat h0 - Int32.ofInt 1 < N 1 4 := by
  have h48 := hF.2.2.2
  rw [hs.1 4 (by decide) (by decide), hF.1.2.2, Int32.lt_iff_toInt_lt, Int32.toInt_sub, (xi_ofNat (n := h0) (by omega)).1, show (Int32.ofInt 1).toInt = 1 from rfl, Int.bmod_eq_of_le (by omega) (by omega)]
  omega
theorem xden4b {M N' : Nat → Nat → Int32} {v : Int32} (d : (-4 : Int32) ≠ -11 → (-4 : Int32) ≠ -12 → (N' 250 0 = -(-4) ∧ (N' 250 1 = xfDet M 1 (-(-4)) v ∧ N' 250 2 = 0))) : N' 250 0 = Int32.ofInt 4 ∧ (N' 250 1 = v ∧ N' 250 2 = 0) := by
  have k := d (by decide) (by decide)
  refine ⟨k.1, k.2.1.trans ?_, k.2.2⟩
  unfold xfDet
  rw [if_pos (by decide)]
set_option maxRecDepth 20000 in
theorem xs_thM (hB : xBok pre B) (hV : V ≤ 1000000) (hF : xThF N0 n0 p0 h0) (hm : m ≤ 600) (hg : B + 253 + g0.length < 998000) (h : xTwn pre B N0 g0 V H m N C L g) (hlt : N0 4 3 = lt) (hlb : xBnd lt 0 50) (kk : xBp (xK xs) (xZ z) 11 8 [] xcL_thrown (xseek xcL_thrown 717) [(0, .ref (B + 0)), (1, .long S), (3, .int (Int32.ofNat n0)), (4, .int u), (5, .int (Int32.ofNat h0)), (6, .int 1), (7, .int lt)] [] (xHn pre B N C L g) P) : xBp (xK xs) (xZ z) 11 8 [] xcL_thrown (xseek xcL_thrown 710) [(0, .ref (B + 0)), (1, .long S), (3, .int (Int32.ofNat n0)), (4, .int u), (5, .int (Int32.ofNat h0)), (6, .int 1)] [] (xHn pre B N C L g) P := by
  have hl := xts_len h
  have hh := (xsm_has h.1.1).trans (xThF_has0 hF)
  have c1 := xl_lateral (K := xK xs) (Z := xZ z) (N := N) (C := C) (L := L) (g := g) hB (Int32.ofInt 0) hh (by omega)
  rw [show N (1 + 3 + (Int32.ofInt 0).toNatClampNeg) 3 = lt from (h.1.1.2.1 0 3 (by decide) (by decide)).trans hlt] at c1
  refine xp_step rfl ?_
  refine xp_step rfl ?_
  refine xp_callR rfl (xR_up (by decide) (c1)) ?_
  refine xp_step rfl ?_
  refine xp_weak ?_ kk
  exact xLe_cons rfl (xLe_cons rfl (xLe_cons rfl (xLe_cons rfl (xLe_cons rfl (xLe_cons rfl (xLe_cons rfl xLe_nil))))))
set_option maxRecDepth 20000 in
theorem xs_thE1 (hB : xBok pre B) (hV : V ≤ 1000000) (hF : xThF N0 n0 p0 h0) (hm : m ≤ 600) (hg : B + 253 + g0.length < 998000) (h : xTwn pre B N0 g0 V H m N C L g) (hlt : N0 4 3 = lt) (hlb : xBnd lt 0 50) (kk : ∀ N' g', xTwn pre B N0 g0 V H (m + 20) N' C L g' → (N' 250 0 = Int32.ofInt 4 ∧ (N' 250 1 = lt ∧ N' 250 2 = 0)) → xBp (xK xs) (xZ z) 11 8 [] xcL_thrown (xseek xcL_thrown 867) [(0, .ref (B + 0)), (1, .long S), (3, .int (Int32.ofNat n0)), (4, .int u), (5, .int (Int32.ofNat h0)), (6, .int 1), (7, .int lt)] [] (xHn pre B N' C L g') P) : xBp (xK xs) (xZ z) 11 8 [] xcL_thrown (xseek xcL_thrown 717) [(0, .ref (B + 0)), (1, .long S), (3, .int (Int32.ofNat n0)), (4, .int u), (5, .int (Int32.ofNat h0)), (6, .int 1), (7, .int lt)] [] (xHn pre B N C L g) P := by
  have hsn := xts_sm h
  refine xp_step rfl ?_
  refine xp_if1 rfl (fun q => absurd q (by decide)) (fun _ => ?_)
  refine xp_step rfl ?_
  refine xp_step rfl ?_
  refine xp_step rfl ?_
  obtain ⟨N1, g1, run1, h1, d1⟩ := xt_setLateral (K := xK xs) (Z := xZ z) hB hV h (Int32.ofInt 0) lt (cd := -4) (xf_lat4 ((xsm_has hsn).trans (xThF_has0 hF)) (xwin_bd hlb rfl rfl (by decide)) ((hsn.2.1 0 3 (by decide) (by decide)).trans hlt)) (by decide) (by omega)
  refine xp_callR rfl (xR_up (by decide) run1) ?_
  refine xp_step rfl ?_
  refine xp_if2 rfl (fun q => absurd q (by decide)) (fun _ => ?_)
  refine xp_step rfl ?_
  refine xp_step rfl ?_
  have run2 := xl_volumeE (K := xK xs) (Z := xZ z) (N := N1) (C := C) (L := L) (g := g1) hB (Int32.ofNat n0) ((xsm_has h1.1.1).trans (xThF_hasn hF)) (by have := xts_len h1; omega)
  have h2 := xts_gx hB h1
  generalize xgx g1 = g2 at run2 h2
  refine xp_callR rfl (xR_up (by decide) run2) ?_
  refine xp_step rfl ?_
  refine xp_if2 rfl (fun q => absurd q (by decide)) (fun _ => ?_)
  refine xp_step rfl ?_
  refine xp_step rfl ?_
  have run3 := xl_lateralE (K := xK xs) (Z := xZ z) (N := N1) (C := C) (L := L) (g := g2) hB (Int32.ofInt (-1)) ((xsm_has h2.1.1).trans (xThF_hasm hF)) (by have := xts_len h2; omega)
  have h3 := xts_gx hB h2
  generalize xgx g2 = g3 at run3 h3
  refine xp_callR rfl (xR_up (by decide) run3) ?_
  refine xp_step rfl ?_
  refine xp_if2 rfl (fun q => absurd q (by decide)) (fun _ => ?_)
  refine xp_step rfl ?_
  refine xp_step rfl ?_
  have run4 := xl_inflowE (K := xK xs) (Z := xZ z) (N := N1) (C := C) (L := L) (g := g3) hB (Int32.ofNat n0) ((xsm_has h3.1.1).trans (xThF_hasn hF)) (by have := xts_len h3; omega)
  have h4 := xts_gx hB h3
  generalize xgx g3 = g4 at run4 h4
  refine xp_callR rfl (xR_up (by decide) run4) ?_
  refine xp_step rfl ?_
  refine xp_if2 rfl (fun q => absurd q (by decide)) (fun _ => ?_)
  refine xp_step rfl ?_
  refine xp_step rfl ?_
  have run5 := xl_outflowE (K := xK xs) (Z := xZ z) (N := N1) (C := C) (L := L) (g := g4) hB (Int32.ofNat n0) ((xsm_has h4.1.1).trans (xThF_hasn hF)) (by have := xts_len h4; omega)
  have h5 := xts_gx hB h4
  generalize xgx g4 = g5 at run5 h5
  refine xp_callR rfl (xR_up (by decide) run5) ?_
  refine xp_step rfl ?_
  refine xp_if2 rfl (fun q => absurd q (by decide)) (fun _ => ?_)
  refine xp_step rfl ?_
  refine xp_step rfl ?_
  have run6 := xl_levelE (K := xK xs) (Z := xZ z) (N := N1) (C := C) (L := L) (g := g5) hB (Int32.ofNat n0) ((xsm_has h5.1.1).trans (xThF_hasn hF)) (by have := xts_len h5; omega)
  have h6 := xts_gx hB h5
  generalize xgx g5 = g6 at run6 h6
  refine xp_callR rfl (xR_up (by decide) run6) ?_
  refine xp_step rfl ?_
  refine xp_if2 rfl (fun q => absurd q (by decide)) (fun _ => ?_)
  refine xp_step rfl ?_
  refine xp_step rfl ?_
  have run7 := xl_statusE (K := xK xs) (Z := xZ z) (N := N1) (C := C) (L := L) (g := g6) hB (Int32.ofInt (-1)) ((xsm_has h6.1.1).trans (xThF_hasm hF)) (by have := xts_len h6; omega)
  have h7 := xts_gx hB h6
  generalize xgx g6 = g7 at run7 h7
  refine xp_callR rfl (xR_up (by decide) run7) ?_
  refine xp_step rfl ?_
  refine xp_if2 rfl (fun q => absurd q (by decide)) (fun _ => ?_)
  refine xp_step rfl ?_
  refine xp_step rfl ?_
  have run8 := xl_floodedE (K := xK xs) (Z := xZ z) (N := N1) (C := C) (L := L) (g := g7) hB (Int32.ofNat n0) ((xsm_has h7.1.1).trans (xThF_hasn hF)) (by have := xts_len h7; omega)
  have h8 := xts_gx hB h7
  generalize xgx g7 = g8 at run8 h8
  refine xp_callR rfl (xR_up (by decide) run8) ?_
  refine xp_step rfl ?_
  refine xp_if2 rfl (fun q => absurd q (by decide)) (fun _ => ?_)
  refine xp_step rfl ?_
  refine xp_step rfl ?_
  have run9 := xl_openingE (K := xK xs) (Z := xZ z) (N := N1) (C := C) (L := L) (g := g8) hB (Int32.ofNat n0) ((xsm_has h8.1.1).trans (xThF_hasn hF)) (by have := xts_len h8; omega)
  have h9 := xts_gx hB h8
  generalize xgx g8 = g9 at run9 h9
  refine xp_callR rfl (xR_up (by decide) run9) ?_
  refine xp_step rfl ?_
  refine xp_if2 rfl (fun q => absurd q (by decide)) (fun _ => ?_)
  refine xp_step rfl ?_
  refine xp_step rfl ?_
  have run10 := xl_ruleE (K := xK xs) (Z := xZ z) (N := N1) (C := C) (L := L) (g := g9) hB (Int32.ofNat n0) (h9.2.1.2.1 1 (by decide)) ((xsm_has h9.1.1).trans (xThF_hasn hF)) (by have := xts_len h9; omega)
  have h10 := xts_gx hB h9
  generalize xgx g9 = g10 at run10 h10
  refine xp_callR rfl (xR_up (by decide) run10) ?_
  refine xp_step rfl ?_
  refine xp_if2 rfl (fun q => absurd q (by decide)) (fun _ => ?_)
  refine xp_step rfl ?_
  refine xp_step rfl ?_
  have run11 := xl_roomE (K := xK xs) (Z := xZ z) (N := N1) (C := C) (L := L) (g := g10) hB (Int32.ofNat n0) ((xsm_has h10.1.1).trans (xThF_hasn hF)) (by have := xts_len h10; omega)
  have h11 := xts_gx hB h10
  generalize xgx g10 = g11 at run11 h11
  refine xp_callR rfl (xR_up (by decide) run11) ?_
  refine xp_step rfl ?_
  refine xp_if2 rfl (fun q => absurd q (by decide)) (fun _ => ?_)
  refine xp_step rfl ?_
  refine xp_step rfl ?_
  have run12 := xt_by (K := xK xs) (Z := xZ z) hB hF h11 (Int32.ofNat n0) (Or.inl rfl) (by have := xts_len h11; omega)
  have h12 := xts_gx hB h11
  generalize xgx g11 = g12 at run12 h12
  refine xp_callR rfl (xR_up (by decide) run12) ?_
  refine xp_step rfl ?_
  refine xp_if2 rfl (fun q => absurd q (by decide)) (fun _ => ?_)
  refine xp_step rfl ?_
  refine xp_step rfl ?_
  have run13 := xt_by (K := xK xs) (Z := xZ z) hB hF h12 (Int32.ofInt (-1)) (Or.inr (by decide)) (by have := xts_len h12; omega)
  have h13 := xts_gx hB h12
  generalize xgx g12 = g13 at run13 h13
  refine xp_callR rfl (xR_up (by decide) run13) ?_
  refine xp_step rfl ?_
  refine xp_if2 rfl (fun q => absurd q (by decide)) (fun _ => ?_)
  exact kk _ _ (xts_mono h13 (by omega)) (xden4b d1)
set_option maxRecDepth 20000 in
theorem xs_thE2 (hB : xBok pre B) (hV : V ≤ 1000000) (hF : xThF N0 n0 p0 h0) (hm : m ≤ 600) (hg : B + 253 + g0.length < 998000) (h : xTwn pre B N0 g0 V H m N C L g) (hlt : N0 4 3 = lt) (hlb : xBnd lt 0 50) (hd : N 250 0 = Int32.ofInt 4 ∧ (N 250 1 = lt ∧ N 250 2 = 0)) (kk : ∀ N' g', xTwn pre B N0 g0 V H (m + 20) N' C L g' → xBp (xK xs) (xZ z) 11 8 [] xcL_thrown (xseek xcL_thrown 1029) [(0, .ref (B + 0)), (1, .long S), (3, .int (Int32.ofNat n0)), (4, .int u), (6, .int 1), (7, .int lt)] [] (xHn pre B N' C L g') P) : xBp (xK xs) (xZ z) 11 8 [] xcL_thrown (xseek xcL_thrown 867) [(0, .ref (B + 0)), (1, .long S), (3, .int (Int32.ofNat n0)), (4, .int u), (5, .int (Int32.ofNat h0)), (6, .int 1), (7, .int lt)] [] (xHn pre B N C L g) P := by
  refine xp_step rfl ?_
  refine xp_step rfl ?_
  refine xp_step rfl ?_
  refine xp_step rfl ?_
  have run1 := xl_headE (K := xK xs) (Z := xZ z) (N := N) (C := C) (L := L) (g := g) hB ((Int32.ofNat h0) - (Int32.ofInt 1)) (xThF_head hF h.1.1) (by have := xts_len h; omega)
  have h1 := xts_gx hB h
  generalize xgx g = g1 at run1 h1
  refine xp_callR rfl (xR_up (by decide) run1) ?_
  refine xp_step rfl ?_
  refine xp_if2 rfl (fun q => absurd q (by decide)) (fun _ => ?_)
  refine xp_step rfl ?_
  refine xp_step rfl ?_
  refine xp_step rfl ?_
  have run2 := xl_levelAfterE0 (K := xK xs) (Z := xZ z) (N := N) (C := C) (L := L) (g := g1) hB (Int32.ofNat n0) (Int8.ofInt 99).toInt32 ((xsm_has h1.1.1).trans (xThF_hasn hF)) (by have := xts_len h1; omega)
  have h2 := xts_gx hB h1
  generalize xgx g1 = g2 at run2 h2
  refine xp_callR rfl (xR_up (by decide) run2) ?_
  refine xp_step rfl ?_
  refine xp_if2 rfl (fun q => absurd q (by decide)) (fun _ => ?_)
  refine xp_step rfl ?_
  refine xp_step rfl ?_
  refine xp_step rfl ?_
  have run3 := xl_levelAfterE1 (K := xK xs) (Z := xZ z) (N := N) (C := C) (L := L) (g := g2) hB (Int32.ofInt 0) (Int32.ofInt (-1)) ((xsm_has h2.1.1).trans (xThF_has0 hF)) (by decide) (by have := xts_len h2; omega)
  have h3 := xts_gx hB h2
  generalize xgx g2 = g3 at run3 h3
  refine xp_callR rfl (xR_up (by decide) run3) ?_
  refine xp_step rfl ?_
  refine xp_if2 rfl (fun q => absurd q (by decide)) (fun _ => ?_)
  refine xp_step rfl ?_
  refine xp_step rfl ?_
  refine xp_step rfl ?_
  have run4 := xl_levelAfterE1 (K := xK xs) (Z := xZ z) (N := N) (C := C) (L := L) (g := g3) hB (Int32.ofInt 0) (Int8.ofInt 49).toInt32 ((xsm_has h3.1.1).trans (xThF_has0 hF)) (by decide) (by have := xts_len h3; omega)
  have h4 := xts_gx hB h3
  generalize xgx g3 = g4 at run4 h4
  refine xp_callR rfl (xR_up (by decide) run4) ?_
  refine xp_step rfl ?_
  refine xp_if2 rfl (fun q => absurd q (by decide)) (fun _ => ?_)
  refine xp_step rfl ?_
  refine xp_step rfl ?_
  refine xp_step rfl ?_
  have run5 := xl_peakE0 (K := xK xs) (Z := xZ z) (N := N) (C := C) (L := L) (g := g4) hB (Int32.ofInt (-1)) (Int32.ofInt 0) ((xsm_has h4.1.1).trans (xThF_hasm hF)) (by have := xts_len h4; omega)
  have h5 := xts_gx hB h4
  generalize xgx g4 = g5 at run5 h5
  refine xp_callR rfl (xR_up (by decide) run5) ?_
  refine xp_step rfl ?_
  refine xp_if2 rfl (fun q => absurd q (by decide)) (fun _ => ?_)
  refine xp_step rfl ?_
  refine xp_step rfl ?_
  refine xp_step rfl ?_
  have run6 := xl_peakE1 (K := xK xs) (Z := xZ z) (N := N) (C := C) (L := L) (g := g5) hB (Int32.ofInt 0) (Int8.ofInt 49).toInt32 ((xsm_has h5.1.1).trans (xThF_has0 hF)) (by decide) (by have := xts_len h5; omega)
  have h6 := xts_gx hB h5
  generalize xgx g5 = g6 at run6 h6
  refine xp_callR rfl (xR_up (by decide) run6) ?_
  refine xp_step rfl ?_
  refine xp_if2 rfl (fun q => absurd q (by decide)) (fun _ => ?_)
  refine xp_step rfl ?_
  refine xp_step rfl ?_
  have run7 := xl_untilE0 (K := xK xs) (Z := xZ z) (N := N) (C := C) (L := L) (g := g6) hB (Int32.ofNat n0) ((xsm_has h6.1.1).trans (xThF_hasn hF)) (by have := xts_len h6; omega)
  have h7 := xts_gx hB h6
  generalize xgx g6 = g7 at run7 h7
  refine xp_callR rfl (xR_up (by decide) run7) ?_
  refine xp_step rfl ?_
  refine xp_if2 rfl (fun q => absurd q (by decide)) (fun _ => ?_)
  refine xp_step rfl ?_
  refine xp_step rfl ?_
  have run8 := xl_volAfterE (K := xK xs) (Z := xZ z) (N := N) (C := C) (L := L) (g := g7) hB (Int8.ofInt 49).toInt32 (by decide) (by have := xts_len h7; omega)
  have h8 := xts_gx hB h7
  generalize xgx g7 = g8 at run8 h8
  refine xp_callR rfl (xR_up (by decide) run8) ?_
  refine xp_step rfl ?_
  refine xp_if2 rfl (fun q => absurd q (by decide)) (fun _ => ?_)
  refine xp_step rfl ?_
  refine xp_step rfl ?_
  have run9 := xl_balanceE (K := xK xs) (Z := xZ z) (N := N) (C := C) (L := L) (g := g8) hB (Int32.ofInt (-1)) (by decide) (by have := xts_len h8; omega)
  have h9 := xts_gx hB h8
  generalize xgx g8 = g9 at run9 h9
  refine xp_callR rfl (xR_up (by decide) run9) ?_
  refine xp_step rfl ?_
  refine xp_if2 rfl (fun q => absurd q (by decide)) (fun _ => ?_)
  refine xp_step rfl ?_
  refine xp_step rfl ?_
  have run10 := xl_writeE (xs := xs) (z := z) (N := N) (C := C) (L := L) (g := g9) hB (Int32.ofNat n0) ((xsm_has h9.1.1).trans (xThF_hasn hF)) (by have := xts_len h9; omega)
  have h10 := xts_gx hB h9
  generalize xgx g9 = g10 at run10 h10
  refine xp_callR rfl (xR_up (by decide) run10) ?_
  refine xp_step rfl ?_
  refine xp_if2 rfl (fun q => absurd q (by decide)) (fun _ => ?_)
  refine xp_step rfl ?_
  refine xp_step rfl ?_
  obtain ⟨cnt11, bs11, hc11, hl11⟩ := h10.2.2.1
  have run11 := xl_lineCharE (xs := xs) (z := z) hB hl11 (x := (Int32.ofInt (-1))) (Or.inl (by decide)) (by have := xts_len h10; omega)
  have h11 := xts_gx hB h10
  generalize xgx g10 = g11 at run11 h11
  refine xp_callR rfl (xR_up (by decide) run11) ?_
  refine xp_step rfl ?_
  refine xp_if2 rfl (fun q => absurd q (by decide)) (fun _ => ?_)
  refine xp_step rfl ?_
  refine xp_step rfl ?_
  obtain ⟨cnt12, bs12, hc12, hl12⟩ := h11.2.2.1
  have run12 := xl_lineCharE (xs := xs) (z := z) hB hl12 (x := (Int8.ofInt 90).toInt32) (Or.inr (by rw [show (Int8.ofInt 90).toInt32 = Int32.ofNat 90 from by decide]; exact (xi_le (by omega) (by omega)).mpr (by omega))) (by have := xts_len h11; omega)
  have h12 := xts_gx hB h11
  generalize xgx g11 = g12 at run12 h12
  refine xp_callR rfl (xR_up (by decide) run12) ?_
  refine xp_step rfl ?_
  refine xp_if2 rfl (fun q => absurd q (by decide)) (fun _ => ?_)
  refine xp_step rfl ?_
  refine xp_step rfl ?_
  refine xp_step rfl ?_
  obtain ⟨g13, run13, h13⟩ := xt_is (K := xK xs) (Z := xZ z) hB h12 (Int32.ofInt 4) lt hd (by decide) (by omega)
  refine xp_callR rfl (xR_up (by decide) run13) ?_
  refine xp_if1 rfl (fun q => absurd q (by decide)) (fun _ => ?_)
  refine xp_step rfl ?_
  refine xp_jump rfl ?_
  refine xp_step rfl ?_
  refine xp_weak ?_ (kk _ _ (xts_mono h13 (by omega)))
  exact xLe_cons rfl (xLe_cons rfl (xLe_cons rfl (xLe_cons rfl (xLe_cons rfl (xLe_cons rfl xLe_nil)))))
end XTHE
