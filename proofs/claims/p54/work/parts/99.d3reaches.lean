/-! THROWN: a reach's own values are refused -/
section XTHL
variable {xs : List Int32} {z : Value} {K : List (Nat × List Value)} {Z : List Value} {pre g g0 : xH} {B L : Nat} {N N0 M : Nat → Nat → Int32} {C : Nat → Nat} {V H m n0 p0 h0 r : Nat} {u : Int32} {S : Int64} {P : xA → xH → Prop}
theorem xThF_hasr (hF : xThF N0 n0 p0 h0) (hr : r < n0) : xhas N0 1 (Int32.ofNat r) = true := by
  obtain ⟨⟨e2, -, -⟩, ⟨h1, h8⟩, -⟩ := hF
  refine xhas_n (by omega) ?_
  rw [e2]
  exact (xi_lt (by omega) (by omega)).mpr hr
/-- the numbers of a reach, wherever the river is alike -/
theorem xThR_c (hF : xThF N0 n0 p0 h0) (hr : r < n0) (hs : xSm M N0 1 1) : (Int32.ofNat r).toNatClampNeg = r ∧ (xhas M 1 (Int32.ofNat r) = true ∧ (∀ b, b < 9 → M (1 + 3 + (Int32.ofNat r).toNatClampNeg) b = N0 (1 + 3 + r) b)) := by
  have h8 := hF.2.1.2
  have er : (Int32.ofNat r).toNatClampNeg = r := (xi_ofNat (n := r) (by omega)).2.1
  exact ⟨er, (xsm_has hs).trans (xThF_hasr hF hr), fun b hb => by rw [er]; exact hs.2.1 r b (by omega) hb⟩
theorem xi2c_rule {x : Int32} (h : x = 102 ∨ (x = 104 ∨ x = 114)) : (x.toUInt32 % 65536).toInt32 = x ∧ xrule x = true := by
  rcases h with rfl | rfl | rfl <;> exact ⟨by decide, by decide⟩
theorem xwin_bd {x : Int32} {lo hi : Nat} {a b : Int32} (h : xBnd x lo hi) (ha : a.toInt = lo) (hb : b.toInt = hi) (hhi : hi < 2147483648) : xwin x a b = true := by
  obtain ⟨n, rfl, h1, h2⟩ := h
  exact xwin_of h1 h2 (by omega) ha hb
theorem xden4 {M N' : Nat → Nat → Int32} {v : Int32} (d : (-4 : Int32) ≠ -11 → (-4 : Int32) ≠ -12 → (N' 250 0 = -(-4) ∧ (N' 250 1 = xfDet M 1 (-(-4)) v ∧ N' 250 2 = 0))) : N' 250 0 = Int32.ofInt 4 ∧ (N' 250 1 = v ∧ N' 250 2 = 0) := by
  have k := d (by decide) (by decide)
  refine ⟨k.1, k.2.1.trans ?_, k.2.2⟩
  unfold xfDet
  rw [if_pos (by decide)]
theorem xp_i2cE {d nL : Nat} {hs : List (Nat × Nat × Nat × Nat)} {code cs : List xE} {loc : xL} {st : List Value} {h : xH} {pc ln : Nat} {aux : List Nat} {x v : Int32} (hw : (x.toUInt32 % 65536).toInt32 = v) (hb : xBp K Z d nL hs code cs loc (.int v :: st) h P) : xBp K Z d nL hs code ((pc, .i2c, ln, aux) :: cs) loc (.int x :: st) h P := by
  refine xp_step (st1 := .int v :: st) ?_ hb
  show xi1 (fun x => .int (x.toUInt32 % 65536).toInt32) loc (.int x :: st) h = _
  unfold xi1
  dsimp only
  rw [hw]
  rfl
set_option maxRecDepth 20000 in
theorem xs_thRa (hB : xBok pre B) (hV : V ≤ 1000000) (hF : xThF N0 n0 p0 h0) (hm : m ≤ 600) (hg : B + 253 + g0.length < 998000) (h : xTwn pre B N0 g0 V H m N C L g) (hr : r < n0) (hR : xRch N0 (1 + 3 + r) V) (kk : ∀ N' g', xTwn pre B N0 g0 V H (m + 6) N' C L g' → xBp (xK xs) (xZ z) 11 8 [] xcL_thrown (xseek xcL_thrown 602) [(0, .ref (B + 0)), (1, .long S), (3, .int (Int32.ofNat n0)), (4, .int u), (5, .int (Int32.ofNat h0)), (6, .int 1), (7, .int (Int32.ofNat r))] [] (xHn pre B N' C L g') P) : xBp (xK xs) (xZ z) 11 8 [] xcL_thrown (xseek xcL_thrown 525) [(0, .ref (B + 0)), (1, .long S), (3, .int (Int32.ofNat n0)), (4, .int u), (5, .int (Int32.ofNat h0)), (6, .int 1), (7, .int (Int32.ofNat r))] [] (xHn pre B N C L g) P := by
  have hs := h.1.1
  have hl := xts_len h
  obtain ⟨er, hh, hc⟩ := xThR_c hF hr hs
  obtain ⟨-, hhn, hcn⟩ := xThR_c hF hr (xts_sm h)
  obtain ⟨-, -, -, b3, -, -, -, -, b8⟩ := hR
  have c1 := xl_lateral (K := xK xs) (Z := xZ z) (N := N) (C := C) (L := L) (g := g) hB (Int32.ofNat r) hh (by omega)
  rw [hc 3 (by decide)] at c1
  obtain ⟨N1, g1, run1, h1, d1⟩ := xt_setLateral (K := xK xs) (Z := xZ z) hB hV h (Int32.ofNat r) (N0 (1 + 3 + r) 3) (cd := -4) (xf_lat4 hhn (xwin_bd b3 rfl rfl (by decide)) (hcn 3 (by decide))) (by decide) (by omega)
  have hl1 := xts_len h1
  obtain ⟨-, hh1, hc1⟩ := xThR_c hF hr h1.1.1
  have c2 := xl_lateral (K := xK xs) (Z := xZ z) (N := N1) (C := C) (L := L) (g := g1) hB (Int32.ofNat r) hh1 (by omega)
  rw [hc1 3 (by decide)] at c2
  obtain ⟨g2, run2, h2⟩ := xt_is (K := xK xs) (Z := xZ z) hB h1 (Int32.ofInt 4) (N0 (1 + 3 + r) 3) (xden4 d1) (by decide) (by omega)
  have hl2 := xts_len h2
  have c3 := xl_rule (K := xK xs) (Z := xZ z) (N := N1) (C := C) (L := L) (g := g2) hB (Int32.ofNat r) (h2.2.1.2.1 1 (by decide)) hh1 (by omega)
  rw [hc1 8 (by decide)] at c3
  obtain ⟨ei, hru⟩ := xi2c_rule b8
  obtain ⟨-, hhn1, hcn1⟩ := xThR_c hF hr (xts_sm h2)
  obtain ⟨N3, g3, run3, h3, d3⟩ := xt_setRule (K := xK xs) (Z := xZ z) hB hV h2 (Int32.ofNat r) (N0 (1 + 3 + r) 8) (cd := -4) (xf_rule4 hhn1 hru (hcn1 8 (by decide))) (by decide) (by omega)
  have hl3 := xts_len h3
  obtain ⟨-, hh3, hc3⟩ := xThR_c hF hr h3.1.1
  have c4 := xl_rule (K := xK xs) (Z := xZ z) (N := N3) (C := C) (L := L) (g := g3) hB (Int32.ofNat r) (h3.2.1.2.1 1 (by decide)) hh3 (by omega)
  rw [hc3 8 (by decide)] at c4
  obtain ⟨g4, run4, h4⟩ := xt_is (K := xK xs) (Z := xZ z) hB h3 (Int32.ofInt 4) (N0 (1 + 3 + r) 8) (xden4 d3) (by decide) (by omega)
  refine xp_step rfl ?_
  refine xp_if1 rfl (fun q => absurd q (by decide)) (fun _ => ?_)
  refine xp_step rfl ?_
  refine xp_step rfl ?_
  refine xp_step rfl ?_
  refine xp_step rfl ?_
  refine xp_callR rfl (xR_up (by decide) (c1)) ?_
  refine xp_callR rfl (xR_up (by decide) (run1)) ?_
  refine xp_step rfl ?_
  refine xp_if2 rfl (fun q => absurd q (by decide)) (fun _ => ?_)
  refine xp_step rfl ?_
  refine xp_step rfl ?_
  refine xp_step rfl ?_
  refine xp_step rfl ?_
  refine xp_callR rfl (xR_up (by decide) (c2)) ?_
  refine xp_callR rfl (xR_up (by decide) (run2)) ?_
  refine xp_if1 rfl (fun q => absurd q (by decide)) (fun _ => ?_)
  refine xp_step rfl ?_
  refine xp_step rfl ?_
  refine xp_step rfl ?_
  refine xp_step rfl ?_
  refine xp_callR rfl (xR_up (by decide) (c3)) ?_
  refine xp_i2cE ei ?_
  refine xp_callR rfl (xR_up (by decide) (run3)) ?_
  refine xp_step rfl ?_
  refine xp_if2 rfl (fun q => absurd q (by decide)) (fun _ => ?_)
  refine xp_step rfl ?_
  refine xp_step rfl ?_
  refine xp_step rfl ?_
  refine xp_step rfl ?_
  refine xp_callR rfl (xR_up (by decide) (c4)) ?_
  refine xp_callR rfl (xR_up (by decide) (run4)) ?_
  refine xp_if1 rfl (fun q => absurd q (by decide)) (fun _ => ?_)
  refine xp_step rfl ?_
  refine xp_jump rfl ?_
  refine xp_step rfl ?_
  refine xp_weak ?_ (kk _ _ (xts_mono h4 (by omega)))
  exact xLe_cons rfl (xLe_cons rfl (xLe_cons rfl (xLe_cons rfl (xLe_cons rfl (xLe_cons rfl (xLe_cons rfl xLe_nil))))))
set_option maxRecDepth 20000 in
theorem xs_thRb (hB : xBok pre B) (hV : V ≤ 1000000) (hF : xThF N0 n0 p0 h0) (hm : m ≤ 600) (hg : B + 253 + g0.length < 998000) (h : xTwn pre B N0 g0 V H m N C L g) (hr : r < n0) (hR : xRch N0 (1 + 3 + r) V) (kk : ∀ N' g', xTwn pre B N0 g0 V H (m + 3) N' C L g' → xBp (xK xs) (xZ z) 11 8 [] xcL_thrown (xseek xcL_thrown 657) [(0, .ref (B + 0)), (1, .long S), (3, .int (Int32.ofNat n0)), (4, .int u), (5, .int (Int32.ofNat h0)), (6, .int 1), (7, .int (Int32.ofNat r))] [] (xHn pre B N' C L g') P) : xBp (xK xs) (xZ z) 11 8 [] xcL_thrown (xseek xcL_thrown 602) [(0, .ref (B + 0)), (1, .long S), (3, .int (Int32.ofNat n0)), (4, .int u), (5, .int (Int32.ofNat h0)), (6, .int 1), (7, .int (Int32.ofNat r))] [] (xHn pre B N C L g) P := by
  have hs := h.1.1
  have hl := xts_len h
  obtain ⟨er, hh, hc⟩ := xThR_c hF hr hs
  have c1 := xl_rule (K := xK xs) (Z := xZ z) (N := N) (C := C) (L := L) (g := g) hB (Int32.ofNat r) (h.2.1.2.1 1 (by decide)) hh (by omega)
  rw [hc 8 (by decide)] at c1
  refine xp_step rfl ?_
  refine xp_step rfl ?_
  refine xp_callR rfl (xR_up (by decide) (c1)) ?_
  refine xp_step rfl ?_
  refine xp_if2 rfl (fun _ => ?_) (fun q => ?_)
  · exact kk _ _ (xts_mono h (by omega))
  · have e8 : N0 (1 + 3 + r) 8 = 102 := by
      rcases hR.2.2.2.2.2.2.2.2 with e | e | e
      · exact e
      · rw [e] at q; exact absurd q (by decide)
      · rw [e] at q; exact absurd q (by decide)
    have eop : ∀ M : Nat → Nat → Int32, xSm M N0 1 1 → xfOpen M 1 (Int32.ofNat r) = N0 (1 + 3 + r) 7 := by
      intro M hM
      obtain ⟨-, -, hcM⟩ := xThR_c hF hr hM
      unfold xfOpen
      rw [hcM 8 (by decide), hcM 7 (by decide), e8, if_neg (fun k => absurd k.1 (by decide)), if_neg (fun k => absurd k.1 (by decide))]
    obtain ⟨-, hhn, hcn⟩ := xThR_c hF hr (xts_sm h)
    obtain ⟨-, -, -, -, -, -, -, b7, -⟩ := hR
    have c2 := xl_opening (K := xK xs) (Z := xZ z) (N := N) (C := C) (L := L) (g := g) hB (Int32.ofNat r) hh (by omega)
    rw [eop N hs] at c2
    obtain ⟨N1, g1, run1, h1, d1⟩ := xt_setGate (K := xK xs) (Z := xZ z) hB hV h (Int32.ofNat r) (N0 (1 + 3 + r) 7) (cd := -4) (xf_set4 hhn (xwin_bd b7 rfl rfl (by decide)) (hcn 7 (by decide))) (by decide) (by omega)
    have hl1 := xts_len h1
    obtain ⟨-, hh1, hc1⟩ := xThR_c hF hr h1.1.1
    have c3 := xl_opening (K := xK xs) (Z := xZ z) (N := N1) (C := C) (L := L) (g := g1) hB (Int32.ofNat r) hh1 (by omega)
    rw [eop N1 h1.1.1] at c3
    obtain ⟨g2, run2, h2⟩ := xt_is (K := xK xs) (Z := xZ z) hB h1 (Int32.ofInt 4) (N0 (1 + 3 + r) 7) (xden4 d1) (by decide) (by omega)
    refine xp_step rfl ?_
    refine xp_if1 rfl (fun q => absurd q (by decide)) (fun _ => ?_)
    refine xp_step rfl ?_
    refine xp_step rfl ?_
    refine xp_step rfl ?_
    refine xp_step rfl ?_
    refine xp_callR rfl (xR_up (by decide) (c2)) ?_
    refine xp_callR rfl (xR_up (by decide) (run1)) ?_
    refine xp_step rfl ?_
    refine xp_if2 rfl (fun q => absurd q (by decide)) (fun _ => ?_)
    refine xp_step rfl ?_
    refine xp_step rfl ?_
    refine xp_step rfl ?_
    refine xp_step rfl ?_
    refine xp_callR rfl (xR_up (by decide) (c3)) ?_
    refine xp_callR rfl (xR_up (by decide) (run2)) ?_
    refine xp_if1 rfl (fun q => absurd q (by decide)) (fun _ => ?_)
    refine xp_step rfl ?_
    refine xp_jump rfl ?_
    refine xp_step rfl ?_
    refine xp_weak ?_ (kk _ _ (xts_mono h2 (by omega)))
    exact xLe_cons rfl (xLe_cons rfl (xLe_cons rfl (xLe_cons rfl (xLe_cons rfl (xLe_cons rfl (xLe_cons rfl xLe_nil))))))
theorem xroom_ne (hR : xRch N0 (1 + 3 + r) V) (hV : V ≤ 1000000) (h2 : ¬ xsta N0 (1 + 3 + r) = 2) : N0 (1 + 3 + r) 6 * N0 (1 + 3 + r) 0 - 1 - N0 (1 + 3 + r) 4 ≠ -1002 := by
  obtain ⟨⟨s, es, s1, s2⟩, -, -, -, ⟨v, ev, -, v2⟩, -, ⟨f, ef, f1, f2⟩, -, -⟩ := hR
  have hm : f * s ≤ 999 * 50 := Nat.mul_le_mul f2 s2
  have hlt : v < f * s := by
    unfold xsta at h2
    rw [ev, ef, es, xi_mul] at h2
    by_cases q : Int32.ofNat v < Int32.ofNat (f * s)
    · exact (xi_lt (by omega) (by omega)).mp q
    · rw [if_neg q] at h2
      exact absurd rfl h2
  rw [ev, ef, es, xi_mul, show Int32.ofNat (f * s) - 1 = Int32.ofNat (f * s - 1) from xi_subN (a := f * s) (b := 1) (by omega) (by omega), xi_subN (by omega) (by omega)]
  intro e
  have := congrArg Int32.toInt e
  rw [(xi_ofNat (n := f * s - 1 - v) (by omega)).1, show (-1002 : Int32).toInt = -1002 from rfl] at this
  omega
set_option maxRecDepth 20000 in
theorem xs_thRc (hB : xBok pre B) (hV : V ≤ 1000000) (hF : xThF N0 n0 p0 h0) (hm : m ≤ 600) (hg : B + 253 + g0.length < 998000) (h : xTwn pre B N0 g0 V H m N C L g) (hr : r < n0) (hR : xRch N0 (1 + 3 + r) V) (kk : ∀ N' g', xTwn pre B N0 g0 V H (m + 1) N' C L g' → xBp (xK xs) (xZ z) 11 8 [] xcL_thrown (xseek xcL_thrown 704) [(0, .ref (B + 0)), (1, .long S), (3, .int (Int32.ofNat n0)), (4, .int u), (5, .int (Int32.ofNat h0)), (6, .int 1), (7, .int (Int32.ofNat r))] [] (xHn pre B N' C L g') P) : xBp (xK xs) (xZ z) 11 8 [] xcL_thrown (xseek xcL_thrown 657) [(0, .ref (B + 0)), (1, .long S), (3, .int (Int32.ofNat n0)), (4, .int u), (5, .int (Int32.ofNat h0)), (6, .int 1), (7, .int (Int32.ofNat r))] [] (xHn pre B N C L g) P := by
  have hs := h.1.1
  have hl := xts_len h
  obtain ⟨er, hh, hc⟩ := xThR_c hF hr hs
  have esta : xsta N (1 + 3 + (Int32.ofNat r).toNatClampNeg) = xsta N0 (1 + 3 + r) := by
    rw [er]
    exact xsm_sta hs (by have := hF.2.1.2; omega)
  have c1 := xl_status (K := xK xs) (Z := xZ z) (N := N) (C := C) (L := L) (g := g) hB (Int32.ofNat r) hh (by omega)
  rw [esta] at c1
  have c2 := xl_room (K := xK xs) (Z := xZ z) (N := N) (C := C) (L := L) (g := g) hB (Int32.ofNat r) hh (by omega)
  obtain ⟨k2, k2'⟩ := xRoomG_gr (N := N) (g := g) (Int32.ofNat r) hh
  have h2 : xTwn pre B N0 g0 V H (m + 1) N C L (xRoomG N g (Int32.ofNat r)) := by
    rcases k2' with e | e
    · rw [e]; exact xts_mono h (by omega)
    · rw [e]; exact xts_gx hB h
  generalize xRoomG N g (Int32.ofNat r) = g2 at c2 h2
  have fin : xBp (xK xs) (xZ z) 11 8 [] xcL_thrown (xseek xcL_thrown 704) [(0, .ref (B + 0)), (1, .long S), (3, .int (Int32.ofNat n0)), (4, .int u), (5, .int (Int32.ofNat h0)), (6, .int 1), (7, .int (Int32.ofNat r))] [] (xHn pre B N C L g2) P := kk _ _ h2
  refine xp_step rfl ?_
  refine xp_if1 rfl (fun q => absurd q (by decide)) (fun _ => ?_)
  refine xp_step rfl ?_
  refine xp_step rfl ?_
  refine xp_callR rfl (xR_up (by decide) (c1)) ?_
  refine xp_step rfl ?_
  by_cases hq : xsta N0 (1 + 3 + r) = 2
  · have er2 : xRoom N (Int32.ofNat r) = -1002 := by
      unfold xRoom
      rw [esta, if_pos hq]
    rw [er2] at c2
    rw [hq]
    refine xp_if2 rfl (fun q => absurd q (by decide)) (fun _ => ?_)
    refine xp_step rfl ?_
    refine xp_jump rfl ?_
    refine xp_step rfl ?_
    refine xp_step rfl ?_
    refine xp_callR rfl (xR_up (by decide) (c2)) ?_
    refine xp_step rfl ?_
    refine xp_if2 rfl (fun q => absurd q (by decide)) (fun _ => ?_)
    refine xp_step rfl ?_
    refine xp_jump rfl ?_
    refine xp_if2 rfl (fun q => absurd q (by decide)) (fun _ => ?_)
    refine xp_step rfl ?_
    refine xp_jump rfl ?_
    refine xp_step rfl ?_
    refine xp_weak ?_ fin
    exact xLe_cons rfl (xLe_cons rfl (xLe_cons rfl (xLe_cons rfl (xLe_cons rfl (xLe_cons rfl (xLe_cons rfl xLe_nil))))))
  · have er2 : xRoom N (Int32.ofNat r) = N0 (1 + 3 + r) 6 * N0 (1 + 3 + r) 0 - 1 - N0 (1 + 3 + r) 4 := by
      unfold xRoom
      rw [esta, if_neg hq, hc 6 (by decide), hc 0 (by decide), hc 4 (by decide)]
    rw [er2] at c2
    have hne := xroom_ne hR hV hq
    refine xp_if2 rfl (fun _ => ?_) (fun q => absurd (show xsta N0 (1 + 3 + r) = 2 by simpa [xic] using q) hq)
    refine xp_step rfl ?_
    refine xp_step rfl ?_
    refine xp_step rfl ?_
    refine xp_callR rfl (xR_up (by decide) (c2)) ?_
    refine xp_step rfl ?_
    refine xp_if2 rfl (fun _ => ?_) (fun q => absurd (show N0 (1 + 3 + r) 6 * N0 (1 + 3 + r) 0 - 1 - N0 (1 + 3 + r) 4 = -1002 by simpa [xic] using q) hne)
    refine xp_step rfl ?_
    refine xp_if2 rfl (fun q => absurd q (by decide)) (fun _ => ?_)
    refine xp_step rfl ?_
    refine xp_jump rfl ?_
    refine xp_step rfl ?_
    refine xp_weak ?_ fin
    exact xLe_cons rfl (xLe_cons rfl (xLe_cons rfl (xLe_cons rfl (xLe_cons rfl (xLe_cons rfl (xLe_cons rfl xLe_nil))))))
set_option maxRecDepth 20000 in
theorem xs_thL (hB : xBok pre B) (hV : V ≤ 1000000) (hF : xThF N0 n0 p0 h0) (hg : B + 253 + g0.length < 998000) (hR : ∀ r, r < n0 → xRch N0 (1 + 3 + r) V) (hm : m ≤ 500) (kk : ∀ N' g', xTwn pre B N0 g0 V H (m + 80) N' C L g' → xBp (xK xs) (xZ z) 11 8 [] xcL_thrown (xseek xcL_thrown 710) [(0, .ref (B + 0)), (1, .long S), (3, .int (Int32.ofNat n0)), (4, .int u), (5, .int (Int32.ofNat h0)), (6, .int 1)] [] (xHn pre B N' C L g') P) :
    ∀ k r N g, r + k = n0 → xTwn pre B N0 g0 V H (m + 10 * r) N C L g → xBp (xK xs) (xZ z) 11 8 [] xcL_thrown (xseek xcL_thrown 519) [(0, .ref (B + 0)), (1, .long S), (3, .int (Int32.ofNat n0)), (4, .int u), (5, .int (Int32.ofNat h0)), (6, .int 1), (7, .int (Int32.ofNat r))] [] (xHn pre B N C L g) P := by
  have h8 := hF.2.1.2
  intro k
  induction k with
  | zero =>
    intro r N g hr h
    obtain rfl : r = n0 := by omega
    refine xp_step rfl ?_
    refine xp_step rfl ?_
    refine xp_if2 rfl (fun _ => ?_) (fun q => absurd (Int32.le_refl _) (of_decide_eq_false q))
    refine xp_weak ?_ (kk _ _ (xts_mono h (by omega)))
    exact xLe_cons rfl (xLe_cons rfl (xLe_cons rfl (xLe_cons rfl (xLe_cons rfl (xLe_cons rfl xLe_nil)))))
  | succ k ih =>
    intro r N g hr h
    refine xp_step rfl ?_
    refine xp_step rfl ?_
    refine xp_if2 rfl (fun q => ?_) (fun _ => ?_)
    · have q : Int32.ofNat n0 ≤ Int32.ofNat r := of_decide_eq_true q
      rw [xi_le (by omega) (by omega)] at q
      omega
    refine xs_thRa hB hV hF (by omega) hg h (by omega) (hR r (by omega)) (fun N1 g1 h1 => ?_)
    refine xs_thRb hB hV hF (by omega) hg h1 (by omega) (hR r (by omega)) (fun N2 g2 h2 => ?_)
    refine xs_thRc hB hV hF (by omega) hg h2 (by omega) (hR r (by omega)) (fun N3 g3 h3 => ?_)
    refine xp_step rfl ?_
    refine xp_jump rfl ?_
    rw [show Int32.ofNat r + Int32.ofInt 1 = Int32.ofNat (r + 1) from xi_succ]
    refine xp_weak ?_ (ih (r + 1) N3 g3 (by omega) (xts_mono h3 (by omega)))
    exact xLe_cons rfl (xLe_cons rfl (xLe_cons rfl (xLe_cons rfl (xLe_cons rfl (xLe_cons rfl (xLe_cons rfl xLe_nil))))))
end XTHL
