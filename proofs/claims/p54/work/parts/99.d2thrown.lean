/-! THROWN: the calls that are refused, first part -/
def xThF (N0 : Nat → Nat → Int32) (n0 p0 h0 : Nat) : Prop := (N0 1 2 = Int32.ofNat n0 ∧ (N0 1 3 = Int32.ofNat p0 ∧ N0 1 4 = Int32.ofNat h0)) ∧ ((1 ≤ n0 ∧ n0 ≤ 8) ∧ (p0 ≤ 8 ∧ h0 ≤ 48))
section XTHR
variable {xs : List Int32} {z : Value} {K : List (Nat × List Value)} {Z : List Value} {pre g g0 : xH} {B L : Nat} {N N0 : Nat → Nat → Int32} {C : Nat → Nat} {V H m n0 p0 h0 : Nat} {s p c u x y w e : Int32} {S : Int64} {P : xA → xH → Prop}
theorem xThF_has0 (hF : xThF N0 n0 p0 h0) : xhas N0 1 (Int32.ofInt 0) = true := by
  obtain ⟨⟨e2, -, -⟩, ⟨h1, h8⟩, -⟩ := hF
  refine xhas_n (n := 0) (by decide) ?_
  rw [e2]
  exact (xi_lt (by decide) (by omega)).mpr (by omega)
theorem xThF_hasn (hF : xThF N0 n0 p0 h0) : xhas N0 1 (Int32.ofNat n0) = false := by
  obtain ⟨⟨e2, -, -⟩, -⟩ := hF
  unfold xhas
  rw [e2, decide_eq_false Int32.lt_irrefl]
  simp
theorem xThF_hasm (hF : xThF N0 n0 p0 h0) : xhas N0 1 (Int32.ofInt (-1)) = false := by
  unfold xhas
  rw [decide_eq_false (by decide)]
  rfl
theorem xpu_b (h : xwin p 1 24 = false) : xpuOk s p c = false := by
  unfold xpuOk
  rw [h]
  simp
theorem xpu_c (h : xwin c 1 200 = false) : xpuOk s p c = false := by
  unfold xpuOk
  rw [h]
  simp
theorem xt_is (hB : xBok pre B) (h : xTwn pre B N0 g0 V H m N C L g) (w e : Int32) (hd : N 250 0 = w ∧ (N 250 1 = e ∧ N 250 2 = 0)) (hw : w ≠ 0) (hg : B + 253 + g0.length + m < 999000) : ∃ g', xRn K Z 5 238 [.ref (B + 0), .int w, .int e] (xHn pre B N C L g) (.ok (some (.int 1))) (xHn pre B N C L g') ∧ xTwn pre B N0 g0 V H (m + 2) N C L g' := by
  have hl := xts_len h
  exact ⟨_, xl_is hB hd.1 hw hd.2.1 hd.2.2 (by omega), xts_gx hB (xts_gx hB h)⟩
set_option maxRecDepth 20000 in
theorem xs_th1 (hB : xBok pre B) (hV : V ≤ 1000000) (hF : xThF N0 n0 p0 h0) (hm : m ≤ 600) (hg : B + 253 + g0.length < 998000) (h : xTwn pre B N0 g0 V H m N C L g) (kk : ∀ N' g', xTwn pre B N0 g0 V H (m + 9) N' C L g' → xBp (xK xs) (xZ z) 11 8 [] xcL_thrown (xseek xcL_thrown 133) [(0, .ref (B + 0)), (1, .long S), (3, .int (Int32.ofNat n0)), (4, .int u), (5, .int (Int32.ofNat h0))] [] (xHn pre B N' C L g') P) : xBp (xK xs) (xZ z) 11 8 [] xcL_thrown (xseek xcL_thrown 22) [(0, .ref (B + 0)), (1, .long S), (3, .int (Int32.ofNat n0)), (4, .int u), (5, .int (Int32.ofNat h0))] [] (xHn pre B N C L g) P := by
  refine xp_step rfl ?_
  refine xp_step rfl ?_
  refine xp_step rfl ?_
  refine xp_step rfl ?_
  obtain ⟨N1, g1, run1, h1, d1⟩ := xt_addReach (K := xK xs) (Z := xZ z) hB hV h (Int32.ofInt 0) (Int32.ofInt 5) (Int32.ofInt 1) (cd := -12) (xf_app12 (by decide)) (by decide) (by omega)
  refine xp_callR rfl (xR_up (by decide) run1) ?_
  refine xp_step rfl ?_
  refine xp_if2 rfl (fun q => absurd q (by decide)) (fun _ => ?_)
  refine xp_step rfl ?_
  refine xp_step rfl ?_
  refine xp_step rfl ?_
  refine xp_step rfl ?_
  obtain ⟨N2, g2, run2, h2, d2⟩ := xt_addReach (K := xK xs) (Z := xZ z) hB hV h1 (Int8.ofInt 51).toInt32 (Int32.ofInt 5) (Int32.ofInt 1) (cd := -12) (xf_app12 (by decide)) (by decide) (by omega)
  refine xp_callR rfl (xR_up (by decide) run2) ?_
  refine xp_step rfl ?_
  refine xp_if2 rfl (fun q => absurd q (by decide)) (fun _ => ?_)
  refine xp_step rfl ?_
  refine xp_step rfl ?_
  refine xp_step rfl ?_
  refine xp_step rfl ?_
  obtain ⟨N3, g3, run3, h3, d3⟩ := xt_addReach (K := xK xs) (Z := xZ z) hB hV h2 (Int32.ofInt 1) (Int32.ofInt 4) (Int32.ofInt 1) (cd := -12) (xf_app12 (by decide)) (by decide) (by omega)
  refine xp_callR rfl (xR_up (by decide) run3) ?_
  refine xp_step rfl ?_
  refine xp_if2 rfl (fun q => absurd q (by decide)) (fun _ => ?_)
  refine xp_step rfl ?_
  refine xp_step rfl ?_
  refine xp_step rfl ?_
  refine xp_step rfl ?_
  obtain ⟨N4, g4, run4, h4, d4⟩ := xt_addReach (K := xK xs) (Z := xZ z) hB hV h3 (Int32.ofInt 1) (Int8.ofInt 61).toInt32 (Int32.ofInt 1) (cd := -12) (xf_app12 (by decide)) (by decide) (by omega)
  refine xp_callR rfl (xR_up (by decide) run4) ?_
  refine xp_step rfl ?_
  refine xp_if2 rfl (fun q => absurd q (by decide)) (fun _ => ?_)
  refine xp_step rfl ?_
  refine xp_step rfl ?_
  refine xp_step rfl ?_
  refine xp_step rfl ?_
  obtain ⟨N5, g5, run5, h5, d5⟩ := xt_addReach (K := xK xs) (Z := xZ z) hB hV h4 (Int32.ofInt 1) (Int32.ofInt 5) (Int32.ofInt 0) (cd := -12) (xf_app12 (by decide)) (by decide) (by omega)
  refine xp_callR rfl (xR_up (by decide) run5) ?_
  refine xp_step rfl ?_
  refine xp_if2 rfl (fun q => absurd q (by decide)) (fun _ => ?_)
  refine xp_step rfl ?_
  refine xp_step rfl ?_
  refine xp_step rfl ?_
  refine xp_step rfl ?_
  obtain ⟨N6, g6, run6, h6, d6⟩ := xt_addReach (K := xK xs) (Z := xZ z) hB hV h5 (Int32.ofInt 1) (Int32.ofInt 5) (Int16.ofInt (501)).toInt32 (cd := -12) (xf_app12 (by decide)) (by decide) (by omega)
  refine xp_callR rfl (xR_up (by decide) run6) ?_
  refine xp_step rfl ?_
  refine xp_if2 rfl (fun q => absurd q (by decide)) (fun _ => ?_)
  refine xp_step rfl ?_
  refine xp_step rfl ?_
  refine xp_if2 rfl (fun _ => ?_) (fun q => ?_)
  · exact kk _ _ (xts_mono h6 (by omega))
  · have q : ¬ Int32.ofNat n0 < Int32.ofNat 8 := of_decide_eq_false q
    rw [xi_lt (by have := hF.2.1.2; omega) (by decide)] at q
    have hfull : xwin (xNn N6 1 2) 0 7 = false := by
      rw [(xts_sm h6).1 2 (by decide) (by decide), hF.1.1, show n0 = 8 by have := hF.2.1.2; omega]
      decide
    refine xp_step rfl ?_
    refine xp_step rfl ?_
    refine xp_step rfl ?_
    refine xp_step rfl ?_
    obtain ⟨N7, g7, run7, h7, d7⟩ := xt_addReach (K := xK xs) (Z := xZ z) hB hV h6 (Int32.ofInt 1) (Int32.ofInt 5) (Int32.ofInt 1) (cd := -1) (xf_app1 (by decide) hfull) (by decide) (by omega)
    refine xp_callR rfl (xR_up (by decide) run7) ?_
    refine xp_step rfl ?_
    refine xp_if2 rfl (fun q => absurd q (by decide)) (fun _ => ?_)
    refine xp_step rfl ?_
    refine xp_step rfl ?_
    refine xp_step rfl ?_
    obtain ⟨g8, run8, h8⟩ := xt_is (K := xK xs) (Z := xZ z) hB h7 (Int32.ofInt 1) (Int8.ofInt 8).toInt32 ⟨(d7 (by decide) (by decide)).1, (d7 (by decide) (by decide)).2.1.trans (by unfold xfDet; rw [if_neg (by decide), if_pos (by decide)]; decide), (d7 (by decide) (by decide)).2.2⟩ (by decide) (by omega)
    refine xp_callR rfl (xR_up (by decide) run8) ?_
    refine xp_if1 rfl (fun q => absurd q (by decide)) (fun _ => ?_)
    exact kk _ _ (xts_mono h8 (by omega))
set_option maxRecDepth 20000 in
theorem xs_th2 (hB : xBok pre B) (hV : V ≤ 1000000) (hF : xThF N0 n0 p0 h0) (hm : m ≤ 600) (hg : B + 253 + g0.length < 998000) (h : xTwn pre B N0 g0 V H m N C L g) (kk : ∀ N' g', xTwn pre B N0 g0 V H (m + 10) N' C L g' → xBp (xK xs) (xZ z) 11 8 [] xcL_thrown (xseek xcL_thrown 270) [(0, .ref (B + 0)), (1, .long S), (3, .int (Int32.ofNat n0)), (4, .int u), (5, .int (Int32.ofNat h0))] [] (xHn pre B N' C L g') P) : xBp (xK xs) (xZ z) 11 8 [] xcL_thrown (xseek xcL_thrown 133) [(0, .ref (B + 0)), (1, .long S), (3, .int (Int32.ofNat n0)), (4, .int u), (5, .int (Int32.ofNat h0))] [] (xHn pre B N C L g) P := by
  refine xp_step rfl ?_
  refine xp_step rfl ?_
  refine xp_step rfl ?_
  obtain ⟨N1, g1, run1, h1, d1⟩ := xt_setLateral (K := xK xs) (Z := xZ z) hB hV h (Int32.ofNat n0) (Int8.ofInt 99).toInt32 (cd := -11) (xf_lat11 ((xts_has h _).trans (xThF_hasn hF))) (by decide) (by omega)
  refine xp_callR rfl (xR_up (by decide) run1) ?_
  refine xp_step rfl ?_
  refine xp_if2 rfl (fun q => absurd q (by decide)) (fun _ => ?_)
  refine xp_step rfl ?_
  refine xp_step rfl ?_
  refine xp_step rfl ?_
  obtain ⟨N2, g2, run2, h2, d2⟩ := xt_setLateral (K := xK xs) (Z := xZ z) hB hV h1 (Int32.ofInt 0) (Int32.ofInt (-1)) (cd := -12) (xf_lat12 ((xts_has h1 _).trans (xThF_has0 hF)) (by decide)) (by decide) (by omega)
  refine xp_callR rfl (xR_up (by decide) run2) ?_
  refine xp_step rfl ?_
  refine xp_if2 rfl (fun q => absurd q (by decide)) (fun _ => ?_)
  refine xp_step rfl ?_
  refine xp_step rfl ?_
  refine xp_step rfl ?_
  obtain ⟨N3, g3, run3, h3, d3⟩ := xt_setLateral (K := xK xs) (Z := xZ z) hB hV h2 (Int32.ofInt 0) (Int8.ofInt 51).toInt32 (cd := -12) (xf_lat12 ((xts_has h2 _).trans (xThF_has0 hF)) (by decide)) (by decide) (by omega)
  refine xp_callR rfl (xR_up (by decide) run3) ?_
  refine xp_step rfl ?_
  refine xp_if2 rfl (fun q => absurd q (by decide)) (fun _ => ?_)
  refine xp_step rfl ?_
  refine xp_step rfl ?_
  refine xp_step rfl ?_
  obtain ⟨N4, g4, run4, h4, d4⟩ := xt_fill (K := xK xs) (Z := xZ z) hB hV h3 (Int32.ofNat n0) (Int32.ofInt 0) (cd := -11) (xf_pour11 ((xts_has h3 _).trans (xThF_hasn hF))) (by decide) (by omega)
  refine xp_callR rfl (xR_up (by decide) run4) ?_
  refine xp_step rfl ?_
  refine xp_if2 rfl (fun q => absurd q (by decide)) (fun _ => ?_)
  refine xp_step rfl ?_
  refine xp_step rfl ?_
  refine xp_step rfl ?_
  obtain ⟨N5, g5, run5, h5, d5⟩ := xt_fill (K := xK xs) (Z := xZ z) hB hV h4 (Int32.ofInt 0) (Int32.ofInt 0) (cd := -12) (xf_pour12 ((xts_has h4 _).trans (xThF_has0 hF)) (by decide)) (by decide) (by omega)
  refine xp_callR rfl (xR_up (by decide) run5) ?_
  refine xp_step rfl ?_
  refine xp_if2 rfl (fun q => absurd q (by decide)) (fun _ => ?_)
  refine xp_step rfl ?_
  refine xp_step rfl ?_
  refine xp_step rfl ?_
  obtain ⟨N6, g6, run6, h6, d6⟩ := xt_fill (K := xK xs) (Z := xZ z) hB hV h5 (Int32.ofInt 0) (Int16.ofInt (1000)).toInt32 (cd := -12) (xf_pour12 ((xts_has h5 _).trans (xThF_has0 hF)) (by decide)) (by decide) (by omega)
  refine xp_callR rfl (xR_up (by decide) run6) ?_
  refine xp_step rfl ?_
  refine xp_if2 rfl (fun q => absurd q (by decide)) (fun _ => ?_)
  refine xp_step rfl ?_
  refine xp_step rfl ?_
  refine xp_step rfl ?_
  refine xp_step rfl ?_
  obtain ⟨N7, g7, run7, h7, d7⟩ := xt_setStages (K := xK xs) (Z := xZ z) hB hV h6 (Int32.ofNat n0) (Int8.ofInt 9).toInt32 (Int8.ofInt 9).toInt32 (cd := -11) (xf_st11 ((xts_has h6 _).trans (xThF_hasn hF))) (by decide) (by omega)
  refine xp_callR rfl (xR_up (by decide) run7) ?_
  refine xp_step rfl ?_
  refine xp_if2 rfl (fun q => absurd q (by decide)) (fun _ => ?_)
  refine xp_step rfl ?_
  refine xp_step rfl ?_
  refine xp_step rfl ?_
  refine xp_step rfl ?_
  obtain ⟨N8, g8, run8, h8, d8⟩ := xt_setStages (K := xK xs) (Z := xZ z) hB hV h7 (Int32.ofInt 0) (Int8.ofInt 9).toInt32 (Int8.ofInt 9).toInt32 (cd := -12) (xf_st12 ((xts_has h7 _).trans (xThF_has0 hF)) (by decide)) (by decide) (by omega)
  refine xp_callR rfl (xR_up (by decide) run8) ?_
  refine xp_step rfl ?_
  refine xp_if2 rfl (fun q => absurd q (by decide)) (fun _ => ?_)
  refine xp_step rfl ?_
  refine xp_step rfl ?_
  refine xp_step rfl ?_
  refine xp_step rfl ?_
  obtain ⟨N9, g9, run9, h9, d9⟩ := xt_setStages (K := xK xs) (Z := xZ z) hB hV h8 (Int32.ofInt 0) (Int32.ofInt 0) (Int8.ofInt 9).toInt32 (cd := -12) (xf_st12 ((xts_has h8 _).trans (xThF_has0 hF)) (by decide)) (by decide) (by omega)
  refine xp_callR rfl (xR_up (by decide) run9) ?_
  refine xp_step rfl ?_
  refine xp_if2 rfl (fun q => absurd q (by decide)) (fun _ => ?_)
  refine xp_step rfl ?_
  refine xp_step rfl ?_
  refine xp_step rfl ?_
  refine xp_step rfl ?_
  obtain ⟨N10, g10, run10, h10, d10⟩ := xt_setStages (K := xK xs) (Z := xZ z) hB hV h9 (Int32.ofInt 0) (Int16.ofInt (998)).toInt32 (Int16.ofInt (1000)).toInt32 (cd := -12) (xf_st12 ((xts_has h9 _).trans (xThF_has0 hF)) (by decide)) (by decide) (by omega)
  refine xp_callR rfl (xR_up (by decide) run10) ?_
  refine xp_step rfl ?_
  refine xp_if2 rfl (fun q => absurd q (by decide)) (fun _ => ?_)
  exact kk _ _ (xts_mono h10 (by omega))
set_option maxRecDepth 20000 in
theorem xs_th3 (hB : xBok pre B) (hV : V ≤ 1000000) (hF : xThF N0 n0 p0 h0) (hm : m ≤ 600) (hg : B + 253 + g0.length < 998000) (h : xTwn pre B N0 g0 V H m N C L g) (kk : ∀ N' g', xTwn pre B N0 g0 V H (m + 12) N' C L g' → xBp (xK xs) (xZ z) 11 8 [] xcL_thrown (xseek xcL_thrown 422) [(0, .ref (B + 0)), (1, .long S), (3, .int (Int32.ofNat n0)), (4, .int u), (5, .int (Int32.ofNat h0))] [] (xHn pre B N' C L g') P) : xBp (xK xs) (xZ z) 11 8 [] xcL_thrown (xseek xcL_thrown 270) [(0, .ref (B + 0)), (1, .long S), (3, .int (Int32.ofNat n0)), (4, .int u), (5, .int (Int32.ofNat h0))] [] (xHn pre B N C L g) P := by
  refine xp_step rfl ?_
  refine xp_step rfl ?_
  refine xp_step rfl ?_
  obtain ⟨N1, g1, run1, h1, d1⟩ := xt_setGate (K := xK xs) (Z := xZ z) hB hV h (Int32.ofInt (-1)) (Int16.ofInt (200)).toInt32 (cd := -11) (xf_set11 ((xts_has h _).trans (xThF_hasm hF))) (by decide) (by omega)
  refine xp_callR rfl (xR_up (by decide) run1) ?_
  refine xp_step rfl ?_
  refine xp_if2 rfl (fun q => absurd q (by decide)) (fun _ => ?_)
  refine xp_step rfl ?_
  refine xp_step rfl ?_
  refine xp_step rfl ?_
  obtain ⟨N2, g2, run2, h2, d2⟩ := xt_setGate (K := xK xs) (Z := xZ z) hB hV h1 (Int32.ofInt 0) (Int8.ofInt 101).toInt32 (cd := -12) (xf_set12 ((xts_has h1 _).trans (xThF_has0 hF)) (by decide)) (by decide) (by omega)
  refine xp_callR rfl (xR_up (by decide) run2) ?_
  refine xp_step rfl ?_
  refine xp_if2 rfl (fun q => absurd q (by decide)) (fun _ => ?_)
  refine xp_step rfl ?_
  refine xp_step rfl ?_
  refine xp_step rfl ?_
  obtain ⟨N3, g3, run3, h3, d3⟩ := xt_setGate (K := xK xs) (Z := xZ z) hB hV h2 (Int32.ofInt 0) (Int32.ofInt (-1)) (cd := -12) (xf_set12 ((xts_has h2 _).trans (xThF_has0 hF)) (by decide)) (by decide) (by omega)
  refine xp_callR rfl (xR_up (by decide) run3) ?_
  refine xp_step rfl ?_
  refine xp_if2 rfl (fun q => absurd q (by decide)) (fun _ => ?_)
  refine xp_step rfl ?_
  refine xp_step rfl ?_
  refine xp_step rfl ?_
  obtain ⟨N4, g4, run4, h4, d4⟩ := xt_setRule (K := xK xs) (Z := xZ z) hB hV h3 (Int32.ofNat n0) (Int8.ofInt 120).toInt32 (cd := -11) (xf_rule11 ((xts_has h3 _).trans (xThF_hasn hF))) (by decide) (by omega)
  refine xp_callR rfl (xR_up (by decide) run4) ?_
  refine xp_step rfl ?_
  refine xp_if2 rfl (fun q => absurd q (by decide)) (fun _ => ?_)
  refine xp_step rfl ?_
  refine xp_step rfl ?_
  refine xp_step rfl ?_
  obtain ⟨N5, g5, run5, h5, d5⟩ := xt_setRule (K := xK xs) (Z := xZ z) hB hV h4 (Int32.ofInt 0) (Int8.ofInt 70).toInt32 (cd := -12) (xf_rule12 ((xts_has h4 _).trans (xThF_has0 hF)) (by decide)) (by decide) (by omega)
  refine xp_callR rfl (xR_up (by decide) run5) ?_
  refine xp_step rfl ?_
  refine xp_if2 rfl (fun q => absurd q (by decide)) (fun _ => ?_)
  refine xp_step rfl ?_
  refine xp_step rfl ?_
  refine xp_step rfl ?_
  refine xp_step rfl ?_
  obtain ⟨N6, g6, run6, h6, d6⟩ := xt_addPulse (K := xK xs) (Z := xZ z) hB hV h5 (Int32.ofInt (-1)) (Int32.ofInt 1) (Int32.ofInt 1) (cd := -12) (xf_pu12 (by decide)) (by decide) (by omega)
  refine xp_callR rfl (xR_up (by decide) run6) ?_
  refine xp_step rfl ?_
  refine xp_if2 rfl (fun q => absurd q (by decide)) (fun _ => ?_)
  refine xp_step rfl ?_
  refine xp_step rfl ?_
  refine xp_step rfl ?_
  refine xp_step rfl ?_
  obtain ⟨N7, g7, run7, h7, d7⟩ := xt_addPulse (K := xK xs) (Z := xZ z) hB hV h6 (Int16.ofInt (1000)).toInt32 (Int32.ofInt 1) (Int32.ofInt 1) (cd := -12) (xf_pu12 (by decide)) (by decide) (by omega)
  refine xp_callR rfl (xR_up (by decide) run7) ?_
  refine xp_step rfl ?_
  refine xp_if2 rfl (fun q => absurd q (by decide)) (fun _ => ?_)
  refine xp_step rfl ?_
  refine xp_step rfl ?_
  refine xp_step rfl ?_
  refine xp_step rfl ?_
  obtain ⟨N8, g8, run8, h8, d8⟩ := xt_addPulse (K := xK xs) (Z := xZ z) hB hV h7 (Int32.ofNat h0) (Int32.ofInt 0) (Int32.ofInt 1) (cd := -12) (xf_pu12 (xpu_b (by decide))) (by decide) (by omega)
  refine xp_callR rfl (xR_up (by decide) run8) ?_
  refine xp_step rfl ?_
  refine xp_if2 rfl (fun q => absurd q (by decide)) (fun _ => ?_)
  refine xp_step rfl ?_
  refine xp_step rfl ?_
  refine xp_step rfl ?_
  refine xp_step rfl ?_
  obtain ⟨N9, g9, run9, h9, d9⟩ := xt_addPulse (K := xK xs) (Z := xZ z) hB hV h8 (Int32.ofNat h0) (Int8.ofInt 25).toInt32 (Int32.ofInt 1) (cd := -12) (xf_pu12 (xpu_b (by decide))) (by decide) (by omega)
  refine xp_callR rfl (xR_up (by decide) run9) ?_
  refine xp_step rfl ?_
  refine xp_if2 rfl (fun q => absurd q (by decide)) (fun _ => ?_)
  refine xp_step rfl ?_
  refine xp_step rfl ?_
  refine xp_step rfl ?_
  refine xp_step rfl ?_
  obtain ⟨N10, g10, run10, h10, d10⟩ := xt_addPulse (K := xK xs) (Z := xZ z) hB hV h9 (Int32.ofNat h0) (Int32.ofInt 1) (Int32.ofInt 0) (cd := -12) (xf_pu12 (xpu_c (by decide))) (by decide) (by omega)
  refine xp_callR rfl (xR_up (by decide) run10) ?_
  refine xp_step rfl ?_
  refine xp_if2 rfl (fun q => absurd q (by decide)) (fun _ => ?_)
  refine xp_step rfl ?_
  refine xp_step rfl ?_
  refine xp_step rfl ?_
  refine xp_step rfl ?_
  obtain ⟨N11, g11, run11, h11, d11⟩ := xt_addPulse (K := xK xs) (Z := xZ z) hB hV h10 (Int32.ofNat h0) (Int32.ofInt 1) (Int16.ofInt (201)).toInt32 (cd := -12) (xf_pu12 (xpu_c (by decide))) (by decide) (by omega)
  refine xp_callR rfl (xR_up (by decide) run11) ?_
  refine xp_step rfl ?_
  refine xp_if2 rfl (fun q => absurd q (by decide)) (fun _ => ?_)
  exact kk _ _ (xts_mono h11 (by omega))
set_option maxRecDepth 20000 in
theorem xs_th4 (hB : xBok pre B) (hV : V ≤ 1000000) (hF : xThF N0 n0 p0 h0) (hm : m ≤ 600) (hg : B + 253 + g0.length < 998000) (h : xTwn pre B N0 g0 V H m N C L g) (kk : ∀ N' g', xTwn pre B N0 g0 V H (m + 3) N' C L g' → xBp (xK xs) (xZ z) 11 8 [] xcL_thrown (xseek xcL_thrown 453) [(0, .ref (B + 0)), (1, .long S), (3, .int (Int32.ofNat n0)), (4, .int u), (5, .int (Int32.ofNat h0))] [] (xHn pre B N' C L g') P) : xBp (xK xs) (xZ z) 11 8 [] xcL_thrown (xseek xcL_thrown 422) [(0, .ref (B + 0)), (1, .long S), (3, .int (Int32.ofNat n0)), (4, .int u), (5, .int (Int32.ofNat h0))] [] (xHn pre B N C L g) P := by
  refine xp_step rfl ?_
  refine xp_if1 rfl (fun _ => ?_) (fun q => ?_)
  · exact kk _ _ (xts_mono h (by omega))
  · have q : ¬ Int32.ofNat h0 = 0 := of_decide_eq_false q
    have hh0 : 1 ≤ h0 := by
      rcases h0 with _ | h0
      · exact absurd rfl q
      · omega
    have h48 := hF.2.2.2
    have ehm : Int32.ofNat h0 - Int32.ofInt 1 = Int32.ofNat (h0 - 1) := xi_subN (a := h0) (b := 1) (by omega) (by omega)
    have e4 : xNn N 1 4 = Int32.ofNat h0 := ((xts_sm h).1 4 (by decide) (by decide)).trans hF.1.2.2
    refine xp_step rfl ?_
    refine xp_step rfl ?_
    refine xp_step rfl ?_
    refine xp_step rfl ?_
    refine xp_step rfl ?_
    refine xp_step rfl ?_
    obtain ⟨N1, g1, run1, h1, d1⟩ := xt_addPulse (K := xK xs) (Z := xZ z) hB hV h ((Int32.ofNat h0) - (Int32.ofInt 1)) (Int32.ofInt 1) (Int32.ofInt 1) (cd := -2) (xf_pu2 (by rw [ehm]; unfold xpuOk; rw [xwin_of (lo := 0) (hi := 999) (by omega) (by omega) (by omega) rfl rfl]; decide) (by rw [ehm, e4]; exact (xi_lt (by omega) (by omega)).mpr (by omega))) (by decide) (by omega)
    refine xp_callR rfl (xR_up (by decide) run1) ?_
    refine xp_step rfl ?_
    refine xp_if2 rfl (fun q => absurd q (by decide)) (fun _ => ?_)
    refine xp_step rfl ?_
    refine xp_step rfl ?_
    refine xp_step rfl ?_
    obtain ⟨g2, run2, h2⟩ := xt_is (K := xK xs) (Z := xZ z) hB h1 (Int32.ofInt 2) (Int32.ofNat h0) ⟨(d1 (by decide) (by decide)).1, (d1 (by decide) (by decide)).2.1.trans (by unfold xfDet; rw [if_neg (by decide), if_neg (by decide)]; exact e4), (d1 (by decide) (by decide)).2.2⟩ (by decide) (by omega)
    refine xp_callR rfl (xR_up (by decide) run2) ?_
    refine xp_if1 rfl (fun q => absurd q (by decide)) (fun _ => ?_)
    exact kk _ _ (xts_mono h2 (by omega))
set_option maxRecDepth 20000 in
theorem xs_th5 (hB : xBok pre B) (hV : V ≤ 1000000) (hF : xThF N0 n0 p0 h0) (hm : m ≤ 600) (hg : B + 253 + g0.length < 998000) (h : xTwn pre B N0 g0 V H m N C L g) (kk : ∀ N' g', xTwn pre B N0 g0 V H (m + 3) N' C L g' → xBp (xK xs) (xZ z) 11 8 [] xcL_thrown (xseek xcL_thrown 486) [(0, .ref (B + 0)), (1, .long S), (3, .int (Int32.ofNat n0)), (4, .int u), (5, .int (Int32.ofNat h0))] [] (xHn pre B N' C L g') P) : xBp (xK xs) (xZ z) 11 8 [] xcL_thrown (xseek xcL_thrown 453) [(0, .ref (B + 0)), (1, .long S), (3, .int (Int32.ofNat n0)), (4, .int u), (5, .int (Int32.ofNat h0))] [] (xHn pre B N C L g) P := by
  have e3 : N 1 3 = Int32.ofNat p0 := (h.1.1.1 3 (by decide) (by decide)).trans hF.1.2.1
  have c0 := xo_pulseCount_ (K := xK xs) (Z := xZ z) (N := N) (C := C) (L := L) (g := g) hB
  rw [e3] at c0
  refine xp_step rfl ?_
  refine xp_virt (i := 0) hB (by decide) rfl rfl (Nat.le_of_ble_eq_true rfl) rfl (xR_up (by decide) (c0)) ?_
  refine xp_step rfl ?_
  refine xp_if2 rfl (fun _ => ?_) (fun q => ?_)
  · exact kk _ _ (xts_mono h (by omega))
  · have q : ¬ Int32.ofNat p0 < Int32.ofNat 8 := of_decide_eq_false q
    rw [xi_lt (by have := hF.2.2.1; omega) (by decide)] at q
    have h48 := hF.2.2.2
    have e4 : xNn N 1 4 = Int32.ofNat h0 := ((xts_sm h).1 4 (by decide) (by decide)).trans hF.1.2.2
    have hfull : xwin (xNn N 1 3) 0 7 = false := by
      rw [(xts_sm h).1 3 (by decide) (by decide), hF.1.2.1, show p0 = 8 by have := hF.2.2.1; omega]
      decide
    refine xp_step rfl ?_
    refine xp_step rfl ?_
    refine xp_step rfl ?_
    refine xp_step rfl ?_
    obtain ⟨N1, g1, run1, h1, d1⟩ := xt_addPulse (K := xK xs) (Z := xZ z) hB hV h (Int32.ofNat h0) (Int32.ofInt 1) (Int32.ofInt 1) (cd := -1) (xf_pu1 (by unfold xpuOk; rw [xwin_of (lo := 0) (hi := 999) (by omega) (by omega) (by omega) rfl rfl]; decide) (by rw [e4]; exact Int32.lt_irrefl) hfull) (by decide) (by omega)
    refine xp_callR rfl (xR_up (by decide) run1) ?_
    refine xp_step rfl ?_
    refine xp_if2 rfl (fun q => absurd q (by decide)) (fun _ => ?_)
    refine xp_step rfl ?_
    refine xp_step rfl ?_
    refine xp_step rfl ?_
    obtain ⟨g2, run2, h2⟩ := xt_is (K := xK xs) (Z := xZ z) hB h1 (Int32.ofInt 1) (Int8.ofInt 8).toInt32 ⟨(d1 (by decide) (by decide)).1, (d1 (by decide) (by decide)).2.1.trans (by unfold xfDet; rw [if_neg (by decide), if_pos (by decide)]; decide), (d1 (by decide) (by decide)).2.2⟩ (by decide) (by omega)
    refine xp_callR rfl (xR_up (by decide) run2) ?_
    refine xp_if1 rfl (fun q => absurd q (by decide)) (fun _ => ?_)
    exact kk _ _ (xts_mono h2 (by omega))
set_option maxRecDepth 20000 in
theorem xs_th6 (hB : xBok pre B) (hV : V ≤ 1000000) (hF : xThF N0 n0 p0 h0) (hm : m ≤ 600) (hg : B + 253 + g0.length < 998000) (h : xTwn pre B N0 g0 V H m N C L g) (kk : ∀ N' g', xTwn pre B N0 g0 V H (m + 2) N' C L g' → xBp (xK xs) (xZ z) 11 8 [] xcL_thrown (xseek xcL_thrown 516) [(0, .ref (B + 0)), (1, .long S), (3, .int (Int32.ofNat n0)), (4, .int u), (5, .int (Int32.ofNat h0)), (6, .int 1)] [] (xHn pre B N' C L g') P) : xBp (xK xs) (xZ z) 11 8 [] xcL_thrown (xseek xcL_thrown 486) [(0, .ref (B + 0)), (1, .long S), (3, .int (Int32.ofNat n0)), (4, .int u), (5, .int (Int32.ofNat h0))] [] (xHn pre B N C L g) P := by
  refine xp_step rfl ?_
  refine xp_step rfl ?_
  obtain ⟨N1, g1, run1, h1, d1⟩ := xt_pass (K := xK xs) (Z := xZ z) hB hV h (Int32.ofInt 0) (cd := -12) (xf_let12 (by decide)) (by decide) (by omega)
  refine xp_callR rfl (xR_up (by decide) run1) ?_
  refine xp_step rfl ?_
  refine xp_if2 rfl (fun q => absurd q (by decide)) (fun _ => ?_)
  refine xp_step rfl ?_
  refine xp_step rfl ?_
  obtain ⟨N2, g2, run2, h2, d2⟩ := xt_pass (K := xK xs) (Z := xZ z) hB hV h1 (Int8.ofInt 49).toInt32 (cd := -12) (xf_let12 (by decide)) (by decide) (by omega)
  refine xp_callR rfl (xR_up (by decide) run2) ?_
  refine xp_step rfl ?_
  refine xp_if2 rfl (fun q => absurd q (by decide)) (fun _ => ?_)
  refine xp_step rfl ?_
  refine xp_jump rfl ?_
  refine xp_step rfl ?_
  refine xp_weak ?_ (kk _ _ (xts_mono h2 (by omega)))
  exact xLe_cons rfl (xLe_cons rfl (xLe_cons rfl (xLe_cons rfl (xLe_cons rfl (xLe_cons rfl xLe_nil)))))
end XTHR
