/-! THE LAW'S LAST PART, from its beginning; and the whole law -/
section XLWA
variable {xs : List Int32} {z : Value} {K : List (Nat × List Value)} {Z : List Value} {pre g : xH} {B L : Nat} {N : Nat → Nat → Int32} {C : Nat → Nat} {P : xA → xH → Prop}
theorem xp_newl {d nL pc ln n : Nat} {aux : List Nat} {hs : List (Nat × Nat × Nat × Nat)} {code cs : List xE} {loc : xL} {st : List Value} {h : xH} (hn : n ≤ 60000) (hl : h.length < 1000000) (hb : xBp K Z d nL hs code cs loc (.ref h.length :: st) (h ++ [(52, List.replicate n (.long 0))]) P) : xBp K Z d nL hs code ((pc, .newarray .long, ln, aux) :: cs) loc (.int (Int32.ofNat n) :: st) h P := by
  refine xp_step (loc1 := loc) (st1 := .ref h.length :: st) (h1 := h ++ [(52, List.replicate n (.long 0))]) ?_ hb
  obtain ⟨-, e1, f1⟩ := xi_ofNat (n := n) (by omega)
  show xnewa 2 (.long 0) loc (.int (Int32.ofNat n) :: st) h = _
  unfold xnewa
  dsimp only
  rw [e1, decide_eq_true f1, decide_eq_true hn, decide_eq_true hl]
  rfl
set_option maxRecDepth 20000 in
theorem xs_lwA (hB : xBok pre B) (hz : z.category = 1) (hfit : xFit pre B) (hB9 : B + 253 < 900000) (hl : xs.length ≤ 260) (h0 : xMk N N 0 0 0) (hln : xLn pre B N C L []) : xBp (xK xs) (xZ z) 20 11 [] xcL_law (xseek xcL_law 489) [(2, .ref (B + 0)), (0, .ref 1000000)] [] (xHn pre B N C L []) xLawP := by
  obtain ⟨N1, n, c1, ⟨⟨hO1, e2, hn1, hn6⟩, e7, el⟩⟩ := xl_makes (xs := xs) (z := z) (C := C) (L := L) (g := []) hB hl h0 (by show B + 253 + 0 < 1000000; omega)
  have hl1 : xLn pre B N1 C L [] := xln_keep0 hB hln (fun b => (el b).1) (fun b => (el b).2)
  have en1 : (N1 1 2).toNatClampNeg ≤ 8 := by rw [e2, (xi_ofNat (n := n) (by omega)).2.1]; omega
  obtain ⟨N2, L2, g2, c2, q2, l2, r2⟩ := xl_asks (xs := xs) hB hz hO1 (by decide) (by decide) hl1 (by show B + 253 + 0 < 999000; omega)
  have hO2 := xQy_ob q2 hO1
  have b2 : g2.length ≤ 130 := by have := r2.2.1; simpa using this
  obtain ⟨N3, L3, g3, c3, q3, l3, r3⟩ := xl_asks (xs := xs) hB hz hO2 (by decide) (by decide) l2 (by omega)
  have hO3 := xQy_ob q3 hO2
  have b3 := r3.2.1
  have s2 := xQy_1 q2
  have s3 := xSm_trans (xQy_1 q3) s2
  rw [xsm_ask s2 en1] at c3
  obtain ⟨N4, C4, L4, g4, c4, h4⟩ := xl_thrown (xs := xs) (n0 := n) hB hz hO3 (by decide) (by decide) ((s3.1 2 (by decide) (by decide)).trans e2) hn1 (by omega) l3 (by omega)
  have b4 := xts_len h4
  have s4 := xSm_trans h4.1.1 s3
  obtain ⟨t1, t2, t3, t4, t5⟩ := xHs_save h4.2.1
  have c5 := xo_save_ (K := xK xs) (Z := xZ z) (N := N4) (C := C4) (L := L4) (g := g4) hB (h4.2.1.2.1 1 (by decide))
  have l5 : xLn pre B (xupN (xNcopy N4 39 1) 0 7 1) C4 L4 g4 := xln_keep0 hB h4.2.2.1 (fun b => (t5 b).1) (fun b => (t5 b).2)
  generalize xupN (xNcopy N4 39 1) 0 7 1 = N5 at t1 t2 t3 t4 c5 l5
  have c6 := xo_reachCount_ (K := xK xs) (Z := xZ z) (N := N5) (C := C4) (L := L4) (g := g4) hB
  rw [t1.1 2 (by decide) (by decide)] at c6
  obtain ⟨N6, L6, g6, c7, q6, l6, r6⟩ := xl_asks (xs := xs) hB hz t3 (by decide) (by decide) l5 (by omega)
  have hO6 := xQy_ob q6 t3
  have b6 := r6.2.1
  rw [xsm_ask (xSm_trans t1 s4) en1] at c7
  have s6 : xSm N6 N4 39 1 := xSm_trans (xQy_sm q6 (by decide) (by decide)) t2
  have e67 : N6 0 7 = 1 := (q6.1 0 7 (by decide) (by decide) (by decide)).trans t4
  obtain ⟨u1, u2, u3, ⟨u4, u5, u6⟩, u7⟩ := xHs_rest hO6 s6 h4.2.1.1 e67
  have c8 := xl_restore (K := xK xs) (Z := xZ z) (C := C4) (L := L6) (g := g6) hB (by rw [e67]; decide) (hO6.2.1 39 (by decide))
  rw [s6.1 2 (by decide) (by decide)] at c8
  have l7 : xLn pre B (xupN (xNcopy N6 1 39) 58 2 0) C4 L6 g6 := xln_keep0 hB l6 (fun b => (u7 b).1) (fun b => (u7 b).2)
  generalize xupN (xNcopy N6 1 39) 58 2 0 = N7 at u1 u2 u3 u4 u5 u6 c8 l7
  have c9 := xo_undoCount_ (K := xK xs) (Z := xZ z) (N := N7) (C := C4) (L := L6) (g := g6) hB
  rw [u5] at c9
  have hlen := xHn_len (g := g6) (N := N7) (C := C4) (L := L6) hB
  obtain ⟨nx, enx, hnx⟩ := xwin8_n u3.2.2.1
  have hfin : xLw pre B N4 (fun _ => N4) nx 0 g6.length (List.replicate 9 (.long 0)) (90000 + 80200 * 0) (48 + 144 * 0) (1500 + 300 * 0) N7 C4 L6 (g6 ++ [(52, List.replicate 9 (.long 0))]) := by
    refine ⟨u3, xln_keep hB l7 _ (fun _ => rfl) (fun _ => rfl), ?_, ?_, u5, ?_, u4, u2, fun j hj => absurd hj (by omega)⟩
    · rw [List.getElem?_append_right (Nat.le_refl _), Nat.sub_self]
      rfl
    · refine xGr_mono (m := 130 + (130 + (900 + (130 + 1)))) (xGr_trans r2 (xGr_trans r3 (xGr_trans h4.2.2.2 (xGr_trans r6 ⟨?_, ?_, ?_⟩)))) (by decide)
      · rw [List.length_append]; omega
      · rw [List.length_append]; exact Nat.le_refl _
      · rw [xsz_app]
        show xsz g6 + 9 ≤ _
        omega
    · rw [enx, show (nx + 0) % 9 = nx by omega]
  have hG4 : xGd N4 1 900000 100000 := xGd_mono h4.2.1.1 (by decide) (by decide)
  have eS : xAsk N1 = xAsk N4 := (xsm_ask s4 en1).symm
  refine xp_step rfl ?_
  refine xp_step rfl ?_
  refine xp_callR rfl (xR_up (by decide) (c1)) ?_
  refine xp_if1 rfl (fun _ => ?_) (fun q => absurd q (by decide))
  refine xp_step rfl ?_
  refine xp_callR rfl (xR_up (by decide) (c2)) ?_
  refine xp_step rfl ?_
  refine xp_step rfl ?_
  refine xp_callR rfl (xR_up (by decide) (c3)) ?_
  refine xp_step rfl ?_
  refine xp_lcmp0 ?_
  refine xp_if1 rfl (fun q => absurd q (by decide)) (fun _ => ?_)
  refine xp_step rfl ?_
  refine xp_callR rfl (xR_up (by decide) (c4)) ?_
  refine xp_if1 rfl (fun _ => ?_) (fun q => absurd q (by decide))
  refine xp_step rfl ?_
  refine xp_virt (i := 0) hB (by decide) rfl rfl (Nat.le_of_ble_eq_true rfl) rfl (xR_up (by decide) (c5)) ?_
  refine xp_step rfl ?_
  refine xp_step rfl ?_
  refine xp_step rfl ?_
  refine xp_virt (i := 0) hB (by decide) rfl rfl (Nat.le_of_ble_eq_true rfl) rfl (xR_up (by decide) (c6)) ?_
  refine xp_if2 rfl (fun q => absurd rfl (show ¬ N4 1 2 = N4 1 2 by simpa [xic] using q)) (fun _ => ?_)
  refine xp_step rfl ?_
  refine xp_callR rfl (xR_up (by decide) (c7)) ?_
  refine xp_step rfl ?_
  refine xp_lcmp0 ?_
  refine xp_if1 rfl (fun q => absurd q (by decide)) (fun _ => ?_)
  refine xp_step rfl ?_
  refine xp_callR rfl (xR_up (by decide) (c8)) ?_
  refine xp_step rfl ?_
  refine xp_if2 rfl (fun q => absurd rfl (show ¬ N4 1 2 = N4 1 2 by simpa [xic] using q)) (fun _ => ?_)
  refine xp_step rfl ?_
  refine xp_virt (i := 0) hB (by decide) rfl rfl (Nat.le_of_ble_eq_true rfl) rfl (xR_up (by decide) (c9)) ?_
  refine xp_if1 rfl (fun _ => ?_) (fun q => absurd q (by decide))
  refine xp_step rfl ?_
  refine xp_newl (n := 9) (by decide) (by omega) ?_
  rw [hlen, ← xHn_apq]
  refine xp_step rfl ?_
  refine xp_step rfl ?_
  refine xp_step rfl ?_
  refine xp_step rfl ?_
  refine xp_step rfl ?_
  refine xp_weak ?_ (xs_lwC (m := 1500) hB hz hfit hB9 hl eS hG4 (by decide) 8 0 0 N7 C4 L6 _ _ _ (by decide) (Nat.le_refl _) ⟨by rw [List.length_replicate], fun j hj => absurd hj (by omega)⟩ hfin)
  exact xLe_cons rfl (xLe_cons rfl (xLe_cons rfl (xLe_cons rfl (xLe_cons rfl (xLe_cons rfl (xLe_cons rfl xLe_nil))))))
/-! the second object as it was made -/
theorem xo0_mk : xMk xo0N xo0N 0 0 0 := by
  refine ⟨⟨⟨0, 0, 0, ⟨by decide +kernel, by decide +kernel, by decide +kernel⟩, ⟨by decide, by decide, by decide⟩, fun r hr => absurd hr (by omega), fun r hr => absurd hr (by omega)⟩, ?_, by decide +kernel, by decide +kernel⟩, ⟨by decide +kernel, by decide +kernel, by decide +kernel⟩, rfl, fun b => ⟨rfl, rfl⟩⟩
  intro w hw r hr
  have h : xRbs.all (fun w => (List.range 8).all fun r => decide (0 ≤ xo0N (w + 3 + r) 8) && decide (xo0N (w + 3 + r) 8 ≤ 65535)) = true := by decide +kernel
  have h2 := List.all_eq_true.mp (List.all_eq_true.mp h w hw) r (List.mem_range.mpr hr)
  simp only [Bool.and_eq_true, decide_eq_true_eq] at h2
  exact h2
theorem xo0_ln : xLn xo0P 266 xo0N xo0C 518 [] := by
  refine ⟨0, List.replicate 16 0, by decide, ⟨⟨by decide, by decide, by decide⟩, by decide +kernel, by decide +kernel, ⟨by decide, by decide⟩, ?_⟩, by decide⟩
  intro x hx
  rw [List.eq_of_mem_replicate hx]
  rfl
theorem xo0_fit : xFit xo0P 266 := by
  intro N C L g hg
  have h1 : xsz xo0P ≤ 5000 := by decide +kernel
  have h2 : xsz (xLay (fun _ _ => .null)) ≤ 5000 := by decide +kernel
  have h3 : g.length ≤ 9000 := by have := hg.2.1; simpa using this
  have h4 : xsz g ≤ 300 * 9000 := by
    have := hg.2.2
    rw [show xsz ([] : xH) = 0 from rfl] at this
    omega
  refine ⟨?_, ?_⟩
  · rw [xHn_len xo0_ok]
    omega
  · unfold xHn xHp
    rw [xsz_app, xsz_app, xLay_sz _ (fun _ _ => .null)]
    omega
/-- THE LAW: on every script of at most 260 ints the abstract machine comes to its end with true, in the room -/
theorem xlaw_pure (hl : xs.length ≤ 260) (hz : z = .null ∨ z = .ref 1999999) : ∃ (d n : Nat) (hf : xH), d ≤ 2039 ∧ xev (xgo xMs (xK xs) (xZ z) d n) 11 (xK xs) (xZ z) [] xcL_law n xcL_law [(0, .ref 1000000)] [] [] = some (.ok (some (.int 1)), hf) ∧ hf.length ≤ 688064 ∧ xsz hf ≤ 7027135 := by
  have hz1 : z.category = 1 := by rcases hz with rfl | rfl <;> rfl
  have key : xBp (xK xs) (xZ z) 20 11 [] xcL_law xcL_law [(0, .ref 1000000)] [] [] xLawP := by
    refine xfirst hz ?_
    rw [xo0_heap, show xcL_law.drop 239 = xseek xcL_law 489 by decide +kernel]
    refine xp_weak ?_ (xs_lwA xo0_ok hz1 xo0_fit (by decide) hl xo0_mk xo0_ln)
    exact xLe_cons rfl (xLe_cons rfl xLe_nil)
  obtain ⟨r, hf, hb, rfl, h1, h2⟩ := key
  exact xpure_of (d := 20) (by decide) hb h1 h2
end XLWA
