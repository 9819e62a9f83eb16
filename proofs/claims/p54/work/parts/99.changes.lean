/-! CHANGES: one of many, refused or accepted -/
section XCHG
variable {xs : List Int32} {z : Value} {K : List (Nat × List Value)} {Z : List Value} {pre g : xH} {B L : Nat} {N : Nat → Nat → Int32} {C : Nat → Nat} {V H : Nat} {x rr : Int32} {P : xA → xH → Prop}
theorem xOb_mono {V' H' : Nat} (h : xOb N V H) (hV : V ≤ V') (hH : H ≤ H') : xOb N V' H' := ⟨xGd_mono h.1 hV hH, h.2⟩
theorem xRefd_refl (N : Nat → Nat → Int32) : xRefd N N := ⟨xSm_refl N 1, fun w _ _ _ => xSm_refl N w, rfl, rfl, rfl, rfl, fun _ => ⟨rfl, rfl⟩⟩
/-- a heap that keeps what stands -/
theorem xHn_ext {h' : xH} {m : Nat} (hq : ∀ q, q < (xHn pre B N C L g).length → h'[q]? = (xHn pre B N C L g)[q]?) (h1 : (xHn pre B N C L g).length ≤ h'.length) (h2 : h'.length ≤ (xHn pre B N C L g).length + m) (h3 : xsz h' ≤ xsz (xHn pre B N C L g) + 300 * m) : ∃ e, h' = xHn pre B N C L (g ++ e) ∧ xGr g (g ++ e) m := by
  have e1 : h'.take (xHn pre B N C L g).length = xHn pre B N C L g := by
    apply List.ext_getElem?
    intro q
    by_cases hl : q < (xHn pre B N C L g).length
    · rw [List.getElem?_take_of_lt hl]
      exact hq q hl
    · rw [List.getElem?_eq_none (by rw [List.length_take]; omega), List.getElem?_eq_none (by omega)]
  have e2 : h' = xHn pre B N C L (g ++ h'.drop (xHn pre B N C L g).length) := by
    rw [xHn_apq]
    conv => lhs; rw [← List.take_append_drop (xHn pre B N C L g).length h', e1]
  have e3 : xsz h' = xsz (xHn pre B N C L g) + xsz (h'.drop (xHn pre B N C L g).length) := by
    conv => lhs; rw [← List.take_append_drop (xHn pre B N C L g).length h', e1, xsz_app]
  refine ⟨_, e2, ?_, ?_, ?_⟩
  · rw [List.length_append]; omega
  · rw [List.length_append, List.length_drop]; omega
  · rw [xsz_app]; omega
/-- what changes leaves -/
def xChgP (pre : xH) (B : Nat) (N : Nat → Nat → Int32) (L : Nat) (g : xH) (V H : Nat) : xA → xH → Prop := fun r h' => (∀ v, r = .ok v → xrfit (some .boolean) v = true) ∧ ∃ b N' C' g', r = .ok (some (.int b)) ∧ (h' = xHn pre B N' C' L g' ∧ (((b = 0 ∧ (xRefd N N' ∧ xOb N' V H)) ∨ (b = 1 ∧ (xAccd N N' ∧ xOb N' (V + 80200) (H + 144)))) ∧ ((∃ e, g' = g ++ e) ∧ xGr g g' 20)))
theorem xs_chg_add (hB : xBok pre B) (h : xOb N V H) (hV : V ≤ 900000) (hg : B + 253 + g.length < 999000) : xBp (xK xs) (xZ z) 11 3 [] xcL_changes (xseek xcL_changes 112) [(2, .int rr), (0, .ref (B + 0)), (1, .int x)] [] (xHn pre B N C L g) (xChgP pre B N L g V H) := by
  obtain ⟨c, N', g', run, hres⟩ := xl_addReach (K := xK xs) (Z := xZ z) (C := C) (L := L) (g := g) hB h (xsom (x >>> (Int32.ofInt 4 &&& 31)) (Int32.ofNat 52)) (xsom (x >>> ((Int8.ofInt 8).toInt32 &&& 31)) (Int32.ofNat 62)) (xsom (x >>> ((Int8.ofInt 11).toInt32 &&& 31)) (Int32.ofNat 502)) (by omega)
  refine xp_step rfl ?_
  refine xp_step rfl ?_
  refine xp_step rfl ?_
  refine xp_step rfl ?_
  refine xp_step rfl ?_
  refine xp_callR rfl (xR_up (by decide) (xs_some (x >>> (Int32.ofInt 4 &&& 31)) (n := Int32.ofNat 52) (by decide))) ?_
  refine xp_step rfl ?_
  refine xp_step rfl ?_
  refine xp_step rfl ?_
  refine xp_step rfl ?_
  refine xp_callR rfl (xR_up (by decide) (xs_some (x >>> ((Int8.ofInt 8).toInt32 &&& 31)) (n := Int32.ofNat 62) (by decide))) ?_
  refine xp_step rfl ?_
  refine xp_step rfl ?_
  refine xp_step rfl ?_
  refine xp_step rfl ?_
  refine xp_callR rfl (xR_up (by decide) (xs_some (x >>> ((Int8.ofInt 11).toInt32 &&& 31)) (n := Int32.ofNat 502) (by decide))) ?_
  refine xp_callR rfl (xR_up (by decide) (run)) ?_
  refine xp_if1 rfl (fun q => ?_) (fun q => ?_)
  · have q : c < 0 := of_decide_eq_true q
    rcases hres with ⟨-, k1, k2, rfl⟩ | ⟨k0, -⟩
    · refine xp_step rfl ?_
      exact xp_ret rfl ⟨fun v q => by cases q; rfl, 0, N', C, _, rfl, rfl, Or.inl ⟨rfl, k1, k2⟩, ⟨_, rfl⟩, xGr_mono (xGr_gx g) (by decide)⟩
    · exact absurd q (Int32.not_lt.mpr k0)
  · have q : ¬ c < 0 := of_decide_eq_false q
    refine xp_step rfl ?_
    refine xp_jump rfl ?_
    rcases hres with ⟨k0, -⟩ | ⟨-, k1, k2, rfl⟩
    · exact absurd k0 q
    · exact xp_ret rfl ⟨fun v q => by cases q; rfl, 1, N', C, _, rfl, rfl, Or.inr ⟨rfl, k1, xOb_mono k2 (by omega) (by omega)⟩, ⟨[], (List.append_nil _).symm⟩, xGr_mono (xGr_refl _) (by decide)⟩
theorem xs_chg_cut (hB : xBok pre B) (h : xOb N V H) (hV : V ≤ 900000) (hg : B + 253 + g.length < 999000) : xBp (xK xs) (xZ z) 11 3 [] xcL_changes (xseek xcL_changes 152) [(2, .int rr), (0, .ref (B + 0)), (1, .int x)] [] (xHn pre B N C L g) (xChgP pre B N L g V H) := by
  obtain ⟨c, N', g', run, hres⟩ := xl_removeLast (K := xK xs) (Z := xZ z) (C := C) (L := L) (g := g) hB h (by omega)  (by omega)
  refine xp_step rfl ?_
  refine xp_step rfl ?_
  refine xp_step rfl ?_
  refine xp_step rfl ?_
  refine xp_step rfl ?_
  refine xp_if1 rfl (fun _ => ?_) (fun _ => ?_)
  · refine xp_step rfl ?_
    exact xp_ret rfl ⟨fun v q => by cases q; rfl, 0, N, C, g, rfl, rfl, Or.inl ⟨rfl, xRefd_refl N, h⟩, ⟨[], (List.append_nil g).symm⟩, xGr_mono (xGr_refl g) (by decide)⟩
  refine xp_step rfl ?_
  refine xp_callR rfl (xR_up (by decide) (run)) ?_
  refine xp_if1 rfl (fun q => ?_) (fun q => ?_)
  · have q : c < 0 := of_decide_eq_true q
    rcases hres with ⟨-, k1, k2, rfl⟩ | ⟨k0, -⟩
    · refine xp_step rfl ?_
      exact xp_ret rfl ⟨fun v q => by cases q; rfl, 0, N', C, _, rfl, rfl, Or.inl ⟨rfl, k1, k2⟩, ⟨_, rfl⟩, xGr_mono (xGr_gx g) (by decide)⟩
    · exact absurd q (Int32.not_lt.mpr k0)
  · have q : ¬ c < 0 := of_decide_eq_false q
    refine xp_step rfl ?_
    refine xp_jump rfl ?_
    rcases hres with ⟨k0, -⟩ | ⟨-, k1, k2, rfl⟩
    · exact absurd k0 q
    · exact xp_ret rfl ⟨fun v q => by cases q; rfl, 1, N', C, _, rfl, rfl, Or.inr ⟨rfl, k1, xOb_mono k2 (by omega) (by omega)⟩, ⟨[], (List.append_nil _).symm⟩, xGr_mono (xGr_refl _) (by decide)⟩
theorem xs_chg_lat (hB : xBok pre B) (h : xOb N V H) (hV : V ≤ 900000) (hg : B + 253 + g.length < 999000) : xBp (xK xs) (xZ z) 11 3 [] xcL_changes (xseek xcL_changes 173) [(2, .int rr), (0, .ref (B + 0)), (1, .int x)] [] (xHn pre B N C L g) (xChgP pre B N L g V H) := by
  obtain ⟨c, N', g', run, hres⟩ := xl_setLateral (K := xK xs) (Z := xZ z) (C := C) (L := L) (g := g) hB h rr (xsom (x >>> ((Int8.ofInt 8).toInt32 &&& 31)) (Int32.ofNat 52)) (by omega)
  refine xp_step rfl ?_
  refine xp_step rfl ?_
  refine xp_step rfl ?_
  refine xp_step rfl ?_
  refine xp_step rfl ?_
  refine xp_step rfl ?_
  refine xp_callR rfl (xR_up (by decide) (xs_some (x >>> ((Int8.ofInt 8).toInt32 &&& 31)) (n := Int32.ofNat 52) (by decide))) ?_
  refine xp_callR rfl (xR_up (by decide) (run)) ?_
  refine xp_if1 rfl (fun q => ?_) (fun q => ?_)
  · have q : c < 0 := of_decide_eq_true q
    rcases hres with ⟨-, k1, k2, rfl⟩ | ⟨k0, -⟩
    · refine xp_step rfl ?_
      exact xp_ret rfl ⟨fun v q => by cases q; rfl, 0, N', C, _, rfl, rfl, Or.inl ⟨rfl, k1, k2⟩, ⟨_, rfl⟩, xGr_mono (xGr_gx g) (by decide)⟩
    · exact absurd q (Int32.not_lt.mpr k0)
  · have q : ¬ c < 0 := of_decide_eq_false q
    refine xp_step rfl ?_
    refine xp_jump rfl ?_
    rcases hres with ⟨k0, -⟩ | ⟨-, k1, k2, rfl⟩
    · exact absurd k0 q
    · exact xp_ret rfl ⟨fun v q => by cases q; rfl, 1, N', C, _, rfl, rfl, Or.inr ⟨rfl, k1, xOb_mono k2 (by omega) (by omega)⟩, ⟨[], (List.append_nil _).symm⟩, xGr_mono (xGr_refl _) (by decide)⟩
theorem xs_chg_fill (hB : xBok pre B) (h : xOb N V H) (hV : V ≤ 900000) (hg : B + 253 + g.length < 999000) : xBp (xK xs) (xZ z) 11 3 [] xcL_changes (xseek xcL_changes 196) [(2, .int rr), (0, .ref (B + 0)), (1, .int x)] [] (xHn pre B N C L g) (xChgP pre B N L g V H) := by
  obtain ⟨c, N', g', run, hres⟩ := xl_fill (K := xK xs) (Z := xZ z) (C := C) (L := L) (g := g) hB h (by omega) rr (xsom (x >>> ((Int8.ofInt 8).toInt32 &&& 31)) (Int32.ofNat 1001)) (by omega)
  refine xp_step rfl ?_
  refine xp_step rfl ?_
  refine xp_step rfl ?_
  refine xp_step rfl ?_
  refine xp_step rfl ?_
  refine xp_step rfl ?_
  refine xp_callR rfl (xR_up (by decide) (xs_some (x >>> ((Int8.ofInt 8).toInt32 &&& 31)) (n := Int32.ofNat 1001) (by decide))) ?_
  refine xp_callR rfl (xR_up (by decide) (run)) ?_
  refine xp_if1 rfl (fun q => ?_) (fun q => ?_)
  · have q : c < 0 := of_decide_eq_true q
    rcases hres with ⟨-, k1, k2, rfl⟩ | ⟨k0, -⟩
    · refine xp_step rfl ?_
      exact xp_ret rfl ⟨fun v q => by cases q; rfl, 0, N', C, _, rfl, rfl, Or.inl ⟨rfl, k1, k2⟩, ⟨_, rfl⟩, xGr_mono (xGr_gx g) (by decide)⟩
    · exact absurd q (Int32.not_lt.mpr k0)
  · have q : ¬ c < 0 := of_decide_eq_false q
    refine xp_step rfl ?_
    refine xp_jump rfl ?_
    rcases hres with ⟨k0, -⟩ | ⟨-, k1, k2, rfl⟩
    · exact absurd k0 q
    · exact xp_ret rfl ⟨fun v q => by cases q; rfl, 1, N', C, _, rfl, rfl, Or.inr ⟨rfl, k1, xOb_mono k2 (by omega) (by omega)⟩, ⟨[], (List.append_nil _).symm⟩, xGr_mono (xGr_refl _) (by decide)⟩
theorem xs_chg_stages (hB : xBok pre B) (h : xOb N V H) (hV : V ≤ 900000) (hg : B + 253 + g.length < 999000) : xBp (xK xs) (xZ z) 11 3 [] xcL_changes (xseek xcL_changes 220) [(2, .int rr), (0, .ref (B + 0)), (1, .int x)] [] (xHn pre B N C L g) (xChgP pre B N L g V H) := by
  obtain ⟨c, N', g', run, hres⟩ := xl_setStages (K := xK xs) (Z := xZ z) (C := C) (L := L) (g := g) hB h rr (xsom (x >>> ((Int8.ofInt 8).toInt32 &&& 31)) (Int32.ofNat 60)) (xsom (x >>> ((Int8.ofInt 12).toInt32 &&& 31)) (Int32.ofNat 99)) (by omega)
  refine xp_step rfl ?_
  refine xp_step rfl ?_
  refine xp_step rfl ?_
  refine xp_step rfl ?_
  refine xp_step rfl ?_
  refine xp_step rfl ?_
  refine xp_callR rfl (xR_up (by decide) (xs_some (x >>> ((Int8.ofInt 8).toInt32 &&& 31)) (n := Int32.ofNat 60) (by decide))) ?_
  refine xp_step rfl ?_
  refine xp_step rfl ?_
  refine xp_step rfl ?_
  refine xp_step rfl ?_
  refine xp_callR rfl (xR_up (by decide) (xs_some (x >>> ((Int8.ofInt 12).toInt32 &&& 31)) (n := Int32.ofNat 99) (by decide))) ?_
  refine xp_callR rfl (xR_up (by decide) (run)) ?_
  refine xp_if1 rfl (fun q => ?_) (fun q => ?_)
  · have q : c < 0 := of_decide_eq_true q
    rcases hres with ⟨-, k1, k2, rfl⟩ | ⟨k0, -⟩
    · refine xp_step rfl ?_
      exact xp_ret rfl ⟨fun v q => by cases q; rfl, 0, N', C, _, rfl, rfl, Or.inl ⟨rfl, k1, k2⟩, ⟨_, rfl⟩, xGr_mono (xGr_gx g) (by decide)⟩
    · exact absurd q (Int32.not_lt.mpr k0)
  · have q : ¬ c < 0 := of_decide_eq_false q
    refine xp_step rfl ?_
    refine xp_jump rfl ?_
    rcases hres with ⟨k0, -⟩ | ⟨-, k1, k2, rfl⟩
    · exact absurd k0 q
    · exact xp_ret rfl ⟨fun v q => by cases q; rfl, 1, N', C, _, rfl, rfl, Or.inr ⟨rfl, k1, xOb_mono k2 (by omega) (by omega)⟩, ⟨[], (List.append_nil _).symm⟩, xGr_mono (xGr_refl _) (by decide)⟩
theorem xs_chg_gate (hB : xBok pre B) (h : xOb N V H) (hV : V ≤ 900000) (hg : B + 253 + g.length < 999000) : xBp (xK xs) (xZ z) 11 3 [] xcL_changes (xseek xcL_changes 252) [(2, .int rr), (0, .ref (B + 0)), (1, .int x)] [] (xHn pre B N C L g) (xChgP pre B N L g V H) := by
  obtain ⟨c, N', g', run, hres⟩ := xl_setGate (K := xK xs) (Z := xZ z) (C := C) (L := L) (g := g) hB h rr (xsom (x >>> ((Int8.ofInt 8).toInt32 &&& 31)) (Int32.ofNat 102)) (by omega)
  refine xp_step rfl ?_
  refine xp_step rfl ?_
  refine xp_step rfl ?_
  refine xp_step rfl ?_
  refine xp_step rfl ?_
  refine xp_step rfl ?_
  refine xp_callR rfl (xR_up (by decide) (xs_some (x >>> ((Int8.ofInt 8).toInt32 &&& 31)) (n := Int32.ofNat 102) (by decide))) ?_
  refine xp_callR rfl (xR_up (by decide) (run)) ?_
  refine xp_if1 rfl (fun q => ?_) (fun q => ?_)
  · have q : c < 0 := of_decide_eq_true q
    rcases hres with ⟨-, k1, k2, rfl⟩ | ⟨k0, -⟩
    · refine xp_step rfl ?_
      exact xp_ret rfl ⟨fun v q => by cases q; rfl, 0, N', C, _, rfl, rfl, Or.inl ⟨rfl, k1, k2⟩, ⟨_, rfl⟩, xGr_mono (xGr_gx g) (by decide)⟩
    · exact absurd q (Int32.not_lt.mpr k0)
  · have q : ¬ c < 0 := of_decide_eq_false q
    refine xp_step rfl ?_
    refine xp_jump rfl ?_
    rcases hres with ⟨k0, -⟩ | ⟨-, k1, k2, rfl⟩
    · exact absurd k0 q
    · exact xp_ret rfl ⟨fun v q => by cases q; rfl, 1, N', C, _, rfl, rfl, Or.inr ⟨rfl, k1, xOb_mono k2 (by omega) (by omega)⟩, ⟨[], (List.append_nil _).symm⟩, xGr_mono (xGr_refl _) (by decide)⟩
theorem xrulK : xStK (xK xs) 1000032 [102, 104, 114, 120] := ⟨1000033, .retAddr 0, .retAddr 0, fun _ => rfl, fun _ => rfl, by decide, by decide, by decide⟩
theorem xs_chg_rule (hB : xBok pre B) (h : xOb N V H) (hV : V ≤ 900000) (hg : B + 253 + g.length < 999000) (hz : z.category = 1) : xBp (xK xs) (xZ z) 11 3 [] xcL_changes (xseek xcL_changes 275) [(2, .int rr), (0, .ref (B + 0)), (1, .int x)] [] (xHn pre B N C L g) (xChgP pre B N L g V H) := by
  obtain ⟨k, ek, hk⟩ := xsom_bd (v := x >>> ((Int8.ofInt 8).toInt32 &&& 31)) (m := 4) (by decide) (by decide)
  have hs := xStK_of (xrulK (xs := xs)) (xHn pre B N C L g)
  have hch := xs_char hs (n := k) hk hz
  obtain ⟨b, v2, v3, hc1, -⟩ := hs
  obtain ⟨c, N', g', run, hres⟩ := xl_setRule (K := xK xs) (Z := xZ z) (C := C) (L := L) (g := g) hB h rr (Int32.ofNat ([102, 104, 114, 120].getD k 0)) (by omega)
  have hsm := xs_some (K := xK xs) (Z := xZ z) (h := xHn pre B N C L g) (x >>> ((Int8.ofInt 8).toInt32 &&& 31)) (n := Int32.ofNat 4) (by decide)
  rw [ek] at hsm
  refine xp_step rfl ?_
  refine xp_step rfl ?_
  refine xp_step rfl ?_
  refine xp_step rfl ?_
  refine xp_step rfl ?_
  refine xp_step rfl ?_
  refine xp_step rfl ?_
  refine xp_callR rfl (xR_up (by decide) (hsm)) ?_
  refine xp_virtK hc1 rfl (Nat.le_of_ble_eq_true rfl) rfl (xR_up (by decide) hch) ?_
  refine xp_callR rfl (xR_up (by decide) (run)) ?_
  refine xp_if1 rfl (fun q => ?_) (fun q => ?_)
  · have q : c < 0 := of_decide_eq_true q
    rcases hres with ⟨-, k1, k2, rfl⟩ | ⟨k0, -⟩
    · refine xp_step rfl ?_
      exact xp_ret rfl ⟨fun v q => by cases q; rfl, 0, N', C, _, rfl, rfl, Or.inl ⟨rfl, k1, k2⟩, ⟨_, rfl⟩, xGr_mono (xGr_gx g) (by decide)⟩
    · exact absurd q (Int32.not_lt.mpr k0)
  · have q : ¬ c < 0 := of_decide_eq_false q
    refine xp_step rfl ?_
    refine xp_jump rfl ?_
    rcases hres with ⟨k0, -⟩ | ⟨-, k1, k2, rfl⟩
    · exact absurd k0 q
    · exact xp_ret rfl ⟨fun v q => by cases q; rfl, 1, N', C, _, rfl, rfl, Or.inr ⟨rfl, k1, xOb_mono k2 (by omega) (by omega)⟩, ⟨[], (List.append_nil _).symm⟩, xGr_mono (xGr_refl _) (by decide)⟩
theorem xs_chg_pulse (hB : xBok pre B) (h : xOb N V H) (hV : V ≤ 900000) (hg : B + 253 + g.length < 999000) : xBp (xK xs) (xZ z) 11 3 [] xcL_changes (xseek xcL_changes 303) [(2, .int rr), (0, .ref (B + 0)), (1, .int x)] [] (xHn pre B N C L g) (xChgP pre B N L g V H) := by
  obtain ⟨c, N', g', run, hres⟩ := xl_addPulse (K := xK xs) (Z := xZ z) (C := C) (L := L) (g := g) hB h (xsom (x >>> (Int32.ofInt 4 &&& 31)) (Int32.ofNat 40)) (xsom (x >>> ((Int8.ofInt 9).toInt32 &&& 31)) (Int32.ofNat 26)) (xsom (x >>> ((Int8.ofInt 11).toInt32 &&& 31)) (Int32.ofNat 202)) (by omega)
  refine xp_step rfl ?_
  refine xp_step rfl ?_
  refine xp_step rfl ?_
  refine xp_step rfl ?_
  refine xp_step rfl ?_
  refine xp_callR rfl (xR_up (by decide) (xs_some (x >>> (Int32.ofInt 4 &&& 31)) (n := Int32.ofNat 40) (by decide))) ?_
  refine xp_step rfl ?_
  refine xp_step rfl ?_
  refine xp_step rfl ?_
  refine xp_step rfl ?_
  refine xp_callR rfl (xR_up (by decide) (xs_some (x >>> ((Int8.ofInt 9).toInt32 &&& 31)) (n := Int32.ofNat 26) (by decide))) ?_
  refine xp_step rfl ?_
  refine xp_step rfl ?_
  refine xp_step rfl ?_
  refine xp_step rfl ?_
  refine xp_callR rfl (xR_up (by decide) (xs_some (x >>> ((Int8.ofInt 11).toInt32 &&& 31)) (n := Int32.ofNat 202) (by decide))) ?_
  refine xp_callR rfl (xR_up (by decide) (run)) ?_
  refine xp_if1 rfl (fun q => ?_) (fun q => ?_)
  · have q : c < 0 := of_decide_eq_true q
    rcases hres with ⟨-, k1, k2, rfl⟩ | ⟨k0, -⟩
    · refine xp_step rfl ?_
      exact xp_ret rfl ⟨fun v q => by cases q; rfl, 0, N', C, _, rfl, rfl, Or.inl ⟨rfl, k1, k2⟩, ⟨_, rfl⟩, xGr_mono (xGr_gx g) (by decide)⟩
    · exact absurd q (Int32.not_lt.mpr k0)
  · have q : ¬ c < 0 := of_decide_eq_false q
    refine xp_step rfl ?_
    refine xp_jump rfl ?_
    rcases hres with ⟨k0, -⟩ | ⟨-, k1, k2, rfl⟩
    · exact absurd k0 q
    · exact xp_ret rfl ⟨fun v q => by cases q; rfl, 1, N', C, _, rfl, rfl, Or.inr ⟨rfl, k1, xOb_mono k2 (by omega) (by omega)⟩, ⟨[], (List.append_nil _).symm⟩, xGr_mono (xGr_refl _) (by decide)⟩
theorem xs_chg_pass (hB : xBok pre B) (h : xOb N V H) (hV : V ≤ 900000) (hg : B + 253 + g.length < 999000) : xBp (xK xs) (xZ z) 11 3 [] xcL_changes (xseek xcL_changes 434) [(2, .int rr), (0, .ref (B + 0)), (1, .int x)] [] (xHn pre B N C L g) (xChgP pre B N L g V H) := by
  obtain ⟨c, N', g', run, hres⟩ := xl_pass (K := xK xs) (Z := xZ z) (C := C) (L := L) (g := g) hB h (by omega) (xsom (x >>> (Int32.ofInt 4 &&& 31)) (Int32.ofNat 20)) (by omega)
  refine xp_step rfl ?_
  refine xp_step rfl ?_
  refine xp_step rfl ?_
  refine xp_step rfl ?_
  refine xp_step rfl ?_
  refine xp_callR rfl (xR_up (by decide) (xs_some (x >>> (Int32.ofInt 4 &&& 31)) (n := Int32.ofNat 20) (by decide))) ?_
  refine xp_callR rfl (xR_up (by decide) (run)) ?_
  refine xp_if1 rfl (fun q => ?_) (fun q => ?_)
  · have q : c < 0 := of_decide_eq_true q
    rcases hres with ⟨-, k1, k2, rfl⟩ | ⟨k0, -⟩
    · refine xp_step rfl ?_
      exact xp_ret rfl ⟨fun v q => by cases q; rfl, 0, N', C, _, rfl, rfl, Or.inl ⟨rfl, k1, k2⟩, ⟨_, rfl⟩, xGr_mono (xGr_gx g) (by decide)⟩
    · exact absurd q (Int32.not_lt.mpr k0)
  · have q : ¬ c < 0 := of_decide_eq_false q
    refine xp_step rfl ?_
    refine xp_jump rfl ?_
    rcases hres with ⟨k0, -⟩ | ⟨-, k1, k2, rfl⟩
    · exact absurd k0 q
    · exact xp_ret rfl ⟨fun v q => by cases q; rfl, 1, N', C, _, rfl, rfl, Or.inr ⟨rfl, k1, xOb_mono k2 (by omega) (by omega)⟩, ⟨[], (List.append_nil _).symm⟩, xGr_mono (xGr_refl _) (by decide)⟩
theorem xAK1 : xStK (xK xs) 1000034 [112, 97, 115, 115, 32, 50, 59, 114, 117, 108, 101, 32] := ⟨1000035, .retAddr 0, .retAddr 0, fun _ => rfl, fun _ => rfl, by decide, by decide, by decide⟩
theorem xAK2 : xStK (xK xs) 1000036 [32, 114] := ⟨1000037, .retAddr 0, .retAddr 0, fun _ => rfl, fun _ => rfl, by decide, by decide, by decide⟩
/-- the text A is made, run, and looked at -/
theorem xs_chg_textA (hB : xBok pre B) (h : xOb N V H) (hV : V ≤ 900000) (hg : B + 253 + g.length < 999000) (hz : z.category = 1) : xBp (xK xs) (xZ z) 11 3 [] xcL_changes (xseek xcL_changes 353) [(2, .int rr), (0, .ref (B + 0)), (1, .int x)] [.ref (B + 0)] (xHn pre B N C L g) (xChgP pre B N L g V H) := by
  obtain ⟨k, ek, hk⟩ := xsom_bd (v := x >>> (Int32.ofInt 4 &&& 31)) (m := 8) (by decide) (by decide)
  have hlen := xHn_len (g := g) (N := N) (C := C) (L := L) hB
  obtain ⟨r1, h1, run1, rfl, T1⟩ := xs_binit (K := xK xs) (z := z) (h0 := xHn pre B N C L g) (by omega)
  have l1 : h1.length < 999800 := by obtain ⟨v, ml, bs, -, -, -, -, -, q, -⟩ := T1; omega
  obtain ⟨r2, h2, run2, rfl, T2⟩ := xb_str (z := z) T1 (xAK1 (xs := xs)) (by decide) (by omega)
  have l2 : h2.length < 999800 := by obtain ⟨v, ml, bs, -, -, -, -, -, q, -⟩ := T2; omega
  have d1 := xDg_le (n := k) (by omega)
  obtain ⟨r3, h3, run3, rfl, T3⟩ := xb_int (xs := xs) (z := z) T2 (n := k) (by omega) (by rw [List.length_append]; show 0 + 12 + _ ≤ 100; omega) (by omega)
  have l3 : h3.length < 999800 := by obtain ⟨v, ml, bs, -, -, -, -, -, q, -⟩ := T3; omega
  obtain ⟨r4, h4, run4, rfl, T4⟩ := xb_str (z := z) T3 (xAK2 (xs := xs)) (by rw [List.length_append, List.length_append]; show 0 + 12 + (xDg k).length + 2 ≤ 100; omega) (by omega)
  have l4 : h4.length < 999800 := by obtain ⟨v, ml, bs, -, -, -, -, -, q, -⟩ := T4; omega
  obtain ⟨tA, tB⟩ := xtx_lt k hk
  obtain ⟨p, h5, run5, ⟨b, v2, v3, ⟨p1, p2⟩, p3, p4, p5⟩, -, q1, q2, q3, q4⟩ := xb_toString (K := xK xs) (z := z) T4 tA.1 (by omega)
  obtain ⟨e, rfl, hgr⟩ := xHn_ext q1 q2 q3 q4
  have hgl := hgr.2.1
  have hst : xStB (xK xs) pre B N C L (g ++ e) p (xtxA k) := ⟨b, v2, v3, ⟨by omega, by omega⟩, p3, p4, p5⟩
  obtain ⟨pp, Vv, C', hpar, hVv, h4v, hC, hbud⟩ := xPok_A C hk
  obtain ⟨c, N', g', run, hres⟩ := xl_runsAny (L := L) (g := g ++ e) hB hz h (xStB_str hB hst) tA.1 tA.2 hpar hVv (by decide) hC h4v (by omega) (by omega)
  have cell : ∀ {h : xH} {m : Nat} {s : List Nat}, xTb (xHn pre B N C L g) h m (xHn pre B N C L g).length s → ∃ vs, xcell (xK xs) h (xHn pre B N C L g).length = some (1, vs) := by
    intro h m s T
    obtain ⟨v, ml, bs, hS, -⟩ := T
    exact ⟨_, (xSb_cell hS).1⟩
  obtain ⟨vs1, hc1⟩ := cell T1
  obtain ⟨vs2, hc2⟩ := cell T2
  obtain ⟨vs3, hc3⟩ := cell T3
  obtain ⟨vs4, hc4⟩ := cell T4
  have hsm := xs_some (K := xK xs) (Z := xZ z) (h := h2) (x >>> (Int32.ofInt 4 &&& 31)) (n := Int32.ofNat 8) (by decide)
  rw [ek] at hsm
  refine xp_newo (by omega) ?_
  refine xp_step rfl ?_
  refine xp_spec2 rfl (Nat.le_of_ble_eq_true rfl) rfl (xR_up (by decide) run1) ?_
  refine xp_step rfl ?_
  refine xp_virtK hc1 rfl (Nat.le_of_ble_eq_true rfl) rfl (xR_up (by decide) run2) ?_
  refine xp_step rfl ?_
  refine xp_step rfl ?_
  refine xp_step rfl ?_
  refine xp_step rfl ?_
  refine xp_callR rfl (xR_up (by decide) (hsm)) ?_
  refine xp_virtK hc2 rfl (Nat.le_of_ble_eq_true rfl) rfl (xR_up (by decide) run3) ?_
  refine xp_step rfl ?_
  refine xp_virtK hc3 rfl (Nat.le_of_ble_eq_true rfl) rfl (xR_up (by decide) run4) ?_
  refine xp_virtK hc4 rfl (Nat.le_of_ble_eq_true rfl) rfl (xR_up (by decide) run5) ?_
  refine xp_jump rfl ?_
  refine xp_callR rfl (xR_up (by decide) run) ?_
  refine xp_if1 rfl (fun q => ?_) (fun q => ?_)
  · have q : c < 0 := of_decide_eq_true q
    rcases hres with ⟨-, k1, k2, rfl⟩ | ⟨k0, -⟩
    · refine xp_step rfl ?_
      exact xp_ret rfl ⟨fun v q => by cases q; rfl, 0, N', C', _, rfl, rfl, Or.inl ⟨rfl, k1, k2⟩, ⟨e ++ [(40, List.replicate 6 .null)], by unfold xgx; rw [List.append_assoc]⟩, xGr_mono (xGr_trans hgr (xGr_gx _)) (by decide)⟩
    · exact absurd q (Int32.not_lt.mpr k0)
  · have q : ¬ c < 0 := of_decide_eq_false q
    refine xp_step rfl ?_
    refine xp_jump rfl ?_
    rcases hres with ⟨k0, -⟩ | ⟨-, k1, k2, rfl⟩
    · exact absurd k0 q
    · exact xp_ret rfl ⟨fun v q => by cases q; rfl, 1, N', C', _, rfl, rfl, Or.inr ⟨rfl, k1, xOb_mono k2 (by omega) (by omega)⟩, ⟨e, rfl⟩, xGr_mono hgr (by decide)⟩
theorem xBK1 : xStK (xK xs) 1000038 [102, 105, 108, 108, 32, 48, 32, 53, 59, 99, 117, 116, 59, 108, 97, 116, 101, 114, 97, 108, 32] := ⟨1000039, .retAddr 0, .retAddr 0, fun _ => rfl, fun _ => rfl, by decide, by decide, by decide⟩
theorem xBK2 : xStK (xK xs) 1000040 [32, 51] := ⟨1000041, .retAddr 0, .retAddr 0, fun _ => rfl, fun _ => rfl, by decide, by decide, by decide⟩
/-- the text B is made, run, and looked at -/
theorem xs_chg_textB (hB : xBok pre B) (h : xOb N V H) (hV : V ≤ 900000) (hg : B + 253 + g.length < 999000) (hz : z.category = 1) : xBp (xK xs) (xZ z) 11 3 [] xcL_changes (xseek xcL_changes 389) [(2, .int rr), (0, .ref (B + 0)), (1, .int x)] [.ref (B + 0)] (xHn pre B N C L g) (xChgP pre B N L g V H) := by
  obtain ⟨k, ek, hk⟩ := xsom_bd (v := x >>> (Int32.ofInt 4 &&& 31)) (m := 8) (by decide) (by decide)
  have hlen := xHn_len (g := g) (N := N) (C := C) (L := L) hB
  obtain ⟨r1, h1, run1, rfl, T1⟩ := xs_binit (K := xK xs) (z := z) (h0 := xHn pre B N C L g) (by omega)
  have l1 : h1.length < 999800 := by obtain ⟨v, ml, bs, -, -, -, -, -, q, -⟩ := T1; omega
  obtain ⟨r2, h2, run2, rfl, T2⟩ := xb_str (z := z) T1 (xBK1 (xs := xs)) (by decide) (by omega)
  have l2 : h2.length < 999800 := by obtain ⟨v, ml, bs, -, -, -, -, -, q, -⟩ := T2; omega
  have d1 := xDg_le (n := k) (by omega)
  obtain ⟨r3, h3, run3, rfl, T3⟩ := xb_int (xs := xs) (z := z) T2 (n := k) (by omega) (by rw [List.length_append]; show 0 + 21 + _ ≤ 100; omega) (by omega)
  have l3 : h3.length < 999800 := by obtain ⟨v, ml, bs, -, -, -, -, -, q, -⟩ := T3; omega
  obtain ⟨r4, h4, run4, rfl, T4⟩ := xb_str (z := z) T3 (xBK2 (xs := xs)) (by rw [List.length_append, List.length_append]; show 0 + 21 + (xDg k).length + 2 ≤ 100; omega) (by omega)
  have l4 : h4.length < 999800 := by obtain ⟨v, ml, bs, -, -, -, -, -, q, -⟩ := T4; omega
  obtain ⟨tA, tB⟩ := xtx_lt k hk
  obtain ⟨p, h5, run5, ⟨b, v2, v3, ⟨p1, p2⟩, p3, p4, p5⟩, -, q1, q2, q3, q4⟩ := xb_toString (K := xK xs) (z := z) T4 tB.1 (by omega)
  obtain ⟨e, rfl, hgr⟩ := xHn_ext q1 q2 q3 q4
  have hgl := hgr.2.1
  have hst : xStB (xK xs) pre B N C L (g ++ e) p (xtxB k) := ⟨b, v2, v3, ⟨by omega, by omega⟩, p3, p4, p5⟩
  obtain ⟨pp, Vv, C', hpar, hVv, h4v, hC, hbud⟩ := xPok_B C hk
  obtain ⟨c, N', g', run, hres⟩ := xl_runsAny (L := L) (g := g ++ e) hB hz h (xStB_str hB hst) tB.1 tB.2 hpar hVv (by decide) hC h4v (by omega) (by omega)
  have cell : ∀ {h : xH} {m : Nat} {s : List Nat}, xTb (xHn pre B N C L g) h m (xHn pre B N C L g).length s → ∃ vs, xcell (xK xs) h (xHn pre B N C L g).length = some (1, vs) := by
    intro h m s T
    obtain ⟨v, ml, bs, hS, -⟩ := T
    exact ⟨_, (xSb_cell hS).1⟩
  obtain ⟨vs1, hc1⟩ := cell T1
  obtain ⟨vs2, hc2⟩ := cell T2
  obtain ⟨vs3, hc3⟩ := cell T3
  obtain ⟨vs4, hc4⟩ := cell T4
  have hsm := xs_some (K := xK xs) (Z := xZ z) (h := h2) (x >>> (Int32.ofInt 4 &&& 31)) (n := Int32.ofNat 8) (by decide)
  rw [ek] at hsm
  refine xp_newo (by omega) ?_
  refine xp_step rfl ?_
  refine xp_spec2 rfl (Nat.le_of_ble_eq_true rfl) rfl (xR_up (by decide) run1) ?_
  refine xp_step rfl ?_
  refine xp_virtK hc1 rfl (Nat.le_of_ble_eq_true rfl) rfl (xR_up (by decide) run2) ?_
  refine xp_step rfl ?_
  refine xp_step rfl ?_
  refine xp_step rfl ?_
  refine xp_step rfl ?_
  refine xp_callR rfl (xR_up (by decide) (hsm)) ?_
  refine xp_virtK hc2 rfl (Nat.le_of_ble_eq_true rfl) rfl (xR_up (by decide) run3) ?_
  refine xp_step rfl ?_
  refine xp_virtK hc3 rfl (Nat.le_of_ble_eq_true rfl) rfl (xR_up (by decide) run4) ?_
  refine xp_virtK hc4 rfl (Nat.le_of_ble_eq_true rfl) rfl (xR_up (by decide) run5) ?_
  refine xp_callR rfl (xR_up (by decide) run) ?_
  refine xp_if1 rfl (fun q => ?_) (fun q => ?_)
  · have q : c < 0 := of_decide_eq_true q
    rcases hres with ⟨-, k1, k2, rfl⟩ | ⟨k0, -⟩
    · refine xp_step rfl ?_
      exact xp_ret rfl ⟨fun v q => by cases q; rfl, 0, N', C', _, rfl, rfl, Or.inl ⟨rfl, k1, k2⟩, ⟨e ++ [(40, List.replicate 6 .null)], by unfold xgx; rw [List.append_assoc]⟩, xGr_mono (xGr_trans hgr (xGr_gx _)) (by decide)⟩
    · exact absurd q (Int32.not_lt.mpr k0)
  · have q : ¬ c < 0 := of_decide_eq_false q
    refine xp_step rfl ?_
    refine xp_jump rfl ?_
    rcases hres with ⟨k0, -⟩ | ⟨-, k1, k2, rfl⟩
    · exact absurd k0 q
    · exact xp_ret rfl ⟨fun v q => by cases q; rfl, 1, N', C', _, rfl, rfl, Or.inr ⟨rfl, k1, xOb_mono k2 (by omega) (by omega)⟩, ⟨e, rfl⟩, xGr_mono hgr (by decide)⟩
theorem xs_chg_text (hB : xBok pre B) (h : xOb N V H) (hV : V ≤ 900000) (hg : B + 253 + g.length < 999000) (hz : z.category = 1) : xBp (xK xs) (xZ z) 11 3 [] xcL_changes (xseek xcL_changes 343) [(2, .int rr), (0, .ref (B + 0)), (1, .int x)] [] (xHn pre B N C L g) (xChgP pre B N L g V H) := by
  refine xp_step rfl ?_
  refine xp_step rfl ?_
  refine xp_step rfl ?_
  refine xp_step rfl ?_
  refine xp_step rfl ?_
  refine xp_step rfl ?_
  refine xp_if1 rfl (fun _ => ?_) (fun _ => ?_)
  · exact xs_chg_textB hB h hV hg hz
  · exact xs_chg_textA hB h hV hg hz
/-- CHANGES, whole -/
theorem xl_changes (hB : xBok pre B) (hz : z.category = 1) (h : xOb N V H) (hV : V ≤ 900000) (x : Int32) (hg : B + 253 + g.length < 999000) :
    ∃ b N' C' g', xRn (xK xs) (xZ z) 12 242 [.ref (B + 0), .int x] (xHn pre B N C L g) (.ok (some (.int b))) (xHn pre B N' C' L g') ∧ (((b = 0 ∧ (xRefd N N' ∧ xOb N' V H)) ∨ (b = 1 ∧ (xAccd N N' ∧ xOb N' (V + 80200) (H + 144)))) ∧ ((∃ e, g' = g ++ e) ∧ xGr g g' 20)) := by
  have goal : xRp (xK xs) (xZ z) 12 242 [.ref (B + 0), .int x] (xHn pre B N C L g) (fun r h' => ∃ b N' C' g', r = .ok (some (.int b)) ∧ (h' = xHn pre B N' C' L g' ∧ (((b = 0 ∧ (xRefd N N' ∧ xOb N' V H)) ∨ (b = 1 ∧ (xAccd N N' ∧ xOb N' (V + 80200) (H + 144)))) ∧ ((∃ e, g' = g ++ e) ∧ xGr g g' 20)))) := by
    refine xRp_of (m := (yL_changes, cL_changes, 3, (some .boolean), [], [], xcL_changes)) rfl (by show 2 ≤ 3; decide) ?_
    show xBp (xK xs) (xZ z) 11 3 [] xcL_changes xcL_changes [(0, .ref (B + 0)), (1, .int x)] [] _ (xChgP pre B N L g V H)
    obtain ⟨n0, en, hn8, -, -⟩ := xgd_n8 h.1
    have hne : Int32.ofNat (n0 + 1) ≠ 0 := xi_ne (b := 0) (by omega) (by omega) (by omega)
    have c0 := xo_reachCount_ (K := xK xs) (Z := xZ z) (N := N) (C := C) (L := L) (g := g) hB
    rw [en] at c0
    have c1 := xs_some (K := xK xs) (Z := xZ z) (h := xHn pre B N C L g) (x >>> (Int32.ofInt 4 &&& 31)) hne
    obtain ⟨k, ek, hk⟩ := xsom_bd (v := x) (m := 24) (by decide) (by decide)
    have c2 := xs_some (K := xK xs) (Z := xZ z) (h := xHn pre B N C L g) x (n := Int32.ofNat 24) (by decide)
    rw [ek] at c2
    refine xp_step rfl ?_
    refine xp_step rfl ?_
    refine xp_step rfl ?_
    refine xp_step rfl ?_
    refine xp_virt (i := 0) hB (by decide) rfl rfl (Nat.le_of_ble_eq_true rfl) rfl (xR_up (by decide) (c0)) ?_
    refine xp_step rfl ?_
    refine xp_addE (w := Int32.ofNat (n0 + 1)) xi_succ ?_
    refine xp_callR rfl (xR_up (by decide) (c1)) ?_
    refine xp_step rfl ?_
    refine xp_step rfl ?_
    refine xp_step rfl ?_
    refine xp_callR rfl (xR_up (by decide) (c2)) ?_
    generalize xsom (x >>> (Int32.ofInt 4 &&& 31)) (Int32.ofNat (n0 + 1)) = rr
    rcases k with _ | _ | _ | _ | _ | _ | _ | _ | _ | _ | _ | _ | _ | _ | _ | _ | _ | _ | _ | _ | _ | _ | _ | _ | k
    · refine xp_jump rfl ?_
      exact xs_chg_add hB h hV hg
    · refine xp_jump rfl ?_
      exact xs_chg_add hB h hV hg
    · refine xp_jump rfl ?_
      exact xs_chg_add hB h hV hg
    · refine xp_jump rfl ?_
      exact xs_chg_cut hB h hV hg
    · refine xp_jump rfl ?_
      exact xs_chg_lat hB h hV hg
    · refine xp_jump rfl ?_
      exact xs_chg_lat hB h hV hg
    · refine xp_jump rfl ?_
      exact xs_chg_fill hB h hV hg
    · refine xp_jump rfl ?_
      exact xs_chg_fill hB h hV hg
    · refine xp_jump rfl ?_
      exact xs_chg_fill hB h hV hg
    · refine xp_jump rfl ?_
      exact xs_chg_stages hB h hV hg
    · refine xp_jump rfl ?_
      exact xs_chg_stages hB h hV hg
    · refine xp_jump rfl ?_
      exact xs_chg_gate hB h hV hg
    · refine xp_jump rfl ?_
      exact xs_chg_gate hB h hV hg
    · refine xp_jump rfl ?_
      exact xs_chg_rule hB h hV hg hz
    · refine xp_jump rfl ?_
      exact xs_chg_rule hB h hV hg hz
    · refine xp_jump rfl ?_
      exact xs_chg_rule hB h hV hg hz
    · refine xp_jump rfl ?_
      exact xs_chg_pulse hB h hV hg
    · refine xp_jump rfl ?_
      exact xs_chg_pulse hB h hV hg
    · refine xp_jump rfl ?_
      exact xs_chg_text hB h hV hg hz
    · refine xp_jump rfl ?_
      exact xs_chg_text hB h hV hg hz
    · refine xp_jump rfl ?_
      exact xs_chg_pass hB h hV hg
    · refine xp_jump rfl ?_
      exact xs_chg_pass hB h hV hg
    · refine xp_jump rfl ?_
      exact xs_chg_pass hB h hV hg
    · refine xp_jump rfl ?_
      exact xs_chg_pass hB h hV hg
    · omega
  obtain ⟨r, h', hrun, b, N', C', g', rfl, rfl, hh⟩ := goal
  exact ⟨b, N', C', g', hrun, hh⟩
end XCHG
