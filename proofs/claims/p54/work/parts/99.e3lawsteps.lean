/-! THE LAW'S LAST PART: its steps -/
/-- between the law's steps: the object, its line, the array of sums at k0, the history -/
def xLw (pre : xH) (B : Nat) (NS : Nat → Nat → Int32) (Vw : Nat → Nat → Nat → Int32) (nx d k0 : Nat) (vs : List Value) (V H m : Nat) (N : Nat → Nat → Int32) (C : Nat → Nat) (L : Nat) (g : xH) : Prop := xOb N V H ∧ (xLn pre B N C L g ∧ (g[k0]? = some (52, vs) ∧ (xGr [] g m ∧ xHs NS Vw nx d N)))
section XLWS
variable {xs : List Int32} {z : Value} {K : List (Nat × List Value)} {Z : List Value} {pre g : xH} {B L k0 nx d m V H : Nat} {N NS : Nat → Nat → Int32} {Vw : Nat → Nat → Nat → Int32} {C : Nat → Nat} {vs : List Value} {P : xA → xH → Prop}
theorem xlw_len (h : xLw pre B NS Vw nx d k0 vs V H m N C L g) : g.length ≤ m := by have := h.2.2.2.1.2.1; simpa using this
theorem xlw_mono {V' H' m' : Nat} (h : xLw pre B NS Vw nx d k0 vs V H m N C L g) (hV : V ≤ V') (hH : H ≤ H') (hm : m ≤ m') : xLw pre B NS Vw nx d k0 vs V' H' m' N C L g := ⟨xOb_mono h.1 hV hH, h.2.1, h.2.2.1, xGr_mono h.2.2.2.1 hm, h.2.2.2.2⟩
/-- an array of longs stays over a call -/
theorem xk2_g (hB : xBok pre B) {N' : Nat → Nat → Int32} {C' : Nat → Nat} {L' : Nat} {g' : xH} {d' mi : Nat} {args : List Value} {r : xA} (hr : xRn K Z d' mi args (xHn pre B N C L g) r (xHn pre B N' C' L' g')) (hg : g[k0]? = some (52, vs)) : g'[k0]? = some (52, vs) := by
  have k := xk2_run hr (B + 253 + k0) vs (by rw [xHn_g hB]; exact hg)
  rw [xHn_g hB] at k
  exact k
theorem xlw_asks (hB : xBok pre B) (hz : z.category = 1) (h : xLw pre B NS Vw nx d k0 vs V H m N C L g) (hV : V ≤ 1000000) (hH : H ≤ 1000000) (hm : B + 253 + m < 990000) :
    ∃ N' L' g', xRn (xK xs) (xZ z) 10 241 [.ref (B + 0)] (xHn pre B N C L g) (.ok (some (.long (xAsk N)))) (xHn pre B N' C L' g') ∧ (xLw pre B NS Vw nx d k0 vs V H (m + 130) N' C L' g' ∧ xSm N' N 1 1) := by
  have hl := xlw_len h
  obtain ⟨N', L', g', run, hq, hl', hgr⟩ := xl_asks (xs := xs) hB hz h.1 hV hH h.2.1 (by omega)
  exact ⟨N', L', g', run, ⟨xQy_ob hq h.1, hl', xk2_g hB run h.2.2.1, xGr_trans h.2.2.2.1 hgr, xHs_qy h.2.2.2.2 hq⟩, xQy_1 hq⟩
theorem xlw_changes (hB : xBok pre B) (hz : z.category = 1) (h : xLw pre B NS Vw nx d k0 vs V H m N C L g) (hd : d < 8) (hV : V ≤ 900000) (x : Int32) (hm : B + 253 + m < 990000) :
    ∃ b N' C' g', xRn (xK xs) (xZ z) 12 242 [.ref (B + 0), .int x] (xHn pre B N C L g) (.ok (some (.int b))) (xHn pre B N' C' L g') ∧ ((b = 0 ∧ (xLw pre B NS Vw nx d k0 vs V H (m + 20) N' C' L g' ∧ xSm N' N 1 1)) ∨ (b = 1 ∧ xLw pre B NS (fun j => if j = d then N else Vw j) nx (d + 1) k0 vs (V + 80200) (H + 144) (m + 20) N' C' L g')) := by
  have hl := xlw_len h
  obtain ⟨b, N', C', g', run, hres, ⟨e, rfl⟩, hgr⟩ := xl_changes (xs := xs) (C := C) (L := L) (g := g) hB hz h.1 hV x (by omega)
  have hg' := xk2_g hB run h.2.2.1
  refine ⟨b, N', C', _, run, ?_⟩
  rcases hres with ⟨hb, hr, ho⟩ | ⟨hb, hr, ho⟩
  · obtain ⟨hs, -, -, -, -, -, kl⟩ := id hr
    exact Or.inl ⟨hb, ⟨ho, xln_keep hB h.2.1 e (fun b => (kl b).1) (fun b => (kl b).2), hg', xGr_trans h.2.2.2.1 hgr, xHs_refd h.2.2.2.2 (by omega) hr⟩, hs⟩
  · obtain ⟨-, -, -, -, -, -, kl⟩ := id hr
    exact Or.inr ⟨hb, ho, xln_keep hB h.2.1 e (fun b => (kl b).1) (fun b => (kl b).2), hg', xGr_trans h.2.2.2.1 hgr, xHs_accd h.2.2.2.2 hd hr⟩
theorem xlw_undo (hB : xBok pre B) (h : xLw pre B NS Vw nx (d + 1) k0 vs V H m N C L g) (hd : d < 8) (hG : xGd (Vw d) 1 V H) :
    ∃ N', xRn K Z 5 235 [.ref (B + 0)] (xHn pre B N C L g) (.ok (some (.int (Int32.ofNat d)))) (xHn pre B N' C L g) ∧ (xLw pre B NS Vw nx d k0 vs V H m N' C L g ∧ xSm N' (Vw d) 1 1) := by
  obtain ⟨h1, h2, h3, h4, h5, h6, h7, h8⟩ := xHs_undo h.2.2.2.2 hd h.1 hG
  have run := xl_undo (K := K) (Z := Z) (C := C) (L := L) (g := g) hB h1 h2 h3
  rw [h4] at run
  exact ⟨_, run, ⟨h7, xln_keep0 hB h.2.1 (fun b => (h8 b).1) (fun b => (h8 b).2), h.2.2.1, h.2.2.2.1, h5⟩, h6⟩
theorem xlw_gx (hB : xBok pre B) (h : xLw pre B NS Vw nx d k0 vs V H m N C L g) : xLw pre B NS Vw nx d k0 vs V H (m + 1) N C L (xgx g) := by
  refine ⟨h.1, xln_gx hB h.2.1 (fun _ => rfl) (fun _ => rfl), ?_, xGr_trans h.2.2.2.1 (xGr_gx g), h.2.2.2.2⟩
  unfold xgx
  rw [List.getElem?_append_left (List.getElem?_eq_some_iff.mp h.2.2.1).1]
  exact h.2.2.1
theorem xlw_undoE (hB : xBok pre B) (h : xLw pre B NS Vw nx 0 k0 vs V H m N C L g) (hm : B + 253 + m < 990000) : xRn K Z 2 235 [.ref (B + 0)] (xHn pre B N C L g) (.ok (some (.int (-1001)))) (xHn pre B N C L (xgx g)) := by
  have hl := xlw_len h
  exact xl_undoE hB h.2.2.2.2.1 (by omega)
theorem xlw_rest (hB : xBok pre B) (h : xLw pre B NS Vw nx d k0 vs V H m N C L g) (hG : xGd NS 1 V H) :
    ∃ N', xRn K Z 4 236 [.ref (B + 0)] (xHn pre B N C L g) (.ok (some (.int (NS 1 2)))) (xHn pre B N' C L g) ∧ (xLw pre B NS Vw ((nx + d) % 9) 0 k0 vs V H m N' C L g ∧ xSm N' NS 1 1) := by
  obtain ⟨k1, k2, k3, k4, k5⟩ := id h.2.2.2.2
  obtain ⟨h1, h2, h3, ⟨h4, h5, h6⟩, h7⟩ := xHs_rest h.1 k4 hG k3
  have run := xl_restore (K := K) (Z := Z) (C := C) (L := L) (g := g) hB (by rw [k3]; decide) (h.1.2.1 39 (by decide))
  rw [k4.1 2 (by decide) (by decide)] at run
  refine ⟨_, run, ⟨h3, xln_keep0 hB h.2.1 (fun b => (h7 b).1) (fun b => (h7 b).2), h.2.2.1, h.2.2.2.1, h5, ?_, h4, h2, fun j hj => absurd hj (by omega)⟩, h1⟩
  rw [h6, k2, Nat.add_zero, Nat.mod_mod]
/-- a long into an array of longs, and out of it -/
theorem xp_lastore {d nL pc ln a i : Nat} {aux : List Nat} {hs : List (Nat × Nat × Nat × Nat)} {code cs : List xE} {loc : xL} {st : List Value} {h : xH} {y : Int64} (ha : a < 1000000) (hc : h[a]? = some (52, vs)) (hi : i < vs.length) (hl : vs.length < 1000) (hb : xBp K Z d nL hs code cs loc st (h.set a (52, vs.set i (.long y))) P) : xBp K Z d nL hs code ((pc, .lastore, ln, aux) :: cs) loc (.long y :: .int (Int32.ofNat i) :: .ref a :: st) h P := by
  refine xp_step (loc1 := loc) (st1 := st) (h1 := h.set a (52, vs.set i (.long y))) ?_ hb
  obtain ⟨i1, i2⟩ := xin_ofNat (n := i) (t := vs.length) hi (by omega)
  show xast 2 xb64 loc (.long y :: .int (Int32.ofNat i) :: .ref a :: st) h = _
  unfold xast
  dsimp only
  rw [decide_eq_true ha]
  dsimp only
  rw [hc]
  dsimp only
  rw [i1, i2]
  rfl
theorem xp_laload {d nL pc ln a i : Nat} {aux : List Nat} {hs : List (Nat × Nat × Nat × Nat)} {code cs : List xE} {loc : xL} {st : List Value} {h : xH} {y : Int64} (ha : a < 1000000) (hc : h[a]? = some (52, vs)) (hi : vs[i]? = some (.long y)) (hl : vs.length < 1000) (hb : xBp K Z d nL hs code cs loc (.long y :: st) h P) : xBp K Z d nL hs code ((pc, .laload, ln, aux) :: cs) loc (.int (Int32.ofNat i) :: .ref a :: st) h P := by
  refine xp_step (loc1 := loc) (st1 := .long y :: st) (h1 := h) ?_ hb
  have hil := (List.getElem?_eq_some_iff.mp hi).1
  obtain ⟨i1, i2⟩ := xin_ofNat (n := i) (t := vs.length) hil (by omega)
  show xald K xisJ (fun a t => decide (a < 1000000) && decide (t = 2)) loc (.int (Int32.ofNat i) :: .ref a :: st) h = _
  unfold xald
  dsimp only
  rw [xc_heap ha, hc]
  dsimp only
  rw [decide_eq_true ha, i1, i2]
  show (match vs[i]? with | some v => (match xisJ v with | true => xnx loc (v :: st) h | false => none) | none => none) = _
  rw [hi]
  rfl
theorem xp_lcmp0 {d nL pc ln : Nat} {aux : List Nat} {hs : List (Nat × Nat × Nat × Nat)} {code cs : List xE} {loc : xL} {st : List Value} {h : xH} {y : Int64} (hb : xBp K Z d nL hs code cs loc (.int 0 :: st) h P) : xBp K Z d nL hs code ((pc, .lcmp, ln, aux) :: cs) loc (.long y :: .long y :: st) h P := by
  refine xp_step (loc1 := loc) (st1 := .int 0 :: st) (h1 := h) ?_ hb
  show xjj (fun x y => .int (lg_cmp x y)) loc (.long y :: .long y :: st) h = _
  unfold xjj
  dsimp only
  rw [xlcmp_same]
  rfl
/-- the law's end: true, in the room -/
def xLawP : xA → xH → Prop := fun r h' => r = .ok (some (.int 1)) ∧ (h'.length ≤ 688064 ∧ xsz h' ≤ 7027135)
def xFit (pre : xH) (B : Nat) : Prop := ∀ N C L g, xGr [] g 9000 → (xHn pre B N C L g).length ≤ 688064 ∧ xsz (xHn pre B N C L g) ≤ 7027135
set_option maxRecDepth 20000 in
theorem xs_lwZ (hB : xBok pre B) (hz : z.category = 1) (hfit : xFit pre B) (hB9 : B + 253 < 900000) {S : Int64} (hS : S = xAsk NS) (hG : xGd NS 1 900000 100000) (h : xLw pre B NS Vw nx 0 k0 vs 900000 100000 m N C L g) (hm : m ≤ 8000) : xBp (xK xs) (xZ z) 20 11 [] xcL_law (xseek xcL_law 700) [(2, .ref (B + 0)), (3, .long S), (5, .int (NS 1 2))] [] (xHn pre B N C L g) xLawP := by
  have c1 := xlw_undoE (K := xK xs) (Z := xZ z) hB h (by omega)
  have h1 := xlw_gx hB h
  generalize xgx g = g1 at c1 h1
  obtain ⟨N2, c2, h2, s2⟩ := xlw_rest (K := xK xs) (Z := xZ z) hB h1 hG
  obtain ⟨N3, L3, g3, c3, h3, s3⟩ := xlw_asks (xs := xs) hB hz h2 (by decide) (by decide) (by omega)
  obtain ⟨n0, -, hn8, en, -⟩ := xgd_n8 hG
  rw [xsm_ask s2 (by rw [en]; omega), ← hS] at c3
  have c4 := xlw_undoE (K := xK xs) (Z := xZ z) hB h3 (by omega)
  have h4 := xlw_gx hB h3
  generalize xgx g3 = g4 at c4 h4
  refine xp_step rfl ?_
  refine xp_callR rfl (xR_up (by decide) (c1)) ?_
  refine xp_step rfl ?_
  refine xp_if2 rfl (fun q => absurd q (by decide)) (fun _ => ?_)
  refine xp_step rfl ?_
  refine xp_callR rfl (xR_up (by decide) (c2)) ?_
  refine xp_step rfl ?_
  refine xp_if2 rfl (fun q => absurd rfl (show ¬ NS 1 2 = NS 1 2 by simpa [xic] using q)) (fun _ => ?_)
  refine xp_step rfl ?_
  refine xp_callR rfl (xR_up (by decide) (c3)) ?_
  refine xp_step rfl ?_
  refine xp_lcmp0 ?_
  refine xp_if1 rfl (fun q => absurd q (by decide)) (fun _ => ?_)
  refine xp_step rfl ?_
  refine xp_callR rfl (xR_up (by decide) (c4)) ?_
  refine xp_step rfl ?_
  refine xp_if2 rfl (fun q => absurd q (by decide)) (fun _ => ?_)
  refine xp_step rfl ?_
  refine xp_jump rfl ?_
  exact xp_ret rfl ⟨rfl, hfit _ _ _ _ (xGr_mono h4.2.2.2.1 (by omega))⟩
set_option maxRecDepth 20000 in
theorem xs_lwU (hB : xBok pre B) (hz : z.category = 1) (hfit : xFit pre B) (hB9 : B + 253 < 900000) {S : Int64} (hS : S = xAsk NS) (hG : xGd NS 1 900000 100000) {D : Nat} (hD : D ≤ 8) (hvl : vs.length = 9) (hv : ∀ j, j < D → xGd (Vw j) 1 900000 100000 ∧ vs[j]? = some (.long (xAsk (Vw j)))) (hm : m ≤ 5000) :
    ∀ j k N C L g, k + j = D + 1 → 1 ≤ k → xLw pre B NS Vw nx (D + 1 - k) k0 vs 900000 100000 (m + 200 * k) N C L g → xBp (xK xs) (xZ z) 20 11 [] xcL_law (xseek xcL_law 657) [(8, .int (Int32.ofNat k)), (7, .int (Int32.ofNat D)), (2, .ref (B + 0)), (3, .long S), (5, .int (NS 1 2)), (6, .ref (B + 253 + k0))] [] (xHn pre B N C L g) xLawP := by
  intro j
  induction j with
  | zero =>
    intro k N C L g hk h1 h
    obtain rfl : k = D + 1 := by omega
    rw [show D + 1 - (D + 1) = 0 by omega] at h
    refine xp_step rfl ?_
    refine xp_step rfl ?_
    refine xp_if2 rfl (fun _ => ?_) (fun q => ?_)
    · refine xp_weak ?_ (xs_lwZ hB hz hfit hB9 hS hG h (by omega))
      exact xLe_cons rfl (xLe_cons rfl (xLe_cons rfl xLe_nil))
    · have q : ¬ Int32.ofNat D < Int32.ofNat (D + 1) := of_decide_eq_false q
      rw [xi_lt (by omega) (by omega)] at q
      omega
  | succ j ih =>
    intro k N C L g hk h1 h
    have hl := xlw_len h
    have hkl : B + 253 + k0 < 1000000 := by
      have := (List.getElem?_eq_some_iff.mp h.2.2.1).1
      omega
    rw [show D + 1 - k = D - k + 1 by omega] at h
    obtain ⟨hGk, hvk⟩ := hv (D - k) (by omega)
    obtain ⟨N1, c1, h2, s1⟩ := xlw_undo (K := xK xs) (Z := xZ z) hB h (by omega) hGk
    obtain ⟨N2, L2, g2, c2, h3, s2⟩ := xlw_asks (xs := xs) hB hz h2 (by decide) (by decide) (by omega)
    obtain ⟨n0, -, hn8, en, -⟩ := xgd_n8 hGk
    rw [xsm_ask s1 (by rw [en]; omega)] at c2
    have hcell : (xHn pre B N2 C L2 g2)[B + 253 + k0]? = some (52, vs) := by rw [xHn_g hB]; exact h3.2.2.1
    have hsub : Int32.ofNat D - Int32.ofNat k = Int32.ofNat (D - k) := xi_subN (by omega) (by omega)
    refine xp_step rfl ?_
    refine xp_step rfl ?_
    refine xp_if2 rfl (fun q => ?_) (fun _ => ?_)
    · have q : Int32.ofNat D < Int32.ofNat k := of_decide_eq_true q
      rw [xi_lt (by omega) (by omega)] at q
      omega
    refine xp_step rfl ?_
    refine xp_callR rfl (xR_up (by decide) (c1)) ?_
    refine xp_step rfl ?_
    refine xp_step rfl ?_
    refine xp_subE (w := Int32.ofNat (D - k)) hsub ?_
    refine xp_if2 rfl (fun q => absurd rfl (show ¬ Int32.ofNat (D - k) = Int32.ofNat (D - k) by simpa [xic] using q)) (fun _ => ?_)
    refine xp_step rfl ?_
    refine xp_callR rfl (xR_up (by decide) (c2)) ?_
    refine xp_step rfl ?_
    refine xp_step rfl ?_
    refine xp_step rfl ?_
    refine xp_subE (w := Int32.ofNat (D - k)) hsub ?_
    refine xp_laload hkl hcell hvk (by omega) ?_
    refine xp_lcmp0 ?_
    refine xp_if1 rfl (fun _ => ?_) (fun q => absurd q (by decide))
    refine xp_step rfl ?_
    refine xp_jump rfl ?_
    rw [show Int32.ofNat k + Int32.ofInt 1 = Int32.ofNat (k + 1) from xi_succ]
    refine xp_weak ?_ (ih (k + 1) N2 C L2 g2 (by omega) (by omega) (xlw_mono (by rw [show D + 1 - (k + 1) = D - k by omega]; exact h3) (by decide) (by decide) (by omega)))
    exact xLe_cons rfl (xLe_cons rfl (xLe_cons rfl (xLe_cons rfl (xLe_cons rfl (xLe_cons rfl xLe_nil)))))
/-- what was noted of the states -/
def xNot (d : Nat) (Vw : Nat → Nat → Nat → Int32) (vs : List Value) : Prop := vs.length = 9 ∧ ∀ j, j < d → xGd (Vw j) 1 900000 100000 ∧ vs[j]? = some (.long (xAsk (Vw j)))
set_option maxRecDepth 20000 in
theorem xs_lwC (hB : xBok pre B) (hz : z.category = 1) (hfit : xFit pre B) (hB9 : B + 253 < 900000) (hl : xs.length ≤ 260) {S : Int64} (hS : S = xAsk NS) (hG : xGd NS 1 900000 100000) (hm : m ≤ 2000) :
    ∀ k i d N C L g vs Vw, i + k = 8 → d ≤ i → xNot d Vw vs → xLw pre B NS Vw nx d k0 vs (90000 + 80200 * i) (48 + 144 * i) (m + 300 * i) N C L g → xBp (xK xs) (xZ z) 20 11 [] xcL_law (xseek xcL_law 576) [(8, .int (Int32.ofNat i)), (7, .int (Int32.ofNat d)), (0, .ref 1000000), (2, .ref (B + 0)), (3, .long S), (5, .int (NS 1 2)), (6, .ref (B + 253 + k0))] [] (xHn pre B N C L g) xLawP := by
  intro k
  induction k with
  | zero =>
    intro i d N C L g vs Vw hi hd hn h
    obtain rfl : i = 8 := by omega
    refine xp_step rfl ?_
    refine xp_step rfl ?_
    refine xp_if2 rfl (fun _ => ?_) (fun q => absurd (show (8 : Int32) ≤ 8 from Int32.le_refl _) (of_decide_eq_false q))
    refine xp_step rfl ?_
    refine xp_step rfl ?_
    refine xp_weak ?_ (xs_lwU (m := m + 2400) (D := d) hB hz hfit hB9 hS hG hd hn.1 hn.2 (by omega) d 1 N C L g (by omega) (by decide) (xlw_mono (by rw [show d + 1 - 1 = d by omega]; exact h) (by omega) (by omega) (by omega)))
    exact xLe_cons rfl (xLe_cons rfl (xLe_cons rfl (xLe_cons rfl (xLe_cons rfl (xLe_cons rfl xLe_nil)))))
  | succ k ih =>
    intro i d N C L g vs Vw hi hd hn h
    have hgl := xlw_len h
    have hkl : B + 253 + k0 < 1000000 := by
      have := (List.getElem?_eq_some_iff.mp h.2.2.1).1
      omega
    -- where both roads meet again
    have meet : ∀ d' N' C' L' g' vs' Vw', d' ≤ i + 1 → xNot d' Vw' vs' → xLw pre B NS Vw' nx d' k0 vs' (90000 + 80200 * (i + 1)) (48 + 144 * (i + 1)) (m + 300 * (i + 1)) N' C' L' g' → xBp (xK xs) (xZ z) 20 11 [] xcL_law (xseek xcL_law 637) [(8, .int (Int32.ofNat i)), (7, .int (Int32.ofNat d')), (0, .ref 1000000), (2, .ref (B + 0)), (3, .long S), (5, .int (NS 1 2)), (6, .ref (B + 253 + k0))] [] (xHn pre B N' C' L' g') xLawP := by
      intro d' N' C' L' g' vs' Vw' hd' hn' h'
      have c := xo_undoCount_ (K := xK xs) (Z := xZ z) (N := N') (C := C') (L := L') (g := g') hB
      rw [h'.2.2.2.2.1] at c
      refine xp_step rfl ?_
      refine xp_virt (i := 0) hB (by decide) rfl rfl (Nat.le_of_ble_eq_true rfl) rfl (xR_up (by decide) (c)) ?_
      refine xp_step rfl ?_
      refine xp_if2 rfl (fun _ => ?_) (fun q => absurd rfl (of_decide_eq_false q))
      refine xp_step rfl ?_
      refine xp_jump rfl ?_
      rw [show Int32.ofNat i + Int32.ofInt 1 = Int32.ofNat (i + 1) from xi_succ]
      refine xp_weak ?_ (ih (i + 1) d' N' C' L' g' vs' Vw' (by omega) hd' hn' h')
      exact xLe_cons rfl (xLe_cons rfl (xLe_cons rfl (xLe_cons rfl (xLe_cons rfl (xLe_cons rfl (xLe_cons rfl xLe_nil))))))
    obtain ⟨N1, L1, g1, c1, h1, s1⟩ := xlw_asks (xs := xs) hB hz h (by omega) (by omega) (by omega)
    have ha := xs_at (xs := xs) (Z := xZ z) (h := xHn pre B N1 C L1 g1) (k := 20 + i) (by omega) hl
    generalize xs.getD (20 + i) 0 = v at ha
    obtain ⟨b, N2, C2, g2, c2, hres⟩ := xlw_changes (xs := xs) hB hz h1 (by omega) (by omega) (v ^^^ (Int32.ofNat i * (Int16.ofInt 977).toInt32)) (by omega)
    refine xp_step rfl ?_
    refine xp_step rfl ?_
    refine xp_if2 rfl (fun q => ?_) (fun _ => ?_)
    · have q : Int32.ofNat 8 ≤ Int32.ofNat i := of_decide_eq_true q
      rw [xi_le (by omega) (by omega)] at q
      omega
    refine xp_step rfl ?_
    refine xp_callR rfl (xR_up (by decide) (c1)) ?_
    refine xp_step rfl ?_
    refine xp_step rfl ?_
    refine xp_step rfl ?_
    refine xp_step rfl ?_
    refine xp_step rfl ?_
    refine xp_addE (w := Int32.ofNat (20 + i)) (by rw [Int32.ofNat_add]; rfl) ?_
    refine xp_callR rfl (xR_up (by decide) (ha)) ?_
    refine xp_step rfl ?_
    refine xp_step rfl ?_
    refine xp_step rfl ?_
    refine xp_step rfl ?_
    refine xp_callR rfl (xR_up (by decide) (c2)) ?_
    obtain ⟨n0, -, hn8, en, -⟩ := xgd_n8 h.1.1
    rcases hres with ⟨rfl, h2, s2⟩ | ⟨rfl, h2⟩
    · obtain ⟨N3, L3, g3, c3, h3, s3⟩ := xlw_asks (xs := xs) hB hz h2 (by omega) (by omega) (by omega)
      rw [xsm_ask (xSm_trans s2 s1) (by rw [en]; omega)] at c3
      refine xp_if1 rfl (fun _ => ?_) (fun q => absurd q (by decide))
      refine xp_step rfl ?_
      refine xp_callR rfl (xR_up (by decide) (c3)) ?_
      refine xp_step rfl ?_
      refine xp_lcmp0 ?_
      refine xp_if1 rfl (fun _ => ?_) (fun q => absurd q (by decide))
      refine xp_weak ?_ (meet d N3 C2 L3 g3 vs Vw (by omega) hn (xlw_mono h3 (by omega) (by omega) (by omega)))
      exact xLe_cons rfl (xLe_cons rfl (xLe_cons rfl (xLe_cons rfl (xLe_cons rfl (xLe_cons rfl (xLe_cons rfl xLe_nil))))))
    · have hcell : (xHn pre B N2 C2 L1 g2)[B + 253 + k0]? = some (52, vs) := by rw [xHn_g hB]; exact h2.2.2.1
      have hn9 := hn.1
      refine xp_if1 rfl (fun q => absurd q (by decide)) (fun _ => ?_)
      refine xp_step rfl ?_
      refine xp_step rfl ?_
      refine xp_step rfl ?_
      refine xp_step rfl ?_
      refine xp_lastore hkl hcell (by omega) (by omega) ?_
      refine xp_jump rfl ?_
      rw [xHn_setg hB, show Int32.ofNat d + Int32.ofInt 1 = Int32.ofNat (d + 1) from xi_succ]
      refine xp_weak ?_ (meet (d + 1) N2 C2 L1 (g2.set k0 (52, vs.set d (.long (xAsk N)))) (vs.set d (.long (xAsk N))) (fun j => if j = d then N1 else Vw j) (by omega) ⟨by rw [List.length_set]; exact hn9, fun j hj => ?_⟩ ?_)
      · exact xLe_cons rfl (xLe_cons rfl (xLe_cons rfl (xLe_cons rfl (xLe_cons rfl (xLe_cons rfl (xLe_cons rfl xLe_nil))))))
      · dsimp only
        by_cases hjd : j = d
        · subst hjd
          rw [if_pos rfl, List.getElem?_set_self (by omega), xsm_ask s1 (by rw [en]; omega)]
          exact ⟨xGd_mono h1.1.1 (by omega) (by omega), rfl⟩
        · rw [if_neg hjd, List.getElem?_set_ne (fun q => hjd q.symm)]
          exact hn.2 j (by omega)
      · refine xlw_mono (V := 90000 + 80200 * i + 80200) (H := 48 + 144 * i + 144) (m := m + 300 * i + 130 + 20) ⟨h2.1, xln_setg hB h2.2.1 h2.2.2.1, ?_, xgr_setg h2.2.2.2.1 h2.2.2.1 (by rw [List.length_set]), h2.2.2.2.2⟩ (by omega) (by omega) (by omega)
        rw [List.getElem?_set_self (List.getElem?_eq_some_iff.mp h2.2.2.1).1]
end XLWS
