/-! THROWN, its end and whole -/
section XTHZ
variable {xs : List Int32} {z : Value} {K : List (Nat × List Value)} {Z : List Value} {pre g g0 : xH} {B L : Nat} {N N0 M : Nat → Nat → Int32} {C : Nat → Nat} {V H m n0 p0 h0 : Nat} {u lt : Int32} {S : Int64} {P : xA → xH → Prop}
theorem xQK : xStK (xK xs) 1000042 xtxQ := ⟨1000043, .retAddr 0, .retAddr 0, fun _ => rfl, fun _ => rfl, by decide, by decide, by decide⟩
theorem xGK : xStK (xK xs) 1000044 xtxG := ⟨1000045, .retAddr 0, .retAddr 0, fun _ => rfl, fun _ => rfl, by decide, by decide, by decide⟩
theorem xCK : xStK (xK xs) 1000046 [102, 105, 108, 108, 32, 48, 32, 57, 59, 108, 97, 116, 101, 114, 97, 108, 32, 48, 32] := ⟨1000047, .retAddr 0, .retAddr 0, fun _ => rfl, fun _ => rfl, by decide, by decide, by decide⟩
/-- refused as a whole: still as at the start -/
theorem xts_refd (hB : xBok pre B) (h : xTwn pre B N0 g0 V H m N C L g) {N' : Nat → Nat → Int32} {C' : Nat → Nat} (hr : xRefd N N') (ho : xOb N' V H) : xTwn pre B N0 g0 V H (m + 1) N' C' L (xgx g) := by
  obtain ⟨-, -, -, -, -, -, kl⟩ := id hr
  exact ⟨xKp_trans h.1 (xKp_refd hr), ho, xln_gx hB h.2.2.1 (fun b => (kl b).1) (fun b => (kl b).2), xGr_trans h.2.2.2 (xGr_gx g)⟩
theorem xt_runQ (hB : xBok pre B) (hz : z.category = 1) (h : xTwn pre B N0 g0 V H m N C L g) (hg : B + 253 + g0.length + m < 999000) : ∃ N' g', xRn (xK xs) (xZ z) 11 237 [.ref (B + 0), .ref 1000042] (xHn pre B N C L g) (.ok (some (.int (-1001)))) (xHn pre B N' C L g') ∧ (xTwn pre B N0 g0 V H (m + 1) N' C L g' ∧ N' 0 8 = 0) := by
  have hl := xts_len h
  have hV0 : xVok (fun _ _ => none) := fun a b q => by cases q
  have run := xl_runF (L := L) (g := g) (N := N) (C := C) hB hz (fun M => xStK_of (xQK (xs := xs)) _) xtxt_lt.1.1 (by decide) h.2.1.2.2.2 (xPar_bad (n := 0) (k := 15) (V := fun _ _ => none) (C := C) (len := Int32.ofNat xtxQ.length) xtxQ_f) (by decide) (by omega)
  have hoff : ∀ a b, ¬ (a = 0 ∧ b = 8) → xupN (xM0 N xtxQ 0 (fun _ _ => none)) 0 8 0 a b = xM0 N xtxQ 0 (fun _ _ => none) a b := by
    intro a b q
    unfold xupN
    rw [if_neg q]
  have hob := xM0_ob (s := xtxQ) (p := 0) hV0 h.2.1
  have hcell : ∀ a b, ¬ (a = 0 ∧ b = 8) → a ≠ 231 → a ≠ 232 → ¬ (234 ≤ a ∧ a < 250) → xupN (xM0 N xtxQ 0 (fun _ _ => none)) 0 8 0 a b = N a b := fun a b q q1 q2 q3 => (hoff a b q).trans (xM0_off hV0 q1 q2 q3)
  have hsm : ∀ w ∈ xRbs, xSm (xupN (xM0 N xtxQ 0 (fun _ _ => none)) 0 8 0) N w w := fun w hw => by
    have q2 := xRbs_lt hw
    exact xSm_of (fun a b q3 q4 => hcell a b (by omega) (by omega) (by omega) (by omega))
  refine ⟨_, _, run, ⟨xKp_trans h.1 ⟨hsm 1 (by decide), fun w hw _ _ => hsm w hw, ?_, ?_, ?_⟩, ⟨xGd_sm (xSm_symm (hsm 1 (by decide))) h.2.1.1, fun w hw => ?_, ?_, ?_⟩, xln_gx hB h.2.2.1 (fun b => ?_) (fun b => ?_), xGr_trans h.2.2.2 (xGr_gx g)⟩, ?_⟩
  · exact hcell 58 1 (by decide) (by decide) (by decide) (by decide)
  · exact hcell 58 2 (by decide) (by decide) (by decide) (by decide)
  · exact hcell 0 7 (by decide) (by decide) (by decide) (by decide)
  · have q2 := xRbs_lt hw
    exact xrul_off (fun r hr => hcell _ _ (by omega) (by omega) (by omega) (by omega)) (h.2.1.2.1 w hw)
  · have e := hcell 58 1 (by decide) (by decide) (by decide) (by decide)
    exact (congrArg (fun q => xwin q 0 8) e).trans h.2.1.2.2.1
  · exact (hoff 231 2 (by decide)).trans xM0_2
  · exact hcell 251 b (by omega) (by decide) (by decide) (by decide)
  · exact hcell 252 b (by omega) (by decide) (by decide) (by decide)
  · show xupN _ 0 8 0 0 8 = 0
    unfold xupN
    rw [if_pos ⟨rfl, rfl⟩]
theorem xt_runG (hB : xBok pre B) (hz : z.category = 1) (hV : V ≤ 900000) (hF : xThF N0 n0 p0 h0) (h : xTwn pre B N0 g0 V H m N C L g) (hg : B + 253 + g0.length + m < 999000) : ∃ N' C' g', xRn (xK xs) (xZ z) 11 237 [.ref (B + 0), .ref 1000044] (xHn pre B N C L g) (.ok (some (.int (-1002)))) (xHn pre B N' C' L g') ∧ (xTwn pre B N0 g0 V H (m + 1) N' C' L g' ∧ (N' 0 8 = N 0 8 ∧ (N' 250 0 = 5 ∧ (N' 250 1 = 2 ∧ (N' 250 2 = 6 ∧ N' 250 3 = 0))))) := by
  have hl := xts_len h
  obtain ⟨p, Vv, C', hpar, hVv, h4, ⟨v1, ⟨v2, v3⟩, v4, v5⟩, c1, c2, c3⟩ := xPk_G C
  have hM := xM0_ob (s := xtxG) (p := p) hVv h.2.1
  have hnM := xNn_ob hM
  have hcell : ∀ a b x, 234 ≤ a → a < 250 → Vv a b = some x → xNn (xM0 N xtxG p Vv) a b = x := fun a b x q1 q2 q => (xNn_off hM.2.2.1 (by have := xRow_in hM.2.2.1; omega)).trans (xM0_V (Or.inl (by omega)) q)
  have hn : xNn (xM0 N xtxG p Vv) 1 2 = Int32.ofNat n0 := (xNn_lo hM.2.2.1 (by decide)).trans ((xM0_off hVv (by decide) (by decide) (by decide)).trans ((h.1.1.1 2 (by decide) (by decide)).trans hF.1.1))
  obtain ⟨M2, he⟩ := xexc_G (C' := C') hnM.1 hV hn hF.2.1 ⟨hcell _ _ _ (by decide) (by decide) v1, ⟨hcell _ _ _ (by decide) (by decide) v2, hcell _ _ _ (by decide) (by decide) v3⟩, hcell _ _ _ (by decide) (by decide) v4, hcell _ _ _ (by decide) (by decide) v5⟩ ⟨c1, c2, c3⟩
  have hbud : xBud C' 3 0 ≤ 81200 := by
    show (if C' 234 = 9 then 79200 else 1000) + ((if C' 235 = 9 then 79200 else 1000) + ((if C' 236 = 9 then 79200 else 1000) + 0)) ≤ 81200
    rw [c1, c2, c3]
    decide
  obtain ⟨N', run, hr, ho, e8, ed⟩ := xl_runsFail (L := L) (g := g) hB hz h.2.1 (fun M => xStK_of (xGK (xs := xs)) _) xtxt_lt.1.2 (by decide) hpar hVv (cnt := 3) (by decide) (fun n hn => by
    rcases n with _ | _ | _ | n
    · rw [show C' (234 + 0) = 9 from c1]; decide
    · rw [show C' (234 + (0 + 1)) = 4 from c2]; decide
    · rw [show C' (234 + (0 + 1 + 1)) = 6 from c3]; decide
    · omega) h4 (by omega) (by omega) he
  refine ⟨N', C', _, run, xts_refd hB h hr ho, e8, ?_, ?_, ?_, ?_⟩
  · rw [ed]; unfold xNfail; rw [if_pos (Or.inl rfl)]; rfl
  · rw [ed]; unfold xNfail; rw [if_pos (Or.inl rfl)]; rfl
  · rw [ed]; unfold xNfail; rw [if_pos (Or.inl rfl)]; rfl
  · rw [ed]; unfold xNfail; rw [if_pos (Or.inl rfl)]; rfl
theorem xt_runC (hB : xBok pre B) (hz : z.category = 1) (hV : V ≤ 900000) (hF : xThF N0 n0 p0 h0) (h : xTwn pre B N0 g0 V H m N C L g) {k sa : Nat} (hk : k < 51) (hlt : N0 4 3 = Int32.ofNat k) (hS : ∀ M, xStr (xK xs) (xHn pre B M C L g) sa (xtxC k)) (hg : B + 253 + g0.length + m < 999000) : ∃ N' C' g', xRn (xK xs) (xZ z) 11 237 [.ref (B + 0), .ref sa] (xHn pre B N C L g) (.ok (some (.int (-1002)))) (xHn pre B N' C' L g') ∧ (xTwn pre B N0 g0 V H (m + 1) N' C' L g' ∧ (N' 0 8 = N 0 8 ∧ (N' 250 0 = 5 ∧ (N' 250 1 = 1 ∧ (N' 250 2 = 4 ∧ N' 250 3 = Int32.ofNat k))))) := by
  have hl := xts_len h
  obtain ⟨p, Vv, C', hpar, hVv, h4, ⟨⟨v1, v2⟩, v3, v4⟩, c1, c2⟩ := xPk_C C hk
  have hM := xM0_ob (s := xtxC k) (p := p) hVv h.2.1
  have hnM := xNn_ob hM
  have hcell : ∀ a b x, 234 ≤ a → a < 250 → Vv a b = some x → xNn (xM0 N (xtxC k) p Vv) a b = x := fun a b x q1 q2 q => (xNn_off hM.2.2.1 (by have := xRow_in hM.2.2.1; omega)).trans (xM0_V (Or.inl (by omega)) q)
  have hlo : ∀ a b, a < 58 → xNn (xM0 N (xtxC k) p Vv) a b = N a b := fun a b q => (xNn_lo hM.2.2.1 q).trans (xM0_off hVv (by omega) (by omega) (by omega))
  have hn : xNn (xM0 N (xtxC k) p Vv) 1 2 = Int32.ofNat n0 := (hlo 1 2 (by decide)).trans ((h.1.1.1 2 (by decide) (by decide)).trans hF.1.1)
  have h3 : xNn (xM0 N (xtxC k) p Vv) 4 3 = Int32.ofNat k := (hlo 4 3 (by decide)).trans ((h.1.1.2.1 0 3 (by decide) (by decide)).trans hlt)
  obtain ⟨M2, he, he2⟩ := xexc_C (C' := C') hnM.1 hV hn hF.2.1 hk h3 ⟨⟨hcell _ _ _ (by decide) (by decide) v1, hcell _ _ _ (by decide) (by decide) v2⟩, hcell _ _ _ (by decide) (by decide) v3, hcell _ _ _ (by decide) (by decide) v4⟩ ⟨c1, c2⟩
  have hbud : xBud C' 2 0 ≤ 2000 := by
    show (if C' 234 = 9 then 79200 else 1000) + ((if C' 235 = 9 then 79200 else 1000) + 0) ≤ 2000
    rw [c1, c2]
    decide
  obtain ⟨N', run, hr, ho, e8, ed⟩ := xl_runsFail (L := L) (g := g) hB hz h.2.1 hS (xtxt_lt.2 k hk).1 (xtxt_lt.2 k hk).2 hpar hVv (cnt := 2) (by decide) (fun n hn => by
    rcases n with _ | _ | n
    · rw [show C' (234 + 0) = 4 from c1]; decide
    · rw [show C' (234 + (0 + 1)) = 3 from c2]; decide
    · omega) h4 (by omega) (by omega) he
  refine ⟨N', C', _, run, xts_refd hB h hr ho, e8, ?_, ?_, ?_, ?_⟩
  · rw [ed]; unfold xNfail; rw [if_neg (by decide)]; rfl
  · rw [ed]; unfold xNfail; rw [if_neg (by decide)]; rfl
  · rw [ed]; unfold xNfail; rw [if_neg (by decide)]; rfl
  · rw [ed]
    unfold xNfail
    rw [if_neg (by decide)]
    show xfDet M2 1 4 (M2 (234 + 1) 2) = _
    unfold xfDet
    rw [if_pos rfl]
    exact he2
theorem xlcmp_same (S : Int64) : lg_cmp S S = 0 := by
  unfold lg_cmp
  rw [if_neg (fun q => Int64.lt_irrefl q), if_pos rfl]
/-- what thrown leaves -/
def xThrP (pre : xH) (B : Nat) (N0 : Nat → Nat → Int32) (g0 : xH) (V H : Nat) : xA → xH → Prop := fun r h' => (∀ v, r = .ok v → xrfit (some .boolean) v = true) ∧ (r = .ok (some (.int 1)) ∧ ∃ N' C' L' g', h' = xHn pre B N' C' L' g' ∧ xTwn pre B N0 g0 V H 900 N' C' L' g')
set_option maxRecDepth 20000 in
theorem xs_thZ2 (hz : z.category = 1) (hB : xBok pre B) (hV : V ≤ 1000000) (hF : xThF N0 n0 p0 h0) (hm : m ≤ 600) (hg : B + 253 + g0.length < 998000) (h : xTwn pre B N0 g0 V H m N C L g) (hV9 : V ≤ 900000) (hH : H ≤ 1000000) {k : Nat} (hk : k < 51) (hlt : N0 4 3 = Int32.ofNat k) (hu : u = N0 58 2) (hS0 : S = xAsk N0) (h8 : N 0 8 = 0) : xBp (xK xs) (xZ z) 11 8 [] xcL_thrown (xseek xcL_thrown 1078) [(0, .ref (B + 0)), (1, .long S), (3, .int (Int32.ofNat n0)), (4, .int u), (6, .int 1), (7, .int (Int32.ofNat k))] [] (xHn pre B N C L g) (xThrP pre B N0 g0 V H) := by
  have hl := xts_len h
  have hlen := xHn_len (g := g) (N := N) (C := C) (L := L) hB
  obtain ⟨r1, h1, run1, rfl, T1⟩ := xs_binit (K := xK xs) (z := z) (h0 := xHn pre B N C L g) (by omega)
  have l1 : h1.length < 999800 := by obtain ⟨v, ml, bs, -, -, -, -, -, q, -⟩ := T1; omega
  obtain ⟨r2, h2, run2, rfl, T2⟩ := xb_str (z := z) T1 (xCK (xs := xs)) (by decide) (by omega)
  have l2 : h2.length < 999800 := by obtain ⟨v, ml, bs, -, -, -, -, -, q, -⟩ := T2; omega
  have d1 := xDg_le (n := k) (by omega)
  obtain ⟨r3, h3, run3, rfl, T3⟩ := xb_int (xs := xs) (z := z) T2 (n := k) (by omega) (by rw [List.length_append]; show 0 + 19 + _ ≤ 100; omega) (by omega)
  have l3 : h3.length < 999800 := by obtain ⟨v, ml, bs, -, -, -, -, -, q, -⟩ := T3; omega
  obtain ⟨p, h5, run5, ⟨b, v2, v3, ⟨p1, p2⟩, p3, p4, p5⟩, -, q1, q2, q3, q4⟩ := xb_toString (K := xK xs) (z := z) T3 (xtxt_lt.2 k hk).1 (by omega)
  obtain ⟨e, rfl, hgr⟩ := xHn_ext q1 q2 q3 q4
  have hst : xStB (xK xs) pre B N C L (g ++ e) p (xtxC k) := ⟨b, v2, v3, ⟨by omega, by omega⟩, p3, p4, p5⟩
  have hT : xTwn pre B N0 g0 V H (m + 6) N C L (g ++ e) := ⟨h.1, h.2.1, xln_keep hB h.2.2.1 e (fun _ => rfl) (fun _ => rfl), xGr_trans h.2.2.2 hgr⟩
  obtain ⟨N1, C1, g1, run6, hT1, e8, f0, f1, f2, f3⟩ := xt_runC hB hz hV9 hF hT hk hlt (xStB_str hB hst) (by omega)
  have hl1 := xts_len hT1
  have c7 := xl_isFive (K := xK xs) (Z := xZ z) (N := N1) (C := C1) (L := L) (g := g1) hB f0 f1 f2 (by decide) f3 (by omega)
  have c8 := xl_fault (K := xK xs) (Z := xZ z) (N := N1) (C := C1) (L := L) (g := g1) hB (by rw [e8, h8]; decide) (by omega)
  rw [e8, h8] at c8
  have c9 := xo_undoCount_ (K := xK xs) (Z := xZ z) (N := N1) (C := C1) (L := L) (g := g1) hB
  rw [hT1.1.2.2.2.1, ← hu] at c9
  obtain ⟨N2, L2, g2, c10, hq2, hl2, hgr2⟩ := xl_asks (xs := xs) hB hz hT1.2.1 (by omega) hH hT1.2.2.1 (by omega)
  have h88 := hF.2.1.2
  rw [xsm_ask hT1.1.1 (by rw [hF.1.1, (xi_ofNat (n := n0) (by omega)).2.1]; exact h88), ← hS0] at c10
  have cell : ∀ {h : xH} {m : Nat} {s : List Nat}, xTb (xHn pre B N C L g) h m (xHn pre B N C L g).length s → ∃ vs, xcell (xK xs) h (xHn pre B N C L g).length = some (1, vs) := by
    intro h m s T
    obtain ⟨v, ml, bs, hS, -⟩ := T
    exact ⟨_, (xSb_cell hS).1⟩
  obtain ⟨vs1, hc1⟩ := cell T1
  obtain ⟨vs2, hc2⟩ := cell T2
  obtain ⟨vs3, hc3⟩ := cell T3
  refine xp_step rfl ?_
  refine xp_newo (by omega) ?_
  refine xp_step rfl ?_
  refine xp_spec2 rfl (Nat.le_of_ble_eq_true rfl) rfl (xR_up (by decide) run1) ?_
  refine xp_step rfl ?_
  refine xp_virtK hc1 rfl (Nat.le_of_ble_eq_true rfl) rfl (xR_up (by decide) run2) ?_
  refine xp_step rfl ?_
  refine xp_virtK hc2 rfl (Nat.le_of_ble_eq_true rfl) rfl (xR_up (by decide) run3) ?_
  refine xp_virtK hc3 rfl (Nat.le_of_ble_eq_true rfl) rfl (xR_up (by decide) run5) ?_
  refine xp_callR rfl (xR_up (by decide) (run6)) ?_
  refine xp_step rfl ?_
  refine xp_if2 rfl (fun q => absurd q (by decide)) (fun _ => ?_)
  refine xp_step rfl ?_
  refine xp_step rfl ?_
  refine xp_step rfl ?_
  refine xp_step rfl ?_
  refine xp_callR rfl (xR_up (by decide) (c7)) ?_
  refine xp_if1 rfl (fun q => absurd q (by decide)) (fun _ => ?_)
  refine xp_step rfl ?_
  refine xp_callR rfl (xR_up (by decide) (c8)) ?_
  refine xp_if1 rfl (fun q => absurd q (by decide)) (fun _ => ?_)
  refine xp_step rfl ?_
  refine xp_virt (i := 0) hB (by decide) rfl rfl (Nat.le_of_ble_eq_true rfl) rfl (xR_up (by decide) (c9)) ?_
  refine xp_step rfl ?_
  refine xp_if2 rfl (fun q => absurd rfl (show ¬ u = u by simpa [xic] using q)) (fun _ => ?_)
  refine xp_step rfl ?_
  refine xp_callR rfl (xR_up (by decide) (c10)) ?_
  refine xp_step rfl ?_
  refine xp_step (st1 := [.int 0]) (show xjj (fun x y => .int (lg_cmp x y)) _ [.long S, .long S] _ = _ by
    unfold xjj
    dsimp only
    rw [xlcmp_same]
    rfl) ?_
  refine xp_if1 rfl (fun q => absurd q (by decide)) (fun _ => ?_)
  refine xp_step rfl ?_
  refine xp_jump rfl ?_
  exact xp_ret rfl ⟨fun v q => by cases q; rfl, rfl, N2, C1, L2, g2, rfl, xKp_trans hT1.1 (xKp_qy hq2), xQy_ob hq2 hT1.2.1, hl2, xGr_mono (xGr_trans hT1.2.2.2 hgr2) (by omega)⟩
set_option maxRecDepth 20000 in
theorem xs_thZ1 (hz : z.category = 1) (hB : xBok pre B) (hV : V ≤ 1000000) (hF : xThF N0 n0 p0 h0) (hm : m ≤ 500) (hg : B + 253 + g0.length < 998000) (h : xTwn pre B N0 g0 V H m N C L g) (hV9 : V ≤ 900000) (hH : H ≤ 1000000) {k : Nat} (hk : k < 51) (hlt : N0 4 3 = Int32.ofNat k) (hu : u = N0 58 2) (hS0 : S = xAsk N0) : xBp (xK xs) (xZ z) 11 8 [] xcL_thrown (xseek xcL_thrown 1029) [(0, .ref (B + 0)), (1, .long S), (3, .int (Int32.ofNat n0)), (4, .int u), (6, .int 1), (7, .int (Int32.ofNat k))] [] (xHn pre B N C L g) (xThrP pre B N0 g0 V H) := by
  obtain ⟨N1, g1, run1, h1, e81⟩ := xt_runQ (xs := xs) hB hz h (by omega)
  have hl1 := xts_len h1
  have c1 := xl_fault (K := xK xs) (Z := xZ z) (N := N1) (C := C) (L := L) (g := g1) hB (by rw [e81]; decide) (by omega)
  rw [e81] at c1
  obtain ⟨N2, C2, g2, run2, h2, e82, f0, f1, f2, f3⟩ := xt_runG (xs := xs) hB hz hV9 hF h1 (by omega)
  have hl2 := xts_len h2
  have c2 := xl_isFive (K := xK xs) (Z := xZ z) (N := N2) (C := C2) (L := L) (g := g2) hB f0 f1 f2 (by decide) f3 (by omega)
  refine xp_step rfl ?_
  refine xp_if1 rfl (fun q => absurd q (by decide)) (fun _ => ?_)
  refine xp_step rfl ?_
  refine xp_step rfl ?_
  refine xp_callR rfl (xR_up (by decide) (run1)) ?_
  refine xp_step rfl ?_
  refine xp_if2 rfl (fun q => absurd q (by decide)) (fun _ => ?_)
  refine xp_step rfl ?_
  refine xp_callR rfl (xR_up (by decide) (c1)) ?_
  refine xp_if1 rfl (fun q => absurd q (by decide)) (fun _ => ?_)
  refine xp_step rfl ?_
  refine xp_step rfl ?_
  refine xp_callR rfl (xR_up (by decide) (run2)) ?_
  refine xp_step rfl ?_
  refine xp_if2 rfl (fun q => absurd q (by decide)) (fun _ => ?_)
  refine xp_step rfl ?_
  refine xp_step rfl ?_
  refine xp_step rfl ?_
  refine xp_step rfl ?_
  refine xp_callR rfl (xR_up (by decide) (c2)) ?_
  refine xp_if1 rfl (fun q => absurd q (by decide)) (fun _ => ?_)
  exact xs_thZ2 hz hB hV hF (by omega) hg h2 hV9 hH hk hlt hu hS0 (e82.trans e81)
set_option maxRecDepth 20000 in
/-- THROWN answers true, and leaves all as it was -/
theorem xl_thrown (hB : xBok pre B) (hz : z.category = 1) (hO : xOb N V H) (hV : V ≤ 900000) (hH : H ≤ 48) (hn : N 1 2 = Int32.ofNat n0) (hn1 : 1 ≤ n0) (hn8 : n0 ≤ 8) (hl : xLn pre B N C L g) (hg : B + 253 + g.length < 997000) :
    ∃ N' C' L' g', xRn (xK xs) (xZ z) 12 243 [.ref (B + 0)] (xHn pre B N C L g) (.ok (some (.int 1))) (xHn pre B N' C' L' g') ∧ xTwn pre B N g V H 900 N' C' L' g' := by
  obtain ⟨n, p, t, ⟨e2, e3, e4⟩, ⟨a2, a3, a4⟩, hR, -⟩ := id hO.1
  obtain rfl : n = n0 := by
    have h1 := congrArg Int32.toNatClampNeg (e2.symm.trans hn)
    rw [(xi_ofNat (n := n) (by omega)).2.1] at h1
    rw [(xi_ofNat (n := n0) (by omega)).2.1] at h1
    exact h1
  have hF : xThF N n p t := ⟨⟨e2, e3, e4⟩, ⟨hn1, a2⟩, a3, by omega⟩
  obtain ⟨-, -, -, ⟨k, ek, -, hk⟩, -⟩ := hR 0 (by omega)
  obtain ⟨N1, L1, g1, c1, hq1, hl1, hgr1⟩ := xl_asks (xs := xs) hB hz hO (by omega) (by omega) hl (by omega)
  have h1 : xTwn pre B N g V H 130 N1 C L1 g1 := ⟨xKp_qy hq1, xQy_ob hq1 hO, hl1, hgr1⟩
  have c2 := xo_reachCount_ (K := xK xs) (Z := xZ z) (N := N1) (C := C) (L := L1) (g := g1) hB
  rw [h1.1.1.1 2 (by decide) (by decide), e2] at c2
  have c3 := xo_undoCount_ (K := xK xs) (Z := xZ z) (N := N1) (C := C) (L := L1) (g := g1) hB
  rw [h1.1.2.2.2.1] at c3
  have c4 := xo_hour_ (K := xK xs) (Z := xZ z) (N := N1) (C := C) (L := L1) (g := g1) hB
  rw [h1.1.1.1 4 (by decide) (by decide), e4] at c4
  have goal : xRp (xK xs) (xZ z) 12 243 [.ref (B + 0)] (xHn pre B N C L g) (fun r h' => r = .ok (some (.int 1)) ∧ ∃ N' C' L' g', h' = xHn pre B N' C' L' g' ∧ xTwn pre B N g V H 900 N' C' L' g') := by
    refine xRp_of (m := (yL_thrown, cL_thrown, 8, (some .boolean), [], [], xcL_thrown)) rfl (by show 1 ≤ 8; decide) ?_
    show xBp (xK xs) (xZ z) 11 8 [] xcL_thrown xcL_thrown [(0, .ref (B + 0))] [] _ (xThrP pre B N g V H)
    refine xp_step rfl ?_
    refine xp_callR rfl (xR_up (by decide) (c1)) ?_
    refine xp_step rfl ?_
    refine xp_step rfl ?_
    refine xp_virt (i := 0) hB (by decide) rfl rfl (Nat.le_of_ble_eq_true rfl) rfl (xR_up (by decide) (c2)) ?_
    refine xp_step rfl ?_
    refine xp_step rfl ?_
    refine xp_virt (i := 0) hB (by decide) rfl rfl (Nat.le_of_ble_eq_true rfl) rfl (xR_up (by decide) (c3)) ?_
    refine xp_step rfl ?_
    refine xp_step rfl ?_
    refine xp_virt (i := 0) hB (by decide) rfl rfl (Nat.le_of_ble_eq_true rfl) rfl (xR_up (by decide) (c4)) ?_
    refine xp_step rfl ?_
    refine xp_weak ?_ (xs_th1 (n0 := n) (p0 := p) (h0 := t) (u := N 58 2) (S := xAsk N) hB (by omega) hF (by omega) (by omega) h1 (fun N2 g2 h2 => ?_))
    · exact xLe_cons rfl (xLe_cons rfl (xLe_cons rfl (xLe_cons rfl (xLe_cons rfl xLe_nil))))
    refine xs_th2 hB (by omega) hF (by omega) (by omega) h2 (fun N3 g3 h3 => ?_)
    refine xs_th3 hB (by omega) hF (by omega) (by omega) h3 (fun N4 g4 h4 => ?_)
    refine xs_th4 hB (by omega) hF (by omega) (by omega) h4 (fun N5 g5 h5 => ?_)
    refine xs_th5 hB (by omega) hF (by omega) (by omega) h5 (fun N6 g6 h6 => ?_)
    refine xs_th6 hB (by omega) hF (by omega) (by omega) h6 (fun N7 g7 h7 => ?_)
    refine xp_step rfl ?_
    refine xp_step rfl ?_
    refine xp_weak ?_ (xs_thL (m := 169) (u := N 58 2) (S := xAsk N) hB (by omega) hF (by omega) hR (by omega) (fun N8 g8 h8 => ?_) n 0 N7 g7 (by omega) (xts_mono h7 (by omega)))
    · exact xLe_cons rfl (xLe_cons rfl (xLe_cons rfl (xLe_cons rfl (xLe_cons rfl (xLe_cons rfl (xLe_cons rfl xLe_nil))))))
    refine xs_thM hB (by omega) hF (by omega) (by omega) h8 ek ⟨k, rfl, by omega, hk⟩ ?_
    refine xs_thE1 hB (by omega) hF (by omega) (by omega) h8 ek ⟨k, rfl, by omega, hk⟩ (fun N9 g9 h9 d9 => ?_)
    refine xs_thE2 hB (by omega) hF (by omega) (by omega) h9 ek ⟨k, rfl, by omega, hk⟩ d9 (fun NA gA hA => ?_)
    exact xs_thZ1 hz hB (by omega) hF (by omega) (by omega) hA hV (by omega) (by omega) ek rfl rfl
  obtain ⟨r, h', hrun, rfl, N', C', L', g', rfl, hh⟩ := goal
  exact ⟨N', C', L', g', hrun, hh⟩
end XTHZ
