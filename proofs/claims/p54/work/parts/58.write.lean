/-! A REACH WRITTEN -/
/-- the text of a reach: its number, volume, surface, level, status, rule, opening -/
def xTxt (r vv ss ll st cc oo : Nat) : List Nat := xDg r ++ 61 :: (xDg vv ++ 47 :: (xDg ss ++ 64 :: (xDg ll ++ (List.replicate st 33 ++ 32 :: cc :: xDg oo))))
theorem xDg_le {n : Nat} (h : n < 10000000) : (xDg n).length ≤ 7 := by
  rw [xDg_len h]
  repeat' split
  all_goals omega
theorem xNe_sta {N N' : Nat → Nat → Int32} (h : xNe N N') {i : Nat} (hi : i < 251) : xsta N' i = xsta N i := by
  unfold xsta
  rw [h i 4 (by omega) (by omega), h i 5 (by omega) (by omega), h i 6 (by omega) (by omega), h i 0 (by omega) (by omega)]
theorem xNe_has {N N' : Nat → Nat → Int32} (h : xNe N N') {w : Nat} (hw : w < 251) (x : Int32) : xhas N' w x = xhas N w x := by
  unfold xhas
  rw [h w 2 (by omega) (by omega)]
theorem xNe_open {N N' : Nat → Nat → Int32} (h : xNe N N') {x : Int32} (hx : xhas N 1 x = true) : xfOpen N' 1 x = xfOpen N 1 x := by
  unfold xhas at hx
  simp only [Bool.and_eq_true, decide_eq_true_eq] at hx
  have i2 := (xin8 hx.1 hx.2.2).2
  unfold xfOpen
  rw [xNe_has h (by decide), xNe_sta h (i := 1 + 3 + x.toNatClampNeg) (by omega), h _ 8 (by omega) (by omega), h _ 7 (by omega) (by omega)]
  cases hb : xhas N 1 (x + 1) with
  | false => simp
  | true =>
    unfold xhas at hb
    simp only [Bool.and_eq_true, decide_eq_true_eq] at hb
    have i3 := (xin8 hb.1 hb.2.2).2
    rw [xNe_sta h (i := 1 + 3 + (x + 1).toNatClampNeg) (by omega)]
section XWR
variable {xs : List Int32} {z : Value} {pre g : xH} {B L cnt : Nat} {N : Nat → Nat → Int32} {C : Nat → Nat} {bs : List Int32} {P : xA → xH → Prop}
theorem xo_write_ (hB : xBok pre B) (hl : xLin pre B N C L g cnt bs) {r vv ss ll st cc oo : Nat} (hr : r < 8) (hh : xhas N 1 (Int32.ofNat r) = true) (hv : N (1 + 3 + r) 4 = Int32.ofNat vv ∧ vv < 10000000) (hs : N (1 + 3 + r) 0 = Int32.ofNat ss ∧ ss < 10000000) (hlv : xlvl (N (1 + 3 + r) 0) (N (1 + 3 + r) 4) = Int32.ofNat ll ∧ ll < 10000000) (hst : xsta N (1 + 3 + r) = Int32.ofNat st ∧ st < 3) (hc : N (1 + 3 + r) 8 = Int32.ofNat cc ∧ cc < 128) (ho : xfOpen N 1 (Int32.ofNat r) = Int32.ofNat oo ∧ oo < 10000000) (hg : B + 253 + g.length < 999900) :
    xRp (xK xs) (xZ z) 8 100 [.ref (B + 0), .int (Int32.ofNat r)] (xHn pre B N C L g) (fun rr h' => rr = .ok (some (.int (Int32.ofNat (xTxt r vv ss ll st cc oo).length))) ∧ ∃ N' L' g' bs', h' = xHn pre B N' C L' g' ∧ (xNe N N' ∧ (xLin pre B N' C L' g' (xTxt r vv ss ll st cc oo).length bs' ∧ (xGr g g' 13 ∧ bs'.take (xTxt r vv ss ll st cc oo).length = (xTxt r vv ss ll st cc oo).map Int32.ofNat)))) := by
  have hrow := xs_row (K := xK xs) (Z := xZ z) (N := N) (L := L) (C := C) (g := g) hB (show 1 ∈ xRbs by decide) (Int32.ofNat r) (by omega)
  rw [if_pos hh, if_pos hh, (xi_ofNat (n := r) (by omega)).2.1] at hrow
  obtain ⟨c1, c2, c3⟩ := xrb_reach 1 (by decide) r hr
  have d1 := xDg_le (n := r) (by omega)
  have d2 := xDg_le hv.2
  have d3 := xDg_le hs.2
  have d4 := xDg_le hlv.2
  have d5 := xDg_le ho.2
  generalize hT : xTxt r vv ss ll st cc oo = T
  have hTl : T.length = (xDg r).length + (xDg vv).length + (xDg ss).length + (xDg ll).length + st + (xDg oo).length + 5 := by
    rw [← hT]
    unfold xTxt
    simp only [List.length_append, List.length_cons, List.length_replicate]
    omega
  -- the end: blank, rule, opening, length
  have tail : ∀ (N1 : Nat → Nat → Int32) (L1 : Nat) (g1 : xH) (bs1 : List Int32) (c1 : Nat), xNe N N1 → xLin pre B N1 C L1 g1 c1 bs1 → xGr g g1 10 → c1 + (xDg oo).length + 2 = T.length → (bs1.take c1 ++ [Int32.ofNat 32] ++ [Int32.ofNat cc] ++ (xDg oo).map Int32.ofNat = T.map Int32.ofNat) → xBp (xK xs) (xZ z) 7 4 [] xcX9_writeReach (xseek xcX9_writeReach 117) [(0, .ref (B + 0)), (2, .ref (B + (1 + 3 + r))), (1, .int (Int32.ofNat r))] [] (xHn pre B N1 C L1 g1) (fun rr h' => (∀ v, rr = .ok v → xrfit (some .int) v = true) ∧ (rr = .ok (some (.int (Int32.ofNat T.length))) ∧ ∃ N' L' g' bs', h' = xHn pre B N' C L' g' ∧ (xNe N N' ∧ (xLin pre B N' C L' g' T.length bs' ∧ (xGr g g' 13 ∧ bs'.take T.length = T.map Int32.ofNat))))) := by
    intro N1 L1 g1 bs1 k1 hne1 hl1 hg1 hlen htx
    have hT100 : T.length ≤ 100 := by omega
    have hgl := hg1.2.1
    refine xp_step rfl ?_
    refine xp_ref hB (i := 0) (k := 6) (q := 251) (by decide) rfl (by decide) rfl ?_
    refine xp_step rfl ?_
    refine xp_lchar (n := 32) (by decide) hB hl1 (by decide) (by omega) (by omega) (fun N2 L2 g2 bs2 hne2 hl2 hg2 ht2 => ?_)
    have hgl2 := hg2.2.1
    refine xp_step rfl ?_
    refine xp_ref hB (i := 0) (k := 6) (q := 251) (by decide) rfl (by decide) rfl ?_
    refine xp_step rfl ?_
    refine xp_get hB c2 c1 (by decide) (c3 _ (by decide)) ?_
    rw [show N2 (1 + 3 + r) 8 = Int32.ofNat cc from by rw [hne2 _ _ (by omega) (by omega), hne1 _ _ (by omega) (by omega)]; exact hc.1]
    refine xp_lchar (n := cc) (by decide) hB hl2 hc.2 (by omega) (by omega) (fun N3 L3 g3 bs3 hne3 hl3 hg3 ht3 => ?_)
    have hgl3 := hg3.2.1
    have hne123 := xNe_trans hne1 (xNe_trans hne2 hne3)
    have hop := xs_open (K := xK xs) (Z := xZ z) (N := N3) (L := L3) (C := C) (g := g3) hB (show 1 ∈ xRbs by decide) (Int32.ofNat r) (by rw [xNe_has hne123 (by decide)]; exact hh) (by omega)
    rw [xNe_open hne123 hh, ho.1] at hop
    refine xp_step rfl ?_
    refine xp_ref hB (i := 0) (k := 6) (q := 251) (by decide) rfl (by decide) rfl ?_
    refine xp_step rfl ?_
    refine xp_ref hB (i := 0) (k := 0) (q := 1) (by decide) rfl (by decide) rfl ?_
    refine xp_step rfl ?_
    refine xp_virt (i := 1) hB (by decide) rfl rfl (Nat.le_of_ble_eq_true rfl) rfl (xR_up (by decide) hop) ?_
    refine xp_lint (by decide) hB hl3 ho.2 (by omega) (by omega) (fun N4 L4 g4 bs4 hne4 hl4 hg4 ht4 => ?_)
    have e4 : k1 + 1 + 1 + (xDg oo).length = T.length := by omega
    rw [e4] at hl4 ht4
    refine xp_step rfl ?_
    refine xp_ref hB (i := 0) (k := 6) (q := 251) (by decide) rfl (by decide) rfl ?_
    refine xp_virtK (xli_cell hl4) rfl (Nat.le_of_ble_eq_true rfl) rfl (xR_up (by decide) (xo_blen hl4.1)) ?_
    refine xp_ret rfl ⟨fun v q => by cases q; rfl, rfl, N4, L4, g4, bs4, rfl, xNe_trans hne123 hne4, hl4, xGr_trans hg1 (xGr_trans hg2 (xGr_trans hg3 hg4)), ?_⟩
    rw [ht4, ht3, ht2]
    exact htx
  refine xRp_of (m := (yX9_writeReach, cX9_writeReach, 4, (some .int), [], [], xcX9_writeReach)) rfl (by show 2 ≤ 4; decide) ?_
  show xBp (xK xs) (xZ z) 7 4 [] xcX9_writeReach xcX9_writeReach [(0, .ref (B + 0)), (1, .int (Int32.ofNat r))] [] _ _
  refine xp_step rfl ?_
  refine xp_ref hB (i := 0) (k := 0) (q := 1) (by decide) rfl (by decide) rfl ?_
  refine xp_step rfl ?_
  refine xp_virt (i := 1) hB (by decide) rfl rfl (Nat.le_of_ble_eq_true rfl) rfl (xR_up (by decide) hrow) ?_
  refine xp_step rfl ?_
  refine xp_step rfl ?_
  refine xp_ref hB (i := 0) (k := 6) (q := 251) (by decide) rfl (by decide) rfl ?_
  refine xp_step rfl ?_
  refine xp_lzero (by decide) hB hl (by omega) (fun N0 L0 g0 bs0 hne0 hl0 hg0 => ?_)
  have hgl0 := hg0.2.1
  refine xp_step rfl ?_
  refine xp_ref hB (i := 0) (k := 6) (q := 251) (by decide) rfl (by decide) rfl ?_
  refine xp_step rfl ?_
  refine xp_lint (n := r) (by decide) hB hl0 (by omega) (by omega) (by omega) (fun N1 L1 g1 bs1 hne1 hl1 hg1 ht1 => ?_)
  have hgl1 := hg1.2.1
  refine xp_step rfl ?_
  refine xp_ref hB (i := 0) (k := 6) (q := 251) (by decide) rfl (by decide) rfl ?_
  refine xp_step rfl ?_
  refine xp_lchar (n := 61) (by decide) hB hl1 (by decide) (by omega) (by omega) (fun N2 L2 g2 bs2 hne2 hl2 hg2 ht2 => ?_)
  have hgl2 := hg2.2.1
  refine xp_step rfl ?_
  refine xp_ref hB (i := 0) (k := 6) (q := 251) (by decide) rfl (by decide) rfl ?_
  refine xp_step rfl ?_
  refine xp_get hB c2 c1 (by decide) (c3 _ (by decide)) ?_
  have hn2 := xNe_trans hne0 (xNe_trans hne1 hne2)
  rw [show N2 (1 + 3 + r) 4 = Int32.ofNat vv from by rw [hn2 _ _ (by omega) (by omega)]; exact hv.1]
  refine xp_lint (n := vv) (by decide) hB hl2 hv.2 (by omega) (by omega) (fun N3 L3 g3 bs3 hne3 hl3 hg3 ht3 => ?_)
  have hgl3 := hg3.2.1
  refine xp_step rfl ?_
  refine xp_ref hB (i := 0) (k := 6) (q := 251) (by decide) rfl (by decide) rfl ?_
  refine xp_step rfl ?_
  refine xp_lchar (n := 47) (by decide) hB hl3 (by decide) (by omega) (by omega) (fun N4 L4 g4 bs4 hne4 hl4 hg4 ht4 => ?_)
  have hgl4 := hg4.2.1
  refine xp_step rfl ?_
  refine xp_ref hB (i := 0) (k := 6) (q := 251) (by decide) rfl (by decide) rfl ?_
  refine xp_step rfl ?_
  refine xp_get hB c2 c1 (by decide) (c3 _ (by decide)) ?_
  have hn4 := xNe_trans hn2 (xNe_trans hne3 hne4)
  rw [show N4 (1 + 3 + r) 0 = Int32.ofNat ss from by rw [hn4 _ _ (by omega) (by omega)]; exact hs.1]
  refine xp_lint (n := ss) (by decide) hB hl4 hs.2 (by omega) (by omega) (fun N5 L5 g5 bs5 hne5 hl5 hg5 ht5 => ?_)
  have hgl5 := hg5.2.1
  refine xp_step rfl ?_
  refine xp_ref hB (i := 0) (k := 6) (q := 251) (by decide) rfl (by decide) rfl ?_
  refine xp_step rfl ?_
  refine xp_lchar (n := 64) (by decide) hB hl5 (by decide) (by omega) (by omega) (fun N6 L6 g6 bs6 hne6 hl6 hg6 ht6 => ?_)
  have hgl6 := hg6.2.1
  have hn6 := xNe_trans hn4 (xNe_trans hne5 hne6)
  have hlev := xs_level (K := xK xs) (Z := xZ z) (N := N6) (L := L6) (C := C) (g := g6) hB (show 1 ∈ xRbs by decide) hr
  rw [hn6 (1 + 3 + r) 0 (by omega) (by omega), hn6 (1 + 3 + r) 4 (by omega) (by omega), hlv.1] at hlev
  refine xp_step rfl ?_
  refine xp_ref hB (i := 0) (k := 6) (q := 251) (by decide) rfl (by decide) rfl ?_
  refine xp_step rfl ?_
  refine xp_virt (i := 1 + 3 + r) hB c2 c1 rfl (Nat.le_of_ble_eq_true rfl) rfl (xR_up (by decide) hlev) ?_
  refine xp_lint (n := ll) (by decide) hB hl6 hlv.2 (by omega) (by omega) (fun N7 L7 g7 bs7 hne7 hl7 hg7 ht7 => ?_)
  have hgl7 := hg7.2.1
  have hn7 := xNe_trans hn6 hne7
  have hsts := xs_status (K := xK xs) (Z := xZ z) (N := N7) (L := L7) (C := C) (g := g7) hB (show 1 ∈ xRbs by decide) hr
  rw [xNe_sta hn7 (by omega), hst.1] at hsts
  refine xp_step rfl ?_
  refine xp_virt (i := 1 + 3 + r) hB c2 c1 rfl (Nat.le_of_ble_eq_true rfl) rfl (xR_up (by decide) hsts) ?_
  refine xp_step rfl ?_
  have hg07 : xGr g g7 8 := xGr_trans hg0 (xGr_trans hg1 (xGr_trans hg2 (xGr_trans hg3 (xGr_trans hg4 (xGr_trans hg5 (xGr_trans hg6 hg7))))))
  have hpre : bs7.take (0 + (xDg r).length + 1 + (xDg vv).length + 1 + (xDg ss).length + 1 + (xDg ll).length) = (xDg r ++ 61 :: (xDg vv ++ 47 :: (xDg ss ++ 64 :: xDg ll))).map Int32.ofNat := by
    rw [ht7, ht6, ht5, ht4, ht3, ht2, ht1]
    simp [List.map_append]
  generalize hk7 : 0 + (xDg r).length + 1 + (xDg vv).length + 1 + (xDg ss).length + 1 + (xDg ll).length = k7 at hl7 hpre
  have hst3 : st = 0 ∨ st = 1 ∨ st = 2 := by omega
  rcases hst3 with rfl | rfl | rfl
  · refine xp_step rfl ?_
    refine xp_jump rfl ?_
    refine xp_weak ?_ (tail N7 L7 g7 bs7 k7 hn7 hl7 (by obtain ⟨a, b, c⟩ := hg07; exact ⟨a, by omega, by omega⟩) (by omega) ?_)
    · exact xLe_cons rfl (xLe_cons rfl (xLe_cons rfl xLe_nil))
    · rw [hpre, ← hT]
      unfold xTxt
      simp [List.map_append]
  · refine xp_step rfl ?_
    refine xp_step rfl ?_
    refine xp_step rfl ?_
    refine xp_ref hB (i := 0) (k := 6) (q := 251) (by decide) rfl (by decide) rfl ?_
    refine xp_step rfl ?_
    refine xp_lchar (n := 33) (by decide) hB hl7 (by decide) (by omega) (by omega) (fun N8 L8 g8 bs8 hne8 hl8 hg8 ht8 => ?_)
    refine xp_step rfl ?_
    refine xp_jump rfl ?_
    refine xp_step rfl ?_
    refine xp_jump rfl ?_
    have hg08 : xGr g g8 9 := xGr_trans hg07 hg8
    refine xp_weak ?_ (tail N8 L8 g8 bs8 (k7 + 1) (xNe_trans hn7 hne8) hl8 (by obtain ⟨a, b, c⟩ := hg08; exact ⟨a, by omega, by omega⟩) (by omega) ?_)
    · exact xLe_cons rfl (xLe_cons rfl (xLe_cons rfl xLe_nil))
    · rw [ht8, hpre, ← hT]
      unfold xTxt
      simp [List.map_append, List.replicate]
  · refine xp_step rfl ?_
    refine xp_step rfl ?_
    refine xp_step rfl ?_
    refine xp_ref hB (i := 0) (k := 6) (q := 251) (by decide) rfl (by decide) rfl ?_
    refine xp_step rfl ?_
    refine xp_lchar (n := 33) (by decide) hB hl7 (by decide) (by omega) (by omega) (fun N8 L8 g8 bs8 hne8 hl8 hg8 ht8 => ?_)
    have hgl8 := hg8.2.1
    refine xp_step rfl ?_
    refine xp_jump rfl ?_
    refine xp_step rfl ?_
    refine xp_step rfl ?_
    refine xp_step rfl ?_
    refine xp_ref hB (i := 0) (k := 6) (q := 251) (by decide) rfl (by decide) rfl ?_
    refine xp_step rfl ?_
    refine xp_lchar (n := 33) (by decide) hB hl8 (by decide) (by omega) (by omega) (fun N9 L9 g9 bs9 hne9 hl9 hg9 ht9 => ?_)
    refine xp_step rfl ?_
    refine xp_jump rfl ?_
    refine xp_step rfl ?_
    refine xp_jump rfl ?_
    have hg09 : xGr g g9 10 := xGr_trans hg07 (xGr_trans hg8 hg9)
    refine xp_weak ?_ (tail N9 L9 g9 bs9 (k7 + 1 + 1) (xNe_trans hn7 (xNe_trans hne8 hne9)) hl9 hg09 (by omega) ?_)
    · exact xLe_cons rfl (xLe_cons rfl (xLe_cons rfl xLe_nil))
    · rw [ht9, ht8, hpre, ← hT]
      unfold xTxt
      simp [List.map_append, List.replicate]
theorem xo_writeE_ (hB : xBok pre B) (x : Int32) (hh : xhas N 1 x = false) (hg : B + 253 + g.length < 1000000) : xRn (xK xs) (xZ z) 8 100 [.ref (B + 0), .int x] (xHn pre B N C L g) (.error (0, B + 253 + g.length)) (xHn pre B N C L (xgx g)) := by
  have hrow := xs_row (K := xK xs) (Z := xZ z) (N := N) (L := L) (C := C) (g := g) hB (show 1 ∈ xRbs by decide) x hg
  rw [if_neg (by rw [hh]; decide), if_neg (by rw [hh]; decide)] at hrow
  refine xRp_eq ?_
  refine xRp_of (m := (yX9_writeReach, cX9_writeReach, 4, (some .int), [], [], xcX9_writeReach)) rfl (by show 2 ≤ 4; decide) ?_
  show xBp (xK xs) (xZ z) 7 4 [] xcX9_writeReach xcX9_writeReach [(0, .ref (B + 0)), (1, .int x)] [] _ _
  refine xp_step rfl ?_
  refine xp_ref hB (i := 0) (k := 0) (q := 1) (by decide) rfl (by decide) rfl ?_
  refine xp_step rfl ?_
  exact xp_virtP (i := 1) hB (by decide) rfl rfl (Nat.le_of_ble_eq_true rfl) rfl (xR_up (by decide) hrow) rfl ⟨fun v q => (nomatch q), rfl, rfl⟩
end XWR
