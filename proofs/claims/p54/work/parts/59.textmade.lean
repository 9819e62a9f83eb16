/-! TEXTS BUILT: strings put together from constants and numbers -/
/-- a constant string -/
def xStK (K : List (Nat × List Value)) (sa : Nat) (s : List Nat) : Prop := ∃ b v2 v3, (∀ h, xcell K h sa = some (0, [.ref b, .int 0, v2, v3])) ∧ (∀ h, xcell K h b = some (50, s.map fun n => .int (Int32.ofNat n))) ∧ 1000000 ≤ b ∧ (∀ n ∈ s, n < 128) ∧ s.length < 60
theorem xStK_of {K : List (Nat × List Value)} {sa : Nat} {s : List Nat} (h : xStK K sa s) (hh : xH) : xStr K hh sa s := by
  obtain ⟨b, v2, v3, h1, h2, -, h4, h5⟩ := h
  exact ⟨b, v2, v3, h1 hh, h2 hh, h4, by omega⟩
/-- a text in the making: all of it made after h0 -/
def xTb (h0 h : xH) (m a : Nat) (s : List Nat) : Prop := ∃ v ml bs, xSb h a v ml s.length bs ∧ (bs.take s.length = s.map Int32.ofNat ∧ (h0.length ≤ a ∧ (h0.length ≤ v ∧ ((∀ q, q < h0.length → h[q]? = h0[q]?) ∧ (h.length ≤ h0.length + m ∧ xsz h ≤ xsz h0 + 300 * m)))))
theorem xTb_step {h0 h h' : xH} {m a v : Nat} {ml : Int32} {s t : List Nat} {bs : List Int32} (hbt : bs.take s.length = s.map Int32.ofNat) (ha : h0.length ≤ a) (hv : h0.length ≤ v) (hp : ∀ q, q < h0.length → h[q]? = h0[q]?) (hz : h.length ≤ h0.length + m ∧ xsz h ≤ xsz h0 + 300 * m) (hlt : a < h.length ∧ v < h.length) (hS : xSbP h a v ml s.length bs 1 (t.map Int32.ofNat) h') : xTb h0 h' (m + 1) a (s ++ t) := by
  obtain ⟨v', bs', h1, h2, ⟨⟨f1, f2, f3⟩, f4, f5, -⟩⟩ := hS
  rw [List.length_map] at h1 h2
  refine ⟨v', ml, bs', by rw [List.length_append]; exact h1, ?_, ha, by omega, fun q hq => ?_, by omega, Nat.le_trans f3 (Nat.le_trans (Nat.add_le_add_right hz.2 _) (Nat.le_of_eq (by rw [Nat.mul_add, Nat.add_assoc])))⟩
  · rw [List.length_append, h2, hbt, List.map_append]
  · rw [f4 q (by omega) (by omega) (by omega)]
    exact hp q hq
theorem xcpy_mid {bs : List Int32} {s : List Nat} {idx : Nat} (h : idx + s.length ≤ bs.length) : xcpy (s.map fun n => .int (Int32.ofNat n)) (bs.map .int) 0 idx s.length = (bs.take idx ++ (s.map Int32.ofNat ++ bs.drop (idx + s.length))).map Value.int := by
  apply List.ext_getElem?
  intro k
  unfold xcpy
  rw [List.length_map]
  by_cases hk : k < bs.length
  · rw [List.getElem?_map, List.getElem?_range hk, List.getElem?_map]
    dsimp only [Option.map_some]
    by_cases h1 : k < idx
    · rw [if_neg (by omega), List.getElem?_append_left (by rw [List.length_take]; omega), List.getElem?_take_of_lt h1, List.getD_eq_getElem?_getD, List.getElem?_map, List.getElem?_eq_getElem hk]
      rfl
    · by_cases h2 : k < idx + s.length
      · rw [if_pos (by omega), List.getElem?_append_right (by rw [List.length_take]; omega), List.getElem?_append_left (by rw [List.length_take, List.length_map]; omega), List.length_take, Nat.min_eq_left (by omega), List.getElem?_map, List.getD_eq_getElem?_getD, List.getElem?_map, Nat.zero_add, List.getElem?_eq_getElem (by omega)]
        rfl
      · rw [if_neg (by omega), List.getElem?_append_right (by rw [List.length_take]; omega), List.getElem?_append_right (by rw [List.length_take, List.length_map]; omega), List.length_take, List.length_map, Nat.min_eq_left (by omega), List.getElem?_drop, show idx + s.length + (k - idx - s.length) = k from by omega, List.getD_eq_getElem?_getD, List.getElem?_map, List.getElem?_eq_getElem hk]
        rfl
  · rw [List.getElem?_eq_none (by rw [List.length_map, List.length_range]; omega), List.getElem?_eq_none (by rw [List.length_map, List.length_append, List.length_append, List.length_take, List.length_map, List.length_drop]; omega)]
section XTE
variable {xs : List Int32} {z : Value} {K : List (Nat × List Value)} {Z : List Value} {d nL : Nat} {P : xA → xH → Prop} {h h0 h2 : xH} {a v cnt m : Nat} {ml : Int32} {bs : List Int32} {s t : List Nat} {hs : List (Nat × Nat × Nat × Nat)} {code cs : List xE} {loc : xL} {st : List Value}
theorem xp_newo {pc j ln ci : Nat} {aux : List Nat} (hl : h.length < 1000000) (hb : xBp K Z d nL hs code cs loc (.ref h.length :: st) (h ++ [(ci, xnew0 ci)]) P) : xBp K Z d nL hs code ((pc, .new j, ln, 0 :: ci :: aux) :: cs) loc st h P := by
  refine xp_step (loc1 := loc) (st1 := .ref h.length :: st) (h1 := h ++ [(ci, xnew0 ci)]) ?_ hb
  show xnewx loc st h 0 ci = _
  unfold xnewx xnew
  rw [decide_eq_true hl]
  rfl
/-- the builder's beginning -/
theorem xs_binit (hl : h0.length < 999000) : xRp K (xZ z) 3 154 [.ref h0.length] (h0 ++ [(1, xnew0 1)]) (fun r h' => r = .ok none ∧ xTb h0 h' 2 h0.length []) := by
  have ha : (h0 ++ [(1, xnew0 1)])[h0.length]? = some (1, [.null, .int 0, .int 0, .int 0]) := by
    rw [List.getElem?_append_right (Nat.le_refl _), Nat.sub_self]
    rfl
  have hlen : (h0 ++ [(1, xnew0 1)]).length = h0.length + 1 := by rw [List.length_append]; rfl
  have hin : xRp K (xZ z) 2 118 [.ref h0.length, .int 16] (h0 ++ [(1, xnew0 1)]) (fun r h' => r = .ok none ∧ xTb h0 h' 2 h0.length []) := by
    refine xRp_of (m := (yJ5_init_d00df, cJ5_init_d00df, 2, none, [], [], xcJ5_init_d00df)) rfl (by show 2 ≤ 2; decide) ?_
    show xBp K (xZ z) 1 2 [] xcJ5_init_d00df xcJ5_init_d00df [(0, .ref h0.length), (1, .int 16)] [] _ _
    refine xp_step rfl ?_
    refine xp_step rfl ?_
    refine xp_step rfl ?_
    refine xp_step rfl ?_
    refine xp_step rfl ?_
    refine xp_step rfl ?_
    refine xp_newb (n := 16) (by decide) (by omega) ?_
    have ha1 : (h0 ++ [(1, xnew0 1)] ++ [(50, List.replicate 16 (Value.int 0))])[h0.length]? = some (1, [.null, .int 0, .int 0, .int 0]) := by
      rw [List.getElem?_append_left (by omega)]
      exact ha
    refine xp_putH (by omega) ha1 (by decide) rfl ?_
    refine xp_step rfl ?_
    refine xp_step rfl ?_
    refine xp_putH (vs := [.ref (h0 ++ [(1, xnew0 1)]).length, .int 0, .int 0, .int 0]) (by omega) (by rw [List.getElem?_set_self (by rw [List.length_append, hlen]; omega)]; rfl) (Nat.le_of_ble_eq_true rfl) rfl ?_
    refine xp_jump rfl ?_
    rw [List.set_set]
    have hsz : ∀ x : Value, xsz ((h0 ++ [(1, xnew0 1)] ++ [(50, List.replicate 16 (Value.int 0))]).set h0.length (1, [x, .int 0, .int 0, .int 0])) = xsz h0 + 20 := by
      intro x
      rw [xsz_set (ws := [x, .int 0, .int 0, .int 0]) ha1 rfl, xsz_push, xsz_push]
      rfl
    refine xp_ret rfl ⟨fun v q => by cases q; rfl, rfl, (h0 ++ [(1, xnew0 1)]).length, 0, List.replicate 16 0, ⟨⟨by omega, by omega, by omega⟩, ?_, ?_, ⟨Nat.zero_le _, by decide⟩, ?_⟩, rfl, Nat.le_refl _, by omega, fun q hq => ?_, ?_, ?_⟩
    · show (List.set _ _ _)[h0.length]? = _
      rw [List.getElem?_set_self (by rw [List.length_append, hlen]; omega)]
      rfl
    · show (List.set _ _ _)[(h0 ++ [(1, xnew0 1)]).length]? = _
      rw [List.getElem?_set_ne (by omega), List.getElem?_append_right (Nat.le_refl _), Nat.sub_self]
      rfl
    · intro x hx
      rw [List.eq_of_mem_replicate hx]
      rfl
    · show (List.set _ _ _)[q]? = _
      rw [List.getElem?_set_ne (by omega), List.getElem?_append_left (by omega), List.getElem?_append_left hq]
    · show (List.set _ _ _).length ≤ _
      rw [List.length_set, List.length_append, hlen]
      exact Nat.le_refl _
    · exact Nat.le_trans (Nat.le_of_eq (hsz _)) (by omega)
  obtain ⟨r, h', hrun, rfl, hp⟩ := hin
  refine xRp_of (m := (yJ4_init_da8c8, cJ4_init_da8c8, 1, none, [], [], xcJ4_init_da8c8)) rfl (by show 1 ≤ 1; decide) ?_
  show xBp K (xZ z) 2 1 [] xcJ4_init_da8c8 xcJ4_init_da8c8 [(0, .ref h0.length)] [] _ _
  refine xp_step rfl ?_
  refine xp_step rfl ?_
  refine xp_spec2 rfl (Nat.le_of_ble_eq_true rfl) rfl hrun ?_
  exact xp_ret rfl ⟨fun v q => by cases q; rfl, rfl, hp⟩
/-- a constant string taken -/
theorem xs_bstr {sa : Nat} (hS : xSb h a v ml cnt bs) (hk : xStK K sa t) (hm : cnt + t.length ≤ 100) (hl : h.length < 999990) : xRp K (xZ z) 6 125 [.ref a, .ref sa] h (fun r h' => r = .ok (some (.ref a)) ∧ xSbP h a v ml cnt bs 1 (t.map Int32.ofNat) h') := by
  obtain ⟨hc, hv⟩ := xSb_cell (K := K) hS
  obtain ⟨r, h1, hrun, rfl, v1, bs1, hS1, hb1, ht1, hf1⟩ := xs_ensure (K := K) (z := z) hS hm hl
  obtain ⟨hc1, hv1⟩ := xSb_cell (K := K) hS1
  have hlt := xSb_lt hS
  have hb300 := hS1.2.2.2.1
  obtain ⟨b, v2, v3, k1, k2, k3, k4, k5⟩ := id hk
  have htl : (t.map fun n => Value.int (Int32.ofNat n)).length = t.length := List.length_map _
  have hbl : (bs1.take cnt ++ (t.map Int32.ofNat ++ bs1.drop (cnt + t.length))).length = bs1.length := by
    rw [List.length_append, List.length_append, List.length_take, List.length_map, List.length_drop]
    omega
  have hbb : ∀ x ∈ bs1.take cnt ++ (t.map Int32.ofNat ++ bs1.drop (cnt + t.length)), xfit .byte (.int x) = true := by
    intro x hx
    rcases List.mem_append.mp hx with hx | hx
    · exact hS1.2.2.2.2 x (List.mem_of_mem_take hx)
    · rcases List.mem_append.mp hx with hx | hx
      · obtain ⟨c, hc, rfl⟩ := List.mem_map.mp hx
        exact (xbyte2 c (k4 c hc)).2
      · exact hS1.2.2.2.2 x (List.mem_of_mem_drop hx)
  have htk : (bs1.take cnt ++ (t.map Int32.ofNat ++ bs1.drop (cnt + t.length))).take (cnt + t.length) = bs1.take cnt ++ t.map Int32.ofNat := by
    rw [← List.append_assoc]
    exact List.take_left' (by rw [List.length_append, List.length_take, List.length_map]; omega)
  have hcpy := xcpy_mid (bs := bs1) (s := t) (idx := cnt) (by omega)
  generalize hb2 : bs1.take cnt ++ (t.map Int32.ofNat ++ bs1.drop (cnt + t.length)) = bs2 at hbl hbb htk hcpy
  have hupd := xSb_upd (ml2 := ml) (cnt2 := cnt + t.length) hS1 hbl hbb (by omega)
  have hv2 : (h1.set v1 (50, bs2.map Value.int))[a]? = some (1, [.ref v1, .int 0, .int ml, .int (Int32.ofNat cnt)]) := by
    rw [List.getElem?_set_ne hS1.1.2.2.symm]
    exact hS1.2.1
  have hget : xRn K (xZ z) 2 147 [.ref sa, .ref v1, .int (Int32.ofNat cnt), .int 0] h1 (.ok none) (h1.set v1 (50, bs2.map .int)) := by
    refine xRp_eq ?_
    refine xRp_of (m := (yJ0_getBytes_840e7, cJ0_getBytes_840e7, 4, none, [], [], xcJ0_getBytes_840e7)) rfl (by show 4 ≤ 4; decide) ?_
    show xBp K (xZ z) 1 4 [] xcJ0_getBytes_840e7 xcJ0_getBytes_840e7 [(0, .ref sa), (1, .ref v1), (2, .int (Int32.ofNat cnt)), (3, .int 0)] [] _ _
    refine xp_step rfl ?_
    refine xp_virtK (k1 h1) rfl (Nat.le_of_ble_eq_true rfl) rfl (xs_coder (k1 h1)) ?_
    refine xp_step rfl ?_
    refine xp_step rfl ?_
    refine xp_step rfl ?_
    refine xp_getK (k1 h1) rfl rfl ?_
    refine xp_step rfl ?_
    refine xp_step rfl ?_
    refine xp_step rfl ?_
    refine xp_step rfl ?_
    refine xp_shl0 ?_
    refine xp_step rfl ?_
    refine xp_getK (k1 h1) rfl rfl ?_
    refine xp_alen (k2 h1) (by simp) ?_
    rw [htl]
    refine xp_acopy (a := v1) (b := b) (n := t.length) (sp := 0) (dp := cnt) hS1.1.2.1 (fun e => absurd hS1.1.2.1 (by rw [e]; exact Nat.not_lt.mpr k3)) hS1.2.2.1 (k2 h1) (by rw [htl]; omega) (by rw [List.length_map]; omega) (by rw [htl]; omega) (by rw [List.length_map]; omega) ?_ rfl ?_
    · rw [List.all_eq_true]
      intro x hx
      obtain ⟨y, hy, rfl⟩ := List.mem_map.mp hx
      exact (xbyte2 y (k4 y hy)).2
    rw [hcpy]
    refine xp_jump rfl ?_
    exact xp_ret rfl ⟨fun v q => by cases q; rfl, rfl, rfl⟩
  have hinf : xRn K (xZ z) 2 131 [.ref a, .ref sa] h1 (.ok none) h1 := by
    refine xRp_eq ?_
    refine xRp_of (m := (yJ5_inflateIfNeededFor_a7421, cJ5_inflateIfNeededFor_a7421, 2, none, [], [], xcJ5_inflateIfNeededFor_a7421)) rfl (by show 2 ≤ 2; decide) ?_
    show xBp K (xZ z) 1 2 [] xcJ5_inflateIfNeededFor_a7421 xcJ5_inflateIfNeededFor_a7421 [(0, .ref a), (1, .ref sa)] [] _ _
    refine xp_step rfl ?_
    refine xp_step rfl ?_
    refine xp_step rfl ?_
    refine xp_getK hc1 rfl rfl ?_
    refine xp_step rfl ?_
    refine xp_virtK (k1 h1) rfl (Nat.le_of_ble_eq_true rfl) rfl (xs_coder (k1 h1)) ?_
    refine xp_jump rfl ?_
    exact xp_ret rfl ⟨fun v q => by cases q; rfl, rfl, rfl⟩
  have hput : xRn K (xZ z) 3 132 [.ref a, .int (Int32.ofNat cnt), .ref sa] h1 (.ok none) (h1.set v1 (50, bs2.map .int)) := by
    refine xRp_eq ?_
    refine xRp_of (m := (yJ5_putStringAt_47b60, cJ5_putStringAt_47b60, 3, none, [], [], xcJ5_putStringAt_47b60)) rfl (by show 3 ≤ 3; decide) ?_
    show xBp K (xZ z) 2 3 [] xcJ5_putStringAt_47b60 xcJ5_putStringAt_47b60 [(0, .ref a), (1, .int (Int32.ofNat cnt)), (2, .ref sa)] [] _ _
    refine xp_step rfl ?_
    refine xp_step rfl ?_
    refine xp_virt3 hc1 rfl (Nat.le_of_ble_eq_true rfl) rfl hinf ?_
    refine xp_step rfl ?_
    refine xp_step rfl ?_
    refine xp_getK hc1 rfl rfl ?_
    refine xp_step rfl ?_
    refine xp_step rfl ?_
    refine xp_getK hc1 rfl rfl ?_
    refine xp_virtK (k1 h1) rfl (Nat.le_of_ble_eq_true rfl) rfl hget ?_
    exact xp_ret rfl ⟨fun v q => by cases q; rfl, rfl, rfl⟩
  refine xRp_of (m := (yJ5_append_cf1ce, cJ5_append_cf1ce, 3, (some (.object "java/lang/AbstractStringBuilder")), [], [], xcJ5_append_cf1ce)) rfl (by show 2 ≤ 3; decide) ?_
  show xBp K (xZ z) 5 3 [] xcJ5_append_cf1ce xcJ5_append_cf1ce [(0, .ref a), (1, .ref sa)] [] _ _
  refine xp_step rfl ?_
  refine xp_jump rfl ?_
  refine xp_step rfl ?_
  refine xp_virtK (k1 h) rfl (Nat.le_of_ble_eq_true rfl) rfl (xR_up (by decide) (xs_slen (xStK_of hk h))) ?_
  refine xp_step rfl ?_
  refine xp_step rfl ?_
  refine xp_step rfl ?_
  refine xp_getK hc rfl rfl ?_
  refine xp_step rfl ?_
  refine xp_addE (Int32.ofNat_add cnt t.length).symm ?_
  refine xp_virt3 hc rfl (Nat.le_of_ble_eq_true rfl) rfl (xR_up (by decide) hrun) ?_
  refine xp_step rfl ?_
  refine xp_step rfl ?_
  refine xp_getK hc1 rfl rfl ?_
  refine xp_step rfl ?_
  refine xp_virt3 hc1 rfl (Nat.le_of_ble_eq_true rfl) rfl (xR_up (by decide) hput) ?_
  refine xp_step rfl ?_
  refine xp_step rfl ?_
  refine xp_getK (by rw [xc_heap hS1.1.1]; exact hv2) rfl rfl ?_
  refine xp_step rfl ?_
  refine xp_addE (Int32.ofNat_add cnt t.length).symm ?_
  refine xp_putH hS1.1.1 hv2 (Nat.le_of_ble_eq_true rfl) rfl ?_
  refine xp_step rfl ?_
  refine xp_ret rfl ⟨fun v q => by cases q; rfl, rfl, v1, bs2, ?_, ?_, ?_⟩
  · rw [List.length_map]
    exact hupd.1
  · rw [List.length_map, htk, ht1]
  · exact xFr_trans hlt.2 hS.1.2.2.symm hf1 hupd.2
theorem xo_bstr {sa : Nat} (hS : xSb h a v ml cnt bs) (hk : xStK K sa t) (hm : cnt + t.length ≤ 100) (hl : h.length < 999990) : xRp K (xZ z) 7 155 [.ref a, .ref sa] h (fun r h' => r = .ok (some (.ref a)) ∧ xSbP h a v ml cnt bs 1 (t.map Int32.ofNat) h') := by
  obtain ⟨hc, hv⟩ := xSb_cell (K := K) hS
  obtain ⟨r, h1, hrun, rfl, hp⟩ := xs_bstr (K := K) (z := z) hS hk hm hl
  refine xRp_of (m := (yJ4_append_15ec4, cJ4_append_15ec4, 2, (some (.object "java/lang/StringBuilder")), [], [], xcJ4_append_15ec4)) rfl (by show 2 ≤ 2; decide) ?_
  show xBp K (xZ z) 6 2 [] xcJ4_append_15ec4 xcJ4_append_15ec4 [(0, .ref a), (1, .ref sa)] [] _ _
  refine xp_step rfl ?_
  refine xp_step rfl ?_
  refine xp_spec4 hc rfl (Nat.le_of_ble_eq_true rfl) rfl hrun ?_
  refine xp_step rfl ?_
  refine xp_step rfl ?_
  exact xp_ret rfl ⟨fun v q => by cases q; rfl, rfl, hp⟩
/-- the same of a text in the making -/
theorem xb_str {sa : Nat} (hT : xTb h0 h m a s) (hk : xStK K sa t) (hm : s.length + t.length ≤ 100) (hl : h.length < 999990) : xRp K (xZ z) 7 155 [.ref a, .ref sa] h (fun r h' => r = .ok (some (.ref a)) ∧ xTb h0 h' (m + 1) a (s ++ t)) := by
  obtain ⟨v, ml, bs, hS, h1, h2, h3, h4, h5⟩ := hT
  obtain ⟨r, h', hrun, rfl, hp⟩ := xo_bstr (K := K) (z := z) hS hk hm hl
  exact ⟨_, h', hrun, rfl, xTb_step h1 h2 h3 h4 h5 (xSb_lt hS) hp⟩
theorem xb_int {n : Nat} (hT : xTb h0 h m a s) (hn : n < 10000000) (hm : s.length + (xDg n).length ≤ 100) (hl : h.length < 999990) : xRp (xK xs) (xZ z) 6 157 [.ref a, .int (Int32.ofNat n)] h (fun r h' => r = .ok (some (.ref a)) ∧ xTb h0 h' (m + 1) a (s ++ xDg n)) := by
  obtain ⟨v, ml, bs, hS, h1, h2, h3, h4, h5⟩ := hT
  obtain ⟨r, h', hrun, rfl, hp⟩ := xo_bint (xs := xs) (z := z) hS hn hm hl
  exact ⟨_, h', hrun, rfl, xTb_step h1 h2 h3 h4 h5 (xSb_lt hS) hp⟩
end XTE
