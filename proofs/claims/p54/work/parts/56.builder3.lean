/-! A BUILDER TAKES NUMBERS, IS EMPTIED, IS READ -/
/-- a builder's cells after its bytes and its count are put -/
theorem xSb_upd {h : xH} {a v cnt cnt2 : Nat} {ml ml2 : Int32} {bs bs2 : List Int32} (hS : xSb h a v ml cnt bs) (hl : bs2.length = bs.length) (hb : ∀ x ∈ bs2, xfit .byte (.int x) = true) (hc : cnt2 ≤ bs2.length) : xSb ((h.set v (50, bs2.map .int)).set a (1, [.ref v, .int 0, .int ml2, .int (Int32.ofNat cnt2)])) a v ml2 cnt2 bs2 ∧ xFr 0 h ((h.set v (50, bs2.map .int)).set a (1, [.ref v, .int 0, .int ml2, .int (Int32.ofNat cnt2)])) a v v := by
  have hlt := xSb_lt hS
  have ha1 : (h.set v (50, bs2.map Value.int))[a]? = some (1, [.ref v, .int 0, .int ml, .int (Int32.ofNat cnt)]) := by
    rw [List.getElem?_set_ne hS.1.2.2.symm]
    exact hS.2.1
  refine ⟨⟨hS.1, ?_, ?_, ⟨hc, by rw [hl]; exact hS.2.2.2.1.2⟩, hb⟩, ⟨⟨?_, ?_, ?_⟩, ?_, Or.inl rfl, ?_⟩⟩
  · rw [List.getElem?_set_self (by rw [List.length_set]; exact hlt.1)]
  · rw [List.getElem?_set_ne hS.1.2.2, List.getElem?_set_self hlt.2]
  · rw [List.length_set, List.length_set]
    exact Nat.le_refl _
  · rw [List.length_set, List.length_set]
    exact Nat.le_refl _
  · rw [xsz_set (ws := [.ref v, .int 0, .int ml2, .int (Int32.ofNat cnt2)]) ha1 rfl, xsz_set hS.2.2.1 (by rw [List.length_map, List.length_map]; exact hl)]
    exact Nat.le_refl _
  · intro q _ hq2 hq3
    rw [List.getElem?_set_ne hq2.symm, List.getElem?_set_ne hq3.symm]
  · intro b1 hb1
    rw [hS.2.2.1] at hb1
    refine ⟨bs2, by rw [List.getElem?_set_ne hS.1.2.2, List.getElem?_set_self hlt.2], ?_⟩
    have e := congrArg (fun o : Option (Nat × List Value) => (o.map fun q => q.2.length)) hb1
    simp only [Option.map_some, List.length_map, Option.some.injEq] at e
    omega
theorem xSb_same {h : xH} {v : Nat} {b : List Int32} (hv : h[v]? = some (50, b.map .int)) : h.set v (50, b.map .int) = h := by
  have hvl := (List.getElem?_eq_some_iff.mp hv).1
  apply List.ext_getElem?
  intro q
  by_cases hq : q = v
  · subst hq
    rw [List.getElem?_set_self hvl, hv]
  · rw [List.getElem?_set_ne (fun e => hq e.symm)]
section XBW
variable {xs : List Int32} {z : Value} {K : List (Nat × List Value)} {d nL : Nat} {P : xA → xH → Prop} {h h2 : xH} {a v cnt : Nat} {ml : Int32} {bs : List Int32}
theorem xs_bint (hS : xSb h a v ml cnt bs) {n : Nat} (hn : n < 10000000) (hm : cnt + (xDg n).length ≤ 100) (hl : h.length < 999990) : xRp (xK xs) (xZ z) 5 128 [.ref a, .int (Int32.ofNat n)] h (fun r h' => r = .ok (some (.ref a)) ∧ xSbP h a v ml cnt bs 1 ((xDg n).map Int32.ofNat) h') := by
  obtain ⟨hc, hv⟩ := xSb_cell (K := xK xs) hS
  obtain ⟨r, h1, hrun, rfl, v1, bs1, hS1, hb1, ht1, hf1⟩ := xs_ensure (K := xK xs) (z := z) hS hm hl
  obtain ⟨hc1, hv1⟩ := xSb_cell (K := xK xs) hS1
  have hlt := xSb_lt hS
  have hb300 := hS1.2.2.2.1
  have hgc := xs_getChars (xs := xs) (z := z) (h := h1) (v := v1) (b := bs1) (n := n) (p := cnt + (xDg n).length) hn hS1.1.2.1 hS1.2.2.1 (by omega) hb1 hb300.2
  rw [Nat.add_sub_cancel] at hgc
  have hbl : (bs1.take cnt ++ ((xDg n).map Int32.ofNat ++ bs1.drop (cnt + (xDg n).length))).length = bs1.length := by
    rw [List.length_append, List.length_append, List.length_take, List.length_map, List.length_drop]
    omega
  have hbb : ∀ x ∈ bs1.take cnt ++ ((xDg n).map Int32.ofNat ++ bs1.drop (cnt + (xDg n).length)), xfit .byte (.int x) = true := by
    intro x hx
    rcases List.mem_append.mp hx with hx | hx
    · exact hS1.2.2.2.2 x (List.mem_of_mem_take hx)
    · rcases List.mem_append.mp hx with hx | hx
      · obtain ⟨c, hc, rfl⟩ := List.mem_map.mp hx
        exact (xbyte2 c (by have := xDig_lt 4 n c hc; omega)).2
      · exact hS1.2.2.2.2 x (List.mem_of_mem_drop hx)
  have htk : (bs1.take cnt ++ ((xDg n).map Int32.ofNat ++ bs1.drop (cnt + (xDg n).length))).take (cnt + (xDg n).length) = bs1.take cnt ++ (xDg n).map Int32.ofNat := by
    rw [← List.append_assoc]
    exact List.take_left' (by rw [List.length_append, List.length_take, List.length_map]; omega)
  generalize hb2 : bs1.take cnt ++ ((xDg n).map Int32.ofNat ++ bs1.drop (cnt + (xDg n).length)) = bs2 at hgc hbl hbb htk
  have hupd := xSb_upd (ml2 := ml) (cnt2 := cnt + (xDg n).length) hS1 hbl hbb (by omega)
  have hv2 : xcell (xK xs) (h1.set v1 (50, bs2.map .int)) a = some (1, [.ref v1, .int 0, .int ml, .int (Int32.ofNat cnt)]) := by
    rw [xc_heap hS1.1.1, List.getElem?_set_ne hS1.1.2.2.symm]
    exact hS1.2.1
  refine xRp_of (m := (yJ5_append_c97b9, cJ5_append_c97b9, 4, (some (.object "java/lang/AbstractStringBuilder")), [], [], xcJ5_append_c97b9)) rfl (by show 2 ≤ 4; decide) ?_
  show xBp (xK xs) (xZ z) 4 4 [] xcJ5_append_c97b9 xcJ5_append_c97b9 [(0, .ref a), (1, .int (Int32.ofNat n))] [] _ _
  refine xp_step rfl ?_
  refine xp_getK hc rfl rfl ?_
  refine xp_step rfl ?_
  refine xp_step rfl ?_
  refine xp_step rfl ?_
  refine xp_callR rfl (xR_up (by decide) (xs_size hn)) ?_
  refine xp_addE (Int32.ofNat_add cnt (xDg n).length).symm ?_
  refine xp_step rfl ?_
  refine xp_step rfl ?_
  refine xp_step rfl ?_
  refine xp_virt3 hc rfl (Nat.le_of_ble_eq_true rfl) rfl hrun ?_
  refine xp_step rfl ?_
  refine xp_virt3 hc1 rfl (Nat.le_of_ble_eq_true rfl) rfl (xR_up (by decide) (xs_blatin hS1)) ?_
  refine xp_step rfl ?_
  refine xp_step rfl ?_
  refine xp_step rfl ?_
  refine xp_step rfl ?_
  refine xp_getK hc1 rfl rfl ?_
  refine xp_callR rfl (xR_up (by decide) hgc) ?_
  refine xp_step rfl ?_
  refine xp_jump rfl ?_
  refine xp_step rfl ?_
  refine xp_step rfl ?_
  refine xp_putH hS1.1.1 (by rw [xc_heap hS1.1.1] at hv2; exact hv2) (Nat.le_of_ble_eq_true rfl) rfl ?_
  refine xp_step rfl ?_
  refine xp_ret rfl ⟨fun v q => by cases q; rfl, rfl, v1, bs2, ?_, ?_, ?_⟩
  · rw [List.length_map]
    exact hupd.1
  · rw [List.length_map, htk, ht1]
  · exact xFr_trans hlt.2 hS.1.2.2.symm hf1 hupd.2
/-- setLength(0) -/
theorem xs_bzero (hS : xSb h a v ml cnt bs) (hl : h.length < 999990) : xRp K (xZ z) 5 123 [.ref a, .int 0] h (fun r h' => r = .ok none ∧ ∃ v' ml' bs', xSb h' a v' ml' 0 bs' ∧ xFr 1 h h' a v v') := by
  obtain ⟨hc, hv⟩ := xSb_cell (K := K) hS
  obtain ⟨r, h1, hrun, rfl, v1, bs1, hS1, hb1, ht1, hf1⟩ := xs_ensure (K := K) (z := z) hS (m := 0) (by decide) hl
  obtain ⟨hc1, hv1⟩ := xSb_cell (K := K) hS1
  have hlt := xSb_lt hS
  have hlt1 := xSb_lt hS1
  have hsame := xSb_same hS1.2.2.1
  have hb300 := hS1.2.2.2.1
  have fin : ∀ ml2 : Int32, ∀ hh : xH, hh[a]? = some (1, [.ref v1, .int 0, .int ml2, .int (Int32.ofNat cnt)]) → (∀ c2, hh.set a (1, [.ref v1, .int 0, .int ml2, .int c2]) = h1.set a (1, [.ref v1, .int 0, .int ml2, .int c2])) → xBp K (xZ z) 4 2 [] xcJ5_setLength_d00df (xseek xcJ5_setLength_d00df 76) [(0, .ref a), (1, .int 0)] [] hh (fun r h' => (∀ v, r = .ok v → xrfit none v = true) ∧ (r = .ok none ∧ ∃ v' ml' bs', xSb h' a v' ml' 0 bs' ∧ xFr 1 h h' a v v')) := by
    intro ml2 hh hha hset
    have hupd := xSb_upd (ml2 := ml2) (cnt2 := 0) (bs2 := bs1) hS1 rfl hS1.2.2.2.2 (Nat.zero_le _)
    rw [hsame] at hupd
    refine xp_step rfl ?_
    refine xp_step rfl ?_
    refine xp_putH hS1.1.1 hha (Nat.le_of_ble_eq_true rfl) rfl ?_
    have e := hset (Int32.ofNat 0)
    refine xp_ret rfl ⟨fun v q => by cases q; rfl, rfl, v1, ml2, bs1, ?_, ?_⟩
    · show xSb (hh.set a (1, [.ref v1, .int 0, .int ml2, .int (Int32.ofNat 0)])) a v1 ml2 0 bs1
      rw [e]
      exact hupd.1
    · show xFr 1 h (hh.set a (1, [.ref v1, .int 0, .int ml2, .int (Int32.ofNat 0)])) a v v1
      rw [e]
      exact xFr_trans hlt.2 hS.1.2.2.symm hf1 hupd.2
  refine xRp_of (m := (yJ5_setLength_d00df, cJ5_setLength_d00df, 2, none, [], [], xcJ5_setLength_d00df)) rfl (by show 2 ≤ 2; decide) ?_
  show xBp K (xZ z) 4 2 [] xcJ5_setLength_d00df xcJ5_setLength_d00df [(0, .ref a), (1, .int 0)] [] _ _
  refine xp_step rfl ?_
  refine xp_jump rfl ?_
  refine xp_step rfl ?_
  refine xp_step rfl ?_
  refine xp_virt3 hc rfl (Nat.le_of_ble_eq_true rfl) rfl hrun ?_
  refine xp_step rfl ?_
  refine xp_getK hc1 rfl rfl ?_
  refine xp_step rfl ?_
  refine xp_if2 rfl (fun _ => ?_) (fun q => absurd (xi_ofNat (n := cnt) (by omega)).2.2 (of_decide_eq_false q))
  refine xp_step rfl ?_
  refine xp_getK hc1 rfl rfl ?_
  refine xp_step rfl ?_
  refine xp_if2 rfl (fun _ => ?_) (fun _ => ?_)
  · exact fin ml h1 hS1.2.1 (fun _ => rfl)
  · refine xp_step rfl ?_
    refine xp_step rfl ?_
    refine xp_putH hS1.1.1 hS1.2.1 (Nat.le_of_ble_eq_true rfl) rfl ?_
    exact fin 1 (h1.set a (1, [.ref v1, .int 0, .int 1, .int (Int32.ofNat cnt)])) (by rw [List.getElem?_set_self hlt1.1]) (fun c2 => List.set_set _)
/-- a sign read -/
theorem xs_bchr (hS : xSb h a v ml cnt bs) {n c : Nat} (hn : n < cnt) (hc9 : c < 128) (hbn : bs[n]? = some (Int32.ofNat c)) (hz : z.category = 1) : xRn K (xZ z) 3 124 [.ref a, .int (Int32.ofNat n)] h (.ok (some (.int (Int32.ofNat c)))) h := by
  obtain ⟨hc, hv⟩ := xSb_cell (K := K) hS
  have hb300 := hS.2.2.2.1
  have hmin : xmin (Int32.ofNat cnt) (Int32.ofNat bs.length) = Int32.ofNat cnt := by
    unfold xmin
    rw [if_neg (fun q => ?_)]
    rw [xi_lt (by omega) (by omega)] at q
    omega
  obtain ⟨i1, i2⟩ := xin_ofNat (n := n) (t := bs.length) (by omega) (by omega)
  refine xRp_eq ?_
  refine xRp_of (m := (yJ5_charAt_5068e, cJ5_charAt_5068e, 5, (some .char), [], [], xcJ5_charAt_5068e)) rfl (by show 2 ≤ 5; decide) ?_
  show xBp K (xZ z) 2 5 [] xcJ5_charAt_5068e xcJ5_charAt_5068e [(0, .ref a), (1, .int (Int32.ofNat n))] [] _ _
  refine xp_step rfl ?_
  refine xp_getK hc rfl rfl ?_
  refine xp_step rfl ?_
  refine xp_step rfl ?_
  refine xp_getK hc rfl rfl ?_
  refine xp_step rfl ?_
  refine xp_step rfl ?_
  refine xp_getK hc rfl rfl ?_
  refine xp_step rfl ?_
  refine xp_alen hv (by simp) ?_
  rw [List.length_map]
  refine xp_step rfl ?_
  refine xp_shr0 ?_
  refine xp_callR rfl (xR_up (by decide) (xs_min _ _ _)) ?_
  rw [hmin]
  refine xp_step rfl ?_
  refine xp_step rfl ?_
  refine xp_step rfl ?_
  refine xp_callR rfl (xs_chk hn (by omega) hz) ?_
  refine xp_step rfl ?_
  refine xp_step rfl ?_
  refine xp_step rfl ?_
  refine xp_step rfl ?_
  refine xp_bald (y := Int32.ofNat c) hv (by rw [List.length_map]; exact i1) (by rw [i2, List.getElem?_map, hbn]; rfl) ?_
  refine xp_step rfl ?_
  refine xp_step rfl ?_
  refine xp_step rfl ?_
  have e := xchr _ hc9
  refine xp_ret rfl ⟨fun v q => ?_, congrArg (fun x => Except.ok (some (Value.int x))) e, rfl⟩
  cases q
  show xfit .char (.int (((Int32.ofNat c) &&& (Int16.ofInt 255).toInt32).toUInt32 % 65536).toInt32) = true
  rw [e]
  exact (show ∀ n, n < 128 → xfit .char (.int (Int32.ofNat n)) = true by decide +kernel) _ hc9
/-! the same by StringBuilder's own names -/
theorem xo_bchar (hS : xSb h a v ml cnt bs) {n : Nat} (hn : n < 128) (hm : cnt + 1 ≤ 100) (hl : h.length < 999990) : xRp K (xZ z) 6 156 [.ref a, .int (Int32.ofNat n)] h (fun r h' => r = .ok (some (.ref a)) ∧ xSbP h a v ml cnt bs 1 [Int32.ofNat n] h') := by
  obtain ⟨hc, hv⟩ := xSb_cell (K := K) hS
  obtain ⟨r, h1, hrun, rfl, hp⟩ := xs_bchar (K := K) (z := z) hS hn hm hl
  refine xRp_of (m := (yJ4_append_cf468, cJ4_append_cf468, 2, (some (.object "java/lang/StringBuilder")), [], [], xcJ4_append_cf468)) rfl (by show 2 ≤ 2; decide) ?_
  show xBp K (xZ z) 5 2 [] xcJ4_append_cf468 xcJ4_append_cf468 [(0, .ref a), (1, .int (Int32.ofNat n))] [] _ _
  refine xp_step rfl ?_
  refine xp_step rfl ?_
  refine xp_spec4 hc rfl (Nat.le_of_ble_eq_true rfl) rfl hrun ?_
  refine xp_step rfl ?_
  refine xp_step rfl ?_
  exact xp_ret rfl ⟨fun v q => by cases q; rfl, rfl, hp⟩
theorem xo_bint (hS : xSb h a v ml cnt bs) {n : Nat} (hn : n < 10000000) (hm : cnt + (xDg n).length ≤ 100) (hl : h.length < 999990) : xRp (xK xs) (xZ z) 6 157 [.ref a, .int (Int32.ofNat n)] h (fun r h' => r = .ok (some (.ref a)) ∧ xSbP h a v ml cnt bs 1 ((xDg n).map Int32.ofNat) h') := by
  obtain ⟨hc, hv⟩ := xSb_cell (K := xK xs) hS
  obtain ⟨r, h1, hrun, rfl, hp⟩ := xs_bint (xs := xs) (z := z) hS hn hm hl
  refine xRp_of (m := (yJ4_append_bf812, cJ4_append_bf812, 2, (some (.object "java/lang/StringBuilder")), [], [], xcJ4_append_bf812)) rfl (by show 2 ≤ 2; decide) ?_
  show xBp (xK xs) (xZ z) 5 2 [] xcJ4_append_bf812 xcJ4_append_bf812 [(0, .ref a), (1, .int (Int32.ofNat n))] [] _ _
  refine xp_step rfl ?_
  refine xp_step rfl ?_
  refine xp_spec4 hc rfl (Nat.le_of_ble_eq_true rfl) rfl hrun ?_
  refine xp_step rfl ?_
  refine xp_step rfl ?_
  exact xp_ret rfl ⟨fun v q => by cases q; rfl, rfl, hp⟩
theorem xo_bzero (hS : xSb h a v ml cnt bs) (hl : h.length < 999990) : xRp K (xZ z) 6 160 [.ref a, .int 0] h (fun r h' => r = .ok none ∧ ∃ v' ml' bs', xSb h' a v' ml' 0 bs' ∧ xFr 1 h h' a v v') := by
  obtain ⟨hc, hv⟩ := xSb_cell (K := K) hS
  obtain ⟨r, h1, hrun, rfl, hp⟩ := xs_bzero (K := K) (z := z) hS hl
  refine xRp_of (m := (yJ4_setLength_d00df, cJ4_setLength_d00df, 2, none, [], [], xcJ4_setLength_d00df)) rfl (by show 2 ≤ 2; decide) ?_
  show xBp K (xZ z) 5 2 [] xcJ4_setLength_d00df xcJ4_setLength_d00df [(0, .ref a), (1, .int 0)] [] _ _
  refine xp_step rfl ?_
  refine xp_step rfl ?_
  refine xp_spec4 hc rfl (Nat.le_of_ble_eq_true rfl) rfl hrun ?_
  exact xp_ret rfl ⟨fun v q => by cases q; rfl, rfl, hp⟩
theorem xo_bchr (hS : xSb h a v ml cnt bs) {n c : Nat} (hn : n < cnt) (hc9 : c < 128) (hbn : bs[n]? = some (Int32.ofNat c)) (hz : z.category = 1) : xRn K (xZ z) 4 159 [.ref a, .int (Int32.ofNat n)] h (.ok (some (.int (Int32.ofNat c)))) h := by
  obtain ⟨hc, hv⟩ := xSb_cell (K := K) hS
  refine xRp_eq ?_
  refine xRp_of (m := (yJ4_charAt_5068e, cJ4_charAt_5068e, 2, (some .char), [], [], xcJ4_charAt_5068e)) rfl (by show 2 ≤ 2; decide) ?_
  show xBp K (xZ z) 3 2 [] xcJ4_charAt_5068e xcJ4_charAt_5068e [(0, .ref a), (1, .int (Int32.ofNat n))] [] _ _
  refine xp_step rfl ?_
  refine xp_step rfl ?_
  refine xp_spec4 hc rfl (Nat.le_of_ble_eq_true rfl) rfl (xs_bchr hS hn hc9 hbn hz) ?_
  refine xp_ret rfl ⟨fun v q => ?_, rfl, rfl⟩
  cases q
  exact (show ∀ n, n < 128 → xfit .char (.int (Int32.ofNat n)) = true by decide +kernel) _ hc9
end XBW
