/-! A BUILDER GROWS, TAKES SIGNS, IS EMPTIED, IS READ -/
theorem xFr_mono {m m' : Nat} {h h' : xH} {a v v' : Nat} (hm : m ≤ m') (f : xFr m h h' a v v') : xFr m' h h' a v v' := by
  obtain ⟨⟨a1, a2, a3⟩, b, c, e⟩ := f
  exact ⟨⟨a1, by omega, by omega⟩, b, c, e⟩
theorem xSb_cell {K : List (Nat × List Value)} {h : xH} {a v cnt : Nat} {ml : Int32} {bs : List Int32} (hS : xSb h a v ml cnt bs) : xcell K h a = some (1, [.ref v, .int 0, .int ml, .int (Int32.ofNat cnt)]) ∧ xcell K h v = some (50, bs.map .int) :=
  ⟨by rw [xc_heap hS.1.1]; exact hS.2.1, by rw [xc_heap hS.1.2.1]; exact hS.2.2.1⟩
theorem xi_le0 {a b : Nat} (ha : a < 2147483648) (hb : b < 2147483648) : xic .le (Int32.ofNat a - Int32.ofNat b) 0 = decide (a ≤ b) := by
  show decide (Int32.ofNat a - Int32.ofNat b ≤ 0) = _
  have e : (Int32.ofNat a - Int32.ofNat b ≤ 0) ↔ a ≤ b := by
    rw [Int32.le_iff_toInt_le, xi_sub ha hb, show (0 : Int32).toInt = 0 from rfl]
    omega
  exact decide_eq_decide.mpr e
section XBV
variable {z : Value} {K : List (Nat × List Value)} {d nL : Nat} {P : xA → xH → Prop} {h h2 : xH} {a v cnt : Nat} {ml : Int32} {bs : List Int32}
/-- what the builder's own calls leave: more signs s behind the first cnt -/
def xSbP (h : xH) (a v : Nat) (ml : Int32) (cnt : Nat) (bs : List Int32) (m : Nat) (s : List Int32) (h' : xH) : Prop := ∃ v' bs', xSb h' a v' ml (cnt + s.length) bs' ∧ bs'.take (cnt + s.length) = bs.take cnt ++ s ∧ xFr m h h' a v v'
theorem xs_ensure (hS : xSb h a v ml cnt bs) {m : Nat} (hm : m ≤ 100) (hl : h.length < 999990) : xRp K (xZ z) 4 120 [.ref a, .int (Int32.ofNat m)] h (fun r h' => r = .ok none ∧ ∃ v' bs', xSb h' a v' ml cnt bs' ∧ m ≤ bs'.length ∧ bs'.take cnt = bs.take cnt ∧ xFr 1 h h' a v v') := by
  obtain ⟨hc, hv⟩ := xSb_cell (K := K) hS
  have hlen : bs.length ≤ 300 := hS.2.2.2.1.2
  refine xRp_of (m := (yJ5_ensureCapacityInternal_d00df, cJ5_ensureCapacityInternal_d00df, 3, none, [], [], xcJ5_ensureCapacityInternal_d00df)) rfl (by show 2 ≤ 3; decide) ?_
  show xBp K (xZ z) 3 3 [] xcJ5_ensureCapacityInternal_d00df xcJ5_ensureCapacityInternal_d00df [(0, .ref a), (1, .int (Int32.ofNat m))] [] _ _
  refine xp_step rfl ?_
  refine xp_getK hc rfl rfl ?_
  refine xp_alen hv (by simp) ?_
  rw [List.length_map]
  refine xp_step rfl ?_
  refine xp_getK hc rfl rfl ?_
  refine xp_shr0 ?_
  refine xp_step rfl ?_
  refine xp_step rfl ?_
  refine xp_step rfl ?_
  refine xp_subE (w := Int32.ofNat m - Int32.ofNat bs.length) rfl ?_
  have hcmp := xi_le0 (a := m) (b := bs.length) (by omega) (by omega)
  refine xp_if1 rfl (fun q => ?_) (fun q => ?_)
  · have q : m ≤ bs.length := of_decide_eq_true (hcmp.symm.trans q)
    exact xp_ret rfl ⟨fun v q => by cases q; rfl, rfl, v, bs, hS, q, rfl, xFr_mono (by omega) (xFr_refl h a v)⟩
  · have q : ¬ m ≤ bs.length := of_decide_eq_false (hcmp.symm.trans q)
    have hlt := xSb_lt hS
    have hn1 : bs.length < xNcap bs.length m ∧ (m ≤ xNcap bs.length m ∧ xNcap bs.length m ≤ 300) := by unfold xNcap; omega
    refine xp_step rfl ?_
    refine xp_step rfl ?_
    refine xp_getK hc rfl rfl ?_
    refine xp_step rfl ?_
    refine xp_step rfl ?_
    refine xp_virt3 hc rfl (Nat.le_of_ble_eq_true rfl) rfl (xs_newCap hS hm (by omega)) ?_
    refine xp_step rfl ?_
    refine xp_getK hc rfl rfl ?_
    refine xp_shl0 ?_
    generalize xNcap bs.length m = n at hn1 ⊢
    refine xp_callR rfl (xR_up (by decide) (xs_copyOf (n := n) hv hS.2.2.2.2 hlen (by omega) (by omega) (by omega) hl)) ?_
    have ha1 : (h ++ [(50, (bs ++ List.replicate (n - bs.length) 0).map Value.int)])[a]? = some (1, [.ref v, .int 0, .int ml, .int (Int32.ofNat cnt)]) := by
      rw [List.getElem?_append_left hlt.1]
      exact hS.2.1
    refine xp_putH hS.1.1 ha1 (Nat.le_of_ble_eq_true rfl) rfl ?_
    have hsz : xsz ((h ++ [(50, (bs ++ List.replicate (n - bs.length) 0).map Value.int)]).set a (1, [.ref h.length, .int 0, .int ml, .int (Int32.ofNat cnt)])) = xsz h + n := by
      rw [xsz_set (ws := [.ref h.length, .int 0, .int ml, .int (Int32.ofNat cnt)]) ha1 rfl, xsz_push, List.length_map, List.length_append, List.length_replicate]
      omega
    refine xp_ret rfl ⟨fun v q => by cases q; rfl, rfl, h.length, bs ++ List.replicate (n - bs.length) 0, ⟨⟨hS.1.1, by omega, by omega⟩, ?_, ?_, ?_, ?_⟩, ?_, ?_, ⟨⟨?_, ?_, ?_⟩, ?_, Or.inr (Nat.le_refl _), ?_⟩⟩
    · show ((h ++ _).set a _)[a]? = _
      rw [List.getElem?_set_self (by rw [List.length_append]; omega)]
      rfl
    · show ((h ++ _).set a _)[h.length]? = _
      rw [List.getElem?_set_ne (by omega), List.getElem?_append_right (Nat.le_refl _), Nat.sub_self]
      rfl
    · rw [List.length_append, List.length_replicate]
      have := hS.2.2.2.1.1
      omega
    · intro x hx
      rcases List.mem_append.mp hx with hx | hx
      · exact hS.2.2.2.2 x hx
      · rw [List.eq_of_mem_replicate hx]
        rfl
    · rw [List.length_append, List.length_replicate]
      omega
    · rw [List.take_append_of_le_length hS.2.2.2.1.1]
    · show h.length ≤ ((h ++ _).set a _).length
      rw [List.length_set, List.length_append]
      omega
    · show ((h ++ _).set a _).length ≤ _
      rw [List.length_set, List.length_append]
      exact Nat.le_refl _
    · show xsz ((h ++ _).set a _) ≤ _
      have := hsz
      exact Nat.le_trans (Nat.le_of_eq this) (by omega)
    · intro q hq1 hq2 hq3
      show ((h ++ _).set a _)[q]? = _
      rw [List.getElem?_set_ne hq2.symm, List.getElem?_append_left hq1]
    · intro b1 hb1
      refine ⟨b1, ?_, rfl⟩
      show ((h ++ _).set a _)[v]? = _
      rw [List.getElem?_set_ne hS.1.2.2, List.getElem?_append_left hlt.2]
      exact hb1
theorem xs_canEnc {n : Nat} (hn : n < 128) : xRn K (xZ z) 1 164 [.int (Int32.ofNat n)] h (.ok (some (.int 1))) h := by
  refine xRp_eq (xRp_of (m := (yJ1_canEncode_fc78d, cJ1_canEncode_fc78d, 1, (some .boolean), [], [], xcJ1_canEncode_fc78d)) rfl (by show 1 ≤ 1; decide) ?_)
  show xBp K (xZ z) 0 1 [] xcJ1_canEncode_fc78d xcJ1_canEncode_fc78d [(0, .int (Int32.ofNat n))] [] _ _
  refine xp_step rfl ?_
  refine xp_step rfl ?_
  refine xp_if2 rfl (fun q => ?_) (fun _ => ?_)
  · have q : Int32.ofNat 255 < Int32.ofNat n := of_decide_eq_true q
    rw [xi_lt (by omega) (by omega)] at q
    omega
  refine xp_step rfl ?_
  refine xp_jump rfl ?_
  exact xp_ret rfl ⟨fun v q => by cases q; rfl, rfl, rfl⟩
theorem xbyte2 : ∀ n, n < 128 → (Int32.ofNat n).toInt8.toInt32 = Int32.ofNat n ∧ xfit .byte (.int (Int32.ofNat n)) = true := by decide +kernel
/-- a builder's cells after a sign is put at cnt -/
theorem xSb_put {n : Nat} (hS : xSb h a v ml cnt bs) (hc : cnt < bs.length) (hn : n < 128) : xSb ((h.set a (1, [.ref v, .int 0, .int ml, .int (Int32.ofNat (cnt + 1))])).set v (50, (bs.set cnt (Int32.ofNat n)).map .int)) a v ml (cnt + 1) (bs.set cnt (Int32.ofNat n)) ∧ (bs.set cnt (Int32.ofNat n)).take (cnt + 1) = bs.take cnt ++ [Int32.ofNat n] ∧ xFr 0 h ((h.set a (1, [.ref v, .int 0, .int ml, .int (Int32.ofNat (cnt + 1))])).set v (50, (bs.set cnt (Int32.ofNat n)).map .int)) a v v := by
  have hlt := xSb_lt hS
  have hv1 : (h.set a (1, [.ref v, .int 0, .int ml, .int (Int32.ofNat (cnt + 1))]))[v]? = some (50, bs.map .int) := by
    rw [List.getElem?_set_ne hS.1.2.2]
    exact hS.2.2.1
  refine ⟨⟨hS.1, ?_, ?_, ?_, ?_⟩, ?_, ⟨⟨?_, ?_, ?_⟩, ?_, Or.inl rfl, ?_⟩⟩
  · rw [List.getElem?_set_ne hS.1.2.2.symm, List.getElem?_set_self hlt.1]
  · rw [List.getElem?_set_self (by rw [List.length_set]; exact hlt.2)]
  · rw [List.length_set]
    have := hS.2.2.2.1
    omega
  · intro x hx
    rcases List.mem_or_eq_of_mem_set hx with hx | rfl
    · exact hS.2.2.2.2 x hx
    · exact (xbyte2 n hn).2
  · rw [List.take_succ, List.getElem?_set_self hc, List.take_set_of_le (Nat.le_refl _)]
    rfl
  · rw [List.length_set, List.length_set]
    exact Nat.le_refl _
  · rw [List.length_set, List.length_set]
    exact Nat.le_refl _
  · rw [xsz_set hv1 (by simp), xsz_set hS.2.1 (by simp)]
    exact Nat.le_refl _
  · intro q _ hq2 hq3
    rw [List.getElem?_set_ne hq3.symm, List.getElem?_set_ne hq2.symm]
  · intro b1 hb1
    rw [hS.2.2.1] at hb1
    refine ⟨bs.set cnt (Int32.ofNat n), by rw [List.getElem?_set_self (by rw [List.length_set]; exact hlt.2)], ?_⟩
    have e := congrArg (fun o : Option (Nat × List Value) => (o.map fun q => q.2.length)) hb1
    simp only [Option.map_some, List.length_map, Option.some.injEq] at e
    rw [List.length_set]
    exact e
theorem xs_bchar (hS : xSb h a v ml cnt bs) {n : Nat} (hn : n < 128) (hm : cnt + 1 ≤ 100) (hl : h.length < 999990) : xRp K (xZ z) 5 127 [.ref a, .int (Int32.ofNat n)] h (fun r h' => r = .ok (some (.ref a)) ∧ xSbP h a v ml cnt bs 1 [Int32.ofNat n] h') := by
  obtain ⟨hc, hv⟩ := xSb_cell (K := K) hS
  obtain ⟨r, h1, hrun, rfl, v1, bs1, hS1, hb1, ht1, hf1⟩ := xs_ensure (K := K) (z := z) hS hm hl
  obtain ⟨hc1, hv1⟩ := xSb_cell (K := K) hS1
  have hput := xSb_put hS1 (n := n) (by omega) hn
  have hlt := xSb_lt hS
  have hlt1 := xSb_lt hS1
  have hb300 := hS1.2.2.2.1
  refine xRp_of (m := (yJ5_append_3fe6f, cJ5_append_3fe6f, 2, (some (.object "java/lang/AbstractStringBuilder")), [], [], xcJ5_append_3fe6f)) rfl (by show 2 ≤ 2; decide) ?_
  show xBp K (xZ z) 4 2 [] xcJ5_append_3fe6f xcJ5_append_3fe6f [(0, .ref a), (1, .int (Int32.ofNat n))] [] _ _
  have ee : Int32.ofNat cnt + Int32.ofInt 1 = Int32.ofNat (cnt + 1) := by rw [Int32.ofNat_add]; rfl
  refine xp_step rfl ?_
  refine xp_step rfl ?_
  refine xp_getK hc rfl rfl ?_
  refine xp_step rfl ?_
  refine xp_addE ee ?_
  refine xp_virt3 hc rfl (Nat.le_of_ble_eq_true rfl) rfl hrun ?_
  refine xp_step rfl ?_
  refine xp_virt3 hc1 rfl (Nat.le_of_ble_eq_true rfl) rfl (xR_up (by decide) (xs_blatin hS1)) ?_
  refine xp_step rfl ?_
  refine xp_step rfl ?_
  refine xp_callR rfl (xR_up (by decide) (xs_canEnc hn)) ?_
  refine xp_step rfl ?_
  refine xp_step rfl ?_
  refine xp_getK hc1 rfl rfl ?_
  refine xp_step rfl ?_
  refine xp_step rfl ?_
  refine xp_getK hc1 rfl rfl ?_
  refine xp_step rfl ?_
  refine xp_step rfl ?_
  refine xp_addE ee ?_
  refine xp_putH hS1.1.1 hS1.2.1 (Nat.le_of_ble_eq_true rfl) rfl ?_
  refine xp_step rfl ?_
  refine xp_step rfl ?_
  have hv2 : (h1.set a (1, [.ref v1, .int 0, .int ml, .int (Int32.ofNat (cnt + 1))]))[v1]? = some (50, bs1.map .int) := by
    rw [List.getElem?_set_ne hS1.1.2.2]
    exact hS1.2.2.1
  obtain ⟨i1, i2⟩ := xin_ofNat (n := cnt) (t := bs1.length) (by omega) (by omega)
  refine xp_bastH (vs := bs1.map .int) hS1.1.2.1 hv2 (by rw [List.length_map]; exact i1) ?_
  rw [i2]
  have eb : ((Int32.ofNat n).toInt8.toInt32).toInt8.toInt32 = Int32.ofNat n := by rw [(xbyte2 n hn).1, (xbyte2 n hn).1]
  have es : (bs1.map Value.int).set cnt (.int ((Int32.ofNat n).toInt8.toInt32).toInt8.toInt32) = (bs1.set cnt (Int32.ofNat n)).map .int := by rw [eb, List.map_set]
  rw [es]
  refine xp_jump rfl ?_
  refine xp_step rfl ?_
  refine xp_ret rfl ⟨fun v q => by cases q; rfl, rfl, v1, bs1.set cnt (Int32.ofNat n), hput.1, ?_, ?_⟩
  · rw [show cnt + [Int32.ofNat n].length = cnt + 1 from rfl, hput.2.1, ht1]
  · exact xFr_trans hlt.2 hS.1.2.2.symm hf1 hput.2.2
end XBV
