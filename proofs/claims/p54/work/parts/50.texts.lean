/-! TEXTS: strings of small signs, the signs of the buffer -/
theorem xi_ofNat {n : Nat} (h : n < 2147483648) : (Int32.ofNat n).toInt = n ∧ (Int32.ofNat n).toNatClampNeg = n ∧ (0 : Int32) ≤ Int32.ofNat n := by
  have e : (Int32.ofNat n).toInt = n := Int32.toInt_ofNat_small (by omega)
  refine ⟨e, ?_, ?_⟩
  · show (Int32.ofNat n).toInt.toNat = n
    rw [e]
    omega
  · rw [Int32.le_iff_toInt_le, e]
    show (0 : Int) ≤ n
    omega
theorem xin_ofNat {n t : Nat} (h : n < t) (ht : t ≤ 1000000) : xin (Int32.ofNat n) t = true ∧ (Int32.ofNat n).toNatClampNeg = n := by
  obtain ⟨-, a, b⟩ := xi_ofNat (n := n) (by omega)
  refine ⟨?_, a⟩
  unfold xin
  rw [a, decide_eq_true b, decide_eq_true h]
  rfl
theorem xchr : ∀ n, n < 128 → (((Int32.ofNat n) &&& (Int16.ofInt 255).toInt32).toUInt32 % 65536).toInt32 = Int32.ofNat n := by decide +kernel
/-- a string of signs below 128 at a -/
def xStr (K : List (Nat × List Value)) (h : xH) (a : Nat) (s : List Nat) : Prop := ∃ b v2 v3, xcell K h a = some (0, [.ref b, .int 0, v2, v3]) ∧ xcell K h b = some (50, s.map fun n => .int (Int32.ofNat n)) ∧ (∀ n ∈ s, n < 128) ∧ s.length < 1000
section XST
variable {xs : List Int32} {z : Value} {K : List (Nat × List Value)} {Z : List Value} {d nL : Nat} {hs : List (Nat × Nat × Nat × Nat)} {code cs : List xE} {loc : xL} {st : List Value} {P : xA → xH → Prop} {h h2 : xH}
/-- a virtual call on any cell of a known kind, that returns -/
theorem xp_virtK {pc j ln mi n I rc a : Nat} {aux : List Nat} {vs : List Value} {v : Option Value} (hc0 : xcell K h a = some (rc, vs)) (hst : st[n - 1]? = some (.ref a)) (hn : n ≤ st.length) (hcat : decide (((st.drop n).map fun v => v.category).sum ≤ 8) = true) (hc : xRn K Z d mi (st.take n).reverse h (.ok v) h2) (hb : xBp K Z d nL hs code cs loc (v.toList ++ st.drop n) h2 P) : xBp K Z d nL hs code ((pc, .invokevirtual j, ln, 0 :: mi :: n :: I :: rc :: aux) :: cs) loc st h P := by
  refine xp_callR (loc1 := loc) (st1 := st.drop n) (args := (st.take n).reverse) (h1 := h) (mi := mi) (v := v) ?_ hc hb
  have e : xrcv K h st n rc = true := by
    unfold xrcv
    rw [hst]
    dsimp only
    rw [hc0]
    exact decide_eq_true rfl
  have f : xcall mi n loc st h = some (.inr (.inl (mi, (st.take n).reverse, loc, st.drop n, h))) := by
    unfold xcall
    rw [decide_eq_true hn, hcat]
    rfl
  show (match xrcv K h st n rc with | true => xcall mi n loc st h | false => none) = _
  rw [e]
  exact f
/-- a field of any cell -/
theorem xp_getK {pc j ln ci k a : Nat} {aux : List Nat} {vs : List Value} {v : Value} (hc0 : xcell K h a = some (ci, vs)) (hk : vs[k]? = some v) (hv : xknown v = true) (hb : xBp K Z d nL hs code cs loc (v :: st) h P) : xBp K Z d nL hs code ((pc, .getfield j, ln, ci :: k :: aux) :: cs) loc (.ref a :: st) h P := by
  refine xp_step (loc1 := loc) (st1 := v :: st) (h1 := h) ?_ hb
  show xgetf K ci k loc (.ref a :: st) h = _
  unfold xgetf
  dsimp only
  rw [hc0]
  dsimp only
  rw [decide_eq_true rfl]
  dsimp only
  rw [hk]
  dsimp only
  rw [hv]
  rfl
theorem xp_alen {pc ln c a : Nat} {aux : List Nat} {vs : List Value} (hc0 : xcell K h a = some (c, vs)) (hk : (decide (50 ≤ c) && (decide (1000000 ≤ a) || decide (c ≤ 56))) = true) (hb : xBp K Z d nL hs code cs loc (.int (Int32.ofNat vs.length) :: st) h P) : xBp K Z d nL hs code ((pc, .arraylength, ln, aux) :: cs) loc (.ref a :: st) h P := by
  refine xp_step (loc1 := loc) (st1 := .int (Int32.ofNat vs.length) :: st) (h1 := h) ?_ hb
  show xalen K loc (.ref a :: st) h = _
  unfold xalen
  dsimp only
  rw [hc0]
  dsimp only
  rw [hk]
  rfl
/-- a byte of an array -/
theorem xp_bald {pc ln a : Nat} {aux : List Nat} {vs : List Value} {x y : Int32} (hc0 : xcell K h a = some (50, vs)) (hx : xin x vs.length = true) (hk : vs[x.toNatClampNeg]? = some (.int y)) (hb : xBp K Z d nL hs code cs loc (.int y :: st) h P) : xBp K Z d nL hs code ((pc, .baload, ln, aux) :: cs) loc (.int x :: .ref a :: st) h P := by
  refine xp_step (loc1 := loc) (st1 := .int y :: st) (h1 := h) ?_ hb
  show xald K xisI (fun _ t => decide (t = 0)) loc (.int x :: .ref a :: st) h = _
  unfold xald
  dsimp only
  rw [hc0]
  dsimp only
  rw [hx]
  show (match vs[x.toNatClampNeg]? with | some v => (match xisI v with | true => xnx loc (v :: st) h | false => none) | none => none) = _
  rw [hk]
  rfl
theorem xs_coder {a : Nat} {v0 v2 v3 : Value} (hc : xcell K h a = some (0, [v0, .int 0, v2, v3])) : xRn K (xZ z) 1 149 [.ref a] h (.ok (some (.int 0))) h := by
  refine xRp_eq (xRp_of (m := (yJ0_coder_7d493, cJ0_coder_7d493, 1, (some .byte), [], [], xcJ0_coder_7d493)) rfl (by show 1 ≤ 1; decide) ?_)
  show xBp K (xZ z) 0 1 [] xcJ0_coder_7d493 xcJ0_coder_7d493 [(0, .ref a)] [] _ _
  refine xp_step rfl ?_
  refine xp_step rfl ?_
  refine xp_step rfl ?_
  refine xp_getK hc rfl rfl ?_
  refine xp_jump rfl ?_
  exact xp_ret rfl ⟨fun v q => by cases q; rfl, rfl, rfl⟩
theorem xs_latin {a : Nat} {v0 v2 v3 : Value} (hc : xcell K h a = some (0, [v0, .int 0, v2, v3])) : xRn K (xZ z) 1 150 [.ref a] h (.ok (some (.int 1))) h := by
  refine xRp_eq (xRp_of (m := (yJ0_isLatin1_aae02, cJ0_isLatin1_aae02, 1, (some .boolean), [], [], xcJ0_isLatin1_aae02)) rfl (by show 1 ≤ 1; decide) ?_)
  show xBp K (xZ z) 0 1 [] xcJ0_isLatin1_aae02 xcJ0_isLatin1_aae02 [(0, .ref a)] [] _ _
  refine xp_step rfl ?_
  refine xp_step rfl ?_
  refine xp_step rfl ?_
  refine xp_getK hc rfl rfl ?_
  refine xp_step rfl ?_
  refine xp_step rfl ?_
  refine xp_jump rfl ?_
  exact xp_ret rfl ⟨fun v q => by cases q; rfl, rfl, rfl⟩
theorem xshr0 (x : Int32) : x >>> ((0 : Int32) &&& 31) = x := by
  rw [show (0 : Int32) &&& 31 = 0 from by decide]
  exact Int32.shiftRight_zero
theorem xs_slen {a : Nat} {s : List Nat} (hc : xStr K h a s) : xRn K (xZ z) 2 145 [.ref a] h (.ok (some (.int (Int32.ofNat s.length)))) h := by
  obtain ⟨b, v2, v3, h1, h2, h3, h4⟩ := hc
  refine xRp_eq (xRp_of (m := (yJ0_length_8abf5, cJ0_length_8abf5, 1, (some .int), [], [], xcJ0_length_8abf5)) rfl (by show 1 ≤ 1; decide) ?_)
  show xBp K (xZ z) 1 1 [] xcJ0_length_8abf5 xcJ0_length_8abf5 [(0, .ref a)] [] _ _
  refine xp_step rfl ?_
  refine xp_getK h1 rfl rfl ?_
  refine xp_alen h2 (by simp) ?_
  refine xp_step rfl ?_
  refine xp_virtK h1 rfl (Nat.le_of_ble_eq_true rfl) rfl (xs_coder h1) ?_
  refine xp_step rfl ?_
  refine xp_ret rfl ⟨fun v q => by cases q; rfl, ?_, rfl⟩
  rw [List.length_map]
  exact congrArg (fun x => Except.ok (some (Value.int x))) (xshr0 _)
theorem xs_chkP {n t : Nat} (hn : n < t) (ht : t ≤ 1000000) (hz : z.category = 1) : xRn K (xZ z) 1 193 [.int (Int32.ofNat n), .int (Int32.ofNat t), z] h (.ok (some (.int (Int32.ofNat n)))) h := by
  obtain ⟨e1, -, e2⟩ := xi_ofNat (n := n) (by omega)
  obtain ⟨e3, -, -⟩ := xi_ofNat (n := t) (by omega)
  refine xRp_eq (xRp_of (m := (yJ3_checkIndex_8e157, cJ3_checkIndex_8e157, 3, (some .int), [], [], xcJ3_checkIndex_8e157)) rfl (by show 1 + (1 + (z.category + 0)) ≤ 3; rw [hz]; decide) ?_)
  have hl : lv_args 0 [.int (Int32.ofNat n), .int (Int32.ofNat t), z] = [(0, .int (Int32.ofNat n)), (1, .int (Int32.ofNat t)), (2, z)] := rfl
  show xBp K (xZ z) 0 3 [] xcJ3_checkIndex_8e157 xcJ3_checkIndex_8e157 (lv_args 0 [.int (Int32.ofNat n), .int (Int32.ofNat t), z]) [] _ _
  rw [hl]
  refine xp_step rfl ?_
  refine xp_if1 rfl (fun q => absurd (of_decide_eq_true q) (Int32.not_lt.mpr e2)) (fun _ => ?_)
  refine xp_step rfl ?_
  refine xp_step rfl ?_
  refine xp_if2 rfl (fun _ => ?_) (fun q => ?_)
  · refine xp_step rfl ?_
    exact xp_ret rfl ⟨fun v q => by cases q; rfl, rfl, rfl⟩
  · have q := of_decide_eq_false q
    rw [Int32.lt_iff_toInt_lt, e1, e3] at q
    omega
theorem xs_chk {n t : Nat} (hn : n < t) (ht : t ≤ 1000000) (hz : z.category = 1) : xRn K (xZ z) 2 151 [.int (Int32.ofNat n), .int (Int32.ofNat t)] h (.ok none) h := by
  refine xRp_eq (xRp_of (m := (yJ0_checkIndex_df160, cJ0_checkIndex_df160, 2, none, [], [], xcJ0_checkIndex_df160)) rfl (by show 2 ≤ 2; decide) ?_)
  show xBp K (xZ z) 1 2 [] xcJ0_checkIndex_df160 xcJ0_checkIndex_df160 [(0, .int (Int32.ofNat n)), (1, .int (Int32.ofNat t))] [] _ _
  refine xp_step rfl ?_
  refine xp_step rfl ?_
  refine xp_step rfl ?_
  refine xp_callR rfl (xs_chkP hn ht hz) ?_
  refine xp_step rfl ?_
  exact xp_ret rfl ⟨fun v q => by cases q; rfl, rfl, rfl⟩
theorem xs_lchar {b n : Nat} {s : List Nat} (h2 : xcell K h b = some (50, s.map fun n => .int (Int32.ofNat n))) (h3 : ∀ n ∈ s, n < 128) (h4 : s.length < 1000) (hn : n < s.length) (hz : z.category = 1) : xRn K (xZ z) 3 163 [.ref b, .int (Int32.ofNat n)] h (.ok (some (.int (Int32.ofNat (s.getD n 0))))) h := by
  have hl : (s.map fun n => Value.int (Int32.ofNat n)).length = s.length := List.length_map _
  obtain ⟨i1, i2⟩ := xin_ofNat (t := s.length) hn (by omega)
  have hg : s.getD n 0 < 128 := by
    rw [List.getD_eq_getElem?_getD, List.getElem?_eq_getElem hn]
    exact h3 _ (List.getElem_mem hn)
  refine xRp_eq (xRp_of (m := (yJ1_charAt_3b067, cJ1_charAt_3b067, 2, (some .char), [], [], xcJ1_charAt_3b067)) rfl (by show 2 ≤ 2; decide) ?_)
  show xBp K (xZ z) 2 2 [] xcJ1_charAt_3b067 xcJ1_charAt_3b067 [(0, .ref b), (1, .int (Int32.ofNat n))] [] _ _
  refine xp_step rfl ?_
  refine xp_step rfl ?_
  refine xp_alen h2 (by simp) ?_
  rw [hl]
  refine xp_callR rfl (xs_chk hn (by omega) hz) ?_
  refine xp_step rfl ?_
  refine xp_step rfl ?_
  refine xp_bald (y := Int32.ofNat (s.getD n 0)) h2 (by rw [hl]; exact i1) ?_ ?_
  · rw [i2, List.getElem?_map, List.getD_eq_getElem?_getD, List.getElem?_eq_getElem hn]
    rfl
  refine xp_step rfl ?_
  refine xp_step rfl ?_
  refine xp_step rfl ?_
  have e := xchr _ hg
  refine xp_ret rfl ⟨fun v q => ?_, ?_, rfl⟩
  · cases q
    show xfit .char (.int (((Int32.ofNat (s.getD n 0)) &&& (Int16.ofInt 255).toInt32).toUInt32 % 65536).toInt32) = true
    rw [e]
    have k := (show ∀ n, n < 128 → xfit .char (.int (Int32.ofNat n)) = true by decide +kernel) _ hg
    exact k
  · exact congrArg (fun x => Except.ok (some (Value.int x))) e
theorem xs_char {a n : Nat} {s : List Nat} (hc : xStr K h a s) (hn : n < s.length) (hz : z.category = 1) : xRn K (xZ z) 4 146 [.ref a, .int (Int32.ofNat n)] h (.ok (some (.int (Int32.ofNat (s.getD n 0))))) h := by
  obtain ⟨b, v2, v3, h1, h2, h3, h4⟩ := hc
  have hg : s.getD n 0 < 128 := by
    rw [List.getD_eq_getElem?_getD, List.getElem?_eq_getElem hn]
    exact h3 _ (List.getElem_mem hn)
  refine xRp_eq (xRp_of (m := (yJ0_charAt_5068e, cJ0_charAt_5068e, 2, (some .char), [], [], xcJ0_charAt_5068e)) rfl (by show 2 ≤ 2; decide) ?_)
  show xBp K (xZ z) 3 2 [] xcJ0_charAt_5068e xcJ0_charAt_5068e [(0, .ref a), (1, .int (Int32.ofNat n))] [] _ _
  refine xp_step rfl ?_
  refine xp_virtK h1 rfl (Nat.le_of_ble_eq_true rfl) rfl (xR_up (by decide) (xs_latin h1)) ?_
  refine xp_step rfl ?_
  refine xp_step rfl ?_
  refine xp_getK h1 rfl rfl ?_
  refine xp_step rfl ?_
  refine xp_callR rfl (xs_lchar h2 h3 h4 hn hz) ?_
  refine xp_ret rfl ⟨fun v q => ?_, rfl, rfl⟩
  cases q
  exact (show ∀ n, n < 128 → xfit .char (.int (Int32.ofNat n)) = true by decide +kernel) _ hg
end XST
/-! the buffer -/
def xSig (N : Nat → Nat → Int32) (x : Int32) : Int32 := if 0 ≤ x ∧ (x < N 231 2 ∧ x < 60) then N 232 x.toNatClampNeg else -1
theorem xsg_cell : ∀ k, k < 60 → xnu 232 k = true := by decide +kernel
theorem xin60 {x : Int32} (h0 : 0 ≤ x) (h8 : x < 60) : xin x 60 = true ∧ x.toNatClampNeg < 60 := by
  have h1 : x.toNatClampNeg < 60 := by
    have a := Int32.le_iff_toInt_le.mp h0
    have b := Int32.lt_iff_toInt_lt.mp h8
    have c : (0 : Int32).toInt = 0 := rfl
    have d : (60 : Int32).toInt = 60 := rfl
    rw [c] at a
    rw [d] at b
    show x.toInt.toNat < 60
    omega
  refine ⟨?_, h1⟩
  unfold xin
  rw [decide_eq_true h0, decide_eq_true h1]
  rfl
/-- a sign put into the array of chars -/
def xc16 (x : Int32) : Int32 := x.toUInt32.toUInt16.toUInt32.toInt32
def xNfeed (N : Nat → Nat → Int32) (c : Int32) : Nat → Nat → Int32 := xupN (xupN N 232 (N 231 2).toNatClampNeg (xc16 c)) 231 2 (N 231 2 + 1)
section XTX
variable {K : List (Nat × List Value)} {Z : List Value} {pre g : xH} {B L : Nat} {N : Nat → Nat → Int32} {C : Nat → Nat} {P : xA → xH → Prop}
theorem xp_cald {d nL pc ln : Nat} {hs : List (Nat × Nat × Nat × Nat)} {code cs : List xE} {loc : xL} {st : List Value} {aux : List Nat} {y : Int32} (hB : xBok pre B) (hy : xin y 60 = true) (hb : xBp K Z d nL hs code cs loc (.int (N 232 y.toNatClampNeg) :: st) (xHn pre B N C L g) P) : xBp K Z d nL hs code ((pc, .caload, ln, aux) :: cs) loc (.int y :: .ref (B + 232) :: st) (xHn pre B N C L g) P := by
  have hlt : y.toNatClampNeg < 60 := of_decide_eq_true (Bool.and_eq_true _ _ |>.mp hy).2
  have hn := xsg_cell _ hlt
  refine xp_step (loc1 := loc) (st1 := .int (N 232 y.toNatClampNeg) :: st) (h1 := xHn pre B N C L g) ?_ hb
  have e := xm_ald (K := K) (loc := loc) (st := st) (g := g) (m := xMv B N C L) (i := 232) (ci := 1) (t := 60) (p := xisI) (q := fun a t => decide (a < 1000000) && decide (t = 1)) hB.1 hB.2 (by decide) rfl (by
    have := hB.2
    rw [decide_eq_true (show B + 232 < 1000000 by omega)]
    rfl) hy (by rw [xMv_nu hn]; rfl)
  rw [xMv_nu hn] at e
  exact e
theorem xp_cast {d nL pc ln : Nat} {hs : List (Nat × Nat × Nat × Nat)} {code cs : List xE} {loc : xL} {st : List Value} {aux : List Nat} {x y : Int32} (hB : xBok pre B) (hy : xin y 60 = true) (hb : xBp K Z d nL hs code cs loc st (xHn pre B (xupN N 232 y.toNatClampNeg (xc16 x)) C L g) P) : xBp K Z d nL hs code ((pc, .castore, ln, aux) :: cs) loc (.int x :: .int y :: .ref (B + 232) :: st) (xHn pre B N C L g) P := by
  have hlt : y.toNatClampNeg < 60 := of_decide_eq_true (Bool.and_eq_true _ _ |>.mp hy).2
  have hn := xsg_cell _ hlt
  refine xp_step (loc1 := loc) (st1 := st) (h1 := xHn pre B (xupN N 232 y.toNatClampNeg (xc16 x)) C L g) ?_ hb
  have e := xm_ast (loc := loc) (st := st) (g := g) (m := xMv B N C L) (i := 232) (ci := 1) (t := 60) (f := xb16) (v := .int x) (w := .int (xc16 x)) hB.1 hB.2 (by decide) rfl hy rfl
  rw [xMv_up hn] at e
  exact e
theorem xs_full (hB : xBok pre B) : xRn K Z 2 48 [.ref (B + 231)] (xHn pre B N C L g) (.ok (some (.int (if xwin (N 231 2) 0 59 = true then 0 else 1)))) (xHn pre B N C L g) := by
  refine xRp_eq (xRp_of (m := (yX8_isFull, cX8_isFull, 1, (some .boolean), [], [], xcX8_isFull)) rfl (by show 1 ≤ 1; decide) ?_)
  show xBp K Z 1 1 [] xcX8_isFull xcX8_isFull [(0, .ref (B + 231))] [] _ _
  refine xp_step rfl ?_
  refine xp_get hB (i := 231) (k := 2) (by decide) rfl (by decide) (by decide) ?_
  refine xp_step rfl ?_
  refine xp_step rfl ?_
  refine xp_callR rfl (xs_within _ (N 231 2) 0 59) ?_
  cases e : xwin (N 231 2) 0 59 with
  | true =>
    refine xp_jump rfl ?_
    refine xp_step rfl ?_
    exact xp_ret rfl ⟨fun v q => by cases q; rfl, rfl, rfl⟩
  | false =>
    refine xp_step rfl ?_
    refine xp_step rfl ?_
    refine xp_jump rfl ?_
    exact xp_ret rfl ⟨fun v q => by cases q; rfl, rfl, rfl⟩
theorem xwin60 {x : Int32} (h : xwin x 0 59 = true) : xin x 60 = true := by
  unfold xwin at h
  simp only [Bool.and_eq_true, decide_eq_true_eq] at h
  refine (xin60 h.1 ?_).1
  have a := h.2
  rw [Int32.le_iff_toInt_le] at a
  rw [Int32.lt_iff_toInt_lt]
  have c : (59 : Int32).toInt = 59 := rfl
  have d : (60 : Int32).toInt = 60 := rfl
  omega
theorem xs_tappend (hB : xBok pre B) (c : Int32) (hf : xwin (N 231 2) 0 59 = true) : xRn K Z 3 49 [.ref (B + 231), .int c] (xHn pre B N C L g) (.ok (some (.int (N 231 2 + 1)))) (xHn pre B (xNfeed N c) C L g) := by
  have hfull := xs_full (K := K) (Z := Z) (N := N) (L := L) (C := C) (g := g) hB
  rw [if_pos hf] at hfull
  have e2 : xupN N 232 (N 231 2).toNatClampNeg (xc16 c) 231 2 = N 231 2 := by simp [xupN]
  refine xRp_eq (xRp_of (m := (yX8_append, cX8_append, 2, (some .int), [], [], xcX8_append)) rfl (by show 2 ≤ 2; decide) ?_)
  show xBp K Z 2 2 [] xcX8_append xcX8_append [(0, .ref (B + 231)), (1, .int c)] [] _ _
  refine xp_step rfl ?_
  refine xp_virt (i := 231) hB (by decide) rfl rfl (Nat.le_of_ble_eq_true rfl) rfl hfull ?_
  refine xp_step rfl ?_
  refine xp_step rfl ?_
  refine xp_ref hB (i := 231) (k := 0) (q := 232) (by decide) rfl (by decide) rfl ?_
  refine xp_step rfl ?_
  refine xp_get hB (i := 231) (k := 2) (by decide) rfl (by decide) (by decide) ?_
  refine xp_step rfl ?_
  refine xp_cast hB (xwin60 hf) ?_
  refine xp_step rfl ?_
  refine xp_step rfl ?_
  refine xp_get hB (i := 231) (k := 2) (by decide) rfl (by decide) (by decide) ?_
  rw [e2]
  refine xp_step rfl ?_
  refine xp_step rfl ?_
  refine xp_put (x := N 231 2 + 1) hB (i := 231) (k := 2) (by decide) rfl (by decide) (by decide) rfl ?_
  change xBp K Z 2 2 [] xcX8_append _ _ _ (xHn pre B (xNfeed N c) C L g) _
  refine xp_step rfl ?_
  refine xp_get hB (i := 231) (k := 2) (by decide) rfl (by decide) (by decide) ?_
  refine xp_ret rfl ⟨fun v q => by cases q; rfl, ?_, rfl⟩
  rw [show xNfeed N c 231 2 = N 231 2 + 1 from by unfold xNfeed xupN; rw [if_pos ⟨rfl, rfl⟩]]
theorem xo_feed_ (hB : xBok pre B) (c : Int32) (hf : xwin (N 231 2) 0 59 = true) : xRn K Z 4 97 [.ref (B + 0), .int c] (xHn pre B N C L g) (.ok (some (.int (N 231 2 + 1)))) (xHn pre B (xNfeed N c) C L g) := by
  have hfull := xs_full (K := K) (Z := Z) (N := N) (L := L) (C := C) (g := g) hB
  rw [if_pos hf] at hfull
  refine xRp_eq (xRp_of (m := (yX9_feed, cX9_feed, 2, (some .int), [], [], xcX9_feed)) rfl (by show 2 ≤ 2; decide) ?_)
  show xBp K Z 3 2 [] xcX9_feed xcX9_feed [(0, .ref (B + 0)), (1, .int c)] [] _ _
  refine xp_step rfl ?_
  refine xp_ref hB (i := 0) (k := 4) (q := 231) (by decide) rfl (by decide) rfl ?_
  refine xp_virt (i := 231) hB (by decide) rfl rfl (Nat.le_of_ble_eq_true rfl) rfl (xR_up (by decide) hfull) ?_
  refine xp_jump rfl ?_
  refine xp_step rfl ?_
  refine xp_ref hB (i := 0) (k := 4) (q := 231) (by decide) rfl (by decide) rfl ?_
  refine xp_step rfl ?_
  refine xp_virt (i := 231) hB (by decide) rfl rfl (Nat.le_of_ble_eq_true rfl) rfl (xs_tappend hB c hf) ?_
  exact xp_ret rfl ⟨fun v q => by cases q; rfl, rfl, rfl⟩
theorem xs_empty (hB : xBok pre B) : xRn K Z 1 50 [.ref (B + 231)] (xHn pre B N C L g) (.ok none) (xHn pre B (xupN N 231 2 0) C L g) := by
  refine xRp_eq (xRp_of (m := (yX8_empty, cX8_empty, 1, none, [], [], xcX8_empty)) rfl (by show 1 ≤ 1; decide) ?_)
  show xBp K Z 0 1 [] xcX8_empty xcX8_empty [(0, .ref (B + 231))] [] _ _
  refine xp_step rfl ?_
  refine xp_step rfl ?_
  refine xp_put (x := 0) hB (i := 231) (k := 2) (by decide) rfl (by decide) (by decide) rfl ?_
  exact xp_ret rfl ⟨fun v q => by cases q; rfl, rfl, rfl⟩
theorem xs_cmdAt (hB : xBok pre B) {n : Nat} (hn : n < 16) : xRn K Z 1 51 [.ref (B + 231), .int (Int32.ofNat n)] (xHn pre B N C L g) (.ok (some (.ref (B + (234 + n))))) (xHn pre B N C L g) := by
  obtain ⟨i1, i2⟩ := xin_ofNat (t := 16) hn (by decide)
  obtain ⟨e1, -, e2⟩ := xi_ofNat (n := n) (by omega)
  refine xRp_eq (xRp_of (m := (yX8_commandAt, cX8_commandAt, 2, (some (.object "RiverReaches$Command")), [], [], xcX8_commandAt)) rfl (by show 2 ≤ 2; decide) ?_)
  show xBp K Z 0 2 [] xcX8_commandAt xcX8_commandAt [(0, .ref (B + 231)), (1, .int (Int32.ofNat n))] [] _ _
  refine xp_step rfl ?_
  refine xp_ref hB (i := 231) (k := 1) (q := 233) (by decide) rfl (by decide) rfl ?_
  refine xp_step rfl ?_
  refine xp_if1 rfl (fun q => absurd (of_decide_eq_true q) (Int32.not_lt.mpr e2)) (fun _ => ?_)
  refine xp_step rfl ?_
  refine xp_step rfl ?_
  refine xp_if2 rfl (fun q => ?_) (fun _ => ?_)
  · have q := of_decide_eq_true q
    rw [Int32.le_iff_toInt_le, e1, show ((Int8.ofInt 16).toInt32).toInt = 16 from rfl] at q
    omega
  refine xp_step rfl ?_
  refine xp_jump rfl ?_
  refine xp_aald hB (i := 233) (q := 234 + n) (by decide) (show xKd 233 = (50 + 3, 16) from rfl) (by decide) i1 (by rw [i2]; rfl) ?_
  exact xp_ret rfl ⟨fun v q => by cases q; rfl, rfl, rfl⟩
theorem xs_sig (hB : xBok pre B) (x : Int32) : xRn K Z 1 60 [.ref (B + 231), .int x] (xHn pre B N C L g) (.ok (some (.int (xSig N x)))) (xHn pre B N C L g) := by
  refine xRp_eq (xRp_of (m := (yX8_signAt, cX8_signAt, 2, (some .int), [], [], xcX8_signAt)) rfl (by show 2 ≤ 2; decide) ?_)
  show xBp K Z 0 2 [] xcX8_signAt xcX8_signAt [(0, .ref (B + 231)), (1, .int x)] [] _ _
  have bad : ¬ (0 ≤ x ∧ (x < N 231 2 ∧ x < 60)) → xBp K Z 0 2 [] xcX8_signAt (xseek xcX8_signAt 27) [(0, .ref (B + 231)), (1, .int x)] [] (xHn pre B N C L g) (fun r h' => (∀ v, r = .ok v → xrfit (some .int) v = true) ∧ r = .ok (some (.int (xSig N x))) ∧ h' = xHn pre B N C L g) := by
    intro hb
    refine xp_step rfl ?_
    refine xp_ret rfl ⟨fun v q => by cases q; rfl, ?_, rfl⟩
    unfold xSig
    rw [if_neg hb]
    rfl
  refine xp_step rfl ?_
  refine xp_if1 rfl (fun q => bad (fun h => absurd (of_decide_eq_true q) (Int32.not_lt.mpr h.1))) (fun q1 => ?_)
  refine xp_step rfl ?_
  refine xp_step rfl ?_
  refine xp_get hB (i := 231) (k := 2) (by decide) rfl (by decide) (by decide) ?_
  refine xp_if2 rfl (fun q => bad (fun h => absurd h.2.1 (Int32.not_lt.mpr (of_decide_eq_true q)))) (fun q2 => ?_)
  refine xp_step rfl ?_
  refine xp_step rfl ?_
  refine xp_if2 rfl (fun q => bad (fun h => absurd h.2.2 (Int32.not_lt.mpr (of_decide_eq_true q)))) (fun q3 => ?_)
  have h0 : (0 : Int32) ≤ x := Int32.not_lt.mp (of_decide_eq_false q1)
  have h1 : x < N 231 2 := Int32.not_le.mp (of_decide_eq_false q2)
  have h2 : x < 60 := Int32.not_le.mp (of_decide_eq_false q3)
  refine xp_step rfl ?_
  refine xp_ref hB (i := 231) (k := 0) (q := 232) (by decide) rfl (by decide) rfl ?_
  refine xp_step rfl ?_
  refine xp_cald hB (xin60 h0 h2).1 ?_
  refine xp_jump rfl ?_
  refine xp_ret rfl ⟨fun v q => by cases q; rfl, ?_, rfl⟩
  unfold xSig
  rw [if_pos ⟨h0, h1, h2⟩]
end XTX
