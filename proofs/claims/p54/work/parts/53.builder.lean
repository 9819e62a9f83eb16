/-! HEAPS OF ANY FORM: a builder of texts -/
theorem xi_lt {a b : Nat} (ha : a < 2147483648) (hb : b < 2147483648) : (Int32.ofNat a < Int32.ofNat b) ↔ a < b := by
  rw [Int32.lt_iff_toInt_lt, (xi_ofNat ha).1, (xi_ofNat hb).1]
  omega
theorem xi_le {a b : Nat} (ha : a < 2147483648) (hb : b < 2147483648) : (Int32.ofNat a ≤ Int32.ofNat b) ↔ a ≤ b := by
  rw [Int32.le_iff_toInt_le, (xi_ofNat ha).1, (xi_ofNat hb).1]
  omega
theorem xi_sub {a b : Nat} (ha : a < 2147483648) (hb : b < 2147483648) : (Int32.ofNat a - Int32.ofNat b).toInt = (a : Int) - b := by
  rw [Int32.toInt_sub, (xi_ofNat ha).1, (xi_ofNat hb).1]
  exact Int.bmod_eq_of_le (by omega) (by omega)
theorem xi_subN {a b : Nat} (ha : a < 2147483648) (h : b ≤ a) : Int32.ofNat a - Int32.ofNat b = Int32.ofNat (a - b) := by
  apply Int32.toInt_inj.mp
  rw [xi_sub ha (by omega), (xi_ofNat (n := a - b) (by omega)).1]
  omega
theorem xshl0 (x : Int32) : x <<< ((0 : Int32) &&& 31) = x := by
  rw [show (0 : Int32) &&& 31 = 0 from by decide]
  exact Int32.shiftLeft_zero
section XHE
variable {z : Value} {K : List (Nat × List Value)} {Z : List Value} {d nL : Nat} {hs : List (Nat × Nat × Nat × Nat)} {code cs : List xE} {loc : xL} {st : List Value} {P : xA → xH → Prop} {h h2 : xH}
theorem xc_heap {a : Nat} (ha : a < 1000000) : xcell K h a = h[a]? := by
  unfold xcell
  rw [decide_eq_true ha]
theorem xp_putH {pc j0 ln ci k a : Nat} {aux : List Nat} {vs : List Value} {v : Value} (ha : a < 1000000) (hc : h[a]? = some (ci, vs)) (hk : k < vs.length) (hf : xfit (xFt ci k) v = true) (hb : xBp K Z d nL hs code cs loc st (h.set a (ci, vs.set k v)) P) : xBp K Z d nL hs code ((pc, .putfield j0, ln, ci :: k :: aux) :: cs) loc (v :: .ref a :: st) h P := by
  refine xp_step (loc1 := loc) (st1 := st) (h1 := h.set a (ci, vs.set k v)) ?_ hb
  show xputf (xFt ci k) ci k loc (v :: .ref a :: st) h = _
  unfold xputf
  dsimp only
  rw [decide_eq_true ha]
  dsimp only
  rw [hc]
  dsimp only
  rw [decide_eq_true rfl, decide_eq_true hk, hf]
  rfl
theorem xp_bastH {pc ln a : Nat} {aux : List Nat} {vs : List Value} {x y : Int32} (ha : a < 1000000) (hc : h[a]? = some (50, vs)) (hx : xin y vs.length = true) (hb : xBp K Z d nL hs code cs loc st (h.set a (50, vs.set y.toNatClampNeg (.int x.toInt8.toInt32))) P) : xBp K Z d nL hs code ((pc, .bastore, ln, aux) :: cs) loc (.int x :: .int y :: .ref a :: st) h P := by
  refine xp_step (loc1 := loc) (st1 := st) (h1 := h.set a (50, vs.set y.toNatClampNeg (.int x.toInt8.toInt32))) ?_ hb
  show xast 0 xb8 loc (.int x :: .int y :: .ref a :: st) h = _
  unfold xast
  dsimp only
  rw [decide_eq_true ha]
  dsimp only
  rw [hc]
  dsimp only
  rw [hx]
  rfl
theorem xp_acopy {pc j ln a b n sp dp : Nat} {aux : List Nat} {f g : List Value} (ha : a < 1000000) (hne : a ≠ b) (hg : h[a]? = some (50, g)) (hf : xcell K h b = some (50, f)) (h1 : sp + n ≤ f.length) (h2 : dp + n ≤ g.length) (hl1 : f.length < 1000000) (hl2 : g.length < 1000000) (hall : f.all (fun v => xfit .byte v) = true) (hcat : decide ((st.map fun v => v.category).sum ≤ 8) = true) (hb : xBp K Z d nL hs code cs loc st (h.set a (50, xcpy f g sp dp n)) P) : xBp K Z d nL hs code ((pc, .invokestatic j, ln, 8 :: aux) :: cs) loc (.int (Int32.ofNat n) :: .int (Int32.ofNat dp) :: .ref a :: .int (Int32.ofNat sp) :: .ref b :: st) h P := by
  refine xp_step (loc1 := loc) (st1 := st) (h1 := h.set a (50, xcpy f g sp dp n)) ?_ hb
  obtain ⟨-, e1, f1⟩ := xi_ofNat (n := n) (by omega)
  obtain ⟨-, e2, f2⟩ := xi_ofNat (n := dp) (by omega)
  obtain ⟨-, e3, f3⟩ := xi_ofNat (n := sp) (by omega)
  show xcopy K loc (.int (Int32.ofNat n) :: .int (Int32.ofNat dp) :: .ref a :: .int (Int32.ofNat sp) :: .ref b :: st) h = _
  unfold xcopy
  dsimp only
  rw [show (decide (a < 1000000) && (!decide (a = b) && decide ((st.map fun v => v.category).sum ≤ 8))) = true from by rw [decide_eq_true ha, decide_eq_false hne, hcat]; rfl]
  try dsimp only
  rw [hg, hf]
  try dsimp only
  rw [e1, e2, e3, decide_eq_true f1, decide_eq_true f2, decide_eq_true f3, decide_eq_true h1, decide_eq_true h2, hall]
  rfl
/-- calls on a builder -/
theorem xp_virt3 {pc j ln mi n I a : Nat} {aux : List Nat} {vs : List Value} {v : Option Value} (hc0 : xcell K h a = some (1, vs)) (hst : st[n - 1]? = some (.ref a)) (hn : n ≤ st.length) (hcat : decide (((st.drop n).map fun v => v.category).sum ≤ 8) = true) (hc : xRn K Z d mi (st.take n).reverse h (.ok v) h2) (hb : xBp K Z d nL hs code cs loc (v.toList ++ st.drop n) h2 P) : xBp K Z d nL hs code ((pc, .invokevirtual j, ln, 3 :: mi :: n :: I :: 0 :: aux) :: cs) loc st h P := by
  refine xp_callR (loc1 := loc) (st1 := st.drop n) (args := (st.take n).reverse) (h1 := h) (mi := mi) (v := v) ?_ hc hb
  have e : xrcv K h st n 1 = true := by
    unfold xrcv
    rw [hst]
    dsimp only
    rw [hc0]
    rfl
  have f : xcall mi n loc st h = some (.inr (.inl (mi, (st.take n).reverse, loc, st.drop n, h))) := by
    unfold xcall
    rw [decide_eq_true hn, hcat]
    rfl
  show (match xrcv K h st n 1 with | true => xcall mi n loc st h | false => none) = _
  rw [e]
  exact f
theorem xp_spec4 {pc j ln mi n a : Nat} {aux : List Nat} {vs : List Value} {v : Option Value} (hc0 : xcell K h a = some (1, vs)) (hst : st[n - 1]? = some (.ref a)) (hn : n ≤ st.length) (hcat : decide (((st.drop n).map fun v => v.category).sum ≤ 8) = true) (hc : xRn K Z d mi (st.take n).reverse h (.ok v) h2) (hb : xBp K Z d nL hs code cs loc (v.toList ++ st.drop n) h2 P) : xBp K Z d nL hs code ((pc, .invokespecial j, ln, 4 :: mi :: n :: aux) :: cs) loc st h P := by
  refine xp_callR (loc1 := loc) (st1 := st.drop n) (args := (st.take n).reverse) (h1 := h) (mi := mi) (v := v) ?_ hc hb
  have e : xrcv K h st n 1 = true := by
    unfold xrcv
    rw [hst]
    dsimp only
    rw [hc0]
    rfl
  have e2 : xrf st n = true := by
    unfold xrf
    rw [hst]
  have f : xcall mi n loc st h = some (.inr (.inl (mi, (st.take n).reverse, loc, st.drop n, h))) := by
    unfold xcall
    rw [decide_eq_true hn, hcat]
    rfl
  show (match xrf st n && (false || xrcv K h st n 1) with | true => xcall mi n loc st h | false => none) = _
  rw [e, e2]
  exact f
theorem xp_spec2 {pc j ln mi n a : Nat} {aux : List Nat} {v : Option Value} (hst : st[n - 1]? = some (.ref a)) (hn : n ≤ st.length) (hcat : decide (((st.drop n).map fun v => v.category).sum ≤ 8) = true) (hc : xRn K Z d mi (st.take n).reverse h (.ok v) h2) (hb : xBp K Z d nL hs code cs loc (v.toList ++ st.drop n) h2 P) : xBp K Z d nL hs code ((pc, .invokespecial j, ln, 2 :: mi :: n :: aux) :: cs) loc st h P := by
  refine xp_callR (loc1 := loc) (st1 := st.drop n) (args := (st.take n).reverse) (h1 := h) (mi := mi) (v := v) ?_ hc hb
  have e2 : xrf st n = true := by
    unfold xrf
    rw [hst]
  have f : xcall mi n loc st h = some (.inr (.inl (mi, (st.take n).reverse, loc, st.drop n, h))) := by
    unfold xcall
    rw [decide_eq_true hn, hcat]
    rfl
  show (match xrf st n && (true || xrcv K h st n 1) with | true => xcall mi n loc st h | false => none) = _
  rw [e2]
  exact f
theorem xp_addE {pc ln : Nat} {aux : List Nat} {x y w : Int32} (hw : x + y = w) (hb : xBp K Z d nL hs code cs loc (.int w :: st) h P) : xBp K Z d nL hs code ((pc, .iadd, ln, aux) :: cs) loc (.int y :: .int x :: st) h P := by
  refine xp_step (loc1 := loc) (st1 := .int w :: st) (h1 := h) ?_ hb
  rw [← hw]
  rfl
theorem xp_subE {pc ln : Nat} {aux : List Nat} {x y w : Int32} (hw : x - y = w) (hb : xBp K Z d nL hs code cs loc (.int w :: st) h P) : xBp K Z d nL hs code ((pc, .isub, ln, aux) :: cs) loc (.int y :: .int x :: st) h P := by
  refine xp_step (loc1 := loc) (st1 := .int w :: st) (h1 := h) ?_ hb
  rw [← hw]
  rfl
theorem xp_shl0 {pc ln : Nat} {aux : List Nat} {x : Int32} (hb : xBp K Z d nL hs code cs loc (.int x :: st) h P) : xBp K Z d nL hs code ((pc, .ishl, ln, aux) :: cs) loc (.int 0 :: .int x :: st) h P := by
  refine xp_step (loc1 := loc) (st1 := .int x :: st) (h1 := h) ?_ hb
  show xii (fun x y => x <<< (y &&& 31)) loc (.int 0 :: .int x :: st) h = _
  unfold xii
  dsimp only
  rw [xshl0]
  rfl
theorem xp_shr0 {pc ln : Nat} {aux : List Nat} {x : Int32} (hb : xBp K Z d nL hs code cs loc (.int x :: st) h P) : xBp K Z d nL hs code ((pc, .ishr, ln, aux) :: cs) loc (.int 0 :: .int x :: st) h P := by
  refine xp_step (loc1 := loc) (st1 := .int x :: st) (h1 := h) ?_ hb
  show xii (fun x y => x >>> (y &&& 31)) loc (.int 0 :: .int x :: st) h = _
  unfold xii
  dsimp only
  rw [xshr0]
  rfl
theorem xp_newb {pc ln n : Nat} {aux : List Nat} (hn : n ≤ 60000) (hl : h.length < 1000000) (hb : xBp K Z d nL hs code cs loc (.ref h.length :: st) (h ++ [(50, List.replicate n (.int 0))]) P) : xBp K Z d nL hs code ((pc, .newarray .byte, ln, aux) :: cs) loc (.int (Int32.ofNat n) :: st) h P := by
  refine xp_step (loc1 := loc) (st1 := .ref h.length :: st) (h1 := h ++ [(50, List.replicate n (.int 0))]) ?_ hb
  obtain ⟨-, e1, f1⟩ := xi_ofNat (n := n) (by omega)
  show xnewa 0 (.int 0) loc (.int (Int32.ofNat n) :: st) h = _
  unfold xnewa
  dsimp only
  rw [e1, decide_eq_true f1, decide_eq_true hn, decide_eq_true hl]
  rfl
end XHE
/-- a builder at a, its bytes at v: so many signs -/
def xSb (h : xH) (a v : Nat) (ml : Int32) (cnt : Nat) (bs : List Int32) : Prop := (a < 1000000 ∧ v < 1000000 ∧ a ≠ v) ∧ h[a]? = some (1, [.ref v, .int 0, .int ml, .int (Int32.ofNat cnt)]) ∧ h[v]? = some (50, bs.map .int) ∧ (cnt ≤ bs.length ∧ bs.length ≤ 300) ∧ ∀ x ∈ bs, xfit .byte (.int x) = true
/-- nothing else changed, at most m cells made -/
def xFr (m : Nat) (h h' : xH) (a v v' : Nat) : Prop := (h.length ≤ h'.length ∧ (h'.length ≤ h.length + m ∧ xsz h' ≤ xsz h + 300 * m)) ∧ (∀ q, q < h.length → q ≠ a → q ≠ v → h'[q]? = h[q]?) ∧ (v' = v ∨ h.length ≤ v') ∧ (∀ b1 : List Int32, h[v]? = some (50, b1.map .int) → ∃ b2 : List Int32, h'[v]? = some (50, b2.map .int) ∧ b2.length = b1.length)
theorem xFr_refl (h : xH) (a v : Nat) : xFr 0 h h a v v := ⟨⟨Nat.le_refl _, Nat.le_refl _, Nat.le_refl _⟩, fun _ _ _ _ => rfl, Or.inl rfl, fun b1 h1 => ⟨b1, h1, rfl⟩⟩
theorem xFr_trans {m1 m2 : Nat} {h h1 h2 : xH} {a v v1 v2 : Nat} (hv : v < h.length) (hav : v ≠ a) (f1 : xFr m1 h h1 a v v1) (f2 : xFr m2 h1 h2 a v1 v2) : xFr (m1 + m2) h h2 a v v2 := by
  obtain ⟨⟨a1, a2, a3⟩, b, c, e⟩ := f1
  obtain ⟨⟨a1', a2', a3'⟩, b', c', e'⟩ := f2
  refine ⟨⟨by omega, by omega, by omega⟩, fun q hq1 hq2 hq3 => ?_, by omega, fun b1 hb1 => ?_⟩
  · rw [b' q (by omega) hq2 (by omega)]
    exact b q hq1 hq2 hq3
  · obtain ⟨b2, hb2, hl2⟩ := e b1 hb1
    by_cases hvv : v1 = v
    · subst hvv
      obtain ⟨b3, hb3, hl3⟩ := e' b2 hb2
      exact ⟨b3, hb3, by omega⟩
    · refine ⟨b2, ?_, hl2⟩
      rw [b' v (by omega) hav (by omega)]
      exact hb2
theorem xSb_lt {h : xH} {a v : Nat} {ml : Int32} {cnt : Nat} {bs : List Int32} (hS : xSb h a v ml cnt bs) : a < h.length ∧ v < h.length := ⟨(List.getElem?_eq_some_iff.mp hS.2.1).1, (List.getElem?_eq_some_iff.mp hS.2.2.1).1⟩
section XBU
variable {z : Value} {K : List (Nat × List Value)} {d nL : Nat} {P : xA → xH → Prop} {h h2 : xH} {a v cnt : Nat} {ml : Int32} {bs : List Int32}
theorem xs_blatin (hS : xSb h a v ml cnt bs) : xRn K (xZ z) 1 130 [.ref a] h (.ok (some (.int 1))) h := by
  have hc : xcell K h a = some (1, [.ref v, .int 0, .int ml, .int (Int32.ofNat cnt)]) := by rw [xc_heap hS.1.1]; exact hS.2.1
  refine xRp_eq (xRp_of (m := (yJ5_isLatin1_aae02, cJ5_isLatin1_aae02, 1, (some .boolean), [], [], xcJ5_isLatin1_aae02)) rfl (by show 1 ≤ 1; decide) ?_)
  show xBp K (xZ z) 0 1 [] xcJ5_isLatin1_aae02 xcJ5_isLatin1_aae02 [(0, .ref a)] [] _ _
  refine xp_step rfl ?_
  refine xp_step rfl ?_
  refine xp_step rfl ?_
  refine xp_getK hc rfl rfl ?_
  refine xp_step rfl ?_
  refine xp_step rfl ?_
  refine xp_jump rfl ?_
  exact xp_ret rfl ⟨fun v q => by cases q; rfl, rfl, rfl⟩
theorem xs_blen (hS : xSb h a v ml cnt bs) : xRn K (xZ z) 1 119 [.ref a] h (.ok (some (.int (Int32.ofNat cnt)))) h := by
  have hc : xcell K h a = some (1, [.ref v, .int 0, .int ml, .int (Int32.ofNat cnt)]) := by rw [xc_heap hS.1.1]; exact hS.2.1
  refine xRp_eq (xRp_of (m := (yJ5_length_8abf5, cJ5_length_8abf5, 1, (some .int), [], [], xcJ5_length_8abf5)) rfl (by show 1 ≤ 1; decide) ?_)
  show xBp K (xZ z) 0 1 [] xcJ5_length_8abf5 xcJ5_length_8abf5 [(0, .ref a)] [] _ _
  refine xp_step rfl ?_
  refine xp_getK hc rfl rfl ?_
  exact xp_ret rfl ⟨fun v q => by cases q; rfl, rfl, rfl⟩
theorem xo_blen (hS : xSb h a v ml cnt bs) : xRn K (xZ z) 2 161 [.ref a] h (.ok (some (.int (Int32.ofNat cnt)))) h := by
  have hc : xcell K h a = some (1, [.ref v, .int 0, .int ml, .int (Int32.ofNat cnt)]) := by rw [xc_heap hS.1.1]; exact hS.2.1
  refine xRp_eq (xRp_of (m := (yJ4_length_8abf5, cJ4_length_8abf5, 1, (some .int), [], [], xcJ4_length_8abf5)) rfl (by show 1 ≤ 1; decide) ?_)
  show xBp K (xZ z) 1 1 [] xcJ4_length_8abf5 xcJ4_length_8abf5 [(0, .ref a)] [] _ _
  refine xp_step rfl ?_
  refine xp_spec4 hc rfl (Nat.le_of_ble_eq_true rfl) rfl (xs_blen hS) ?_
  exact xp_ret rfl ⟨fun v q => by cases q; rfl, rfl, rfl⟩
/-- newLength, newCapacity -/
def xNcap (len m : Nat) : Nat := len + max (m - len) (len + 2)
theorem xs_newLength {len m : Nat} (h1 : len ≤ 300) (h2 : m ≤ 100) (h3 : len < m) : xRn K (xZ z) 2 191 [.int (Int32.ofNat len), .int (Int32.ofNat (m - len)), .int (Int32.ofNat (len + 2))] h (.ok (some (.int (Int32.ofNat (xNcap len m))))) h := by
  have hmx : xmax (Int32.ofNat (m - len)) (Int32.ofNat (len + 2)) = Int32.ofNat (max (m - len) (len + 2)) := by
    unfold xmax
    by_cases q : m - len < len + 2
    · rw [if_pos ((xi_lt (by omega) (by omega)).mpr q)]
      congr 1
      omega
    · rw [if_neg (fun q2 => q ((xi_lt (by omega) (by omega)).mp q2))]
      congr 1
      omega
  have hsum : Int32.ofNat len + Int32.ofNat (max (m - len) (len + 2)) = Int32.ofNat (xNcap len m) := (Int32.ofNat_add _ _).symm
  refine xRp_eq (xRp_of (m := (yJ8_newLength_cabcc, cJ8_newLength_cabcc, 4, (some .int), [], [], xcJ8_newLength_cabcc)) rfl (by show 3 ≤ 4; decide) ?_)
  show xBp K (xZ z) 1 4 [] xcJ8_newLength_cabcc xcJ8_newLength_cabcc [(0, .int (Int32.ofNat len)), (1, .int (Int32.ofNat (m - len))), (2, .int (Int32.ofNat (len + 2)))] [] _ _
  refine xp_step rfl ?_
  refine xp_step rfl ?_
  refine xp_step rfl ?_
  refine xp_callR rfl (xs_max _ _ _) ?_
  rw [hmx]
  refine xp_addE hsum ?_
  have hn : xNcap len m < 1000 ∧ 0 < xNcap len m := by unfold xNcap; omega
  generalize xNcap len m = n at hn ⊢
  obtain ⟨e1, -, e2⟩ := xi_ofNat (n := n) (by omega)
  refine xp_step rfl ?_
  refine xp_step rfl ?_
  refine xp_step rfl ?_
  refine xp_if2 rfl (fun q => ?_) (fun _ => ?_)
  · have q : Int32.ofNat n ≤ 0 := of_decide_eq_true q
    rw [Int32.le_iff_toInt_le, e1, show (0 : Int32).toInt = 0 from rfl] at q
    omega
  refine xp_step rfl ?_
  refine xp_step rfl ?_
  refine xp_if2 rfl (fun q => ?_) (fun _ => ?_)
  · have q : Int32.ofNat 2147483639 < Int32.ofNat n := of_decide_eq_true q
    rw [xi_lt (by omega) (by omega)] at q
    omega
  refine xp_step rfl ?_
  exact xp_ret rfl ⟨fun v q => by cases q; rfl, rfl, rfl⟩
theorem xs_newCap (hS : xSb h a v ml cnt bs) {m : Nat} (h2 : m ≤ 100) (h3 : bs.length < m) : xRn K (xZ z) 3 121 [.ref a, .int (Int32.ofNat m)] h (.ok (some (.int (Int32.ofNat (xNcap bs.length m))))) h := by
  have hc : xcell K h a = some (1, [.ref v, .int 0, .int ml, .int (Int32.ofNat cnt)]) := by rw [xc_heap hS.1.1]; exact hS.2.1
  have hv : xcell K h v = some (50, bs.map .int) := by rw [xc_heap hS.1.2.1]; exact hS.2.2.1
  have hlen : bs.length ≤ 300 := hS.2.2.2.1.2
  have hn : xNcap bs.length m < 1000 := by unfold xNcap; omega
  refine xRp_eq (xRp_of (m := (yJ5_newCapacity_0f7a4, cJ5_newCapacity_0f7a4, 6, (some .int), [], [], xcJ5_newCapacity_0f7a4)) rfl (by show 2 ≤ 6; decide) ?_)
  show xBp K (xZ z) 2 6 [] xcJ5_newCapacity_0f7a4 xcJ5_newCapacity_0f7a4 [(0, .ref a), (1, .int (Int32.ofNat m))] [] _ _
  refine xp_step rfl ?_
  refine xp_getK hc rfl rfl ?_
  refine xp_alen hv (by simp) ?_
  rw [List.length_map]
  refine xp_step rfl ?_
  refine xp_step rfl ?_
  refine xp_step rfl ?_
  refine xp_getK hc rfl rfl ?_
  refine xp_shl0 ?_
  refine xp_step rfl ?_
  refine xp_step rfl ?_
  refine xp_step rfl ?_
  refine xp_subE (xi_subN (by omega) (by omega)) ?_
  refine xp_step rfl ?_
  refine xp_step rfl ?_
  refine xp_step rfl ?_
  refine xp_step rfl ?_
  refine xp_step rfl ?_
  refine xp_step rfl ?_
  refine xp_getK hc rfl rfl ?_
  refine xp_shl0 ?_
  refine xp_addE (show Int32.ofNat bs.length + Int32.ofInt 2 = Int32.ofNat (bs.length + 2) from by rw [Int32.ofNat_add]; rfl) ?_
  refine xp_callR rfl (xs_newLength hlen h2 h3) ?_
  refine xp_step rfl ?_
  refine xp_step rfl ?_
  refine xp_step rfl ?_
  refine xp_if2 rfl (fun _ => ?_) (fun q => ?_)
  · refine xp_step rfl ?_
    refine xp_step rfl ?_
    refine xp_getK hc rfl rfl ?_
    refine xp_shr0 ?_
    exact xp_ret rfl ⟨fun v q => by cases q; rfl, rfl, rfl⟩
  · have q : Int32.ofNat (xNcap bs.length m) = Int32.ofNat 2147483647 := by simpa [xic] using q
    have q2 := congrArg Int32.toInt q
    rw [(xi_ofNat (n := xNcap bs.length m) (by omega)).1, (xi_ofNat (n := 2147483647) (by omega)).1] at q2
    omega
theorem xcpy_grow {bs : List Int32} {n : Nat} (hn : bs.length ≤ n) : xcpy (bs.map .int) (List.replicate n (.int 0)) 0 0 bs.length = (bs ++ List.replicate (n - bs.length) 0).map Value.int := by
  apply List.ext_getElem?
  intro k
  unfold xcpy
  rw [List.length_replicate]
  by_cases hk : k < n
  · rw [List.getElem?_map, List.getElem?_range hk, List.getElem?_map]
    dsimp only [Option.map_some]
    by_cases hkb : k < bs.length
    · rw [if_pos (by omega), List.getElem?_append_left hkb, Nat.zero_add, Nat.sub_zero, List.getD_eq_getElem?_getD, List.getElem?_map, List.getElem?_eq_getElem hkb]
      rfl
    · rw [if_neg (by omega), List.getElem?_append_right (by omega), List.getElem?_replicate, if_pos (by omega), List.getD_eq_getElem?_getD, List.getElem?_replicate, if_pos hk]
      rfl
  · rw [List.getElem?_eq_none (by rw [List.length_map, List.length_range]; omega), List.getElem?_eq_none (by rw [List.length_map, List.length_append, List.length_replicate]; omega)]
theorem xs_copyOf {b n : Nat} (hf : xcell K h b = some (50, bs.map .int)) (hall : ∀ x ∈ bs, xfit .byte (.int x) = true) (hlen : bs.length ≤ 300) (hn : bs.length < n) (hn2 : n < 1000) (hb : b ≠ h.length) (hl : h.length < 999990) : xRn K (xZ z) 2 187 [.ref b, .int (Int32.ofNat n)] h (.ok (some (.ref h.length))) (h ++ [(50, (bs ++ List.replicate (n - bs.length) 0).map .int)]) := by
  have hll : (bs.map Value.int).length = bs.length := List.length_map _
  refine xRp_eq (xRp_of (m := (yJ7_copyOf_9075b, cJ7_copyOf_9075b, 3, (some (.array .byte)), [], [], xcJ7_copyOf_9075b)) rfl (by show 2 ≤ 3; decide) ?_)
  show xBp K (xZ z) 1 3 [] xcJ7_copyOf_9075b xcJ7_copyOf_9075b [(0, .ref b), (1, .int (Int32.ofNat n))] [] _ _
  refine xp_step rfl ?_
  refine xp_step rfl ?_
  refine xp_alen hf (by simp) ?_
  rw [hll]
  refine xp_if2 rfl (fun _ => ?_) (fun q => ?_)
  rotate_left
  · have q : Int32.ofNat n = Int32.ofNat bs.length := by simpa [xic] using q
    have q2 := congrArg Int32.toInt q
    rw [(xi_ofNat (n := n) (by omega)).1, (xi_ofNat (n := bs.length) (by omega)).1] at q2
    omega
  have hbl : xcell K (h ++ [(50, List.replicate n (Value.int 0))]) b = some (50, bs.map .int) := by
    unfold xcell at hf ⊢
    cases hd : decide (b < 1000000) with
    | false => rw [hd] at hf; exact hf
    | true =>
      rw [hd] at hf
      dsimp only at hf ⊢
      have hlt := (List.getElem?_eq_some_iff.mp hf).1
      rw [List.getElem?_append_left hlt]
      exact hf
  refine xp_step rfl ?_
  refine xp_newb (by omega) (by omega) ?_
  refine xp_step rfl ?_
  refine xp_step rfl ?_
  refine xp_step rfl ?_
  refine xp_step rfl ?_
  refine xp_step rfl ?_
  refine xp_step rfl ?_
  refine xp_alen hbl (by simp) ?_
  rw [hll]
  refine xp_step rfl ?_
  refine xp_callR rfl (xs_min _ _ _) ?_
  rw [show xmin (Int32.ofNat bs.length) (Int32.ofNat n) = Int32.ofNat bs.length from by
    unfold xmin
    rw [if_neg (fun q => ?_)]
    rw [xi_lt (by omega) (by omega)] at q
    omega]
  refine xp_acopy (a := h.length) (b := b) (n := bs.length) (sp := 0) (dp := 0) (by omega) hb.symm (g := List.replicate n (.int 0)) (by rw [List.getElem?_append_right (Nat.le_refl _), Nat.sub_self]; rfl) hbl (by rw [hll]; omega) (by rw [List.length_replicate]; omega) (by rw [hll]; omega) (by rw [List.length_replicate]; omega) ?_ rfl ?_
  · rw [List.all_eq_true]
    intro x hx
    obtain ⟨y, hy, rfl⟩ := List.mem_map.mp hx
    exact hall y hy
  refine xp_step rfl ?_
  refine xp_ret rfl ⟨fun v q => by cases q; rfl, rfl, ?_⟩
  rw [xcpy_grow (by omega), List.set_append_right _ _ (Nat.le_refl _), Nat.sub_self]
  rfl
end XBU
