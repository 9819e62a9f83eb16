/-! THE LAW'S SMALL METHODS -/
def xsom (v n : Int32) : Int32 := if v - v / n * n < 0 then v - v / n * n + n else v - v / n * n
theorem xsom_bd {v : Int32} {m : Nat} (h0 : 0 < m) (hm : m < 2147483648) : ∃ k, xsom v (Int32.ofNat m) = Int32.ofNat k ∧ k < m := by
  have hmi := (xi_ofNat hm).1
  have hv1 := v.le_toInt
  have hv2 := v.toInt_lt
  have hne : Int32.ofNat m ≠ -1 := by
    intro e
    have := congrArg Int32.toInt e
    rw [hmi, show (-1 : Int32).toInt = -1 from rfl] at this
    omega
  have e1 : (v / Int32.ofNat m).toInt = v.toInt.tdiv m := by rw [Int32.toInt_div_of_ne_right _ _ hne, hmi]
  have hd := Int.mul_tdiv_add_tmod v.toInt m
  have hbd : -(m : Int) < v.toInt.tmod m ∧ v.toInt.tmod m < m ∧ (0 ≤ v.toInt → 0 ≤ v.toInt.tmod m) ∧ (v.toInt ≤ 0 → v.toInt.tmod m ≤ 0) := by
    refine ⟨?_, Int.tmod_lt_of_pos _ (by omega), fun h => Int.tmod_nonneg _ h, fun h => ?_⟩
    · have h1 := Int.tmod_lt_of_pos (-v.toInt) (b := (m : Int)) (by omega)
      rw [Int.neg_tmod] at h1
      omega
    · have h1 := Int.tmod_nonneg (m : Int) (a := -v.toInt) (by omega)
      rw [Int.neg_tmod] at h1
      omega
  generalize v.toInt.tmod m = t at hd hbd
  generalize hq : (m : Int) * v.toInt.tdiv m = q at hd
  have e2 : (v / Int32.ofNat m * Int32.ofNat m).toInt = q := by
    rw [Int32.toInt_mul, e1, hmi, Int.mul_comm, hq]
    exact Int.bmod_eq_of_le (by omega) (by omega)
  have e3 : (v - v / Int32.ofNat m * Int32.ofNat m).toInt = t := by
    rw [Int32.toInt_sub, e2, show v.toInt - q = t from by omega]
    exact Int.bmod_eq_of_le (by omega) (by omega)
  unfold xsom
  split
  · rename_i h
    rw [Int32.lt_iff_toInt_lt, e3, show (0 : Int32).toInt = 0 from rfl] at h
    refine ⟨(t + m).toNat, ?_, by omega⟩
    apply Int32.toInt_inj.mp
    rw [Int32.toInt_add, e3, hmi, (xi_ofNat (n := (t + m).toNat) (by omega)).1, Int.bmod_eq_of_le (by omega) (by omega)]
    omega
  · rename_i h
    rw [Int32.lt_iff_toInt_lt, e3, show (0 : Int32).toInt = 0 from rfl] at h
    refine ⟨t.toNat, ?_, by omega⟩
    apply Int32.toInt_inj.mp
    rw [e3, (xi_ofNat (n := t.toNat) (by omega)).1]
    omega
section XLW
variable {xs : List Int32} {z : Value} {K : List (Nat × List Value)} {Z : List Value} {pre g : xH} {B L : Nat} {N : Nat → Nat → Int32} {C : Nat → Nat} {h : xH}
theorem xs_some (v : Int32) {n : Int32} (hn : n ≠ 0) : xRn K Z 1 197 [.int v, .int n] h (.ok (some (.int (xsom v n)))) h := by
  refine xRp_eq (xRp_of (m := (yL_some, cL_some, 3, (some .int), [], [], xcL_some)) rfl (by show 2 ≤ 3; decide) ?_)
  show xBp K Z 0 3 [] xcL_some xcL_some [(0, .int v), (1, .int n)] [] _ _
  refine xp_step rfl ?_
  refine xp_step rfl ?_
  refine xp_rem hn ?_
  refine xp_step rfl ?_
  refine xp_step rfl ?_
  refine xp_if1 rfl (fun q => ?_) (fun q => ?_)
  · have q : ¬ v - v / n * n < 0 := Int32.not_lt.mpr (of_decide_eq_true q)
    refine xp_step rfl ?_
    refine xp_ret rfl ⟨fun v q => by cases q; rfl, ?_, rfl⟩
    unfold xsom
    rw [if_neg q]
  · have q : v - v / n * n < 0 := Int32.not_le.mp (of_decide_eq_false q)
    refine xp_step rfl ?_
    refine xp_step rfl ?_
    refine xp_step rfl ?_
    refine xp_jump rfl ?_
    refine xp_ret rfl ⟨fun v q => by cases q; rfl, ?_, rfl⟩
    unfold xsom
    rw [if_pos q]
theorem xs_at {k : Nat} (hk : k < 1000) (hl : xs.length ≤ 260) : xRn (xK xs) Z 1 196 [.ref 1000000, .int (Int32.ofNat k)] h (.ok (some (.int (xs.getD k 0)))) h := by
  have hc : xcell (xK xs) h 1000000 = some (58, xs.map .int) := rfl
  refine xRp_eq (xRp_of (m := (yL_at, cL_at, 2, (some .int), [], [], xcL_at)) rfl (by show 2 ≤ 2; decide) ?_)
  show xBp (xK xs) Z 0 2 [] xcL_at xcL_at [(0, .ref 1000000), (1, .int (Int32.ofNat k))] [] _ _
  refine xp_step rfl ?_
  refine xp_step rfl ?_
  refine xp_alen hc rfl ?_
  rw [List.length_map]
  refine xp_if2 rfl (fun q => ?_) (fun q => ?_)
  · have q : Int32.ofNat xs.length ≤ Int32.ofNat k := of_decide_eq_true q
    rw [xi_le (by omega) (by omega)] at q
    refine xp_step rfl ?_
    refine xp_ret rfl ⟨fun v q => by cases q; rfl, ?_, rfl⟩
    rw [List.getD_eq_getElem?_getD, List.getElem?_eq_none q]
    rfl
  · have q : ¬ Int32.ofNat xs.length ≤ Int32.ofNat k := of_decide_eq_false q
    rw [xi_le (by omega) (by omega)] at q
    have hk2 : k < xs.length := by omega
    obtain ⟨i1, i2⟩ := xin_ofNat (n := k) (t := (xs.map Value.int).length) (by rw [List.length_map]; exact hk2) (by rw [List.length_map]; omega)
    refine xp_step rfl ?_
    refine xp_step rfl ?_
    refine xp_step (loc1 := [(0, .ref 1000000), (1, .int (Int32.ofNat k))]) (st1 := [.int (xs.getD k 0)]) (h1 := h) ?_ ?_
    · show xald (xK xs) xisI (fun a t => decide (1000000 ≤ a) && decide (8 ≤ t)) _ (.int (Int32.ofNat k) :: .ref 1000000 :: []) h = _
      unfold xald
      dsimp only
      rw [hc]
      dsimp only
      rw [i1, i2, List.getElem?_map, List.getElem?_eq_getElem hk2, List.getD_eq_getElem?_getD, List.getElem?_eq_getElem hk2]
      rfl
    refine xp_jump rfl ?_
    exact xp_ret rfl ⟨fun v q => by cases q; rfl, rfl, rfl⟩
theorem xl_denial (hB : xBok pre B) (hg : B + 253 + g.length < 1000000) : xRn K Z 4 231 [.ref (B + 0)] (xHn pre B N C L g) (.ok (some (.int (if N 250 0 = 0 then -1001 else N 250 0)))) (xHn pre B N C L (if N 250 0 = 0 then xgx g else g)) := by
  have h := xo_denial_ (K := K) (Z := Z) (N := N) (L := L) (C := C) hB hg
  by_cases q : N 250 0 = 0
  · rw [if_pos q, if_pos q] at h ⊢
    exact xw_denial hB h (Or.inr ⟨_, rfl, rfl⟩)
  · rw [if_neg q, if_neg q] at h ⊢
    exact xw_denial hB h (Or.inl rfl)
theorem xl_denialDetail (hB : xBok pre B) (hg : B + 253 + g.length < 1000000) : xRn K Z 4 232 [.ref (B + 0)] (xHn pre B N C L g) (.ok (some (.int (if N 250 0 = 0 then -1001 else N 250 1)))) (xHn pre B N C L (if N 250 0 = 0 then xgx g else g)) := by
  have h := xo_denialDetail_ (K := K) (Z := Z) (N := N) (L := L) (C := C) hB hg
  by_cases q : N 250 0 = 0
  · rw [if_pos q, if_pos q] at h ⊢
    exact xw_denialDetail hB h (Or.inr ⟨_, rfl, rfl⟩)
  · rw [if_neg q, if_neg q] at h ⊢
    exact xw_denialDetail hB h (Or.inl rfl)
theorem xl_denialCause (hB : xBok pre B) (hg : B + 253 + g.length < 1000000) : xRn K Z 4 233 [.ref (B + 0)] (xHn pre B N C L g) (.ok (some (.int (if N 250 2 = 0 then -1001 else N 250 2)))) (xHn pre B N C L (if N 250 2 = 0 then xgx g else g)) := by
  have h := xo_denialCause_ (K := K) (Z := Z) (N := N) (L := L) (C := C) hB hg
  by_cases q : N 250 2 = 0
  · rw [if_pos q, if_pos q] at h ⊢
    exact xw_denialCause hB h (Or.inr ⟨_, rfl, rfl⟩)
  · rw [if_neg q, if_neg q] at h ⊢
    exact xw_denialCause hB h (Or.inl rfl)
theorem xl_denialCauseDetail (hB : xBok pre B) (hg : B + 253 + g.length < 1000000) : xRn K Z 4 234 [.ref (B + 0)] (xHn pre B N C L g) (.ok (some (.int (if N 250 2 = 0 then -1001 else N 250 3)))) (xHn pre B N C L (if N 250 2 = 0 then xgx g else g)) := by
  have h := xo_denialCauseDetail_ (K := K) (Z := Z) (N := N) (L := L) (C := C) hB hg
  by_cases q : N 250 2 = 0
  · rw [if_pos q, if_pos q] at h ⊢
    exact xw_denialCauseDetail hB h (Or.inr ⟨_, rfl, rfl⟩)
  · rw [if_neg q, if_neg q] at h ⊢
    exact xw_denialCauseDetail hB h (Or.inl rfl)
/-- is: the latest denial has this number and detail, and no cause -/
theorem xl_is (hB : xBok pre B) {w m : Int32} (h0 : N 250 0 = w) (hw : w ≠ 0) (h1 : N 250 1 = m) (h2 : N 250 2 = 0) (hg : B + 253 + g.length < 999990) : xRn K Z 5 238 [.ref (B + 0), .int w, .int m] (xHn pre B N C L g) (.ok (some (.int 1))) (xHn pre B N C L (xgx (xgx g))) := by
  have g1 : (xgx g).length = g.length + 1 := by unfold xgx; rw [List.length_append]; rfl
  have hn : ¬ N 250 0 = 0 := by rw [h0]; exact hw
  have d0 := xl_denial (K := K) (Z := Z) (N := N) (L := L) (C := C) (g := g) hB (by omega)
  have d1 := xl_denialDetail (K := K) (Z := Z) (N := N) (L := L) (C := C) (g := g) hB (by omega)
  have d2 := xl_denialCause (K := K) (Z := Z) (N := N) (L := L) (C := C) (g := g) hB (by omega)
  have d3 := xl_denialCauseDetail (K := K) (Z := Z) (N := N) (L := L) (C := C) (g := xgx g) hB (by omega)
  rw [if_neg hn, if_neg hn, h0] at d0
  rw [if_neg hn, if_neg hn, h1] at d1
  rw [if_pos h2, if_pos h2] at d2 d3
  refine xRp_eq (xRp_of (m := (yL_is, cL_is, 3, (some .boolean), [], [], xcL_is)) rfl (by show 3 ≤ 3; decide) ?_)
  show xBp K Z 4 3 [] xcL_is xcL_is [(0, .ref (B + 0)), (1, .int w), (2, .int m)] [] _ _
  refine xp_step rfl ?_
  refine xp_callR rfl d0 ?_
  refine xp_step rfl ?_
  refine xp_if2 rfl (fun q => absurd rfl (show ¬ w = w by simpa [xic] using q)) (fun _ => ?_)
  refine xp_step rfl ?_
  refine xp_callR rfl d1 ?_
  refine xp_step rfl ?_
  refine xp_if2 rfl (fun q => absurd rfl (show ¬ m = m by simpa [xic] using q)) (fun _ => ?_)
  refine xp_step rfl ?_
  refine xp_callR rfl d2 ?_
  refine xp_step rfl ?_
  refine xp_step rfl ?_
  refine xp_step rfl ?_
  refine xp_callR rfl d3 ?_
  refine xp_step rfl ?_
  refine xp_step rfl ?_
  refine xp_step rfl ?_
  refine xp_jump rfl ?_
  exact xp_ret rfl ⟨fun v q => by cases q; rfl, rfl, rfl⟩
theorem xl_isFive (hB : xBok pre B) {i w m : Int32} (h0 : N 250 0 = 5) (h1 : N 250 1 = i) (h2 : N 250 2 = w) (hw : w ≠ 0) (h3 : N 250 3 = m) (hg : B + 253 + g.length < 999990) : xRn K Z 5 239 [.ref (B + 0), .int i, .int w, .int m] (xHn pre B N C L g) (.ok (some (.int 1))) (xHn pre B N C L g) := by
  have hn : ¬ N 250 0 = 0 := by rw [h0]; decide
  have hn2 : ¬ N 250 2 = 0 := by rw [h2]; exact hw
  have d0 := xl_denial (K := K) (Z := Z) (N := N) (L := L) (C := C) (g := g) hB (by omega)
  have d1 := xl_denialDetail (K := K) (Z := Z) (N := N) (L := L) (C := C) (g := g) hB (by omega)
  have d2 := xl_denialCause (K := K) (Z := Z) (N := N) (L := L) (C := C) (g := g) hB (by omega)
  have d3 := xl_denialCauseDetail (K := K) (Z := Z) (N := N) (L := L) (C := C) (g := g) hB (by omega)
  rw [if_neg hn, if_neg hn, h0] at d0
  rw [if_neg hn, if_neg hn, h1] at d1
  rw [if_neg hn2, if_neg hn2, h2] at d2
  rw [if_neg hn2, if_neg hn2, h3] at d3
  refine xRp_eq (xRp_of (m := (yL_isFive, cL_isFive, 4, (some .boolean), [], [], xcL_isFive)) rfl (by show 4 ≤ 4; decide) ?_)
  show xBp K Z 4 4 [] xcL_isFive xcL_isFive [(0, .ref (B + 0)), (1, .int i), (2, .int w), (3, .int m)] [] _ _
  refine xp_step rfl ?_
  refine xp_callR rfl d0 ?_
  refine xp_step rfl ?_
  refine xp_step rfl ?_
  refine xp_step rfl ?_
  refine xp_callR rfl d1 ?_
  refine xp_step rfl ?_
  refine xp_if2 rfl (fun q => absurd rfl (show ¬ i = i by simpa [xic] using q)) (fun _ => ?_)
  refine xp_step rfl ?_
  refine xp_callR rfl d2 ?_
  refine xp_step rfl ?_
  refine xp_if2 rfl (fun q => absurd rfl (show ¬ w = w by simpa [xic] using q)) (fun _ => ?_)
  refine xp_step rfl ?_
  refine xp_callR rfl d3 ?_
  refine xp_step rfl ?_
  refine xp_if2 rfl (fun q => absurd rfl (show ¬ m = m by simpa [xic] using q)) (fun _ => ?_)
  refine xp_step rfl ?_
  refine xp_jump rfl ?_
  exact xp_ret rfl ⟨fun v q => by cases q; rfl, rfl, rfl⟩
end XLW
