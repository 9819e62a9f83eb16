/-! WHAT THE METHODS OF A REACH AND OF A PULSE DO -/
def xNbeg (N : Nat → Nat → Int32) (i : Nat) (s p c : Int32) : Nat → Nat → Int32 := fun a b => if a = i then (match b with
  | 0 => s
  | 1 => p
  | 2 => c
  | 3 => 0
  | 4 => 0
  | 5 => 20
  | 6 => 40
  | 7 => 100
  | 8 => 102
  | _ => N a b) else N a b
/-- the first n numbers of the cell i out of the cell j -/
def xNcp (N : Nat → Nat → Int32) (n i j : Nat) : Nat → Nat → Int32 := fun a b => if a = i ∧ b < n then N j b else N a b
def xNpu (N : Nat → Nat → Int32) (i : Nat) (x y z : Int32) : Nat → Nat → Int32 := fun a b => if a = i then (match b with
  | 0 => x
  | 1 => y
  | 2 => z
  | _ => N a b) else N a b
def xrate (N : Nat → Nat → Int32) (i : Nat) (t : Int32) : Int32 := if N i 0 ≤ t ∧ t < N i 0 + N i 1 then N i 2 else 0
section XPV
variable {K : List (Nat × List Value)} {Z : List Value} {d nL : Nat} {hs : List (Nat × Nat × Nat × Nat)} {code cs : List xE} {loc : xL} {st : List Value} {P : xA → xH → Prop}
variable {pre g h2 : xH} {B L i : Nat} {N : Nat → Nat → Int32} {C : Nat → Nat} {v : Option Value}
/-- a virtual call on one of the object's own cells, that returns -/
theorem xp_virt {pc j ln mi n I rc t : Nat} {aux : List Nat} (hB : xBok pre B) (hi : i < 253) (hk : xKd i = (rc, t)) (hst : st[n - 1]? = some (.ref (B + i))) (hn : n ≤ st.length) (hcat : decide (((st.drop n).map fun v => v.category).sum ≤ 8) = true) (hc : xRn K Z d mi (st.take n).reverse (xHn pre B N C L g) (.ok v) h2) (hb : xBp K Z d nL hs code cs loc (v.toList ++ st.drop n) h2 P) : xBp K Z d nL hs code ((pc, .invokevirtual j, ln, 0 :: mi :: n :: I :: rc :: aux) :: cs) loc st (xHn pre B N C L g) P := by
  refine xp_callR (loc1 := loc) (st1 := st.drop n) (args := (st.take n).reverse) (h1 := xHn pre B N C L g) (mi := mi) (v := v) ?_ hc hb
  have e : xrcv K (xHn pre B N C L g) st n rc = true := by
    unfold xrcv
    rw [hst]
    dsimp only
    rw [show xcell K (xHn pre B N C L g) (B + i) = _ from xm_cell hB.1 hB.2 hi, hk]
    exact decide_eq_true rfl
  have f : xcall mi n loc st (xHn pre B N C L g) = some (.inr (.inl (mi, (st.take n).reverse, loc, st.drop n, xHn pre B N C L g))) := by
    unfold xcall
    rw [decide_eq_true hn, hcat]
    rfl
  show (match xrcv K (xHn pre B N C L g) st n rc with | true => xcall mi n loc st (xHn pre B N C L g) | false => none) = _
  rw [e]
  exact f
end XPV
section XRM3
variable {K : List (Nat × List Value)} {Z : List Value} {pre g : xH} {B L : Nat} {N : Nat → Nat → Int32} {C : Nat → Nat}
theorem xs_begin (hB : xBok pre B) {w r : Nat} (hw : w ∈ xRbs) (hr : r < 8) (s p c : Int32) : xRn K Z 1 16 [.ref (B + (w + 3 + r)), .int s, .int p, .int c] (xHn pre B N C L g) (.ok none) (xHn pre B (xNbeg N (w + 3 + r) s p c) C L g) := by
  obtain ⟨k1, k2, k3⟩ := xrb_reach w hw r hr
  generalize w + 3 + r = i at k1 k2 k3
  refine xRp_eq (xRp_of (m := (yX6_begin, cX6_begin, 4, none, [], [], xcX6_begin)) rfl (Nat.le_refl _) ?_)
  show xBp K Z 0 4 [] xcX6_begin xcX6_begin [(0, .ref (B + i)), (1, .int s), (2, .int p), (3, .int c)] [] _ _
  repeat' (first
    | refine xp_put hB k2 k1 (by decide) (k3 _ (by decide)) rfl ?_
    | refine xp_ret rfl ?_
    | refine xp_step rfl ?_)
  refine ⟨fun v q => by cases q; rfl, rfl, congrArg (fun n => xHn pre B n C L g) ?_⟩
  funext a b
  by_cases ha : a = i
  · subst ha
    rcases b with _ | _ | _ | _ | _ | _ | _ | _ | _ | b <;> simp [xupN, xNbeg] <;> rfl
  · simp [xupN, xNbeg, ha]
theorem xs_rcopy (hB : xBok pre B) {w r w' : Nat} (hw : w ∈ xRbs) (hw' : w' ∈ xRbs) (hr : r < 8) (hne : w ≠ w') (hch : 0 ≤ N (w' + 3 + r) 8 ∧ N (w' + 3 + r) 8 ≤ 65535) : xRn K Z 1 17 [.ref (B + (w + 3 + r)), .ref (B + (w' + 3 + r))] (xHn pre B N C L g) (.ok none) (xHn pre B (xNcp N 9 (w + 3 + r) (w' + 3 + r)) C L g) := by
  obtain ⟨k1, k2, k3⟩ := xrb_reach w hw r hr
  obtain ⟨l1, l2, l3⟩ := xrb_reach w' hw' r hr
  have hij : w' + 3 + r ≠ w + 3 + r := by omega
  generalize w + 3 + r = i at k1 k2 k3 hij ⊢
  generalize w' + 3 + r = j at l1 l2 l3 hij hch ⊢
  refine xRp_eq (xRp_of (m := (yX6_copyFrom, cX6_copyFrom, 2, none, [], [], xcX6_copyFrom)) rfl (Nat.le_refl _) ?_)
  show xBp K Z 0 2 [] xcX6_copyFrom xcX6_copyFrom [(0, .ref (B + i)), (1, .ref (B + j))] [] _ _
  have hf : ∀ M : Nat → Nat → Int32, M j 8 = N j 8 → xfit (xFt 8 8) (.int (M j 8)) = true := fun M hM => by
    rw [hM]
    show (decide (0 ≤ N j 8) && decide (N j 8 ≤ 65535)) = true
    rw [decide_eq_true hch.1, decide_eq_true hch.2]
    rfl
  repeat' (first
    | refine xp_put hB k2 k1 (by decide) (k3 _ (by decide)) rfl ?_
    | refine xp_put hB k2 k1 (by decide) (k3 _ (by decide)) (hf _ (by simp [xupN, hij])) ?_
    | refine xp_get hB l2 l1 (by decide) (l3 _ (by decide)) ?_
    | refine xp_ret rfl ?_
    | refine xp_step rfl ?_)
  refine ⟨fun v q => by cases q; rfl, rfl, congrArg (fun n => xHn pre B n C L g) ?_⟩
  funext a b
  by_cases ha : a = i
  · subst ha
    rcases b with _ | _ | _ | _ | _ | _ | _ | _ | _ | b <;> simp [xupN, xNcp, hij]
    intro q
    omega
  · simp [xupN, xNcp, ha]
theorem xs_pbegin (hB : xBok pre B) {w r : Nat} (hw : w ∈ xRbs) (hr : r < 8) (x y z : Int32) : xRn K Z 1 12 [.ref (B + (w + 11 + r)), .int x, .int y, .int z] (xHn pre B N C L g) (.ok none) (xHn pre B (xNpu N (w + 11 + r) x y z) C L g) := by
  obtain ⟨k1, k2, k3⟩ := xrb_pulse w hw r hr
  generalize w + 11 + r = i at k1 k2 k3
  refine xRp_eq (xRp_of (m := (yX5_begin, cX5_begin, 4, none, [], [], xcX5_begin)) rfl (Nat.le_refl _) ?_)
  show xBp K Z 0 4 [] xcX5_begin xcX5_begin [(0, .ref (B + i)), (1, .int x), (2, .int y), (3, .int z)] [] _ _
  repeat' (first
    | refine xp_put hB k2 k1 (by decide) (k3 _ (by decide)) rfl ?_
    | refine xp_ret rfl ?_
    | refine xp_step rfl ?_)
  refine ⟨fun v q => by cases q; rfl, rfl, congrArg (fun n => xHn pre B n C L g) ?_⟩
  funext a b
  by_cases ha : a = i
  · subst ha
    rcases b with _ | _ | _ | b <;> simp [xupN, xNpu]
  · simp [xupN, xNpu, ha]
theorem xs_pend (hB : xBok pre B) {w r : Nat} (hw : w ∈ xRbs) (hr : r < 8) : xRn K Z 1 13 [.ref (B + (w + 11 + r))] (xHn pre B N C L g) (.ok (some (.int (N (w + 11 + r) 0 + N (w + 11 + r) 1)))) (xHn pre B N C L g) := by
  obtain ⟨k1, k2, k3⟩ := xrb_pulse w hw r hr
  generalize w + 11 + r = i at k1 k2 k3
  refine xRp_eq (xRp_of (m := (yX5_end, cX5_end, 1, some .int, [], [], xcX5_end)) rfl (Nat.le_refl _) ?_)
  show xBp K Z 0 1 [] xcX5_end xcX5_end [(0, .ref (B + i))] [] _ _
  repeat' (first
    | refine xp_get hB k2 k1 (by decide) (k3 _ (by decide)) ?_
    | refine xp_ret rfl ?_
    | refine xp_step rfl ?_)
  exact ⟨fun v q => by cases q; rfl, rfl, rfl⟩
theorem xs_prate (hB : xBok pre B) {w r : Nat} (hw : w ∈ xRbs) (hr : r < 8) (t : Int32) : xRn K Z 2 14 [.ref (B + (w + 11 + r)), .int t] (xHn pre B N C L g) (.ok (some (.int (xrate N (w + 11 + r) t)))) (xHn pre B N C L g) := by
  obtain ⟨k1, k2, k3⟩ := xrb_pulse w hw r hr
  have hend := xs_pend (K := K) (Z := Z) (N := N) (C := C) (L := L) (g := g) hB hw hr
  generalize w + 11 + r = i at k1 k2 k3 hend
  refine xRp_eq (xRp_of (m := (yX5_rateIn, cX5_rateIn, 2, some .int, [], [], xcX5_rateIn)) rfl (Nat.le_refl _) ?_)
  show xBp K Z 1 2 [] xcX5_rateIn xcX5_rateIn [(0, .ref (B + i)), (1, .int t)] [] _ _
  repeat' (first
    | refine xp_get hB k2 k1 (by decide) (k3 _ (by decide)) ?_
    | refine xp_if2 rfl (fun _ => ?_) (fun _ => ?_)
    | refine xp_ret rfl ?_
    | refine xp_step rfl ?_
    | refine xp_jump rfl ?_
    | refine xp_virt hB k2 k1 rfl (Nat.le_of_ble_eq_true rfl) rfl hend ?_)
  all_goals refine ⟨fun v q => by cases q; rfl, congrArg (fun x => Except.ok (some (Value.int x))) ?_, rfl⟩
  all_goals simp_all [xic, xrate]
  all_goals first | rfl | (intro q; exact absurd q (Int32.not_le.mpr (by assumption))) | (intro q; exact absurd q (Int32.not_lt.mpr (by assumption)))
end XRM3
