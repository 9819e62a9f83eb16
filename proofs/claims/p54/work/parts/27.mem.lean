/-! THE OBJECT'S OWN CELLS AS ONE FLAT MEMORY: 253 cells behind one another, of known kinds and sizes; a river is 19 cells (itself, its two rows of references, 8 reaches, 8 pulses): the river at 1, the forecast at 20, the snapshot at 39, the history at 58 with its nine rivers from 60 on, the text at 231, its commands from 234 on, the denial at 250, the line at 251 -/
def xKdR (j : Nat) : Nat × Nat := if j = 0 then (9, 8) else if j = 1 then (55, 8) else if j = 2 then (54, 8) else if j < 11 then (8, 11) else (7, 3)
def xKd (i : Nat) : Nat × Nat := if i = 0 then (11, 9) else if i < 58 then xKdR ((i - 1) % 19) else if i = 58 then (6, 3) else if i = 59 then (56, 9) else if i < 231 then xKdR ((i - 60) % 19) else if i = 231 then (10, 5) else if i = 232 then (51, 60) else if i = 233 then (53, 16) else if i < 250 then (4, 4) else if i = 250 then (5, 4) else if i = 251 then (1, 4) else (50, 16)
abbrev xM : Type := Nat → Nat → Value
def xLay (m : xM) : xH := (List.range 253).map fun i => ((xKd i).1, (List.range (xKd i).2).map (m i))
/-- the heap: what was there before, the object's own cells, what was made later -/
def xHp (pre : xH) (m : xM) (g : xH) : xH := pre ++ (xLay m ++ g)
def xup (m : xM) (i k : Nat) (v : Value) : xM := fun a b => if a = i ∧ b = k then v else m a b
theorem xLay_len (m : xM) : (xLay m).length = 253 := by rw [xLay, List.length_map, List.length_range]
theorem xHp_get {pre g : xH} {m : xM} {B i : Nat} (hB : pre.length = B) (hi : i < 253) : (xHp pre m g)[B + i]? = some ((xKd i).1, (List.range (xKd i).2).map (m i)) := by
  unfold xHp
  rw [List.getElem?_append_right (by omega), List.getElem?_append_left (by rw [xLay_len]; omega)]
  rw [show B + i - pre.length = i by omega]
  unfold xLay
  rw [List.getElem?_map, List.getElem?_range hi]
  rfl
theorem xLay_set {m : xM} {i k : Nat} {v : Value} (hi : i < 253) : (xLay m).set i ((xKd i).1, ((List.range (xKd i).2).map (m i)).set k v) = xLay (xup m i k v) := by
  apply List.ext_getElem?
  intro a
  by_cases ha : a < 253
  · by_cases hai : a = i
    · subst hai
      rw [List.getElem?_set_self (by rw [xLay_len]; exact ha)]
      unfold xLay
      rw [List.getElem?_map, List.getElem?_range ha]
      simp only [Option.map_some]
      congr 2
      apply List.ext_getElem?
      intro b
      by_cases hb : b < (xKd a).2
      · by_cases hbk : b = k
        · subst hbk
          rw [List.getElem?_set_self (by rw [List.length_map, List.length_range]; exact hb), List.getElem?_map, List.getElem?_range hb]
          simp [xup]
        · rw [List.getElem?_set_ne (fun q => hbk q.symm), List.getElem?_map, List.getElem?_map, List.getElem?_range hb]
          simp [xup, hbk]
      · rw [List.getElem?_eq_none (by rw [List.length_set, List.length_map, List.length_range]; omega), List.getElem?_eq_none (by rw [List.length_map, List.length_range]; omega)]
    · rw [List.getElem?_set_ne (fun q => hai q.symm)]
      unfold xLay
      rw [List.getElem?_map, List.getElem?_map, List.getElem?_range ha]
      simp only [Option.map_some]
      congr 2
      apply List.map_congr_left
      intro b _
      simp [xup, hai]
  · rw [List.getElem?_eq_none (by rw [List.length_set, xLay_len]; omega), List.getElem?_eq_none (by rw [xLay_len]; omega)]
theorem xHp_set {pre g : xH} {m : xM} {B i k : Nat} {v : Value} (hB : pre.length = B) (hi : i < 253) : (xHp pre m g).set (B + i) ((xKd i).1, ((List.range (xKd i).2).map (m i)).set k v) = xHp pre (xup m i k v) g := by
  unfold xHp
  rw [List.set_append_right _ _ (by omega), show B + i - pre.length = i by omega, List.set_append_left _ _ (by rw [xLay_len]; exact hi), xLay_set hi]
section XMM
variable {K : List (Nat × List Value)} {loc : xL} {st : List Value} {pre g : xH} {m : xM} {B i j k ci t : Nat} {v : Value} {ty : FieldType}
theorem xm_cell (hB : pre.length = B) (hB1 : B + 253 ≤ 1000000) (hi : i < 253) : xcell K (xHp pre m g) (B + i) = some ((xKd i).1, (List.range (xKd i).2).map (m i)) := by
  unfold xcell
  rw [decide_eq_true (show B + i < 1000000 by omega)]
  exact xHp_get hB hi
theorem xm_getf (hB : pre.length = B) (hB1 : B + 253 ≤ 1000000) (hi : i < 253) (hk : xKd i = (ci, t)) (hkt : k < t) (hv : xknown (m i k) = true) : xgetf K ci k loc (.ref (B + i) :: st) (xHp pre m g) = some (.inl (none, loc, m i k :: st, xHp pre m g)) := by
  unfold xgetf
  dsimp only
  rw [xm_cell hB hB1 hi]
  dsimp only
  rw [hk, decide_eq_true rfl]
  dsimp only
  rw [List.getElem?_map, List.getElem?_range hkt]
  dsimp only [Option.map_some]
  rw [hv]
  rfl
theorem xm_putf (hB : pre.length = B) (hB1 : B + 253 ≤ 1000000) (hi : i < 253) (hk : xKd i = (ci, t)) (hkt : k < t) (hv : xfit ty v = true) : xputf ty ci k loc (v :: .ref (B + i) :: st) (xHp pre m g) = some (.inl (none, loc, st, xHp pre (xup m i k v) g)) := by
  unfold xputf
  dsimp only
  rw [decide_eq_true (show B + i < 1000000 by omega)]
  dsimp only
  rw [xHp_get hB hi]
  dsimp only
  have h2 := xHp_set (m := m) (g := g) (k := k) (v := v) hB hi
  rw [hk] at h2 ⊢
  try dsimp only at h2 ⊢
  rw [decide_eq_true rfl, List.length_map, List.length_range, decide_eq_true hkt, hv]
  exact congrArg (fun q => (some (.inl (none, loc, st, q)) : Option xO)) h2
theorem xm_ald {p : Value → Bool} {q : Nat → Nat → Bool} {x : Int32} (hB : pre.length = B) (hB1 : B + 253 ≤ 1000000) (hi : i < 253) (hk : xKd i = (50 + ci, t)) (hq : q (B + i) ci = true) (hx : xin x t = true) (hp : p (m i x.toNatClampNeg) = true) : xald K p q loc (.int x :: .ref (B + i) :: st) (xHp pre m g) = some (.inl (none, loc, m i x.toNatClampNeg :: st, xHp pre m g)) := by
  unfold xald
  dsimp only
  rw [xm_cell hB hB1 hi]
  dsimp only
  rw [hk]
  try dsimp only
  have hxl : x.toNatClampNeg < t := of_decide_eq_true (Bool.and_eq_true _ _ |>.mp hx).2
  rw [List.length_map, List.length_range, decide_eq_true (show 50 ≤ 50 + ci by omega), show 50 + ci - 50 = ci by omega, hq, hx]
  show (match ((List.range t).map (m i))[x.toNatClampNeg]? with | some v => (match p v with | true => xnx loc (v :: st) (xHp pre m g) | false => none) | none => none) = _
  rw [List.getElem?_map, List.getElem?_range hxl]
  dsimp only [Option.map_some]
  rw [hp]
  rfl
theorem xm_ast {f : Value → Option Value} {w : Value} {x : Int32} (hB : pre.length = B) (hB1 : B + 253 ≤ 1000000) (hi : i < 253) (hk : xKd i = (50 + ci, t)) (hx : xin x t = true) (hf : f v = some w) : xast ci f loc (v :: .int x :: .ref (B + i) :: st) (xHp pre m g) = some (.inl (none, loc, st, xHp pre (xup m i x.toNatClampNeg w) g)) := by
  unfold xast
  dsimp only
  rw [decide_eq_true (show B + i < 1000000 by omega)]
  dsimp only
  rw [xHp_get hB hi]
  dsimp only
  have h2 := xHp_set (m := m) (g := g) (k := x.toNatClampNeg) (v := w) hB hi
  rw [hk] at h2 ⊢
  try dsimp only at h2 ⊢
  rw [List.length_map, List.length_range, decide_eq_true rfl, hx]
  show (match f v with | some w => xnx loc st ((xHp pre m g).set (B + i) (50 + ci, ((List.range t).map (m i)).set x.toNatClampNeg w)) | none => none) = _
  rw [hf]
  exact congrArg (fun q => (some (.inl (none, loc, st, q)) : Option xO)) h2
end XMM
