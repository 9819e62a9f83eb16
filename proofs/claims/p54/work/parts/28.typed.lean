/-! THE FLAT MEMORY BY NUMBERS: references stand where they stood at the object's making (but the line's bytes, at L, and the commands' kinds, C); all else is numbers -/
def xRbs : List Nat := [1, 20, 39, 60, 79, 98, 117, 136, 155, 174, 193, 212]
def xrfR (w j k : Nat) : Option Nat := if j = 0 then (if k = 0 then some (w + 1) else if k = 1 then some (w + 2) else none) else if j = 1 then some (w + 3 + k) else if j = 2 then some (w + 11 + k) else none
/-- the fixed references -/
def xrf0 (i k : Nat) : Option Nat := if i = 0 then [1, 20, 39, 58, 231, 250, 251][k]? else if i < 58 then xrfR (i - (i - 1) % 19) ((i - 1) % 19) k else if i = 58 then (if k = 0 then some 59 else none) else if i = 59 then some (60 + 19 * k) else if i < 231 then xrfR (i - (i - 60) % 19) ((i - 60) % 19) k else if i = 231 then (if k = 0 then some 232 else if k = 1 then some 233 else none) else if i = 233 then some (234 + k) else none
def xMv (B : Nat) (N : Nat → Nat → Int32) (C : Nat → Nat) (L : Nat) : xM := fun i k => match xrf0 i k with
  | some r => .ref (B + r)
  | none => if i = 251 ∧ k = 0 then .ref L else if 234 ≤ i ∧ i < 250 ∧ k = 0 then .ref (1000000 + C i) else .int (N i k)
/-- a number stands there -/
def xnu (i k : Nat) : Bool := decide (xrf0 i k = none) && (!decide (i = 251 ∧ k = 0) && !decide (234 ≤ i ∧ i < 250 ∧ k = 0))
def xupN (N : Nat → Nat → Int32) (i k : Nat) (x : Int32) : Nat → Nat → Int32 := fun a b => if a = i ∧ b = k then x else N a b
section XTY
variable {B L i k : Nat} {N : Nat → Nat → Int32} {C : Nat → Nat} {x : Int32}
theorem xMv_nu (h : xnu i k = true) : xMv B N C L i k = .int (N i k) := by
  unfold xnu at h
  simp only [Bool.and_eq_true, Bool.not_eq_true', decide_eq_true_eq, decide_eq_false_iff_not] at h
  unfold xMv
  rw [h.1]
  dsimp only
  rw [if_neg h.2.1, if_neg h.2.2]
theorem xMv_rf {r : Nat} (h : xrf0 i k = some r) : xMv B N C L i k = .ref (B + r) := by
  unfold xMv
  rw [h]
theorem xMv_up (h : xnu i k = true) : xup (xMv B N C L) i k (.int x) = xMv B (xupN N i k x) C L := by
  funext a b
  unfold xup
  split
  · rename_i q
    obtain ⟨rfl, rfl⟩ := q
    rw [xMv_nu h]
    simp [xupN]
  · rename_i q
    unfold xMv xupN
    rw [if_neg q]
/-- reaches of rivers -/
theorem xrb_reach : ∀ w ∈ xRbs, ∀ r, r < 8 → xKd (w + 3 + r) = (8, 11) ∧ (w + 3 + r < 253 ∧ ∀ k, k < 11 → xnu (w + 3 + r) k = true) := by
  intro w hw r hr
  have h : xRbs.all (fun w => (List.range 8).all fun r => decide (xKd (w + 3 + r) = (8, 11)) && (decide (w + 3 + r < 253) && (List.range 11).all fun k => xnu (w + 3 + r) k)) = true := by decide +kernel
  have h := List.all_eq_true.mp (List.all_eq_true.mp h w hw) r (List.mem_range.mpr hr)
  simp only [Bool.and_eq_true, decide_eq_true_eq] at h
  exact ⟨h.1, h.2.1, fun k hk => List.all_eq_true.mp h.2.2 k (List.mem_range.mpr hk)⟩
theorem xrb_pulse : ∀ w ∈ xRbs, ∀ r, r < 8 → xKd (w + 11 + r) = (7, 3) ∧ (w + 11 + r < 253 ∧ ∀ k, k < 3 → xnu (w + 11 + r) k = true) := by
  intro w hw r hr
  have h : xRbs.all (fun w => (List.range 8).all fun r => decide (xKd (w + 11 + r) = (7, 3)) && (decide (w + 11 + r < 253) && (List.range 3).all fun k => xnu (w + 11 + r) k)) = true := by decide +kernel
  have h := List.all_eq_true.mp (List.all_eq_true.mp h w hw) r (List.mem_range.mpr hr)
  simp only [Bool.and_eq_true, decide_eq_true_eq] at h
  exact ⟨h.1, h.2.1, fun k hk => List.all_eq_true.mp h.2.2 k (List.mem_range.mpr hk)⟩
/-- a river's own cells -/
theorem xrb_river : ∀ w ∈ xRbs, xKd w = (9, 8) ∧ xKd (w + 1) = (55, 8) ∧ xKd (w + 2) = (54, 8) ∧ w + 19 ≤ 253 ∧ xrf0 w 0 = some (w + 1) ∧ xrf0 w 1 = some (w + 2) ∧ (∀ k, k < 8 → 2 ≤ k → xnu w k = true) ∧ (∀ k, k < 8 → xrf0 (w + 1) k = some (w + 3 + k)) ∧ (∀ k, k < 8 → xrf0 (w + 2) k = some (w + 11 + k)) := by
  intro w hw
  have h : xRbs.all (fun w => decide (xKd w = (9, 8)) && (decide (xKd (w + 1) = (55, 8)) && (decide (xKd (w + 2) = (54, 8)) && (decide (w + 19 ≤ 253) && (decide (xrf0 w 0 = some (w + 1)) && (decide (xrf0 w 1 = some (w + 2)) && ((List.range 8).all (fun k => decide (k < 2) || xnu w k) && ((List.range 8).all (fun k => decide (xrf0 (w + 1) k = some (w + 3 + k))) && (List.range 8).all (fun k => decide (xrf0 (w + 2) k = some (w + 11 + k))))))))))) = true := by decide +kernel
  have h := List.all_eq_true.mp h w hw
  simp only [Bool.and_eq_true, decide_eq_true_eq] at h
  obtain ⟨h1, h2, h3, h4, h5, h6, h7, h8, h9⟩ := h
  refine ⟨h1, h2, h3, h4, h5, h6, fun k hk hk2 => ?_, fun k hk => of_decide_eq_true (List.all_eq_true.mp h8 k (List.mem_range.mpr hk)), fun k hk => of_decide_eq_true (List.all_eq_true.mp h9 k (List.mem_range.mpr hk))⟩
  rcases Bool.or_eq_true _ _ |>.mp (List.all_eq_true.mp h7 k (List.mem_range.mpr hk)) with q | q
  · exact absurd (of_decide_eq_true q) (by omega)
  · exact q
end XTY
/-- the heap by numbers -/
def xHn (pre : xH) (B : Nat) (N : Nat → Nat → Int32) (C : Nat → Nat) (L : Nat) (g : xH) : xH := xHp pre (xMv B N C L) g
def xBok (pre : xH) (B : Nat) : Prop := pre.length = B ∧ B + 253 ≤ 1000000
section XCN
variable {K : List (Nat × List Value)} {Z : List Value} {d nL : Nat} {hs : List (Nat × Nat × Nat × Nat)} {code cs : List xE} {loc : xL} {st : List Value} {h' : xH} {r : xA}
variable {pre g : xH} {B L i k : Nat} {N : Nat → Nat → Int32} {C : Nat → Nat} {x : Int32}
/-- getfield of a number -/
theorem xn_get {pc j ln ci t : Nat} {aux : List Nat} (hB : xBok pre B) (hi : i < 253) (hk : xKd i = (ci, t)) (hkt : k < t) (hn : xnu i k = true) (hb : xBd K Z d nL hs code cs loc (.int (N i k) :: st) (xHn pre B N C L g) r h') : xBd K Z d nL hs code ((pc, .getfield j, ln, ci :: k :: aux) :: cs) loc (.ref (B + i) :: st) (xHn pre B N C L g) r h' := by
  refine xB_step (st1 := .int (N i k) :: st) ?_ hb
  have e := xm_getf (K := K) (loc := loc) (st := st) (g := g) (m := xMv B N C L) (k := k) hB.1 hB.2 hi hk hkt (by rw [xMv_nu hn]; rfl)
  rw [xMv_nu hn] at e
  exact e
/-- getfield of a fixed reference -/
theorem xn_ref {pc j ln ci t q : Nat} {aux : List Nat} (hB : xBok pre B) (hi : i < 253) (hk : xKd i = (ci, t)) (hkt : k < t) (hn : xrf0 i k = some q) (hb : xBd K Z d nL hs code cs loc (.ref (B + q) :: st) (xHn pre B N C L g) r h') : xBd K Z d nL hs code ((pc, .getfield j, ln, ci :: k :: aux) :: cs) loc (.ref (B + i) :: st) (xHn pre B N C L g) r h' := by
  refine xB_step (st1 := .ref (B + q) :: st) ?_ hb
  have e := xm_getf (K := K) (loc := loc) (st := st) (g := g) (m := xMv B N C L) (k := k) hB.1 hB.2 hi hk hkt (by rw [xMv_rf hn]; rfl)
  rw [xMv_rf hn] at e
  exact e
/-- putfield of a number -/
theorem xn_put {pc j ln ci t : Nat} {aux : List Nat} (hB : xBok pre B) (hi : i < 253) (hk : xKd i = (ci, t)) (hkt : k < t) (hn : xnu i k = true) (hf : xfit (xFt ci k) (.int x) = true) (hb : xBd K Z d nL hs code cs loc st (xHn pre B (xupN N i k x) C L g) r h') : xBd K Z d nL hs code ((pc, .putfield j, ln, ci :: k :: aux) :: cs) loc (.int x :: .ref (B + i) :: st) (xHn pre B N C L g) r h' := by
  refine xB_step (h1 := xHn pre B (xupN N i k x) C L g) ?_ hb
  have e := xm_putf (loc := loc) (st := st) (g := g) (m := xMv B N C L) (ty := xFt ci k) hB.1 hB.2 hi hk hkt hf
  rw [xMv_up hn] at e
  exact e
/-- aaload of a fixed reference -/
theorem xn_aald {pc ln ci t q : Nat} {aux : List Nat} {y : Int32} (hB : xBok pre B) (hi : i < 253) (hk : xKd i = (50 + ci, t)) (hci : 3 ≤ ci ∧ ci ≤ 6) (hy : xin y t = true) (hn : xrf0 i y.toNatClampNeg = some q) (hb : xBd K Z d nL hs code cs loc (.ref (B + q) :: st) (xHn pre B N C L g) r h') : xBd K Z d nL hs code ((pc, .aaload, ln, aux) :: cs) loc (.int y :: .ref (B + i) :: st) (xHn pre B N C L g) r h' := by
  refine xB_step (st1 := .ref (B + q) :: st) ?_ hb
  have e := xm_ald (K := K) (loc := loc) (st := st) (g := g) (m := xMv B N C L) (p := xisA) (q := fun a t => (decide (a < 1000000) && (decide (3 ≤ t) && decide (t ≤ 6))) || (decide (1000000 ≤ a) && decide (t = 7))) hB.1 hB.2 hi hk (by
    have := hB.2
    rw [decide_eq_true (show B + i < 1000000 by omega), decide_eq_true hci.1, decide_eq_true hci.2]
    rfl) hy (by rw [xMv_rf hn]; rfl)
  rw [xMv_rf hn] at e
  exact e
theorem xB_if1 {pc ln t : Nat} {o : Int} {c : ClassFile.Cond} {aux : List Nat} {x : Int32} {h : xH} (ht : xtgt pc o = some t) (h1 : xic c x 0 = true → xBd K Z d nL hs code (xseek code t) loc st h r h') (h2 : xic c x 0 = false → xBd K Z d nL hs code cs loc st h r h') : xBd K Z d nL hs code ((pc, .ifCond c o, ln, aux) :: cs) loc (.int x :: st) h r h' := by
  cases hx : xic c x 0 with
  | true => exact xB_jump (show xbr (xic c x 0) pc o loc st h = _ by rw [hx]; unfold xbr; dsimp only; rw [ht]; rfl) (h1 hx)
  | false => exact xB_step (show xbr (xic c x 0) pc o loc st h = _ by rw [hx]; rfl) (h2 hx)
theorem xB_if2 {pc ln t : Nat} {o : Int} {c : ClassFile.Cond} {aux : List Nat} {x y : Int32} {h : xH} (ht : xtgt pc o = some t) (h1 : xic c x y = true → xBd K Z d nL hs code (xseek code t) loc st h r h') (h2 : xic c x y = false → xBd K Z d nL hs code cs loc st h r h') : xBd K Z d nL hs code ((pc, .if_icmp c o, ln, aux) :: cs) loc (.int y :: .int x :: st) h r h' := by
  cases hx : xic c x y with
  | true => exact xB_jump (show xbr (xic c x y) pc o loc st h = _ by rw [hx]; unfold xbr; dsimp only; rw [ht]; rfl) (h1 hx)
  | false => exact xB_step (show xbr (xic c x y) pc o loc st h = _ by rw [hx]; rfl) (h2 hx)
theorem xB_div {pc ln : Nat} {aux : List Nat} {x y : Int32} {h : xH} (hy : y ≠ 0) (hb : xBd K Z d nL hs code cs loc (.int (x / y) :: st) h r h') : xBd K Z d nL hs code ((pc, .idiv, ln, aux) :: cs) loc (.int y :: .int x :: st) h r h' :=
  xB_step (show xiz (fun x y => x / y) loc (.int y :: .int x :: st) h = _ by unfold xiz; dsimp only; rw [decide_eq_false hy]; rfl) hb
end XCN
/-! the first methods: a reach's level and status -/
def xlvl (s v : Int32) : Int32 := if s < 1 then 0 else v / s
def xsta (N : Nat → Nat → Int32) (i : Nat) : Int32 := if N i 4 < N i 6 * N i 0 then (if N i 4 < N i 5 * N i 0 then 0 else 1) else 2
section XRM
variable {K : List (Nat × List Value)} {Z : List Value} {pre g : xH} {B L : Nat} {N : Nat → Nat → Int32} {C : Nat → Nat}
theorem xs_level (hB : xBok pre B) {w r : Nat} (hw : w ∈ xRbs) (hr : r < 8) : xRn K Z 1 18 [.ref (B + (w + 3 + r))] (xHn pre B N C L g) (.ok (some (.int (xlvl (N (w + 3 + r) 0) (N (w + 3 + r) 4))))) (xHn pre B N C L g) := by
  obtain ⟨k1, k2, k3⟩ := xrb_reach w hw r hr
  generalize w + 3 + r = i at k1 k2 k3
  refine xR_of (m := (yX6_levelNow, cX6_levelNow, 1, some .int, [], [], xcX6_levelNow)) rfl (Nat.le_refl _) ?_ (fun v q => by cases q; rfl)
  show xBd K Z 0 1 [] xcX6_levelNow xcX6_levelNow [(0, .ref (B + i))] [] _ _ _
  refine xB_step rfl ?_
  refine xn_get hB k2 k1 (by decide) (k3 0 (by decide)) ?_
  refine xB_step rfl ?_
  refine xB_if2 rfl (fun q => ?_) (fun q => ?_)
  · have q9 : ¬ N i 0 < 1 := Int32.not_lt.mpr (of_decide_eq_true q)
    have q8 : N i 0 ≠ 0 := fun z => q9 (by rw [z]; decide)
    refine xB_step rfl ?_
    refine xn_get hB k2 k1 (by decide) (k3 4 (by decide)) ?_
    refine xB_step rfl ?_
    refine xn_get hB k2 k1 (by decide) (k3 0 (by decide)) ?_
    refine xB_div q8 ?_
    rw [show xlvl (N i 0) (N i 4) = N i 4 / N i 0 from if_neg q9]
    exact xB_ret rfl
  · have q9 : N i 0 < 1 := Int32.not_le.mp (of_decide_eq_false q)
    refine xB_step rfl ?_
    refine xB_jump rfl ?_
    rw [show xlvl (N i 0) (N i 4) = 0 from if_pos q9]
    exact xB_ret rfl
end XRM
