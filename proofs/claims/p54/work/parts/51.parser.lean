/-! THE PARSER -/
def xWrd : List (List Nat) := [[114, 101, 97, 99, 104, 32], [99, 117, 116], [108, 97, 116, 101, 114, 97, 108, 32], [102, 105, 108, 108, 32], [115, 116, 97, 103, 101, 115, 32], [103, 97, 116, 101, 32], [114, 117, 108, 101, 32], [112, 117, 108, 115, 101, 32], [112, 97, 115, 115, 32]]
def xPmr : List (List Nat) := [[110, 110, 110], [], [100, 110], [100, 110], [100, 110, 110], [100, 110], [100, 108], [110, 110, 110], [110]]
def xWda : List Nat := [1000052, 1000048, 1000056, 1000060, 1000062, 1000066, 1000068, 1000072, 1000074]
def xPma : List Nat := [1000054, 1000050, 1000058, 1000058, 1000064, 1000058, 1000070, 1000054, 1000076]
/-- how far the word s stands at p: k signs left, n seen -/
def xShr (sg : Int32 → Int32) (p : Int32) (s : List Nat) : Nat → Nat → Nat
  | 0, n => n
  | k + 1, n => if sg (p + Int32.ofNat n) = Int32.ofNat (s.getD n 0) then xShr sg p s k (n + 1) else n
def xSh (sg : Int32 → Int32) (p : Int32) (s : List Nat) : Nat := xShr sg p s s.length 0
/-- the word at p: k words left, j seen -/
def xTkW (sg : Int32 → Int32) (p : Int32) : Nat → Nat → Int32 → Option Nat × Int32
  | 0, _, lg => (none, p + lg)
  | k + 1, j, lg => if Int32.ofNat (xSh sg p (xWrd.getD j [])) = Int32.ofNat (xWrd.getD j []).length then (some j, p + Int32.ofNat (xSh sg p (xWrd.getD j []))) else xTkW sg p k (j + 1) (xmax lg (Int32.ofNat (xSh sg p (xWrd.getD j []))))
def xTkL (sg : Int32 → Int32) (p : Int32) : Int32 × Int32 := if xrule (sg p) = true then (sg p, p + 1) else (-1, p)
def xTkD (sg : Int32 → Int32) : Nat → Int32 → Int32 → Int32 × Int32
  | 0, p, v => (v, p)
  | k + 1, p, v => if xwin (sg p) 48 57 = true then xTkD sg k (p + 1) (xmax v 0 * 10 + sg p - 48) else (v, p)
def xTkP (sg : Int32 → Int32) (f : Nat) (p : Int32) : Int32 × Int32 := if f = 108 then xTkL sg p else xTkD sg (if f = 100 then 1 else 3) p (-1)
/-- the parameters ps: k left, n seen: all there, the place, what was put -/
def xTkA (sg : Int32 → Int32) (ps : List Nat) (i : Nat) : Nat → Nat → Int32 → (Nat → Nat → Option Int32) → Bool × Int32 × (Nat → Nat → Option Int32)
  | 0, _, p, V => (true, p, V)
  | k + 1, n, p, V => if n = 0 ∨ sg p = 32 then (if (xTkP sg (ps.getD n 0) (if n = 0 then p else p + 1)).1 = -1 then (false, (xTkP sg (ps.getD n 0) (if n = 0 then p else p + 1)).2, V) else xTkA sg ps i k (n + 1) (xTkP sg (ps.getD n 0) (if n = 0 then p else p + 1)).2 (fun a b => if a = i ∧ b = (if n = 0 then 1 else if n = 1 then 2 else 3) then some (xTkP sg (ps.getD n 0) (if n = 0 then p else p + 1)).1 else V a b)) else (false, p, V)
/-- the memory while it is read: the place, what was put -/
def xTxM (N : Nat → Nat → Int32) (p : Int32) (V : Nat → Nat → Option Int32) : Nat → Nat → Int32 := fun a b => if a = 231 ∧ b = 3 then p else match V a b with
  | some x => x
  | none => N a b
/-- V keeps to commands and their count -/
def xVok (V : Nat → Nat → Option Int32) : Prop := ∀ a b, (V a b).isSome = true → (234 ≤ a ∧ a < 250) ∨ (a = 231 ∧ b = 4)
theorem xTx_pos {N : Nat → Nat → Int32} {p q : Int32} {V : Nat → Nat → Option Int32} : xupN (xTxM N p V) 231 3 q = xTxM N q V := by
  funext a b
  unfold xupN xTxM
  by_cases h : a = 231 ∧ b = 3
  · rw [if_pos h, if_pos h]
  · rw [if_neg h, if_neg h, if_neg h]
theorem xTx_put {N : Nat → Nat → Int32} {p v : Int32} {V : Nat → Nat → Option Int32} {i k : Nat} (hi : ¬ (i = 231 ∧ k = 3)) : xupN (xTxM N p V) i k v = xTxM N p (fun a b => if a = i ∧ b = k then some v else V a b) := by
  funext a b
  unfold xupN xTxM
  by_cases h : a = i ∧ b = k
  · have h2 : ¬ (a = 231 ∧ b = 3) := fun q => hi ⟨h.1 ▸ q.1, h.2 ▸ q.2⟩
    simp only [if_pos h, if_neg h2]
  · simp only [if_neg h]
theorem xTx_at {N : Nat → Nat → Int32} {p : Int32} {V : Nat → Nat → Option Int32} : xTxM N p V 231 3 = p := by
  unfold xTxM
  rw [if_pos ⟨rfl, rfl⟩]
theorem xTx_sig {N : Nat → Nat → Int32} {p : Int32} {V : Nat → Nat → Option Int32} (hV : xVok V) : xSig (xTxM N p V) = xSig N ∧ xTxM N p V 231 2 = N 231 2 := by
  have e : ∀ a b, ¬ (a = 231 ∧ b = 3) → ¬ (234 ≤ a ∧ a < 250) → ¬ (a = 231 ∧ b = 4) → xTxM N p V a b = N a b := by
    intro a b h1 h2 h3
    unfold xTxM
    rw [if_neg h1]
    cases hq : V a b with
    | none => rfl
    | some x => exact absurd (hV a b (by rw [hq]; rfl)) (by omega)
  have e2 := e 231 2 (by omega) (by omega) (by omega)
  refine ⟨?_, e2⟩
  funext x
  unfold xSig
  rw [e2, e 232 _ (by omega) (by omega) (by omega)]
section XPR
variable {xs : List Int32} {z : Value} {pre g : xH} {B L : Nat} {N : Nat → Nat → Int32} {C : Nat → Nat} {P : xA → xH → Prop} {p : Int32} {V : Nat → Nat → Option Int32}
theorem xkind {h : xH} : ∀ j, j < 9 → xcell (xK xs) h (1000001 + j) = some (45, [.ref (xWda.getD j 0), .ref (xPma.getD j 0), .int (Int32.ofNat j)]) ∧ xStr (xK xs) h (xWda.getD j 0) (xWrd.getD j []) ∧ xStr (xK xs) h (xPma.getD j 0) (xPmr.getD j []) ∧ (1000000 ≤ xWda.getD j 0 ∧ 1000000 ≤ xPma.getD j 0) := by
  intro j hj
  have hcs : j = 0 ∨ j = 1 ∨ j = 2 ∨ j = 3 ∨ j = 4 ∨ j = 5 ∨ j = 6 ∨ j = 7 ∨ j = 8 := by omega
  rcases hcs with rfl | rfl | rfl | rfl | rfl | rfl | rfl | rfl | rfl
  all_goals exact ⟨rfl, ⟨_, _, _, rfl, rfl, by decide, by decide⟩, ⟨_, _, _, rfl, rfl, by decide, by decide⟩, by decide⟩
/-- sharedLength -/
theorem xs_shared (hB : xBok pre B) (hz : z.category = 1) {a : Nat} {s : List Nat} (hs : xStr (xK xs) (xHn pre B N C L g) a s) : xRn (xK xs) (xZ z) 5 55 [.ref (B + 231), .ref a] (xHn pre B N C L g) (.ok (some (.int (Int32.ofNat (xSh (xSig N) (N 231 3) s))))) (xHn pre B N C L g) := by
  have hlen : s.length < 1000 := hs.choose_spec.choose_spec.choose_spec.2.2.2
  have key : ∀ k n, n + k = s.length → xBp (xK xs) (xZ z) 4 3 [] xcX8_sharedLength (xseek xcX8_sharedLength 2) [(2, .int (Int32.ofNat n)), (0, .ref (B + 231)), (1, .ref a)] [] (xHn pre B N C L g) (fun r h' => (∀ v, r = .ok v → xrfit (some .int) v = true) ∧ r = .ok (some (.int (Int32.ofNat (xShr (xSig N) (N 231 3) s k n)))) ∧ h' = xHn pre B N C L g) := by
    obtain ⟨b, v2, v3, h1, -, -, -⟩ := id hs
    intro k
    induction k with
    | zero =>
      intro n hn
      obtain rfl : n = s.length := by omega
      refine xp_step rfl ?_
      refine xp_step rfl ?_
      refine xp_virtK h1 rfl (Nat.le_of_ble_eq_true rfl) rfl (xR_up (by decide) (xs_slen hs)) ?_
      refine xp_if2 rfl (fun _ => ?_) (fun q => absurd (Int32.le_refl _) (of_decide_eq_false q))
      refine xp_step rfl ?_
      refine xp_virtK h1 rfl (Nat.le_of_ble_eq_true rfl) rfl (xR_up (by decide) (xs_slen hs)) ?_
      exact xp_ret rfl ⟨fun v q => by cases q; rfl, rfl, rfl⟩
    | succ k ih =>
      intro n hn
      have ih := ih (n + 1) (by omega)
      refine xp_step rfl ?_
      refine xp_step rfl ?_
      refine xp_virtK h1 rfl (Nat.le_of_ble_eq_true rfl) rfl (xR_up (by decide) (xs_slen hs)) ?_
      refine xp_if2 rfl (fun q => ?_) (fun _ => ?_)
      · have q := of_decide_eq_true q
        rw [Int32.le_iff_toInt_le, (xi_ofNat (n := n) (by omega)).1, (xi_ofNat (n := s.length) (by omega)).1] at q
        omega
      refine xp_step rfl ?_
      refine xp_step rfl ?_
      refine xp_get hB (i := 231) (k := 3) (by decide) rfl (by decide) (by decide) ?_
      refine xp_step rfl ?_
      refine xp_step rfl ?_
      refine xp_virt (i := 231) hB (by decide) rfl rfl (Nat.le_of_ble_eq_true rfl) rfl (xR_up (by decide) (xs_sig hB _)) ?_
      refine xp_step rfl ?_
      refine xp_step rfl ?_
      refine xp_virtK h1 rfl (Nat.le_of_ble_eq_true rfl) rfl (xR_up (by decide) (xs_char hs (n := n) (by omega) hz)) ?_
      refine xp_if2 rfl (fun q => ?_) (fun q => ?_)
      · have q : xSig N (N 231 3 + Int32.ofNat n) = Int32.ofNat (s.getD n 0) := of_decide_eq_true q
        rw [xShr, if_pos q]
        refine xp_step (st1 := []) (loc1 := [(2, .int (Int32.ofNat n + Int32.ofInt 1)), (0, .ref (B + 231)), (1, .ref a)]) rfl ?_
        refine xp_jump rfl ?_
        rw [show Int32.ofNat n + Int32.ofInt 1 = Int32.ofNat (n + 1) from by rw [Int32.ofNat_add]; rfl]
        exact ih
      · have q : ¬ xSig N (N 231 3 + Int32.ofNat n) = Int32.ofNat (s.getD n 0) := of_decide_eq_false q
        rw [xShr, if_neg q]
        refine xp_step rfl ?_
        exact xp_ret rfl ⟨fun v q => by cases q; rfl, rfl, rfl⟩
  refine xRp_eq (xRp_of (m := (yX8_sharedLength, cX8_sharedLength, 3, (some .int), [], [], xcX8_sharedLength)) rfl (by show 2 ≤ 3; decide) ?_)
  show xBp (xK xs) (xZ z) 4 3 [] xcX8_sharedLength xcX8_sharedLength [(0, .ref (B + 231)), (1, .ref a)] [] _ _
  refine xp_step rfl ?_
  refine xp_step rfl ?_
  refine xp_weak ?_ (key s.length 0 (by omega))
  exact xLe_cons rfl (xLe_cons rfl (xLe_cons rfl xLe_nil))
/-- takeWord -/
theorem xs_word (hB : xBok pre B) (hz : z.category = 1) (hV : xVok V) : xRn (xK xs) (xZ z) 6 54 [.ref (B + 231)] (xHn pre B (xTxM N p V) C L g) (.ok (some (match (xTkW (xSig N) p 9 0 0).1 with | some j => .ref (1000001 + j) | none => .null))) (xHn pre B (xTxM N (xTkW (xSig N) p 9 0 0).2 V) C L g) := by
  have e3 : xTxM N p V 231 3 = p := xTx_at
  have key : ∀ k j lg (l9 : xL), j + k = 9 → xBp (xK xs) (xZ z) 5 7 [] xcX8_takeWord (xseek xcX8_takeWord 12) [(4, .int (Int32.ofNat j)), (3, .int 9), (2, .ref 1000010), (1, .int lg), (0, .ref (B + 231))] [] (xHn pre B (xTxM N p V) C L g) (fun r h' => (∀ v, r = .ok v → xrfit (some (.object "RiverReaches$Kind")) v = true) ∧ r = .ok (some (match (xTkW (xSig N) p k j lg).1 with | some j => .ref (1000001 + j) | none => .null)) ∧ h' = xHn pre B (xTxM N (xTkW (xSig N) p k j lg).2 V) C L g) := by
    intro k
    induction k with
    | zero =>
      intro j lg _ hj
      obtain rfl : j = 9 := by omega
      refine xp_step rfl ?_
      refine xp_step rfl ?_
      refine xp_jump rfl ?_
      refine xp_step rfl ?_
      refine xp_step rfl ?_
      refine xp_get hB (i := 231) (k := 3) (by decide) rfl (by decide) (by decide) ?_
      rw [e3]
      refine xp_step rfl ?_
      refine xp_step rfl ?_
      refine xp_put (x := p + lg) hB (i := 231) (k := 3) (by decide) rfl (by decide) (by decide) rfl ?_
      rw [xTx_pos]
      refine xp_step rfl ?_
      exact xp_ret rfl ⟨fun v q => by cases q; rfl, rfl, rfl⟩
    | succ k ih =>
      intro j lg _ hj
      obtain ⟨kc, kw, kp, -⟩ := xkind (xs := xs) (h := xHn pre B (xTxM N p V) C L g) j (by omega)
      obtain ⟨b, v2, v3, h1, -, -, -⟩ := id kw
      have hlt : xic .ge (Int32.ofNat j) 9 = false := (show ∀ j, j < 9 → xic .ge (Int32.ofNat j) 9 = false by decide) j (by omega)
      obtain ⟨i1, i2⟩ := xin_ofNat (n := j) (t := 9) (by omega) (by decide)
      refine xp_step rfl ?_
      refine xp_step rfl ?_
      refine xp_if2 rfl (fun q => absurd (q.symm.trans hlt) (by decide)) (fun _ => ?_)
      refine xp_step rfl ?_
      refine xp_step rfl ?_
      refine xp_step (loc1 := [(4, .int (Int32.ofNat j)), (3, .int 9), (2, .ref 1000010), (1, .int lg), (0, .ref (B + 231))]) (st1 := [.ref (1000001 + j)]) (h1 := xHn pre B (xTxM N p V) C L g) ?_ ?_
      · show xald (xK xs) xisA (fun a t => (decide (a < 1000000) && (decide (3 ≤ t) && decide (t ≤ 6))) || (decide (1000000 ≤ a) && decide (t = 7))) _ (.int (Int32.ofNat j) :: .ref 1000010 :: []) _ = _
        have hcs : j = 0 ∨ j = 1 ∨ j = 2 ∨ j = 3 ∨ j = 4 ∨ j = 5 ∨ j = 6 ∨ j = 7 ∨ j = 8 := by omega
        rcases hcs with rfl | rfl | rfl | rfl | rfl | rfl | rfl | rfl | rfl <;> rfl
      refine xp_step rfl ?_
      refine xp_step rfl ?_
      refine xp_step rfl ?_
      refine xp_getK kc rfl rfl ?_
      have hsh := xs_shared (N := xTxM N p V) (C := C) (L := L) (g := g) hB hz kw
      rw [e3, (xTx_sig hV).1] at hsh
      refine xp_virt (i := 231) hB (by decide) rfl rfl (Nat.le_of_ble_eq_true rfl) rfl hsh ?_
      refine xp_step rfl ?_
      refine xp_step rfl ?_
      refine xp_step rfl ?_
      refine xp_getK kc rfl rfl ?_
      refine xp_virtK h1 rfl (Nat.le_of_ble_eq_true rfl) rfl (xR_up (by decide) (xs_slen kw)) ?_
      refine xp_if2 rfl (fun q => ?_) (fun q => ?_)
      · have q : ¬ Int32.ofNat (xSh (xSig N) p (xWrd.getD j [])) = Int32.ofNat (xWrd.getD j []).length := by simpa [xic] using q
        rw [xTkW, if_neg q]
        refine xp_step rfl ?_
        refine xp_step rfl ?_
        refine xp_callR rfl (xR_up (by decide) (xs_max _ _ _)) ?_
        refine xp_step rfl ?_
        refine xp_step rfl ?_
        refine xp_jump rfl ?_
        rw [show Int32.ofNat j + Int32.ofInt 1 = Int32.ofNat (j + 1) from by rw [Int32.ofNat_add]; rfl]
        refine xp_weak ?_ (ih (j + 1) (xmax lg (Int32.ofNat (xSh (xSig N) p (xWrd.getD j [])))) [] (by omega))
        exact xLe_cons rfl (xLe_cons rfl (xLe_cons rfl (xLe_cons rfl (xLe_cons rfl xLe_nil))))
      · have q : Int32.ofNat (xSh (xSig N) p (xWrd.getD j [])) = Int32.ofNat (xWrd.getD j []).length := by simpa [xic] using q
        rw [xTkW, if_pos q]
        refine xp_step rfl ?_
        refine xp_step rfl ?_
        refine xp_get hB (i := 231) (k := 3) (by decide) rfl (by decide) (by decide) ?_
        rw [e3]
        refine xp_step rfl ?_
        refine xp_step rfl ?_
        refine xp_put (x := p + Int32.ofNat (xSh (xSig N) p (xWrd.getD j []))) hB (i := 231) (k := 3) (by decide) rfl (by decide) (by decide) rfl ?_
        rw [xTx_pos]
        refine xp_step rfl ?_
        exact xp_ret rfl ⟨fun v q => by cases q; rfl, rfl, rfl⟩
  refine xRp_eq (xRp_of (m := (yX8_takeWord, cX8_takeWord, 7, (some (.object "RiverReaches$Kind")), [], [], xcX8_takeWord)) rfl (by show 1 ≤ 7; decide) ?_)
  show xBp (xK xs) (xZ z) 5 7 [] xcX8_takeWord xcX8_takeWord [(0, .ref (B + 231))] [] _ _
  refine xp_step rfl ?_
  refine xp_step rfl ?_
  refine xp_step rfl ?_
  refine xp_step rfl ?_
  refine xp_step rfl ?_
  refine xp_step rfl ?_
  refine xp_step rfl ?_
  refine xp_step rfl ?_
  refine xp_step rfl ?_
  refine xp_weak ?_ (key 9 0 0 [] rfl)
  exact xLe_cons rfl (xLe_cons rfl (xLe_cons rfl (xLe_cons rfl (xLe_cons rfl xLe_nil))))
/-- takeSign -/
theorem xs_sign (hB : xBok pre B) (hV : xVok V) (c : Int32) : xRn (xK xs) (xZ z) 2 59 [.ref (B + 231), .int c] (xHn pre B (xTxM N p V) C L g) (.ok (some (.int (if xSig N p = c then 1 else 0)))) (xHn pre B (xTxM N (if xSig N p = c then p + 1 else p) V) C L g) := by
  have e3 : xTxM N p V 231 3 = p := xTx_at
  have hsg := xs_sig (K := xK xs) (Z := xZ z) (N := xTxM N p V) (C := C) (L := L) (g := g) hB p
  rw [(xTx_sig hV).1] at hsg
  refine xRp_eq (xRp_of (m := (yX8_takeSign, cX8_takeSign, 2, (some .boolean), [], [], xcX8_takeSign)) rfl (by show 2 ≤ 2; decide) ?_)
  show xBp (xK xs) (xZ z) 1 2 [] xcX8_takeSign xcX8_takeSign [(0, .ref (B + 231)), (1, .int c)] [] _ _
  refine xp_step rfl ?_
  refine xp_step rfl ?_
  refine xp_get hB (i := 231) (k := 3) (by decide) rfl (by decide) (by decide) ?_
  rw [e3]
  refine xp_virt (i := 231) hB (by decide) rfl rfl (Nat.le_of_ble_eq_true rfl) rfl hsg ?_
  refine xp_step rfl ?_
  refine xp_if2 rfl (fun q => ?_) (fun q => ?_)
  · have q : xSig N p = c := of_decide_eq_true q
    rw [if_pos q, if_pos q]
    refine xp_step rfl ?_
    refine xp_step rfl ?_
    refine xp_get hB (i := 231) (k := 3) (by decide) rfl (by decide) (by decide) ?_
    rw [e3]
    refine xp_step rfl ?_
    refine xp_step rfl ?_
    refine xp_put (x := p + 1) hB (i := 231) (k := 3) (by decide) rfl (by decide) (by decide) rfl ?_
    rw [xTx_pos]
    refine xp_step rfl ?_
    exact xp_ret rfl ⟨fun v q => by cases q; rfl, rfl, rfl⟩
  · have q : ¬ xSig N p = c := of_decide_eq_false q
    rw [if_neg q, if_neg q]
    refine xp_step rfl ?_
    exact xp_ret rfl ⟨fun v q => by cases q; rfl, rfl, rfl⟩
/-- takeLetter -/
theorem xs_letter (hB : xBok pre B) (hV : xVok V) : xRn (xK xs) (xZ z) 2 57 [.ref (B + 231)] (xHn pre B (xTxM N p V) C L g) (.ok (some (.int (xTkL (xSig N) p).1))) (xHn pre B (xTxM N (xTkL (xSig N) p).2 V) C L g) := by
  have e3 : xTxM N p V 231 3 = p := xTx_at
  have hsg := xs_sig (K := xK xs) (Z := xZ z) (N := xTxM N p V) (C := C) (L := L) (g := g) hB p
  rw [(xTx_sig hV).1] at hsg
  refine xRp_eq (xRp_of (m := (yX8_takeLetter, cX8_takeLetter, 2, (some .int), [], [], xcX8_takeLetter)) rfl (by show 1 ≤ 2; decide) ?_)
  show xBp (xK xs) (xZ z) 1 2 [] xcX8_takeLetter xcX8_takeLetter [(0, .ref (B + 231))] [] _ _
  refine xp_step rfl ?_
  refine xp_step rfl ?_
  refine xp_get hB (i := 231) (k := 3) (by decide) rfl (by decide) (by decide) ?_
  rw [e3]
  refine xp_virt (i := 231) hB (by decide) rfl rfl (Nat.le_of_ble_eq_true rfl) rfl hsg ?_
  refine xp_step rfl ?_
  refine xp_step rfl ?_
  refine xp_callR rfl (xs_isRule _ (xSig N p)) ?_
  unfold xTkL
  cases e : xrule (xSig N p) with
  | true =>
    rw [if_pos rfl]
    refine xp_jump rfl ?_
    refine xp_step rfl ?_
    refine xp_step rfl ?_
    refine xp_get hB (i := 231) (k := 3) (by decide) rfl (by decide) (by decide) ?_
    rw [e3]
    refine xp_step rfl ?_
    refine xp_step rfl ?_
    refine xp_put (x := p + 1) hB (i := 231) (k := 3) (by decide) rfl (by decide) (by decide) rfl ?_
    rw [xTx_pos]
    refine xp_step rfl ?_
    exact xp_ret rfl ⟨fun v q => by cases q; rfl, rfl, rfl⟩
  | false =>
    rw [if_neg (by decide)]
    refine xp_step rfl ?_
    refine xp_step rfl ?_
    exact xp_ret rfl ⟨fun v q => by cases q; rfl, rfl, rfl⟩
/-- takeDigits -/
theorem xs_digits (hB : xBok pre B) (hV : xVok V) {m : Nat} (hm : m ≤ 3) : xRn (xK xs) (xZ z) 2 58 [.ref (B + 231), .int (Int32.ofNat m)] (xHn pre B (xTxM N p V) C L g) (.ok (some (.int (xTkD (xSig N) m p (-1)).1))) (xHn pre B (xTxM N (xTkD (xSig N) m p (-1)).2 V) C L g) := by
  have key : ∀ k n q v, n + k = m → xBp (xK xs) (xZ z) 1 5 [] xcX8_takeDigits (xseek xcX8_takeDigits 4) [(3, .int (Int32.ofNat n)), (2, .int v), (0, .ref (B + 231)), (1, .int (Int32.ofNat m))] [] (xHn pre B (xTxM N q V) C L g) (fun r h' => (∀ v, r = .ok v → xrfit (some .int) v = true) ∧ r = .ok (some (.int (xTkD (xSig N) k q v).1)) ∧ h' = xHn pre B (xTxM N (xTkD (xSig N) k q v).2 V) C L g) := by
    intro k
    induction k with
    | zero =>
      intro n q v hn
      obtain rfl : n = m := by omega
      refine xp_step rfl ?_
      refine xp_step rfl ?_
      refine xp_if2 rfl (fun _ => ?_) (fun q => absurd (Int32.le_refl _) (of_decide_eq_false q))
      refine xp_step rfl ?_
      exact xp_ret rfl ⟨fun v q => by cases q; rfl, rfl, rfl⟩
    | succ k ih =>
      intro n q v hn
      have e3 : xTxM N q V 231 3 = q := xTx_at
      have hsg := xs_sig (K := xK xs) (Z := xZ z) (N := xTxM N q V) (C := C) (L := L) (g := g) hB q
      rw [(xTx_sig hV).1] at hsg
      refine xp_step rfl ?_
      refine xp_step rfl ?_
      refine xp_if2 rfl (fun q => ?_) (fun _ => ?_)
      · have q := of_decide_eq_true q
        rw [Int32.le_iff_toInt_le, (xi_ofNat (n := n) (by omega)).1, (xi_ofNat (n := m) (by omega)).1] at q
        omega
      refine xp_step rfl ?_
      refine xp_step rfl ?_
      refine xp_get hB (i := 231) (k := 3) (by decide) rfl (by decide) (by decide) ?_
      rw [e3]
      refine xp_virt (i := 231) hB (by decide) rfl rfl (Nat.le_of_ble_eq_true rfl) rfl hsg ?_
      refine xp_step rfl ?_
      refine xp_step rfl ?_
      refine xp_step rfl ?_
      refine xp_step rfl ?_
      refine xp_callR rfl (xs_within _ (xSig N q) 48 57) ?_
      rw [xTkD]
      cases e : xwin (xSig N q) 48 57 with
      | true =>
        rw [if_pos rfl]
        refine xp_jump rfl ?_
        refine xp_step rfl ?_
        refine xp_step rfl ?_
        refine xp_callR rfl (xs_max _ v 0) ?_
        refine xp_step rfl ?_
        refine xp_step rfl ?_
        refine xp_step rfl ?_
        refine xp_step rfl ?_
        refine xp_step rfl ?_
        refine xp_step rfl ?_
        refine xp_step rfl ?_
        refine xp_step rfl ?_
        refine xp_step rfl ?_
        refine xp_get hB (i := 231) (k := 3) (by decide) rfl (by decide) (by decide) ?_
        rw [e3]
        refine xp_step rfl ?_
        refine xp_step rfl ?_
        refine xp_put (x := q + 1) hB (i := 231) (k := 3) (by decide) rfl (by decide) (by decide) rfl ?_
        rw [xTx_pos]
        refine xp_step rfl ?_
        refine xp_jump rfl ?_
        rw [show Int32.ofNat n + Int32.ofInt 1 = Int32.ofNat (n + 1) from by rw [Int32.ofNat_add]; rfl]
        refine xp_weak ?_ (ih (n + 1) (q + 1) (xmax v 0 * 10 + xSig N q - 48) (by omega))
        exact xLe_cons rfl (xLe_cons rfl (xLe_cons rfl (xLe_cons rfl xLe_nil)))
      | false =>
        rw [if_neg (by decide)]
        refine xp_step rfl ?_
        refine xp_step rfl ?_
        exact xp_ret rfl ⟨fun v q => by cases q; rfl, rfl, rfl⟩
  refine xRp_eq (xRp_of (m := (yX8_takeDigits, cX8_takeDigits, 5, (some .int), [], [], xcX8_takeDigits)) rfl (by show 2 ≤ 5; decide) ?_)
  show xBp (xK xs) (xZ z) 1 5 [] xcX8_takeDigits xcX8_takeDigits [(0, .ref (B + 231)), (1, .int (Int32.ofNat m))] [] _ _
  refine xp_step rfl ?_
  refine xp_step rfl ?_
  refine xp_step rfl ?_
  refine xp_step rfl ?_
  refine xp_weak ?_ (key m 0 p (-1) (by omega))
  exact xLe_cons rfl (xLe_cons rfl (xLe_cons rfl (xLe_cons rfl xLe_nil)))
/-- takeParameter -/
theorem xs_param (hB : xBok pre B) (hV : xVok V) {f : Nat} (hf : f < 128) : xRn (xK xs) (xZ z) 3 56 [.ref (B + 231), .int (Int32.ofNat f)] (xHn pre B (xTxM N p V) C L g) (.ok (some (.int (xTkP (xSig N) f p).1))) (xHn pre B (xTxM N (xTkP (xSig N) f p).2 V) C L g) := by
  have hd1 := xs_digits (xs := xs) (z := z) (N := N) (C := C) (L := L) (g := g) (p := p) hB hV (m := 1) (by decide)
  have hd3 := xs_digits (xs := xs) (z := z) (N := N) (C := C) (L := L) (g := g) (p := p) hB hV (m := 3) (by decide)
  have hfe : ∀ c, c < 128 → ((Int32.ofNat f = Int32.ofNat c) ↔ f = c) := by
    intro c hc
    constructor
    · intro h
      have h2 := congrArg Int32.toInt h
      rw [(xi_ofNat (n := f) (by omega)).1, (xi_ofNat (n := c) (by omega)).1] at h2
      omega
    · intro h
      rw [h]
  refine xRp_eq (xRp_of (m := (yX8_takeParameter, cX8_takeParameter, 2, (some .int), [], [], xcX8_takeParameter)) rfl (by show 2 ≤ 2; decide) ?_)
  show xBp (xK xs) (xZ z) 2 2 [] xcX8_takeParameter xcX8_takeParameter [(0, .ref (B + 231)), (1, .int (Int32.ofNat f))] [] _ _
  unfold xTkP
  refine xp_step rfl ?_
  refine xp_step rfl ?_
  refine xp_if2 rfl (fun q => ?_) (fun q => ?_)
  · have q : ¬ f = 108 := fun h => by
      rw [h] at q
      exact absurd q (by decide)
    rw [if_neg q]
    refine xp_step rfl ?_
    refine xp_step rfl ?_
    refine xp_step rfl ?_
    refine xp_if2 rfl (fun q2 => ?_) (fun q2 => ?_)
    · have q2 : ¬ f = 100 := fun h => by
        rw [h] at q2
        exact absurd q2 (by decide)
      rw [if_neg q2]
      refine xp_step rfl ?_
      refine xp_virt (i := 231) hB (by decide) rfl rfl (Nat.le_of_ble_eq_true rfl) rfl hd3 ?_
      exact xp_ret rfl ⟨fun v q => by cases q; rfl, rfl, rfl⟩
    · have q2 : f = 100 := (hfe 100 (by decide)).mp (by simpa [xic] using q2)
      rw [if_pos q2]
      refine xp_step rfl ?_
      refine xp_jump rfl ?_
      refine xp_virt (i := 231) hB (by decide) rfl rfl (Nat.le_of_ble_eq_true rfl) rfl hd1 ?_
      exact xp_ret rfl ⟨fun v q => by cases q; rfl, rfl, rfl⟩
  · have q : f = 108 := (hfe 108 (by decide)).mp (by simpa [xic] using q)
    rw [if_pos q]
    refine xp_step rfl ?_
    refine xp_virt (i := 231) hB (by decide) rfl rfl (Nat.le_of_ble_eq_true rfl) rfl (xs_letter hB hV) ?_
    exact xp_ret rfl ⟨fun v q => by cases q; rfl, rfl, rfl⟩
end XPR
