/-! COMMANDS READ -/
def xCup (C : Nat → Nat) (i c : Nat) : Nat → Nat := fun q => if q = i then c else C q
def xTkC (sg : Int32 → Int32) (i : Nat) (p : Int32) (V : Nat → Nat → Option Int32) (C : Nat → Nat) : Bool × Int32 × (Nat → Nat → Option Int32) × (Nat → Nat) := match (xTkW sg p 9 0 0).1 with
  | none => (false, (xTkW sg p 9 0 0).2, V, C)
  | some j => ((xTkA sg (xPmr.getD j []) i (xPmr.getD j []).length 0 (xTkW sg p 9 0 0).2 V).1, (xTkA sg (xPmr.getD j []) i (xPmr.getD j []).length 0 (xTkW sg p 9 0 0).2 V).2.1, (xTkA sg (xPmr.getD j []) i (xPmr.getD j []).length 0 (xTkW sg p 9 0 0).2 V).2.2, xCup C i (1 + j))
def xVct (V : Nat → Nat → Option Int32) (n : Nat) : Nat → Nat → Option Int32 := fun a b => if a = 231 ∧ b = 4 then some (Int32.ofNat n + 1) else V a b
/-- parse: k commands left, n read -/
def xPar (sg : Int32 → Int32) (len : Int32) : Nat → Nat → Int32 → (Nat → Nat → Option Int32) → (Nat → Nat) → Int32 × Int32 × (Nat → Nat → Option Int32) × (Nat → Nat)
  | 0, _, p, V, C => (p, p, V, C)
  | k + 1, n, p, V, C => if (xTkC sg (234 + n) p V C).1 = false then ((xTkC sg (234 + n) p V C).2.1, (xTkC sg (234 + n) p V C).2) else
    if (xTkC sg (234 + n) p V C).2.1 = len then (-1, (xTkC sg (234 + n) p V C).2.1, xVct (xTkC sg (234 + n) p V C).2.2.1 n, (xTkC sg (234 + n) p V C).2.2.2) else
    if sg (xTkC sg (234 + n) p V C).2.1 = 59 then xPar sg len k (n + 1) ((xTkC sg (234 + n) p V C).2.1 + 1) (xVct (xTkC sg (234 + n) p V C).2.2.1 n) (xTkC sg (234 + n) p V C).2.2.2 else
    ((xTkC sg (234 + n) p V C).2.1, (xTkC sg (234 + n) p V C).2.1, xVct (xTkC sg (234 + n) p V C).2.2.1 n, (xTkC sg (234 + n) p V C).2.2.2)
theorem xTkW_lt {sg : Int32 → Int32} {p : Int32} : ∀ k j lg i, j + k = 9 → (xTkW sg p k j lg).1 = some i → i < 9 := by
  intro k
  induction k with
  | zero => intro j lg i _ h; cases h
  | succ k ih =>
    intro j lg i hj h
    rw [xTkW] at h
    split at h
    · cases h; omega
    · exact ih _ _ _ (by omega) h
theorem xTkA_ok {sg : Int32 → Int32} {ps : List Nat} {i : Nat} (hi : 234 ≤ i ∧ i < 250) : ∀ k n p V, xVok V → xVok (xTkA sg ps i k n p V).2.2 := by
  intro k
  induction k with
  | zero => intro n p V h; exact h
  | succ k ih =>
    intro n p V h
    rw [xTkA]
    generalize (if n = 0 then p else p + 1) = q
    generalize (if n = 0 then 1 else if n = 1 then 2 else 3) = b0
    split
    · split
      · exact h
      · refine ih _ _ _ (fun a b hab => ?_)
        by_cases h9 : a = i
        · exact Or.inl (by omega)
        · rw [if_neg (fun q => h9 q.1)] at hab
          exact h a b hab
    · exact h
theorem xTkC_ok {sg : Int32 → Int32} {i : Nat} {p : Int32} {V : Nat → Nat → Option Int32} {C : Nat → Nat} (hi : 234 ≤ i ∧ i < 250) (h : xVok V) : xVok (xTkC sg i p V C).2.2.1 := by
  unfold xTkC
  split
  · exact h
  · exact xTkA_ok hi _ _ _ _ h
theorem xVct_ok {V : Nat → Nat → Option Int32} {n : Nat} (h : xVok V) : xVok (xVct V n) := by
  intro a b hab
  unfold xVct at hab
  split at hab
  · omega
  · exact h a b hab
section XCM
variable {xs : List Int32} {z : Value} {pre g : xH} {B L : Nat} {N : Nat → Nat → Int32} {C : Nat → Nat} {P : xA → xH → Prop} {p : Int32} {V : Nat → Nat → Option Int32} {K : List (Nat × List Value)} {Z : List Value}
theorem xp_kput {d nL pc j0 ln j c : Nat} {hs : List (Nat × Nat × Nat × Nat)} {code cs : List xE} {loc : xL} {st : List Value} {aux : List Nat} (hB : xBok pre B) (hj : j < 16) (hb : xBp K Z d nL hs code cs loc st (xHn pre B N (xCup C (234 + j) c) L g) P) : xBp K Z d nL hs code ((pc, .putfield j0, ln, 4 :: 0 :: aux) :: cs) loc (.ref (1000000 + c) :: .ref (B + (234 + j)) :: st) (xHn pre B N C L g) P := by
  obtain ⟨c1, c2, -⟩ := xcm_cell j hj
  have e0 : xrf0 (234 + j) 0 = none := (show ∀ j, j < 16 → xrf0 (234 + j) 0 = none by decide) j hj
  have ev : xup (xMv B N C L) (234 + j) 0 (.ref (1000000 + c)) = xMv B N (xCup C (234 + j) c) L := by
    funext a b
    unfold xup
    by_cases h : a = 234 + j ∧ b = 0
    · rw [if_pos h, h.1, h.2]
      unfold xMv
      rw [e0]
      dsimp only
      rw [if_neg (by omega), if_pos (by omega)]
      unfold xCup
      rw [if_pos rfl]
    · rw [if_neg h]
      unfold xMv
      cases hq : xrf0 a b with
      | some r => rfl
      | none =>
        dsimp only
        by_cases h2 : a = 251 ∧ b = 0
        · rw [if_pos h2, if_pos h2]
        · rw [if_neg h2, if_neg h2]
          by_cases h3 : 234 ≤ a ∧ a < 250 ∧ b = 0
          · rw [if_pos h3, if_pos h3]
            unfold xCup
            rw [if_neg (by omega)]
          · rw [if_neg h3, if_neg h3]
  refine xp_step (loc1 := loc) (st1 := st) (h1 := xHn pre B N (xCup C (234 + j) c) L g) ?_ hb
  have e := xm_putf (loc := loc) (st := st) (g := g) (m := xMv B N C L) (k := 0) (ty := xFt 4 0) (v := .ref (1000000 + c)) hB.1 hB.2 c2 c1 (by decide) rfl
  rw [ev] at e
  exact e
/-- takeCommand -/
theorem xs_command (hB : xBok pre B) (hz : z.category = 1) (hV : xVok V) {i : Nat} (hi : i < 16) : xRn (xK xs) (xZ z) 7 53 [.ref (B + 231), .ref (B + (234 + i))] (xHn pre B (xTxM N p V) C L g) (.ok (some (.int (if (xTkC (xSig N) (234 + i) p V C).1 = true then 1 else 0)))) (xHn pre B (xTxM N (xTkC (xSig N) (234 + i) p V C).2.1 (xTkC (xSig N) (234 + i) p V C).2.2.1) (xTkC (xSig N) (234 + i) p V C).2.2.2 L g) := by
  have key : ∀ (j : Nat) (C : Nat → Nat), j < 9 → ∀ k n p V, xVok V → n + k = (xPmr.getD j []).length → xBp (xK xs) (xZ z) 6 5 [] xcX8_takeCommand (xseek xcX8_takeCommand 18) [(3, .int (Int32.ofNat n)), (2, .ref (1000001 + j)), (0, .ref (B + 231)), (1, .ref (B + (234 + i)))] [] (xHn pre B (xTxM N p V) C L g) (fun r h' => (∀ v, r = .ok v → xrfit (some .boolean) v = true) ∧ r = .ok (some (.int (if (xTkA (xSig N) (xPmr.getD j []) (234 + i) k n p V).1 = true then 1 else 0))) ∧ h' = xHn pre B (xTxM N (xTkA (xSig N) (xPmr.getD j []) (234 + i) k n p V).2.1 (xTkA (xSig N) (xPmr.getD j []) (234 + i) k n p V).2.2) C L g) := by
    intro j C hj k
    have hlen : (xPmr.getD j []).length ≤ 3 := (show ∀ j, j < 9 → (xPmr.getD j []).length ≤ 3 by decide) j hj
    induction k with
    | zero =>
      intro n p V hV hn
      obtain ⟨kc, kw, kp, -⟩ := xkind (xs := xs) (h := xHn pre B (xTxM N p V) C L g) j hj
      obtain ⟨b, v2, v3, h1, -, -, -⟩ := id kp
      have hn9 : (xPmr.getD j []).length = n := by omega
      refine xp_step rfl ?_
      refine xp_step rfl ?_
      refine xp_getK kc rfl rfl ?_
      refine xp_virtK h1 rfl (Nat.le_of_ble_eq_true rfl) rfl (xR_up (by decide) (xs_slen kp)) ?_
      rw [hn9]
      refine xp_if2 rfl (fun _ => ?_) (fun q => absurd (Int32.le_refl _) (of_decide_eq_false q))
      refine xp_step rfl ?_
      exact xp_ret rfl ⟨fun v q => by cases q; rfl, rfl, rfl⟩
    | succ k ih =>
      intro n p V hV hn
      obtain ⟨kc, kw, kp, -⟩ := xkind (xs := xs) (h := xHn pre B (xTxM N p V) C L g) j hj
      obtain ⟨b, v2, v3, h1, -, -, -⟩ := id kp
      have hfit : xfit .boolean (.int 1) = true ∧ xfit .boolean (.int 0) = true := ⟨rfl, rfl⟩
      refine xp_step rfl ?_
      refine xp_step rfl ?_
      refine xp_getK kc rfl rfl ?_
      refine xp_virtK h1 rfl (Nat.le_of_ble_eq_true rfl) rfl (xR_up (by decide) (xs_slen kp)) ?_
      refine xp_if2 rfl (fun q => ?_) (fun _ => ?_)
      · have q := of_decide_eq_true q
        rw [Int32.le_iff_toInt_le, (xi_ofNat (n := n) (by omega)).1, (xi_ofNat (n := (xPmr.getD j []).length) (by omega)).1] at q
        omega
      have hf : (xPmr.getD j []).getD n 0 < 128 := (show ∀ j, j < 9 → ∀ n, n < 3 → (xPmr.getD j []).getD n 0 < 128 by decide) j hj n (by omega)
      have body : ∀ q : Int32, (if n = 0 then p else p + 1) = q → (n = 0 ∨ xSig N p = 32) → xBp (xK xs) (xZ z) 6 5 [] xcX8_takeCommand (xseek xcX8_takeCommand 44) [(3, .int (Int32.ofNat n)), (2, .ref (1000001 + j)), (0, .ref (B + 231)), (1, .ref (B + (234 + i)))] [] (xHn pre B (xTxM N q V) C L g) (fun r h' => (∀ v, r = .ok v → xrfit (some .boolean) v = true) ∧ r = .ok (some (.int (if (xTkA (xSig N) (xPmr.getD j []) (234 + i) (k + 1) n p V).1 = true then 1 else 0))) ∧ h' = xHn pre B (xTxM N (xTkA (xSig N) (xPmr.getD j []) (234 + i) (k + 1) n p V).2.1 (xTkA (xSig N) (xPmr.getD j []) (234 + i) (k + 1) n p V).2.2) C L g) := by
        intro q hq hor
        rw [xTkA, if_pos hor, hq]
        obtain ⟨kc, kw, kp, -⟩ := xkind (xs := xs) (h := xHn pre B (xTxM N q V) C L g) j hj
        obtain ⟨b, v2, v3, h1, -, -, -⟩ := id kp
        refine xp_step rfl ?_
        refine xp_step rfl ?_
        refine xp_getK kc rfl rfl ?_
        refine xp_step rfl ?_
        refine xp_virtK h1 rfl (Nat.le_of_ble_eq_true rfl) rfl (xR_up (by decide) (xs_char kp (n := n) (by omega) hz)) ?_
        refine xp_virt (i := 231) hB (by decide) rfl rfl (Nat.le_of_ble_eq_true rfl) rfl (xR_up (by decide) (xs_param (p := q) hB hV hf)) ?_
        refine xp_step rfl ?_
        refine xp_step rfl ?_
        refine xp_step rfl ?_
        refine xp_if2 rfl (fun qv => ?_) (fun qv => ?_)
        · have qv : ¬ (xTkP (xSig N) ((xPmr.getD j []).getD n 0) q).1 = -1 := by simpa [xic] using qv
          rw [if_neg qv]
          refine xp_step rfl ?_
          refine xp_step rfl ?_
          refine xp_step rfl ?_
          refine xp_virt (i := 234 + i) hB (by omega) (xcm_cell i hi).1 rfl (Nat.le_of_ble_eq_true rfl) rfl (xR_up (by decide) (xs_put hB hi _ _)) ?_
          have em : xNcmd (xTxM N (xTkP (xSig N) ((xPmr.getD j []).getD n 0) q).2 V) (234 + i) (Int32.ofNat n) (xTkP (xSig N) ((xPmr.getD j []).getD n 0) q).1 = xTxM N (xTkP (xSig N) ((xPmr.getD j []).getD n 0) q).2 (fun a b => if a = 234 + i ∧ b = (if n = 0 then 1 else if n = 1 then 2 else 3) then some (xTkP (xSig N) ((xPmr.getD j []).getD n 0) q).1 else V a b) := by
            have hn3 : n = 0 ∨ n = 1 ∨ n = 2 := by omega
            rcases hn3 with rfl | rfl | rfl
            · exact xTx_put (by omega)
            · exact xTx_put (by omega)
            · exact xTx_put (by omega)
          rw [em]
          refine xp_step rfl ?_
          refine xp_jump rfl ?_
          rw [show Int32.ofNat n + Int32.ofInt 1 = Int32.ofNat (n + 1) from by rw [Int32.ofNat_add]; rfl]
          refine xp_weak ?_ (ih (n + 1) _ _ (fun a b hab => ?_) (by omega))
          · exact xLe_cons rfl (xLe_cons rfl (xLe_cons rfl (xLe_cons rfl xLe_nil)))
          · by_cases h9 : a = 234 + i
            · exact Or.inl (by omega)
            · rw [if_neg (fun q => h9 q.1)] at hab
              exact hV a b hab
        · have qv : (xTkP (xSig N) ((xPmr.getD j []).getD n 0) q).1 = -1 := by simpa [xic] using qv
          rw [if_pos qv]
          refine xp_step rfl ?_
          exact xp_ret rfl ⟨fun v q => by cases q; rfl, rfl, rfl⟩
      refine xp_step rfl ?_
      refine xp_if1 rfl (fun q => ?_) (fun q => ?_)
      · have q0 : n = 0 := by
          have q := of_decide_eq_true q
          rw [Int32.le_iff_toInt_le, (xi_ofNat (n := n) (by omega)).1, show (0 : Int32).toInt = 0 from rfl] at q
          omega
        exact body p (if_pos q0) (Or.inl q0)
      · have q0 : ¬ n = 0 := by
          have q := of_decide_eq_false q
          intro h
          rw [h] at q
          exact q (by decide)
        refine xp_step rfl ?_
        refine xp_step rfl ?_
        refine xp_virt (i := 231) hB (by decide) rfl rfl (Nat.le_of_ble_eq_true rfl) rfl (xR_up (by decide) (xs_sign hB hV 32)) ?_
        by_cases q32 : xSig N p = 32
        · rw [if_pos q32, if_pos q32]
          refine xp_jump rfl ?_
          exact body (p + 1) (if_neg q0) (Or.inr q32)
        · have hno : ¬ (n = 0 ∨ xSig N p = 32) := fun h => h.elim q0 q32
          rw [if_neg q32, if_neg q32, xTkA, if_neg hno]
          refine xp_step rfl ?_
          refine xp_step rfl ?_
          exact xp_ret rfl ⟨fun v q => by cases q; rfl, rfl, rfl⟩
  refine xRp_eq (xRp_of (m := (yX8_takeCommand, cX8_takeCommand, 5, (some .boolean), [], [], xcX8_takeCommand)) rfl (by show 2 ≤ 5; decide) ?_)
  show xBp (xK xs) (xZ z) 6 5 [] xcX8_takeCommand xcX8_takeCommand [(0, .ref (B + 231)), (1, .ref (B + (234 + i)))] [] _ _
  have hword := xs_word (xs := xs) (z := z) (N := N) (C := C) (L := L) (g := g) (p := p) hB hz hV
  unfold xTkC
  cases hw : (xTkW (xSig N) p 9 0 0).1 with
  | none =>
    rw [hw] at hword
    dsimp only at hword
    refine xp_step rfl ?_
    refine xp_virt (i := 231) hB (by decide) rfl rfl (Nat.le_of_ble_eq_true rfl) rfl hword ?_
    refine xp_step rfl ?_
    refine xp_step rfl ?_
    refine xp_step rfl ?_
    refine xp_step rfl ?_
    exact xp_ret rfl ⟨fun v q => by cases q; rfl, rfl, rfl⟩
  | some j =>
    have hj := xTkW_lt 9 0 0 j rfl hw
    rw [hw] at hword
    dsimp only at hword
    rw [show 1000001 + j = 1000000 + (1 + j) from by omega] at hword
    refine xp_step rfl ?_
    refine xp_virt (i := 231) hB (by decide) rfl rfl (Nat.le_of_ble_eq_true rfl) rfl hword ?_
    refine xp_step rfl ?_
    refine xp_step rfl ?_
    refine xp_jump rfl ?_
    refine xp_step rfl ?_
    refine xp_step rfl ?_
    refine xp_kput hB hi ?_
    refine xp_step rfl ?_
    refine xp_step rfl ?_
    refine xp_weak ?_ (key j (xCup C (234 + i) (1 + j)) hj _ 0 _ _ hV (Nat.zero_add _))
    exact xLe_cons rfl (xLe_cons (by rw [show 1000001 + j = 1000000 + (1 + j) from by omega]; rfl) (xLe_cons rfl (xLe_cons rfl xLe_nil)))
/-- parse -/
theorem xs_parse (hB : xBok pre B) (hz : z.category = 1) : xRn (xK xs) (xZ z) 8 52 [.ref (B + 231)] (xHn pre B N C L g) (.ok (some (.int (xPar (xSig N) (N 231 2) 16 0 0 (fun _ _ => none) C).1))) (xHn pre B (xTxM N (xPar (xSig N) (N 231 2) 16 0 0 (fun _ _ => none) C).2.1 (xPar (xSig N) (N 231 2) 16 0 0 (fun _ _ => none) C).2.2.1) (xPar (xSig N) (N 231 2) 16 0 0 (fun _ _ => none) C).2.2.2 L g) := by
  have key : ∀ k n p V (C : Nat → Nat), xVok V → n + k = 16 → xBp (xK xs) (xZ z) 7 2 [] xcX8_parse (xseek xcX8_parse 7) [(1, .int (Int32.ofNat n)), (0, .ref (B + 231))] [] (xHn pre B (xTxM N p V) C L g) (fun r h' => (∀ v, r = .ok v → xrfit (some .int) v = true) ∧ r = .ok (some (.int (xPar (xSig N) (N 231 2) k n p V C).1)) ∧ h' = xHn pre B (xTxM N (xPar (xSig N) (N 231 2) k n p V C).2.1 (xPar (xSig N) (N 231 2) k n p V C).2.2.1) (xPar (xSig N) (N 231 2) k n p V C).2.2.2 L g) := by
    intro k
    induction k with
    | zero =>
      intro n p V C hV hn
      obtain rfl : n = 16 := by omega
      have e3 : xTxM N p V 231 3 = p := xTx_at
      refine xp_step rfl ?_
      refine xp_step rfl ?_
      refine xp_jump rfl ?_
      refine xp_step rfl ?_
      refine xp_get hB (i := 231) (k := 3) (by decide) rfl (by decide) (by decide) ?_
      rw [e3]
      exact xp_ret rfl ⟨fun v q => by cases q; rfl, rfl, rfl⟩
    | succ k ih =>
      intro n p V C hV hn
      have hlt : xic .ge (Int32.ofNat n) (Int8.ofInt 16).toInt32 = false := (show ∀ n, n < 16 → xic .ge (Int32.ofNat n) (Int8.ofInt 16).toInt32 = false by decide) n (by omega)
      obtain ⟨i1, i2⟩ := xin_ofNat (n := n) (t := 16) (by omega) (by decide)
      have hV1 := xTkC_ok (sg := xSig N) (p := p) (C := C) (i := 234 + n) (by omega) hV
      have hV2 := xVct_ok (n := n) hV1
      refine xp_step rfl ?_
      refine xp_step rfl ?_
      refine xp_if2 rfl (fun q => absurd (q.symm.trans hlt) (by decide)) (fun _ => ?_)
      refine xp_step rfl ?_
      refine xp_step rfl ?_
      refine xp_ref hB (i := 231) (k := 1) (q := 233) (by decide) rfl (by decide) rfl ?_
      refine xp_step rfl ?_
      refine xp_aald hB (i := 233) (q := 234 + n) (by decide) (show xKd 233 = (50 + 3, 16) from rfl) (by decide) i1 (by rw [i2]; rfl) ?_
      refine xp_virt (i := 231) hB (by decide) rfl rfl (Nat.le_of_ble_eq_true rfl) rfl (xs_command hB hz hV (by omega)) ?_
      rw [xPar]
      generalize xTkC (xSig N) (234 + n) p V C = t at hV1 hV2 ⊢
      obtain ⟨tb, tp, tV, tC⟩ := t
      dsimp only at hV1 hV2 ⊢
      have e3 : xTxM N tp tV 231 3 = tp := xTx_at
      cases tb with
      | false =>
        rw [if_pos (show (false = false) from rfl)]
        refine xp_step rfl ?_
        refine xp_step rfl ?_
        refine xp_get hB (i := 231) (k := 3) (by decide) rfl (by decide) (by decide) ?_
        rw [e3]
        exact xp_ret rfl ⟨fun v q => by cases q; rfl, rfl, rfl⟩
      | true =>
        rw [if_neg (show ¬ (true = false) by decide)]
        have e3 : xTxM N tp (xVct tV n) 231 3 = tp := xTx_at
        refine xp_jump rfl ?_
        refine xp_step rfl ?_
        refine xp_step rfl ?_
        refine xp_step rfl ?_
        refine xp_step rfl ?_
        refine xp_put (x := Int32.ofNat n + 1) hB (i := 231) (k := 4) (by decide) rfl (by decide) (by decide) rfl ?_
        rw [show xupN (xTxM N tp tV) 231 4 (Int32.ofNat n + 1) = xTxM N tp (xVct tV n) from xTx_put (by omega)]
        refine xp_step rfl ?_
        refine xp_get hB (i := 231) (k := 3) (by decide) rfl (by decide) (by decide) ?_
        rw [e3]
        refine xp_step rfl ?_
        refine xp_get hB (i := 231) (k := 2) (by decide) rfl (by decide) (by decide) ?_
        rw [(xTx_sig hV2).2]
        refine xp_if2 rfl (fun q => ?_) (fun q => ?_)
        · have q : ¬ tp = N 231 2 := by simpa [xic] using q
          rw [if_neg q]
          refine xp_step rfl ?_
          refine xp_step rfl ?_
          refine xp_virt (i := 231) hB (by decide) rfl rfl (Nat.le_of_ble_eq_true rfl) rfl (xR_up (by decide) (xs_sign hB hV2 59)) ?_
          by_cases q59 : xSig N tp = 59
          · rw [if_pos q59, if_pos q59, if_pos q59]
            refine xp_jump rfl ?_
            refine xp_step rfl ?_
            refine xp_jump rfl ?_
            rw [show Int32.ofNat n + Int32.ofInt 1 = Int32.ofNat (n + 1) from by rw [Int32.ofNat_add]; rfl]
            refine xp_weak ?_ (ih (n + 1) _ _ _ hV2 (by omega))
            exact xLe_cons rfl (xLe_cons rfl xLe_nil)
          · rw [if_neg q59, if_neg q59, if_neg q59]
            refine xp_step rfl ?_
            refine xp_step rfl ?_
            refine xp_get hB (i := 231) (k := 3) (by decide) rfl (by decide) (by decide) ?_
            rw [e3]
            exact xp_ret rfl ⟨fun v q => by cases q; rfl, rfl, rfl⟩
        · have q : tp = N 231 2 := by simpa [xic] using q
          rw [if_pos q]
          refine xp_step rfl ?_
          exact xp_ret rfl ⟨fun v q => by cases q; rfl, rfl, rfl⟩
  refine xRp_eq (xRp_of (m := (yX8_parse, cX8_parse, 2, (some .int), [], [], xcX8_parse)) rfl (by show 1 ≤ 2; decide) ?_)
  show xBp (xK xs) (xZ z) 7 2 [] xcX8_parse xcX8_parse [(0, .ref (B + 231))] [] _ _
  refine xp_step rfl ?_
  refine xp_step rfl ?_
  refine xp_put (x := 0) hB (i := 231) (k := 3) (by decide) rfl (by decide) (by decide) rfl ?_
  refine xp_step rfl ?_
  refine xp_step rfl ?_
  rw [show xupN N 231 3 0 = xTxM N 0 (fun _ _ => none) from by
    funext a b
    unfold xupN xTxM
    rfl]
  refine xp_weak ?_ (key 16 0 0 _ C (fun a b h => by cases h) rfl)
  exact xLe_cons rfl (xLe_cons rfl xLe_nil)
end XCM
