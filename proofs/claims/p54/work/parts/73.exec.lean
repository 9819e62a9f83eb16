/-! TEXTS FED AND EXECUTED -/
def xsgl (s : List Nat) : Int32 → Int32 := fun x => if 0 ≤ x ∧ (x < Int32.ofNat s.length ∧ x < 60) then Int32.ofNat (s.getD x.toNatClampNeg 0) else -1
def xFd (N : Nat → Nat → Int32) (s : List Nat) : Nat → (Nat → Nat → Int32)
  | 0 => N
  | k + 1 => xNfeed (xFd N s k) (Int32.ofNat (s.getD k 0))
theorem xFd_len {N : Nat → Nat → Int32} {s : List Nat} (h0 : N 231 2 = 0) : ∀ k, xFd N s k 231 2 = Int32.ofNat k := by
  intro k
  induction k with
  | zero => exact h0
  | succ k ih =>
    show xNfeed (xFd N s k) _ 231 2 = _
    unfold xNfeed xupN
    rw [if_pos ⟨rfl, rfl⟩, ih, Int32.ofNat_add]
    rfl
theorem xFd_sgn {N : Nat → Nat → Int32} {s : List Nat} (h0 : N 231 2 = 0) : ∀ k, k ≤ 60 → ∀ j, j < k → xFd N s k 232 j = xc16 (Int32.ofNat (s.getD j 0)) := by
  intro k
  induction k with
  | zero => intro _ j hj; exact absurd hj (Nat.not_lt_zero _)
  | succ k ih =>
    intro hk j hj
    show xNfeed (xFd N s k) _ 232 j = _
    have hl := xFd_len (s := s) h0 k
    unfold xNfeed xupN
    rw [if_neg (by omega), hl, (xi_ofNat (n := k) (by omega)).2.1]
    by_cases hq : j = k
    · subst hq
      rw [if_pos ⟨rfl, rfl⟩]
    · rw [if_neg (by omega)]
      exact ih (by omega) j (by omega)
theorem xFd_off {N : Nat → Nat → Int32} {s : List Nat} {a b : Nat} (h1 : a ≠ 232) (h2 : ¬ (a = 231 ∧ b = 2)) : ∀ k, xFd N s k a b = N a b := by
  intro k
  induction k with
  | zero => rfl
  | succ k ih =>
    show xNfeed (xFd N s k) _ a b = _
    unfold xNfeed xupN
    rw [if_neg h2, if_neg (by omega)]
    exact ih
theorem xc16_n : ∀ n, n < 128 → xc16 (Int32.ofNat n) = Int32.ofNat n := by decide +kernel
theorem xFd_sig {N : Nat → Nat → Int32} {s : List Nat} (h0 : N 231 2 = 0) (hs : ∀ c ∈ s, c < 128) (hl : s.length ≤ 60) : xSig (xFd N s s.length) = xsgl s := by
  funext x
  unfold xSig xsgl
  rw [xFd_len h0]
  by_cases hq : 0 ≤ x ∧ (x < Int32.ofNat s.length ∧ x < 60)
  · rw [if_pos hq, if_pos hq]
    have e : x.toNatClampNeg < s.length := by
      have a := Int32.lt_iff_toInt_lt.mp hq.2.1
      have b := Int32.le_iff_toInt_le.mp hq.1
      rw [(xi_ofNat (n := s.length) (by omega)).1] at a
      rw [show (0 : Int32).toInt = 0 from rfl] at b
      have := (xlp_max x).2
      omega
    rw [xFd_sgn h0 _ hl _ e, xc16_n]
    rw [List.getD_eq_getElem?_getD, List.getElem?_eq_getElem e]
    exact hs _ (List.getElem_mem e)
  · rw [if_neg hq, if_neg hq]
/-- commands performed: k left, n done; the first that fails -/
def xExc (C : Nat → Nat) : Nat → Nat → (Nat → Nat → Int32) → Option (Nat × Int32) × (Nat → Nat → Int32)
  | 0, _, M => (none, M)
  | k + 1, n, M => if (xfPer M 1 (C (234 + n)) (M (234 + n) 1) (M (234 + n) 2) (M (234 + n) 3)).1 < 0 then (some (n, (xfPer M 1 (C (234 + n)) (M (234 + n) 1) (M (234 + n) 2) (M (234 + n) 3)).1), (xfPer M 1 (C (234 + n)) (M (234 + n) 1) (M (234 + n) 2) (M (234 + n) 3)).2) else xExc C k (n + 1) (xfPer M 1 (C (234 + n)) (M (234 + n) 1) (M (234 + n) 2) (M (234 + n) 3)).2
section XEX
variable {xs : List Int32} {z : Value} {K : List (Nat × List Value)} {Z : List Value} {pre g h2 : xH} {B L : Nat} {N : Nat → Nat → Int32} {C : Nat → Nat} {P : xA → xH → Prop}
theorem xs_exec1 (hB : xBok pre B) (hg : B + 253 + g.length < 1000000) {cnt : Nat} (hcnt : cnt ≤ 16) (hC : ∀ n, n < cnt → 1 ≤ C (234 + n) ∧ C (234 + n) ≤ 9) {M2 : Nat → Nat → Int32} (kk : xBp (xK xs) (xZ z) 8 5 [] xcX9_execute (xseek xcX9_execute 103) [(0, .ref (B + 0))] [] (xHn pre B M2 C L g) P) :
    ∀ k n M, n + k = cnt → M 231 4 = Int32.ofNat cnt → xExc C k n M = (none, M2) → xBp (xK xs) (xZ z) 8 5 [] xcX9_execute (xseek xcX9_execute 46) [(2, .int (Int32.ofNat n)), (0, .ref (B + 0))] [] (xHn pre B M C L g) P := by
  intro k
  induction k with
  | zero =>
    intro n M hn hM he
    obtain rfl : n = cnt := by omega
    rw [xExc] at he
    have e2 : M = M2 := congrArg Prod.snd he
    subst e2
    refine xp_step rfl ?_
    refine xp_step rfl ?_
    refine xp_ref hB (i := 0) (k := 4) (q := 231) (by decide) rfl (by decide) rfl ?_
    refine xp_get hB (i := 231) (k := 4) (by decide) rfl (by decide) (by decide) ?_
    rw [hM]
    refine xp_if2 rfl (fun _ => ?_) (fun q => absurd (Int32.le_refl _) (of_decide_eq_false q))
    refine xp_weak ?_ kk
    exact xLe_cons rfl xLe_nil
  | succ k ih =>
    intro n M hn hM he
    have hper := xs_perform (xs := xs) (z := z) (N := M) (C := C) (L := L) (g := g) hB (show 1 ∈ xRbs by decide) (j := n) (by omega) (hC n (by omega)) hg
    have hoff := xoff_per (N := M) (w := 1) (a := 231) (b := 4) (x := M (234 + n) 1) (y := M (234 + n) 2) (z := M (234 + n) 3) (k := C (234 + n)) (by omega)
    rw [xExc] at he
    generalize xfPer M 1 (C (234 + n)) (M (234 + n) 1) (M (234 + n) 2) (M (234 + n) 3) = q9 at he hper hoff
    by_cases hq : q9.1 < 0
    · rw [if_pos hq] at he
      cases he
    rw [if_neg hq] at he
    refine xp_step rfl ?_
    refine xp_step rfl ?_
    refine xp_ref hB (i := 0) (k := 4) (q := 231) (by decide) rfl (by decide) rfl ?_
    refine xp_get hB (i := 231) (k := 4) (by decide) rfl (by decide) (by decide) ?_
    rw [hM]
    refine xp_if2 rfl (fun q => ?_) (fun _ => ?_)
    · have q : Int32.ofNat cnt ≤ Int32.ofNat n := of_decide_eq_true q
      rw [xi_le (by omega) (by omega)] at q
      omega
    refine xp_step rfl ?_
    refine xp_ref hB (i := 0) (k := 4) (q := 231) (by decide) rfl (by decide) rfl ?_
    refine xp_step rfl ?_
    refine xp_virt (i := 231) hB (by decide) rfl rfl (Nat.le_of_ble_eq_true rfl) rfl (xR_up (by decide) (xs_cmdAt hB (n := n) (by omega))) ?_
    refine xp_step rfl ?_
    refine xp_step rfl ?_
    refine xp_ref hB (i := 0) (k := 0) (q := 1) (by decide) rfl (by decide) rfl ?_
    refine xp_step rfl ?_
    refine xp_virt (i := 1) hB (by decide) rfl rfl (Nat.le_of_ble_eq_true rfl) rfl (xR_up (by decide) hper) ?_
    refine xp_step rfl ?_
    refine xp_step rfl ?_
    refine xp_if1 rfl (fun _ => ?_) (fun q => absurd (Int32.not_le.mp (of_decide_eq_false q)) hq)
    refine xp_step rfl ?_
    refine xp_jump rfl ?_
    rw [show Int32.ofNat n + Int32.ofInt 1 = Int32.ofNat (n + 1) from by rw [Int32.ofNat_add]; rfl]
    refine xp_weak ?_ (ih (n + 1) q9.2 (by omega) (by rw [hoff]; exact hM) he)
    exact xLe_cons rfl (xLe_cons rfl xLe_nil)
theorem xs_exec2 (hB : xBok pre B) (hg : B + 253 + g.length < 1000000) {cnt : Nat} (hcnt : cnt ≤ 16) (hC : ∀ n, n < cnt → 1 ≤ C (234 + n) ∧ C (234 + n) ≤ 9) {M2 : Nat → Nat → Int32} {i : Nat} {ans : Int32} (hx : xwin (xNfail M2 (Int32.ofNat i) (M2 (234 + i) 2) ans 58 1) 0 8 = true) (hr : xrul (xNfail M2 (Int32.ofNat i) (M2 (234 + i) 2) ans) (60 + 19 * xNx (xNfail M2 (Int32.ofNat i) (M2 (234 + i) 2) ans))) :
    ∀ k n M, n + k = cnt → M 231 4 = Int32.ofNat cnt → xExc C k n M = (some (i, ans), M2) → xBp (xK xs) (xZ z) 8 5 [] xcX9_execute (xseek xcX9_execute 46) [(2, .int (Int32.ofNat n)), (0, .ref (B + 0))] [] (xHn pre B M C L g) (fun r h' => (∀ v, r = .ok v → xrfit (some .int) v = true) ∧ r = .error (2, B + 253 + g.length) ∧ h' = xHn pre B (xNcopy (xNfail M2 (Int32.ofNat i) (M2 (234 + i) 2) ans) 1 (60 + 19 * xNx (xNfail M2 (Int32.ofNat i) (M2 (234 + i) 2) ans))) C L (xgx g)) := by
  intro k
  induction k with
  | zero =>
    intro n M hn hM he
    rw [xExc] at he
    cases he
  | succ k ih =>
    intro n M hn hM he
    have hper := xs_perform (xs := xs) (z := z) (N := M) (C := C) (L := L) (g := g) hB (show 1 ∈ xRbs by decide) (j := n) (by omega) (hC n (by omega)) hg
    have hoff := xoff_per (N := M) (w := 1) (a := 231) (b := 4) (x := M (234 + n) 1) (y := M (234 + n) 2) (z := M (234 + n) 3) (k := C (234 + n)) (by omega)
    rw [xExc] at he
    generalize xfPer M 1 (C (234 + n)) (M (234 + n) 1) (M (234 + n) 2) (M (234 + n) 3) = q9 at he hper hoff
    refine xp_step rfl ?_
    refine xp_step rfl ?_
    refine xp_ref hB (i := 0) (k := 4) (q := 231) (by decide) rfl (by decide) rfl ?_
    refine xp_get hB (i := 231) (k := 4) (by decide) rfl (by decide) (by decide) ?_
    rw [hM]
    refine xp_if2 rfl (fun q => ?_) (fun _ => ?_)
    · have q : Int32.ofNat cnt ≤ Int32.ofNat n := of_decide_eq_true q
      rw [xi_le (by omega) (by omega)] at q
      omega
    refine xp_step rfl ?_
    refine xp_ref hB (i := 0) (k := 4) (q := 231) (by decide) rfl (by decide) rfl ?_
    refine xp_step rfl ?_
    refine xp_virt (i := 231) hB (by decide) rfl rfl (Nat.le_of_ble_eq_true rfl) rfl (xR_up (by decide) (xs_cmdAt hB (n := n) (by omega))) ?_
    refine xp_step rfl ?_
    refine xp_step rfl ?_
    refine xp_ref hB (i := 0) (k := 0) (q := 1) (by decide) rfl (by decide) rfl ?_
    refine xp_step rfl ?_
    refine xp_virt (i := 1) hB (by decide) rfl rfl (Nat.le_of_ble_eq_true rfl) rfl (xR_up (by decide) hper) ?_
    refine xp_step rfl ?_
    refine xp_step rfl ?_
    by_cases hq : q9.1 < 0
    · rw [if_pos hq] at he
      cases he
      refine xp_if1 rfl (fun q => absurd hq (Int32.not_lt.mpr (of_decide_eq_true q))) (fun _ => ?_)
      refine xp_step rfl ?_
      refine xp_step rfl ?_
      refine xp_step rfl ?_
      refine xp_step rfl ?_
      refine xp_virt (i := 0) hB (by decide) rfl rfl (Nat.le_of_ble_eq_true rfl) rfl (xR_up (by decide) (xs_fail hB (j := i) (by omega) (Int32.ofNat i) q9.1 hx hr)) ?_
      refine xp_new (E := 2) (h1 := xHn pre B (xNcopy (xNfail q9.2 (Int32.ofNat i) (q9.2 (234 + i) 2) q9.1) 1 (60 + 19 * xNx (xNfail q9.2 (Int32.ofNat i) (q9.2 (234 + i) 2) q9.1))) C L g) rfl (by rw [xHn_len hB]; exact hg) ⟨fun v q => (nomatch q), ?_, ?_⟩
      · rw [xHn_len hB]
      · rw [xHn_app]; rfl
    · rw [if_neg hq] at he
      refine xp_if1 rfl (fun _ => ?_) (fun q => absurd (Int32.not_le.mp (of_decide_eq_false q)) hq)
      refine xp_step rfl ?_
      refine xp_jump rfl ?_
      rw [show Int32.ofNat n + Int32.ofInt 1 = Int32.ofNat (n + 1) from by rw [Int32.ofNat_add]; rfl]
      refine xp_weak ?_ (ih (n + 1) q9.2 (by omega) (by rw [hoff]; exact hM) he)
      exact xLe_cons rfl (xLe_cons rfl xLe_nil)
/-- execute, its beginning: read, emptied -/
theorem xo_execF_ (hB : xBok pre B) (hz : z.category = 1) {ret p : Int32} {V : Nat → Nat → Option Int32} {C' : Nat → Nat} (hpar : xPar (xSig N) (N 231 2) 16 0 0 (fun _ _ => none) C = (ret, p, V, C')) (hret : ret ≠ -1) (hg : B + 253 + g.length < 1000000) : xRn (xK xs) (xZ z) 9 98 [.ref (B + 0)] (xHn pre B N C L g) (.error (1, B + 253 + g.length)) (xHn pre B (xupN (xupN (xTxM N p V) 231 2 0) 0 8 ret) C' L (xgx g)) := by
  have hp := xs_parse (xs := xs) (z := z) (N := N) (C := C) (L := L) (g := g) hB hz
  rw [hpar] at hp
  refine xRp_eq (xRp_of (m := (yX9_execute, cX9_execute, 5, (some .int), [], [], xcX9_execute)) rfl (by show 1 ≤ 5; decide) ?_)
  show xBp (xK xs) (xZ z) 8 5 [] xcX9_execute xcX9_execute [(0, .ref (B + 0))] [] _ _
  refine xp_step rfl ?_
  refine xp_ref hB (i := 0) (k := 4) (q := 231) (by decide) rfl (by decide) rfl ?_
  refine xp_virt (i := 231) hB (by decide) rfl rfl (Nat.le_of_ble_eq_true rfl) rfl hp ?_
  refine xp_step rfl ?_
  refine xp_step rfl ?_
  refine xp_ref hB (i := 0) (k := 4) (q := 231) (by decide) rfl (by decide) rfl ?_
  refine xp_virt (i := 231) hB (by decide) rfl rfl (Nat.le_of_ble_eq_true rfl) rfl (xR_up (by decide) (xs_empty hB)) ?_
  refine xp_step rfl ?_
  refine xp_step rfl ?_
  refine xp_if2 rfl (fun q => absurd (show ret = -1 from of_decide_eq_true q) hret) (fun _ => ?_)
  refine xp_step rfl ?_
  refine xp_step rfl ?_
  refine xp_put (x := ret) hB (i := 0) (k := 8) (by decide) rfl (by decide) (by decide) rfl ?_
  refine xp_new (E := 1) (h1 := xHn pre B (xupN (xupN (xTxM N p V) 231 2 0) 0 8 ret) C' L g) rfl (by rw [xHn_len hB]; exact hg) ⟨fun v q => (nomatch q), ?_, ?_⟩
  · rw [xHn_len hB]
  · rw [xHn_app]; rfl
theorem xs_execB (hB : xBok pre B) (hz : z.category = 1) {p : Int32} {V : Nat → Nat → Option Int32} {C' : Nat → Nat} (hpar : xPar (xSig N) (N 231 2) 16 0 0 (fun _ _ => none) C = (-1, p, V, C')) (hx : xwin (xupN (xTxM N p V) 231 2 0 58 1) 0 8 = true) (hr : xrul (xupN (xTxM N p V) 231 2 0) 1) (kk : xBp (xK xs) (xZ z) 8 5 [] xcX9_execute (xseek xcX9_execute 46) [(2, .int (Int32.ofNat 0)), (0, .ref (B + 0))] [] (xHn pre B (xNn (xupN (xTxM N p V) 231 2 0)) C' L g) P) : xBp (xK xs) (xZ z) 8 5 [] xcX9_execute xcX9_execute [(0, .ref (B + 0))] [] (xHn pre B N C L g) P := by
  have hp := xs_parse (xs := xs) (z := z) (N := N) (C := C) (L := L) (g := g) hB hz
  rw [hpar] at hp
  refine xp_step rfl ?_
  refine xp_ref hB (i := 0) (k := 4) (q := 231) (by decide) rfl (by decide) rfl ?_
  refine xp_virt (i := 231) hB (by decide) rfl rfl (Nat.le_of_ble_eq_true rfl) rfl hp ?_
  refine xp_step rfl ?_
  refine xp_step rfl ?_
  refine xp_ref hB (i := 0) (k := 4) (q := 231) (by decide) rfl (by decide) rfl ?_
  refine xp_virt (i := 231) hB (by decide) rfl rfl (Nat.le_of_ble_eq_true rfl) rfl (xR_up (by decide) (xs_empty hB)) ?_
  refine xp_step rfl ?_
  refine xp_step rfl ?_
  refine xp_jump rfl ?_
  refine xp_step rfl ?_
  refine xp_ref hB (i := 0) (k := 3) (q := 58) (by decide) rfl (by decide) rfl ?_
  refine xp_step rfl ?_
  refine xp_ref hB (i := 0) (k := 0) (q := 1) (by decide) rfl (by decide) rfl ?_
  refine xp_virt (i := 58) hB (by decide) rfl rfl (Nat.le_of_ble_eq_true rfl) rfl (xR_up (by decide) (xs_note hB hx hr)) ?_
  refine xp_step rfl ?_
  refine xp_step rfl ?_
  refine xp_weak ?_ kk
  exact xLe_cons rfl (xLe_cons rfl xLe_nil)
end XEX
