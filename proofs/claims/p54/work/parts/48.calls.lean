/-! THE OBJECT'S OWN CALLS: changes, and what is asked of one reach -/
def xNn (N : Nat → Nat → Int32) : Nat → Nat → Int32 := xNcopy N (60 + 19 * xNx N) 1
def xAns (c0 c1 c2 a : Int32) : Int32 := if a = -11 then c0 else if a = -12 then c1 else if a < 0 then c2 else a
theorem xConR_cases (q : Nat) (a : Int32) : (a = -11 ∧ xConR q a = .error (0, q)) ∨ (¬ a = -11 ∧ a = -12 ∧ xConR q a = .error (1, q)) ∨ (¬ a = -11 ∧ ¬ a = -12 ∧ a < 0 ∧ xConR q a = .error (2, q)) ∨ (¬ a = -11 ∧ ¬ a = -12 ∧ ¬ a < 0 ∧ xConR q a = .ok (some (.int a))) := by
  unfold xConR
  by_cases h1 : a = -11
  · exact Or.inl ⟨h1, if_pos h1⟩
  · by_cases h2 : a = -12
    · exact Or.inr (Or.inl ⟨h1, h2, by rw [if_neg h1, if_pos h2]⟩)
    · by_cases h3 : a < 0
      · exact Or.inr (Or.inr (Or.inl ⟨h1, h2, h3, by rw [if_neg h1, if_neg h2, if_pos h3]⟩))
      · exact Or.inr (Or.inr (Or.inr ⟨h1, h2, h3, by rw [if_neg h1, if_neg h2, if_neg h3]⟩))
section XOC
variable {K : List (Nat × List Value)} {Z : List Value} {pre g : xH} {B L : Nat} {N : Nat → Nat → Int32} {C : Nat → Nat} {P : xA → xH → Prop}
/-- a virtual call on an own cell, its answer handed on at once -/
theorem xp_virt_ret {d nL i : Nat} {code cs : List xE} {loc : xL} {st : List Value} {h2 : xH} {r : xA} {pc pc2 j ln ln2 mi n I rc t : Nat} {aux aux2 : List Nat} (hB : xBok pre B) (hi : i < 253) (hk : xKd i = (rc, t)) (hst : st[n - 1]? = some (.ref (B + i))) (hn : n ≤ st.length) (hcat : decide (((st.drop n).map fun v => v.category).sum ≤ 8) = true) (hd : st.drop n = []) (hc : xRn K Z d mi (st.take n).reverse (xHn pre B N C L g) r h2) (hr : (∃ a, r = .ok (some (.int a))) ∨ (∃ E q, r = .error (E, q))) (hp : P r h2) : xBp K Z d nL [] code ((pc, .invokevirtual j, ln, 0 :: mi :: n :: I :: rc :: aux) :: (pc2, .ireturn, ln2, aux2) :: cs) loc st (xHn pre B N C L g) P := by
  rcases hr with ⟨a, rfl⟩ | ⟨E, q, rfl⟩
  · refine xp_virt hB hi hk hst hn hcat hc ?_
    rw [hd]
    exact xp_ret rfl hp
  · exact xp_virtP hB hi hk hst hn hcat hc rfl hp
theorem xConR_or (q : Nat) (a : Int32) : (∃ b, xConR q a = .ok (some (.int b))) ∨ (∃ E p, xConR q a = .error (E, p)) := by
  rcases xConR_cases q a with ⟨-, h⟩ | ⟨-, -, h⟩ | ⟨-, -, -, h⟩ | ⟨-, -, -, h⟩ <;> rw [h]
  · exact Or.inr ⟨_, _, rfl⟩
  · exact Or.inr ⟨_, _, rfl⟩
  · exact Or.inr ⟨_, _, rfl⟩
  · exact Or.inl ⟨_, rfl⟩
theorem xConR_fit (q : Nat) (a : Int32) (v : Option Value) (h : xConR q a = .ok v) : xrfit (some .int) v = true := by
  rcases xConR_cases q a with ⟨-, e⟩ | ⟨-, -, e⟩ | ⟨-, -, -, e⟩ | ⟨-, -, -, e⟩ <;> rw [e] at h <;> cases h
  rfl
theorem xo_addReach_ (hB : xBok pre B) (hx : xwin (N 58 1) 0 8 = true) (hr : xrul N 1) (s : Int32) (p : Int32) (c : Int32) (hg : B + 253 + g.length < 1000000) : xRn K Z 7 62 [.ref (B + 0), .int s, .int p, .int c] (xHn pre B N C L g) (xConR (B + 253 + g.length) (xfAppend (xNn N) 1 s p c).1) (xHn pre B (xConN (xfAppend (xNn N) 1 s p c).2 (xfAppend (xNn N) 1 s p c).1 0) C L (xConG g (xfAppend (xNn N) 1 s p c).1)) := by
  have hm1 : 1 ∈ xRbs := by decide
  refine xRp_eq (xRp_of (m := (yX9_addReach, cX9_addReach, 4, (some .int), [], [], xcX9_addReach)) rfl (by show 4 ≤ 4; decide) ?_)
  show xBp K Z 6 4 [] xcX9_addReach xcX9_addReach [(0, .ref (B + 0)), (1, .int s), (2, .int p), (3, .int c)] [] _ _
  refine xp_step rfl ?_
  refine xp_ref hB (i := 0) (k := 3) (q := 58) (by decide) rfl (by decide) rfl ?_
  refine xp_step rfl ?_
  refine xp_ref hB (i := 0) (k := 0) (q := 1) (by decide) rfl (by decide) rfl ?_
  refine xp_virt (i := 58) hB (by decide) rfl rfl (Nat.le_of_ble_eq_true rfl) rfl (xR_up (by decide) (xs_note hB hx hr)) ?_
  change xBp K Z 6 _ [] _ _ _ _ (xHn pre B (xNn N) C L g) _
  refine xp_step rfl ?_
  refine xp_step rfl ?_
  refine xp_ref hB (i := 0) (k := 0) (q := 1) (by decide) rfl (by decide) rfl ?_
  refine xp_step rfl ?_
  refine xp_step rfl ?_
  refine xp_step rfl ?_
  refine xp_virt (i := 1) hB (by decide) rfl rfl (Nat.le_of_ble_eq_true rfl) rfl (xR_up (by decide) (xs_append hB hm1 s p c)) ?_
  refine xp_step rfl ?_
  exact xp_virt_ret (i := 0) hB (by decide) rfl rfl (Nat.le_of_ble_eq_true rfl) rfl rfl (xR_up (by decide) (xs_conclude hB (xfAppend (xNn N) 1 s p c).1 0 hg)) (xConR_or _ _) ⟨xConR_fit _ _, rfl, rfl⟩
theorem xo_removeLastReach_ (hB : xBok pre B) (hx : xwin (N 58 1) 0 8 = true) (hr : xrul N 1)  (hg : B + 253 + g.length < 1000000) : xRn K Z 7 63 [.ref (B + 0)] (xHn pre B N C L g) (xConR (B + 253 + g.length) (xfCut (xNn N) 1).1) (xHn pre B (xConN (xfCut (xNn N) 1).2 (xfCut (xNn N) 1).1 0) C L (xConG g (xfCut (xNn N) 1).1)) := by
  have hm1 : 1 ∈ xRbs := by decide
  refine xRp_eq (xRp_of (m := (yX9_removeLastReach, cX9_removeLastReach, 1, (some .int), [], [], xcX9_removeLastReach)) rfl (by show 1 ≤ 1; decide) ?_)
  show xBp K Z 6 1 [] xcX9_removeLastReach xcX9_removeLastReach [(0, .ref (B + 0))] [] _ _
  refine xp_step rfl ?_
  refine xp_ref hB (i := 0) (k := 3) (q := 58) (by decide) rfl (by decide) rfl ?_
  refine xp_step rfl ?_
  refine xp_ref hB (i := 0) (k := 0) (q := 1) (by decide) rfl (by decide) rfl ?_
  refine xp_virt (i := 58) hB (by decide) rfl rfl (Nat.le_of_ble_eq_true rfl) rfl (xR_up (by decide) (xs_note hB hx hr)) ?_
  change xBp K Z 6 _ [] _ _ _ _ (xHn pre B (xNn N) C L g) _
  refine xp_step rfl ?_
  refine xp_step rfl ?_
  refine xp_ref hB (i := 0) (k := 0) (q := 1) (by decide) rfl (by decide) rfl ?_
  refine xp_virt (i := 1) hB (by decide) rfl rfl (Nat.le_of_ble_eq_true rfl) rfl (xR_up (by decide) (xs_cut hB hm1)) ?_
  refine xp_step rfl ?_
  exact xp_virt_ret (i := 0) hB (by decide) rfl rfl (Nat.le_of_ble_eq_true rfl) rfl rfl (xR_up (by decide) (xs_conclude hB (xfCut (xNn N) 1).1 0 hg)) (xConR_or _ _) ⟨xConR_fit _ _, rfl, rfl⟩
theorem xo_setLateral_ (hB : xBok pre B) (hx : xwin (N 58 1) 0 8 = true) (hr : xrul N 1) (x : Int32) (f : Int32) (hg : B + 253 + g.length < 1000000) : xRn K Z 7 64 [.ref (B + 0), .int x, .int f] (xHn pre B N C L g) (xConR (B + 253 + g.length) (xfLat (xNn N) 1 x f).1) (xHn pre B (xConN (xfLat (xNn N) 1 x f).2 (xfLat (xNn N) 1 x f).1 f) C L (xConG g (xfLat (xNn N) 1 x f).1)) := by
  have hm1 : 1 ∈ xRbs := by decide
  refine xRp_eq (xRp_of (m := (yX9_setLateral, cX9_setLateral, 3, (some .int), [], [], xcX9_setLateral)) rfl (by show 3 ≤ 3; decide) ?_)
  show xBp K Z 6 3 [] xcX9_setLateral xcX9_setLateral [(0, .ref (B + 0)), (1, .int x), (2, .int f)] [] _ _
  refine xp_step rfl ?_
  refine xp_ref hB (i := 0) (k := 3) (q := 58) (by decide) rfl (by decide) rfl ?_
  refine xp_step rfl ?_
  refine xp_ref hB (i := 0) (k := 0) (q := 1) (by decide) rfl (by decide) rfl ?_
  refine xp_virt (i := 58) hB (by decide) rfl rfl (Nat.le_of_ble_eq_true rfl) rfl (xR_up (by decide) (xs_note hB hx hr)) ?_
  change xBp K Z 6 _ [] _ _ _ _ (xHn pre B (xNn N) C L g) _
  refine xp_step rfl ?_
  refine xp_step rfl ?_
  refine xp_ref hB (i := 0) (k := 0) (q := 1) (by decide) rfl (by decide) rfl ?_
  refine xp_step rfl ?_
  refine xp_step rfl ?_
  refine xp_virt (i := 1) hB (by decide) rfl rfl (Nat.le_of_ble_eq_true rfl) rfl (xR_up (by decide) (xs_lat hB hm1 x f)) ?_
  refine xp_step rfl ?_
  exact xp_virt_ret (i := 0) hB (by decide) rfl rfl (Nat.le_of_ble_eq_true rfl) rfl rfl (xR_up (by decide) (xs_conclude hB (xfLat (xNn N) 1 x f).1 f hg)) (xConR_or _ _) ⟨xConR_fit _ _, rfl, rfl⟩
theorem xo_fill_ (hB : xBok pre B) (hx : xwin (N 58 1) 0 8 = true) (hr : xrul N 1) (x : Int32) (f : Int32) (hg : B + 253 + g.length < 1000000) : xRn K Z 7 65 [.ref (B + 0), .int x, .int f] (xHn pre B N C L g) (xConR (B + 253 + g.length) (xfPour (xNn N) 1 x f).1) (xHn pre B (xConN (xfPour (xNn N) 1 x f).2 (xfPour (xNn N) 1 x f).1 0) C L (xConG g (xfPour (xNn N) 1 x f).1)) := by
  have hm1 : 1 ∈ xRbs := by decide
  refine xRp_eq (xRp_of (m := (yX9_fill, cX9_fill, 3, (some .int), [], [], xcX9_fill)) rfl (by show 3 ≤ 3; decide) ?_)
  show xBp K Z 6 3 [] xcX9_fill xcX9_fill [(0, .ref (B + 0)), (1, .int x), (2, .int f)] [] _ _
  refine xp_step rfl ?_
  refine xp_ref hB (i := 0) (k := 3) (q := 58) (by decide) rfl (by decide) rfl ?_
  refine xp_step rfl ?_
  refine xp_ref hB (i := 0) (k := 0) (q := 1) (by decide) rfl (by decide) rfl ?_
  refine xp_virt (i := 58) hB (by decide) rfl rfl (Nat.le_of_ble_eq_true rfl) rfl (xR_up (by decide) (xs_note hB hx hr)) ?_
  change xBp K Z 6 _ [] _ _ _ _ (xHn pre B (xNn N) C L g) _
  refine xp_step rfl ?_
  refine xp_step rfl ?_
  refine xp_ref hB (i := 0) (k := 0) (q := 1) (by decide) rfl (by decide) rfl ?_
  refine xp_step rfl ?_
  refine xp_step rfl ?_
  refine xp_virt (i := 1) hB (by decide) rfl rfl (Nat.le_of_ble_eq_true rfl) rfl (xR_up (by decide) (xs_pour hB hm1 x f)) ?_
  refine xp_step rfl ?_
  exact xp_virt_ret (i := 0) hB (by decide) rfl rfl (Nat.le_of_ble_eq_true rfl) rfl rfl (xR_up (by decide) (xs_conclude hB (xfPour (xNn N) 1 x f).1 0 hg)) (xConR_or _ _) ⟨xConR_fit _ _, rfl, rfl⟩
theorem xo_setStages_ (hB : xBok pre B) (hx : xwin (N 58 1) 0 8 = true) (hr : xrul N 1) (x : Int32) (a : Int32) (f : Int32) (hg : B + 253 + g.length < 1000000) : xRn K Z 7 71 [.ref (B + 0), .int x, .int a, .int f] (xHn pre B N C L g) (xConR (B + 253 + g.length) (xfStages (xNn N) 1 x a f).1) (xHn pre B (xConN (xfStages (xNn N) 1 x a f).2 (xfStages (xNn N) 1 x a f).1 0) C L (xConG g (xfStages (xNn N) 1 x a f).1)) := by
  have hm1 : 1 ∈ xRbs := by decide
  refine xRp_eq (xRp_of (m := (yX9_setStages, cX9_setStages, 4, (some .int), [], [], xcX9_setStages)) rfl (by show 4 ≤ 4; decide) ?_)
  show xBp K Z 6 4 [] xcX9_setStages xcX9_setStages [(0, .ref (B + 0)), (1, .int x), (2, .int a), (3, .int f)] [] _ _
  refine xp_step rfl ?_
  refine xp_ref hB (i := 0) (k := 3) (q := 58) (by decide) rfl (by decide) rfl ?_
  refine xp_step rfl ?_
  refine xp_ref hB (i := 0) (k := 0) (q := 1) (by decide) rfl (by decide) rfl ?_
  refine xp_virt (i := 58) hB (by decide) rfl rfl (Nat.le_of_ble_eq_true rfl) rfl (xR_up (by decide) (xs_note hB hx hr)) ?_
  change xBp K Z 6 _ [] _ _ _ _ (xHn pre B (xNn N) C L g) _
  refine xp_step rfl ?_
  refine xp_step rfl ?_
  refine xp_ref hB (i := 0) (k := 0) (q := 1) (by decide) rfl (by decide) rfl ?_
  refine xp_step rfl ?_
  refine xp_step rfl ?_
  refine xp_step rfl ?_
  refine xp_virt (i := 1) hB (by decide) rfl rfl (Nat.le_of_ble_eq_true rfl) rfl (xR_up (by decide) (xs_stages hB hm1 x a f)) ?_
  refine xp_step rfl ?_
  exact xp_virt_ret (i := 0) hB (by decide) rfl rfl (Nat.le_of_ble_eq_true rfl) rfl rfl (xR_up (by decide) (xs_conclude hB (xfStages (xNn N) 1 x a f).1 0 hg)) (xConR_or _ _) ⟨xConR_fit _ _, rfl, rfl⟩
theorem xo_setGate_ (hB : xBok pre B) (hx : xwin (N 58 1) 0 8 = true) (hr : xrul N 1) (x : Int32) (f : Int32) (hg : B + 253 + g.length < 1000000) : xRn K Z 7 72 [.ref (B + 0), .int x, .int f] (xHn pre B N C L g) (xConR (B + 253 + g.length) (xfSet (xNn N) 1 x f).1) (xHn pre B (xConN (xfSet (xNn N) 1 x f).2 (xfSet (xNn N) 1 x f).1 f) C L (xConG g (xfSet (xNn N) 1 x f).1)) := by
  have hm1 : 1 ∈ xRbs := by decide
  refine xRp_eq (xRp_of (m := (yX9_setGate, cX9_setGate, 3, (some .int), [], [], xcX9_setGate)) rfl (by show 3 ≤ 3; decide) ?_)
  show xBp K Z 6 3 [] xcX9_setGate xcX9_setGate [(0, .ref (B + 0)), (1, .int x), (2, .int f)] [] _ _
  refine xp_step rfl ?_
  refine xp_ref hB (i := 0) (k := 3) (q := 58) (by decide) rfl (by decide) rfl ?_
  refine xp_step rfl ?_
  refine xp_ref hB (i := 0) (k := 0) (q := 1) (by decide) rfl (by decide) rfl ?_
  refine xp_virt (i := 58) hB (by decide) rfl rfl (Nat.le_of_ble_eq_true rfl) rfl (xR_up (by decide) (xs_note hB hx hr)) ?_
  change xBp K Z 6 _ [] _ _ _ _ (xHn pre B (xNn N) C L g) _
  refine xp_step rfl ?_
  refine xp_step rfl ?_
  refine xp_ref hB (i := 0) (k := 0) (q := 1) (by decide) rfl (by decide) rfl ?_
  refine xp_step rfl ?_
  refine xp_step rfl ?_
  refine xp_virt (i := 1) hB (by decide) rfl rfl (Nat.le_of_ble_eq_true rfl) rfl (xR_up (by decide) (xs_setting hB hm1 x f)) ?_
  refine xp_step rfl ?_
  exact xp_virt_ret (i := 0) hB (by decide) rfl rfl (Nat.le_of_ble_eq_true rfl) rfl rfl (xR_up (by decide) (xs_conclude hB (xfSet (xNn N) 1 x f).1 f hg)) (xConR_or _ _) ⟨xConR_fit _ _, rfl, rfl⟩
theorem xo_setRule_ (hB : xBok pre B) (hx : xwin (N 58 1) 0 8 = true) (hr : xrul N 1) (x : Int32) (f : Int32) (hg : B + 253 + g.length < 1000000) : xRn K Z 7 73 [.ref (B + 0), .int x, .int f] (xHn pre B N C L g) (xConR (B + 253 + g.length) (xfRule (xNn N) 1 x f).1) (xHn pre B (xConN (xfRule (xNn N) 1 x f).2 (xfRule (xNn N) 1 x f).1 f) C L (xConG g (xfRule (xNn N) 1 x f).1)) := by
  have hm1 : 1 ∈ xRbs := by decide
  refine xRp_eq (xRp_of (m := (yX9_setRule, cX9_setRule, 3, (some .int), [], [], xcX9_setRule)) rfl (by show 3 ≤ 3; decide) ?_)
  show xBp K Z 6 3 [] xcX9_setRule xcX9_setRule [(0, .ref (B + 0)), (1, .int x), (2, .int f)] [] _ _
  refine xp_step rfl ?_
  refine xp_ref hB (i := 0) (k := 3) (q := 58) (by decide) rfl (by decide) rfl ?_
  refine xp_step rfl ?_
  refine xp_ref hB (i := 0) (k := 0) (q := 1) (by decide) rfl (by decide) rfl ?_
  refine xp_virt (i := 58) hB (by decide) rfl rfl (Nat.le_of_ble_eq_true rfl) rfl (xR_up (by decide) (xs_note hB hx hr)) ?_
  change xBp K Z 6 _ [] _ _ _ _ (xHn pre B (xNn N) C L g) _
  refine xp_step rfl ?_
  refine xp_step rfl ?_
  refine xp_ref hB (i := 0) (k := 0) (q := 1) (by decide) rfl (by decide) rfl ?_
  refine xp_step rfl ?_
  refine xp_step rfl ?_
  refine xp_virt (i := 1) hB (by decide) rfl rfl (Nat.le_of_ble_eq_true rfl) rfl (xR_up (by decide) (xs_setrule hB hm1 x f hg)) ?_
  refine xp_step rfl ?_
  exact xp_virt_ret (i := 0) hB (by decide) rfl rfl (Nat.le_of_ble_eq_true rfl) rfl rfl (xR_up (by decide) (xs_conclude hB (xfRule (xNn N) 1 x f).1 f hg)) (xConR_or _ _) ⟨xConR_fit _ _, rfl, rfl⟩
theorem xo_addPulse_ (hB : xBok pre B) (hx : xwin (N 58 1) 0 8 = true) (hr : xrul N 1) (s : Int32) (p : Int32) (c : Int32) (hg : B + 253 + g.length < 1000000) : xRn K Z 7 81 [.ref (B + 0), .int s, .int p, .int c] (xHn pre B N C L g) (xConR (B + 253 + g.length) (xfPulse (xNn N) 1 s p c).1) (xHn pre B (xConN (xfPulse (xNn N) 1 s p c).2 (xfPulse (xNn N) 1 s p c).1 0) C L (xConG g (xfPulse (xNn N) 1 s p c).1)) := by
  have hm1 : 1 ∈ xRbs := by decide
  refine xRp_eq (xRp_of (m := (yX9_addPulse, cX9_addPulse, 4, (some .int), [], [], xcX9_addPulse)) rfl (by show 4 ≤ 4; decide) ?_)
  show xBp K Z 6 4 [] xcX9_addPulse xcX9_addPulse [(0, .ref (B + 0)), (1, .int s), (2, .int p), (3, .int c)] [] _ _
  refine xp_step rfl ?_
  refine xp_ref hB (i := 0) (k := 3) (q := 58) (by decide) rfl (by decide) rfl ?_
  refine xp_step rfl ?_
  refine xp_ref hB (i := 0) (k := 0) (q := 1) (by decide) rfl (by decide) rfl ?_
  refine xp_virt (i := 58) hB (by decide) rfl rfl (Nat.le_of_ble_eq_true rfl) rfl (xR_up (by decide) (xs_note hB hx hr)) ?_
  change xBp K Z 6 _ [] _ _ _ _ (xHn pre B (xNn N) C L g) _
  refine xp_step rfl ?_
  refine xp_step rfl ?_
  refine xp_ref hB (i := 0) (k := 0) (q := 1) (by decide) rfl (by decide) rfl ?_
  refine xp_step rfl ?_
  refine xp_step rfl ?_
  refine xp_step rfl ?_
  refine xp_virt (i := 1) hB (by decide) rfl rfl (Nat.le_of_ble_eq_true rfl) rfl (xR_up (by decide) (xs_pulse hB hm1 s p c)) ?_
  refine xp_step rfl ?_
  exact xp_virt_ret (i := 0) hB (by decide) rfl rfl (Nat.le_of_ble_eq_true rfl) rfl rfl (xR_up (by decide) (xs_conclude hB (xfPulse (xNn N) 1 s p c).1 0 hg)) (xConR_or _ _) ⟨xConR_fit _ _, rfl, rfl⟩
theorem xo_pass_ (hB : xBok pre B) (hx : xwin (N 58 1) 0 8 = true) (hr : xrul N 1) (x : Int32) (hg : B + 253 + g.length < 1000000) : xRn K Z 7 82 [.ref (B + 0), .int x] (xHn pre B N C L g) (xConR (B + 253 + g.length) (xfLet (xNn N) 1 x).1) (xHn pre B (xConN (xfLet (xNn N) 1 x).2 (xfLet (xNn N) 1 x).1 0) C L (xConG g (xfLet (xNn N) 1 x).1)) := by
  have hm1 : 1 ∈ xRbs := by decide
  refine xRp_eq (xRp_of (m := (yX9_pass, cX9_pass, 2, (some .int), [], [], xcX9_pass)) rfl (by show 2 ≤ 2; decide) ?_)
  show xBp K Z 6 2 [] xcX9_pass xcX9_pass [(0, .ref (B + 0)), (1, .int x)] [] _ _
  refine xp_step rfl ?_
  refine xp_ref hB (i := 0) (k := 3) (q := 58) (by decide) rfl (by decide) rfl ?_
  refine xp_step rfl ?_
  refine xp_ref hB (i := 0) (k := 0) (q := 1) (by decide) rfl (by decide) rfl ?_
  refine xp_virt (i := 58) hB (by decide) rfl rfl (Nat.le_of_ble_eq_true rfl) rfl (xR_up (by decide) (xs_note hB hx hr)) ?_
  change xBp K Z 6 _ [] _ _ _ _ (xHn pre B (xNn N) C L g) _
  refine xp_step rfl ?_
  refine xp_step rfl ?_
  refine xp_ref hB (i := 0) (k := 0) (q := 1) (by decide) rfl (by decide) rfl ?_
  refine xp_step rfl ?_
  refine xp_virt (i := 1) hB (by decide) rfl rfl (Nat.le_of_ble_eq_true rfl) rfl (xR_up (by decide) (xs_let hB hm1 x hg)) ?_
  refine xp_step rfl ?_
  exact xp_virt_ret (i := 0) hB (by decide) rfl rfl (Nat.le_of_ble_eq_true rfl) rfl rfl (xR_up (by decide) (xs_conclude hB (xfLet (xNn N) 1 x).1 0 hg)) (xConR_or _ _) ⟨xConR_fit _ _, rfl, rfl⟩
theorem xo_volume_ (hB : xBok pre B) (x : Int32) (hg : B + 253 + g.length < 1000000) : xRn K Z 3 67 [.ref (B + 0), .int x] (xHn pre B N C L g) (if xhas N 1 x = true then .ok (some (.int (N (1 + 3 + x.toNatClampNeg) 4))) else .error (0, B + 253 + g.length)) (xHn pre B N C L (if xhas N 1 x = true then g else xgx g)) := by
  refine xRp_eq (xRp_of (m := (yX9_volume, cX9_volume, 2, (some .int), [], [], xcX9_volume)) rfl (by show 2 ≤ 2; decide) ?_)
  show xBp K Z 2 2 [] xcX9_volume xcX9_volume [(0, .ref (B + 0)), (1, .int x)] [] _ _
  refine xp_step rfl ?_
  refine xp_ref hB (i := 0) (k := 0) (q := 1) (by decide) rfl (by decide) rfl ?_
  refine xp_step rfl ?_
  cases hh : xhas N 1 x with
  | false =>
    have hrow := xs_row (K := K) (Z := Z) (N := N) (L := L) (C := C) (g := g) hB (show 1 ∈ xRbs by decide) x hg
    rw [if_neg (by rw [hh]; decide), if_neg (by rw [hh]; decide)] at hrow
    exact xp_virtP (i := 1) hB (by decide) rfl rfl (Nat.le_of_ble_eq_true rfl) rfl (xR_up (by decide) hrow) rfl ⟨fun v q => (nomatch q), rfl, rfl⟩
  | true =>
    have hrow := xs_row (K := K) (Z := Z) (N := N) (L := L) (C := C) (g := g) hB (show 1 ∈ xRbs by decide) x hg
    rw [if_pos hh, if_pos hh] at hrow
    have hyes' := hh
    unfold xhas at hyes'
    simp only [Bool.and_eq_true, decide_eq_true_eq] at hyes'
    obtain ⟨-, i2⟩ := xin8 hyes'.1 hyes'.2.2
    refine xp_virt (i := 1) hB (by decide) rfl rfl (Nat.le_of_ble_eq_true rfl) rfl (xR_up (by decide) hrow) ?_
    refine xp_get hB (xrb_reach 1 (by decide) _ i2).2.1 (xrb_reach 1 (by decide) _ i2).1 (by decide) ((xrb_reach 1 (by decide) _ i2).2.2 _ (by decide)) ?_
    exact xp_ret rfl ⟨fun v q => by cases q; rfl, rfl, rfl⟩
theorem xo_lateral_ (hB : xBok pre B) (x : Int32) (hg : B + 253 + g.length < 1000000) : xRn K Z 3 68 [.ref (B + 0), .int x] (xHn pre B N C L g) (if xhas N 1 x = true then .ok (some (.int (N (1 + 3 + x.toNatClampNeg) 3))) else .error (0, B + 253 + g.length)) (xHn pre B N C L (if xhas N 1 x = true then g else xgx g)) := by
  refine xRp_eq (xRp_of (m := (yX9_lateral, cX9_lateral, 2, (some .int), [], [], xcX9_lateral)) rfl (by show 2 ≤ 2; decide) ?_)
  show xBp K Z 2 2 [] xcX9_lateral xcX9_lateral [(0, .ref (B + 0)), (1, .int x)] [] _ _
  refine xp_step rfl ?_
  refine xp_ref hB (i := 0) (k := 0) (q := 1) (by decide) rfl (by decide) rfl ?_
  refine xp_step rfl ?_
  cases hh : xhas N 1 x with
  | false =>
    have hrow := xs_row (K := K) (Z := Z) (N := N) (L := L) (C := C) (g := g) hB (show 1 ∈ xRbs by decide) x hg
    rw [if_neg (by rw [hh]; decide), if_neg (by rw [hh]; decide)] at hrow
    exact xp_virtP (i := 1) hB (by decide) rfl rfl (Nat.le_of_ble_eq_true rfl) rfl (xR_up (by decide) hrow) rfl ⟨fun v q => (nomatch q), rfl, rfl⟩
  | true =>
    have hrow := xs_row (K := K) (Z := Z) (N := N) (L := L) (C := C) (g := g) hB (show 1 ∈ xRbs by decide) x hg
    rw [if_pos hh, if_pos hh] at hrow
    have hyes' := hh
    unfold xhas at hyes'
    simp only [Bool.and_eq_true, decide_eq_true_eq] at hyes'
    obtain ⟨-, i2⟩ := xin8 hyes'.1 hyes'.2.2
    refine xp_virt (i := 1) hB (by decide) rfl rfl (Nat.le_of_ble_eq_true rfl) rfl (xR_up (by decide) hrow) ?_
    refine xp_get hB (xrb_reach 1 (by decide) _ i2).2.1 (xrb_reach 1 (by decide) _ i2).1 (by decide) ((xrb_reach 1 (by decide) _ i2).2.2 _ (by decide)) ?_
    exact xp_ret rfl ⟨fun v q => by cases q; rfl, rfl, rfl⟩
theorem xo_level_ (hB : xBok pre B) (x : Int32) (hg : B + 253 + g.length < 1000000) : xRn K Z 3 74 [.ref (B + 0), .int x] (xHn pre B N C L g) (if xhas N 1 x = true then .ok (some (.int (xlvl (N (1 + 3 + x.toNatClampNeg) 0) (N (1 + 3 + x.toNatClampNeg) 4)))) else .error (0, B + 253 + g.length)) (xHn pre B N C L (if xhas N 1 x = true then g else xgx g)) := by
  refine xRp_eq (xRp_of (m := (yX9_level, cX9_level, 2, (some .int), [], [], xcX9_level)) rfl (by show 2 ≤ 2; decide) ?_)
  show xBp K Z 2 2 [] xcX9_level xcX9_level [(0, .ref (B + 0)), (1, .int x)] [] _ _
  refine xp_step rfl ?_
  refine xp_ref hB (i := 0) (k := 0) (q := 1) (by decide) rfl (by decide) rfl ?_
  refine xp_step rfl ?_
  cases hh : xhas N 1 x with
  | false =>
    have hrow := xs_row (K := K) (Z := Z) (N := N) (L := L) (C := C) (g := g) hB (show 1 ∈ xRbs by decide) x hg
    rw [if_neg (by rw [hh]; decide), if_neg (by rw [hh]; decide)] at hrow
    exact xp_virtP (i := 1) hB (by decide) rfl rfl (Nat.le_of_ble_eq_true rfl) rfl (xR_up (by decide) hrow) rfl ⟨fun v q => (nomatch q), rfl, rfl⟩
  | true =>
    have hrow := xs_row (K := K) (Z := Z) (N := N) (L := L) (C := C) (g := g) hB (show 1 ∈ xRbs by decide) x hg
    rw [if_pos hh, if_pos hh] at hrow
    have hyes' := hh
    unfold xhas at hyes'
    simp only [Bool.and_eq_true, decide_eq_true_eq] at hyes'
    obtain ⟨-, i2⟩ := xin8 hyes'.1 hyes'.2.2
    refine xp_virt (i := 1) hB (by decide) rfl rfl (Nat.le_of_ble_eq_true rfl) rfl (xR_up (by decide) hrow) ?_
    refine xp_virt (i := 1 + 3 + x.toNatClampNeg) hB (by first | decide | omega) (xrb_reach 1 (by decide) _ i2).1 rfl (Nat.le_of_ble_eq_true rfl) rfl (xR_up (by decide) (xs_level hB (show 1 ∈ xRbs by decide) i2)) ?_
    exact xp_ret rfl ⟨fun v q => by cases q; rfl, rfl, rfl⟩
theorem xo_status_ (hB : xBok pre B) (x : Int32) (hg : B + 253 + g.length < 1000000) : xRn K Z 3 75 [.ref (B + 0), .int x] (xHn pre B N C L g) (if xhas N 1 x = true then .ok (some (.int (xsta N (1 + 3 + x.toNatClampNeg)))) else .error (0, B + 253 + g.length)) (xHn pre B N C L (if xhas N 1 x = true then g else xgx g)) := by
  refine xRp_eq (xRp_of (m := (yX9_status, cX9_status, 2, (some .int), [], [], xcX9_status)) rfl (by show 2 ≤ 2; decide) ?_)
  show xBp K Z 2 2 [] xcX9_status xcX9_status [(0, .ref (B + 0)), (1, .int x)] [] _ _
  refine xp_step rfl ?_
  refine xp_ref hB (i := 0) (k := 0) (q := 1) (by decide) rfl (by decide) rfl ?_
  refine xp_step rfl ?_
  cases hh : xhas N 1 x with
  | false =>
    have hrow := xs_row (K := K) (Z := Z) (N := N) (L := L) (C := C) (g := g) hB (show 1 ∈ xRbs by decide) x hg
    rw [if_neg (by rw [hh]; decide), if_neg (by rw [hh]; decide)] at hrow
    exact xp_virtP (i := 1) hB (by decide) rfl rfl (Nat.le_of_ble_eq_true rfl) rfl (xR_up (by decide) hrow) rfl ⟨fun v q => (nomatch q), rfl, rfl⟩
  | true =>
    have hrow := xs_row (K := K) (Z := Z) (N := N) (L := L) (C := C) (g := g) hB (show 1 ∈ xRbs by decide) x hg
    rw [if_pos hh, if_pos hh] at hrow
    have hyes' := hh
    unfold xhas at hyes'
    simp only [Bool.and_eq_true, decide_eq_true_eq] at hyes'
    obtain ⟨-, i2⟩ := xin8 hyes'.1 hyes'.2.2
    refine xp_virt (i := 1) hB (by decide) rfl rfl (Nat.le_of_ble_eq_true rfl) rfl (xR_up (by decide) hrow) ?_
    refine xp_virt (i := 1 + 3 + x.toNatClampNeg) hB (by first | decide | omega) (xrb_reach 1 (by decide) _ i2).1 rfl (Nat.le_of_ble_eq_true rfl) rfl (xR_up (by decide) (xs_status hB (show 1 ∈ xRbs by decide) i2)) ?_
    exact xp_ret rfl ⟨fun v q => by cases q; rfl, rfl, rfl⟩
theorem xo_rule_ (hB : xBok pre B) (x : Int32) (hr : xrul N 1) (hg : B + 253 + g.length < 1000000) : xRn K Z 3 78 [.ref (B + 0), .int x] (xHn pre B N C L g) (if xhas N 1 x = true then .ok (some (.int (N (1 + 3 + x.toNatClampNeg) 8))) else .error (0, B + 253 + g.length)) (xHn pre B N C L (if xhas N 1 x = true then g else xgx g)) := by
  refine xRp_eq (xRp_of (m := (yX9_rule, cX9_rule, 2, (some .char), [], [], xcX9_rule)) rfl (by show 2 ≤ 2; decide) ?_)
  show xBp K Z 2 2 [] xcX9_rule xcX9_rule [(0, .ref (B + 0)), (1, .int x)] [] _ _
  refine xp_step rfl ?_
  refine xp_ref hB (i := 0) (k := 0) (q := 1) (by decide) rfl (by decide) rfl ?_
  refine xp_step rfl ?_
  cases hh : xhas N 1 x with
  | false =>
    have hrow := xs_row (K := K) (Z := Z) (N := N) (L := L) (C := C) (g := g) hB (show 1 ∈ xRbs by decide) x hg
    rw [if_neg (by rw [hh]; decide), if_neg (by rw [hh]; decide)] at hrow
    exact xp_virtP (i := 1) hB (by decide) rfl rfl (Nat.le_of_ble_eq_true rfl) rfl (xR_up (by decide) hrow) rfl ⟨fun v q => (nomatch q), rfl, rfl⟩
  | true =>
    have hrow := xs_row (K := K) (Z := Z) (N := N) (L := L) (C := C) (g := g) hB (show 1 ∈ xRbs by decide) x hg
    rw [if_pos hh, if_pos hh] at hrow
    have hyes' := hh
    unfold xhas at hyes'
    simp only [Bool.and_eq_true, decide_eq_true_eq] at hyes'
    obtain ⟨-, i2⟩ := xin8 hyes'.1 hyes'.2.2
    refine xp_virt (i := 1) hB (by decide) rfl rfl (Nat.le_of_ble_eq_true rfl) rfl (xR_up (by decide) hrow) ?_
    refine xp_get hB (xrb_reach 1 (by decide) _ i2).2.1 (xrb_reach 1 (by decide) _ i2).1 (by decide) ((xrb_reach 1 (by decide) _ i2).2.2 _ (by decide)) ?_
    refine xp_ret rfl ⟨fun v q => ?_, rfl, rfl⟩
    cases q
    show (decide (0 ≤ N (1 + 3 + x.toNatClampNeg) 8) && decide (N (1 + 3 + x.toNatClampNeg) 8 ≤ 65535)) = true
    rw [decide_eq_true (hr _ i2).1, decide_eq_true (hr _ i2).2]
    rfl
theorem xo_flooded_ (hB : xBok pre B) (x : Int32) (hg : B + 253 + g.length < 1000000) : xRn K Z 3 76 [.ref (B + 0), .int x] (xHn pre B N C L g) (if xhas N 1 x = true then .ok (some (.int (if xsta N (1 + 3 + x.toNatClampNeg) = 2 then 1 else 0))) else .error (0, B + 253 + g.length)) (xHn pre B N C L (if xhas N 1 x = true then g else xgx g)) := by
  refine xRp_eq (xRp_of (m := (yX9_isFlooded, cX9_isFlooded, 2, (some .boolean), [], [], xcX9_isFlooded)) rfl (by show 2 ≤ 2; decide) ?_)
  show xBp K Z 2 2 [] xcX9_isFlooded xcX9_isFlooded [(0, .ref (B + 0)), (1, .int x)] [] _ _
  refine xp_step rfl ?_
  refine xp_ref hB (i := 0) (k := 0) (q := 1) (by decide) rfl (by decide) rfl ?_
  refine xp_step rfl ?_
  cases hh : xhas N 1 x with
  | false =>
    have hrow := xs_row (K := K) (Z := Z) (N := N) (L := L) (C := C) (g := g) hB (show 1 ∈ xRbs by decide) x hg
    rw [if_neg (by rw [hh]; decide), if_neg (by rw [hh]; decide)] at hrow
    exact xp_virtP (i := 1) hB (by decide) rfl rfl (Nat.le_of_ble_eq_true rfl) rfl (xR_up (by decide) hrow) rfl ⟨fun v q => (nomatch q), rfl, rfl⟩
  | true =>
    have hrow := xs_row (K := K) (Z := Z) (N := N) (L := L) (C := C) (g := g) hB (show 1 ∈ xRbs by decide) x hg
    rw [if_pos hh, if_pos hh] at hrow
    have hyes' := hh
    unfold xhas at hyes'
    simp only [Bool.and_eq_true, decide_eq_true_eq] at hyes'
    obtain ⟨-, i2⟩ := xin8 hyes'.1 hyes'.2.2
    refine xp_virt (i := 1) hB (by decide) rfl rfl (Nat.le_of_ble_eq_true rfl) rfl (xR_up (by decide) hrow) ?_
    refine xp_virt (i := 1 + 3 + x.toNatClampNeg) hB (by first | decide | omega) (xrb_reach 1 (by decide) _ i2).1 rfl (Nat.le_of_ble_eq_true rfl) rfl (xR_up (by decide) (xs_status hB (show 1 ∈ xRbs by decide) i2)) ?_
    refine xp_step rfl ?_
    refine xp_if2 rfl (fun q1 => ?_) (fun q1 => ?_)
    · skip
      refine xp_step rfl ?_
      have e9 : ¬ xsta N (1 + 3 + x.toNatClampNeg) = 2 := by simpa [xic] using q1
      rw [if_neg e9]
      exact xp_ret rfl ⟨fun v q => by cases q; rfl, rfl, rfl⟩
    · skip
      refine xp_step rfl ?_
      refine xp_jump rfl ?_
      have e9 : xsta N (1 + 3 + x.toNatClampNeg) = 2 := by simpa [xic] using q1
      rw [if_pos e9]
      exact xp_ret rfl ⟨fun v q => by cases q; rfl, rfl, rfl⟩
def xRoomR (N : Nat → Nat → Int32) (q : Nat) (x : Int32) : xA := if xhas N 1 x = true then (if xsta N (1 + 3 + x.toNatClampNeg) = 2 then .error (3, q) else .ok (some (.int (N (1 + 3 + x.toNatClampNeg) 6 * N (1 + 3 + x.toNatClampNeg) 0 - 1 - N (1 + 3 + x.toNatClampNeg) 4)))) else .error (0, q)
def xRoomG (N : Nat → Nat → Int32) (g : xH) (x : Int32) : xH := if xhas N 1 x = true then (if xsta N (1 + 3 + x.toNatClampNeg) = 2 then xgx g else g) else xgx g
theorem xo_room_ (hB : xBok pre B) (x : Int32) (hg : B + 253 + g.length < 1000000) : xRn K Z 3 79 [.ref (B + 0), .int x] (xHn pre B N C L g) (xRoomR N (B + 253 + g.length) x) (xHn pre B N C L (xRoomG N g x)) := by
  unfold xRoomR xRoomG
  refine xRp_eq (xRp_of (m := (yX9_roomBelowFlood, cX9_roomBelowFlood, 3, (some .int), [], [], xcX9_roomBelowFlood)) rfl (by show 2 ≤ 3; decide) ?_)
  show xBp K Z 2 3 [] xcX9_roomBelowFlood xcX9_roomBelowFlood [(0, .ref (B + 0)), (1, .int x)] [] _ _
  refine xp_step rfl ?_
  refine xp_ref hB (i := 0) (k := 0) (q := 1) (by decide) rfl (by decide) rfl ?_
  refine xp_step rfl ?_
  cases hh : xhas N 1 x with
  | false =>
    have hrow := xs_row (K := K) (Z := Z) (N := N) (L := L) (C := C) (g := g) hB (show 1 ∈ xRbs by decide) x hg
    rw [if_neg (by rw [hh]; decide), if_neg (by rw [hh]; decide)] at hrow
    exact xp_virtP (i := 1) hB (by decide) rfl rfl (Nat.le_of_ble_eq_true rfl) rfl (xR_up (by decide) hrow) rfl ⟨fun v q => (nomatch q), rfl, rfl⟩
  | true =>
    have hrow := xs_row (K := K) (Z := Z) (N := N) (L := L) (C := C) (g := g) hB (show 1 ∈ xRbs by decide) x hg
    rw [if_pos hh, if_pos hh] at hrow
    have hyes' := hh
    unfold xhas at hyes'
    simp only [Bool.and_eq_true, decide_eq_true_eq] at hyes'
    obtain ⟨-, i2⟩ := xin8 hyes'.1 hyes'.2.2
    refine xp_virt (i := 1) hB (by decide) rfl rfl (Nat.le_of_ble_eq_true rfl) rfl (xR_up (by decide) hrow) ?_
    refine xp_step rfl ?_
    refine xp_step rfl ?_
    refine xp_virt (i := 1 + 3 + x.toNatClampNeg) hB (by first | decide | omega) (xrb_reach 1 (by decide) _ i2).1 rfl (Nat.le_of_ble_eq_true rfl) rfl (xR_up (by decide) (xs_status hB (show 1 ∈ xRbs by decide) i2)) ?_
    refine xp_step rfl ?_
    refine xp_if2 rfl (fun q1 => ?_) (fun q1 => ?_)
    · skip
      refine xp_step rfl ?_
      refine xp_get hB (xrb_reach 1 (by decide) _ i2).2.1 (xrb_reach 1 (by decide) _ i2).1 (by decide) ((xrb_reach 1 (by decide) _ i2).2.2 _ (by decide)) ?_
      refine xp_step rfl ?_
      refine xp_get hB (xrb_reach 1 (by decide) _ i2).2.1 (xrb_reach 1 (by decide) _ i2).1 (by decide) ((xrb_reach 1 (by decide) _ i2).2.2 _ (by decide)) ?_
      refine xp_step rfl ?_
      refine xp_step rfl ?_
      refine xp_step rfl ?_
      refine xp_step rfl ?_
      refine xp_get hB (xrb_reach 1 (by decide) _ i2).2.1 (xrb_reach 1 (by decide) _ i2).1 (by decide) ((xrb_reach 1 (by decide) _ i2).2.2 _ (by decide)) ?_
      refine xp_step rfl ?_
      have e9 : ¬ xsta N (1 + 3 + x.toNatClampNeg) = 2 := by simpa [xic] using q1
      rw [if_neg e9, if_neg e9]
      exact xp_ret rfl ⟨fun v q => by cases q; rfl, rfl, rfl⟩
    · skip
      have e9 : xsta N (1 + 3 + x.toNatClampNeg) = 2 := by simpa [xic] using q1
      rw [if_pos e9, if_pos e9]
      refine xp_new (E := 3) (h1 := xHn pre B N C L g) rfl (by rw [xHn_len hB]; exact hg) ⟨fun v q => (nomatch q), ?_, ?_⟩
      · rw [xHn_len hB]; rfl
      · rw [xHn_app]; rfl
theorem xs_openE (hB : xBok pre B) (x : Int32) (hh : xhas N 1 x = false) (hg : B + 253 + g.length < 1000000) : xRn K Z 2 40 [.ref (B + 1), .int x] (xHn pre B N C L g) (.error (0, B + 253 + g.length)) (xHn pre B N C L (xgx g)) := by
  have hrow := xs_row (K := K) (Z := Z) (N := N) (L := L) (C := C) (g := g) hB (show 1 ∈ xRbs by decide) x hg
  rw [if_neg (by rw [hh]; decide), if_neg (by rw [hh]; decide)] at hrow
  refine xRp_eq (xRp_of (m := (yX7_openingOf, cX7_openingOf, 3, (some .int), [], [], xcX7_openingOf)) rfl (by show 2 ≤ 3; decide) ?_)
  show xBp K Z 1 3 [] xcX7_openingOf xcX7_openingOf [(0, .ref (B + 1)), (1, .int x)] [] _ _
  refine xp_step rfl ?_
  refine xp_step rfl ?_
  exact xp_virtP (i := 1) hB (by decide) rfl rfl (Nat.le_of_ble_eq_true rfl) rfl (xR_up (by decide) hrow) rfl ⟨fun v q => (nomatch q), rfl, rfl⟩
theorem xs_outE (hB : xBok pre B) (x : Int32) (hh : xhas N 1 x = false) (hg : B + 253 + g.length < 1000000) : xRn K Z 3 39 [.ref (B + 1), .int x] (xHn pre B N C L g) (.error (0, B + 253 + g.length)) (xHn pre B N C L (xgx g)) := by
  have hrow := xs_row (K := K) (Z := Z) (N := N) (L := L) (C := C) (g := g) hB (show 1 ∈ xRbs by decide) x hg
  rw [if_neg (by rw [hh]; decide), if_neg (by rw [hh]; decide)] at hrow
  refine xRp_eq (xRp_of (m := (yX7_outflowOf, cX7_outflowOf, 5, (some .int), [], [], xcX7_outflowOf)) rfl (by show 2 ≤ 5; decide) ?_)
  show xBp K Z 2 5 [] xcX7_outflowOf xcX7_outflowOf [(0, .ref (B + 1)), (1, .int x)] [] _ _
  refine xp_step rfl ?_
  refine xp_step rfl ?_
  exact xp_virtP (i := 1) hB (by decide) rfl rfl (Nat.le_of_ble_eq_true rfl) rfl (xR_up (by decide) hrow) rfl ⟨fun v q => (nomatch q), rfl, rfl⟩
theorem xs_inE (hB : xBok pre B) (x : Int32) (hh : xhas N 1 x = false) (hg : B + 253 + g.length < 1000000) : xRn K Z 4 38 [.ref (B + 1), .int x] (xHn pre B N C L g) (.error (0, B + 253 + g.length)) (xHn pre B N C L (xgx g)) := by
  have hrow := xs_row (K := K) (Z := Z) (N := N) (L := L) (C := C) (g := g) hB (show 1 ∈ xRbs by decide) x hg
  rw [if_neg (by rw [hh]; decide), if_neg (by rw [hh]; decide)] at hrow
  refine xRp_eq (xRp_of (m := (yX7_inflowOf, cX7_inflowOf, 3, (some .int), [], [], xcX7_inflowOf)) rfl (by show 2 ≤ 3; decide) ?_)
  show xBp K Z 3 3 [] xcX7_inflowOf xcX7_inflowOf [(0, .ref (B + 1)), (1, .int x)] [] _ _
  refine xp_step rfl ?_
  refine xp_step rfl ?_
  exact xp_virtP (i := 1) hB (by decide) rfl rfl (Nat.le_of_ble_eq_true rfl) rfl (xR_up (by decide) hrow) rfl ⟨fun v q => (nomatch q), rfl, rfl⟩
theorem xo_opening_ (hB : xBok pre B) (x : Int32) (hg : B + 253 + g.length < 1000000) : xRn K Z 5 77 [.ref (B + 0), .int x] (xHn pre B N C L g) (if xhas N 1 x = true then .ok (some (.int (xfOpen N 1 x))) else .error (0, B + 253 + g.length)) (xHn pre B N C L (if xhas N 1 x = true then g else xgx g)) := by
  refine xRp_eq (xRp_of (m := (yX9_opening, cX9_opening, 2, (some .int), [], [], xcX9_opening)) rfl (by show 2 ≤ 2; decide) ?_)
  show xBp K Z 4 2 [] xcX9_opening xcX9_opening [(0, .ref (B + 0)), (1, .int x)] [] _ _
  refine xp_step rfl ?_
  refine xp_ref hB (i := 0) (k := 0) (q := 1) (by decide) rfl (by decide) rfl ?_
  refine xp_step rfl ?_
  cases hh : xhas N 1 x with
  | true => exact xp_virt_ret (i := 1) hB (by decide) rfl rfl (Nat.le_of_ble_eq_true rfl) rfl rfl (xR_up (by decide) (xs_open hB (show 1 ∈ xRbs by decide) x hh hg)) (Or.inl ⟨_, rfl⟩) ⟨fun v q => by cases q; rfl, rfl, rfl⟩
  | false => exact xp_virt_ret (i := 1) hB (by decide) rfl rfl (Nat.le_of_ble_eq_true rfl) rfl rfl (xR_up (by decide) (xs_openE hB x hh hg)) (Or.inr ⟨_, _, rfl⟩) ⟨fun v q => (nomatch q), rfl, rfl⟩
theorem xo_outflow_ (hB : xBok pre B) (x : Int32) (hg : B + 253 + g.length < 1000000) : xRn K Z 5 70 [.ref (B + 0), .int x] (xHn pre B N C L g) (if xhas N 1 x = true then .ok (some (.int (xfOut N 1 x))) else .error (0, B + 253 + g.length)) (xHn pre B N C L (if xhas N 1 x = true then g else xgx g)) := by
  refine xRp_eq (xRp_of (m := (yX9_outflow, cX9_outflow, 2, (some .int), [], [], xcX9_outflow)) rfl (by show 2 ≤ 2; decide) ?_)
  show xBp K Z 4 2 [] xcX9_outflow xcX9_outflow [(0, .ref (B + 0)), (1, .int x)] [] _ _
  refine xp_step rfl ?_
  refine xp_ref hB (i := 0) (k := 0) (q := 1) (by decide) rfl (by decide) rfl ?_
  refine xp_step rfl ?_
  cases hh : xhas N 1 x with
  | true => exact xp_virt_ret (i := 1) hB (by decide) rfl rfl (Nat.le_of_ble_eq_true rfl) rfl rfl (xR_up (by decide) (xs_out hB (show 1 ∈ xRbs by decide) x hh hg)) (Or.inl ⟨_, rfl⟩) ⟨fun v q => by cases q; rfl, rfl, rfl⟩
  | false => exact xp_virt_ret (i := 1) hB (by decide) rfl rfl (Nat.le_of_ble_eq_true rfl) rfl rfl (xR_up (by decide) (xs_outE hB x hh hg)) (Or.inr ⟨_, _, rfl⟩) ⟨fun v q => (nomatch q), rfl, rfl⟩
theorem xo_inflow_ (hB : xBok pre B) (x : Int32) (hg : B + 253 + g.length < 1000000) : xRn K Z 5 69 [.ref (B + 0), .int x] (xHn pre B N C L g) (if xhas N 1 x = true then .ok (some (.int (xfIn N 1 x))) else .error (0, B + 253 + g.length)) (xHn pre B N C L (if xhas N 1 x = true then g else xgx g)) := by
  refine xRp_eq (xRp_of (m := (yX9_inflow, cX9_inflow, 2, (some .int), [], [], xcX9_inflow)) rfl (by show 2 ≤ 2; decide) ?_)
  show xBp K Z 4 2 [] xcX9_inflow xcX9_inflow [(0, .ref (B + 0)), (1, .int x)] [] _ _
  refine xp_step rfl ?_
  refine xp_ref hB (i := 0) (k := 0) (q := 1) (by decide) rfl (by decide) rfl ?_
  refine xp_step rfl ?_
  cases hh : xhas N 1 x with
  | true => exact xp_virt_ret (i := 1) hB (by decide) rfl rfl (Nat.le_of_ble_eq_true rfl) rfl rfl (xR_up (by decide) (xs_in hB (show 1 ∈ xRbs by decide) x hh hg)) (Or.inl ⟨_, rfl⟩) ⟨fun v q => by cases q; rfl, rfl, rfl⟩
  | false => exact xp_virt_ret (i := 1) hB (by decide) rfl rfl (Nat.le_of_ble_eq_true rfl) rfl rfl (xR_up (by decide) (xs_inE hB x hh hg)) (Or.inr ⟨_, _, rfl⟩) ⟨fun v q => (nomatch q), rfl, rfl⟩
theorem xo_reachCount_ (hB : xBok pre B) : xRn K Z 1 66 [.ref (B + 0)] (xHn pre B N C L g) (.ok (some (.int (N 1 2)))) (xHn pre B N C L g) := by
  have hr1 := xrb_river 1 (by decide)
  refine xRp_eq (xRp_of (m := (yX9_reachCount, cX9_reachCount, 1, (some .int), [], [], xcX9_reachCount)) rfl (by show 1 ≤ 1; decide) ?_)
  show xBp K Z 0 1 [] xcX9_reachCount xcX9_reachCount [(0, .ref (B + 0))] [] _ _
  refine xp_step rfl ?_
  refine xp_ref hB (i := 0) (k := 0) (q := 1) (by decide) rfl (by decide) rfl ?_
  refine xp_get hB (by omega) hr1.1 (by decide) (hr1.2.2.2.2.2.2.1 _ (by decide) (by decide)) ?_
  exact xp_ret rfl ⟨fun v q => by cases q; rfl, rfl, rfl⟩
theorem xo_hour_ (hB : xBok pre B) : xRn K Z 1 83 [.ref (B + 0)] (xHn pre B N C L g) (.ok (some (.int (N 1 4)))) (xHn pre B N C L g) := by
  have hr1 := xrb_river 1 (by decide)
  refine xRp_eq (xRp_of (m := (yX9_hour, cX9_hour, 1, (some .int), [], [], xcX9_hour)) rfl (by show 1 ≤ 1; decide) ?_)
  show xBp K Z 0 1 [] xcX9_hour xcX9_hour [(0, .ref (B + 0))] [] _ _
  refine xp_step rfl ?_
  refine xp_ref hB (i := 0) (k := 0) (q := 1) (by decide) rfl (by decide) rfl ?_
  refine xp_get hB (by omega) hr1.1 (by decide) (hr1.2.2.2.2.2.2.1 _ (by decide) (by decide)) ?_
  exact xp_ret rfl ⟨fun v q => by cases q; rfl, rfl, rfl⟩
theorem xo_pulseCount_ (hB : xBok pre B) : xRn K Z 1 84 [.ref (B + 0)] (xHn pre B N C L g) (.ok (some (.int (N 1 3)))) (xHn pre B N C L g) := by
  have hr1 := xrb_river 1 (by decide)
  refine xRp_eq (xRp_of (m := (yX9_pulseCount, cX9_pulseCount, 1, (some .int), [], [], xcX9_pulseCount)) rfl (by show 1 ≤ 1; decide) ?_)
  show xBp K Z 0 1 [] xcX9_pulseCount xcX9_pulseCount [(0, .ref (B + 0))] [] _ _
  refine xp_step rfl ?_
  refine xp_ref hB (i := 0) (k := 0) (q := 1) (by decide) rfl (by decide) rfl ?_
  refine xp_get hB (by omega) hr1.1 (by decide) (hr1.2.2.2.2.2.2.1 _ (by decide) (by decide)) ?_
  exact xp_ret rfl ⟨fun v q => by cases q; rfl, rfl, rfl⟩
theorem xo_totalIn_ (hB : xBok pre B) : xRn K Z 1 92 [.ref (B + 0)] (xHn pre B N C L g) (.ok (some (.int (N 1 5)))) (xHn pre B N C L g) := by
  have hr1 := xrb_river 1 (by decide)
  refine xRp_eq (xRp_of (m := (yX9_totalIn, cX9_totalIn, 1, (some .int), [], [], xcX9_totalIn)) rfl (by show 1 ≤ 1; decide) ?_)
  show xBp K Z 0 1 [] xcX9_totalIn xcX9_totalIn [(0, .ref (B + 0))] [] _ _
  refine xp_step rfl ?_
  refine xp_ref hB (i := 0) (k := 0) (q := 1) (by decide) rfl (by decide) rfl ?_
  refine xp_get hB (by omega) hr1.1 (by decide) (hr1.2.2.2.2.2.2.1 _ (by decide) (by decide)) ?_
  exact xp_ret rfl ⟨fun v q => by cases q; rfl, rfl, rfl⟩
theorem xo_totalOut_ (hB : xBok pre B) : xRn K Z 1 93 [.ref (B + 0)] (xHn pre B N C L g) (.ok (some (.int (N 1 6)))) (xHn pre B N C L g) := by
  have hr1 := xrb_river 1 (by decide)
  refine xRp_eq (xRp_of (m := (yX9_totalOut, cX9_totalOut, 1, (some .int), [], [], xcX9_totalOut)) rfl (by show 1 ≤ 1; decide) ?_)
  show xBp K Z 0 1 [] xcX9_totalOut xcX9_totalOut [(0, .ref (B + 0))] [] _ _
  refine xp_step rfl ?_
  refine xp_ref hB (i := 0) (k := 0) (q := 1) (by decide) rfl (by decide) rfl ?_
  refine xp_get hB (by omega) hr1.1 (by decide) (hr1.2.2.2.2.2.2.1 _ (by decide) (by decide)) ?_
  exact xp_ret rfl ⟨fun v q => by cases q; rfl, rfl, rfl⟩
theorem xo_alarms_ (hB : xBok pre B) : xRn K Z 1 94 [.ref (B + 0)] (xHn pre B N C L g) (.ok (some (.int (N 1 7)))) (xHn pre B N C L g) := by
  have hr1 := xrb_river 1 (by decide)
  refine xRp_eq (xRp_of (m := (yX9_alarms, cX9_alarms, 1, (some .int), [], [], xcX9_alarms)) rfl (by show 1 ≤ 1; decide) ?_)
  show xBp K Z 0 1 [] xcX9_alarms xcX9_alarms [(0, .ref (B + 0))] [] _ _
  refine xp_step rfl ?_
  refine xp_ref hB (i := 0) (k := 0) (q := 1) (by decide) rfl (by decide) rfl ?_
  refine xp_get hB (by omega) hr1.1 (by decide) (hr1.2.2.2.2.2.2.1 _ (by decide) (by decide)) ?_
  exact xp_ret rfl ⟨fun v q => by cases q; rfl, rfl, rfl⟩
theorem xo_undoCount_ (hB : xBok pre B) : xRn K Z 1 107 [.ref (B + 0)] (xHn pre B N C L g) (.ok (some (.int (N 58 2)))) (xHn pre B N C L g) := by
  have hr1 := xrb_river 1 (by decide)
  refine xRp_eq (xRp_of (m := (yX9_undoCount, cX9_undoCount, 1, (some .int), [], [], xcX9_undoCount)) rfl (by show 1 ≤ 1; decide) ?_)
  show xBp K Z 0 1 [] xcX9_undoCount xcX9_undoCount [(0, .ref (B + 0))] [] _ _
  refine xp_step rfl ?_
  refine xp_ref hB (i := 0) (k := 3) (q := 58) (by decide) rfl (by decide) rfl ?_
  refine xp_get hB (i := 58) (k := 2) (by decide) rfl (by decide) (by decide) ?_
  exact xp_ret rfl ⟨fun v q => by cases q; rfl, rfl, rfl⟩
theorem xo_pending_ (hB : xBok pre B) : xRn K Z 5 86 [.ref (B + 0)] (xHn pre B N C L g) (.ok (some (.int (xfCom N 1)))) (xHn pre B N C L g) := by
  have hr1 := xrb_river 1 (by decide)
  refine xRp_eq (xRp_of (m := (yX9_pendingInflow, cX9_pendingInflow, 1, (some .int), [], [], xcX9_pendingInflow)) rfl (by show 1 ≤ 1; decide) ?_)
  show xBp K Z 4 1 [] xcX9_pendingInflow xcX9_pendingInflow [(0, .ref (B + 0))] [] _ _
  refine xp_step rfl ?_
  refine xp_ref hB (i := 0) (k := 0) (q := 1) (by decide) rfl (by decide) rfl ?_
  refine xp_virt (i := 1) hB (by first | decide | omega) rfl rfl (Nat.le_of_ble_eq_true rfl) rfl (xR_up (by decide) (xs_com hB (show 1 ∈ xRbs by decide))) ?_
  exact xp_ret rfl ⟨fun v q => by cases q; rfl, rfl, rfl⟩
theorem xo_head_ (hB : xBok pre B) (x : Int32) (hg : B + 253 + g.length < 1000000) : xRn K Z 4 85 [.ref (B + 0), .int x] (xHn pre B N C L g) (if x < N 1 4 then .error (1, B + 253 + g.length) else .ok (some (.int (xfHead N 1 x)))) (xHn pre B N C L (if x < N 1 4 then xgx g else g)) := by
  have hr1 := xrb_river 1 (by decide)
  refine xRp_eq (xRp_of (m := (yX9_headInflow, cX9_headInflow, 2, (some .int), [], [], xcX9_headInflow)) rfl (by show 2 ≤ 2; decide) ?_)
  show xBp K Z 3 2 [] xcX9_headInflow xcX9_headInflow [(0, .ref (B + 0)), (1, .int x)] [] _ _
  refine xp_step rfl ?_
  refine xp_step rfl ?_
  refine xp_ref hB (i := 0) (k := 0) (q := 1) (by decide) rfl (by decide) rfl ?_
  refine xp_get hB (by omega) hr1.1 (by decide) (hr1.2.2.2.2.2.2.1 _ (by decide) (by decide)) ?_
  refine xp_if2 rfl (fun q1 => ?_) (fun q1 => ?_)
  · skip
    refine xp_step rfl ?_
    refine xp_ref hB (i := 0) (k := 0) (q := 1) (by decide) rfl (by decide) rfl ?_
    refine xp_step rfl ?_
    refine xp_virt (i := 1) hB (by first | decide | omega) rfl rfl (Nat.le_of_ble_eq_true rfl) rfl (xR_up (by decide) (xs_head hB (show 1 ∈ xRbs by decide) x)) ?_
    have e9 : ¬ x < N 1 4 := Int32.not_lt.mpr (of_decide_eq_true q1)
    rw [if_neg e9, if_neg e9]
    exact xp_ret rfl ⟨fun v q => by cases q; rfl, rfl, rfl⟩
  · skip
    have e9 : x < N 1 4 := Int32.not_le.mp (of_decide_eq_false q1)
    rw [if_pos e9, if_pos e9]
    refine xp_new (E := 1) (h1 := xHn pre B N C L g) rfl (by rw [xHn_len hB]; exact hg) ⟨fun v q => (nomatch q), ?_, ?_⟩
    · rw [xHn_len hB]
    · rw [xHn_app]; rfl
end XOC
