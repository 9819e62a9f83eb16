/-! WHAT THE OBJECT'S CALLS SHARE: commands performed, conclusions, refusals -/
section XVE
variable {K : List (Nat × List Value)} {Z : List Value} {d nL : Nat} {hs : List (Nat × Nat × Nat × Nat)} {code cs : List xE} {loc : xL} {st : List Value} {P : xA → xH → Prop}
variable {pre g h2 : xH} {B L i : Nat} {N : Nat → Nat → Int32} {C : Nat → Nat}
theorem xvirt_at {pc j ln mi n I rc t : Nat} {aux : List Nat} {nL : Nat} (hB : xBok pre B) (hi : i < 253) (hk : xKd i = (rc, t)) (hst : st[n - 1]? = some (.ref (B + i))) (hn : n ≤ st.length) (hcat : decide (((st.drop n).map fun v => v.category).sum ≤ 8) = true) : xstep nL K Z (pc, .invokevirtual j, ln, 0 :: mi :: n :: I :: rc :: aux) loc st (xHn pre B N C L g) = some (.inr (.inl (mi, (st.take n).reverse, loc, st.drop n, xHn pre B N C L g))) := by
  have e : xrcv K (xHn pre B N C L g) st n rc = true := by
    unfold xrcv
    rw [hst]
    dsimp only
    rw [show xcell K (xHn pre B N C L g) (B + i) = _ from xm_cell hB.1 hB.2 hi, hk]
    exact decide_eq_true rfl
  have f : xcall mi n loc st (xHn pre B N C L g) = some (.inr (.inl (mi, (st.take n).reverse, loc, st.drop n, xHn pre B N C L g))) := by
    unfold xcall
    rw [decide_eq_true hn, hcat]
    rfl
  show (match xrcv K (xHn pre B N C L g) st n rc with | true => xcall mi n loc st (xHn pre B N C L g) | false => none) = _
  rw [e]
  exact f
/-- a virtual call on one of the object's own cells, that throws, and is caught -/
theorem xp_virtE {pc j ln mi n I rc t E q u : Nat} {aux : List Nat} (hB : xBok pre B) (hi : i < 253) (hk : xKd i = (rc, t)) (hst : st[n - 1]? = some (.ref (B + i))) (hn : n ≤ st.length) (hcat : decide (((st.drop n).map fun v => v.category).sum ≤ 8) = true) (hc : xRn K Z d mi (st.take n).reverse (xHn pre B N C L g) (.error (E, q)) h2) (hh : xhand hs pc E = some u) (hb : xBp K Z d nL hs code (xseek code u) loc [.ref q] h2 P) : xBp K Z d nL hs code ((pc, .invokevirtual j, ln, 0 :: mi :: n :: I :: rc :: aux) :: cs) loc st (xHn pre B N C L g) P := by
  obtain ⟨r, h', hb, hp⟩ := hb
  exact ⟨r, h', xB_catch (xvirt_at hB hi hk hst hn hcat) hc rfl hh hb, hp⟩
/-- .. and is caught nowhere here -/
theorem xp_virtP {pc j ln mi n I rc t E q : Nat} {aux : List Nat} (hB : xBok pre B) (hi : i < 253) (hk : xKd i = (rc, t)) (hst : st[n - 1]? = some (.ref (B + i))) (hn : n ≤ st.length) (hcat : decide (((st.drop n).map fun v => v.category).sum ≤ 8) = true) (hc : xRn K Z d mi (st.take n).reverse (xHn pre B N C L g) (.error (E, q)) h2) (hh : xhand hs pc E = none) (hp : P (.error (E, q)) h2) : xBp K Z d nL hs code ((pc, .invokevirtual j, ln, 0 :: mi :: n :: I :: rc :: aux) :: cs) loc st (xHn pre B N C L g) P :=
  ⟨_, _, xB_pass (xvirt_at hB hi hk hst hn hcat) hc rfl hh, hp⟩
/-- a static call that throws, and is caught nowhere here -/
theorem xp_statP {pc j ln mi n E q : Nat} {aux : List Nat} {h : xH} (hn : n ≤ st.length) (hcat : decide (((st.drop n).map fun v => v.category).sum ≤ 8) = true) (hc : xRn K Z d mi (st.take n).reverse h (.error (E, q)) h2) (hh : xhand hs pc E = none) (hp : P (.error (E, q)) h2) : xBp K Z d nL hs code ((pc, .invokestatic j, ln, 1 :: mi :: n :: aux) :: cs) loc st h P := by
  refine ⟨_, _, xB_pass (mi := mi) (args := (st.take n).reverse) (loc1 := loc) (st1 := st.drop n) (h1 := h) ?_ hc rfl hh, hp⟩
  show xcall mi n loc st h = _
  unfold xcall
  rw [decide_eq_true hn, hcat]
  rfl
/-- the kind of a command -/
theorem xp_kget {pc j0 ln j : Nat} {aux : List Nat} (hB : xBok pre B) (hj : j < 16) (hb : xBp K Z d nL hs code cs loc (.ref (1000000 + C (234 + j)) :: st) (xHn pre B N C L g) P) : xBp K Z d nL hs code ((pc, .getfield j0, ln, 4 :: 0 :: aux) :: cs) loc (.ref (B + (234 + j)) :: st) (xHn pre B N C L g) P := by
  obtain ⟨c1, c2, -⟩ := xcm_cell j hj
  have ev : xMv B N C L (234 + j) 0 = .ref (1000000 + C (234 + j)) := by
    unfold xMv
    have e0 : xrf0 (234 + j) 0 = none := by
      have := (show ∀ j, j < 16 → xrf0 (234 + j) 0 = none by decide) j hj
      exact this
    rw [e0]
    dsimp only
    rw [if_neg (by omega), if_pos (by omega)]
  refine xp_step (st1 := .ref (1000000 + C (234 + j)) :: st) ?_ hb
  have e := xm_getf (K := K) (loc := loc) (st := st) (g := g) (m := xMv B N C L) (k := 0) hB.1 hB.2 c2 c1 (by decide) (by rw [ev]; rfl)
  rw [ev] at e
  exact e
end XVE
def xi2c (x : Int32) : Int32 := (x.toUInt32 % 65536).toInt32
/-- a command performed: the kind's number, the numbers read -/
def xfPer (N : Nat → Nat → Int32) (w c : Nat) (a b e : Int32) : Int32 × (Nat → Nat → Int32) := match c with
  | 1 => xfAppend N w a b e
  | 2 => xfCut N w
  | 3 => xfLat N w a b
  | 4 => xfPour N w a b
  | 5 => xfStages N w a b e
  | 6 => xfSet N w a b
  | 7 => xfRule N w a (xi2c b)
  | 8 => xfPulse N w a b e
  | _ => xfLet N w a
section XPE
variable {xs : List Int32} {z : Value} {K : List (Nat × List Value)} {Z : List Value} {pre g : xH} {B L : Nat} {N : Nat → Nat → Int32} {C : Nat → Nat}
theorem xs_ordinal {h : xH} {a : Nat} {v1 v2 : Value} {x : Int32} (hc : xcell K h a = some (45, [v1, v2, .int x])) : xRn K Z 1 137 [.ref a] h (.ok (some (.int x))) h := by
  refine xRp_eq (xRp_of (m := (yJx29ce0_ordinal_8abf5, cJx29ce0_ordinal_8abf5, 1, (some .int), [], [], xcJx29ce0_ordinal_8abf5)) rfl (by show 1 ≤ 1; decide) ?_)
  show xBp K Z 0 1 [] xcJx29ce0_ordinal_8abf5 xcJx29ce0_ordinal_8abf5 [(0, .ref a)] [] _ _
  refine xp_step rfl ?_
  have hs : xstep 1 K Z (1, .getfield 7, 3, [45, 2, 1519, 0]) [(0, .ref a)] [.ref a] h = some (.inl (none, [(0, .ref a)], [.int x], h)) := by
    show xgetf K 45 2 _ [.ref a] h = _
    unfold xgetf
    dsimp only
    rw [hc]
    rfl
  refine xp_step hs ?_
  exact xp_ret rfl ⟨fun v q => by cases q; rfl, rfl, rfl⟩
theorem xs_perform (hB : xBok pre B) {w : Nat} (hw : w ∈ xRbs) {j : Nat} (hj : j < 16) (hC : 1 ≤ C (234 + j) ∧ C (234 + j) ≤ 9) (hg : B + 253 + g.length < 1000000) : xRn (xK xs) (xZ z) 6 25 [.ref (B + w), .ref (B + (234 + j))] (xHn pre B N C L g) (.ok (some (.int (xfPer N w (C (234 + j)) (N (234 + j) 1) (N (234 + j) 2) (N (234 + j) 3)).1))) (xHn pre B (xfPer N w (C (234 + j)) (N (234 + j) 1) (N (234 + j) 2) (N (234 + j) 3)).2 C L g) := by
  obtain ⟨c1, c2, c3⟩ := xcm_cell j hj
  have hrv := xrb_river w hw
  have hwl := hrv.2.2.2.1
  refine xRp_eq (xRp_of (m := (yX7_perform, cX7_perform, 2, (some .int), [], [], xcX7_perform)) rfl (by show 2 ≤ 2; decide) ?_)
  show xBp (xK xs) (xZ z) 5 2 [] xcX7_perform xcX7_perform [(0, .ref (B + w)), (1, .ref (B + (234 + j)))] [] _ _
  refine xp_step rfl ?_
  refine xp_step rfl ?_
  refine xp_kget hB hj ?_
  obtain ⟨h1, h2⟩ := hC
  generalize C (234 + j) = c at h1 h2 ⊢
  have hcs : c = 1 ∨ c = 2 ∨ c = 3 ∨ c = 4 ∨ c = 5 ∨ c = 6 ∨ c = 7 ∨ c = 8 ∨ c = 9 := by omega
  rcases hcs with rfl | rfl | rfl | rfl | rfl | rfl | rfl | rfl | rfl
  · refine xp_callR rfl (xR_up (by decide) (xs_ordinal (v1 := .ref 1000052) (v2 := .ref 1000054) (x := 0) rfl)) ?_
    refine xp_step rfl ?_
    refine xp_jump rfl ?_
    refine xp_step rfl ?_
    refine xp_step rfl ?_
    refine xp_get hB c2 c1 (by decide) (c3 _ (by decide) (by decide)) ?_
    refine xp_step rfl ?_
    refine xp_get hB c2 c1 (by decide) (c3 _ (by decide) (by decide)) ?_
    refine xp_step rfl ?_
    refine xp_get hB c2 c1 (by decide) (c3 _ (by decide) (by decide)) ?_
    refine xp_virt (i := w) hB (by omega) hrv.1 rfl (Nat.le_of_ble_eq_true rfl) rfl (xR_up (by decide) (xs_append hB hw _ _ _)) ?_
    exact xp_ret rfl ⟨fun v q => by cases q; rfl, rfl, rfl⟩
  · refine xp_callR rfl (xR_up (by decide) (xs_ordinal (v1 := .ref 1000048) (v2 := .ref 1000050) (x := 1) rfl)) ?_
    refine xp_step rfl ?_
    refine xp_jump rfl ?_
    refine xp_step rfl ?_
    refine xp_virt (i := w) hB (by omega) hrv.1 rfl (Nat.le_of_ble_eq_true rfl) rfl (xR_up (by decide) (xs_cut hB hw)) ?_
    exact xp_ret rfl ⟨fun v q => by cases q; rfl, rfl, rfl⟩
  · refine xp_callR rfl (xR_up (by decide) (xs_ordinal (v1 := .ref 1000056) (v2 := .ref 1000058) (x := 2) rfl)) ?_
    refine xp_step rfl ?_
    refine xp_jump rfl ?_
    refine xp_step rfl ?_
    refine xp_step rfl ?_
    refine xp_get hB c2 c1 (by decide) (c3 _ (by decide) (by decide)) ?_
    refine xp_step rfl ?_
    refine xp_get hB c2 c1 (by decide) (c3 _ (by decide) (by decide)) ?_
    refine xp_virt (i := w) hB (by omega) hrv.1 rfl (Nat.le_of_ble_eq_true rfl) rfl (xR_up (by decide) (xs_lat hB hw _ _)) ?_
    exact xp_ret rfl ⟨fun v q => by cases q; rfl, rfl, rfl⟩
  · refine xp_callR rfl (xR_up (by decide) (xs_ordinal (v1 := .ref 1000060) (v2 := .ref 1000058) (x := 3) rfl)) ?_
    refine xp_step rfl ?_
    refine xp_jump rfl ?_
    refine xp_step rfl ?_
    refine xp_step rfl ?_
    refine xp_get hB c2 c1 (by decide) (c3 _ (by decide) (by decide)) ?_
    refine xp_step rfl ?_
    refine xp_get hB c2 c1 (by decide) (c3 _ (by decide) (by decide)) ?_
    refine xp_virt (i := w) hB (by omega) hrv.1 rfl (Nat.le_of_ble_eq_true rfl) rfl (xR_up (by decide) (xs_pour hB hw _ _)) ?_
    exact xp_ret rfl ⟨fun v q => by cases q; rfl, rfl, rfl⟩
  · refine xp_callR rfl (xR_up (by decide) (xs_ordinal (v1 := .ref 1000062) (v2 := .ref 1000064) (x := 4) rfl)) ?_
    refine xp_step rfl ?_
    refine xp_jump rfl ?_
    refine xp_step rfl ?_
    refine xp_step rfl ?_
    refine xp_get hB c2 c1 (by decide) (c3 _ (by decide) (by decide)) ?_
    refine xp_step rfl ?_
    refine xp_get hB c2 c1 (by decide) (c3 _ (by decide) (by decide)) ?_
    refine xp_step rfl ?_
    refine xp_get hB c2 c1 (by decide) (c3 _ (by decide) (by decide)) ?_
    refine xp_virt (i := w) hB (by omega) hrv.1 rfl (Nat.le_of_ble_eq_true rfl) rfl (xR_up (by decide) (xs_stages hB hw _ _ _)) ?_
    exact xp_ret rfl ⟨fun v q => by cases q; rfl, rfl, rfl⟩
  · refine xp_callR rfl (xR_up (by decide) (xs_ordinal (v1 := .ref 1000066) (v2 := .ref 1000058) (x := 5) rfl)) ?_
    refine xp_step rfl ?_
    refine xp_jump rfl ?_
    refine xp_step rfl ?_
    refine xp_step rfl ?_
    refine xp_get hB c2 c1 (by decide) (c3 _ (by decide) (by decide)) ?_
    refine xp_step rfl ?_
    refine xp_get hB c2 c1 (by decide) (c3 _ (by decide) (by decide)) ?_
    refine xp_virt (i := w) hB (by omega) hrv.1 rfl (Nat.le_of_ble_eq_true rfl) rfl (xR_up (by decide) (xs_setting hB hw _ _)) ?_
    exact xp_ret rfl ⟨fun v q => by cases q; rfl, rfl, rfl⟩
  · refine xp_callR rfl (xR_up (by decide) (xs_ordinal (v1 := .ref 1000068) (v2 := .ref 1000070) (x := 6) rfl)) ?_
    refine xp_step rfl ?_
    refine xp_jump rfl ?_
    refine xp_step rfl ?_
    refine xp_step rfl ?_
    refine xp_get hB c2 c1 (by decide) (c3 _ (by decide) (by decide)) ?_
    refine xp_step rfl ?_
    refine xp_get hB c2 c1 (by decide) (c3 _ (by decide) (by decide)) ?_
    refine xp_step rfl ?_
    refine xp_virt (i := w) hB (by omega) hrv.1 rfl (Nat.le_of_ble_eq_true rfl) rfl (xR_up (by decide) (xs_setrule hB hw _ _ hg)) ?_
    exact xp_ret rfl ⟨fun v q => by cases q; rfl, rfl, rfl⟩
  · refine xp_callR rfl (xR_up (by decide) (xs_ordinal (v1 := .ref 1000072) (v2 := .ref 1000054) (x := 7) rfl)) ?_
    refine xp_step rfl ?_
    refine xp_jump rfl ?_
    refine xp_step rfl ?_
    refine xp_step rfl ?_
    refine xp_get hB c2 c1 (by decide) (c3 _ (by decide) (by decide)) ?_
    refine xp_step rfl ?_
    refine xp_get hB c2 c1 (by decide) (c3 _ (by decide) (by decide)) ?_
    refine xp_step rfl ?_
    refine xp_get hB c2 c1 (by decide) (c3 _ (by decide) (by decide)) ?_
    refine xp_virt (i := w) hB (by omega) hrv.1 rfl (Nat.le_of_ble_eq_true rfl) rfl (xR_up (by decide) (xs_pulse hB hw _ _ _)) ?_
    exact xp_ret rfl ⟨fun v q => by cases q; rfl, rfl, rfl⟩
  · refine xp_callR rfl (xR_up (by decide) (xs_ordinal (v1 := .ref 1000074) (v2 := .ref 1000076) (x := 8) rfl)) ?_
    refine xp_step rfl ?_
    refine xp_jump rfl ?_
    refine xp_step rfl ?_
    refine xp_step rfl ?_
    refine xp_get hB c2 c1 (by decide) (c3 _ (by decide) (by decide)) ?_
    refine xp_virt (i := w) hB (by omega) hrv.1 rfl (Nat.le_of_ble_eq_true rfl) rfl (xR_up (by decide) (xs_let hB hw _ hg)) ?_
    exact xp_ret rfl ⟨fun v q => by cases q; rfl, rfl, rfl⟩
end XPE
/-! conclusions -/
def xConR (q : Nat) (a : Int32) : xA := if a = -11 then .error (0, q) else if a = -12 then .error (1, q) else if a < 0 then .error (2, q) else .ok (some (.int a))
def xConN (N : Nat → Nat → Int32) (a v : Int32) : Nat → Nat → Int32 := if a = -11 then N else if a = -12 then N else if a < 0 then xNden N (-a) (xfDet N 1 (-a) v) 0 0 else xNconf N
def xConG (g : xH) (a : Int32) : xH := if a = -11 then xgx g else if a = -12 then xgx g else if a < 0 then xgx g else g
/-- what a failed command leaves -/
def xNfail (N : Nat → Nat → Int32) (i v a : Int32) : Nat → Nat → Int32 := if a = -11 ∨ a = -12 then xNden N 5 i 6 0 else xNden N 5 i (-a) (xfDet N 1 (-a) v)
section XCN2
variable {K : List (Nat × List Value)} {Z : List Value} {pre g : xH} {B L : Nat} {N : Nat → Nat → Int32} {C : Nat → Nat}
theorem xs_conclude (hB : xBok pre B) (a v : Int32) (hg : B + 253 + g.length < 1000000) : xRn K Z 3 110 [.ref (B + 0), .int a, .int v] (xHn pre B N C L g) (xConR (B + 253 + g.length) a) (xHn pre B (xConN N a v) C L (xConG g a)) := by
  have hr1 := xrb_river 1 (by decide)
  refine xRp_eq (xRp_of (m := (yX9_conclude, cX9_conclude, 3, (some .int), [], [], xcX9_conclude)) rfl (by show 3 ≤ 3; decide) ?_)
  show xBp K Z 2 3 [] xcX9_conclude xcX9_conclude [(0, .ref (B + 0)), (1, .int a), (2, .int v)] [] _ _
  refine xp_step rfl ?_
  refine xp_step rfl ?_
  refine xp_if2 rfl (fun q1 => ?_) (fun q1 => ?_)
  rotate_left
  · have q1 : a = -11 := by simpa [xic] using q1
    subst q1
    refine xp_new (E := 0) (h1 := xHn pre B N C L g) rfl (by rw [xHn_len hB]; exact hg) ⟨fun v q => (nomatch q), ?_, ?_⟩
    · rw [xHn_len hB]; rfl
    · rw [xHn_app]; rfl
  have q1 : ¬ a = -11 := by simpa [xic] using q1
  refine xp_step rfl ?_
  refine xp_step rfl ?_
  refine xp_if2 rfl (fun q2 => ?_) (fun q2 => ?_)
  rotate_left
  · have q2 : a = -12 := by simpa [xic] using q2
    subst q2
    refine xp_new (E := 1) (h1 := xHn pre B N C L g) rfl (by rw [xHn_len hB]; exact hg) ⟨fun v q => (nomatch q), ?_, ?_⟩
    · rw [xHn_len hB]; rfl
    · rw [xHn_app]; rfl
  have q2 : ¬ a = -12 := by simpa [xic] using q2
  refine xp_step rfl ?_
  refine xp_if1 rfl (fun q3 => ?_) (fun q3 => ?_)
  · have q3 : ¬ a < 0 := Int32.not_lt.mpr (of_decide_eq_true q3)
    refine xp_step rfl ?_
    refine xp_ref hB (i := 0) (k := 3) (q := 58) (by decide) rfl (by decide) rfl ?_
    refine xp_virt (i := 58) hB (by decide) rfl rfl (Nat.le_of_ble_eq_true rfl) rfl (xs_confirm hB) ?_
    refine xp_step rfl ?_
    refine xp_ret rfl ⟨fun v q => by cases q; rfl, ?_, ?_⟩
    · unfold xConR; rw [if_neg q1, if_neg q2, if_neg q3]
    · unfold xConN xConG; rw [if_neg q1, if_neg q2, if_neg q3, if_neg q1, if_neg q2, if_neg q3]
  · have q3 : a < 0 := Int32.not_le.mp (of_decide_eq_false q3)
    refine xp_step rfl ?_
    refine xp_ref hB (i := 0) (k := 5) (q := 250) (by decide) rfl (by decide) rfl ?_
    refine xp_step rfl ?_
    refine xp_step rfl ?_
    refine xp_step rfl ?_
    refine xp_ref hB (i := 0) (k := 0) (q := 1) (by decide) rfl (by decide) rfl ?_
    refine xp_step rfl ?_
    refine xp_step rfl ?_
    refine xp_step rfl ?_
    refine xp_virt (i := 1) hB (by decide) rfl rfl (Nat.le_of_ble_eq_true rfl) rfl (xR_up (by decide) (xs_detail hB (show 1 ∈ xRbs by decide) _ _)) ?_
    refine xp_step rfl ?_
    refine xp_step rfl ?_
    refine xp_virt (i := 250) hB (by decide) rfl rfl (Nat.le_of_ble_eq_true rfl) rfl (xR_up (by decide) (xs_keep hB (-a) (xfDet N 1 (-a) v) 0 0)) ?_
    refine xp_new (E := 2) (h1 := xHn pre B (xNden N (-a) (xfDet N 1 (-a) v) 0 0) C L g) rfl (by rw [xHn_len hB]; exact hg) ⟨fun v q => (nomatch q), ?_, ?_⟩
    · rw [xHn_len hB]; unfold xConR; rw [if_neg q1, if_neg q2, if_pos q3]
    · rw [xHn_app]; unfold xConN xConG; rw [if_neg q1, if_neg q2, if_pos q3, if_neg q1, if_neg q2, if_pos q3]; rfl
theorem xs_fail (hB : xBok pre B) {j : Nat} (hj : j < 16) (i a : Int32) (hx : xwin (xNfail N i (N (234 + j) 2) a 58 1) 0 8 = true) (hr : xrul (xNfail N i (N (234 + j) 2) a) (60 + 19 * xNx (xNfail N i (N (234 + j) 2) a))) : xRn K Z 4 111 [.ref (B + 0), .int i, .ref (B + (234 + j)), .int a] (xHn pre B N C L g) (.ok none) (xHn pre B (xNcopy (xNfail N i (N (234 + j) 2) a) 1 (60 + 19 * xNx (xNfail N i (N (234 + j) 2) a))) C L g) := by
  obtain ⟨c1, c2, c3⟩ := xcm_cell j hj
  have hr1 := xrb_river 1 (by decide)
  refine xRp_eq (xRp_of (m := (yX9_failCommand, cX9_failCommand, 5, none, [], [], xcX9_failCommand)) rfl (by show 4 ≤ 5; decide) ?_)
  show xBp K Z 3 5 [] xcX9_failCommand xcX9_failCommand [(0, .ref (B + 0)), (1, .int i), (2, .ref (B + (234 + j))), (3, .int a)] [] _ _
  have fin : ∀ l4 : xL, xNfail N i (N (234 + j) 2) a = xNfail N i (N (234 + j) 2) a → xBp K Z 3 5 [] xcX9_failCommand (xseek xcX9_failCommand 55) [(0, .ref (B + 0))] [] (xHn pre B (xNfail N i (N (234 + j) 2) a) C L g) (fun r h' => (∀ v, r = .ok v → xrfit none v = true) ∧ r = .ok none ∧ h' = xHn pre B (xNcopy (xNfail N i (N (234 + j) 2) a) 1 (60 + 19 * xNx (xNfail N i (N (234 + j) 2) a))) C L g) := by
    intro _ _
    refine xp_step rfl ?_
    refine xp_ref hB (i := 0) (k := 3) (q := 58) (by decide) rfl (by decide) rfl ?_
    refine xp_step rfl ?_
    refine xp_ref hB (i := 0) (k := 0) (q := 1) (by decide) rfl (by decide) rfl ?_
    refine xp_virt (i := 58) hB (by decide) rfl rfl (Nat.le_of_ble_eq_true rfl) rfl (xs_putBack hB hx hr) ?_
    exact xp_ret rfl ⟨fun v q => by cases q; rfl, rfl, rfl⟩
  have bad : a = -11 ∨ a = -12 → xBp K Z 3 5 [] xcX9_failCommand (xseek xcX9_failCommand 12) [(0, .ref (B + 0)), (1, .int i), (2, .ref (B + (234 + j))), (3, .int a)] [] (xHn pre B N C L g) (fun r h' => (∀ v, r = .ok v → xrfit none v = true) ∧ r = .ok none ∧ h' = xHn pre B (xNcopy (xNfail N i (N (234 + j) 2) a) 1 (60 + 19 * xNx (xNfail N i (N (234 + j) 2) a))) C L g) := by
    intro hb
    have e : xNfail N i (N (234 + j) 2) a = xNden N 5 i 6 0 := if_pos hb
    have fin := fin [] rfl
    rw [e] at fin ⊢
    refine xp_step rfl ?_
    refine xp_ref hB (i := 0) (k := 5) (q := 250) (by decide) rfl (by decide) rfl ?_
    refine xp_step rfl ?_
    refine xp_step rfl ?_
    refine xp_step rfl ?_
    refine xp_step rfl ?_
    refine xp_virt (i := 250) hB (by decide) rfl rfl (Nat.le_of_ble_eq_true rfl) rfl (xR_up (by decide) (xs_keep hB 5 i 6 0)) ?_
    refine xp_jump rfl ?_
    refine xp_weak ?_ fin
    exact xLe_cons rfl xLe_nil
  refine xp_step rfl ?_
  refine xp_step rfl ?_
  refine xp_if2 rfl (fun q1 => bad (Or.inl (by simpa [xic] using q1))) (fun q1 => ?_)
  refine xp_step rfl ?_
  refine xp_step rfl ?_
  refine xp_if2 rfl (fun q2 => ?_) (fun q2 => bad (Or.inr (by simpa [xic] using q2)))
  have hb : ¬ (a = -11 ∨ a = -12) := by
    rintro (h | h)
    · have : ¬ a = -11 := by simpa [xic] using q1
      exact this h
    · have : ¬ a = -12 := by simpa [xic] using q2
      exact this h
  have e : xNfail N i (N (234 + j) 2) a = xNden N 5 i (-a) (xfDet N 1 (-a) (N (234 + j) 2)) := if_neg hb
  have fin := fin [] rfl
  rw [e] at fin ⊢
  refine xp_step rfl ?_
  refine xp_ref hB (i := 0) (k := 0) (q := 1) (by decide) rfl (by decide) rfl ?_
  refine xp_step rfl ?_
  refine xp_step rfl ?_
  refine xp_step rfl ?_
  refine xp_get hB c2 c1 (by decide) (c3 _ (by decide) (by decide)) ?_
  refine xp_virt (i := 1) hB (by decide) rfl rfl (Nat.le_of_ble_eq_true rfl) rfl (xR_up (by decide) (xs_detail hB (show 1 ∈ xRbs by decide) _ _)) ?_
  refine xp_step rfl ?_
  refine xp_step rfl ?_
  refine xp_ref hB (i := 0) (k := 5) (q := 250) (by decide) rfl (by decide) rfl ?_
  refine xp_step rfl ?_
  refine xp_step rfl ?_
  refine xp_step rfl ?_
  refine xp_step rfl ?_
  refine xp_step rfl ?_
  refine xp_virt (i := 250) hB (by decide) rfl rfl (Nat.le_of_ble_eq_true rfl) rfl (xR_up (by decide) (xs_keep hB 5 i (-a) (xfDet N 1 (-a) (N (234 + j) 2)))) ?_
  refine xp_weak ?_ fin
  exact xLe_cons rfl xLe_nil
theorem xs_reqReach (hB : xBok pre B) (x : Int32) (hg : B + 253 + g.length < 1000000) : xRn K Z 2 113 [.ref (B + 0), .int x] (xHn pre B N C L g) (if xhas N 1 x = true then .ok none else .error (0, B + 253 + g.length)) (xHn pre B N C L (if xhas N 1 x = true then g else xgx g)) := by
  refine xRp_eq (xRp_of (m := (yX9_requireReach, cX9_requireReach, 2, none, [], [], xcX9_requireReach)) rfl (by show 2 ≤ 2; decide) ?_)
  show xBp K Z 1 2 [] xcX9_requireReach xcX9_requireReach [(0, .ref (B + 0)), (1, .int x)] [] _ _
  refine xp_step rfl ?_
  refine xp_ref hB (i := 0) (k := 0) (q := 1) (by decide) rfl (by decide) rfl ?_
  refine xp_step rfl ?_
  refine xp_virt (i := 1) hB (by decide) rfl rfl (Nat.le_of_ble_eq_true rfl) rfl (xs_has hB (show 1 ∈ xRbs by decide) x) ?_
  cases hb : xhas N 1 x with
  | true =>
    refine xp_jump rfl ?_
    exact xp_ret rfl ⟨fun v q => by cases q; rfl, rfl, rfl⟩
  | false =>
    refine xp_step rfl ?_
    refine xp_new (E := 0) (h1 := xHn pre B N C L g) rfl (by rw [xHn_len hB]; exact hg) ⟨fun v q => (nomatch q), ?_, ?_⟩
    · rw [xHn_len hB]; rfl
    · rw [xHn_app]; rfl
theorem xs_reqHours (hB : xBok pre B) (x : Int32) (hg : B + 253 + g.length < 1000000) : xRn K Z 2 114 [.int x] (xHn pre B N C L g) (if xwin x 0 48 = true then .ok none else .error (1, B + 253 + g.length)) (xHn pre B N C L (if xwin x 0 48 = true then g else xgx g)) := by
  refine xRp_eq (xRp_of (m := (yX9_requireForecastHours, cX9_requireForecastHours, 1, none, [], [], xcX9_requireForecastHours)) rfl (by show 1 ≤ 1; decide) ?_)
  show xBp K Z 1 1 [] xcX9_requireForecastHours xcX9_requireForecastHours [(0, .int x)] [] _ _
  refine xp_step rfl ?_
  refine xp_step rfl ?_
  refine xp_step rfl ?_
  refine xp_callR rfl (xs_within _ x 0 48) ?_
  cases hb : xwin x 0 48 with
  | true =>
    refine xp_jump rfl ?_
    exact xp_ret rfl ⟨fun v q => by cases q; rfl, rfl, rfl⟩
  | false =>
    refine xp_step rfl ?_
    refine xp_new (E := 1) (h1 := xHn pre B N C L g) rfl (by rw [xHn_len hB]; exact hg) ⟨fun v q => (nomatch q), ?_, ?_⟩
    · rw [xHn_len hB]; rfl
    · rw [xHn_app]; rfl
theorem xs_reqDenial (hB : xBok pre B) (x : Int32) (hg : B + 253 + g.length < 1000000) : xRn K Z 1 115 [.int x] (xHn pre B N C L g) (if x = 0 then .error (3, B + 253 + g.length) else .ok none) (xHn pre B N C L (if x = 0 then xgx g else g)) := by
  refine xRp_eq (xRp_of (m := (yX9_requireDenial, cX9_requireDenial, 1, none, [], [], xcX9_requireDenial)) rfl (by show 1 ≤ 1; decide) ?_)
  show xBp K Z 0 1 [] xcX9_requireDenial xcX9_requireDenial [(0, .int x)] [] _ _
  refine xp_step rfl ?_
  refine xp_if1 rfl (fun q1 => ?_) (fun q1 => ?_)
  · have q1 : ¬ x = 0 := by simpa [xic] using q1
    refine xp_ret rfl ⟨fun v q => by cases q; rfl, ?_, ?_⟩
    · rw [if_neg q1]
    · rw [if_neg q1]
  · have q1 : x = 0 := by simpa [xic] using q1
    refine xp_new (E := 3) (h1 := xHn pre B N C L g) rfl (by rw [xHn_len hB]; exact hg) ⟨fun v q => (nomatch q), ?_, ?_⟩
    · rw [xHn_len hB, if_pos q1]
    · rw [xHn_app, if_pos q1]; rfl
end XCN2
