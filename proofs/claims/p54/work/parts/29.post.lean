/-! THE CALCULUS WITH A POSTCONDITION -/
def xBp (K : List (Nat × List Value)) (Z : List Value) (d nL : Nat) (hs : List (Nat × Nat × Nat × Nat)) (code cs : List xE) (loc : xL) (st : List Value) (h : xH) (P : xA → xH → Prop) : Prop := ∃ r h', xBd K Z d nL hs code cs loc st h r h' ∧ P r h'
def xRp (K : List (Nat × List Value)) (Z : List Value) (d mi : Nat) (args : List Value) (h : xH) (P : xA → xH → Prop) : Prop := ∃ r h', xRn K Z d mi args h r h' ∧ P r h'
section XPC
variable {K : List (Nat × List Value)} {Z : List Value} {d nL : Nat} {hs : List (Nat × Nat × Nat × Nat)} {code cs : List xE} {e : xE} {loc loc1 : xL} {st st1 : List Value} {h h1 : xH} {P Q : xA → xH → Prop} {mi : Nat} {args : List Value} {v : Option Value}
theorem xp_step (hs1 : xstep nL K Z e loc st h = some (.inl (none, loc1, st1, h1))) (hb : xBp K Z d nL hs code cs loc1 st1 h1 P) : xBp K Z d nL hs code (e :: cs) loc st h P := by
  obtain ⟨r, h', hb, hp⟩ := hb
  exact ⟨r, h', xB_step hs1 hb, hp⟩
theorem xp_jump {t : Nat} (hs1 : xstep nL K Z e loc st h = some (.inl (some t, loc1, st1, h1))) (hb : xBp K Z d nL hs code (xseek code t) loc1 st1 h1 P) : xBp K Z d nL hs code (e :: cs) loc st h P := by
  obtain ⟨r, h', hb, hp⟩ := hb
  exact ⟨r, h', xB_jump hs1 hb, hp⟩
theorem xp_ret (hs1 : xstep nL K Z e loc st h = some (.inr (.inr (.inl (v, h1))))) (hp : P (.ok v) h1) : xBp K Z d nL hs code (e :: cs) loc st h P := ⟨_, _, xB_ret hs1, hp⟩
theorem xp_new {E : Nat} (hs1 : xstep nL K Z e loc st h = some (.inr (.inr (.inr (E, h1))))) (hl : h1.length < 1000000) (hp : P (.error (E, h1.length)) (h1 ++ [(40, List.replicate 6 .null)])) : xBp K Z d nL hs code (e :: cs) loc st h P := ⟨_, _, xB_new hs1 hl, hp⟩
/-- a call, by what is known of its end: it returns, or throws, here caught or not -/
theorem xp_call (hs1 : xstep nL K Z e loc st h = some (.inr (.inl (mi, args, loc1, st1, h1)))) (hc : xRp K Z d mi args h1 Q) (hm : ∀ E q h2, Q (.error (E, q)) h2 → xmay e = true)
    (k1 : ∀ v h2, Q (.ok v) h2 → xBp K Z d nL hs code cs loc1 (v.toList ++ st1) h2 P) (k2 : ∀ E q t h2, Q (.error (E, q)) h2 → xhand hs e.1 E = some t → xBp K Z d nL hs code (xseek code t) loc1 [.ref q] h2 P) (k3 : ∀ E q h2, Q (.error (E, q)) h2 → xhand hs e.1 E = none → P (.error (E, q)) h2) : xBp K Z d nL hs code (e :: cs) loc st h P := by
  obtain ⟨r, h2, hc, hq⟩ := hc
  cases r with
  | ok v =>
    obtain ⟨r, h', hb, hp⟩ := k1 v h2 hq
    exact ⟨r, h', xB_call hs1 hc hb, hp⟩
  | error x =>
    obtain ⟨E, q⟩ := x
    cases hh : xhand hs e.1 E with
    | some t =>
      obtain ⟨r, h', hb, hp⟩ := k2 E q t h2 hq hh
      exact ⟨r, h', xB_catch hs1 hc (hm E q h2 hq) hh hb, hp⟩
    | none => exact ⟨_, _, xB_pass hs1 hc (hm E q h2 hq) hh, k3 E q h2 hq hh⟩
/-- .. of a callee that only returns -/
theorem xp_callR {v : Option Value} {h2 : xH} (hs1 : xstep nL K Z e loc st h = some (.inr (.inl (mi, args, loc1, st1, h1)))) (hc : xRn K Z d mi args h1 (.ok v) h2) (hb : xBp K Z d nL hs code cs loc1 (v.toList ++ st1) h2 P) : xBp K Z d nL hs code (e :: cs) loc st h P := by
  obtain ⟨r, h', hb, hp⟩ := hb
  exact ⟨r, h', xB_call hs1 hc hb, hp⟩
theorem xp_if1 {pc ln t : Nat} {o : Int} {c : ClassFile.Cond} {aux : List Nat} {x : Int32} (ht : xtgt pc o = some t) (k1 : xic c x 0 = true → xBp K Z d nL hs code (xseek code t) loc st h P) (k2 : xic c x 0 = false → xBp K Z d nL hs code cs loc st h P) : xBp K Z d nL hs code ((pc, .ifCond c o, ln, aux) :: cs) loc (.int x :: st) h P := by
  cases hx : xic c x 0 with
  | true => exact xp_jump (show xbr (xic c x 0) pc o loc st h = _ by rw [hx]; unfold xbr; dsimp only; rw [ht]; rfl) (k1 hx)
  | false => exact xp_step (show xbr (xic c x 0) pc o loc st h = _ by rw [hx]; rfl) (k2 hx)
theorem xp_if2 {pc ln t : Nat} {o : Int} {c : ClassFile.Cond} {aux : List Nat} {x y : Int32} (ht : xtgt pc o = some t) (k1 : xic c x y = true → xBp K Z d nL hs code (xseek code t) loc st h P) (k2 : xic c x y = false → xBp K Z d nL hs code cs loc st h P) : xBp K Z d nL hs code ((pc, .if_icmp c o, ln, aux) :: cs) loc (.int y :: .int x :: st) h P := by
  cases hx : xic c x y with
  | true => exact xp_jump (show xbr (xic c x y) pc o loc st h = _ by rw [hx]; unfold xbr; dsimp only; rw [ht]; rfl) (k1 hx)
  | false => exact xp_step (show xbr (xic c x y) pc o loc st h = _ by rw [hx]; rfl) (k2 hx)
theorem xp_div {pc ln : Nat} {aux : List Nat} {x y : Int32} (hy : y ≠ 0) (hb : xBp K Z d nL hs code cs loc (.int (x / y) :: st) h P) : xBp K Z d nL hs code ((pc, .idiv, ln, aux) :: cs) loc (.int y :: .int x :: st) h P :=
  xp_step (show xiz (fun x y => x / y) loc (.int y :: .int x :: st) h = _ by unfold xiz; dsimp only; rw [decide_eq_false hy]; rfl) hb
theorem xRp_of {m : xMi} (hm : xMs[mi]? = some m) (ha : (args.map fun v => v.category).sum ≤ m.2.2.1) (hb : xBp K Z d m.2.2.1 (xhs m) m.2.2.2.2.2.2 m.2.2.2.2.2.2 (lv_args 0 args) [] h (fun r h' => (∀ v, r = .ok v → xrfit m.2.2.2.1 v = true) ∧ P r h')) : xRp K Z (d + 1) mi args h P := by
  obtain ⟨r, h', hb, hr, hp⟩ := hb
  exact ⟨r, h', xR_of hm ha hb hr, hp⟩
theorem xRp_eq {r : xA} {h' : xH} (hb : xRp K Z d mi args h (fun r1 h1 => r1 = r ∧ h1 = h')) : xRn K Z d mi args h r h' := by
  obtain ⟨r1, h1, hb, rfl, rfl⟩ := hb
  exact hb
end XPC
section XPN
variable {K : List (Nat × List Value)} {Z : List Value} {d nL : Nat} {hs : List (Nat × Nat × Nat × Nat)} {code cs : List xE} {loc : xL} {st : List Value} {P : xA → xH → Prop}
variable {pre g : xH} {B L i k : Nat} {N : Nat → Nat → Int32} {C : Nat → Nat} {x : Int32}
theorem xp_get {pc j ln ci t : Nat} {aux : List Nat} (hB : xBok pre B) (hi : i < 253) (hk : xKd i = (ci, t)) (hkt : k < t) (hn : xnu i k = true) (hb : xBp K Z d nL hs code cs loc (.int (N i k) :: st) (xHn pre B N C L g) P) : xBp K Z d nL hs code ((pc, .getfield j, ln, ci :: k :: aux) :: cs) loc (.ref (B + i) :: st) (xHn pre B N C L g) P := by
  obtain ⟨r, h', hb, hp⟩ := hb
  exact ⟨r, h', xn_get hB hi hk hkt hn hb, hp⟩
theorem xp_ref {pc j ln ci t q : Nat} {aux : List Nat} (hB : xBok pre B) (hi : i < 253) (hk : xKd i = (ci, t)) (hkt : k < t) (hn : xrf0 i k = some q) (hb : xBp K Z d nL hs code cs loc (.ref (B + q) :: st) (xHn pre B N C L g) P) : xBp K Z d nL hs code ((pc, .getfield j, ln, ci :: k :: aux) :: cs) loc (.ref (B + i) :: st) (xHn pre B N C L g) P := by
  obtain ⟨r, h', hb, hp⟩ := hb
  exact ⟨r, h', xn_ref hB hi hk hkt hn hb, hp⟩
theorem xp_put {pc j ln ci t : Nat} {aux : List Nat} (hB : xBok pre B) (hi : i < 253) (hk : xKd i = (ci, t)) (hkt : k < t) (hn : xnu i k = true) (hf : xfit (xFt ci k) (.int x) = true) (hb : xBp K Z d nL hs code cs loc st (xHn pre B (xupN N i k x) C L g) P) : xBp K Z d nL hs code ((pc, .putfield j, ln, ci :: k :: aux) :: cs) loc (.int x :: .ref (B + i) :: st) (xHn pre B N C L g) P := by
  obtain ⟨r, h', hb, hp⟩ := hb
  exact ⟨r, h', xn_put hB hi hk hkt hn hf hb, hp⟩
theorem xp_aald {pc ln ci t q : Nat} {aux : List Nat} {y : Int32} (hB : xBok pre B) (hi : i < 253) (hk : xKd i = (50 + ci, t)) (hci : 3 ≤ ci ∧ ci ≤ 6) (hy : xin y t = true) (hn : xrf0 i y.toNatClampNeg = some q) (hb : xBp K Z d nL hs code cs loc (.ref (B + q) :: st) (xHn pre B N C L g) P) : xBp K Z d nL hs code ((pc, .aaload, ln, aux) :: cs) loc (.int y :: .ref (B + i) :: st) (xHn pre B N C L g) P := by
  obtain ⟨r, h', hb, hp⟩ := hb
  exact ⟨r, h', xn_aald hB hi hk hci hy hn hb, hp⟩
end XPN
/-! reaches: status, and what begins and copies them -/
section XRM2
variable {K : List (Nat × List Value)} {Z : List Value} {pre g : xH} {B L : Nat} {N : Nat → Nat → Int32} {C : Nat → Nat}
theorem xs_status (hB : xBok pre B) {w r : Nat} (hw : w ∈ xRbs) (hr : r < 8) : xRn K Z 1 19 [.ref (B + (w + 3 + r))] (xHn pre B N C L g) (.ok (some (.int (xsta N (w + 3 + r))))) (xHn pre B N C L g) := by
  obtain ⟨k1, k2, k3⟩ := xrb_reach w hw r hr
  generalize w + 3 + r = i at k1 k2 k3
  refine xRp_eq (xRp_of (m := (yX6_statusNow, cX6_statusNow, 1, some .int, [], [], xcX6_statusNow)) rfl (Nat.le_refl _) ?_)
  show xBp K Z 0 1 [] xcX6_statusNow xcX6_statusNow [(0, .ref (B + i))] [] _ _
  repeat' (first
    | refine xp_get hB k2 k1 (by decide) (k3 _ (by decide)) ?_
    | refine xp_if2 rfl (fun _ => ?_) (fun _ => ?_)
    | refine xp_ret rfl ?_
    | refine xp_step rfl ?_
    | refine xp_jump rfl ?_)
  all_goals refine ⟨fun v q => by cases q; rfl, congrArg (fun x => Except.ok (some (Value.int x))) ?_, rfl⟩
  all_goals simp_all [xic, xsta]
  all_goals first | rfl | (intro q; exact absurd q (Int32.not_lt.mpr (by assumption)))
end XRM2
