/-! A CALCULUS OF ABSTRACT RUNS: enough fuel, whatever it is -/
def xBd (K : List (Nat × List Value)) (Z : List Value) (d nL : Nat) (hs : List (Nat × Nat × Nat × Nat)) (code cs : List xE) (loc : xL) (st : List Value) (h : xH) (r : xA) (h' : xH) : Prop :=
  ∃ n0, ∀ f k, n0 ≤ f → n0 ≤ k → xev (xgo xMs K Z d f) nL K Z hs code k cs loc st h = some (r, h')
def xRn (K : List (Nat × List Value)) (Z : List Value) (d mi : Nat) (args : List Value) (h : xH) (r : xA) (h' : xH) : Prop :=
  ∃ n0, ∀ f, n0 ≤ f → xgo xMs K Z d f mi args h = some (r, h')
section XBC
variable {K : List (Nat × List Value)} {Z : List Value} {d nL : Nat} {hs : List (Nat × Nat × Nat × Nat)} {code cs : List xE} {e : xE} {loc loc1 : xL} {st st1 : List Value} {h h1 h2 h' : xH} {r : xA} {mi : Nat} {args : List Value} {v : Option Value}
theorem xB_step (hs1 : xstep nL K Z e loc st h = some (.inl (none, loc1, st1, h1))) (hb : xBd K Z d nL hs code cs loc1 st1 h1 r h') : xBd K Z d nL hs code (e :: cs) loc st h r h' := by
  obtain ⟨n0, hn⟩ := hb
  refine ⟨n0 + 1, fun f k hf hk => ?_⟩
  obtain ⟨k, rfl⟩ : ∃ j, k = j + 1 := ⟨k - 1, by omega⟩
  rw [xev, hs1]
  exact hn f k (by omega) (by omega)
theorem xB_jump {t : Nat} (hs1 : xstep nL K Z e loc st h = some (.inl (some t, loc1, st1, h1))) (hb : xBd K Z d nL hs code (xseek code t) loc1 st1 h1 r h') : xBd K Z d nL hs code (e :: cs) loc st h r h' := by
  obtain ⟨n0, hn⟩ := hb
  refine ⟨n0 + 1, fun f k hf hk => ?_⟩
  obtain ⟨k, rfl⟩ : ∃ j, k = j + 1 := ⟨k - 1, by omega⟩
  rw [xev, hs1]
  exact hn f k (by omega) (by omega)
theorem xB_call (hs1 : xstep nL K Z e loc st h = some (.inr (.inl (mi, args, loc1, st1, h1)))) (hc : xRn K Z d mi args h1 (.ok v) h2) (hb : xBd K Z d nL hs code cs loc1 (v.toList ++ st1) h2 r h') : xBd K Z d nL hs code (e :: cs) loc st h r h' := by
  obtain ⟨n0, hn⟩ := hb
  obtain ⟨n1, hn1⟩ := hc
  refine ⟨n0 + n1 + 1, fun f k hf hk => ?_⟩
  obtain ⟨k, rfl⟩ : ∃ j, k = j + 1 := ⟨k - 1, by omega⟩
  rw [xev, hs1]
  dsimp only
  rw [hn1 f (by omega)]
  exact hn f k (by omega) (by omega)
theorem xB_catch {E q t : Nat} (hs1 : xstep nL K Z e loc st h = some (.inr (.inl (mi, args, loc1, st1, h1)))) (hc : xRn K Z d mi args h1 (.error (E, q)) h2) (hm : xmay e = true) (hh : xhand hs e.1 E = some t) (hb : xBd K Z d nL hs code (xseek code t) loc1 [.ref q] h2 r h') : xBd K Z d nL hs code (e :: cs) loc st h r h' := by
  obtain ⟨n0, hn⟩ := hb
  obtain ⟨n1, hn1⟩ := hc
  refine ⟨n0 + n1 + 1, fun f k hf hk => ?_⟩
  obtain ⟨k, rfl⟩ : ∃ j, k = j + 1 := ⟨k - 1, by omega⟩
  rw [xev, hs1]
  dsimp only
  rw [hn1 f (by omega)]
  dsimp only
  rw [hm]
  dsimp only
  rw [hh]
  exact hn f k (by omega) (by omega)
theorem xB_pass {E q : Nat} (hs1 : xstep nL K Z e loc st h = some (.inr (.inl (mi, args, loc1, st1, h1)))) (hc : xRn K Z d mi args h1 (.error (E, q)) h2) (hm : xmay e = true) (hh : xhand hs e.1 E = none) : xBd K Z d nL hs code (e :: cs) loc st h (.error (E, q)) h2 := by
  obtain ⟨n1, hn1⟩ := hc
  refine ⟨n1 + 1, fun f k hf hk => ?_⟩
  obtain ⟨k, rfl⟩ : ∃ j, k = j + 1 := ⟨k - 1, by omega⟩
  rw [xev, hs1]
  dsimp only
  rw [hn1 f (by omega)]
  dsimp only
  rw [hm]
  dsimp only
  rw [hh]
theorem xB_ret (hs1 : xstep nL K Z e loc st h = some (.inr (.inr (.inl (v, h1))))) : xBd K Z d nL hs code (e :: cs) loc st h (.ok v) h1 := by
  refine ⟨1, fun f k hf hk => ?_⟩
  obtain ⟨k, rfl⟩ : ∃ j, k = j + 1 := ⟨k - 1, by omega⟩
  rw [xev, hs1]
theorem xB_new {E : Nat} (hs1 : xstep nL K Z e loc st h = some (.inr (.inr (.inr (E, h1))))) (hl : h1.length < 1000000) : xBd K Z d nL hs code (e :: cs) loc st h (.error (E, h1.length)) (h1 ++ [(40, List.replicate 6 .null)]) := by
  refine ⟨1, fun f k hf hk => ?_⟩
  obtain ⟨k, rfl⟩ : ∃ j, k = j + 1 := ⟨k - 1, by omega⟩
  rw [xev, hs1]
  dsimp only
  rw [decide_eq_true hl]
/-- a method out of its body -/
theorem xR_of {m : xMi} (hm : xMs[mi]? = some m) (ha : (args.map fun v => v.category).sum ≤ m.2.2.1) (hb : xBd K Z d m.2.2.1 (xhs m) m.2.2.2.2.2.2 m.2.2.2.2.2.2 (lv_args 0 args) [] h r h') (hr : ∀ v, r = .ok v → xrfit m.2.2.2.1 v = true) : xRn K Z (d + 1) mi args h r h' := by
  obtain ⟨n0, hn⟩ := hb
  refine ⟨n0, fun f hf => ?_⟩
  rw [xgo, hm]
  dsimp only
  rw [decide_eq_true ha]
  dsimp only
  rw [hn f f hf hf]
  cases r with
  | error q => rfl
  | ok v =>
    dsimp only
    rw [hr v rfl]
theorem xev_mono {c1 c2 : Nat → List Value → xH → Option (xA × xH)} (hc : ∀ mi as h x, c1 mi as h = some x → c2 mi as h = some x) : ∀ (k : Nat) (cs : List xE) (loc : xL) (st : List Value) (h : xH) (x : xA × xH), xev c1 nL K Z hs code k cs loc st h = some x → xev c2 nL K Z hs code k cs loc st h = some x := by
  intro k
  induction k with
  | zero => intro cs loc st h x hx; cases hx
  | succ k ih =>
    intro cs loc st h x hx
    cases cs with
    | nil => cases hx
    | cons e cs =>
      rw [xev] at hx ⊢
      split at hx
      · cases hx
      · exact ih _ _ _ _ _ hx
      · exact ih _ _ _ _ _ hx
      · rename_i mi as loc1 st1 h1 hs1
        cases hq : c1 mi as h1 with
        | none => rw [hq] at hx; cases hx
        | some y =>
          rw [hq] at hx
          rw [hc _ _ _ _ hq]
          obtain ⟨ya, yh⟩ := y
          cases ya with
          | ok v => exact ih _ _ _ _ _ hx
          | error q =>
            obtain ⟨E, q⟩ := q
            dsimp only at hx ⊢
            cases hm : xmay e with
            | false => rw [hm] at hx; cases hx
            | true =>
              rw [hm] at hx
              dsimp only at hx ⊢
              cases hh : xhand hs e.1 E with
              | none => rw [hh] at hx; exact hx
              | some t => rw [hh] at hx; exact ih _ _ _ _ _ hx
      · exact hx
      · exact hx
theorem xgo_mono : ∀ (d f mi : Nat) (args : List Value) (h : xH) (x : xA × xH), xgo xMs K Z d f mi args h = some x → xgo xMs K Z (d + 1) f mi args h = some x := by
  intro d
  induction d with
  | zero => intro f mi args h x hx; cases hx
  | succ d ih =>
    intro f mi args h x hx
    rw [xgo] at hx ⊢
    split at hx
    · cases hx
    · rename_i m hm
      split at hx
      · cases hx
      · rename_i hd
        cases hq : xev (xgo xMs K Z d f) m.2.2.1 K Z (xhs m) m.2.2.2.2.2.2 f m.2.2.2.2.2.2 (lv_args 0 args) [] h with
        | none => rw [hq] at hx; cases hx
        | some y =>
          rw [hq] at hx
          rw [xev_mono (fun mi as h x hx => ih f mi as h x hx) _ _ _ _ _ _ hq]
          exact hx
theorem xR_up {d' : Nat} (hd : d ≤ d') (hr : xRn K Z d mi args h r h') : xRn K Z d' mi args h r h' := by
  induction hd with
  | refl => exact hr
  | step _ ih =>
    obtain ⟨n0, hn⟩ := ih
    exact ⟨n0, fun f hf => xgo_mono _ f mi args h _ (hn f hf)⟩
end XBC
/-- THE LAW'S CLAIM, out of a run in the calculus -/
theorem xpure_of {xs : List Int32} {z : Value} {d : Nat} {hf : xH} (hd : d ≤ 2039) (hb : xBd (xK xs) (xZ z) d 11 [] xcL_law xcL_law [(0, .ref 1000000)] [] [] (.ok (some (.int 1))) hf) (h1 : hf.length ≤ 688064) (h2 : xsz hf ≤ 7027135) :
    ∃ (d n : Nat) (hf : xH), d ≤ 2039 ∧ xev (xgo xMs (xK xs) (xZ z) d n) 11 (xK xs) (xZ z) [] xcL_law n xcL_law [(0, .ref 1000000)] [] [] = some (.ok (some (.int 1)), hf) ∧ hf.length ≤ 688064 ∧ xsz hf ≤ 7027135 := by
  obtain ⟨n0, hn⟩ := hb
  exact ⟨d, n0, hf, hd, hn n0 n0 (Nat.le_refl _) (Nat.le_refl _), h1, h2⟩
