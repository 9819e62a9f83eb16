/-! CONSTANTS LEFT OPEN: a run that never looks into a constant is a run whatever it holds -/
def xKle (K' K : List (Nat × List Value)) : Prop := ∀ (i c : Nat) (vs : List Value), K'[i]? = some (c, vs) → (c = 41 ∧ vs = []) ∨ K[i]? = some (c, vs)
def xZle (Z' Z : List Value) : Prop := ∀ (j : Nat) (v : Value), Z'[j]? = some v → Z[j]? = some v
def xno41 (e : xE) : Bool := match e.2.1 with
  | .invokevirtual _ => match e.2.2.2 with
    | k :: _ :: _ :: _ :: rc :: _ => !decide (xrc k rc = 41)
    | _ => true
  | _ => true
section XKL
variable {K' K : List (Nat × List Value)} {Z' Z : List Value} {nL : Nat} {loc : xL} {st : List Value} {h : xH} {o : xO}
theorem xKle_cell (hK : xKle K' K) {a c : Nat} {vs : List Value} (hc : xcell K' h a = some (c, vs)) : (c = 41 ∧ vs = []) ∨ xcell K h a = some (c, vs) := by
  unfold xcell at hc ⊢
  cases hd : decide (a < 1000000) with
  | true => rw [hd] at hc; exact Or.inr hc
  | false => rw [hd] at hc; exact hK _ _ _ hc
theorem xkl_getf (hK : xKle K' K) {ci k : Nat} (hs : xgetf K' ci k loc st h = some o) : xgetf K ci k loc st h = some o := by
  unfold xgetf at hs ⊢
  split at hs
  · split at hs
    · rename_i c vs hc
      try dsimp only
      rcases xKle_cell hK hc with ⟨rfl, rfl⟩ | h2
      · split at hs
        · simp at hs
        · cases hs
      · rw [h2]
        exact hs
    · cases hs
  · cases hs
theorem xkl_ald (hK : xKle K' K) {p : Value → Bool} {t : Nat → Nat → Bool} (hs : xald K' p t loc st h = some o) : xald K p t loc st h = some o := by
  unfold xald at hs ⊢
  split at hs
  · split at hs
    · rename_i c vs hc
      try dsimp only
      rcases xKle_cell hK hc with ⟨rfl, rfl⟩ | h2
      · simp at hs
      · rw [h2]
        exact hs
    · cases hs
  · cases hs
theorem xkl_alen (hK : xKle K' K) (hs : xalen K' loc st h = some o) : xalen K loc st h = some o := by
  unfold xalen at hs ⊢
  split at hs
  · split at hs
    · rename_i c vs hc
      try dsimp only
      rcases xKle_cell hK hc with ⟨rfl, rfl⟩ | h2
      · simp at hs
      · rw [h2]
        exact hs
    · cases hs
  · cases hs
theorem xkl_copy (hK : xKle K' K) (hs : xcopy K' loc st h = some o) : xcopy K loc st h = some o := by
  unfold xcopy at hs ⊢
  split at hs
  · split at hs
    · rename_i h1
      split at hs
      · rename_i c g d f hg hc
        try dsimp only
        try rw [h1]
        try dsimp only
        rcases xKle_cell hK hc with ⟨rfl, rfl⟩ | h2
        · simp at hs
        · rw [hg, h2]
          exact hs
      · cases hs
    · cases hs
  · cases hs
theorem xkl_rcv (hK : xKle K' K) {n rc : Nat} (hrc : rc ≠ 41) (hs : xrcv K' h st n rc = true) : xrcv K h st n rc = true := by
  unfold xrcv at hs ⊢
  split at hs
  · split at hs
    · rename_i c vs hc
      try dsimp only
      rcases xKle_cell hK hc with ⟨rfl, rfl⟩ | h2
      · exact absurd (of_decide_eq_true hs).symm hrc
      · rw [h2]
        exact hs
    · cases hs
  · cases hs
theorem xkl_gets (hZ : xZle Z' Z) {j : Nat} (hs : xgets Z' j loc st h = some o) : xgets Z j loc st h = some o := by
  unfold xgets at hs ⊢
  split at hs
  · rename_i v hv
    rw [hZ _ _ hv]
    exact hs
  · cases hs
theorem xkl_virt (hK : xKle K' K) {aux : List Nat} (hno : (match aux with
    | k :: _ :: _ :: _ :: rc :: _ => !decide (xrc k rc = 41)
    | _ => true) = true) (hs : xvirt K' loc st h aux = some o) : xvirt K loc st h aux = some o := by
  unfold xvirt at hs ⊢
  split at hs
  · rename_i k r
    try dsimp only
    split at hs
    · rename_i h9
      exact hs
    · rename_i h9
      split at hs
      · rename_i mi n I rc r2
        try dsimp only at hno ⊢
        split at hs
        · rename_i hr
          rw [xkl_rcv hK (by simpa using hno) hr]
          exact hs
        · cases hs
      · cases hs
  · cases hs
theorem xkl_stat (hK : xKle K' K) {aux : List Nat} (hs : xstat K' loc st h aux = some o) : xstat K loc st h aux = some o := by
  unfold xstat at hs ⊢
  split at hs
  · try dsimp only
    split at hs
    · rename_i h8
      exact xkl_copy hK hs
    · exact hs
  · cases hs
theorem xkl_spec (hK : xKle K' K) {aux : List Nat} (hs : xspec K' loc st h aux = some o) : xspec K loc st h aux = some o := by
  unfold xspec at hs ⊢
  split at hs
  · rename_i k r
    try dsimp only
    split at hs
    · exact hs
    · unfold xa2 at hs ⊢
      split at hs
      · rename_i ax a9 n9 tl9
        try dsimp only at hs ⊢
        split at hs
        · rename_i hq
          have hq2 : (xrf st n9 && (!decide (k = 4) || xrcv K h st n9 1)) = true := by
            simp only [Bool.and_eq_true, Bool.or_eq_true] at hq ⊢
            exact ⟨hq.1, hq.2.imp id (fun q => xkl_rcv hK (by decide) q)⟩
          rw [hq2]
          exact hs
        · cases hs
      · cases hs
  · cases hs
theorem xkl_a2 {aux : List Nat} {f g : Nat → Nat → Option xO} (hfg : ∀ a b, f a b = some o → g a b = some o) (hs : xa2 aux f = some o) : xa2 aux g = some o := by
  unfold xa2 at hs ⊢
  split at hs
  · exact hfg _ _ hs
  · cases hs
theorem xkl_a1 {aux : List Nat} {f g : Nat → Option xO} (hfg : ∀ a, f a = some o → g a = some o) (hs : xa1 aux f = some o) : xa1 aux g = some o := by
  unfold xa1 at hs ⊢
  split at hs
  · exact hfg _ hs
  · cases hs
theorem xstep_K (hK : xKle K' K) (hZ : xZle Z' Z) {e : xE} (hno : xno41 e = true) (hs : xstep nL K' Z' e loc st h = some o) : xstep nL K Z e loc st h = some o := by
  obtain ⟨pc, i, ln, aux⟩ := e
  cases i
  case newarray t0 => cases t0 <;> exact hs
  all_goals first
    | exact hs
    | exact xkl_ald hK hs
    | exact xkl_alen hK hs
    | exact xkl_virt hK hno hs
    | exact xkl_stat hK hs
    | exact xkl_spec hK hs
    | exact xkl_a2 (fun _ _ => xkl_getf hK) hs
    | exact xkl_a1 (fun _ => xkl_gets hZ) hs
    | (unfold xstep at hs ⊢; dsimp only at hs ⊢; exact xkl_ald hK hs)
end XKL
theorem xev_K {K' K : List (Nat × List Value)} {Z' Z : List Value} (hK : xKle K' K) (hZ : xZle Z' Z) {c1 c2 : Nat → List Value → xH → Option (xA × xH)} (hc : ∀ mi as h x, c1 mi as h = some x → c2 mi as h = some x) {nL : Nat} {hs : List (Nat × Nat × Nat × Nat)} {code : List xE} (hno : ∀ e ∈ code, xno41 e = true) : ∀ (k : Nat) (cs : List xE) (loc : xL) (st : List Value) (h : xH) (x : xA × xH), (∀ e ∈ cs, e ∈ code) → xev c1 nL K' Z' hs code k cs loc st h = some x → xev c2 nL K Z hs code k cs loc st h = some x := by
  intro k
  induction k with
  | zero => intro cs loc st h x _ hx; cases hx
  | succ k ih =>
    intro cs loc st h x hm hx
    cases cs with
    | nil => cases hx
    | cons e cs =>
      have hm2 : ∀ f ∈ cs, f ∈ code := fun f hf => hm f (List.mem_cons_of_mem _ hf)
      rw [xev] at hx ⊢
      cases hq : xstep nL K' Z' e loc st h with
      | none => rw [hq] at hx; cases hx
      | some o =>
        rw [hq] at hx
        rw [xstep_K hK hZ (hno e (hm e List.mem_cons_self)) hq]
        rcases o with ⟨t, l, s, hh⟩ | ⟨mi, a, l, s, hh⟩ | x0
        · cases t with
          | none => exact ih _ _ _ _ _ hm2 hx
          | some t => exact ih _ _ _ _ _ (xseek_spec t code).1 hx
        · dsimp only at hx ⊢
          cases hcl : c1 mi a hh with
          | none => rw [hcl] at hx; cases hx
          | some y =>
            rw [hcl] at hx
            rw [hc _ _ _ _ hcl]
            obtain ⟨ya, yh⟩ := y
            cases ya with
            | ok v => exact ih _ _ _ _ _ hm2 hx
            | error q =>
              obtain ⟨E, q⟩ := q
              dsimp only at hx ⊢
              cases hmm : xmay e with
              | false => rw [hmm] at hx; cases hx
              | true =>
                rw [hmm] at hx
                dsimp only at hx ⊢
                cases hh2 : xhand hs e.1 E with
                | none => rw [hh2] at hx; exact hx
                | some t => rw [hh2] at hx; exact ih _ _ _ _ _ (xseek_spec t code).1 hx
        · rcases x0 with ⟨v, hh⟩ | ⟨E, hh⟩
          · exact hx
          · exact hx
theorem xMs_no41 : (xMs.all fun m => m.2.2.2.2.2.2.all xno41) = true := by decide +kernel
theorem xgo_K {K' K : List (Nat × List Value)} {Z' Z : List Value} (hK : xKle K' K) (hZ : xZle Z' Z) : ∀ (d f mi : Nat) (args : List Value) (h : xH) (x : xA × xH), xgo xMs K' Z' d f mi args h = some x → xgo xMs K Z d f mi args h = some x := by
  intro d
  induction d with
  | zero => intro f mi args h x hx; cases hx
  | succ d ih =>
    intro f mi args h x hx
    rw [xgo] at hx ⊢
    split at hx
    · cases hx
    · rename_i m hm
      have hno := List.all_eq_true.mp (List.all_eq_true.mp xMs_no41 m (List.mem_of_getElem? hm))
      split at hx
      · cases hx
      · rename_i hd
        cases hq : xev (xgo xMs K' Z' d f) m.2.2.1 K' Z' (xhs m) m.2.2.2.2.2.2 f m.2.2.2.2.2.2 (lv_args 0 args) [] h with
        | none => rw [hq] at hx; cases hx
        | some y =>
          rw [hq] at hx
          rw [xev_K hK hZ (fun mi as h x hx => ih f mi as h x hx) hno _ _ _ _ _ _ (fun e he => he) hq]
          exact hx
/-! MORE FUEL -/
theorem xev_up1 {call : Nat → List Value → xH → Option (xA × xH)} {nL : Nat} {K : List (Nat × List Value)} {Z : List Value} {hs : List (Nat × Nat × Nat × Nat)} {code : List xE} : ∀ (k : Nat) (cs : List xE) (loc : xL) (st : List Value) (h : xH) (x : xA × xH), xev call nL K Z hs code k cs loc st h = some x → xev call nL K Z hs code (k + 1) cs loc st h = some x := by
  intro k
  induction k with
  | zero => intro cs loc st h x hx; cases hx
  | succ k ih =>
    intro cs loc st h x hx
    cases cs with
    | nil => cases hx
    | cons e cs =>
      rw [xev] at hx ⊢
      cases hq : xstep nL K Z e loc st h with
      | none => rw [hq] at hx; cases hx
      | some o =>
        rw [hq] at hx
        rcases o with ⟨t, l, s, hh⟩ | ⟨mi, a, l, s, hh⟩ | x0
        · cases t with
          | none => exact ih _ _ _ _ _ hx
          | some t => exact ih _ _ _ _ _ hx
        · dsimp only at hx ⊢
          cases hcl : call mi a hh with
          | none => rw [hcl] at hx; cases hx
          | some y =>
            rw [hcl] at hx
            obtain ⟨ya, yh⟩ := y
            cases ya with
            | ok v => exact ih _ _ _ _ _ hx
            | error q =>
              obtain ⟨E, q⟩ := q
              dsimp only at hx ⊢
              cases hmm : xmay e with
              | false => rw [hmm] at hx; cases hx
              | true =>
                rw [hmm] at hx
                dsimp only at hx ⊢
                cases hh2 : xhand hs e.1 E with
                | none => rw [hh2] at hx; exact hx
                | some t => rw [hh2] at hx; exact ih _ _ _ _ _ hx
        · rcases x0 with ⟨v, hh⟩ | ⟨E, hh⟩
          · exact hx
          · exact hx
theorem xev_up {call : Nat → List Value → xH → Option (xA × xH)} {nL : Nat} {K : List (Nat × List Value)} {Z : List Value} {hs : List (Nat × Nat × Nat × Nat)} {code : List xE} {k k2 : Nat} (hk : k ≤ k2) {cs : List xE} {loc : xL} {st : List Value} {h : xH} {x : xA × xH} (hx : xev call nL K Z hs code k cs loc st h = some x) : xev call nL K Z hs code k2 cs loc st h = some x := by
  induction hk with
  | refl => exact hx
  | step _ ih => exact xev_up1 _ _ _ _ _ _ ih
theorem xgo_fuel {K : List (Nat × List Value)} {Z : List Value} : ∀ {d f f2 mi : Nat} {args : List Value} {h : xH} {x : xA × xH}, f ≤ f2 → xgo xMs K Z d f mi args h = some x → xgo xMs K Z d f2 mi args h = some x := by
  intro d
  induction d with
  | zero => intro f f2 mi args h x _ hx; cases hx
  | succ d ih =>
    intro f f2 mi args h x hf hx
    rw [xgo] at hx ⊢
    split at hx
    · cases hx
    · rename_i m hm
      split at hx
      · cases hx
      · rename_i hd
        cases hq : xev (xgo xMs K Z d f) m.2.2.1 K Z (xhs m) m.2.2.2.2.2.2 f m.2.2.2.2.2.2 (lv_args 0 args) [] h with
        | none => rw [hq] at hx; cases hx
        | some y =>
          rw [hq] at hx
          rw [xev_up hf (xev_mono (fun mi as h x hx => ih hf hx) _ _ _ _ _ _ hq)]
          exact hx
/-! A PIECE OF A BODY, run to a place where its stack is empty -/
def xrs (call : Nat → List Value → xH → Option (xA × xH)) (nL : Nat) (K : List (Nat × List Value)) (Z : List Value) (code : List xE) : Nat → List xE → xL → List Value → xH → Option (List xE × xL × xH)
  | 0, cs, loc, [], h => some (cs, loc, h)
  | 0, _, _, _ :: _, _ => none
  | _ + 1, [], _, _, _ => none
  | n + 1, e :: cs, loc, st, h => match xstep nL K Z e loc st h with
    | some (.inl (none, loc, st, h)) => xrs call nL K Z code n cs loc st h
    | some (.inl (some t, loc, st, h)) => xrs call nL K Z code n (xseek code t) loc st h
    | some (.inr (.inl (mi, args, loc, st, h))) => match call mi args h with
      | some (.ok v, h) => xrs call nL K Z code n cs loc (v.toList ++ st) h
      | _ => none
    | _ => none
theorem xseek_suf (t : Nat) : ∀ code : List xE, xseek code t <:+ code := by
  intro code
  induction code with
  | nil => exact List.suffix_refl _
  | cons e r ih =>
    rw [xseek]
    split
    · exact List.suffix_refl _
    · exact ih.trans (List.suffix_cons _ _)
section XRS
variable {K' K : List (Nat × List Value)} {Z' Z : List Value} {d f nL : Nat} {code : List xE} {r : xA} {hf : xH} {hs : List (Nat × Nat × Nat × Nat)}
theorem xrs_run (hK : xKle K' K) (hZ : xZle Z' Z) (hno : ∀ e ∈ code, xno41 e = true) : ∀ (n : Nat) (cs : List xE) (loc : xL) (st : List Value) (h : xH) (cs' : List xE) (loc' : xL) (h' : xH), cs <:+ code → xrs (xgo xMs K' Z' d f) nL K' Z' code n cs loc st h = some (cs', loc', h') → cs' <:+ code ∧ (xBd K Z d nL hs code cs' loc' [] h' r hf → xBd K Z d nL hs code cs loc st h r hf) := by
  intro n
  induction n with
  | zero =>
    intro cs loc st h cs' loc' h' hsf hx
    cases st with
    | nil => rw [xrs] at hx; cases hx; exact ⟨hsf, id⟩
    | cons v st => rw [xrs] at hx; cases hx
  | succ n ih =>
    intro cs loc st h cs' loc' h' hsf hx
    cases cs with
    | nil => rw [xrs] at hx; cases hx
    | cons e cs =>
      have hsf2 : cs <:+ code := (List.suffix_cons e cs).trans hsf
      have he := hno e (hsf.subset List.mem_cons_self)
      rw [xrs] at hx
      cases hq : xstep nL K' Z' e loc st h with
      | none => rw [hq] at hx; cases hx
      | some o =>
        rw [hq] at hx
        have hq2 := xstep_K hK hZ he hq
        rcases o with ⟨t, l, s, hh⟩ | ⟨mi, a, l, s, hh⟩ | x0
        · cases t with
          | none =>
            obtain ⟨a1, a2⟩ := ih _ _ _ _ _ _ _ hsf2 hx
            exact ⟨a1, fun hb => xB_step hq2 (a2 hb)⟩
          | some t =>
            obtain ⟨a1, a2⟩ := ih _ _ _ _ _ _ _ (xseek_suf t code) hx
            exact ⟨a1, fun hb => xB_jump hq2 (a2 hb)⟩
        · dsimp only at hx
          cases hcl : xgo xMs K' Z' d f mi a hh with
          | none => rw [hcl] at hx; cases hx
          | some y =>
            rw [hcl] at hx
            obtain ⟨ya, yh⟩ := y
            cases ya with
            | error q => cases hx
            | ok v =>
              obtain ⟨a1, a2⟩ := ih _ _ _ _ _ _ _ hsf2 hx
              refine ⟨a1, fun hb => xB_call hq2 ⟨f, fun f2 hf2 => ?_⟩ (a2 hb)⟩
              exact xgo_fuel hf2 (xgo_K hK hZ _ _ _ _ _ _ hcl)
        · cases hx
end XRS
