/-! A RUN KEEPS TO PLACES THAT ARE THERE, AND ONLY GROWS -/
/-- what a run's end keeps to -/
def xgoodA (n : Nat × Nat) (r : xA) (h : xH) : Prop := match r with
  | .ok v => xok n h [] v.toList
  | .error (_, q) => q < 1000000 ∧ ∃ hb, h = hb ++ [(40, List.replicate 6 .null)] ∧ q = hb.length ∧ (n.1 ≤ hb.length ∧ xscH hb) ∧ xok n h [] [.ref q]
theorem xok_mono {n : Nat × Nat} {h h' : xH} {loc : xL} {st : List Value} (g : xok n h loc st) (k : (h.length ≤ h'.length ∧ xsz h ≤ xsz h') ∧ xscH h') {st' : List Value} (hst : ∀ v ∈ st', xsc h'.length v ∨ v ∈ st) : xok n h' loc st' :=
  ⟨⟨Nat.le_trans g.1.1 k.1.1, Nat.le_trans g.1.2 k.1.2⟩, k.2, fun q hq => xsc_mono k.1.1 (g.2.2.1 q hq), fun v hv => (hst v hv).elim id fun hv => xsc_mono k.1.1 (g.2.2.2 v hv)⟩
theorem xok_self {n : Nat × Nat} {h : xH} {loc : xL} {st : List Value} (g : xok n h loc st) : xok (h.length, xsz h) h loc st := ⟨⟨Nat.le_refl _, Nat.le_refl _⟩, g.2⟩
theorem xok_sub {n : Nat × Nat} {h : xH} {loc loc' : xL} {st st' : List Value} (g : xok n h loc st) (h1 : ∀ q ∈ loc', q ∈ loc) (h2 : ∀ v ∈ st', v ∈ st) : xok n h loc' st' := ⟨g.1, g.2.1, fun q hq => g.2.2.1 q (h1 q hq), fun v hv => g.2.2.2 v (h2 v hv)⟩
theorem xgoodA_ok {n : Nat × Nat} {r : xA} {h : xH} (g : xgoodA n r h) : (n.1 ≤ h.length ∧ n.2 ≤ xsz h) ∧ xscH h := by
  cases r with
  | ok v => exact ⟨g.1, g.2.1⟩
  | error q => obtain ⟨-, hb, -, -, -, g⟩ := g; exact ⟨g.1, g.2.1⟩
theorem xpush40_sc {hb : xH} (h : xscH hb) : xscH (hb ++ [(40, List.replicate 6 .null)]) := by
  intro e he v hv
  rw [List.length_append]
  rcases List.mem_append.mp he with he | he
  · exact xsc_mono (Nat.le_add_right _ _) (h e he v hv)
  · rw [List.mem_singleton] at he
    subst he
    rw [List.eq_of_mem_replicate hv]
    trivial
/-- THE METHODS, d calls deep, their arguments no more than their locals -/
def xgo (M : List xMi) (K : List (Nat × List Value)) (Z : List Value) : Nat → Nat → Nat → List Value → xH → Option (xA × xH)
  | 0, _, _, _, _ => none
  | d + 1, f, mi, args, h => match M[mi]? with
    | none => none
    | some m => match decide ((args.map fun v => v.category).sum ≤ m.2.2.1) with
      | false => none
      | true => match xev (xgo M K Z d f) m.2.2.1 K Z (xhs m) m.2.2.2.2.2.2 f m.2.2.2.2.2.2 (lv_args 0 args) [] h with
        | some (.ok v, h) => match xrfit m.2.2.2.1 v with
          | true => some (.ok v, h)
          | false => none
        | r => r
section XRG
variable {K : List (Nat × List Value)} {Z : List Value} {call : Nat → List Value → xH → Option (xA × xH)} {nL : Nat} {hs : List (Nat × Nat × Nat × Nat)} {code : List xE}
/-- a call's own goodness -/
def xcg (call : Nat → List Value → xH → Option (xA × xH)) : Prop := ∀ mi args h r h', call mi args h = some (r, h') → xscH h → (∀ v ∈ args, xsc h.length v) → xgoodA (h.length, xsz h) r h'
theorem xev_good (hK : xcon K Z) (hc : xcg call) : ∀ (n : Nat) (cs : List xE) (loc : xL) (st : List Value) (h : xH) (r : xA) (h' : xH) (b : Nat × Nat), xev call nL K Z hs code n cs loc st h = some (r, h') → xok b h loc st → xgoodA b r h' := by
  intro n
  induction n with
  | zero =>
    intro cs loc st h r h' b hr g
    cases hr
  | succ n ih =>
    intro cs loc st h r h' b hr g
    cases cs with
    | nil => cases hr
    | cons e cs =>
      rw [xev] at hr
      split at hr
      · cases hr
      · rename_i loc1 st1 h1 hs1
        exact ih _ _ _ _ _ _ _ hr (xstep_good hK hs1 g)
      · rename_i t loc1 st1 h1 hs1
        exact ih _ _ _ _ _ _ _ hr (xstep_good hK hs1 g)
      · rename_i mi args loc1 st1 h1 hs1
        have g1 : xok b h1 loc1 (args ++ st1) := xstep_good hK hs1 g
        split at hr
        · cases hr
        · rename_i v h2 hcl
          have k := hc _ _ _ _ _ hcl g1.2.1 (fun v hv => g1.2.2.2 v (List.mem_append_left _ hv))
          refine ih _ _ _ _ _ _ _ hr (xok_mono g1 ⟨k.1, k.2.1⟩ (fun w hw => ?_))
          rcases List.mem_append.mp hw with hw | hw
          · exact Or.inl (k.2.2.2 w hw)
          · exact Or.inr (List.mem_append_right _ hw)
        · rename_i E q h2 hcl
          have k := hc _ _ _ _ _ hcl g1.2.1 (fun v hv => g1.2.2.2 v (List.mem_append_left _ hv))
          obtain ⟨hq, hb, e1, e2, e3, k⟩ := k
          split at hr
          · split at hr
            · refine ih _ _ _ _ _ _ _ hr (xok_mono g1 ⟨k.1, k.2.1⟩ (fun w hw => Or.inl (k.2.2.2 w hw)))
            · cases hr
              exact ⟨hq, hb, e1, e2, ⟨Nat.le_trans g1.1.1 e3.1, e3.2⟩, ⟨⟨Nat.le_trans g1.1.1 k.1.1, Nat.le_trans g1.1.2 k.1.2⟩, k.2⟩⟩
          · cases hr
      · rename_i v h1 hs1
        have g1 : xok b h1 [] v.toList := xstep_good hK hs1 g
        cases hr
        exact g1
      · rename_i E h1 hs1
        have g1 : xok b h1 [] [] := xstep_good hK hs1 g
        split at hr
        · rename_i hlt
          cases hr
          refine ⟨of_decide_eq_true hlt, h1, rfl, rfl, ⟨g1.1.1, g1.2.1⟩, ⟨⟨?_, ?_⟩, xpush40_sc g1.2.1, fun q hq => absurd hq List.not_mem_nil, ?_⟩⟩
          · rw [List.length_append]; exact Nat.le_trans g1.1.1 (Nat.le_add_right _ _)
          · rw [xsz_push]; exact Nat.le_trans g1.1.2 (Nat.le_add_right _ _)
          · intro v hv
            rw [List.mem_singleton] at hv
            subst hv
            exact Or.inl (by rw [List.length_append]; exact Nat.lt_succ_self _)
        · cases hr
theorem lv_args_mem : ∀ (vs : List Value) (i : Nat), ∀ q ∈ lv_args i vs, q.2 ∈ vs := by
  intro vs
  induction vs with
  | nil => intro i q hq; exact absurd hq List.not_mem_nil
  | cons v vs ih =>
    intro i q hq
    rcases List.mem_cons.mp hq with rfl | hq
    · exact List.mem_cons_self
    · exact List.mem_cons_of_mem _ (ih _ q hq)
theorem xgo_good {M : List xMi} (hK : xcon K Z) : ∀ (d f : Nat), xcg (xgo M K Z d f) := by
  intro d
  induction d with
  | zero =>
    intro f mi args h r h' hr _ _
    cases hr
  | succ d ih =>
    intro f mi args h r h' hr g1 g2
    rw [xgo] at hr
    split at hr
    · cases hr
    · rename_i m hm
      have base : xok (h.length, xsz h) h (lv_args 0 args) [] := ⟨⟨Nat.le_refl _, Nat.le_refl _⟩, g1, fun q hq => g2 _ (lv_args_mem args 0 q hq), fun v hv => absurd hv List.not_mem_nil⟩
      split at hr
      · cases hr
      · split at hr
        · rename_i v h2 he
          split at hr
          · cases hr
            exact xev_good hK (ih f) _ _ _ _ _ _ _ _ he base
          · cases hr
        · rename_i r2 hne
          exact xev_good hK (ih f) _ _ _ _ _ _ _ _ hr base
end XRG
