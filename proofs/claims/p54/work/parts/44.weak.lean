/-! LOCALS MAY BE FORGOTTEN AND CHANGE THEIR ORDER: what runs with some locals runs with more -/
def xLe (loc loc' : xL) : Prop := ∀ q ∈ loc, xget loc' q.1 = some q.2
def xrl (loc : xL) : xO → xO
  | .inl (t, _, s, h) => .inl (t, loc, s, h)
  | .inr (.inl (mi, a, _, s, h)) => .inr (.inl (mi, a, loc, s, h))
  | .inr (.inr x) => .inr (.inr x)
/-- the locals are only handed on -/
def xNa (f : xL → Option xO) : Prop := ∀ loc, f loc = (f []).map (xrl loc)
section XNA
variable {K : List (Nat × List Value)} {Z : List Value} {st : List Value} {h : xH}
theorem xna_none : xNa (fun _ => none) := fun _ => rfl
theorem xna_nx {st : List Value} {h : xH} : xNa (fun loc => xnx loc st h) := fun _ => rfl
theorem xna_jp {t : Option Nat} {st : List Value} {h : xH} : xNa (fun loc => xjp t loc st h) := by
  intro loc; cases t <;> rfl
theorem xna_br {b : Bool} {pc : Nat} {off : Int} {st : List Value} {h : xH} : xNa (fun loc => xbr b pc off loc st h) := by
  intro loc; cases b
  · rfl
  · exact xna_jp loc
theorem xna_ii {f : Int32 → Int32 → Int32} : xNa (fun loc => xii f loc st h) := by
  intro loc; unfold xii; dsimp only; split <;> rfl
theorem xna_iz {f : Int32 → Int32 → Int32} : xNa (fun loc => xiz f loc st h) := by
  intro loc; unfold xiz; dsimp only; repeat' split
  all_goals rfl
theorem xna_i1 {f : Int32 → Value} : xNa (fun loc => xi1 f loc st h) := by
  intro loc; unfold xi1; dsimp only; split <;> rfl
theorem xna_jj {f : Int64 → Int64 → Value} : xNa (fun loc => xjj f loc st h) := by
  intro loc; unfold xjj; dsimp only; split <;> rfl
theorem xna_getf {ci k : Nat} : xNa (fun loc => xgetf K ci k loc st h) := by
  intro loc; unfold xgetf; dsimp only; repeat' split
  all_goals rfl
theorem xna_putf {ty : FieldType} {ci k : Nat} : xNa (fun loc => xputf ty ci k loc st h) := by
  intro loc; unfold xputf; dsimp only; repeat' split
  all_goals rfl
theorem xna_ald {p : Value → Bool} {t : Nat → Nat → Bool} : xNa (fun loc => xald K p t loc st h) := by
  intro loc; unfold xald; dsimp only; repeat' split
  all_goals rfl
theorem xna_ast {t : Nat} {f : Value → Option Value} : xNa (fun loc => xast t f loc st h) := by
  intro loc; unfold xast; dsimp only; repeat' split
  all_goals rfl
theorem xna_asq : xNa (fun loc => xasq loc st h) := by
  intro loc; unfold xasq; dsimp only; repeat' split
  all_goals rfl
theorem xna_alen : xNa (fun loc => xalen K loc st h) := by
  intro loc; unfold xalen; dsimp only; repeat' split
  all_goals rfl
theorem xna_new {ci : Nat} : xNa (fun loc => xnew ci loc st h) := by
  intro loc; unfold xnew; dsimp only; split <;> rfl
theorem xna_newa {t : Nat} {v : Value} : xNa (fun loc => xnewa t v loc st h) := by
  intro loc; unfold xnewa; dsimp only; repeat' split
  all_goals rfl
theorem xna_clone : xNa (fun loc => xclone loc st h) := by
  intro loc; unfold xclone; dsimp only; repeat' split
  all_goals rfl
theorem xna_copy : xNa (fun loc => xcopy K loc st h) := by
  intro loc; unfold xcopy; dsimp only; repeat' split
  all_goals rfl
theorem xna_cast : xNa (fun loc => xcast loc st h) := by
  intro loc; unfold xcast; dsimp only; repeat' split
  all_goals rfl
theorem xna_call {mi n : Nat} : xNa (fun loc => xcall mi n loc st h) := by
  intro loc; unfold xcall; dsimp only; split <;> rfl
theorem xna_sw {pc : Nat} {d lo hi : Int} {offs : Array Int} : xNa (fun loc => xsw pc d lo hi offs loc st h) := by
  intro loc; unfold xsw xjp; dsimp only; repeat' split
  all_goals rfl
theorem xna_gets {j : Nat} : xNa (fun loc => xgets Z j loc st h) := by
  intro loc; unfold xgets; dsimp only; split <;> rfl
theorem xna_f1 {f : Value → Option Value} : xNa (fun loc => xf1 f loc st h) := by
  intro loc; unfold xf1; dsimp only; repeat' split
  all_goals rfl
theorem xna_f2 {f : Value → Value → Option Value} : xNa (fun loc => xf2 f loc st h) := by
  intro loc; unfold xf2; dsimp only; repeat' split
  all_goals rfl
theorem xna_cat1 {f : Value → List Value → List Value} : xNa (fun loc => xcat1 loc st h f) := by
  intro loc; unfold xcat1; dsimp only; repeat' split
  all_goals rfl
theorem xna_dx1 : xNa (fun loc => xdx1 loc st h) := by
  intro loc; unfold xdx1; dsimp only; repeat' split
  all_goals rfl
theorem xna_a1 {aux : List Nat} {f : Nat → xL → Option xO} (hf : ∀ a, xNa (f a)) : xNa (fun loc => xa1 aux fun a => f a loc) := by
  intro loc; unfold xa1; dsimp only; split
  · exact hf _ loc
  · rfl
theorem xna_a2 {aux : List Nat} {f : Nat → Nat → xL → Option xO} (hf : ∀ a b, xNa (f a b)) : xNa (fun loc => xa2 aux fun a b => f a b loc) := by
  intro loc; unfold xa2; dsimp only; split
  · exact hf _ _ loc
  · rfl
theorem xna_newx {k i : Nat} : xNa (fun loc => xnewx loc st h k i) := by
  intro loc; unfold xnewx; dsimp only; split
  · exact xna_new loc
  · split <;> rfl
theorem xna_ldc {k v : Nat} : xNa (fun loc => xldc loc st h k v) := by
  intro loc; unfold xldc; dsimp only; split <;> rfl
theorem xna_ldw {k v : Nat} : xNa (fun loc => xldw loc st h k v) := by
  intro loc; unfold xldw; dsimp only; split <;> rfl
theorem xna_ld2 {k v : Nat} : xNa (fun loc => xld2 loc st h k v) := by
  intro loc; unfold xld2; dsimp only; split <;> rfl
theorem xna_virt {aux : List Nat} : xNa (fun loc => xvirt K loc st h aux) := by
  intro loc; unfold xvirt; dsimp only; split
  · split
    · exact xna_clone loc
    · split
      · split
        · exact xna_call loc
        · rfl
      · rfl
  · rfl
theorem xna_stat {aux : List Nat} : xNa (fun loc => xstat K loc st h aux) := by
  intro loc; unfold xstat; dsimp only; split
  · split
    · exact xna_copy loc
    · split
      · exact xna_f1 loc
      · split
        · exact xna_f1 loc
        · exact xna_a2 (f := fun mi n loc => xcall mi n loc st h) (fun _ _ => xna_call) loc
  · rfl
theorem xna_spec {aux : List Nat} : xNa (fun loc => xspec K loc st h aux) := by
  intro loc; unfold xspec; dsimp only; split
  · split
    · repeat' split
      all_goals rfl
    · rename_i k r _ _
      refine xna_a2 (f := fun mi n loc => match xrf st n && (!decide (k = 4) || xrcv K h st n 1) with
        | true => xcall mi n loc st h
        | false => none) (fun mi n loc => ?_) loc
      dsimp only
      split
      · exact xna_call loc
      · rfl
  · rfl
theorem xna_if1 {c : ClassFile.Cond} {pc : Nat} {o : Int} : xNa (fun loc => xif1 c pc o loc st h) := by
  intro loc; unfold xif1; dsimp only; split
  · exact xna_br loc
  · rfl
theorem xna_if2 {c : ClassFile.Cond} {pc : Nat} {o : Int} : xNa (fun loc => xif2 c pc o loc st h) := by
  intro loc; unfold xif2; dsimp only; split
  · exact xna_br loc
  · rfl
theorem xna_ifn {b : Bool} {pc : Nat} {o : Int} : xNa (fun loc => xifn b pc o loc st h) := by
  intro loc; unfold xifn; dsimp only; split
  · exact xna_br loc
  · exact xna_br loc
  · rfl
theorem xna_ret {p : Value → Bool} : xNa (fun _ => xret p st h) := by
  intro loc; unfold xret; dsimp only; repeat' split
  all_goals rfl
theorem xna_retv : xNa (fun _ => xretv st h) := by
  intro loc; unfold xretv; dsimp only; split <;> rfl
end XNA
/-- the relation of two outcomes -/
def xRo (o o' : xO) : Prop := match o with
  | .inl (t, l, s, h) => ∃ l', o' = .inl (t, l', s, h) ∧ xLe l l'
  | .inr (.inl (mi, a, l, s, h)) => ∃ l', o' = .inr (.inl (mi, a, l', s, h)) ∧ xLe l l'
  | .inr (.inr x) => o' = .inr (.inr x)
def xWk (f : xL → Option xO) : Prop := ∀ loc loc' o, xLe loc loc' → f loc = some o → ∃ o', f loc' = some o' ∧ xRo o o'
theorem xwk_na {f : xL → Option xO} (hf : xNa f) : xWk f := by
  intro loc loc' o hR hs
  rw [hf loc] at hs
  cases hq : f [] with
  | none => rw [hq] at hs; cases hs
  | some p =>
    rw [hq] at hs
    cases hs
    refine ⟨xrl loc' p, by rw [hf loc', hq]; rfl, ?_⟩
    rcases p with ⟨t, l, s, h⟩ | ⟨mi, a, l, s, h⟩ | x
    · exact ⟨loc', rfl, hR⟩
    · exact ⟨loc', rfl, hR⟩
    · rfl
theorem xLe_get {loc loc' : xL} (hR : xLe loc loc') {i : Nat} {v : Value} (hv : xget loc i = some v) : xget loc' i = some v := by
  unfold xget at hv
  obtain ⟨q, hq, rfl⟩ := Option.map_eq_some_iff.mp hv
  have h1 := List.find?_some hq
  have h2 := hR q (List.mem_of_find?_eq_some hq)
  rw [← h2, show q.1 = i from by simpa using h1]
theorem xget_filter {f : Nat × Value → Bool} : ∀ {l : xL} {i : Nat} {v : Value}, xget l i = some v → f (i, v) = true → (∀ q ∈ l, q.1 = i → True) → xget (l.filter f) i = some v := by
  intro l
  induction l with
  | nil => intro i v hv; cases hv
  | cons p l ih =>
    intro i v hv hf hh
    unfold xget at hv ⊢
    rw [List.find?_cons] at hv
    by_cases hp : p.1 = i
    · rw [show (p.1 == i) = true by simpa using hp] at hv
      have hv' : p.2 = v := by simpa using hv
      obtain ⟨a, b⟩ := p
      dsimp only at hp hv'
      subst hp hv'
      rw [List.filter_cons_of_pos hf, List.find?_cons]
      simp
    · rw [show (p.1 == i) = false by simpa using hp] at hv
      have k := ih (i := i) (v := v) hv hf (fun _ _ _ => trivial)
      by_cases hfp : f p = true
      · rw [List.filter_cons_of_pos hfp, List.find?_cons, show (p.1 == i) = false by simpa using hp]
        exact k
      · rw [List.filter_cons_of_neg hfp]
        exact k
theorem xLe_s1 {loc loc' : xL} (hR : xLe loc loc') (i : Nat) (v : Value) : xLe (xs1 loc i v) (xs1 loc' i v) := by
  intro q hq
  unfold xs1 at hq ⊢
  rcases List.mem_cons.mp hq with rfl | hq
  · unfold xget; simp
  · obtain ⟨hq, hf⟩ := List.mem_filter.mp hq
    have h1 := hR q hq
    have hne : ¬ i = q.1 := by
      intro e
      rw [e] at hf
      simp at hf
    unfold xget
    rw [List.find?_cons, show (i == q.1) = false by simpa using hne]
    exact xget_filter (f := fun q => !(q.1 == i) && !(q.1 + 1 == i && q.2.category == 2)) h1 hf (fun _ _ _ => trivial)
theorem xLe_s2 {loc loc' : xL} (hR : xLe loc loc') (i : Nat) (v : Value) : xLe (xs2 loc i v) (xs2 loc' i v) := by
  intro q hq
  unfold xs2 at hq ⊢
  rcases List.mem_cons.mp hq with rfl | hq
  · unfold xget; simp
  · obtain ⟨hq, hf⟩ := List.mem_filter.mp hq
    have h1 := hR q hq
    have hne : ¬ i = q.1 := by
      intro e
      rw [e] at hf
      simp at hf
    unfold xget
    rw [List.find?_cons, show (i == q.1) = false by simpa using hne]
    exact xget_filter (f := fun q => !(q.1 == i) && (!(q.1 == i + 1) && !(q.1 + 1 == i && q.2.category == 2))) h1 hf (fun _ _ _ => trivial)
section XWK
variable {nL : Nat} {K : List (Nat × List Value)} {Z : List Value} {st : List Value} {h : xH}
theorem xwk_ld {p : Value → Bool} {i : Nat} : xWk (fun loc => xld p loc st h i) := by
  intro loc loc' o hR hs
  dsimp only at hs ⊢
  unfold xld at hs ⊢
  split at hs
  · rename_i v hv
    rw [xLe_get hR hv]
    dsimp only
    split at hs
    · rename_i hp
      try rw [hp]
      cases hs
      exact ⟨_, rfl, _, rfl, hR⟩
    · cases hs
  · cases hs
theorem xwk_st1 {p : Value → Bool} {i : Nat} : xWk (fun loc => xst1 p nL loc st h i) := by
  intro loc loc' o hR hs
  dsimp only at hs ⊢
  unfold xst1 at hs ⊢
  split at hs
  · split at hs
    · rename_i hp
      try dsimp only
      try rw [hp]
      cases hs
      exact ⟨_, rfl, _, rfl, xLe_s1 hR _ _⟩
    · cases hs
  · cases hs
theorem xwk_st2 {p : Value → Bool} {i : Nat} : xWk (fun loc => xst2 p nL loc st h i) := by
  intro loc loc' o hR hs
  dsimp only at hs ⊢
  unfold xst2 at hs ⊢
  split at hs
  · split at hs
    · rename_i hp
      try dsimp only
      try rw [hp]
      cases hs
      exact ⟨_, rfl, _, rfl, xLe_s2 hR _ _⟩
    · cases hs
  · cases hs
theorem xwk_inc {i : Nat} {n : Int} : xWk (fun loc => xinc nL loc st h i n) := by
  intro loc loc' o hR hs
  dsimp only at hs ⊢
  unfold xinc at hs ⊢
  split at hs
  · rename_i x hx
    rw [xLe_get hR hx]
    dsimp only
    split at hs
    · rename_i hp
      try rw [hp]
      cases hs
      exact ⟨_, rfl, _, rfl, xLe_s1 hR _ _⟩
    · cases hs
  · cases hs
theorem xstep_weak (e : xE) : xWk (fun loc => xstep nL K Z e loc st h) := by
  obtain ⟨pc, i, ln, aux⟩ := e
  cases i
  case newarray t0 => cases t0 <;> first | exact xwk_na xna_newa | exact xwk_na xna_none
  all_goals first
    | exact xwk_ld
    | exact xwk_st1
    | exact xwk_st2
    | exact xwk_inc
    | exact xwk_na xna_nx
    | exact xwk_na xna_ii
    | exact xwk_na xna_iz
    | exact xwk_na xna_i1
    | exact xwk_na xna_jj
    | exact xwk_na xna_f2
    | exact xwk_na xna_cat1
    | exact xwk_na xna_dx1
    | exact xwk_na xna_jp
    | exact xwk_na xna_if1
    | exact xwk_na xna_if2
    | exact xwk_na xna_ifn
    | exact xwk_na xna_sw
    | exact xwk_na (xna_a2 fun _ _ => xna_getf)
    | exact xwk_na (xna_a2 fun _ _ => xna_putf)
    | exact xwk_na (xna_a1 fun _ => xna_gets)
    | exact xwk_na xna_ald
    | exact xwk_na xna_ast
    | exact xwk_na xna_asq
    | exact xwk_na xna_alen
    | exact xwk_na (xna_a2 fun _ _ => xna_newx)
    | exact xwk_na (xna_a1 fun _ => xna_newa)
    | exact xwk_na (xna_a2 fun _ _ => xna_ldc)
    | exact xwk_na (xna_a2 fun _ _ => xna_ldw)
    | exact xwk_na (xna_a2 fun _ _ => xna_ld2)
    | exact xwk_na (xna_a1 fun _ => xna_cast)
    | exact xwk_na xna_virt
    | exact xwk_na xna_stat
    | exact xwk_na xna_spec
    | exact xwk_na xna_ret
    | exact xwk_na xna_retv
    | (unfold xstep; dsimp only; exact xwk_na xna_ald)
    | exact xwk_na xna_none
end XWK
theorem xev_weak {call : Nat → List Value → xH → Option (xA × xH)} {nL : Nat} {K : List (Nat × List Value)} {Z : List Value} {hs : List (Nat × Nat × Nat × Nat)} {code : List xE} : ∀ (n : Nat) (cs : List xE) (loc loc' : xL) (st : List Value) (h : xH) (x : xA × xH), xLe loc loc' → xev call nL K Z hs code n cs loc st h = some x → xev call nL K Z hs code n cs loc' st h = some x := by
  intro n
  induction n with
  | zero => intro cs loc loc' st h x _ hx; cases hx
  | succ n ih =>
    intro cs loc loc' st h x hR hx
    cases cs with
    | nil => cases hx
    | cons e cs =>
      rw [xev] at hx ⊢
      cases hq : xstep nL K Z e loc st h with
      | none => rw [hq] at hx; cases hx
      | some o =>
        obtain ⟨o', h1, h2⟩ := xstep_weak e loc loc' o hR hq
        rw [hq] at hx
        rw [show xstep nL K Z e loc' st h = some o' from h1]
        rcases o with ⟨t, l, s, hh⟩ | ⟨mi, a, l, s, hh⟩ | x0
        · obtain ⟨l', rfl, hl⟩ := h2
          cases t with
          | none => exact ih _ _ _ _ _ _ hl hx
          | some t => exact ih _ _ _ _ _ _ hl hx
        · obtain ⟨l', rfl, hl⟩ := h2
          dsimp only at hx ⊢
          split at hx
          · cases hx
          · exact ih _ _ _ _ _ _ hl hx
          · split at hx
            · rename_i hm
              try rw [hm]
              try dsimp only
              split at hx
              · exact ih _ _ _ _ _ _ hl hx
              · exact hx
            · cases hx
        · cases h2
          exact hx
theorem xp_weak {K : List (Nat × List Value)} {Z : List Value} {d nL : Nat} {hs : List (Nat × Nat × Nat × Nat)} {code cs : List xE} {loc loc' : xL} {st : List Value} {h : xH} {P : xA → xH → Prop} (hR : xLe loc loc') (hb : xBp K Z d nL hs code cs loc st h P) : xBp K Z d nL hs code cs loc' st h P := by
  obtain ⟨r, h', ⟨n0, hn⟩, hp⟩ := hb
  exact ⟨r, h', ⟨n0, fun f k hf hk => xev_weak _ _ _ _ _ _ _ hR (hn f k hf hk)⟩, hp⟩
theorem xLe_nil {l : xL} : xLe [] l := fun q hq => absurd hq List.not_mem_nil
theorem xLe_cons {l l' : xL} {i : Nat} {v : Value} (h1 : xget l' i = some v) (h2 : xLe l l') : xLe ((i, v) :: l) l' := by
  intro q hq
  rcases List.mem_cons.mp hq with rfl | hq
  · exact h1
  · exact h2 q hq
