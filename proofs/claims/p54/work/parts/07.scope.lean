/-! every instruction keeps to places that are there -/
def xok (n : Nat × Nat) (h : xH) (loc : xL) (st : List Value) : Prop := (n.1 ≤ h.length ∧ n.2 ≤ xsz h) ∧ xscH h ∧ (∀ q ∈ loc, xsc h.length q.2) ∧ ∀ v ∈ st, xsc h.length v
def xgood (n : Nat × Nat) : xO → Prop
  | .inl (_, loc, st, h) => xok n h loc st
  | .inr (.inl (_, args, loc, st, h)) => xok n h loc (args ++ st)
  | .inr (.inr (.inl (v, h))) => xok n h [] v.toList
  | .inr (.inr (.inr (_, h))) => xok n h [] []
def xcon (K : List (Nat × List Value)) (Z : List Value) : Prop := (∀ e ∈ K, ∀ v ∈ e.2, xsc 0 v) ∧ ∀ v ∈ Z, xsc 0 v
section XG
variable {n : Nat × Nat} {nL : Nat} {h : xH} {loc : xL} {st : List Value} {o : xO} {K : List (Nat × List Value)} {Z : List Value}
theorem xg_nx {st' : List Value} {loc' : xL} (hs : xnx loc' st' h = some o) (h1 : n.1 ≤ h.length ∧ n.2 ≤ xsz h) (h2 : xscH h) (h3 : ∀ q ∈ loc', xsc h.length q.2) (h4 : ∀ v ∈ st', xsc h.length v) : xgood n o := by
  cases hs
  exact ⟨h1, h2, h3, h4⟩
theorem xg_jp {t : Option Nat} {st' : List Value} (hs : xjp t loc st' h = some o) (g : xok n h loc st') : xgood n o := by
  cases t with
  | none => cases hs
  | some t => cases hs; exact g
theorem xg_br {b : Bool} {pc : Nat} {off : Int} {st' : List Value} (hs : xbr b pc off loc st' h = some o) (g : xok n h loc st') : xgood n o := by
  cases b with
  | true => exact xg_jp hs g
  | false => cases hs; exact g
theorem xok_tail {v : Value} {r : List Value} (g : xok n h loc (v :: r)) : xok n h loc r := ⟨g.1, g.2.1, g.2.2.1, fun w hw => g.2.2.2 w (List.mem_cons_of_mem _ hw)⟩
theorem xok_cons {v : Value} {r : List Value} (g : xok n h loc r) (hv : xsc h.length v) : xok n h loc (v :: r) := ⟨g.1, g.2.1, g.2.2.1, fun w hw => (List.mem_cons.mp hw).elim (fun e => e ▸ hv) (g.2.2.2 w)⟩
theorem xok_head {v : Value} {r : List Value} (g : xok n h loc (v :: r)) : xsc h.length v := g.2.2.2 v List.mem_cons_self
theorem xg_ok {st' : List Value} (hs : xnx loc st' h = some o) (g : xok n h loc st') : xgood n o := by
  cases hs
  exact g
theorem xget_sc {i : Nat} {v : Value} (hv : xget loc i = some v) (g : xok n h loc st) : xsc h.length v := by
  unfold xget at hv
  obtain ⟨q, hq, rfl⟩ := Option.map_eq_some_iff.mp hv
  exact g.2.2.1 q (List.mem_of_find?_eq_some hq)
theorem xg_ld {p : Value → Bool} {i : Nat} (hs : xld p loc st h i = some o) (g : xok n h loc st) : xgood n o := by
  unfold xld at hs
  split at hs
  · rename_i v hv
    split at hs
    · exact xg_ok hs (xok_cons g (xget_sc hv g))
    · cases hs
  · cases hs
theorem xs1_sc {i m : Nat} {v : Value} (hl : ∀ q ∈ loc, xsc m q.2) (hv : xsc m v) : ∀ q ∈ xs1 loc i v, xsc m q.2 := by
  intro q hq
  rcases List.mem_cons.mp hq with rfl | hq
  · exact hv
  · exact hl q (List.mem_filter.mp hq).1
theorem xs2_sc {i m : Nat} {v : Value} (hl : ∀ q ∈ loc, xsc m q.2) (hv : xsc m v) : ∀ q ∈ xs2 loc i v, xsc m q.2 := by
  intro q hq
  rcases List.mem_cons.mp hq with rfl | hq
  · exact hv
  · exact hl q (List.mem_filter.mp hq).1
theorem xg_st1 {p : Value → Bool} {i : Nat} (hs : xst1 p nL loc st h i = some o) (g : xok n h loc st) : xgood n o := by
  unfold xst1 at hs
  split at hs
  · split at hs
    · cases hs
      exact ⟨g.1, g.2.1, xs1_sc g.2.2.1 (xok_head g), (xok_tail g).2.2.2⟩
    · cases hs
  · cases hs
theorem xg_st2 {p : Value → Bool} {i : Nat} (hs : xst2 p nL loc st h i = some o) (g : xok n h loc st) : xgood n o := by
  unfold xst2 at hs
  split at hs
  · split at hs
    · cases hs
      exact ⟨g.1, g.2.1, xs2_sc g.2.2.1 (xok_head g), (xok_tail g).2.2.2⟩
    · cases hs
  · cases hs
theorem xg_inc {i : Nat} {m : Int} (hs : xinc nL loc st h i m = some o) (g : xok n h loc st) : xgood n o := by
  unfold xinc at hs
  split at hs
  · split at hs
    · cases hs
      exact ⟨g.1, g.2.1, xs1_sc g.2.2.1 trivial, g.2.2.2⟩
    · cases hs
  · cases hs
theorem xg_ii {f : Int32 → Int32 → Int32} (hs : xii f loc st h = some o) (g : xok n h loc st) : xgood n o := by
  unfold xii at hs
  split at hs
  · exact xg_ok hs (xok_cons (xok_tail (xok_tail g)) trivial)
  · cases hs
theorem xg_iz {f : Int32 → Int32 → Int32} (hs : xiz f loc st h = some o) (g : xok n h loc st) : xgood n o := by
  unfold xiz at hs
  split at hs
  · split at hs
    · cases hs
    · exact xg_ok hs (xok_cons (xok_tail (xok_tail g)) trivial)
  · cases hs
theorem xg_i1 {f : Int32 → Value} (hf : ∀ x m, xsc m (f x)) (hs : xi1 f loc st h = some o) (g : xok n h loc st) : xgood n o := by
  unfold xi1 at hs
  split at hs
  · exact xg_ok hs (xok_cons (xok_tail g) (hf _ _))
  · cases hs
theorem xg_jj {f : Int64 → Int64 → Value} (hf : ∀ x y m, xsc m (f x y)) (hs : xjj f loc st h = some o) (g : xok n h loc st) : xgood n o := by
  unfold xjj at hs
  split at hs
  · exact xg_ok hs (xok_cons (xok_tail (xok_tail g)) (hf _ _ _))
  · cases hs
theorem xg_f1 {f : Value → Option Value} (hf : ∀ x y m, f x = some y → xsc m y) (hs : xf1 f loc st h = some o) (g : xok n h loc st) : xgood n o := by
  unfold xf1 at hs
  split at hs
  · split at hs
    · rename_i w hw
      split at hs
      · exact xg_ok hs (xok_cons (xok_tail g) (hf _ _ _ hw))
      · cases hs
    · cases hs
  · cases hs
theorem xg_f2 {f : Value → Value → Option Value} (hf : ∀ x y z m, f x y = some z → xsc m z) (hs : xf2 f loc st h = some o) (g : xok n h loc st) : xgood n o := by
  unfold xf2 at hs
  split at hs
  · split at hs
    · rename_i w hw
      exact xg_ok hs (xok_cons (xok_tail (xok_tail g)) (hf _ _ _ _ hw))
    · cases hs
  · cases hs
theorem xcell_sc {a c : Nat} {vs : List Value} (hK : xcon K Z) (hc : xcell K h a = some (c, vs)) (g : xok n h loc st) : ∀ v ∈ vs, xsc h.length v := by
  unfold xcell at hc
  split at hc
  · exact fun v hv => g.2.1 _ (List.mem_of_getElem? hc) v hv
  · exact fun v hv => xsc_mono (Nat.zero_le _) (hK.1 _ (List.mem_of_getElem? hc) v hv)
theorem xg_getf {ci k : Nat} (hK : xcon K Z) (hs : xgetf K ci k loc st h = some o) (g : xok n h loc st) : xgood n o := by
  unfold xgetf at hs
  split at hs
  · split at hs
    · rename_i c vs hc
      split at hs
      · split at hs
        · rename_i v hv
          split at hs
          · exact xg_ok hs (xok_cons (xok_tail g) (xcell_sc hK hc g v (List.mem_of_getElem? hv)))
          · cases hs
        · cases hs
      · cases hs
    · cases hs
  · cases hs
theorem xok_set {a c : Nat} {ws vs : List Value} {r : List Value} (hc : h[a]? = some (c, vs)) (hlen : ws.length = vs.length) (g : xok n h loc r) (hw : ∀ v ∈ ws, xsc h.length v) : xok n (h.set a (c, ws)) loc r := by
  refine ⟨by rw [List.length_set, xsz_set hc hlen]; exact g.1, ?_, by rw [List.length_set]; exact g.2.2.1, by rw [List.length_set]; exact g.2.2.2⟩
  intro e he v hv
  rw [List.length_set]
  rcases List.mem_or_eq_of_mem_set he with he | rfl
  · exact g.2.1 e he v hv
  · exact hw v hv
theorem xscL_set {m k : Nat} {vs : List Value} {v : Value} (h1 : ∀ w ∈ vs, xsc m w) (h2 : xsc m v) : ∀ w ∈ vs.set k v, xsc m w := by
  intro w hw
  rcases List.mem_or_eq_of_mem_set hw with hw | rfl
  · exact h1 w hw
  · exact h2
theorem xg_putf {ty : FieldType} {ci k : Nat} (hs : xputf ty ci k loc st h = some o) (g : xok n h loc st) : xgood n o := by
  unfold xputf at hs
  split at hs
  · split at hs
    · split at hs
      · rename_i c vs hc
        split at hs
        · cases hs
          exact xok_set hc (List.length_set) (xok_tail (xok_tail g)) (xscL_set (fun v hv => g.2.1 _ (List.mem_of_getElem? hc) v hv) (xok_head g))
        · cases hs
      · cases hs
    · cases hs
  · cases hs
theorem xg_ald {p : Value → Bool} {t : Nat → Nat → Bool} (hK : xcon K Z) (hs : xald K p t loc st h = some o) (g : xok n h loc st) : xgood n o := by
  unfold xald at hs
  split at hs
  · split at hs
    · rename_i c vs hc
      split at hs
      · split at hs
        · rename_i v hv
          split at hs
          · exact xg_ok hs (xok_cons (xok_tail (xok_tail g)) (xcell_sc hK hc g v (List.mem_of_getElem? hv)))
          · cases hs
        · cases hs
      · cases hs
    · cases hs
  · cases hs
theorem xg_ast {t : Nat} {f : Value → Option Value} (hf : ∀ x y m, f x = some y → xsc m y) (hs : xast t f loc st h = some o) (g : xok n h loc st) : xgood n o := by
  unfold xast at hs
  split at hs
  · split at hs
    · split at hs
      · rename_i c vs hc
        split at hs
        · split at hs
          · rename_i w hw
            cases hs
            exact xok_set hc (List.length_set) (xok_tail (xok_tail (xok_tail g))) (xscL_set (fun v hv => g.2.1 _ (List.mem_of_getElem? hc) v hv) (hf _ _ _ hw))
          · cases hs
        · cases hs
      · cases hs
    · cases hs
  · cases hs
theorem xg_asq (hs : xasq loc st h = some o) (g : xok n h loc st) : xgood n o := by
  unfold xasq at hs
  split at hs
  · split at hs
    · split at hs
      · rename_i c vs d x hc hd
        split at hs
        · cases hs
          exact xok_set hc (List.length_set) (xok_tail (xok_tail (xok_tail g))) (xscL_set (fun v hv => g.2.1 _ (List.mem_of_getElem? hc) v hv) (xok_head g))
        · cases hs
      · cases hs
    · cases hs
  · cases hs
theorem xg_alen (hs : xalen K loc st h = some o) (g : xok n h loc st) : xgood n o := by
  unfold xalen at hs
  split at hs
  · split at hs
    · split at hs
      · exact xg_ok hs (xok_cons (xok_tail g) trivial)
      · cases hs
    · cases hs
  · cases hs
theorem xok_push {c : Nat} {vs r : List Value} (g : xok n h loc r) (hv : ∀ v ∈ vs, xsc h.length v) : xok n (h ++ [(c, vs)]) loc (.ref h.length :: r) := by
  have hl : (h ++ [(c, vs)]).length = h.length + 1 := by simp
  have mono : ∀ v, xsc h.length v → xsc (h ++ [(c, vs)]).length v := fun v hv => xsc_mono (by rw [hl]; exact Nat.le_succ _) hv
  refine ⟨⟨by rw [hl]; exact Nat.le_succ_of_le g.1.1, by rw [xsz_push]; exact Nat.le_add_right_of_le g.1.2⟩, ?_, fun q hq => mono _ (g.2.2.1 q hq), ?_⟩
  · intro e he v hve
    rcases List.mem_append.mp he with he | he
    · exact mono _ (g.2.1 e he v hve)
    · rw [List.mem_singleton] at he
      subst he
      exact mono _ (hv v hve)
  · intro v hv2
    rcases List.mem_cons.mp hv2 with rfl | hv2
    · exact Or.inl (by rw [hl]; exact Nat.lt_succ_self _)
    · exact mono _ (g.2.2.2 v hv2)
def xnref : Value → Bool
  | .ref _ => false
  | _ => true
theorem xnref_sc {v : Value} (h : xnref v = true) (m : Nat) : xsc m v := by cases v <;> first | trivial | cases h
theorem xnew0_all (ci : Nat) : (xnew0 ci).all xnref = true := by
  unfold xnew0
  split <;> rfl
theorem xnew0_sc (m ci : Nat) : ∀ v ∈ xnew0 ci, xsc m v := fun v hv => xnref_sc (List.all_eq_true.mp (xnew0_all ci) v hv) m
theorem xg_new {ci : Nat} (hs : xnew ci loc st h = some o) (g : xok n h loc st) : xgood n o := by
  unfold xnew at hs
  split at hs
  · cases hs
    exact xok_push g (xnew0_sc _ _)
  · cases hs
theorem xg_newa {t : Nat} {v : Value} (hv : ∀ m, xsc m v) (hs : xnewa t v loc st h = some o) (g : xok n h loc st) : xgood n o := by
  unfold xnewa at hs
  split at hs
  · split at hs
    · cases hs
      exact xok_push (xok_tail g) (fun w hw => by rw [List.eq_of_mem_replicate hw]; exact hv _)
    · cases hs
  · cases hs
theorem xg_clone (hs : xclone loc st h = some o) (g : xok n h loc st) : xgood n o := by
  unfold xclone at hs
  split at hs
  · split at hs
    · split at hs
      · rename_i c vs hc
        split at hs
        · cases hs
          exact xok_push (xok_tail g) (fun v hv => g.2.1 _ (List.mem_of_getElem? hc) v hv)
        · cases hs
      · cases hs
    · cases hs
  · cases hs
theorem xcpy_sc {f g : List Value} {sp dp k m : Nat} (hf : ∀ v ∈ f, xsc m v) (hg : ∀ v ∈ g, xsc m v) : ∀ v ∈ xcpy f g sp dp k, xsc m v := by
  have key : ∀ (l : List Value) (j : Nat), (∀ v ∈ l, xsc m v) → xsc m (l.getD j .null) := by
    intro l j hl
    rw [List.getD_eq_getElem?_getD]
    cases hj : l[j]? with
    | none => trivial
    | some w => exact hl w (List.mem_of_getElem? hj)
  intro v hv
  unfold xcpy at hv
  obtain ⟨j, -, rfl⟩ := List.mem_map.mp hv
  split
  · exact key f _ hf
  · exact key g _ hg
theorem xg_copy (hK : xcon K Z) (hs : xcopy K loc st h = some o) (g : xok n h loc st) : xgood n o := by
  unfold xcopy at hs
  split at hs
  · split at hs
    · split at hs
      · rename_i c vs d f hc hd
        split at hs
        · cases hs
          exact xok_set hc (by simp [xcpy]) (xok_tail (xok_tail (xok_tail (xok_tail (xok_tail g))))) (xcpy_sc (xcell_sc hK hd g) (fun v hv => g.2.1 _ (List.mem_of_getElem? hc) v hv))
        · cases hs
      · cases hs
    · cases hs
  · cases hs
theorem xg_cast (hs : xcast loc st h = some o) (g : xok n h loc st) : xgood n o := by
  unfold xcast at hs
  split at hs
  · split at hs
    · split at hs
      · split at hs
        · exact xg_ok hs g
        · cases hs
      · cases hs
    · cases hs
  · cases hs
theorem xg_call {mi k : Nat} (hs : xcall mi k loc st h = some o) (g : xok n h loc st) : xgood n o := by
  unfold xcall at hs
  split at hs
  · cases hs
    refine ⟨g.1, g.2.1, g.2.2.1, fun v hv => ?_⟩
    rcases List.mem_append.mp hv with hv | hv
    · exact g.2.2.2 v (List.mem_of_mem_take (List.mem_reverse.mp hv))
    · exact g.2.2.2 v (List.mem_of_mem_drop hv)
  · cases hs
theorem xg_sw {pc : Nat} {d lo hi : Int} {offs : Array Int} (hs : xsw pc d lo hi offs loc st h = some o) (g : xok n h loc st) : xgood n o := by
  unfold xsw at hs
  split at hs
  · split at hs
    · exact xg_jp hs (xok_tail g)
    · split at hs
      · exact xg_jp hs (xok_tail g)
      · cases hs
  · cases hs
theorem xg_ret {p : Value → Bool} (hs : xret p st h = some o) (g : xok n h loc st) : xgood n o := by
  unfold xret at hs
  split at hs
  · split at hs
    · cases hs
      exact ⟨g.1, g.2.1, fun q hq => absurd hq List.not_mem_nil, g.2.2.2⟩
    · cases hs
  · cases hs
theorem xg_gets {j : Nat} (hK : xcon K Z) (hs : xgets Z j loc st h = some o) (g : xok n h loc st) : xgood n o := by
  unfold xgets at hs
  split at hs
  · rename_i v hv
    exact xg_ok hs (xok_cons g (xsc_mono (Nat.zero_le _) (hK.2 _ (List.mem_of_getElem? hv))))
  · cases hs
theorem xg_a1 {aux : List Nat} {f : Nat → Option xO} (hf : ∀ a, f a = some o → xgood n o) (hs : xa1 aux f = some o) : xgood n o := by
  unfold xa1 at hs
  split at hs
  · exact hf _ hs
  · cases hs
theorem xg_a2 {aux : List Nat} {f : Nat → Nat → Option xO} (hf : ∀ a b, f a b = some o → xgood n o) (hs : xa2 aux f = some o) : xgood n o := by
  unfold xa2 at hs
  split at hs
  · exact hf _ _ hs
  · cases hs
theorem xg_newx {k i : Nat} (hs : xnewx loc st h k i = some o) (g : xok n h loc st) : xgood n o := by
  unfold xnewx at hs
  split at hs
  · exact xg_new hs g
  · split at hs
    · cases hs
      exact ⟨g.1, g.2.1, fun q hq => absurd hq List.not_mem_nil, fun q hq => absurd hq List.not_mem_nil⟩
    · cases hs
theorem xg_ldc {k v : Nat} (hs : xldc loc st h k v = some o) (g : xok n h loc st) : xgood n o := by
  unfold xldc at hs
  split at hs
  · exact xg_ok hs (xok_cons g trivial)
  · exact xg_ok hs (xok_cons g (Or.inr (Nat.le_add_right _ _)))
  · exact xg_ok hs (xok_cons g trivial)
  · cases hs
theorem xg_ldw {k v : Nat} (hs : xldw loc st h k v = some o) (g : xok n h loc st) : xgood n o := by
  unfold xldw at hs
  split at hs
  · exact xg_ok hs (xok_cons g (Or.inr (Nat.le_add_right _ _)))
  · cases hs
theorem xg_ld2 {k v : Nat} (hs : xld2 loc st h k v = some o) (g : xok n h loc st) : xgood n o := by
  unfold xld2 at hs
  split at hs <;> exact xg_ok hs (xok_cons g trivial)
theorem xg_virt {aux : List Nat} (hs : xvirt K loc st h aux = some o) (g : xok n h loc st) : xgood n o := by
  unfold xvirt at hs
  split at hs
  · split at hs
    · exact xg_clone hs g
    · split at hs
      · split at hs
        · exact xg_call hs g
        · cases hs
      · cases hs
  · cases hs
theorem xg_stat {aux : List Nat} (hK : xcon K Z) (hs : xstat K loc st h aux = some o) (g : xok n h loc st) : xgood n o := by
  unfold xstat at hs
  split at hs
  · split at hs
    · exact xg_copy hK hs g
    · split at hs
      · exact xg_f1 (fun x y m q => by unfold xd2l at q; split at q <;> cases q; trivial) hs g
      · split at hs
        · exact xg_f1 (fun x y m q => by unfold xf2i at q; split at q <;> cases q; trivial) hs g
        · exact xg_a2 (fun a b q => xg_call q g) hs
  · cases hs
theorem xg_spec {aux : List Nat} (hs : xspec K loc st h aux = some o) (g : xok n h loc st) : xgood n o := by
  unfold xspec at hs
  split at hs
  · split at hs
    · split at hs
      · split at hs
        · exact xg_ok hs (xok_tail g)
        · cases hs
      · cases hs
    · refine xg_a2 (fun a b q => ?_) hs
      split at q
      · exact xg_call q g
      · cases q
  · cases hs
theorem xg_if1 {c : ClassFile.Cond} {pc : Nat} {off : Int} (hs : xif1 c pc off loc st h = some o) (g : xok n h loc st) : xgood n o := by
  unfold xif1 at hs
  split at hs
  · exact xg_br hs (xok_tail g)
  · cases hs
theorem xg_if2 {c : ClassFile.Cond} {pc : Nat} {off : Int} (hs : xif2 c pc off loc st h = some o) (g : xok n h loc st) : xgood n o := by
  unfold xif2 at hs
  split at hs
  · exact xg_br hs (xok_tail (xok_tail g))
  · cases hs
theorem xg_ifn {b : Bool} {pc : Nat} {off : Int} (hs : xifn b pc off loc st h = some o) (g : xok n h loc st) : xgood n o := by
  unfold xifn at hs
  split at hs
  · exact xg_br hs (xok_tail g)
  · exact xg_br hs (xok_tail g)
  · cases hs
theorem xg_retv (hs : xretv st h = some o) (g : xok n h loc st) : xgood n o := by
  unfold xretv at hs
  split at hs
  · cases hs
    exact ⟨g.1, g.2.1, fun q hq => absurd hq List.not_mem_nil, fun q hq => absurd hq List.not_mem_nil⟩
  · cases hs
theorem xg_cat1 {f : Value → List Value → List Value} (hf : ∀ v r w, w ∈ f v r → w = v ∨ w ∈ r) (hs : xcat1 loc st h f = some o) (g : xok n h loc st) : xgood n o := by
  unfold xcat1 at hs
  split at hs
  · split at hs
    · cases hs
      exact ⟨g.1, g.2.1, g.2.2.1, fun w hw => (hf _ _ w hw).elim (fun e => e ▸ xok_head g) ((xok_tail g).2.2.2 w)⟩
    · cases hs
  · cases hs
theorem xg_dx1 (hs : xdx1 loc st h = some o) (g : xok n h loc st) : xgood n o := by
  unfold xdx1 at hs
  split at hs
  · split at hs
    · exact xg_ok hs (xok_cons g (xok_head g) |> fun z => xok_cons (xok_cons (xok_cons (xok_tail (xok_tail g)) (xok_head g)) (xok_head (xok_tail g))) (xok_head g))
    · cases hs
  · cases hs
set_option maxHeartbeats 4000000 in
theorem xstep_good {e : xE} (hK : xcon K Z) (hs : xstep nL K Z e loc st h = some o) (g : xok n h loc st) : xgood n o := by
  unfold xstep at hs
  split at hs
  all_goals first
    | exact xg_ld hs g
    | exact xg_st1 hs g
    | exact xg_st2 hs g
    | exact xg_inc hs g
    | exact xg_ii hs g
    | exact xg_iz hs g
    | (refine xg_i1 ?_ hs g; intros; trivial)
    | (refine xg_jj ?_ hs g; intros; trivial)
    | exact xg_jp hs g
    | exact xg_if1 hs g
    | exact xg_if2 hs g
    | exact xg_ifn hs g
    | exact xg_sw hs g
    | exact xg_dx1 hs g
    | exact xg_a2 (fun a b q => xg_getf hK q g) hs
    | exact xg_a2 (fun a b q => xg_putf q g) hs
    | exact xg_a1 (fun a q => xg_gets hK q g) hs
    | exact xg_ald hK hs g
    | exact xg_asq hs g
    | exact xg_alen hs g
    | exact xg_a2 (fun a b q => xg_newx q g) hs
    | (refine xg_newa ?_ hs g; intros; trivial)
    | (refine xg_a1 ?_ hs; intro a q; refine xg_newa ?_ q g; intros; trivial)
    | exact xg_a2 (fun a b q => xg_ldc q g) hs
    | exact xg_a2 (fun a b q => xg_ldw q g) hs
    | exact xg_a2 (fun a b q => xg_ld2 q g) hs
    | exact xg_a1 (fun a q => xg_cast q g) hs
    | exact xg_virt hs g
    | exact xg_stat hK hs g
    | exact xg_spec hs g
    | exact xg_ret hs g
    | exact xg_retv hs g
    | exact xg_ok hs (xok_cons g trivial)
    | (refine xg_cat1 ?_ hs g; intro v r w hw; simpa using hw)
    | (refine xg_cat1 ?_ hs g; intro v r w hw; exact Or.inr hw)
    | (refine xg_ast ?_ hs g; intro x y m q; unfold xb8 at q; split at q <;> cases q; trivial)
    | (refine xg_ast ?_ hs g; intro x y m q; unfold xb16 at q; split at q <;> cases q; trivial)
    | (refine xg_ast ?_ hs g; intro x y m q; unfold xb64 at q; split at q <;> cases q; trivial)
    | (refine xg_f2 ?_ hs g; intro x y z m q; unfold xfdiv at q; split at q <;> (try split at q) <;> cases q; trivial)
    | (refine xg_f2 ?_ hs g; intro x y z m q; unfold xddiv at q; split at q <;> (try split at q) <;> cases q; trivial)
    | (refine xg_f2 ?_ hs g; intro x y z m q; unfold xfcmp at q; split at q <;> cases q; trivial)
    | (refine xg_f2 ?_ hs g; intro x y z m q; unfold xdcmp at q; split at q <;> cases q; trivial)
    | cases hs
end XG
