/-! ARRAYS OF LONGS: no called method stores into one -/
def xk2k (h h' : xH) : Prop := ∀ (q : Nat) (vs : List Value), h[q]? = some (52, vs) → h'[q]? = some (52, vs)
theorem xk2_refl (h : xH) : xk2k h h := fun _ _ q => q
theorem xk2_trans {h h1 h2 : xH} (a : xk2k h h1) (b : xk2k h1 h2) : xk2k h h2 := fun q vs e => b q vs (a q vs e)
theorem xk2_app (h t : xH) : xk2k h (h ++ t) := by
  intro q vs e
  rw [List.getElem?_append_left (List.getElem?_eq_some_iff.mp e).1]
  exact e
theorem xk2_set {h : xH} {a c : Nat} {vs : List Value} {x : Nat × List Value} (ha : h[a]? = some (c, vs)) (hc : c ≠ 52) : xk2k h (h.set a x) := by
  intro q ws e
  by_cases hq : a = q
  · subst hq
    rw [ha] at e
    cases e
    exact absurd rfl hc
  · rw [List.getElem?_set_ne hq]
    exact e
/-- the heap of an outcome -/
def xhpo : xO → xH
  | .inl (_, _, _, h) => h
  | .inr (.inl (_, _, _, _, h)) => h
  | .inr (.inr (.inl (_, h))) => h
  | .inr (.inr (.inr (_, h))) => h
def xKp2 (h : xH) (r : Option xO) : Prop := ∀ o, r = some o → xk2k h (xhpo o)
section XK2
variable {K : List (Nat × List Value)} {Z : List Value} {nL : Nat} {loc : xL} {st : List Value} {h h' : xH}
theorem xkk_none : xKp2 h none := fun _ e => by cases e
theorem xkk_nx (hh : xk2k h h') : xKp2 h (xnx loc st h') := fun o e => by cases e; exact hh
theorem xkk_jp {t : Option Nat} : xKp2 h (xjp t loc st h) := by
  unfold xjp
  split
  · exact fun o e => by cases e; exact xk2_refl h
  · exact xkk_none
theorem xkk_br {b : Bool} {pc : Nat} {o : Int} : xKp2 h (xbr b pc o loc st h) := by
  cases b
  · exact xkk_nx (xk2_refl h)
  · exact xkk_jp
theorem xkk_ld {p : Value → Bool} {i : Nat} : xKp2 h (xld p loc st h i) := by
  unfold xld; (repeat' split) <;> first | exact xkk_none | exact xkk_nx (xk2_refl h)
theorem xkk_st1 {p : Value → Bool} {i : Nat} : xKp2 h (xst1 p nL loc st h i) := by
  unfold xst1; (repeat' split) <;> first | exact xkk_none | exact xkk_nx (xk2_refl h)
theorem xkk_st2 {p : Value → Bool} {i : Nat} : xKp2 h (xst2 p nL loc st h i) := by
  unfold xst2; (repeat' split) <;> first | exact xkk_none | exact xkk_nx (xk2_refl h)
theorem xkk_inc {i : Nat} {n : Int} : xKp2 h (xinc nL loc st h i n) := by
  unfold xinc; (repeat' split) <;> first | exact xkk_none | exact xkk_nx (xk2_refl h)
theorem xkk_ii {f : Int32 → Int32 → Int32} : xKp2 h (xii f loc st h) := by
  unfold xii; (repeat' split) <;> first | exact xkk_none | exact xkk_nx (xk2_refl h)
theorem xkk_iz {f : Int32 → Int32 → Int32} : xKp2 h (xiz f loc st h) := by
  unfold xiz; (repeat' split) <;> first | exact xkk_none | exact xkk_nx (xk2_refl h)
theorem xkk_i1 {f : Int32 → Value} : xKp2 h (xi1 f loc st h) := by
  unfold xi1; (repeat' split) <;> first | exact xkk_none | exact xkk_nx (xk2_refl h)
theorem xkk_jj {f : Int64 → Int64 → Value} : xKp2 h (xjj f loc st h) := by
  unfold xjj; (repeat' split) <;> first | exact xkk_none | exact xkk_nx (xk2_refl h)
theorem xkk_getf {ci k : Nat} : xKp2 h (xgetf K ci k loc st h) := by
  unfold xgetf; (repeat' split) <;> first | exact xkk_none | exact xkk_nx (xk2_refl h)
theorem xkk_putf {ty : FieldType} {ci k : Nat} (hci : ci ≠ 52) : xKp2 h (xputf ty ci k loc st h) := by
  unfold xputf
  split
  · split
    · split
      · rename_i c vs hc
        split
        · rename_i hq
          have hcc : c = ci := of_decide_eq_true (Bool.and_eq_true _ _ |>.mp hq).1
          exact xkk_nx (xk2_set hc (by rw [hcc]; exact hci))
        · exact xkk_none
      · exact xkk_none
    · exact xkk_none
  · exact xkk_none
theorem xkk_ald {p : Value → Bool} {t : Nat → Nat → Bool} : xKp2 h (xald K p t loc st h) := by
  unfold xald; (repeat' split) <;> first | exact xkk_none | exact xkk_nx (xk2_refl h)
theorem xkk_ast {t : Nat} {f : Value → Option Value} (ht : t ≠ 2) : xKp2 h (xast t f loc st h) := by
  unfold xast
  split
  · split
    · split
      · rename_i c vs hc
        split
        · rename_i hq
          have hcc : c = 50 + t := of_decide_eq_true (Bool.and_eq_true _ _ |>.mp hq).1
          split
          · exact xkk_nx (xk2_set hc (by omega))
          · exact xkk_none
        · exact xkk_none
      · exact xkk_none
    · exact xkk_none
  · exact xkk_none
theorem xkk_asq : xKp2 h (xasq loc st h) := by
  unfold xasq
  split
  · split
    · split
      · rename_i c vs d ds hc hd
        split
        · rename_i hq
          have hcc : 53 ≤ c := of_decide_eq_true (Bool.and_eq_true _ _ |>.mp hq).1
          exact xkk_nx (xk2_set hc (by omega))
        · exact xkk_none
      · exact xkk_none
    · exact xkk_none
  · exact xkk_none
theorem xkk_alen : xKp2 h (xalen K loc st h) := by
  unfold xalen; (repeat' split) <;> first | exact xkk_none | exact xkk_nx (xk2_refl h)
theorem xkk_new {ci : Nat} : xKp2 h (xnew ci loc st h) := by
  unfold xnew; (repeat' split) <;> first | exact xkk_none | exact xkk_nx (xk2_app h _)
theorem xkk_newa {t : Nat} {v : Value} : xKp2 h (xnewa t v loc st h) := by
  unfold xnewa; (repeat' split) <;> first | exact xkk_none | exact xkk_nx (xk2_app h _)
theorem xkk_clone : xKp2 h (xclone loc st h) := by
  unfold xclone; (repeat' split) <;> first | exact xkk_none | exact xkk_nx (xk2_app h _)
theorem xkk_copy : xKp2 h (xcopy K loc st h) := by
  unfold xcopy
  split
  · split
    · split
      · rename_i c g d f hc hd
        split
        · rename_i hq
          have hcc : c = 50 := of_decide_eq_true (Bool.and_eq_true _ _ |>.mp hq).1
          exact xkk_nx (xk2_set hc (by omega))
        · exact xkk_none
      · exact xkk_none
    · exact xkk_none
  · exact xkk_none
theorem xkk_cast : xKp2 h (xcast loc st h) := by
  unfold xcast; (repeat' split) <;> first | exact xkk_none | exact xkk_nx (xk2_refl h)
theorem xkk_call {mi n : Nat} : xKp2 h (xcall mi n loc st h) := by
  unfold xcall
  split
  · exact fun o e => by cases e; exact xk2_refl h
  · exact xkk_none
theorem xkk_sw {pc : Nat} {d lo hi : Int} {offs : Array Int} : xKp2 h (xsw pc d lo hi offs loc st h) := by
  unfold xsw; (repeat' split) <;> first | exact xkk_none | exact xkk_jp
theorem xkk_gets {j : Nat} : xKp2 h (xgets Z j loc st h) := by
  unfold xgets; (repeat' split) <;> first | exact xkk_none | exact xkk_nx (xk2_refl h)
theorem xkk_f1 {f : Value → Option Value} : xKp2 h (xf1 f loc st h) := by
  unfold xf1; (repeat' split) <;> first | exact xkk_none | exact xkk_nx (xk2_refl h)
theorem xkk_f2 {f : Value → Value → Option Value} : xKp2 h (xf2 f loc st h) := by
  unfold xf2; (repeat' split) <;> first | exact xkk_none | exact xkk_nx (xk2_refl h)
theorem xkk_cat1 {f : Value → List Value → List Value} : xKp2 h (xcat1 loc st h f) := by
  unfold xcat1; (repeat' split) <;> first | exact xkk_none | exact xkk_nx (xk2_refl h)
theorem xkk_dx1 : xKp2 h (xdx1 loc st h) := by
  unfold xdx1; (repeat' split) <;> first | exact xkk_none | exact xkk_nx (xk2_refl h)
theorem xkk_a1 {aux : List Nat} {f : Nat → Option xO} (hf : ∀ a, xKp2 h (f a)) : xKp2 h (xa1 aux f) := by
  unfold xa1; split
  · exact hf _
  · exact xkk_none
theorem xkk_a2 {aux : List Nat} {f : Nat → Nat → Option xO} (hf : ∀ a b, xKp2 h (f a b)) : xKp2 h (xa2 aux f) := by
  unfold xa2; split
  · exact hf _ _
  · exact xkk_none
theorem xkk_newx {k i : Nat} : xKp2 h (xnewx loc st h k i) := by
  unfold xnewx; split
  · exact xkk_new
  · split
    · exact fun o e => by cases e; exact xk2_refl h
    · exact xkk_none
theorem xkk_ldc {k v : Nat} : xKp2 h (xldc loc st h k v) := by
  unfold xldc; (repeat' split) <;> first | exact xkk_none | exact xkk_nx (xk2_refl h)
theorem xkk_ldw {k v : Nat} : xKp2 h (xldw loc st h k v) := by
  unfold xldw; (repeat' split) <;> first | exact xkk_none | exact xkk_nx (xk2_refl h)
theorem xkk_ld2 {k v : Nat} : xKp2 h (xld2 loc st h k v) := by
  unfold xld2; (repeat' split) <;> first | exact xkk_none | exact xkk_nx (xk2_refl h)
theorem xkk_virt {aux : List Nat} : xKp2 h (xvirt K loc st h aux) := by
  unfold xvirt
  split
  · split
    · exact xkk_clone
    · split
      · split
        · exact xkk_call
        · exact xkk_none
      · exact xkk_none
  · exact xkk_none
theorem xkk_stat {aux : List Nat} : xKp2 h (xstat K loc st h aux) := by
  unfold xstat
  split
  · split
    · exact xkk_copy
    · split
      · exact xkk_f1
      · split
        · exact xkk_f1
        · exact xkk_a2 (fun _ _ => xkk_call)
  · exact xkk_none
theorem xkk_spec {aux : List Nat} : xKp2 h (xspec K loc st h aux) := by
  unfold xspec
  split
  · split
    · (repeat' split) <;> first | exact xkk_none | exact xkk_nx (xk2_refl h)
    · refine xkk_a2 (fun mi n => ?_)
      split
      · exact xkk_call
      · exact xkk_none
  · exact xkk_none
theorem xkk_if1 {c : ClassFile.Cond} {pc : Nat} {o : Int} : xKp2 h (xif1 c pc o loc st h) := by
  unfold xif1; (repeat' split) <;> first | exact xkk_none | exact xkk_br
theorem xkk_if2 {c : ClassFile.Cond} {pc : Nat} {o : Int} : xKp2 h (xif2 c pc o loc st h) := by
  unfold xif2; (repeat' split) <;> first | exact xkk_none | exact xkk_br
theorem xkk_ifn {b : Bool} {pc : Nat} {o : Int} : xKp2 h (xifn b pc o loc st h) := by
  unfold xifn; (repeat' split) <;> first | exact xkk_none | exact xkk_br
theorem xkk_ret {p : Value → Bool} : xKp2 h (xret p st h) := by
  unfold xret; (repeat' split) <;> first | exact xkk_none | exact fun o e => by cases e; exact xk2_refl h
theorem xkk_retv : xKp2 h (xretv st h) := by
  unfold xretv; (repeat' split) <;> first | exact xkk_none | exact fun o e => by cases e; exact xk2_refl h
/-- an instruction that stores no long into an array -/
def xe52k (e : xE) : Bool := match e.2.1 with
  | .lastore => false
  | .putfield _ => match e.2.2.2 with
    | a :: _ => !decide (a = 52)
    | [] => true
  | _ => true
theorem xkk_put {aux : List Nat} (ha : (match aux with
    | a :: _ => !decide (a = 52)
    | [] => true) = true) : xKp2 h (xa2 aux fun ci k => xputf (xFt ci k) ci k loc st h) := by
  unfold xa2
  split
  · rename_i a b _
    exact xkk_putf (by simpa using ha)
  · exact xkk_none
theorem xkk_step (e : xE) (he : xe52k e = true) : xKp2 h (xstep nL K Z e loc st h) := by
  obtain ⟨pc, i, ln, aux⟩ := e
  cases i
  case newarray t0 => cases t0 <;> first | exact xkk_newa | exact xkk_none
  case putfield j => exact xkk_put he
  case lastore => cases he
  all_goals first
    | exact xkk_ld
    | exact xkk_st1
    | exact xkk_st2
    | exact xkk_inc
    | exact xkk_nx (xk2_refl h)
    | exact xkk_ii
    | exact xkk_iz
    | exact xkk_i1
    | exact xkk_jj
    | exact xkk_f2
    | exact xkk_cat1
    | exact xkk_dx1
    | exact xkk_jp
    | exact xkk_if1
    | exact xkk_if2
    | exact xkk_ifn
    | exact xkk_sw
    | exact xkk_a2 fun _ _ => xkk_getf
    | exact xkk_a1 fun _ => xkk_gets
    | exact xkk_ald
    | exact xkk_ast (by decide)
    | exact xkk_asq
    | exact xkk_alen
    | exact xkk_a2 fun _ _ => xkk_newx
    | exact xkk_a1 fun _ => xkk_newa
    | exact xkk_a2 fun _ _ => xkk_ldc
    | exact xkk_a2 fun _ _ => xkk_ldw
    | exact xkk_a2 fun _ _ => xkk_ld2
    | exact xkk_a1 fun _ => xkk_cast
    | exact xkk_virt
    | exact xkk_stat
    | exact xkk_spec
    | exact xkk_ret
    | exact xkk_retv
    | (unfold xstep; dsimp only; exact xkk_ald)
    | exact xkk_none
end XK2
theorem xseek_all {p : xE → Bool} : ∀ (cs : List xE) (t : Nat), cs.all p = true → (xseek cs t).all p = true := by
  intro cs
  induction cs with
  | nil => intro t _; rfl
  | cons e cs ih =>
    intro t hp
    rw [List.all_cons, Bool.and_eq_true] at hp
    unfold xseek
    split
    · rw [List.all_cons, hp.1, hp.2]; rfl
    · exact ih t hp.2
theorem xk2_ev {call : Nat → List Value → xH → Option (xA × xH)} {nL : Nat} {K : List (Nat × List Value)} {Z : List Value} {hs : List (Nat × Nat × Nat × Nat)} {code : List xE} (hc : ∀ mi as h r h', call mi as h = some (r, h') → xk2k h h') (hcode : code.all xe52k = true) : ∀ (n : Nat) (cs : List xE) (loc : xL) (st : List Value) (h : xH) (r : xA) (h' : xH), cs.all xe52k = true → xev call nL K Z hs code n cs loc st h = some (r, h') → xk2k h h' := by
  intro n
  induction n with
  | zero => intro cs loc st h r h' _ hx; cases hx
  | succ n ih =>
    intro cs loc st h r h' hcs hx
    cases cs with
    | nil => cases hx
    | cons e cs =>
      rw [List.all_cons, Bool.and_eq_true] at hcs
      rw [xev] at hx
      cases hq : xstep nL K Z e loc st h with
      | none => rw [hq] at hx; cases hx
      | some o =>
        have hk := xkk_step (nL := nL) (K := K) (Z := Z) (loc := loc) (st := st) (h := h) e hcs.1 o hq
        rw [hq] at hx
        rcases o with ⟨t, l, s, hh⟩ | ⟨mi, a, l, s, hh⟩ | ⟨v, hh⟩ | ⟨E, hh⟩
        · cases t with
          | none => exact xk2_trans hk (ih _ _ _ _ _ _ hcs.2 hx)
          | some t => exact xk2_trans hk (ih _ _ _ _ _ _ (xseek_all code t hcode) hx)
        · dsimp only at hx
          cases hy : call mi a hh with
          | none => rw [hy] at hx; cases hx
          | some y =>
            rw [hy] at hx
            obtain ⟨ya, yh⟩ := y
            have hk2 := xk2_trans hk (hc _ _ _ _ _ hy)
            cases ya with
            | ok v => exact xk2_trans hk2 (ih _ _ _ _ _ _ hcs.2 hx)
            | error q =>
              obtain ⟨E, q⟩ := q
              dsimp only at hx
              cases hm : xmay e with
              | false => rw [hm] at hx; cases hx
              | true =>
                rw [hm] at hx
                dsimp only at hx
                cases hh2 : xhand hs e.1 E with
                | none => rw [hh2] at hx; cases hx; exact hk2
                | some t => rw [hh2] at hx; exact xk2_trans hk2 (ih _ _ _ _ _ _ (xseek_all code t hcode) hx)
        · cases hx
          exact hk
        · dsimp only at hx
          split at hx
          · cases hx
            exact xk2_trans hk (xk2_app _ _)
          · cases hx
theorem xMs_52 : xMs.all (fun m => m.2.2.2.2.2.2.all xe52k) = true := by decide +kernel
theorem xk2_go {K : List (Nat × List Value)} {Z : List Value} : ∀ (d f mi : Nat) (args : List Value) (h : xH) (r : xA) (h' : xH), xgo xMs K Z d f mi args h = some (r, h') → xk2k h h' := by
  intro d
  induction d with
  | zero => intro f mi args h r h' hx; cases hx
  | succ d ih =>
    intro f mi args h r h' hx
    rw [xgo] at hx
    split at hx
    · cases hx
    · rename_i m hm
      split at hx
      · cases hx
      · have hcode := List.all_eq_true.mp xMs_52 m (List.mem_of_getElem? hm)
        cases hq : xev (xgo xMs K Z d f) m.2.2.1 K Z (xhs m) m.2.2.2.2.2.2 f m.2.2.2.2.2.2 (lv_args 0 args) [] h with
        | none => rw [hq] at hx; cases hx
        | some y =>
          obtain ⟨yr, yh⟩ := y
          have hk := xk2_ev (fun mi as h r h' hh => ih f mi as h r h' hh) hcode _ _ _ _ _ _ _ hcode hq
          rw [hq] at hx
          cases yr with
          | error q => cases hx; exact hk
          | ok v =>
            dsimp only at hx
            split at hx
            · cases hx; exact hk
            · cases hx
/-- a run keeps the arrays of longs -/
theorem xk2_run {K : List (Nat × List Value)} {Z : List Value} {d mi : Nat} {args : List Value} {h : xH} {r : xA} {h' : xH} (hr : xRn K Z d mi args h r h') : xk2k h h' := by
  obtain ⟨n0, hn⟩ := hr
  exact xk2_go d n0 mi args h r h' (hn n0 (Nat.le_refl _))
