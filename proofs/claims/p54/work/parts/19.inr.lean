/-! CALLS, RETURNS AND THROWS: what they are, and that calls are true to the machine -/
section XQ
variable {nL : Nat} {K : List (Nat × List Value)} {Z : List Value} {loc : xL} {st : List Value} {h : xH} {o : (Nat × List Value × xL × List Value × xH) ⊕ ((Option Value × xH) ⊕ (Nat × xH))}
theorem xq_ok {l' : xL} {s' : List Value} {h' : xH} : ¬ xnx l' s' h' = some (.inr o) := by intro q; cases q
theorem xq_jp {t : Option Nat} {l' : xL} {s' : List Value} {h' : xH} : ¬ xjp t l' s' h' = some (.inr o) := by
  intro q; unfold xjp at q; split at q <;> cases q
theorem xq_br {b : Bool} {pc : Nat} {off : Int} {l' : xL} {s' : List Value} {h' : xH} : ¬ xbr b pc off l' s' h' = some (.inr o) := by
  intro q; unfold xbr at q; split at q
  · exact xq_jp q
  · exact xq_ok q
theorem xq_ld {p : Value → Bool} {i : Nat} : ¬ xld p loc st h i = some (.inr o) := by
  intro q; unfold xld at q; (repeat' split at q) <;> first | exact xq_ok q | cases q
theorem xq_st1 {p : Value → Bool} {i : Nat} : ¬ xst1 p nL loc st h i = some (.inr o) := by
  intro q; unfold xst1 at q; (repeat' split at q) <;> first | exact xq_ok q | cases q
theorem xq_st2 {p : Value → Bool} {i : Nat} : ¬ xst2 p nL loc st h i = some (.inr o) := by
  intro q; unfold xst2 at q; (repeat' split at q) <;> first | exact xq_ok q | cases q
theorem xq_inc {i : Nat} {n : Int} : ¬ xinc nL loc st h i n = some (.inr o) := by
  intro q; unfold xinc at q; (repeat' split at q) <;> first | exact xq_ok q | cases q
theorem xq_ii {f : Int32 → Int32 → Int32} : ¬ xii f loc st h = some (.inr o) := by
  intro q; unfold xii at q; (repeat' split at q) <;> first | exact xq_ok q | cases q
theorem xq_iz {f : Int32 → Int32 → Int32} : ¬ xiz f loc st h = some (.inr o) := by
  intro q; unfold xiz at q; (repeat' split at q) <;> first | exact xq_ok q | cases q
theorem xq_i1 {f : Int32 → Value} : ¬ xi1 f loc st h = some (.inr o) := by
  intro q; unfold xi1 at q; (repeat' split at q) <;> first | exact xq_ok q | cases q
theorem xq_jj {f : Int64 → Int64 → Value} : ¬ xjj f loc st h = some (.inr o) := by
  intro q; unfold xjj at q; (repeat' split at q) <;> first | exact xq_ok q | cases q
theorem xq_if1 {c : ClassFile.Cond} {pc : Nat} {off : Int} : ¬ xif1 c pc off loc st h = some (.inr o) := by
  intro q; unfold xif1 at q; split at q
  · exact xq_br q
  · cases q
theorem xq_if2 {c : ClassFile.Cond} {pc : Nat} {off : Int} : ¬ xif2 c pc off loc st h = some (.inr o) := by
  intro q; unfold xif2 at q; split at q
  · exact xq_br q
  · cases q
theorem xq_ifn {b : Bool} {pc : Nat} {off : Int} : ¬ xifn b pc off loc st h = some (.inr o) := by
  intro q; unfold xifn at q; split at q
  · exact xq_br q
  · exact xq_br q
  · cases q
theorem xq_sw {pc : Nat} {d lo hi : Int} {offs : Array Int} : ¬ xsw pc d lo hi offs loc st h = some (.inr o) := by
  intro q; unfold xsw at q; (repeat' split at q) <;> first | exact xq_jp q | cases q
theorem xq_dx1 : ¬ xdx1 loc st h = some (.inr o) := by
  intro q; unfold xdx1 at q; (repeat' split at q) <;> first | exact xq_ok q | cases q
theorem xq_cat1 {f : Value → List Value → List Value} : ¬ xcat1 loc st h f = some (.inr o) := by
  intro q; unfold xcat1 at q; (repeat' split at q) <;> first | exact xq_ok q | cases q
theorem xq_getf {ci k : Nat} : ¬ xgetf K ci k loc st h = some (.inr o) := by
  intro q; unfold xgetf at q; (repeat' split at q) <;> first | exact xq_ok q | cases q
theorem xq_putf {ty : FieldType} {ci k : Nat} : ¬ xputf ty ci k loc st h = some (.inr o) := by
  intro q; unfold xputf at q; (repeat' split at q) <;> first | exact xq_ok q | cases q
theorem xq_gets {j : Nat} : ¬ xgets Z j loc st h = some (.inr o) := by
  intro q; unfold xgets at q; (repeat' split at q) <;> first | exact xq_ok q | cases q
theorem xq_ald {p : Value → Bool} {t : Nat → Nat → Bool} : ¬ xald K p t loc st h = some (.inr o) := by
  intro q; unfold xald at q; (repeat' split at q) <;> first | exact xq_ok q | cases q
theorem xq_ast {t : Nat} {f : Value → Option Value} : ¬ xast t f loc st h = some (.inr o) := by
  intro q; unfold xast at q; (repeat' split at q) <;> first | exact xq_ok q | cases q
theorem xq_asq : ¬ xasq loc st h = some (.inr o) := by
  intro q; unfold xasq at q; (repeat' split at q) <;> first | exact xq_ok q | cases q
theorem xq_alen : ¬ xalen K loc st h = some (.inr o) := by
  intro q; unfold xalen at q; (repeat' split at q) <;> first | exact xq_ok q | cases q
theorem xq_newa {t : Nat} {v : Value} : ¬ xnewa t v loc st h = some (.inr o) := by
  intro q; unfold xnewa at q; (repeat' split at q) <;> first | exact xq_ok q | cases q
theorem xq_ldc {k v : Nat} : ¬ xldc loc st h k v = some (.inr o) := by
  intro q; unfold xldc at q; (repeat' split at q) <;> first | exact xq_ok q | cases q
theorem xq_ldw {k v : Nat} : ¬ xldw loc st h k v = some (.inr o) := by
  intro q; unfold xldw at q; (repeat' split at q) <;> first | exact xq_ok q | cases q
theorem xq_ld2 {k v : Nat} : ¬ xld2 loc st h k v = some (.inr o) := by
  intro q; unfold xld2 at q; (repeat' split at q) <;> first | exact xq_ok q | cases q
theorem xq_cast : ¬ xcast loc st h = some (.inr o) := by
  intro q; unfold xcast at q; (repeat' split at q) <;> first | exact xq_ok q | cases q
theorem xq_f2 {f : Value → Value → Option Value} : ¬ xf2 f loc st h = some (.inr o) := by
  intro q; unfold xf2 at q; (repeat' split at q) <;> first | exact xq_ok q | cases q
theorem xq_f1 {f : Value → Option Value} : ¬ xf1 f loc st h = some (.inr o) := by
  intro q; unfold xf1 at q; (repeat' split at q) <;> first | exact xq_ok q | cases q
theorem xq_clone : ¬ xclone loc st h = some (.inr o) := by
  intro q; unfold xclone at q; (repeat' split at q) <;> first | exact xq_ok q | cases q
theorem xq_copy : ¬ xcopy K loc st h = some (.inr o) := by
  intro q; unfold xcopy at q; (repeat' split at q) <;> first | exact xq_ok q | cases q
theorem xq_a1 {aux : List Nat} {f : Nat → Option xO} (hf : ∀ a, ¬ f a = some (.inr o)) : ¬ xa1 aux f = some (.inr o) := by
  intro q; unfold xa1 at q; split at q
  · exact hf _ q
  · cases q
theorem xq_a2 {aux : List Nat} {f : Nat → Nat → Option xO} (hf : ∀ a b, ¬ f a b = some (.inr o)) : ¬ xa2 aux f = some (.inr o) := by
  intro q; unfold xa2 at q; split at q
  · exact hf _ _ q
  · cases q
set_option maxHeartbeats 4000000 in
/-- only these call, return, or throw -/
theorem xstep_inr {e : xE} (hs : xstep nL K Z e loc st h = some (.inr o)) :
    (∃ i, e.2.1 = .invokevirtual i ∧ xvirt K loc st h e.2.2.2 = some (.inr o)) ∨ (∃ i, e.2.1 = .invokestatic i ∧ xstat K loc st h e.2.2.2 = some (.inr o)) ∨ (∃ i, e.2.1 = .invokespecial i ∧ xspec K loc st h e.2.2.2 = some (.inr o)) ∨
    (∃ i, e.2.1 = .new i ∧ (xa2 e.2.2.2 fun k i => xnewx loc st h k i) = some (.inr o)) ∨ (e.2.1 = .ireturn ∧ xret xisI st h = some (.inr o)) ∨ (e.2.1 = .lreturn ∧ xret xisJ st h = some (.inr o)) ∨ (e.2.1 = .freturn ∧ xret xisF st h = some (.inr o)) ∨ (e.2.1 = .dreturn ∧ xret xisD st h = some (.inr o)) ∨ (e.2.1 = .areturn ∧ xret xisA st h = some (.inr o)) ∨ (e.2.1 = .return_ ∧ xretv st h = some (.inr o)) := by
  obtain ⟨pc, i0, ln, aux⟩ := e
  unfold xstep at hs
  dsimp only at hs ⊢
  split at hs
  all_goals first
    | exact absurd hs xq_ld
    | exact absurd hs xq_st1
    | exact absurd hs xq_st2
    | exact absurd hs xq_inc
    | exact absurd hs xq_ii
    | exact absurd hs xq_iz
    | exact absurd hs xq_i1
    | exact absurd hs xq_jj
    | exact absurd hs xq_jp
    | exact absurd hs xq_if1
    | exact absurd hs xq_if2
    | exact absurd hs xq_ifn
    | exact absurd hs xq_sw
    | exact absurd hs xq_dx1
    | exact absurd hs xq_cat1
    | exact absurd hs (xq_a2 fun _ _ => xq_getf)
    | exact absurd hs (xq_a2 fun _ _ => xq_putf)
    | exact absurd hs (xq_a1 fun _ => xq_gets)
    | exact absurd hs xq_ald
    | exact absurd hs xq_ast
    | exact absurd hs xq_asq
    | exact absurd hs xq_alen
    | exact absurd hs xq_newa
    | exact absurd hs (xq_a1 fun _ => xq_newa)
    | exact absurd hs (xq_a2 fun _ _ => xq_ldc)
    | exact absurd hs (xq_a2 fun _ _ => xq_ldw)
    | exact absurd hs (xq_a2 fun _ _ => xq_ld2)
    | exact absurd hs (xq_a1 fun _ => xq_cast)
    | exact absurd hs xq_f2
    | exact absurd hs xq_ok
    | exact Or.inl ⟨_, rfl, hs⟩
    | exact Or.inr (Or.inl ⟨_, rfl, hs⟩)
    | exact Or.inr (Or.inr (Or.inl ⟨_, rfl, hs⟩))
    | exact Or.inr (Or.inr (Or.inr (Or.inl ⟨_, rfl, hs⟩)))
    | exact Or.inr (Or.inr (Or.inr (Or.inr (Or.inl ⟨rfl, hs⟩))))
    | exact Or.inr (Or.inr (Or.inr (Or.inr (Or.inr (Or.inl ⟨rfl, hs⟩)))))
    | exact Or.inr (Or.inr (Or.inr (Or.inr (Or.inr (Or.inr (Or.inl ⟨rfl, hs⟩))))))
    | exact Or.inr (Or.inr (Or.inr (Or.inr (Or.inr (Or.inr (Or.inr (Or.inl ⟨rfl, hs⟩)))))))
    | exact Or.inr (Or.inr (Or.inr (Or.inr (Or.inr (Or.inr (Or.inr (Or.inr (Or.inl ⟨rfl, hs⟩))))))))
    | exact Or.inr (Or.inr (Or.inr (Or.inr (Or.inr (Or.inr (Or.inr (Or.inr (Or.inr ⟨rfl, hs⟩))))))))
    | cases hs
/-- a call, taken apart -/
theorem xcall_inr {mi n : Nat} (hs : xcall mi n loc st h = some (.inr o)) : n ≤ st.length ∧ ((st.drop n).map fun v => v.category).sum ≤ 8 ∧ o = .inl (mi, (st.take n).reverse, loc, st.drop n, h) := by
  unfold xcall at hs
  split at hs
  · rename_i q
    obtain ⟨q1, q2⟩ := Bool.and_eq_true _ _ |>.mp q
    cases hs
    exact ⟨of_decide_eq_true q1, of_decide_eq_true q2, rfl⟩
  · cases hs
theorem xvirt_inr {aux : List Nat} (hs : xvirt K loc st h aux = some (.inr o)) : ∃ k mi n I rc r, aux = k :: mi :: n :: I :: rc :: r ∧ k ≠ 9 ∧ xrcv K h st n (xrc k rc) = true ∧ xcall mi n loc st h = some (.inr o) := by
  unfold xvirt at hs
  split at hs
  · split at hs
    · exact absurd hs xq_clone
    · rename_i hk
      split at hs
      · split at hs
        · rename_i hr
          exact ⟨_, _, _, _, _, _, rfl, of_decide_eq_false hk, hr, hs⟩
        · cases hs
      · cases hs
  · cases hs
theorem xstat_inr {aux : List Nat} (hs : xstat K loc st h aux = some (.inr o)) : ∃ k mi n r, aux = k :: mi :: n :: r ∧ k ≠ 8 ∧ k ≠ 10 ∧ k ≠ 11 ∧ xcall mi n loc st h = some (.inr o) := by
  unfold xstat at hs
  split at hs
  · split at hs
    · exact absurd hs xq_copy
    · rename_i h1
      split at hs
      · exact absurd hs xq_f1
      · rename_i h2
        split at hs
        · exact absurd hs xq_f1
        · rename_i h3
          unfold xa2 at hs
          split at hs
          · exact ⟨_, _, _, _, rfl, of_decide_eq_false h1, of_decide_eq_false h2, of_decide_eq_false h3, hs⟩
          · cases hs
  · cases hs
theorem xspec_inr {aux : List Nat} (hs : xspec K loc st h aux = some (.inr o)) : ∃ k mi n r, aux = k :: mi :: n :: r ∧ k ≠ 7 ∧ xrf st n = true ∧ (k = 4 → xrcv K h st n 1 = true) ∧ xcall mi n loc st h = some (.inr o) := by
  unfold xspec at hs
  split at hs
  · split at hs
    · split at hs
      · split at hs
        · exact absurd hs xq_ok
        · cases hs
      · cases hs
    · rename_i h1
      unfold xa2 at hs
      split at hs
      · dsimp only at hs
        split at hs
        · rename_i hr
          obtain ⟨r1, r2⟩ := Bool.and_eq_true _ _ |>.mp hr
          refine ⟨_, _, _, _, rfl, of_decide_eq_false h1, r1, fun h4 => ?_, hs⟩
          rcases Bool.or_eq_true _ _ |>.mp r2 with r2 | r2
          · subst h4; cases r2
          · exact r2
        · cases hs
      · cases hs
  · cases hs
theorem xnewx_inr {aux : List Nat} (hs : (xa2 aux fun k i => xnewx loc st h k i) = some (.inr o)) : ∃ i r, aux = 1 :: i :: r ∧ xroom st = true ∧ o = .inr (.inr (i, h)) := by
  unfold xa2 at hs
  split at hs
  · dsimp only at hs
    unfold xnewx at hs
    split at hs
    · unfold xnew at hs
      split at hs
      · exact absurd hs xq_ok
      · cases hs
    · split at hs
      · rename_i q
        obtain ⟨q1, q2⟩ := Bool.and_eq_true _ _ |>.mp q
        cases of_decide_eq_true q1
        cases hs
        exact ⟨_, _, rfl, q2, rfl⟩
      · cases hs
  · cases hs
theorem xret_inr {p : Value → Bool} (hs : xret p st h = some (.inr o)) : ∃ v, st = [v] ∧ p v = true ∧ o = .inr (.inl (some v, h)) := by
  unfold xret at hs
  split at hs
  · split at hs
    · rename_i q
      cases hs
      exact ⟨_, rfl, q, rfl⟩
    · cases hs
  · cases hs
theorem xretv_inr (hs : xretv st h = some (.inr o)) : st = [] ∧ o = .inr (.inl (none, h)) := by
  unfold xretv at hs
  split at hs
  · cases hs
    exact ⟨rfl, rfl⟩
  · cases hs
end XQ
section XO2
variable {p : Program} {l : Launch} {e : Env} {R : Room} {s : State} {m : MethodId} {args : Array Value} {below : List Frame} {meth : Method} {c : Code} {H : Heap} {locs : List Loc} {cells slots : Nat}
variable {cc : ByteArray} {nL d : Nat} {ls : Array Slot} {b0 : Nat} {D : va_G} {tyC : Nat → ClassId} {ad : Nat → Nat} {h h' h1 : xH} {loc loc1 : xL} {st st1 : List Value} {r : xA}
variable {xs : List Int32} {z : Value} {y : MethodName} {hh : Bool} {e0 : xE} {mi : Nat} {as : List Value}
theorem xP_some {mi : Nat} {M : xMi} (h1 : xMs[mi]? = some M) : ∃ P, xPs[mi]? = some P := by
  have h2 := (List.getElem?_eq_some_iff.mp h1).1
  rw [xPs_len] at h2
  exact ⟨_, List.getElem?_eq_getElem h2⟩
theorem xmay_ok {aux : List Nat} {k : Nat} {ra : List Nat} {pc ln : Nat} {i0 : Instr} (hm : ∀ E q, r = .error (E, q) → xmay (pc, i0, ln, k :: ra) = true) (hk : 1 < k) : ∃ v, r = .ok v := by
  cases r with
  | ok v => exact ⟨v, rfl⟩
  | error q => exact absurd (of_decide_eq_true (hm q.1 q.2 rfl)) (by omega)
set_option maxHeartbeats 4000000 in
theorem xo_call (hck : xchk y cc hh e0 = true) (hs : xstep nL (xK xs) (xZ z) e0 loc st h = some (.inr (.inl (mi, as, loc1, st1, h1)))) (hM : ∃ M, xMs[mi]? = some M ∧ xMet xs z l d M as h1 r h') (hm : ∀ E q, r = .error (E, q) → xmay e0 = true)
    (S : xShared p R s m c cc nL d y.cls ls xs z b0 D tyC ad h H locs cells slots (h'.length - h.length) (xsz h' - xsz h)) :
    loc1 = loc ∧ h1 = h ∧ e0.2.2.1 = 3 ∧ vx_Run p l e R s m args below meth c H locs cells slots (h'.length - h.length) (xsz h' - xsz h) (F0 m e0.1 ls (st.map (xcV ad))) (st1.map (xcV ad)) (xQc b0 D tyC ad h r h' ((as.map (xcV ad)).toArray)) (xXC b0 D tyC ad h r h') (fun q => b0 ≤ q) := by
  obtain ⟨pc, i0, ln, aux⟩ := e0
  unfold xchk at hck
  obtain ⟨hd, hck⟩ := Bool.and_eq_true _ _ |>.mp hck
  obtain ⟨hlen, hk⟩ := Bool.and_eq_true _ _ |>.mp hck
  have hdg : decode cc pc = .ok (i0, ln) := of_decide_eq_true hd
  have hq := xstep_inr hs
  dsimp only at hlen hk hq hm ⊢
  clear hs hd hck
  obtain ⟨M, hM1, hM⟩ := hM
  rcases hq with ⟨i, rfl, hq⟩ | ⟨i, rfl, hq⟩ | ⟨i, rfl, hq⟩ | ⟨i, rfl, hq⟩ | ⟨rfl, hq⟩ | ⟨rfl, hq⟩ | ⟨rfl, hq⟩ | ⟨rfl, hq⟩ | ⟨rfl, hq⟩ | ⟨rfl, hq⟩
  · cases xnat_eq (n := 3) hlen
    obtain ⟨k, mi', n, I, rc, ra, rfl, hk9, hrv, hq⟩ := xvirt_inr hq
    obtain ⟨hn, hcat, ho⟩ := xcall_inr hq
    cases ho
    refine ⟨rfl, rfl, rfl, ?_⟩
    replace hk : xbvirt y.cls i (k :: mi :: n :: I :: rc :: ra) = true := hk
    obtain ⟨P, hP1⟩ := xP_some hM1
    unfold xbvirt at hk
    dsimp only at hk
    rw [decide_eq_false hk9] at hk
    dsimp only at hk
    rw [hM1, hP1] at hk
    dsimp only at hk
    simp only [Bool.and_eq_true, decide_eq_true_eq] at hk
    obtain ⟨k1, k2, k3, k4, k5⟩ := hk
    split at k5
    · rename_i hk0
      cases of_decide_eq_true hk0
      simp only [Bool.and_eq_true] at k5
      exact xc_virt0 S hM1 hP1 hM k1 k2 k3 k4 k5.1 k5.2.1 k5.2.2 hn hrv hcat hdg
    · split at k5
      · rename_i U J S0 mo ra' heq
        cases heq
        split at k5
        · rename_i Mo Po hMo hPo
          simp only [Bool.and_eq_true, decide_eq_true_eq] at k5
          obtain ⟨j0, j1, j2, j3, j4, j5, j6, j7, j8⟩ := k5
          subst j0
          obtain ⟨v, rfl⟩ := xmay_ok (aux := []) hm (by omega)
          exact xc_virt3 (mo := mo) (Mo := Mo) (Po := Po) S hM1 hP1 hM k1 k2 k3 k4 j1 j2 j3 (xwc_wd j4) j5 j6 j7 j8 hn hrv hcat hdg
        · cases k5
      · cases k5
  · cases xnat_eq (n := 3) hlen
    obtain ⟨k, mi', n, ra, rfl, hk8, hk10, hk11, hq⟩ := xstat_inr hq
    obtain ⟨hn, hcat, ho⟩ := xcall_inr hq
    cases ho
    refine ⟨rfl, rfl, rfl, ?_⟩
    replace hk : xbstat y.cls i (k :: mi :: n :: ra) = true := hk
    obtain ⟨P, hP1⟩ := xP_some hM1
    unfold xbstat at hk
    dsimp only at hk
    rw [decide_eq_false hk8, decide_eq_false hk10, decide_eq_false hk11] at hk
    dsimp only at hk
    rw [hM1, hP1] at hk
    dsimp only at hk
    simp only [Bool.and_eq_true] at hk
    obtain ⟨k1, k2, k3⟩ := hk
    split at k3
    · split at k3
      · exact xc_stat1 S hM1 hP1 hM k1 k2 k3 hn hcat hdg
      · simp only [Bool.and_eq_true, decide_eq_true_eq] at k3
        obtain ⟨j0, j1, j2⟩ := k3
        subst j0
        obtain ⟨v, rfl⟩ := xmay_ok (aux := []) hm (by omega)
        exact xc_stat6 S hM1 hP1 hM j1 k1 k2 j2 hn hcat hdg
    · cases k3
  · cases xnat_eq (n := 3) hlen
    obtain ⟨k, mi', n, ra, rfl, hk7, hrf, hr4, hq⟩ := xspec_inr hq
    obtain ⟨hn, hcat, ho⟩ := xcall_inr hq
    cases ho
    refine ⟨rfl, rfl, rfl, ?_⟩
    replace hk : xbspec y.cls i (k :: mi :: n :: ra) = true := hk
    obtain ⟨P, hP1⟩ := xP_some hM1
    unfold xbspec at hk
    dsimp only at hk
    rw [decide_eq_false hk7] at hk
    dsimp only at hk
    rw [hM1, hP1] at hk
    dsimp only at hk
    simp only [Bool.and_eq_true, decide_eq_true_eq] at hk
    obtain ⟨k1, k2, k3, k4, k5⟩ := hk
    split at k5
    · split at k5
      · rename_i h4
        cases of_decide_eq_true h4
        obtain ⟨v, rfl⟩ := xmay_ok (aux := []) hm (by omega)
        split at k5
        · simp only [Bool.and_eq_true, decide_eq_true_eq] at k5
          obtain ⟨j0, j1, j2, j3⟩ := k5
          exact xc_spec4 S hM1 hP1 hM k3 k1 k2 j3 k4 j0 j1 j2 hn (hr4 rfl) hcat hdg
        · cases k5
      · simp only [Bool.and_eq_true, decide_eq_true_eq] at k5
        obtain ⟨j0, j1, j2⟩ := k5
        split at j2
        · rename_i h2
          cases of_decide_eq_true h2
          obtain ⟨v, rfl⟩ := xmay_ok (aux := []) hm (by omega)
          exact xc_spec2 S hM1 hP1 hM k3 k1 k2 j0 j1 k4 j2 hn hrf hcat hdg
        · simp only [Bool.and_eq_true, decide_eq_true_eq] at j2
          obtain ⟨i0, i1⟩ := j2
          subst i0
          obtain ⟨v, rfl⟩ := xmay_ok (aux := []) hm (by omega)
          exact xc_spec5 S hM1 hP1 hM k3 k1 k2 j0 j1 k4 i1 hn hrf hcat hdg
    · cases k5
  · obtain ⟨i, ra, -, -, ho⟩ := xnewx_inr hq
    cases ho
  · obtain ⟨v, -, -, ho⟩ := xret_inr hq
    cases ho
  · obtain ⟨v, -, -, ho⟩ := xret_inr hq
    cases ho
  · obtain ⟨v, -, -, ho⟩ := xret_inr hq
    cases ho
  · obtain ⟨v, -, -, ho⟩ := xret_inr hq
    cases ho
  · obtain ⟨v, -, -, ho⟩ := xret_inr hq
    cases ho
  · obtain ⟨-, ho⟩ := xretv_inr hq
    cases ho
end XO2
