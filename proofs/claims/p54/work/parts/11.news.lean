/-! NEW CELLS, CONSTANTS OF THE POOL, CASTS, NATIVES ARE TRUE TO THE MACHINE -/
section XU
variable {p : Program} {l : Launch} {e : Env} {R : Room} {s : State} {m : MethodId} {args : Array Value} {below : List Frame} {meth : Method} {c : Code} {H : Heap} {locs : List Loc} {cells slots : Nat} {Q : State → Prop}
variable {cc : ByteArray} {pc nL : Nat} {n0 : Nat × Nat} {ls : Array Slot} {b0 : Nat} {D : va_G} {tyC : Nat → ClassId} {ad : Nat → Nat} {h h' : xH} {loc loc' : xL} {st st' : List Value} {t : Option Nat}
variable {xs : List Int32} {z : Value} {own : String}
theorem xlc_ext {ad' : Nat → Nat} {n : Nat} (ha : ∀ i, (i < n ∨ 1000000 ≤ i) → ad' i = ad i) (hl : ∀ q ∈ loc, xsc n q.2) : xlc ad' loc = xlc ad loc :=
  List.map_congr_left fun q hq => by rw [xcV_ext ha (hl q hq)]
/-- behind a new cell -/
theorem xpushed {pc' n : Nat} {r : List Value} {q0 : Nat × List Value} (hn : q0.2.length = n) (kk : xCont p l e R s m args below meth c Q nL b0 D tyC ad h cells slots pc' loc (.ref h.length :: r) (h ++ [q0])) (hlt : h.length < 1000000) (hok : xok n0 h loc r) (hes : xscL h.length q0.2) (he : q0.1 ≠ 40) (hR : xRel b0 D tyC ad h s H locs) (hl : lv_has ls nL (xlc ad loc)) :
    ∀ (q : Nat) (H1 : Heap), va_P D vwCl (xcw ad tyC h ++ [(q, xcE ad tyC q0)]) H1 → va_D (fun q => b0 ≤ q) (xcw ad tyC h ++ [(q, xcE ad tyC q0)]) → va_S (fun q => b0 ≤ q) s.heap H1 locs → W p l e R s m args below meth c H1 locs (cells + 1) (slots + n) Q (F0 m pc' ls (.ref q :: r.map (xcV ad))) := by
  intro q H1 hP hD hS
  have ha : ∀ i, (i < h.length ∨ 1000000 ≤ i) → (fun i => if i = h.length then q else ad i) i = ad i := by
    intro i hi
    show (if i = h.length then q else ad i) = ad i
    rw [if_neg (by omega)]
  have hq : (fun i => if i = h.length then q else ad i) h.length = q := if_pos rfl
  have hR' := xpush hR hok.2.1 hes he ha hq hP hD hS
  have k := xk2 (ls' := ls) hn kk ha hR' (by rw [xlc_ext ha hok.2.2.1]; exact hl)
  have e1 : (Value.ref h.length :: r).map (xcV fun i => if i = h.length then q else ad i) = .ref q :: r.map (xcV ad) := by
    rw [List.map_cons, xcVs_ext ha hok.2.2.2]
    show Value.ref (if h.length = h.length then q else ad h.length) :: _ = _
    rw [if_pos rfl]
  rw [e1] at k
  exact k
theorem xnew0_ok : (List.range 12).all (fun ci => decide (ci = 2) || (decide (ci = 3) || (List.range (xnew0 ci).length).all (fun j => decide (defaultValue (xFt ci j) = vp_V (xnew0 ci) j)))) = true := by decide +kernel
theorem xnew0_map (ci : Nat) : (xnew0 ci).map (xcV ad) = xnew0 ci := by
  have h := xnew0_all ci
  generalize xnew0 ci = vs at h
  induction vs with
  | nil => rfl
  | cons v vs ih =>
    simp only [List.all_cons, Bool.and_eq_true] at h
    rw [List.map_cons, ih h.2]
    cases v <;> first | rfl | cases h.1
theorem xo_new (hx : p.tables.exec = Jvm.exec) (hb : c.code = cc) (hown : s.vm.findClass own = some m.cls) (hE : xEnv xs z b0 D tyC ad s) {i k ci : Nat} {aux : List Nat} (hk : xbnew own i (k :: ci :: aux) = true) (hdg : decode cc pc = .ok (.new i, 3)) (hs : xnewx loc st h k ci = some (.inl (t, loc', st', h'))) (hok : xok n0 h loc st) (hroom : cells + (h'.length - h.length) ≤ R.cells ∧ slots + (xsz h' - xsz h) ≤ R.slots) (hR : xRel b0 D tyC ad h s H locs) (hl : lv_has ls nL (xlc ad loc)) (kk : xCont p l e R s m args below meth c Q nL b0 D tyC ad h cells slots (t.getD (pc + 3)) loc' st' h') : W p l e R s m args below meth c H locs cells slots Q (F0 m pc ls (st.map (xcV ad))) := by
  unfold xnewx at hs
  split at hs
  · rename_i hk0
    have hk0 := of_decide_eq_true hk0
    subst hk0
    unfold xnew at hs
    split at hs
    · rename_i hlt
      have hlt := of_decide_eq_true hlt
      cases hs
      unfold xbnew at hk
      split at hk
      · rename_i heq
        cases heq
        rename_i I I2 I3 aux
        split at hk
        · rename_i C T N hc
          simp only [Bool.and_eq_true, decide_eq_true_eq] at hk
          obtain ⟨w1, w2, w3, ⟨hN, h2⟩, h3⟩ := hk
          have hlt12 := xcls_lt hc
          have hfs : ∀ j, j < N → defaultValue (xFt ci j) = vp_V (xnew0 ci) j := by
            intro j hj
            have h1 := List.all_eq_true.mp xnew0_ok ci (List.mem_range.mpr hlt12)
            simp only [Bool.or_eq_true, decide_eq_true_eq] at h1
            have h1 := (h1.resolve_left h2).resolve_left h3
            exact of_decide_eq_true (List.all_eq_true.mp h1 j (List.mem_range.mpr (by omega)))
          have eE : xcE ad tyC (ci, xnew0 ci) = .inr (ci, xnew0 ci) := by
            unfold xcE
            rw [if_pos (show ci < 50 by omega), xnew0_map]
          have hr1 : (h ++ [(ci, xnew0 ci)]).length - h.length = 1 := by simp
          have hr2 : xsz (h ++ [(ci, xnew0 ci)]) - xsz h = N := by rw [xsz_push, ← hN]; show xsz h + (xnew0 ci).length - xsz h = _; omega
          rw [hr1, hr2] at hroom
          refine va_new (Ts := u_ws C T N) (fs := xnew0 ci) hx hb (xcls_w hE hc args) (fun _ h => h) (xFt ci) (xcls_ty hc) hown (xenv_w hE w1 args) (xenv_w hE w2 args) (xenv_w hE w3 args) hE.2.1 (xcw_P hR.1) (xcw_D hR.2.1 hR.2.2.1) hR.2.2.2 (fun q hq => Nat.le_trans hE.2.2.2.2.2.2.2.2.2 hq) hc hfs hroom.1 hroom.2 hdg ?_
          intro q H1 hP hD hS
          rw [← eE] at hP hD
          exact xpushed (q0 := (ci, xnew0 ci)) hN kk hlt hok (xnew0_sc _ _) (by show ci ≠ 40; omega) hR hl q H1 hP hD hS
        · cases hk
      · rename_i heq
        cases heq
      · rename_i heq
        cases heq
      · cases hk
    · cases hs
  · split at hs <;> cases hs
theorem xty_same {ty : FieldType} {c1 c2 : ClassId} (h1 : va_RA s c1 ty) (h2 : va_RA s c2 ty) : c1 = c2 := by
  cases ty with
  | object C =>
    obtain ⟨-, -, -, -, -, a1⟩ := h1
    obtain ⟨-, -, -, -, -, a2⟩ := h2
    exact Option.some.inj (a1.symm.trans a2)
  | _ => exact Option.some.inj (h1.symm.trans h2)
theorem xtyC_of {tn : Nat} {cA : ClassId} (htn : tn < 7) (hE : xEnv xs z b0 D tyC ad s) (hK : va_K D vwCl (xtys tyC ++ [(cA, xTy tn)]) s) : cA = tyC tn := by
  have h1 := (hE.2.1.2 tn _ (xtys_at htn)).2
  have h2 := (hK.2 7 (cA, xTy tn) (by simp [xtys])).2
  exact xty_same h2 h1
theorem xrep_I (n : Nat) : (fun k => xI ((List.replicate n (Value.int 0)).getD k .null)) = fun _ => 0 := by
  funext k
  rw [List.getD_eq_getElem?_getD, List.getElem?_replicate]
  split <;> rfl
theorem xrep_J (n : Nat) : (fun k => xJ ((List.replicate n (Value.long 0)).getD k .null)) = fun _ => 0 := by
  funext k
  rw [List.getD_eq_getElem?_getD, List.getElem?_replicate]
  split <;> rfl
theorem xrep_R (n : Nat) : (fun k => xR ad ((List.replicate n Value.null).getD k .null)) = fun _ => none := by
  funext k
  rw [List.getD_eq_getElem?_getD, List.getElem?_replicate]
  split <;> rfl
theorem xnewa_spec {tn : Nat} {v : Value} {o : xO} (hs : xnewa tn v loc st h = some o) : ∃ n r, st = .int n :: r ∧ ¬ n < 0 ∧ n.toNatClampNeg ≤ 60000 ∧ h.length < 1000000 ∧ o = .inl (none, loc, .ref h.length :: r, h ++ [(50 + tn, List.replicate n.toNatClampNeg v)]) := by
  unfold xnewa at hs
  split at hs
  · rename_i n r
    split at hs
    · rename_i hg
      simp only [Bool.and_eq_true, decide_eq_true_eq] at hg
      cases hs
      exact ⟨n, r, rfl, Int32.not_lt.mpr hg.1, hg.2.1, hg.2.2, rfl⟩
    · cases hs
  · cases hs
theorem xo_newarray (hx : p.tables.exec = Jvm.exec) (hb : c.code = cc) (hE : xEnv xs z b0 D tyC ad s) {at0 : ArrayType} {tn : Nat} {v : Value} {a0 : Nat → vp_A} (htn : tn < 7) (harr : (Cond.arrayClass (newarray.typeOf at0)).before args s = true) (hty : newarray.typeOf at0 = xTy tn) (hbyt : componentBytes (xTy tn) ≤ 8) (hv : ∀ m, xsc m v)
    (ha : ∀ (n : Nat) (cA : ClassId), vp_cell cA (a0 n) = arrV cA n (fun _ => defaultValue (xTy tn))) (hcE : ∀ n : Nat, xcE ad tyC (50 + tn, List.replicate n v) = .inl (tyC tn, a0 n)) (hdg : decode cc pc = .ok (.newarray at0, 2)) (hs : xnewa tn v loc st h = some (.inl (t, loc', st', h'))) (hok : xok n0 h loc st) (hroom : cells + (h'.length - h.length) ≤ R.cells ∧ slots + (xsz h' - xsz h) ≤ R.slots) (hR : xRel b0 D tyC ad h s H locs) (hl : lv_has ls nL (xlc ad loc)) (kk : xCont p l e R s m args below meth c Q nL b0 D tyC ad h cells slots (t.getD (pc + 2)) loc' st' h') : W p l e R s m args below meth c H locs cells slots Q (F0 m pc ls (st.map (xcV ad))) := by
  obtain ⟨n, r, rfl, hn, h6, hlt, ho⟩ := xnewa_spec hs
  cases ho
  have hr1 : (h ++ [(50 + tn, List.replicate n.toNatClampNeg v)]).length - h.length = 1 := by simp
  have hr2 : xsz (h ++ [(50 + tn, List.replicate n.toNatClampNeg v)]) - xsz h = n.toNatClampNeg := by rw [xsz_push]; simp
  rw [hr1, hr2] at hroom
  have hby : n.toNatClampNeg * componentBytes (xTy tn) ≤ 536870912 := Nat.le_trans (Nat.mul_le_mul h6 hbyt) (by decide)
  refine va_newa hx hb harr hty hE.2.1 (xcw_P hR.1) (xcw_D hR.2.1 hR.2.2.1) hR.2.2.2 (fun q hq => Nat.le_trans hE.2.2.2.2.2.2.2.2.2 hq) (a0 := a0 n.toNatClampNeg) (ha n.toNatClampNeg) hn rfl hby hroom.1 hroom.2 hdg ?_
  intro q cA H1 hK hP hD hS
  have hcA := xtyC_of htn hE hK
  subst hcA
  rw [← hcE] at hP hD
  exact xpushed (q0 := (50 + tn, List.replicate n.toNatClampNeg v)) (by simp) kk hlt (xok_tail hok) (fun w hw => by rw [List.eq_of_mem_replicate hw]; exact hv _) (by show 50 + tn ≠ 40; omega) hR hl q H1 hP hD hS
theorem xarrC {ty : FieldType} (h : (Cond.arrayClass ty).before #[] s = true) (args : Array Value) : (Cond.arrayClass ty).before args s = true := by
  simpa only [Cond.before, Cond.holds, Cond.value] using h
theorem xo_newarray_b (hx : p.tables.exec = Jvm.exec) (hb : c.code = cc) (hE : xEnv xs z b0 D tyC ad s) (hdg : decode cc pc = .ok (.newarray .byte, 2)) (hs : xnewa 0 (.int 0) loc st h = some (.inl (t, loc', st', h'))) (hok : xok n0 h loc st) (hroom : cells + (h'.length - h.length) ≤ R.cells ∧ slots + (xsz h' - xsz h) ≤ R.slots) (hR : xRel b0 D tyC ad h s H locs) (hl : lv_has ls nL (xlc ad loc)) (kk : xCont p l e R s m args below meth c Q nL b0 D tyC ad h cells slots (t.getD (pc + 2)) loc' st' h') : W p l e R s m args below meth c H locs cells slots Q (F0 m pc ls (st.map (xcV ad))) :=
  xo_newarray (a0 := fun n => (n, .inl fun _ => 0)) (at0 := .byte) (v := .int 0) hx hb hE (by decide) (xarrC (ty := .byte) hE.2.2.2.2.2.2.2.1.1 args) rfl (by decide) (fun _ => trivial) (fun n cA => rfl) (fun n => by rw [xarr (by decide), xarr_b _ _ (by decide), xrep_I, List.length_replicate]) hdg hs hok hroom hR hl kk
theorem xo_newarray_c (hx : p.tables.exec = Jvm.exec) (hb : c.code = cc) (hE : xEnv xs z b0 D tyC ad s) (hdg : decode cc pc = .ok (.newarray .char, 2)) (hs : xnewa 1 (.int 0) loc st h = some (.inl (t, loc', st', h'))) (hok : xok n0 h loc st) (hroom : cells + (h'.length - h.length) ≤ R.cells ∧ slots + (xsz h' - xsz h) ≤ R.slots) (hR : xRel b0 D tyC ad h s H locs) (hl : lv_has ls nL (xlc ad loc)) (kk : xCont p l e R s m args below meth c Q nL b0 D tyC ad h cells slots (t.getD (pc + 2)) loc' st' h') : W p l e R s m args below meth c H locs cells slots Q (F0 m pc ls (st.map (xcV ad))) :=
  xo_newarray (a0 := fun n => (n, .inl fun _ => 0)) (at0 := .char) (v := .int 0) hx hb hE (by decide) (xarrC (ty := .char) hE.2.2.2.2.2.2.2.1.2.1 args) rfl (by decide) (fun _ => trivial) (fun n cA => rfl) (fun n => by rw [xarr (by decide), xarr_b _ _ (by decide), xrep_I, List.length_replicate]) hdg hs hok hroom hR hl kk
theorem xo_newarray_l (hx : p.tables.exec = Jvm.exec) (hb : c.code = cc) (hE : xEnv xs z b0 D tyC ad s) (hdg : decode cc pc = .ok (.newarray .long, 2)) (hs : xnewa 2 (.long 0) loc st h = some (.inl (t, loc', st', h'))) (hok : xok n0 h loc st) (hroom : cells + (h'.length - h.length) ≤ R.cells ∧ slots + (xsz h' - xsz h) ≤ R.slots) (hR : xRel b0 D tyC ad h s H locs) (hl : lv_has ls nL (xlc ad loc)) (kk : xCont p l e R s m args below meth c Q nL b0 D tyC ad h cells slots (t.getD (pc + 2)) loc' st' h') : W p l e R s m args below meth c H locs cells slots Q (F0 m pc ls (st.map (xcV ad))) :=
  xo_newarray (a0 := fun n => (n, .inr (.inl fun _ => 0))) (at0 := .long) (v := .long 0) hx hb hE (by decide) (xarrC (ty := .long) hE.2.2.2.2.2.2.2.1.2.2 args) rfl (by decide) (fun _ => trivial) (fun n cA => rfl) (fun n => by rw [xarr (by decide), show 50 + 2 - 50 = 2 from rfl, xarr_l, xrep_J, List.length_replicate]) hdg hs hok hroom hR hl kk
theorem xo_anewarray (hx : p.tables.exec = Jvm.exec) (hb : c.code = cc) (hown : s.vm.findClass own = some m.cls) (hE : xEnv xs z b0 D tyC ad s) {i tn : Nat} {aux : List Nat} (hk : xbarr own i (tn :: aux) = true) (hdg : decode cc pc = .ok (.anewarray i, 3)) (hs : xnewa tn .null loc st h = some (.inl (t, loc', st', h'))) (hok : xok n0 h loc st) (hroom : cells + (h'.length - h.length) ≤ R.cells ∧ slots + (xsz h' - xsz h) ≤ R.slots) (hR : xRel b0 D tyC ad h s H locs) (hl : lv_has ls nL (xlc ad loc)) (kk : xCont p l e R s m args below meth c Q nL b0 D tyC ad h cells slots (t.getD (pc + 3)) loc' st' h') : W p l e R s m args below meth c H locs cells slots Q (F0 m pc ls (st.map (xcV ad))) := by
  obtain ⟨n, r, rfl, hn, h6, hlt, ho⟩ := xnewa_spec hs
  cases ho
  cases aux with
  | nil => cases hk
  | cons I aux =>
    unfold xbarr at hk
    dsimp only at hk
    simp only [Bool.and_eq_true, decide_eq_true_eq] at hk
    obtain ⟨h3, h66, hk⟩ := hk
    obtain ⟨C, hC, -⟩ := xTy_obj h3 h66
    rw [hC] at hk
    have hr1 : (h ++ [(50 + tn, List.replicate n.toNatClampNeg Value.null)]).length - h.length = 1 := by simp
    have hr2 : xsz (h ++ [(50 + tn, List.replicate n.toNatClampNeg Value.null)]) - xsz h = n.toNatClampNeg := by rw [xsz_push]; simp
    rw [hr1, hr2] at hroom
    have hcE : xcE ad tyC (50 + tn, List.replicate n.toNatClampNeg Value.null) = .inl (tyC tn, n.toNatClampNeg, .inr (.inr (.inr (.inr fun _ => none)))) := by
      rw [xarr (by omega), show 50 + tn - 50 = tn by omega, xarr_q _ _ h3, xrep_R, List.length_replicate]
    refine va_newq hx hb hown (xenv_w hE hk args) (hE.2.2.2.2.2.2.1 tn C h3 h66 hC) hE.2.1 (xcw_P hR.1) (xcw_D hR.2.1 hR.2.2.1) hR.2.2.2 (fun q hq => Nat.le_trans hE.2.2.2.2.2.2.2.2.2 hq) hn rfl (by omega) hroom.1 hroom.2 hdg ?_
    intro q cA H1 hK hP hD hS
    rw [← hC] at hK
    have hcA := xtyC_of (by omega) hE hK
    subst hcA
    rw [← hcE] at hP hD
    exact xpushed (q0 := (50 + tn, List.replicate n.toNatClampNeg Value.null)) (by simp) kk hlt (xok_tail hok) (fun w hw => by rw [List.eq_of_mem_replicate hw]; trivial) (by show 50 + tn ≠ 40; omega) hR hl q H1 hP hD hS
theorem xstr_at (hE : xEnv xs z b0 D tyC ad s) {i j : Nat} {aux : List Nat} (hk : xbldc own i (1 :: j :: aux) = true) : ∃ tx, vk_R own i tx (ad (1000000 + j)) s := by
  unfold xbldc at hk
  simp only [Bool.and_eq_true, decide_eq_true_eq] at hk
  obtain ⟨h20, h2, hk⟩ := hk
  split at hk
  · rename_i o k tx hst
    simp only [Bool.and_eq_true, decide_eq_true_eq] at hk
    obtain ⟨rfl, rfl⟩ := hk
    have h1 := hE.2.2.2.2.1 _ _ _ _ hst
    rw [show 1000020 + 2 * ((j - 20) / 2) = 1000000 + j by omega] at h1
    exact ⟨tx, h1⟩
  · cases hk
theorem xo_ldc (hx : p.tables.exec = Jvm.exec) (hb : c.code = cc) (hown : s.vm.findClass own = some m.cls) (hE : xEnv xs z b0 D tyC ad s) {i k v : Nat} {aux : List Nat} (hk : xbldc own i (k :: v :: aux) = true) (hdg : decode cc pc = .ok (.ldc i, 2)) (hs : xldc loc st h k v = some (.inl (t, loc', st', h'))) (hR : xRel b0 D tyC ad h s H locs) (hl : lv_has ls nL (xlc ad loc)) (kk : xCont p l e R s m args below meth c Q nL b0 D tyC ad h cells slots (t.getD (pc + 2)) loc' st' h') : W p l e R s m args below meth c H locs cells slots Q (F0 m pc ls (st.map (xcV ad))) := by
  unfold xldc at hs
  split at hs
  · cases hs
    cases aux with
    | nil => cases hk
    | cons I aux => exact lv_ldc hx hb hown (xenv_w hE (k := I) (w := .constant own i (Int32.ofNat v)) hk args) hdg (xk0 kk hR hl)
  · cases hs
    obtain ⟨tx, h1⟩ := xstr_at hE hk
    exact va_ldcS hx hb hown h1 hdg (xk0 kk hR hl)
  · cases hs
    cases aux with
    | nil => cases hk
    | cons I aux => exact lv_ldcf hx hb hown (xenv_w hE (k := I) (w := .constantFloat own i (UInt32.ofNat v)) hk args) hdg (xk0 kk hR hl)
  · cases hs
theorem xo_ldcw (hx : p.tables.exec = Jvm.exec) (hb : c.code = cc) (hown : s.vm.findClass own = some m.cls) (hE : xEnv xs z b0 D tyC ad s) {i k v : Nat} {aux : List Nat} (hk : xbldc own i (k :: v :: aux) = true) (hdg : decode cc pc = .ok (.ldc_w i, 3)) (hs : xldw loc st h k v = some (.inl (t, loc', st', h'))) (hR : xRel b0 D tyC ad h s H locs) (hl : lv_has ls nL (xlc ad loc)) (kk : xCont p l e R s m args below meth c Q nL b0 D tyC ad h cells slots (t.getD (pc + 3)) loc' st' h') : W p l e R s m args below meth c H locs cells slots Q (F0 m pc ls (st.map (xcV ad))) := by
  unfold xldw at hs
  split at hs
  · rename_i hk1
    have hk1 := of_decide_eq_true hk1
    subst hk1
    cases hs
    obtain ⟨tx, h1⟩ := xstr_at hE hk
    have key := xk0 kk hR hl
    intro T hT X
    obtain ⟨t1, a1, b1⟩ := key T hT X
    exact ⟨t1, X.ldcStringW hx hown (text := tx) (a := ad (1000000 + v)) h1.1 h1.2 (g := F0 m pc ls (st.map (xcV ad))) rfl (by rw [hb]; exact hdg) t1 a1, b1⟩
  · cases hs
theorem xo_ldc2 (hx : p.tables.exec = Jvm.exec) (hb : c.code = cc) (hown : s.vm.findClass own = some m.cls) (hE : xEnv xs z b0 D tyC ad s) {i k v : Nat} {aux : List Nat} (hk : xbld2 own i (k :: v :: aux) = true) (hdg : decode cc pc = .ok (.ldc2_w i, 3)) (hs : xld2 loc st h k v = some (.inl (t, loc', st', h'))) (hR : xRel b0 D tyC ad h s H locs) (hl : lv_has ls nL (xlc ad loc)) (kk : xCont p l e R s m args below meth c Q nL b0 D tyC ad h cells slots (t.getD (pc + 3)) loc' st' h') : W p l e R s m args below meth c H locs cells slots Q (F0 m pc ls (st.map (xcV ad))) := by
  unfold xld2 at hs
  unfold xbld2 at hk
  split at hk
  · rename_i heq
    cases heq
    rw [decide_eq_true rfl] at hs
    cases hs
    exact lv_ldc2 hx hb hown (xenv_w hE hk args) hdg (xk0 kk hR hl)
  · rename_i heq
    cases heq
    rw [decide_eq_false (by decide)] at hs
    cases hs
    exact lv_ldc2d hx hb hown (xenv_w hE hk args) hdg (xk0 kk hR hl)
  · rename_i heq
    cases heq
  · cases hk
end XU
