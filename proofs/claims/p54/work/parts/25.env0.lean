/-! THE ENVIRONMENT AT THE LAW'S START -/
theorem xsel_of {y : MethodName} {s : State} {args : Array Value} {x0 : MethodName} (hy : y.cls = "java/lang/AbstractStringBuilder") (hx0 : x0.cls = "java/lang/AbstractStringBuilder") (h0 : (Cond.selects "java/lang/StringBuilder" x0 x0).before args s = true) (hpriv : (Cond.privateMethod y).before args s = true) (hinst : (Cond.instanceMethod y).before args s = true) :
    (Cond.selects "java/lang/StringBuilder" y y).before args s = true := by
  obtain ⟨c, r, m0, hc, -, hm0, -, k, hk, hni⟩ := Cond.selects_spec h0
  obtain ⟨mk, methM, hnamed, hmethM, -, -⟩ := Cond.instanceMethod_spec hinst
  have hfound : s.methodFound? y.cls y.name y.desc = some mk := State.methodFound?_of_named hnamed (by rw [hy]; exact ⟨by decide, by decide⟩)
  have hcls : mk.cls = m0.cls := by
    have h1 := findClass_of_methodNamed hnamed
    have h2 := findClass_of_methodNamed hm0
    rw [hy] at h1
    rw [hx0] at h2
    exact Option.some.inj (h1.symm.trans h2)
  have hsel : selectMethod {} s.vm c mk = .method mk := selectMethod_private hmethM (Cond.privateMethod_at hpriv mk methM hnamed hmethM)
  simp only [Cond.before, Cond.holds, Cond.value, hc, hfound, hnamed, hsel, hcls, hk]
  simp; exact hni
def xwi (k : Nat) (w : Cond) : Bool := decide (lw_tbl[k]? = some w)
theorem xwi_in {k : Nat} {w : Cond} (h : xwi k w = true) : w ∈ lw_tbl := List.mem_of_getElem? (of_decide_eq_true h)
def xin0 (xs : List Nat) (j : Nat) : Nat := xs.getD j 0
theorem xsel_ok : (List.range 6).all (fun j => match xSel[j]? with
  | some y => decide (y.cls = "java/lang/AbstractStringBuilder") && (xwi (xin0 [1135, 1131, 1127, 1183, 1192, 1187] j) (.privateMethod y) && xwi (xin0 [1136, 1132, 1128, 1184, 1193, 1188] j) (.instanceMethod y))
  | none => false) = true := by decide +kernel
theorem xsel_len : xSel.length = 6 := by decide +kernel
theorem xsel_w0 : ∃ x0 : MethodName, x0.cls = "java/lang/AbstractStringBuilder" ∧ Cond.selects "java/lang/StringBuilder" x0 x0 ∈ lw_tbl := by
  have h : (match (lw_tbl[1164]? : Option Cond) with
    | some (Cond.selects C x y) => decide (C = "java/lang/StringBuilder") && (decide (x = y) && decide (x.cls = "java/lang/AbstractStringBuilder"))
    | _ => false) = true := by decide +kernel
  split at h
  · rename_i C x y hq
    simp only [Bool.and_eq_true, decide_eq_true_eq] at h
    obtain ⟨rfl, rfl, h⟩ := h
    exact ⟨x, h, List.mem_of_getElem? hq⟩
  · cases h
theorem xstr_ok : (List.range 29).all (fun j => match xSt[j]?, (xK [])[20 + 2 * j]? with
  | some (o, i, t), some q => xwi (xin0 [1118, 1280, 1321, 1322, 1323, 1330, 1390, 1394, 1397, 1399, 1400, 1475, 1476, 1480, 1520, 1521, 1531, 1532, 1533, 1534, 1535, 1536, 1537, 1538, 1539, 1540, 1541, 1542, 1543] j) (.stringRef o i t) && (decide (q.1 = 0) && decide (xTm (20 + 2 * j) = .string o i))
  | _, _ => false) = true := by decide +kernel
theorem xstr_len : xSt.length = 29 := by decide +kernel
theorem xins_ok : (List.range 12).all (fun j => match vwCl[j]? with
  | some (C, _, n) => xwi (xin0 [563, 267, 537, 1112, 199, 244, 172, 122, 70, 61, 192, 53] j) (.instantiable C n)
  | none => false) = true := by decide +kernel
theorem xcl_len : vwCl.length = 12 := by decide +kernel
theorem xncs_ok : (List.range 6).all (fun a => (List.range 6).all fun c => decide (a = c) || xnb (xin0 [0, 326, 344, 396, 377, 414, 362, 0, 345, 397, 378, 415, 363, 327, 0, 398, 379, 416, 364, 328, 346, 0, 380, 417, 361, 325, 343, 395, 0, 413, 365, 330, 348, 400, 382, 0] (6 * a + c)) (.not (.castable (xEx.getD a "") (xEx.getD c "")))) = true := by decide +kernel
theorem xsta_ok : (List.range 10).all (fun j => match xZn[j]? with
  | some (C, n, d) => xwi (xin0 [276, 205, 703, 798, 1230, 1232, 736, 754, 756, 758] j) (.laysStatic C n d) && xwi (xin0 [28, 24, 16, 41, 51, 51, 40, 29, 29, 29] j) (.initialized C)
  | none => false) = true := by decide +kernel
theorem xpick {p : Nat → Bool} {n j : Nat} (h : (List.range n).all p = true) (hj : j < n) : p j = true := List.all_eq_true.mp h j (List.mem_range.mpr hj)
theorem arrOfT_kind {s : State} {cA : ClassId} {ty : FieldType} {k : Class} {comp : ClassId} (hk : s.vm.classes[cA]? = some k) (hkind : k.kind = .array comp ty) : ArrOfT s cA ty := fun n z => ⟨fun k q => (nomatch q), k, hk, comp, hkind⟩
section XBE
variable {p : Program} {s : State} {m : MethodId} {meth : Method} {c : Code} {b L : Nat} {xf : Nat → Int32}
theorem xK_succ (xs : List Int32) (i : Nat) : (xK xs)[i + 1]? = (xK [])[i + 1]? := rfl
theorem xenv0_cok (hA : xAt b s) (hX : va_X b L xf s s.heap) (hL : L ≤ 260) (hb : b < s.heap.size) {i k : Nat} {vs : List Value} (h : (xK ((List.range L).map xf))[i]? = some (k, vs)) : xCok s.heap.size (xadr b s) s i k vs := by
  cases i with
  | succ i =>
    rw [xK_succ] at h
    exact xcok1 hA (Nat.succ_ne_zero i) h
  | zero =>
    cases h
    obtain ⟨cell, h1, h2, h3, h4, h5⟩ := hX
    have hab : xadr b s (1000000 + 0) = b := xadr_eq (i := 0) rfl rfl
    refine ⟨fun j o n d v q1 => ?_, fun _ => ?_, fun E q => ?_⟩
    · cases q1
    · rw [hab]
      have hl : (((List.range L).map xf).map Value.int).length = L := by rw [List.length_map, List.length_map, List.length_range]
      rw [hl]
      refine ⟨cell, h1, h2, h3, Nat.le_of_eq h4.symm, (congrArg Nat.toInt32 h4).trans rfl, fun j hj => ?_, Nat.not_le.mpr hb⟩
      show cell.slots[j]? = some (xcV (xadr b s) ((((List.range L).map xf).map Value.int).getD j .null))
      rw [h5 j hj, List.getD_eq_getElem?_getD, List.getElem?_map, List.getElem?_map, List.getElem?_range hj]
      rfl
    · cases q
theorem xbegin (C0 : lw_At p s m meth c b L xf) (hL : L ≤ 260) : ∃ (z : Value) (D : va_G) (tyC : Nat → ClassId), (xsc 0 z ∧ (z = .null ∨ z = .ref 1999999)) ∧ xadr b s 1000000 = b ∧ xEnv ((List.range L).map xf) z s.heap.size D tyC (xadr b s) s := by
  obtain ⟨-, -, -, -, -, hw0, hX, hb, -, hgv⟩ := C0
  have hA : xAt b s := flat_of_before _ hgv
  -- z
  obtain ⟨v6, hv6, hr6⟩ : ∃ v, (Term.static "jdk/internal/util/Preconditions" "SIOOBE_FORMATTER" "Ljava/util/function/BiFunction;").eval #[Value.ref b] s none [] s = some v ∧ v.isRef = true := Cond.isRef_spec (xnb_w hA (k := 25) (by decide +kernel))
  obtain ⟨z, hz, hzv⟩ : ∃ z : Value, (xsc 0 z ∧ (z = .null ∨ z = .ref 1999999)) ∧ xcV (xadr b s) z = v6 := by
    cases v6 <;> first | (cases hr6; done) | skip
    · exact ⟨.null, ⟨trivial, Or.inl rfl⟩, rfl⟩
    · rename_i a
      refine ⟨.ref 1999999, ⟨Or.inr (by decide), Or.inr rfl⟩, ?_⟩
      show Value.ref (xadr b s 1999999) = _
      rw [xadr_eq (n := 1999999) (i := 999999) rfl hv6]
  -- classes
  have hk0 : ∀ ci : Nat, ∃ r : ClassId × (Nat → Nat), ∀ q, vwCl[ci]? = some q → u_Kn s q.1 q.2.1 q.2.2 r.1 r.2 := by
    intro ci
    cases hq : vwCl[ci]? with
    | none => exact ⟨(0, fun _ => 0), fun q h => (nomatch h)⟩
    | some q =>
      have hlt := (List.getElem?_eq_some_iff.mp hq).1
      rw [xcl_len] at hlt
      have h1 := xpick xins_ok hlt
      rw [hq] at h1
      obtain ⟨C, T, N⟩ := q
      obtain ⟨cC, iS, hu⟩ := u_known (ws := lw_tbl) (T := T) (N := N) hw0 (fun w hw => by
        have h2 := List.all_eq_true.mp (List.all_eq_true.mp xcls_words _ (List.mem_of_getElem? hq)) w hw
        exact of_decide_eq_true (Bool.and_eq_true _ _ |>.mp h2).1) (hw0 _ (xwi_in h1))
      exact ⟨(cC, iS), fun q h => by cases h; exact hu⟩
  obtain ⟨fD, hfD⟩ := Classical.axiomOfChoice hk0
  -- arrays
  have hac : ∀ {ty : FieldType}, Cond.arrayClass ty ∈ lw_tbl → (∀ C, ty ≠ .object C) → ∃ cA : ClassId, ArrOfT s cA ty ∧ va_RA s cA ty := by
    intro ty hm hno
    obtain ⟨cA, k, comp, a1, a2, a3⟩ := Cond.arrayClass_spec (hw0 _ hm)
    refine ⟨cA, arrOfT_kind a2 a3, ?_⟩
    cases ty <;> first | exact a1 | exact absurd rfl (hno _)
  have hao : ∀ {C : String}, Cond.arrayOver (.object C) ∈ lw_tbl → ∃ cA : ClassId, ArrOfT s cA (.object C) ∧ va_RA s cA (.object C) := by
    intro C hm
    obtain ⟨comp, cA, k, a1, -, a2, a3, a4⟩ := Cond.arrayOver_spec (hw0 _ hm)
    exact ⟨cA, arrOfT_kind a2 a3, k, comp, a2, a3, a1, a4⟩
  have m0 : Cond.arrayClass .byte ∈ lw_tbl := List.mem_of_getElem? (i := 298) (by decide +kernel)
  have m1 : Cond.arrayClass .char ∈ lw_tbl := List.mem_of_getElem? (i := 225) (by decide +kernel)
  have m2 : Cond.arrayClass .long ∈ lw_tbl := List.mem_of_getElem? (i := 1481) (by decide +kernel)
  have m3 : Cond.arrayOver (.object "RiverReaches$Command") ∈ lw_tbl := List.mem_of_getElem? (i := 198) (by decide +kernel)
  have m4 : Cond.arrayOver (.object "RiverReaches$Pulse") ∈ lw_tbl := List.mem_of_getElem? (i := 69) (by decide +kernel)
  have m5 : Cond.arrayOver (.object "RiverReaches$Reach") ∈ lw_tbl := List.mem_of_getElem? (i := 67) (by decide +kernel)
  have m6 : Cond.arrayOver (.object "RiverReaches$River") ∈ lw_tbl := List.mem_of_getElem? (i := 178) (by decide +kernel)
  have ht0 : ∀ t : Nat, ∃ cA : ClassId, t < 7 → ArrOfT s cA (xTy t) ∧ va_RA s cA (xTy t) := by
    intro t
    rcases t with _ | _ | _ | _ | _ | _ | _ | t
    · obtain ⟨cA, h⟩ := hac m0 (fun C q => (nomatch q)); exact ⟨cA, fun _ => h⟩
    · obtain ⟨cA, h⟩ := hac m1 (fun C q => (nomatch q)); exact ⟨cA, fun _ => h⟩
    · obtain ⟨cA, h⟩ := hac m2 (fun C q => (nomatch q)); exact ⟨cA, fun _ => h⟩
    · obtain ⟨cA, h⟩ := hao m3; exact ⟨cA, fun _ => h⟩
    · obtain ⟨cA, h⟩ := hao m4; exact ⟨cA, fun _ => h⟩
    · obtain ⟨cA, h⟩ := hao m5; exact ⟨cA, fun _ => h⟩
    · obtain ⟨cA, h⟩ := hao m6; exact ⟨cA, fun _ => h⟩
    · exact ⟨0, fun h => absurd h (by omega)⟩
  obtain ⟨tyC, htyC⟩ := Classical.axiomOfChoice ht0
  refine ⟨z, (fun ci => (fD ci).1, fun ci => (fD ci).2), tyC, hz, xadr_eq (n := 1000000) (i := 0) rfl rfl, ?_, ⟨fun ci q hq => hfD ci q hq, fun k q hq => ?_⟩, ?_, fun i k vs h => xenv0_cok hA hX hL hb h, ?_, ⟨?_, ?_⟩, ?_, ⟨hw0 _ m0, hw0 _ m1, hw0 _ m2⟩, ?_, Nat.le_refl _⟩
  · -- words
    intro w hw hg
    rcases hw with hw | hw
    · exact va_Nw.of (xgd_tab hg) (hw0 w hw)
    · refine va_Nw.of (xgd_tab hg) (A := #[Value.ref b]) ?_
      obtain ⟨y, hy, rfl⟩ := List.mem_map.mp hw
      obtain ⟨j, hj⟩ := List.mem_iff_getElem?.mp hy
      have hlt := (List.getElem?_eq_some_iff.mp hj).1
      rw [xsel_len] at hlt
      have h1 := xpick xsel_ok hlt
      rw [hj] at h1
      simp only [Bool.and_eq_true, decide_eq_true_eq] at h1
      obtain ⟨x0, hx0, hx1⟩ := xsel_w0
      exact xsel_of h1.1 hx0 (hw0 _ hx1) (hw0 _ (xwi_in h1.2.1)) (hw0 _ (xwi_in h1.2.2))
  · -- types
    unfold xtys at hq
    rw [List.getElem?_map] at hq
    obtain ⟨t, ht, rfl⟩ := Option.map_eq_some_iff.mp hq
    have hk7 : k < 7 := by
      have := (List.getElem?_eq_some_iff.mp ht).1
      rwa [List.length_range] at this
    rw [List.getElem?_range hk7] at ht
    cases ht
    exact htyC k hk7
  · -- statics
    intro j C n d v h1 h2
    have hj : j < 10 := (List.getElem?_eq_some_iff.mp h1).1
    have hs := xpick xsta_ok hj
    rw [h1] at hs
    obtain ⟨w1, w2⟩ := Bool.and_eq_true _ _ |>.mp hs
    refine va_Zof (hw0 _ (xwi_in w1)) (hw0 _ (xwi_in w2)) ?_ xbA
    rcases j with _ | _ | _ | _ | _ | _ | _ | _ | _ | _ | j
    · cases h1; cases h2
      exact va_eqt (xnb_w hA (k := 8) (by decide +kernel))
    · cases h1; cases h2
      exact xE_at hA (i := 2) (by decide) rfl (by decide)
    · cases h1; cases h2
      exact xE_at hA (i := 10) (by decide) rfl (by decide)
    · cases h1; cases h2
      exact xE_at hA (i := 11) (by decide) rfl (by decide)
    · cases h1; cases h2
      exact xE_at hA (i := 12) (by decide) rfl (by decide)
    · cases h1; cases h2
      exact xE_at hA (i := 13) (by decide) rfl (by decide)
    · cases h1; cases h2
      rw [hzv]; exact hv6
    · cases h1; cases h2
      exact va_eqt (xnb_w hA (k := 26) (by decide +kernel))
    · cases h1; cases h2
      exact va_eqt (xnb_w hA (k := 27) (by decide +kernel))
    · cases h1; cases h2
      exact va_eqt (xnb_w hA (k := 28) (by decide +kernel))
    · omega
  · -- strings
    intro j own i tx hj
    have hlt := (List.getElem?_eq_some_iff.mp hj).1
    rw [xstr_len] at hlt
    have h1 := xpick xstr_ok hlt
    rw [hj] at h1
    split at h1
    · rename_i o i' t q e1 e2
      cases e1
      simp only [Bool.and_eq_true, decide_eq_true_eq] at h1
      have hE := xE_at hA (i := 20 + 2 * j) (k := q.1) (vs := q.2) (by omega) e2 (by rw [h1.2.1]; decide)
      rw [h1.2.2] at hE
      rw [show 1000020 + 2 * j = 1000000 + (20 + 2 * j) by omega]
      exact vk_R.of (hw0 _ (xwi_in h1.1)) hE
    · cases h1
  · exact vx_Zqof (args := #[Value.ref b]) (hw0 _ (List.mem_of_getElem? (i := 431) (by decide +kernel))) (hw0 _ (List.mem_of_getElem? (i := 30) (by decide +kernel))) (xnb_w hA (k := 9) (by decide +kernel)) xbA
  · exact vx_Zqof (args := #[Value.ref b]) (hw0 _ (List.mem_of_getElem? (i := 433) (by decide +kernel))) (hw0 _ (List.mem_of_getElem? (i := 30) (by decide +kernel))) (xnb_w hA (k := 10) (by decide +kernel)) xbA
  · intro t C h3 h6 hC
    rcases (show t = 3 ∨ t = 4 ∨ t = 5 ∨ t = 6 by omega) with rfl | rfl | rfl | rfl
    · cases hC; exact va_AO.of (hw0 _ m3)
    · cases hC; exact va_AO.of (hw0 _ m4)
    · cases hC; exact va_AO.of (hw0 _ m5)
    · cases hC; exact va_AO.of (hw0 _ m6)
  · intro E F hE hF hne
    obtain ⟨a, ha⟩ := List.mem_iff_getElem?.mp hE
    obtain ⟨c9, hc9⟩ := List.mem_iff_getElem?.mp hF
    have la : a < 6 := (List.getElem?_eq_some_iff.mp ha).1
    have lc : c9 < 6 := (List.getElem?_eq_some_iff.mp hc9).1
    have h1 := xpick (xpick xncs_ok la) lc
    rcases Bool.or_eq_true _ _ |>.mp h1 with h1 | h1
    · have := of_decide_eq_true h1
      subst this
      exact absurd (Option.some.inj (ha.symm.trans hc9)) hne
    · rw [List.getD_eq_getElem?_getD, List.getD_eq_getElem?_getD, ha, hc9] at h1
      exact va_Nc.of (xnb_w hA h1)
end XBE
/-- FROM THE ENTRY: what remains is a run of the abstract law alone -/
theorem xstart {p : Program} {e : Env} {s : State} {m : MethodId} {below : List Frame} {meth : Method} {c : Code} (l : Launch) (hflags : l.flags = flags0) {b L : Nat} {xf : Nat → Int32} (hL : L ≤ 260) (C0 : lw_At p s m meth c b L xf)
    (pure : ∀ z : Value, xsc 0 z → (z = .null ∨ z = .ref 1999999) → ∃ (d n : Nat) (hf : xH), d ≤ 2039 ∧ xev (xgo xMs (xK ((List.range L).map xf)) (xZ z) d n) 11 (xK ((List.range L).map xf)) (xZ z) [] xcL_law n xcL_law [(0, .ref 1000000)] [] [] = some (.ok (some (.int 1)), hf) ∧ hf.length ≤ 688064 ∧ xsz hf ≤ 7027135) :
    W p l e room_1 s m #[Value.ref b] below meth c s.heap [] 0 0 (lw_Z below #[Value.ref b] s) (entryFrame m ([Value.ref b] : List Value).toArray 11) := by
  obtain ⟨z, D, tyC, hz, hb0, hE⟩ := xbegin C0 hL
  obtain ⟨d, n, hf, h1, h2, h3, h4⟩ := pure z hz.1 hz.2
  exact xlaw l (by
    unfold Launch.stackTraces
    rw [hflags]
    decide +kernel) C0 hz.1 hb0 hE h1 h2 h3 h4
