/-! EVERY CALL, OUT OF THE CALLEE'S CONTRACT -/
theorem xbm_at {mi : Nat} {M : xMi} {P : List Nat} (h1 : xMs[mi]? = some M) (h2 : xPs[mi]? = some P) : xbm M P = true := by
  have hz : (xMs.zip xPs)[mi]? = some (M, P) := by
    rw [List.getElem?_zip_eq_some]
    exact ⟨h1, h2⟩
  exact List.all_eq_true.mp xbz_0 (M, P) (List.mem_of_getElem? hz)
theorem xbm_spec {M : xMi} {P : List Nat} (h : xbm M P = true) : xwd (xP0 P 0) (xcw0 M) = true ∧ xwd (xP0 P 1) (.initialized M.1.cls) = true ∧ (M.1.cls ≠ "java/lang/invoke/MethodHandle" ∧ M.1.cls ≠ "java/lang/invoke/VarHandle") ∧ plainFor M.1 = true ∧ M.2.2.1 ≤ 21 ∧ xchain M.2.2.2.2.2.2 = true ∧ (M.2.2.2.2.2.2.map fun e => e.1).head? = some 0 ∧ xbhs M.1.cls M.2.2.2.2.1 M.2.2.2.2.2.1 (P.drop 5) = true ∧ ∀ e ∈ M.2.2.2.2.2.2, xchk M.1 M.2.1 (!M.2.2.2.2.1.isEmpty) e = true := by
  unfold xbm xmh at h
  simp only [Bool.and_eq_true, decide_eq_true_eq, List.all_eq_true] at h
  exact ⟨xwc_wd h.1, h.2.1, h.2.2.1, h.2.2.2.1, h.2.2.2.2.1, h.2.2.2.2.2.1, h.2.2.2.2.2.2.1, h.2.2.2.2.2.2.2.1, h.2.2.2.2.2.2.2.2⟩
section XCK
variable {p : Program} {l : Launch} {e : Env} {R : Room} {s : State} {m : MethodId} {args : Array Value} {below : List Frame} {meth : Method} {c : Code} {H : Heap} {locs : List Loc} {cells slots : Nat}
variable {cc : ByteArray} {pc nL d : Nat} {ls : Array Slot} {b0 : Nat} {D : va_G} {tyC : Nat → ClassId} {ad : Nat → Nat} {h h' : xH} {loc : xL} {st : List Value} {r : xA}
variable {xs : List Int32} {z : Value} {own : String} {M : xMi} {mi : Nat} {P : List Nat}
theorem xcw0_code (hh : M.2.2.2.2.1 = []) : xcw0 M = .code M.1 M.2.1 M.2.2.1 M.2.2.2.1 := by
  unfold xcw0
  rw [hh]
theorem xcw0_with {h0 : Nat × Nat × Nat × Nat} {t0 : List (Nat × Nat × Nat × Nat)} (hh : M.2.2.2.2.1 = h0 :: t0) : xcw0 M = .codeWith M.1 M.2.1 M.2.2.1 M.2.2.2.1 M.2.2.2.2.1 := by
  unfold xcw0
  rw [hh]
theorem xcw0_good (M : xMi) : ((xcw0 M).onTables && (xcw0 M).keeps) = true := by
  unfold xcw0
  split <;> rfl
/-- the callee's words at every warmed state -/
theorem xws (hE : xEnv xs z b0 D tyC ad s) {k : Nat} (hw : xwd k (xcw0 M) = true) : ∀ w ∈ [xcw0 M], ∀ (a' : Array Value) (U : State), s.WarmedH U.vm → w.before a' U = true := by
  intro w hm a' U hW
  rw [List.mem_singleton] at hm
  subst hm
  exact word_at hW (Or.inl (xcw0_good M)) (xenv_w hE hw #[])
theorem xsig {y : MethodName} {n : Nat} (h : xnp y n = true) : ∀ sig, parseMethodDescriptor y.desc = some sig → n = sig.parameters.length := by
  intro sig hs
  have h := of_decide_eq_true h
  rw [hs] at h
  exact (Option.some.inj h).symm
/-- what is fixed at every call -/
theorem xcallB (hE : xEnv xs z b0 D tyC ad s) (hM1 : xMs[mi]? = some M) (hP1 : xPs[mi]? = some P) (hRf : d + 9 ≤ R.frames) (hRl : 40 * d + 240 ≤ R.locals) (hh : M.2.2.2.2.1 = []) {n i I : Nat} (hn : xnp M.1 n = true) (hlk : xwd I (.methodLink own i M.1) = true) (mc ms : Nat) : CallB R s args own i M.1 M.2.1 M.2.2.1 M.2.2.2.1 [xcw0 M] (xrm d mc ms) mc ms n := by
  obtain ⟨w1, w2, w3, w4, w5, -⟩ := xbm_spec (xbm_at hM1 hP1)
  refine ⟨rfl, rfl, ?_, ?_, xws hE w1, ?_, ?_, xenv_w hE w2 args, w3, xsig hn, xenv_w hE hlk args⟩
  · show d + 8 + 1 ≤ R.frames; omega
  · show 8 + (M.2.2.1 + 11) + (40 * d + 200) ≤ R.locals; omega
  · rw [xcw0_code hh]; exact List.mem_cons_self
  · rw [← xcw0_code hh]; exact xenv_w hE w1 args
theorem xst_split {n b : Nat} (h0 : 0 < n) (hn : n ≤ st.length) (hb : st[n - 1]? = some (.ref b)) : (st.take n).reverse = .ref b :: (st.take (n - 1)).reverse ∧ st = st.take (n - 1) ++ .ref b :: st.drop n ∧ (st.take (n - 1)).length = n - 1 := by
  have e1 : st.take n = st.take (n - 1) ++ [.ref b] := by
    obtain ⟨k, rfl⟩ : ∃ k, n = k + 1 := ⟨n - 1, by omega⟩
    rw [Nat.add_sub_cancel] at hb ⊢
    rw [List.take_add_one, hb]
    rfl
  refine ⟨by rw [e1, List.reverse_append]; rfl, ?_, by rw [List.length_take]; omega⟩
  have e2 := List.take_append_drop n st
  rw [e1] at e2
  rw [List.append_assoc] at e2
  exact e2.symm
theorem xst_map {n k b : Nat} (e2 : st = st.take k ++ .ref b :: st.drop n) : st.map (xcV ad) = ((st.take k).reverse.map (xcV ad)).reverse ++ .ref (ad b) :: (st.drop n).map (xcV ad) := by
  have h := congrArg (List.map (xcV ad)) e2
  rw [List.map_append] at h
  rw [← List.map_reverse, List.reverse_reverse]
  exact h
/-- the start of the callee -/
theorem xpre (hE : xEnv xs z b0 D tyC ad s) (hR : xRel b0 D tyC ad h s H locs) (as : List Value) : ∀ U : State, U.heap = H → s.WarmedH U.vm → xPre xs z b0 D tyC ad h as (as.map (xcV ad)).toArray U := by
  intro U hU hW
  exact ⟨rfl, xEnv_moved hE hR.2.2.2 hU hW, by rw [hU]; exact hR.1, hR.2.1, hR.2.2.1, va_S.rf⟩
theorem xrecv (hE : xEnv xs z b0 D tyC ad s) (hR : xRel b0 D tyC ad h s H locs) {b rc : Nat} {vs : List Value} {C : String} (hc : xcell (xK xs) h b = some (rc, vs)) (hn : xrcn rc C = true) : ∃ cell : Cell, H[ad b]? = some cell ∧ cell.vm.isStatics = false ∧ s.vm.findClass C = some cell.cls := by
  unfold xrcn at hn
  by_cases hb : b < 1000000
  · have hc := xcell_h hc hb
    split at hn
    · rename_i h45
      have h45 := of_decide_eq_true h45
      subst h45
      obtain ⟨q, hq, -⟩ := hR.1 b _ hc (by simp)
      exact absurd hq (by show ¬ vwCl[45]? = some q; simp)
    · split at hn
      · rename_i C' T N hcl
        have hn := of_decide_eq_true hn
        subst hn
        have hlt := xcls_lt hcl
        obtain ⟨k0, hk0⟩ := xcw_at (ad := ad) (tyC := tyC) hc (by show rc ≠ 40; omega)
        have hk1 : (xcw ad tyC h)[k0]? = some (ad b, .inr (rc, vs.map (xcV ad))) := by rw [hk0]; unfold xcE; rw [if_pos (show rc < 50 by omega)]
        exact va_recv hE.2.1 (xcw_P hR.1) hcl hk1
      · cases hn
  · obtain ⟨hc, haq⟩ := xcell_k hc hb
    have hcK := (hE.2.2.2.1 _ _ _ hc).2.2
    rw [haq] at hcK
    have key : ∀ E, xKC rc = some E → E = C → ∃ cell : Cell, H[ad b]? = some cell ∧ cell.vm.isStatics = false ∧ s.vm.findClass C = some cell.cls := by
      intro E h1 h2
      subst h2
      obtain ⟨cell, g1, g2, g3, g4⟩ := hcK E h1
      exact ⟨cell, by rw [hR.2.2.2.2.1 _ (Array.getElem?_eq_some_iff.mp g1).1 g4]; exact g1, g2, g3⟩
    split at hn
    · rename_i h45
      have h45 := of_decide_eq_true h45
      subst h45
      exact key _ rfl (of_decide_eq_true hn).symm
    · split at hn
      · rename_i C' T N hcl
        have hn := of_decide_eq_true hn
        have hlt := xcls_lt hcl
        have h0 : rc = 0 := by rcases xK_kind hc with q | q <;> omega
        subst h0
        cases hcl
        exact key "java/lang/String" rfl hn.symm
      · cases hn
theorem xrcv_spec {K : List (Nat × List Value)} {n rc : Nat} (h1 : xrcv K h st n rc = true) : ∃ b vs, st[n - 1]? = some (.ref b) ∧ xcell K h b = some (rc, vs) := by
  unfold xrcv at h1
  split at h1
  · rename_i a ha
    split at h1
    · rename_i c0 vs hc
      have h1 := of_decide_eq_true h1
      subst h1
      exact ⟨a, vs, ha, hc⟩
    · cases h1
  · cases h1
theorem xnoX {v : Option Value} : ∀ E st0 t, ¬ xXC b0 D tyC ad h (.ok v) h' E st0 t := by
  rintro E st0 t ⟨E', q, hb, h1, -⟩
  cases h1
/-- what all calls share -/
abbrev xShared (p : Program) (R : Room) (s : State) (m : MethodId) (c : Code) (cc : ByteArray) (nL d : Nat) (own : String) (ls : Array Slot) (xs : List Int32) (z : Value) (b0 : Nat) (D : va_G) (tyC : Nat → ClassId) (ad : Nat → Nat) (h : xH) (H : Heap) (locs : List Loc) (cells slots mc ms : Nat) : Prop :=
  p.tables.exec = Jvm.exec ∧ c.code = cc ∧ c.maxLocals = nL ∧ s.vm.findClass own = some m.cls ∧ xEnv xs z b0 D tyC ad s ∧ xRel b0 D tyC ad h s H locs ∧ ls.size = nL ∧ d + 9 ≤ R.frames ∧ 40 * d + 240 ≤ R.locals ∧ cells + mc ≤ R.cells ∧ slots + ms ≤ R.slots
theorem xc_virt0 {n : Nat} (S : xShared p R s m c cc nL d own ls xs z b0 D tyC ad h H locs cells slots (h'.length - h.length) (xsz h' - xsz h)) (hM1 : xMs[mi]? = some M) (hP1 : xPs[mi]? = some P) (hM : xMet xs z l d M (st.take n).reverse h r h') {i I rc : Nat} (hh : M.2.2.2.2.1 = []) (h0 : 0 < n) (hnp : xnp M.1 (n - 1) = true) (w1 : xwd (xP0 P 2) (.instanceMethod M.1) = true) (w2 : xwd I (.methodLink own i M.1) = true) (w3 : xwd (xP0 P 4) (.selects M.1.cls M.1 M.1) = true) (hrc : xrcn rc M.1.cls = true) (hn : n ≤ st.length) (hrv : xrcv (xK xs) h st n rc = true) (hcat : ((st.drop n).map fun v => v.category).sum ≤ 8) (hdg : decode cc pc = .ok (.invokevirtual i, 3)) :
    vx_Run p l e R s m args below meth c H locs cells slots (h'.length - h.length) (xsz h' - xsz h) (F0 m pc ls (st.map (xcV ad))) ((st.drop n).map (xcV ad)) (xQc b0 D tyC ad h r h' (((st.take n).reverse.map (xcV ad)).toArray)) (xXC b0 D tyC ad h r h') (fun q => b0 ≤ q) := by
  obtain ⟨hx, hb, hml, hown, hE, hR, hsz, hRf, hRl, hc1, hc2⟩ := S
  obtain ⟨b, vs, hb1, hb2⟩ := xrcv_spec hrv
  obtain ⟨e1, e2, e3⟩ := xst_split h0 hn hb1
  rw [e1] at hM ⊢
  rw [← xsum ad] at hcat
  have hp : PreV s H M.1.cls (ad b) (xPre xs z b0 D tyC ad h (.ref b :: (st.take (n - 1)).reverse)) ((st.take (n - 1)).reverse.map (xcV ad)) := ⟨xPre_blind, xrecv hE hR hb2 hrc, xpre hE hR _⟩
  exact vx_runV (Ts := []) (own := own) (n := n - 1) ⟨hx, hb, hml, hown, fun _ h => nomatch h⟩ (hM b0 D tyC ad) ⟨xcallB hE hM1 hP1 hRf hRl hh hnp w2 _ _, xenv_w hE w1 args, xenv_w hE w3 args⟩ hp rfl (by rw [List.length_map, List.length_reverse, e3]) hsz (xst_map e2) (by show 2 * 0 + _ ≤ 8; omega) hdg ⟨hc1, hc2⟩
theorem xc_virt3 {n : Nat} (S : xShared p R s m c cc nL d own ls xs z b0 D tyC ad h H locs cells slots (h'.length - h.length) (xsz h' - xsz h)) (hM1 : xMs[mi]? = some M) (hP1 : xPs[mi]? = some P) {v : Option Value} (hM : xMet xs z l d M (st.take n).reverse h (.ok v) h') {i I J S0 U mo : Nat} {Mo : xMi} {Po : List Nat} (hh : M.2.2.2.2.1 = []) (h0 : 0 < n) (hnp : xnp M.1 (n - 1) = true) (w1 : xwd (xP0 P 2) (.instanceMethod M.1) = true)
    (hMo : Mo.1 = ⟨xUo U, M.1.name, M.1.desc⟩) (hho : Mo.2.2.2.2.1 = []) (wo1 : xwd (xP0 Po 2) (.instanceMethod Mo.1) = true) (wo2 : xwd (xP0 Po 0) (xcw0 Mo) = true) (w2 : xwd I (.methodLink own i ⟨xUx U, M.1.name, M.1.desc⟩) = true) (w3 : xwd J (.sameMethod (xUx U) (xUo U) M.1.name M.1.desc) = true) (w4 : xwd S0 (.selects (xUc U) ⟨xUx U, M.1.name, M.1.desc⟩ M.1) = true) (hU : U ≤ 1) (hn : n ≤ st.length) (hrv : xrcv (xK xs) h st n (xrc 3 U) = true) (hcat : ((st.drop n).map fun v => v.category).sum ≤ 8) (hdg : decode cc pc = .ok (.invokevirtual i, 3)) :
    vx_Run p l e R s m args below meth c H locs cells slots (h'.length - h.length) (xsz h' - xsz h) (F0 m pc ls (st.map (xcV ad))) ((st.drop n).map (xcV ad)) (xQc b0 D tyC ad h (.ok v) h' (((st.take n).reverse.map (xcV ad)).toArray)) (xXC b0 D tyC ad h (.ok v) h') (fun q => b0 ≤ q) := by
  obtain ⟨hx, hb, hml, hown, hE, hR, hsz, hRf, hRl, hc1, hc2⟩ := S
  obtain ⟨b, vs, hb1, hb2⟩ := xrcv_spec hrv
  obtain ⟨e1, e2, e3⟩ := xst_split h0 hn hb1
  obtain ⟨v1, v2, v3, v4, v5, -⟩ := xbm_spec (xbm_at hM1 hP1)
  rw [e1] at hM ⊢
  rw [← xsum ad] at hcat
  have hrn : xrcn (xrc 3 U) (xUc U) = true := by
    rcases (show U = 0 ∨ U = 1 by omega) with rfl | rfl <;> rfl
  have hp : PreV s H (xUc U) (ad b) (xPre xs z b0 D tyC ad h (.ref b :: (st.take (n - 1)).reverse)) ((st.take (n - 1)).reverse.map (xcV ad)) := ⟨xPre_blind, xrecv hE hR hb2 hrn, xpre hE hR _⟩
  have hdecl : va_Decl s ⟨xUo U, M.1.name, M.1.desc⟩ := by
    rw [← hMo]
    exact va_Decl.of (args := args) (xenv_w hE wo1 args) (by rw [← xcw0_code hho]; exact xenv_w hE wo2 args)
  have hcd : (Cond.code M.1 M.2.1 M.2.2.1 M.2.2.2.1).before args s = true := by rw [← xcw0_code hh]; exact xenv_w hE v1 args
  refine xrun_of (va_runU (Ts := []) (own := own) (n := n - 1) (owner := xUo U) (x := ⟨xUx U, M.1.name, M.1.desc⟩) (bytes := M.2.1) (maxL := M.2.2.1) (ret := M.2.2.2.1) ⟨hx, hb, hml, hown, fun _ h => nomatch h⟩ (xMet_plain (hM b0 D tyC ad) xnoX) ⟨⟨rfl, rfl, ?_, ?_, xws hE v1, ?_⟩, hcd, xenv_w hE v2 args, ?_, xsig hnp, xenv_w hE w2 args, xenv_w hE w3 args, hdecl, xenv_w hE w4 args, xenv_w hE w1 args⟩ hp rfl (by rw [List.length_map, List.length_reverse, e3]) hsz (xst_map e2) (by show 2 * 0 + _ ≤ 8; omega) hdg ⟨hc1, hc2⟩)
  · show d + 8 + 1 ≤ R.frames; omega
  · show 8 + (M.2.2.1 + 11) + (40 * d + 200) ≤ R.locals; omega
  · rw [xcw0_code hh]; exact List.mem_cons_self
  · rcases (show U = 0 ∨ U = 1 by omega) with rfl | rfl <;> exact ⟨by decide, by decide⟩
theorem xst_take {n : Nat} : st.map (xcV ad) = ((st.take n).reverse.map (xcV ad)).reverse ++ (st.drop n).map (xcV ad) := by
  rw [← List.map_reverse, List.reverse_reverse, ← List.map_append, List.take_append_drop]
theorem xc_stat1 {n : Nat} (S : xShared p R s m c cc nL d own ls xs z b0 D tyC ad h H locs cells slots (h'.length - h.length) (xsz h' - xsz h)) (hM1 : xMs[mi]? = some M) (hP1 : xPs[mi]? = some P) (hM : xMet xs z l d M (st.take n).reverse h r h') {i I : Nat} (hnp : xnp M.1 n = true) (w1 : xwd (xP0 P 3) (.static M.1) = true) (w2 : xwd I (.methodLink own i M.1) = true) (hn : n ≤ st.length) (hcat : ((st.drop n).map fun v => v.category).sum ≤ 8) (hdg : decode cc pc = .ok (.invokestatic i, 3)) :
    vx_Run p l e R s m args below meth c H locs cells slots (h'.length - h.length) (xsz h' - xsz h) (F0 m pc ls (st.map (xcV ad))) ((st.drop n).map (xcV ad)) (xQc b0 D tyC ad h r h' (((st.take n).reverse.map (xcV ad)).toArray)) (xXC b0 D tyC ad h r h') (fun q => b0 ≤ q) := by
  obtain ⟨hx, hb, hml, hown, hE, hR, hsz, hRf, hRl, hc1, hc2⟩ := S
  obtain ⟨v1, v2, v3, v4, v5, -⟩ := xbm_spec (xbm_at hM1 hP1)
  rw [← xsum ad] at hcat
  have hlen : ((st.take n).reverse.map (xcV ad)).length = n := by rw [List.length_map, List.length_reverse, List.length_take]; omega
  have hp : PreS s H (xPre xs z b0 D tyC ad h (st.take n).reverse) ((st.take n).reverse.map (xcV ad)) := ⟨xPre_blind, xpre hE hR _⟩
  cases hh : M.2.2.2.2.1 with
  | nil =>
    exact vx_runS (Ts := []) (own := own) (n := n) ⟨hx, hb, hml, hown, fun _ h => nomatch h⟩ (hM b0 D tyC ad) ⟨xcallB hE hM1 hP1 hRf hRl hh hnp w2 _ _, xenv_w hE w1 args⟩ hp rfl hlen hsz xst_take (by show 2 * 0 + _ ≤ 8; omega) hdg ⟨hc1, hc2⟩
  | cons q0 t0 =>
    refine vx_runSX (Ts := []) (own := own) (n := n) (hh := M.2.2.2.2.1) (bytes := M.2.1) (maxL := M.2.2.1) (ret := M.2.2.2.1) ⟨hx, hb, hml, hown, fun _ h => nomatch h⟩ (hM b0 D tyC ad) ⟨⟨rfl, rfl, ?_, ?_, xws hE v1, ?_⟩, ?_, xenv_w hE v2 args, v3, xsig hnp, xenv_w hE w2 args, xenv_w hE w1 args⟩ hp rfl hlen hsz xst_take (by show 2 * 0 + _ ≤ 8; omega) hdg ⟨hc1, hc2⟩
    · show d + 8 + 1 ≤ R.frames; omega
    · show 8 + (M.2.2.1 + 11) + (40 * d + 200) ≤ R.locals; omega
    · rw [xcw0_with hh]; exact List.mem_cons_self
    · rw [← xcw0_with hh]; exact xenv_w hE v1 args
theorem xcN (hE : xEnv xs z b0 D tyC ad s) (hM1 : xMs[mi]? = some M) (hP1 : xPs[mi]? = some P) (hRf : d + 9 ≤ R.frames) (hRl : 40 * d + 240 ≤ R.locals) (hh : M.2.2.2.2.1 = []) {n i I : Nat} (hn : xnp M.1 n = true) (hlk : xwd I (.methodLinkNest own i M.1 "RiverReaches") = true) (mc ms : Nat) : va_CN R s args own i M.1 "RiverReaches" M.2.1 M.2.2.1 M.2.2.2.1 [xcw0 M] (xrm d mc ms) mc ms n := by
  obtain ⟨w1, w2, w3, w4, w5, -⟩ := xbm_spec (xbm_at hM1 hP1)
  refine ⟨⟨rfl, rfl, ?_, ?_, xws hE w1, ?_⟩, ?_, xenv_w hE w2 args, w3, xsig hn, xenv_w hE hlk args⟩
  · show d + 8 + 1 ≤ R.frames; omega
  · show 8 + (M.2.2.1 + 11) + (40 * d + 200) ≤ R.locals; omega
  · rw [xcw0_code hh]; exact List.mem_cons_self
  · rw [← xcw0_code hh]; exact xenv_w hE w1 args
theorem xc_stat6 {n : Nat} (S : xShared p R s m c cc nL d own ls xs z b0 D tyC ad h H locs cells slots (h'.length - h.length) (xsz h' - xsz h)) (hM1 : xMs[mi]? = some M) (hP1 : xPs[mi]? = some P) {v : Option Value} (hM : xMet xs z l d M (st.take n).reverse h (.ok v) h') {i I : Nat} (hh : M.2.2.2.2.1 = []) (hnp : xnp M.1 n = true) (w1 : xwd (xP0 P 3) (.static M.1) = true) (w2 : xwd I (.methodLinkNest own i M.1 "RiverReaches") = true) (hn : n ≤ st.length) (hcat : ((st.drop n).map fun v => v.category).sum ≤ 8) (hdg : decode cc pc = .ok (.invokestatic i, 3)) :
    vx_Run p l e R s m args below meth c H locs cells slots (h'.length - h.length) (xsz h' - xsz h) (F0 m pc ls (st.map (xcV ad))) ((st.drop n).map (xcV ad)) (xQc b0 D tyC ad h (.ok v) h' (((st.take n).reverse.map (xcV ad)).toArray)) (xXC b0 D tyC ad h (.ok v) h') (fun q => b0 ≤ q) := by
  obtain ⟨hx, hb, hml, hown, hE, hR, hsz, hRf, hRl, hc1, hc2⟩ := S
  rw [← xsum ad] at hcat
  have hlen : ((st.take n).reverse.map (xcV ad)).length = n := by rw [List.length_map, List.length_reverse, List.length_take]; omega
  have hp : PreS s H (xPre xs z b0 D tyC ad h (st.take n).reverse) ((st.take n).reverse.map (xcV ad)) := ⟨xPre_blind, xpre hE hR _⟩
  exact xrun_of (va_runSN (Ts := []) (own := own) (n := n) (host := "RiverReaches") ⟨hx, hb, hml, hown, fun _ h => nomatch h⟩ (xMet_plain (hM b0 D tyC ad) xnoX) ⟨xcN hE hM1 hP1 hRf hRl hh hnp w2 _ _, xenv_w hE w1 args, trivial⟩ hp rfl hlen hsz xst_take (by show 2 * 0 + _ ≤ 8; omega) hdg ⟨hc1, hc2⟩)
theorem xrf_spec {n : Nat} (h1 : xrf st n = true) : ∃ b, st[n - 1]? = some (.ref b) := by
  unfold xrf at h1
  split at h1
  · rename_i a ha
    exact ⟨a, ha⟩
  · cases h1
theorem xc_spec2 {n : Nat} (S : xShared p R s m c cc nL d own ls xs z b0 D tyC ad h H locs cells slots (h'.length - h.length) (xsz h' - xsz h)) (hM1 : xMs[mi]? = some M) (hP1 : xPs[mi]? = some P) {v : Option Value} (hM : xMet xs z l d M (st.take n).reverse h (.ok v) h') {i I : Nat} (hh : M.2.2.2.2.1 = []) (h0 : 0 < n) (hnp : xnp M.1 (n - 1) = true) (hin : M.1.name = "<init>") (hrt : M.2.2.2.1 = none) (w1 : xwd (xP0 P 2) (.instanceMethod M.1) = true) (w2 : xwd I (.methodLink own i M.1) = true) (hn : n ≤ st.length) (hrf : xrf st n = true) (hcat : ((st.drop n).map fun v => v.category).sum ≤ 8) (hdg : decode cc pc = .ok (.invokespecial i, 3)) :
    vx_Run p l e R s m args below meth c H locs cells slots (h'.length - h.length) (xsz h' - xsz h) (F0 m pc ls (st.map (xcV ad))) ((st.drop n).map (xcV ad)) (xQc b0 D tyC ad h (.ok v) h' (((st.take n).reverse.map (xcV ad)).toArray)) (xXC b0 D tyC ad h (.ok v) h') (fun q => b0 ≤ q) := by
  obtain ⟨hx, hb, hml, hown, hE, hR, hsz, hRf, hRl, hc1, hc2⟩ := S
  obtain ⟨b, hb1⟩ := xrf_spec hrf
  obtain ⟨e1, e2, e3⟩ := xst_split h0 hn hb1
  rw [e1] at hM ⊢
  rw [← xsum ad] at hcat
  have hp : PreS s H (xPre xs z b0 D tyC ad h (.ref b :: (st.take (n - 1)).reverse)) (.ref (ad b) :: (st.take (n - 1)).reverse.map (xcV ad)) := ⟨xPre_blind, xpre hE hR _⟩
  have cb := xcallB (args := args) (R := R) hE hM1 hP1 hRf hRl hh hnp w2 (h'.length - h.length) (xsz h' - xsz h)
  rw [hrt] at cb
  exact xrun_of (va_runI (Ts := []) (own := own) (n := n - 1) ⟨hx, hb, hml, hown, fun _ h => nomatch h⟩ (xMet_plain (hM b0 D tyC ad) xnoX) ⟨cb, hin, xenv_w hE w1 args⟩ hp rfl (by rw [List.length_map, List.length_reverse, e3]) hsz (xst_map e2) (by show 2 * 0 + _ ≤ 8; omega) hdg ⟨hc1, hc2⟩)
theorem xc_spec5 {n : Nat} (S : xShared p R s m c cc nL d own ls xs z b0 D tyC ad h H locs cells slots (h'.length - h.length) (xsz h' - xsz h)) (hM1 : xMs[mi]? = some M) (hP1 : xPs[mi]? = some P) {v : Option Value} (hM : xMet xs z l d M (st.take n).reverse h (.ok v) h') {i I : Nat} (hh : M.2.2.2.2.1 = []) (h0 : 0 < n) (hnp : xnp M.1 (n - 1) = true) (hin : M.1.name = "<init>") (hrt : M.2.2.2.1 = none) (w1 : xwd (xP0 P 2) (.instanceMethod M.1) = true) (w2 : xwd I (.methodLinkNest own i M.1 "RiverReaches") = true) (hn : n ≤ st.length) (hrf : xrf st n = true) (hcat : ((st.drop n).map fun v => v.category).sum ≤ 8) (hdg : decode cc pc = .ok (.invokespecial i, 3)) :
    vx_Run p l e R s m args below meth c H locs cells slots (h'.length - h.length) (xsz h' - xsz h) (F0 m pc ls (st.map (xcV ad))) ((st.drop n).map (xcV ad)) (xQc b0 D tyC ad h (.ok v) h' (((st.take n).reverse.map (xcV ad)).toArray)) (xXC b0 D tyC ad h (.ok v) h') (fun q => b0 ≤ q) := by
  obtain ⟨hx, hb, hml, hown, hE, hR, hsz, hRf, hRl, hc1, hc2⟩ := S
  obtain ⟨b, hb1⟩ := xrf_spec hrf
  obtain ⟨e1, e2, e3⟩ := xst_split h0 hn hb1
  rw [e1] at hM ⊢
  rw [← xsum ad] at hcat
  have hp : PreS s H (xPre xs z b0 D tyC ad h (.ref b :: (st.take (n - 1)).reverse)) (.ref (ad b) :: (st.take (n - 1)).reverse.map (xcV ad)) := ⟨xPre_blind, xpre hE hR _⟩
  have cb := xcN (args := args) (R := R) hE hM1 hP1 hRf hRl hh hnp w2 (h'.length - h.length) (xsz h' - xsz h)
  rw [hrt] at cb
  exact xrun_of (va_runIN (Ts := []) (own := own) (n := n - 1) (host := "RiverReaches") ⟨hx, hb, hml, hown, fun _ h => nomatch h⟩ (xMet_plain (hM b0 D tyC ad) xnoX) ⟨cb, hin, xenv_w hE w1 args⟩ hp rfl (by rw [List.length_map, List.length_reverse, e3]) hsz (xst_map e2) (by show 2 * 0 + _ ≤ 8; omega) hdg ⟨hc1, hc2⟩)
theorem xc_spec4 {n : Nat} (S : xShared p R s m c cc nL d own ls xs z b0 D tyC ad h H locs cells slots (h'.length - h.length) (xsz h' - xsz h)) (hM1 : xMs[mi]? = some M) (hP1 : xPs[mi]? = some P) {v : Option Value} (hM : xMet xs z l d M (st.take n).reverse h (.ok v) h') {i I J S0 : Nat} (hh : M.2.2.2.2.1 = []) (h0 : 0 < n) (hnp : xnp M.1 (n - 1) = true) (hin : M.1.name ≠ "<init>") (w1 : xwd (xP0 P 2) (.instanceMethod M.1) = true) (w2 : xwd I (.methodLink own i M.1) = true) (w3 : xwd J (.sameMethod M.1.cls M.1.cls M.1.name M.1.desc) = true) (w4 : xwd S0 (.superclass own M.1.cls) = true) (hn : n ≤ st.length) (hrv : xrcv (xK xs) h st n 1 = true) (hcat : ((st.drop n).map fun v => v.category).sum ≤ 8) (hdg : decode cc pc = .ok (.invokespecial i, 3)) :
    vx_Run p l e R s m args below meth c H locs cells slots (h'.length - h.length) (xsz h' - xsz h) (F0 m pc ls (st.map (xcV ad))) ((st.drop n).map (xcV ad)) (xQc b0 D tyC ad h (.ok v) h' (((st.take n).reverse.map (xcV ad)).toArray)) (xXC b0 D tyC ad h (.ok v) h') (fun q => b0 ≤ q) := by
  obtain ⟨hx, hb, hml, hown, hE, hR, hsz, hRf, hRl, hc1, hc2⟩ := S
  obtain ⟨b, vs, hb1, hb2⟩ := xrcv_spec hrv
  obtain ⟨e1, e2, e3⟩ := xst_split h0 hn hb1
  obtain ⟨v1, v2, v3, v4, v5, -⟩ := xbm_spec (xbm_at hM1 hP1)
  rw [e1] at hM ⊢
  rw [← xsum ad] at hcat
  have hp : PreV s H "java/lang/StringBuilder" (ad b) (xPre xs z b0 D tyC ad h (.ref b :: (st.take (n - 1)).reverse)) ((st.take (n - 1)).reverse.map (xcV ad)) := ⟨xPre_blind, xrecv hE hR hb2 rfl, xpre hE hR _⟩
  have hcd : (Cond.code M.1 M.2.1 M.2.2.1 M.2.2.2.1).before args s = true := by rw [← xcw0_code hh]; exact xenv_w hE v1 args
  have hcls : ClassAt s "java/lang/StringBuilder" (D.1 1) := (hE.2.1.1 1 _ rfl).2
  refine xrun_of (va_runSU (Ts := []) (own := own) (n := n - 1) (bytes := M.2.1) (maxL := M.2.2.1) (ret := M.2.2.2.1) hcls ⟨hx, hb, hml, hown, fun _ h => nomatch h⟩ (xMet_plain (hM b0 D tyC ad) xnoX) ⟨⟨rfl, rfl, ?_, ?_, xws hE v1, ?_⟩, xenv_w hE w2 args, xenv_w hE w3 args, xenv_w hE w4 args, xenv_w hE w1 args, xenv_w hE v2 args, hcd, hin, xsig hnp⟩ hp rfl (by rw [List.length_map, List.length_reverse, e3]) hsz (xst_map e2) (by show 2 * 0 + _ ≤ 8; omega) hdg ⟨hc1, hc2⟩)
  · show d + 8 + 1 ≤ R.frames; omega
  · show 8 + (M.2.2.1 + 11) + (40 * d + 200) ≤ R.locals; omega
  · rw [xcw0_code hh]; exact List.mem_cons_self
end XCK
