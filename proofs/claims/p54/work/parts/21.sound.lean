/-! EVERY METHOD'S RUN IS TRUE TO THE MACHINE -/
section XSD
variable {l : Launch}
theorem xofW {y : MethodName} {ws ws' : List Cond} {rm : Room} {Pc : Array Value → State → Prop} {Qc : Array Value → State → Outcome → State → Prop} {XC : String → State → State → Prop} {mc ms : Nat} {free : Addr → Prop} {cc : ByteArray} {maxL : Nat} {ret : Option FieldType}
    (hy : plainFor y = true) (hw : ws = Cond.code y cc maxL ret :: ws')
    (body : ∀ p e s m args below meth c s₁, BodyLoose p l y (headSpec ws rm) cc maxL ret e s m args below meth c s₁ → c.maxLocals = maxL → c.exceptionTable.toList = [] → Pc args s →
      W p l e (headSpec ws rm).room s m args below meth c s.heap [] 0 0 (vx_MQ below Qc XC args s mc ms free) (entryFrame m args maxL)) : vx_Met l y ws rm Pc Qc XC mc ms free := by
  refine MetFree.of_bodySF (code := cc) (maxLocals := maxL) (ret := ret) hy ?_ ?_
  · intro args s m h hn
    obtain ⟨meth, c, h1, h2, h3, h4, h5, h6, -, -⟩ := Cond.code_spec hn (atoms_spec (ws := ws) h _ (by rw [hw]; exact List.mem_cons_self))
    exact ⟨meth, c, h1, h2, h3, h4, h5, h6⟩
  · intro p e s m args below meth c s₁ B hml hP _
    have hh0 : s₁.heap = s.heap := by rw [B.state]; rfl
    have ht : c.exceptionTable.toList = [] := by
      obtain ⟨meth9, c9, h1, h2, -, -, -, -, h7, -⟩ := Cond.code_spec B.named (atoms_spec (ws := ws) B.pre _ (by rw [hw]; exact List.mem_cons_self))
      cases Option.some.inj (h1.symm.trans B.method)
      cases Option.some.inj (h2.symm.trans (Stand.of_body B).code)
      rw [Array.isEmpty_iff.mp h7]
    obtain ⟨t, a1, o, b1, b2, b3⟩ := body p e s m args below meth c s₁ B hml ht hP s₁ hh0 (Stand.of_body B)
    exact ⟨t, o, a1, b1, b2, b3⟩
theorem xofWH {y : MethodName} {ws ws' : List Cond} {rm : Room} {Pc : Array Value → State → Prop} {Qc : Array Value → State → Outcome → State → Prop} {XC : String → State → State → Prop} {mc ms : Nat} {free : Addr → Prop} {cc : ByteArray} {maxL : Nat} {ret : Option FieldType} {hh : List (Nat × Nat × Nat × Nat)}
    (hy : plainFor y = true) (hw : ws = Cond.codeWith y cc maxL ret hh :: ws')
    (body : ∀ p e s m args below meth c s₁, BodyLoose p l y (headSpec ws rm) cc maxL ret e s m args below meth c s₁ → c.maxLocals = maxL → c.exceptionTable.toList = tableOf hh → Pc args s →
      W p l e (headSpec ws rm).room s m args below meth c s.heap [] 0 0 (vx_MQ below Qc XC args s mc ms free) (entryFrame m args maxL)) : vx_Met l y ws rm Pc Qc XC mc ms free := by
  refine MetFree.of_bodySF (code := cc) (maxLocals := maxL) (ret := ret) hy ?_ ?_
  · intro args s m h hn
    obtain ⟨m9, meth, c, hn9, h1, h2, h3, h4, -, h5, h6, -⟩ := Cond.codeWith_spec (atoms_spec (ws := ws) h _ (by rw [hw]; exact List.mem_cons_self))
    cases hn.symm.trans hn9
    exact ⟨meth, c, h1, h2, h3, h4, h5, h6⟩
  · intro p e s m args below meth c s₁ B hml hP _
    have hh0 : s₁.heap = s.heap := by rw [B.state]; rfl
    obtain ⟨t, a1, o, b1, b2, b3⟩ := body p e s m args below meth c s₁ B hml (vx_table (x := y) B (atoms_spec (ws := ws) B.pre _ (by rw [hw]; exact List.mem_cons_self))) hP s₁ hh0 (Stand.of_body B)
    exact ⟨t, o, a1, b1, b2, b3⟩
theorem lg_sl_len (vs : List Value) : (lg_sl vs).length = (vs.map fun v => v.category).sum := by
  induction vs with
  | nil => rfl
  | cons v vs ih =>
    have h1 : lg_sl (v :: vs) = (if v.category = 2 then [Slot.val v, .second] else [.val v]) ++ lg_sl vs := rfl
    rw [h1, List.length_append, ih, List.map_cons, List.sum_cons]
    cases v <;> rfl
theorem xargs_map (ad : Nat → Nat) : ∀ (vs : List Value) (i : Nat), lv_args i (vs.map (xcV ad)) = xlc ad (lv_args i vs) := by
  intro vs
  induction vs with
  | nil => intro i; rfl
  | cons v vs ih =>
    intro i
    show (i, xcV ad v) :: lv_args _ (vs.map (xcV ad)) = (i, xcV ad v) :: xlc ad _
    rw [ih, xcV_cat]
/-- the body of a method, whatever its handlers -/
theorem xbody {p : Program} {e : Env} {s : State} {m : MethodId} {args0 : Array Value} {below : List Frame} {meth : Method} {c : Code} {R : Room} {xs : List Int32} {z : Value} (hl : l.stackTraces = false) (hz : xsc 0 z) {d f : Nat} {M : xMi} {P : List Nat} {mi : Nat} (hM : xMs[mi]? = some M) (hP : xPs[mi]? = some P)
    (hcall : ∀ mi as h r h', xgo xMs (xK xs) (xZ z) d f mi as h = some (r, h') → xscH h → (∀ v ∈ as, xsc h.length v) → ∃ M, xMs[mi]? = some M ∧ xMet xs z l d M as h r h')
    {args : List Value} {h h' : xH} {r : xA} (hcat : (args.map fun v => v.category).sum ≤ M.2.2.1) (hr : xev (xgo xMs (xK xs) (xZ z) d f) M.2.2.1 (xK xs) (xZ z) (xhs M) M.2.2.2.2.2.2 f M.2.2.2.2.2.2 (lv_args 0 args) [] h = some (r, h')) (hfit : ∀ v, r = .ok v → xrfit M.2.2.2.1 v = true)
    (hsc : xscH h) (hargs : ∀ v ∈ args, xsc h.length v) {b0 : Nat} {D : va_G} {tyC : Nat → ClassId} {ad : Nat → Nat}
    (hx : p.tables.exec = Jvm.exec) (hb : c.code = M.2.1) (hml : c.maxLocals = M.2.2.1) (hown : s.vm.findClass M.1.cls = some m.cls) (hmn : meth.name = M.1.name) (hlocks : meth.locks = false) (hret : meth.sig.returnType = M.2.2.2.1) (htab : c.exceptionTable.toList = tableOf M.2.2.2.2.1)
    (hRf : d + 9 ≤ R.frames) (hRl : 40 * d + 240 ≤ R.locals) (hRc : h'.length - h.length ≤ R.cells) (hRs : xsz h' - xsz h ≤ R.slots) (hE : xEnv xs z b0 D tyC ad s) (hR : xRel b0 D tyC ad h s s.heap []) :
    W p l e R s m args0 below meth c s.heap [] 0 0 (vx_MQ below (xQc b0 D tyC ad h r h') (xXC b0 D tyC ad h r h') args0 s (h'.length - h.length) (xsz h' - xsz h) (fun q => b0 ≤ q)) (entryFrame m (args.map (xcV ad)).toArray M.2.2.1) := by
  obtain ⟨v1, v2, v3, v4, v5, v6, v7, v8, v9⟩ := xbm_spec (xbm_at hM hP)
  rw [lg_entry_eq]
  have hlen : (lg_sl (args.map (xcV ad))).length ≤ M.2.2.1 := by
    rw [lg_sl_len, List.map_map]
    have : (fun v : Value => v.category) ∘ xcV ad = fun v => v.category := funext fun v => xcV_cat ad v
    rw [this]
    exact hcat
  have hlv := lv_entry (args.map (xcV ad)) hlen
  rw [xargs_map] at hlv
  cases hcs : M.2.2.2.2.2.2 with
  | nil => rw [hcs] at hr; cases f <;> cases hr
  | cons e1 cs =>
    have he1 : e1.1 = 0 := by
      rw [hcs] at v7
      exact Option.some.inj v7
    have main := xdrive (p := p) (l := l) (e := e) (R := R) (s := s) (m := m) (args := args0) (below := below) (meth := meth) (c := c) (Q := vx_MQ below (xQc b0 D tyC ad h r h') (xXC b0 D tyC ad h r h') args0 s (h'.length - h.length) (xsz h' - xsz h) (fun q => b0 ≤ q)) (cc := M.2.1) (nL := M.2.2.1) (d := d) (ad0 := ad) (y := M.1) (hh := !M.2.2.2.2.1.isEmpty) (code := M.2.2.2.2.2.2) (call := xgo xMs (xK xs) (xZ z) d f) (hhs := M.2.2.2.2.1) (Es := M.2.2.2.2.2.1) (Is := P.drop 5) (Cm := h'.length - h.length) (Sm := xsz h' - xsz h) (h0 := h) (hf := h') (rr := r) (D := D) (tyC := tyC) (b0 := b0)
      hx hb hml hown hmn hE hz hRf hRl hRc hRs (fun _ => htab) v8 v9 v6 (xgo_good (xcon_K xs z hz) d f) hcall ?_ ?_ ?_ f M.2.2.2.2.2.2 (lv_args 0 args) [] h ad s.heap [] _ 0 0 (fun e h => h) v6 hr ⟨⟨Nat.le_refl _, Nat.le_refl _⟩, hsc, fun q hq => hargs _ (lv_args_mem args 0 q hq), fun v hv => absurd hv List.not_mem_nil⟩ (fun i _ => rfl) hR hlv (by omega) (by omega) e1 (by rw [hcs]; rfl)
    · rw [he1] at main
      exact main
    · -- returns
      intro e0 v loc st ad1 H locs ls cells slots hck hs hv ha hR1 hl1 hc hs1
      have hf := hfit v hv
      have hq : ∀ t : State, t.heap = H → s.WarmedH t.vm → ∀ w, v.map (xcV ad1) = w → xQc b0 D tyC ad h r h' args0 s (.returned w) t := fun t ht _ w hw => ⟨v, hv, ad1, ha, by rw [hw], by rw [ht]; exact hR1.1, hR1.2.1, hR1.2.2.1, hR1.2.2.2.F ht⟩
      have hfr : ∀ q ∈ locs, (fun q => b0 ≤ q) q.base := hR1.2.2.2.2.2
      obtain ⟨pc, i0, ln, aux⟩ := e0
      unfold xchk at hck
      obtain ⟨hd, hck⟩ := Bool.and_eq_true _ _ |>.mp hck
      obtain ⟨hlen9, -⟩ := Bool.and_eq_true _ _ |>.mp hck
      have hdg : decode M.2.1 pc = .ok (i0, ln) := of_decide_eq_true hd
      have hi := xstep_inr hs
      dsimp only at hlen9 hi ⊢
      refine vx_ret (W.widen hc hs1 ?_)
      rcases hi with ⟨i, -, hq9⟩ | ⟨i, -, hq9⟩ | ⟨i, -, hq9⟩ | ⟨i, -, hq9⟩ | ⟨rfl, hq9⟩ | ⟨rfl, hq9⟩ | ⟨rfl, hq9⟩ | ⟨rfl, hq9⟩ | ⟨rfl, hq9⟩ | ⟨rfl, hq9⟩
      · obtain ⟨k, mi', n, I, rc, ra, -, -, -, hq9⟩ := xvirt_inr hq9
        cases (xcall_inr hq9).2.2
      · obtain ⟨k, mi', n, ra, -, -, -, -, hq9⟩ := xstat_inr hq9
        cases (xcall_inr hq9).2.2
      · obtain ⟨k, mi', n, ra, -, -, -, -, hq9⟩ := xspec_inr hq9
        cases (xcall_inr hq9).2.2
      · obtain ⟨i, ra, -, -, ho⟩ := xnewx_inr hq9
        cases ho
      · obtain ⟨w, rfl, hw, ho⟩ := xret_inr hq9
        cases ho
        cases xnat_eq (n := 1) hlen9
        cases w <;> first | (cases hw; done) | skip
        cases hrt : M.2.2.2.1 with
        | none => rw [hrt] at hf; cases hf
        | some ty =>
          rw [hrt] at hf
          exact W.zret hx hb (hret.trans hrt) (narrow_of_fits (xfit_fits hf ad1)) (fun t ht hW => hq t ht hW _ rfl) hfr hdg hlocks
      · obtain ⟨w, rfl, hw, ho⟩ := xret_inr hq9
        cases ho
        cases xnat_eq (n := 1) hlen9
        cases w <;> first | (cases hw; done) | skip
        cases hrt : M.2.2.2.1 with
        | none => rw [hrt] at hf; cases hf
        | some ty =>
          rw [hrt] at hf
          cases ty <;> first | (cases hf; done) | skip
          exact W.lret hx hb (hret.trans hrt) (fun t ht hW => hq t ht hW _ rfl) hfr hdg hlocks
      · obtain ⟨w, rfl, hw, ho⟩ := xret_inr hq9
        cases ho
        cases xnat_eq (n := 1) hlen9
        cases w <;> first | (cases hw; done) | skip
        cases hrt : M.2.2.2.1 with
        | none => rw [hrt] at hf; cases hf
        | some ty =>
          rw [hrt] at hf
          cases ty <;> first | (cases hf; done) | skip
          exact W.fret hx hb (hret.trans hrt) (fun t ht hW => hq t ht hW _ rfl) hfr hdg hlocks
      · obtain ⟨w, rfl, hw, ho⟩ := xret_inr hq9
        cases ho
        cases xnat_eq (n := 1) hlen9
        cases w <;> first | (cases hw; done) | skip
        cases hrt : M.2.2.2.1 with
        | none => rw [hrt] at hf; cases hf
        | some ty =>
          rw [hrt] at hf
          cases ty <;> first | (cases hf; done) | skip
          exact W.dret hx hb (hret.trans hrt) (fun t ht hW => hq t ht hW _ rfl) hfr hdg hlocks
      · obtain ⟨w, rfl, hw, ho⟩ := xret_inr hq9
        cases ho
        cases xnat_eq (n := 1) hlen9
        have hv9 : xcV ad1 w = .null ∨ ∃ a, xcV ad1 w = .ref a := by
          cases w <;> first | (cases hw; done) | exact Or.inl rfl | exact Or.inr ⟨_, rfl⟩
        cases hrt : M.2.2.2.1 with
        | none => rw [hrt] at hf; cases hf
        | some ty =>
          rw [hrt] at hf
          refine W.aret hx hb (hret.trans hrt) ?_ hv9 (fun t ht hW => hq t ht hW _ rfl) hfr hdg hlocks
          cases ty <;> first | exact Or.inl ⟨_, rfl⟩ | exact Or.inr ⟨_, rfl⟩ | (exfalso; cases w <;> first | (cases hw; done) | (cases hf; done))
      · obtain ⟨rfl, ho⟩ := xretv_inr hq9
        cases ho
        cases xnat_eq (n := 1) hlen9
        cases hrt : M.2.2.2.1 with
        | some ty => rw [hrt] at hf; cases hf
        | none => exact W.vret hx hb (hret.trans hrt) (fun t ht hW => hq t ht hW _ rfl) hfr hdg hlocks
    · -- not caught
      intro pc E X rest hb1 ad1 H locs ls cells slots q9 ce hr1 hf1 hX hp ha hR1 hce hcv hcl hc hs1
      exact vx_outP (own := M.1.cls) hown hlocks (fun w hw => hp w (by rw [← htab]; exact hw)) hce hcv hcl (fun t ht _ => ⟨E, hb1.length, hb1, hr1, hf1, rfl, hX, ad1, ha, by rw [ht]; exact hR1.1, hR1.2.1, hR1.2.2.1, hR1.2.2.2.F ht⟩) hR1.2.2.2.2.2 hc hs1
    · -- thrown here
      intro e0 E loc st hb1 ad1 H locs ls cells slots hck hs hr1 hf1 ha hR1 hl1 hc hs1
      obtain ⟨pc, i0, ln, aux⟩ := e0
      unfold xchk at hck
      obtain ⟨hd, hck⟩ := Bool.and_eq_true _ _ |>.mp hck
      obtain ⟨hlen9, hk9⟩ := Bool.and_eq_true _ _ |>.mp hck
      have hdg : decode M.2.1 pc = .ok (i0, ln) := of_decide_eq_true hd
      have hi := xstep_inr hs
      dsimp only at hlen9 hk9 hi ⊢
      rcases hi with ⟨i, -, hq9⟩ | ⟨i, -, hq9⟩ | ⟨i, -, hq9⟩ | ⟨i, rfl, hq9⟩ | ⟨-, hq9⟩ | ⟨-, hq9⟩ | ⟨-, hq9⟩ | ⟨-, hq9⟩ | ⟨-, hq9⟩ | ⟨-, hq9⟩
      · obtain ⟨k, mi', n, I, rc, ra, -, -, -, hq9⟩ := xvirt_inr hq9
        cases (xcall_inr hq9).2.2
      · obtain ⟨k, mi', n, ra, -, -, -, -, hq9⟩ := xstat_inr hq9
        cases (xcall_inr hq9).2.2
      · obtain ⟨k, mi', n, ra, -, -, -, -, hq9⟩ := xspec_inr hq9
        cases (xcall_inr hq9).2.2
      · obtain ⟨E', ra, rfl, hroom, ho⟩ := xnewx_inr hq9
        cases ho
        cases xnat_eq (n := 3) hlen9
        obtain ⟨n1, n2⟩ := Bool.and_eq_true _ _ |>.mp hk9
        obtain ⟨n2, n3⟩ := Bool.and_eq_true _ _ |>.mp n2
        have hhz : M.2.2.2.2.1 = [] := by
          cases hM9 : M.2.2.2.2.1 with
          | nil => rfl
          | cons q t => rw [hM9] at n3; cases n3
        have htab0 : c.exceptionTable.toList = [] := by rw [htab, hhz]; rfl
        replace n1 : xbnew M.1.cls i (1 :: E :: ra) = true := n1
        rcases ra with _ | ⟨I, _ | ⟨I2, _ | ⟨ic, ra⟩⟩⟩
        · cases n1
        · cases n1
        · cases n1
        · replace n1 : (match xEx[E]? with | some X => xwd I (.classLink M.1.cls i X) && (xwd I2 (.initialized X) && decide (ic < 100000)) | none => false) = true := n1
          split at n1
          · rename_i X hX
            obtain ⟨w1, w2⟩ := Bool.and_eq_true _ _ |>.mp n1
            obtain ⟨w2, -⟩ := Bool.and_eq_true _ _ |>.mp w2
            replace n2 : (decide ((M.1.cls, ic, E) ∈ xThr) && (decide (decode M.2.1 (pc + 3) = .ok (.dup, 1)) && (decide (decode M.2.1 (pc + 4) = .ok (.invokespecial ic, 3)) && decide (decode M.2.1 (pc + 7) = .ok (.athrow, 1))))) = true := n2
            simp only [Bool.and_eq_true, decide_eq_true_eq] at n2
            obtain ⟨t1, t2, t3, t4⟩ := n2
            have ht := List.all_eq_true.mp xthr_ok _ t1
            dsimp only at ht
            rw [hX] at ht
            dsimp only at ht
            obtain ⟨ht1, ht2⟩ := Bool.and_eq_true _ _ |>.mp ht
            have ht2 : ∀ w ∈ vx_at0 M.1.cls ic X ["java/lang/RuntimeException", "java/lang/Exception"], w ∈ lw_tbl ∧ xgd w = true := fun w hw => by
              obtain ⟨a1, a2⟩ := Bool.and_eq_true _ _ |>.mp (List.all_eq_true.mp ht2 w hw)
              exact ⟨of_decide_eq_true a1, a2⟩
            have hat : ∀ w ∈ vx_at0 M.1.cls ic X ["java/lang/RuntimeException", "java/lang/Exception"], w.before args0 s = true := fun w hw => va_Nw.use (xgd_tab (ht2 w hw).2) (hE.1 w (Or.inl (ht2 w hw).1) (ht2 w hw).2)
            have hsz9 : (st.map fun v => v.category).sum ≤ 8 := of_decide_eq_true hroom
            rw [← xsum ad1] at hsz9
            refine vx_throw0 (cc := M.2.1) (own := M.1.cls) (cls := X) (names := ["java/lang/RuntimeException", "java/lang/Exception"]) (ik := i) (ic := ic) (A := fun q => b0 ≤ q) hx hb hl hown ht1 (by decide) (xenv_w hE w1 args0) (xenv_w hE w2 args0) hat ?_ hE.2.2.2.2.2.1.1 hE.2.2.2.2.2.1.2 hR1.2.2.2 (hl1.1.trans hml.symm) hdg t2 t3 t4 (fun x hx9 => by rw [htab0] at hx9; cases hx9) (by show 2 + 3 < R.frames; omega) (by show _ + (13 * (2 + 1) + 42) ≤ R.locals; omega) (by omega) (by omega) hlocks ?_ hR1.2.2.2.2.2 hc hs1
            · intro w hw
              unfold vx_ot
              rw [Bool.or_eq_true]
              rcases List.mem_cons.mp hw with rfl | hw
              · exact Or.inl rfl
              · rcases List.mem_cons.mp hw with rfl | hw
                · exact Or.inl rfl
                · exact Or.inl (xgd_tab (ht2 w hw).2)
            · intro t ht9 hsz1 hkp
              refine ⟨E, hb1.length, hb1, hr1, hf1, rfl, hX, ad1, ha, fun i e he hne => (hR1.1 i e he hne).kept (hkp _ (hR1.1 i e he hne).lt), hR1.2.1, hR1.2.2.1, Nat.le_trans hR1.2.2.2.1 hsz1, fun q hq1 hq2 => ?_⟩
              rw [hkp q (Nat.lt_of_lt_of_le hq1 hR1.2.2.2.1)]
              exact hR1.2.2.2.2.1 q hq1 hq2
          · cases n1
      · obtain ⟨w, -, -, ho⟩ := xret_inr hq9
        cases ho
      · obtain ⟨w, -, -, ho⟩ := xret_inr hq9
        cases ho
      · obtain ⟨w, -, -, ho⟩ := xret_inr hq9
        cases ho
      · obtain ⟨w, -, -, ho⟩ := xret_inr hq9
        cases ho
      · obtain ⟨w, -, -, ho⟩ := xret_inr hq9
        cases ho
      · obtain ⟨-, ho⟩ := xretv_inr hq9
        cases ho
theorem xsound (hl : l.stackTraces = false) (xs : List Int32) (z : Value) (hz : xsc 0 z) : ∀ (d f mi : Nat) (args : List Value) (h : xH) (r : xA) (h' : xH), xgo xMs (xK xs) (xZ z) d f mi args h = some (r, h') → xscH h → (∀ v ∈ args, xsc h.length v) → ∃ M, xMs[mi]? = some M ∧ xMet xs z l d M args h r h' := by
  intro d
  induction d with
  | zero =>
    intro f mi args h r h' hr
    cases hr
  | succ d ih =>
    intro f mi args h r h' hr hsc hargs
    rw [xgo] at hr
    split at hr
    · cases hr
    · rename_i M hM
      obtain ⟨P, hP⟩ := xP_some hM
      obtain ⟨v1, v2, v3, v4, -⟩ := xbm_spec (xbm_at hM hP)
      split at hr
      · cases hr
      · rename_i hcat
        have hcat := of_decide_eq_true hcat
        have key : xev (xgo xMs (xK xs) (xZ z) d f) M.2.2.1 (xK xs) (xZ z) (xhs M) M.2.2.2.2.2.2 f M.2.2.2.2.2.2 (lv_args 0 args) [] h = some (r, h') ∧ ∀ v, r = .ok v → xrfit M.2.2.2.1 v = true := by
          split at hr
          · rename_i v h2 he
            split at hr
            · rename_i hfit
              cases hr
              exact ⟨he, fun v q => by cases q; exact hfit⟩
            · cases hr
          · rename_i hne
            refine ⟨hr, fun v q => ?_⟩
            subst q
            exact absurd hr (hne v h')
        obtain ⟨he, hfit⟩ := key
        refine ⟨M, hM, fun b0 D tyC ad => ?_⟩
        cases hhs : M.2.2.2.2.1 with
        | nil =>
          refine xofW (cc := M.2.1) (maxL := M.2.2.1) (ret := M.2.2.2.1) (ws' := []) v4 (by rw [xcw0_code hhs]) ?_
          intro p e s m args0 below meth c s₁ B hml ht hPc
          obtain ⟨rfl, hE, hR⟩ := hPc
          exact xbody hl hz hM hP (fun mi as h r h' => ih f mi as h r h') hcat he hfit hsc hargs B.exec B.bytes hml (findClass_of_methodNamed B.named) (name_of_methodNamed B.named B.method).1 B.notSynchronized B.returns (by rw [ht, hhs]; rfl) (by show d + 9 ≤ d + 1 + 8; omega) (by show 40 * d + 240 ≤ 40 * (d + 1) + 200; omega) (Nat.le_refl _) (Nat.le_refl _) hE hR
        | cons q0 t0 =>
          refine xofWH (cc := M.2.1) (maxL := M.2.2.1) (ret := M.2.2.2.1) (hh := M.2.2.2.2.1) (ws' := []) v4 (by rw [xcw0_with hhs]) ?_
          intro p e s m args0 below meth c s₁ B hml ht hPc
          obtain ⟨rfl, hE, hR⟩ := hPc
          exact xbody hl hz hM hP (fun mi as h r h' => ih f mi as h r h') hcat he hfit hsc hargs B.exec B.bytes hml (findClass_of_methodNamed B.named) (name_of_methodNamed B.named B.method).1 B.notSynchronized B.returns ht (by show d + 9 ≤ d + 1 + 8; omega) (by show 40 * d + 240 ≤ 40 * (d + 1) + 200; omega) (Nat.le_refl _) (Nat.le_refl _) hE hR
end XSD
