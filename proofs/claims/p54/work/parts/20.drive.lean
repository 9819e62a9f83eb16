/-! A BODY'S RUN IS TRUE TO THE MACHINE -/
section XH
variable {s : State} {own : String} {args : Array Value} {xs : List Int32} {z : Value} {b0 : Nat} {D : va_G} {tyC : Nat → ClassId} {ad ad' : Nat → Nat} {hb : xH} {H : Heap} {locs : List Loc}
def xhz (hhs : List (Nat × Nat × Nat × Nat)) (Es : List Nat) : List (Nat × Nat × Nat × Nat) := (hhs.zip Es).map fun q => (q.1.1, q.1.2.1, q.1.2.2.1, q.2)
def xpass (own : String) (X : String) (pc : Nat) (args : Array Value) (s : State) (w : ExceptionTableEntry) : Prop := covers w pc = false ∨ (w.catchType ≠ 0 ∧ ∃ nm : String, (Cond.classLink own w.catchType nm).before args s = true ∧ va_Nc X nm s)
theorem xhand_spec (hE : xEnv xs z b0 D tyC ad s) {E : Nat} {X : String} (hX : xEx[E]? = some X) (pc : Nat) : ∀ (hhs : List (Nat × Nat × Nat × Nat)) (Es Is : List Nat), xbhs own hhs Es Is = true →
    (xhand (xhz hhs Es) pc E = none → ∀ w ∈ tableOf hhs, xpass own X pc args s w) ∧
    (∀ t, xhand (xhz hhs Es) pc E = some t → ∃ pre x suf, tableOf hhs = pre ++ x :: suf ∧ (∀ w ∈ pre, xpass own X pc args s w) ∧ covers x pc = true ∧ x.catchType ≠ 0 ∧ (Cond.classLink own x.catchType X).before args s = true ∧ x.handlerPc = t) := by
  intro hhs
  induction hhs with
  | nil =>
    intro Es Is hb
    refine ⟨fun _ w hw => absurd hw List.not_mem_nil, fun t ht => ?_⟩
    cases ht
  | cons q hhs ih =>
    intro Es Is hb
    obtain ⟨a, b, t0, ct⟩ := q
    cases Es with
    | nil => cases Is <;> cases hb
    | cons E' Es =>
      cases Is with
      | nil => cases hb
      | cons I Is =>
        obtain ⟨h1, h2⟩ := Bool.and_eq_true _ _ |>.mp hb
        cases hX' : xEx[E']? with
        | none => rw [hX'] at h1; cases h1
        | some X' =>
          rw [hX'] at h1
          obtain ⟨h3, h4⟩ := Bool.and_eq_true _ _ |>.mp h1
          have h3 := of_decide_eq_true h3
          have h4 := xenv_w hE h4 args
          obtain ⟨i1, i2⟩ := ih Es Is h2
          have hunf : xhand (xhz ((a, b, t0, ct) :: hhs) (E' :: Es)) pc E = (match decide (a ≤ pc) && (decide (pc < b) && decide (E' = E)) with | true => some t0 | false => xhand (xhz hhs Es) pc E) := rfl
          cases hc : decide (a ≤ pc) && (decide (pc < b) && decide (E' = E)) with
          | true =>
            rw [hc] at hunf
            rw [hunf]
            obtain ⟨c1, c2⟩ := Bool.and_eq_true _ _ |>.mp hc
            obtain ⟨c2a, c3⟩ := Bool.and_eq_true _ _ |>.mp c2
            cases of_decide_eq_true c3
            cases Option.some.inj (hX.symm.trans hX')
            refine ⟨fun q => (nomatch q), fun t ht => ?_⟩
            cases ht
            exact ⟨[], ⟨a, b, t0, ct⟩, tableOf hhs, rfl, fun _ h => absurd h List.not_mem_nil, by show (decide (a ≤ pc) && decide (pc < b)) = true; rw [c1, c2a]; rfl, h3, h4, rfl⟩
          | false =>
            rw [hc] at hunf
            rw [hunf]
            have hp : xpass own X pc args s ⟨a, b, t0, ct⟩ := by
              by_cases hE' : E' = E
              · left
                subst hE'
                rw [decide_eq_true (show E' = E' from rfl), Bool.and_true] at hc
                exact hc
              · right
                refine ⟨h3, X', h4, ?_⟩
                refine hE.2.2.2.2.2.2.2.2.1 X X' (List.mem_of_getElem? hX) (List.mem_of_getElem? hX') ?_
                rintro rfl
                have nd : xEx.Nodup := by decide
                exact hE' ((List.getElem?_inj (i := E') (j := E) (List.getElem?_eq_some_iff.mp hX').1 nd).mp (hX'.trans hX.symm))
            refine ⟨fun q w hw => ?_, fun t ht => ?_⟩
            · rcases List.mem_cons.mp hw with rfl | hw
              · exact hp
              · exact i1 q w hw
            · obtain ⟨pre, x, suf, e1, e2, e3⟩ := i2 t ht
              refine ⟨⟨a, b, t0, ct⟩ :: pre, x, suf, ?_, ?_, e3⟩
              · show _ :: tableOf hhs = _
                rw [e1]; rfl
              · intro w hw
                rcases List.mem_cons.mp hw with rfl | hw
                · exact hp
                · exact e2 w hw
theorem xcast_X (hE : xEnv xs z b0 D tyC ad s) {E : Nat} {X : String} (hX : xEx[E]? = some X) : (Cond.castable X X).before args s = true := by
  have h1 := of_decide_eq_true (List.all_eq_true.mp xcast_ok X (List.mem_of_getElem? hX))
  have h2 : xgd (Cond.castable X X) = true := by
    unfold xgd
    rw [Bool.or_eq_true]
    exact Or.inr rfl
  exact va_Nw.use (xgd_tab h2) (hE.1 _ (Or.inl h1) h2)
/-- the exception's own cell -/
theorem xpush40 (hR : xRel b0 D tyC ad hb s H locs) (hsc : xscH hb) (ha : ∀ i, i < hb.length → ad' i = ad i) (hk : ∀ i, 1000000 ≤ i → ad' i = ad i) {vs : List Value} : xRel b0 D tyC ad' (hb ++ [(40, vs)]) s H locs := by
  have hs : ∀ (j : Nat) (f : Nat × List Value), (hb ++ [(40, vs)])[j]? = some f → f.1 ≠ 40 → j < hb.length ∧ hb[j]? = some f := by
    intro j f hj hf
    by_cases hl : j < hb.length
    · rw [List.getElem?_append_left hl] at hj
      exact ⟨hl, hj⟩
    · rw [List.getElem?_append_right (Nat.not_lt.mp hl)] at hj
      have hm := List.mem_of_getElem? hj
      rw [List.mem_singleton] at hm
      subst hm
      exact absurd rfl hf
  obtain ⟨hP, hI, hbd, hS⟩ := hR
  refine ⟨fun j f hj hf => ?_, fun i j f g hi hj hf hg hij => ?_, fun i f hi hf => ?_, hS⟩
  · obtain ⟨hl, hj⟩ := hs j f hj hf
    rw [ha j hl, xcE_ext (n := hb.length) (fun i hi => hi.elim (ha i) (hk i)) (hsc f (List.mem_of_getElem? hj))]
    exact hP j f hj hf
  · obtain ⟨hl, hi⟩ := hs i f hi hf
    obtain ⟨hl', hj⟩ := hs j g hj hg
    rw [ha i hl, ha j hl'] at hij
    exact hI i j f g hi hj hf hg hij
  · obtain ⟨hl, hi⟩ := hs i f hi hf
    rw [ha i hl]
    exact hbd i f hi hf
theorem xseek_spec (t : Nat) : ∀ code : List xE, (∀ e ∈ xseek code t, e ∈ code) ∧ (xchain code = true → xchain (xseek code t) = true) ∧ (∀ e r, xseek code t = e :: r → e.1 = t) := by
  intro code
  induction code with
  | nil => exact ⟨fun e h => h, fun h => h, fun e r h => (nomatch h)⟩
  | cons e r ih =>
    unfold xseek
    split
    · rename_i h
      exact ⟨fun e h => h, fun h => h, fun e' r' q => by cases q; exact of_decide_eq_true h⟩
    · refine ⟨fun e h => List.mem_cons_of_mem _ (ih.1 e h), fun h => ih.2.1 ?_, ih.2.2⟩
      cases r with
      | nil => rfl
      | cons f r => exact (Bool.and_eq_true _ _ |>.mp h).2
theorem xchain_tail {e : xE} {cs : List xE} (h : xchain (e :: cs) = true) : xchain cs = true ∧ ∀ f, cs.head? = some f → f.1 = e.1 + e.2.2.1 := by
  cases cs with
  | nil => exact ⟨rfl, fun f q => (nomatch q)⟩
  | cons f r =>
    obtain ⟨h1, h2⟩ := Bool.and_eq_true _ _ |>.mp h
    exact ⟨h2, fun g q => by cases q; exact of_decide_eq_true h1⟩
end XH
section XW
variable {p : Program} {l : Launch} {e : Env} {R : Room} {s : State} {m : MethodId} {args : Array Value} {below : List Frame} {meth : Method} {c : Code} {Q : State → Prop}
variable {cc : ByteArray} {nL d : Nat} {b0 : Nat} {D : va_G} {tyC : Nat → ClassId} {ad0 : Nat → Nat} {xs : List Int32} {z : Value} {y : MethodName} {hh : Bool} {code : List xE} {call : Nat → List Value → xH → Option (xA × xH)}
variable {hhs : List (Nat × Nat × Nat × Nat)} {Es Is : List Nat} {Cm Sm : Nat} {h0 hf : xH} {rr : xA}
set_option maxHeartbeats 4000000 in
theorem xdrive (hx : p.tables.exec = Jvm.exec) (hb : c.code = cc) (hml : c.maxLocals = nL) (hown : s.vm.findClass y.cls = some m.cls) (hmn : meth.name = y.name) (hE : xEnv xs z b0 D tyC ad0 s) (hz : xsc 0 z)
    (hRf : d + 9 ≤ R.frames) (hRl : 40 * d + 240 ≤ R.locals) (hRc : Cm ≤ R.cells) (hRs : Sm ≤ R.slots) (htab : hhs ≠ [] → c.exceptionTable.toList = tableOf hhs) (hbh : xbhs y.cls hhs Es Is = true)
    (hck : ∀ e ∈ code, xchk y cc hh e = true) (hch : xchain code = true) (hcg : xcg call) (hcall : ∀ mi as h r h', call mi as h = some (r, h') → xscH h → (∀ v ∈ as, xsc h.length v) → ∃ M, xMs[mi]? = some M ∧ xMet xs z l d M as h r h')
    (kret : ∀ (e0 : xE) (v : Option Value) (loc : xL) (st : List Value) (ad : Nat → Nat) (H : Heap) (locs : List Loc) (ls : Array Slot) (cells slots : Nat), xchk y cc hh e0 = true → xstep nL (xK xs) (xZ z) e0 loc st hf = some (.inr (.inr (.inl (v, hf)))) → rr = .ok v → (∀ i, (i < h0.length ∨ 1000000 ≤ i) → ad i = ad0 i) → xRel b0 D tyC ad hf s H locs → lv_has ls nL (xlc ad loc) → cells ≤ Cm → slots ≤ Sm → W p l e R s m args below meth c H locs cells slots Q (F0 m e0.1 ls (st.map (xcV ad))))
    (kout : ∀ (pc E : Nat) (X : String) (rest : List Value) (hb : xH) (ad : Nat → Nat) (H : Heap) (locs : List Loc) (ls : Array Slot) (cells slots : Nat) (q9 : Addr) (ce : Cell), rr = .error (E, hb.length) → hf = hb ++ [(40, List.replicate 6 .null)] → xEx[E]? = some X → (∀ w ∈ tableOf hhs, xpass y.cls X pc args s w) → (∀ i, (i < h0.length ∨ 1000000 ≤ i) → ad i = ad0 i) → xRel b0 D tyC ad hb s H locs → H[q9]? = some ce → ce.vm = .none → s.vm.findClass X = some ce.cls → cells ≤ Cm → slots ≤ Sm → vx_W p l e R s m args below meth c H locs cells slots Q (F0 m pc ls rest) q9)
    (knew : ∀ (e0 : xE) (E : Nat) (loc : xL) (st : List Value) (hb : xH) (ad : Nat → Nat) (H : Heap) (locs : List Loc) (ls : Array Slot) (cells slots : Nat), xchk y cc hh e0 = true → xstep nL (xK xs) (xZ z) e0 loc st hb = some (.inr (.inr (.inr (E, hb)))) → rr = .error (E, hb.length) → hf = hb ++ [(40, List.replicate 6 .null)] → (∀ i, (i < h0.length ∨ 1000000 ≤ i) → ad i = ad0 i) → xRel b0 D tyC ad hb s H locs → lv_has ls nL (xlc ad loc) → cells + 1 ≤ Cm → slots + 6 ≤ Sm → W p l e R s m args below meth c H locs cells slots Q (F0 m e0.1 ls (st.map (xcV ad)))) :
    ∀ (n : Nat) (cs : List xE) (loc : xL) (st : List Value) (h : xH) (ad : Nat → Nat) (H : Heap) (locs : List Loc) (ls : Array Slot) (cells slots : Nat), (∀ e ∈ cs, e ∈ code) → xchain cs = true → xev call nL (xK xs) (xZ z) (xhz hhs Es) code n cs loc st h = some (rr, hf) → xok (h0.length, xsz h0) h loc st → (∀ i, (i < h0.length ∨ 1000000 ≤ i) → ad i = ad0 i) → xRel b0 D tyC ad h s H locs → lv_has ls nL (xlc ad loc) → cells + (hf.length - h.length) ≤ Cm → slots + (xsz hf - xsz h) ≤ Sm →
      ∀ e0, cs.head? = some e0 → W p l e R s m args below meth c H locs cells slots Q (F0 m e0.1 ls (st.map (xcV ad))) := by
  have hcon := xcon_K xs z hz
  intro n
  induction n with
  | zero =>
    intro cs loc st h ad H locs ls cells slots _ _ hr
    cases hr
  | succ n ih =>
    intro cs loc st h ad H locs ls cells slots hcs hcc hr hok ha hR hl hc hs e0 he0
    cases cs with
    | nil => cases hr
    | cons e1 cs =>
      have he9 : e1 = e0 := Option.some.inj he0
      subst he9
      have hchk := hck e1 (hcs e1 List.mem_cons_self)
      obtain ⟨hcc', hpc⟩ := xchain_tail hcc
      have hcs' : ∀ e ∈ cs, e ∈ code := fun e h => hcs e (List.mem_cons_of_mem _ h)
      have hEa : xEnv xs z b0 D tyC ad s := xEnv_ext hz (fun i hi => ha i (Or.inr hi)) hE
      have hself := xok_self hok
      have hfin := (xgoodA_ok (xev_good hcon hcg _ _ _ _ _ _ _ _ hr hself)).1
      rw [xev] at hr
      split at hr
      · cases hr
      · rename_i loc1 st1 h1 hs1
        have g1 : xok (h0.length, xsz h0) h1 loc1 st1 := xstep_good hcon hs1 hok
        have g2 : xok (h.length, xsz h) h1 loc1 st1 := xstep_good hcon hs1 hself
        have hm1 := (xgoodA_ok (xev_good hcon hcg _ _ _ _ _ _ _ _ hr (xok_self g1))).1
        dsimp only at hm1 g2
        have k1 := g2.1
        dsimp only at k1
        cases cs with
        | nil => cases n <;> cases hr
        | cons e2 cs =>
          refine xo_step hx hb hml hown hmn hEa (by omega) (by omega) hchk hs1 hok ⟨by omega, by omega⟩ hR hl ?_
          intro ad' H' locs' ls' ha' hR' hl'
          have := ih (e2 :: cs) loc1 st1 h1 ad' H' locs' ls' (cells + (h1.length - h.length)) (slots + (xsz h1 - xsz h)) hcs' hcc' hr g1 (fun i hi => (ha' i (hi.imp_left fun q => Nat.lt_of_lt_of_le q hok.1.1)).trans (ha i hi)) hR' hl' (by omega) (by omega) e2 rfl
          rw [hpc e2 rfl] at this
          exact this
      · rename_i t loc1 st1 h1 hs1
        have g1 : xok (h0.length, xsz h0) h1 loc1 st1 := xstep_good hcon hs1 hok
        have g2 : xok (h.length, xsz h) h1 loc1 st1 := xstep_good hcon hs1 hself
        have hm1 := (xgoodA_ok (xev_good hcon hcg _ _ _ _ _ _ _ _ hr (xok_self g1))).1
        dsimp only at hm1
        have k1 := g2.1
        dsimp only at k1
        obtain ⟨s1, s2, s3⟩ := xseek_spec t code
        cases hsk : xseek code t with
        | nil => rw [hsk] at hr; cases n <;> cases hr
        | cons e2 cs2 =>
          refine xo_step hx hb hml hown hmn hEa (by omega) (by omega) hchk hs1 hok ⟨by omega, by omega⟩ hR hl ?_
          intro ad' H' locs' ls' ha' hR' hl'
          have := ih _ loc1 st1 h1 ad' H' locs' ls' (cells + (h1.length - h.length)) (slots + (xsz h1 - xsz h)) s1 (s2 hch) hr g1 (fun i hi => (ha' i (hi.imp_left fun q => Nat.lt_of_lt_of_le q hok.1.1)).trans (ha i hi)) hR' hl' (by omega) (by omega) e2 (by rw [hsk]; rfl)
          rw [s3 e2 cs2 hsk] at this
          exact this
      · rename_i mi as loc1 st1 h1 hs1
        have g1 : xok (h0.length, xsz h0) h1 loc1 (as ++ st1) := xstep_good hcon hs1 hok
        have hcl1 : ∀ r2 h2, call mi as h1 = some (r2, h2) → xgoodA (h1.length, xsz h1) r2 h2 := fun r2 h2 hq => hcg _ _ _ _ _ hq g1.2.1 (fun v hv => g1.2.2.2 v (List.mem_append_left _ hv))
        have hrun : ∀ r2 h2, call mi as h1 = some (r2, h2) → (∀ E q, r2 = .error (E, q) → xmay e1 = true) → cells + (h2.length - h.length) ≤ R.cells → slots + (xsz h2 - xsz h) ≤ R.slots → loc1 = loc ∧ h1 = h ∧ e1.2.2.1 = 3 ∧ vx_Run p l e R s m args below meth c H locs cells slots (h2.length - h.length) (xsz h2 - xsz h) (F0 m e1.1 ls (st.map (xcV ad))) (st1.map (xcV ad)) (xQc b0 D tyC ad h r2 h2 ((as.map (xcV ad)).toArray)) (xXC b0 D tyC ad h r2 h2) (fun q => b0 ≤ q) :=
          fun r2 h2 hq hm2 hc2 hs2 => xo_call hchk hs1 (hcall _ _ _ _ _ hq g1.2.1 (fun v hv => g1.2.2.2 v (List.mem_append_left _ hv))) hm2 ⟨hx, hb, hml, hown, hEa, hR, hl.1, hRf, hRl, hc2, hs2⟩
        split at hr
        · cases hr
        · rename_i v h2 hcl
          have k2 := hcl1 _ _ hcl
          have hg3 : xok (h0.length, xsz h0) h2 loc1 (v.toList ++ st1) := by
            refine xok_mono g1 ⟨k2.1, k2.2.1⟩ (fun w hw => ?_)
            rcases List.mem_append.mp hw with hw | hw
            · exact Or.inl (k2.2.2.2 w hw)
            · exact Or.inr (List.mem_append_right _ hw)
          have hm1 := (xgoodA_ok (xev_good hcon hcg _ _ _ _ _ _ _ _ hr (xok_self hg3))).1
          dsimp only at hm1
          have k3 := k2.1
          dsimp only at k3
          have k4 : h.length ≤ h1.length ∧ xsz h ≤ xsz h1 := (xstep_good hcon hs1 hself : xok (h.length, xsz h) h1 loc1 (as ++ st1)).1
          obtain ⟨rfl, rfl, hln, hvr⟩ := hrun _ _ hcl (fun E q hq => by cases hq) (by omega) (by omega)
          cases cs with
          | nil => cases n <;> cases hr
          | cons e2 cs =>
            refine xgo_call hvr hR.2.2.2 (fun v' hv' ad' H1 locs1 ha' hR' => ?_) (fun E q hb' X hq => by cases hq)
            cases hv'
            have hsub : ∀ w ∈ st1, xcV ad' w = xcV ad w := fun w hw => xcV_ext ha' (g1.2.2.2 w (List.mem_append_right _ hw))
            have hst : (v.map (xcV ad')).toList ++ st1.map (xcV ad) = (v.toList ++ st1).map (xcV ad') := by
              rw [List.map_append, List.map_congr_left hsub]
              cases v <;> rfl
            rw [hst]
            have := ih (e2 :: cs) loc1 (v.toList ++ st1) h2 ad' H1 locs1 ls (cells + (h2.length - h1.length)) (slots + (xsz h2 - xsz h1)) hcs' hcc' hr hg3 (fun i hi => (ha' i (hi.imp_left fun q => Nat.lt_of_lt_of_le q hok.1.1)).trans (ha i hi)) hR' (by rw [xlc_ext ha' hok.2.2.1]; exact hl) (by omega) (by omega) e2 rfl
            rw [hpc e2 rfl, hln] at this
            exact this
        · rename_i E q h2 hcl
          have k2 := hcl1 _ _ hcl
          obtain ⟨hq9, hb9, eh, eq9, ⟨hle9, hsc9⟩, kk9⟩ := k2
          have k3 := kk9.1
          dsimp only at k3
          have k4 : h.length ≤ h1.length ∧ xsz h ≤ xsz h1 := (xstep_good hcon hs1 hself : xok (h.length, xsz h) h1 loc1 (as ++ st1)).1
          split at hr
          · rename_i hmay
            have key : hf.length ≥ h2.length ∧ xsz hf ≥ xsz h2 := by
              split at hr
              · have hg3 : xok (h0.length, xsz h0) h2 loc1 [.ref q] := xok_mono g1 ⟨k3, kk9.2.1⟩ (fun w hw => Or.inl (kk9.2.2.2 w hw))
                have hm1 := (xgoodA_ok (xev_good hcon hcg _ _ _ _ _ _ _ _ hr (xok_self hg3))).1
                exact hm1
              · cases hr
                exact ⟨Nat.le_refl _, Nat.le_refl _⟩
            obtain ⟨rfl, rfl, hln, hvr⟩ := hrun _ _ hcl (fun _ _ _ => hmay) (by omega) (by omega)
            refine xgo_call hvr hR.2.2.2 (fun v' hv' => by cases hv') (fun E1 q1 hb1 X hq1 heq1 hql hX ad' H1 locs1 q2 ce ha' hR' hce hcv hcl1' => ?_)
            cases hq1
            have hbb : hb1 = hb9 := (List.append_inj' (heq1.symm.trans eh) rfl).1
            subst hbb
            obtain ⟨x1, x2⟩ := xhand_spec (args := args) hEa hX e1.1 hhs Es Is hbh
            split at hr
            · rename_i t ht
              obtain ⟨pre, x, suf, t1, t2, t3, t4, t5, t6⟩ := x2 t ht
              obtain ⟨s1, s2, s3⟩ := xseek_spec t code
              have hg3 : xok (h0.length, xsz h0) h2 loc1 [.ref q] := xok_mono g1 ⟨k3, kk9.2.1⟩ (fun w hw => Or.inl (kk9.2.2.2 w hw))
              have hlt : h1.length ≤ hb1.length := hle9
              cases hsk : xseek code t with
              | nil => rw [hsk] at hr; cases n <;> cases hr
              | cons e2 cs2 =>
                refine vx_catch (own := y.cls) (name := X) (E := X) (ce := ce) hown pre x suf ((htab (fun q => by rw [q] at t1; cases pre <;> cases t1)).trans t1) t2 t3 t4 t5 (xcast_X hEa hX) hce hcv hcl1' ?_
                rw [t6]
                have hk1 : ∀ i, i < hb1.length → (fun i => if i = hb1.length then q2 else ad' i) i = ad' i := fun i hi => if_neg (by omega)
                have hk2 : ∀ i, 1000000 ≤ i → (fun i => if i = hb1.length then q2 else ad' i) i = ad' i := fun i hi => if_neg (by omega)
                have hR2 : xRel b0 D tyC (fun i => if i = hb1.length then q2 else ad' i) h2 s H1 locs1 := by rw [eh]; exact xpush40 hR' hsc9 hk1 hk2
                have ha2 : ∀ i, (i < h1.length ∨ 1000000 ≤ i) → (fun i => if i = hb1.length then q2 else ad' i) i = ad i := fun i hi => by
                  rw [← ha' i hi]
                  exact hi.elim (fun q => hk1 i (by omega)) (hk2 i)
                have := ih _ loc1 [.ref q] h2 (fun i => if i = hb1.length then q2 else ad' i) H1 locs1 ls (cells + (h2.length - h1.length)) (slots + (xsz h2 - xsz h1)) s1 (s2 hch) hr hg3 (fun i hi => (ha2 i (hi.imp_left fun q => Nat.lt_of_lt_of_le q hok.1.1)).trans (ha i hi)) hR2 (by rw [xlc_ext ha2 hok.2.2.1]; exact hl) (by omega) (by omega) e2 (by rw [hsk]; rfl)
                rw [s3 e2 cs2 hsk] at this
                have he : ([Value.ref q] : List Value).map (xcV fun i => if i = hb1.length then q2 else ad' i) = [.ref q2] := by
                  rw [eq9]
                  show [Value.ref (if hb1.length = hb1.length then q2 else ad' hb1.length)] = _
                  rw [if_pos rfl]
                rw [he] at this
                exact this
            · rename_i hno
              cases hr
              exact kout e1.1 E X _ hb1 ad' H1 locs1 ls _ _ q2 ce (by rw [eq9]) eh hX (x1 hno) (fun i hi => (ha' i (hi.imp_left fun q => Nat.lt_of_lt_of_le q hok.1.1)).trans (ha i hi)) hR' hce hcv hcl1' (by omega) (by omega)
          · cases hr
      · rename_i v h1 hs1
        have he : h1 = h := by
          rcases xstep_inr hs1 with ⟨i, -, hq⟩ | ⟨i, -, hq⟩ | ⟨i, -, hq⟩ | ⟨i, -, hq⟩ | ⟨-, hq⟩ | ⟨-, hq⟩ | ⟨-, hq⟩ | ⟨-, hq⟩ | ⟨-, hq⟩ | ⟨-, hq⟩
          · obtain ⟨k, mi', n, I, rc, ra, -, -, -, hq⟩ := xvirt_inr hq
            cases (xcall_inr hq).2.2
          · obtain ⟨k, mi', n, ra, -, -, -, -, hq⟩ := xstat_inr hq
            cases (xcall_inr hq).2.2
          · obtain ⟨k, mi', n, ra, -, -, -, -, hq⟩ := xspec_inr hq
            cases (xcall_inr hq).2.2
          · obtain ⟨i, ra, -, -, ho⟩ := xnewx_inr hq
            cases ho
          · obtain ⟨w, -, -, ho⟩ := xret_inr hq
            cases ho; rfl
          · obtain ⟨w, -, -, ho⟩ := xret_inr hq
            cases ho; rfl
          · obtain ⟨w, -, -, ho⟩ := xret_inr hq
            cases ho; rfl
          · obtain ⟨w, -, -, ho⟩ := xret_inr hq
            cases ho; rfl
          · obtain ⟨w, -, -, ho⟩ := xret_inr hq
            cases ho; rfl
          · obtain ⟨-, ho⟩ := xretv_inr hq
            cases ho; rfl
        cases he
        cases hr
        exact kret e1 v loc st ad H locs ls cells slots hchk hs1 rfl ha hR hl (by omega) (by omega)
      · rename_i E h1 hs1
        have he : h1 = h := by
          rcases xstep_inr hs1 with ⟨i, -, hq⟩ | ⟨i, -, hq⟩ | ⟨i, -, hq⟩ | ⟨i, -, hq⟩ | ⟨-, hq⟩ | ⟨-, hq⟩ | ⟨-, hq⟩ | ⟨-, hq⟩ | ⟨-, hq⟩ | ⟨-, hq⟩
          · obtain ⟨k, mi', n, I, rc, ra, -, -, -, hq⟩ := xvirt_inr hq
            cases (xcall_inr hq).2.2
          · obtain ⟨k, mi', n, ra, -, -, -, -, hq⟩ := xstat_inr hq
            cases (xcall_inr hq).2.2
          · obtain ⟨k, mi', n, ra, -, -, -, -, hq⟩ := xspec_inr hq
            cases (xcall_inr hq).2.2
          · obtain ⟨i, ra, -, -, ho⟩ := xnewx_inr hq
            cases ho; rfl
          · obtain ⟨w, -, -, ho⟩ := xret_inr hq
            cases ho
          · obtain ⟨w, -, -, ho⟩ := xret_inr hq
            cases ho
          · obtain ⟨w, -, -, ho⟩ := xret_inr hq
            cases ho
          · obtain ⟨w, -, -, ho⟩ := xret_inr hq
            cases ho
          · obtain ⟨w, -, -, ho⟩ := xret_inr hq
            cases ho
          · obtain ⟨-, ho⟩ := xretv_inr hq
            cases ho
        cases he
        split at hr
        · cases hr
          rw [List.length_append] at hc
          rw [xsz_push] at hs
          have e6 : ([(40, List.replicate 6 Value.null)] : xH).length = 1 := rfl
          have e7 : ((40, List.replicate 6 Value.null) : Nat × List Value).2.length = 6 := rfl
          exact knew e1 E loc st _ ad H locs ls cells slots hchk hs1 rfl rfl ha hR hl (by omega) (by omega)
        · cases hr
end XW
