/-! THE LAW'S OWN RUN IS TRUE TO THE MACHINE -/
theorem xchk_nm {y y' : MethodName} {b : ByteArray} {hh : Bool} {e : xE} (hc : y.cls = y'.cls) (hno : ∀ i, e.2.1 ≠ .putfield i) (h : xchk y b hh e = true) : xchk y' b hh e = true := by
  obtain ⟨pc, i0, ln, aux⟩ := e
  unfold xchk at h ⊢
  rw [hc] at h
  dsimp only at h hno ⊢
  cases i0 <;> first | exact h | exact absurd rfl (hno _)
theorem xlaw_noput : xcL_law.all (fun e => match e.2.1 with
  | .putfield _ => false
  | _ => true) = true := by decide +kernel
theorem xlaw_chk (nm : String) : ∀ e ∈ xcL_law, xchk ⟨"RiverReachesLaw", nm, ""⟩ code false e = true := by
  intro e he
  have h1 := List.all_eq_true.mp (Bool.and_eq_true _ _ |>.mp xlaw_ok).1 e he
  refine xchk_nm (y := yL_law) rfl (fun i hi => ?_) h1
  have h2 := List.all_eq_true.mp xlaw_noput e he
  rw [hi] at h2
  cases h2
theorem xlaw_chain : xchain xcL_law = true := (Bool.and_eq_true _ _ |>.mp xlaw_ok).2
/-- the law at its end: nothing but heaps of its own, 1 on the stack -/
theorem xlaw {p : Program} {e : Env} {s : State} {m : MethodId} {below : List Frame} {meth : Method} {c : Code} (l : Launch) (hl : l.stackTraces = false) {b L : Nat} {xf : Nat → Int32} (C0 : lw_At p s m meth c b L xf) {xs : List Int32} {z : Value} (hz : xsc 0 z) {D : va_G} {tyC : Nat → ClassId} {ad : Nat → Nat} (hb0 : ad 1000000 = b) (hE : xEnv xs z s.heap.size D tyC ad s)
    {d n : Nat} {hf : xH} (hd : d ≤ 2039) (hr : xev (xgo xMs (xK xs) (xZ z) d n) 11 (xK xs) (xZ z) [] xcL_law n xcL_law [(0, .ref 1000000)] [] [] = some (.ok (some (.int 1)), hf)) (hc : hf.length ≤ 688064) (hs : xsz hf ≤ 7027135) :
    W p l e room_1 s m #[Value.ref b] below meth c s.heap [] 0 0 (lw_Z below #[Value.ref b] s) (entryFrame m ([Value.ref b] : List Value).toArray 11) := by
  obtain ⟨hx, hb, hret, hml, hown, -, -, -, hlocks, -⟩ := C0
  refine W.base ?_
  have hd0 := Drawn.sameBut.refl s.drawn lw_cs
  rw [lg_entry_eq]
  have hlv := lv_entry ([Value.ref b] : List Value) (n := 11) (by show 1 ≤ 11; decide)
  have h9 : lv_args 0 [Value.ref b] = xlc ad [(0, .ref 1000000)] := by rw [← hb0]; rfl
  rw [h9] at hlv
  have hhd : ∀ e0, xcL_law.head? = some e0 → e0.1 = 0 := by decide +kernel
  obtain ⟨e0, he0⟩ : ∃ e0, xcL_law.head? = some e0 := by
    cases hq : xcL_law with
    | nil => rw [hq] at hr; cases n <;> cases hr
    | cons a t => exact ⟨a, rfl⟩
  have main := xdrive (p := p) (l := l) (e := e) (R := room_1) (s := s) (m := m) (args := #[Value.ref b]) (below := below) (meth := meth) (c := c) (Q := lw_Z below #[Value.ref b] s) (cc := code) (nL := 11) (d := d) (ad0 := ad) (y := ⟨"RiverReachesLaw", meth.name, ""⟩) (hh := false) (code := xcL_law) (call := xgo xMs (xK xs) (xZ z) d n) (hhs := []) (Es := []) (Is := []) (Cm := 688064) (Sm := 7027135) (h0 := []) (hf := hf) (rr := .ok (some (.int 1))) (D := D) (tyC := tyC) (b0 := s.heap.size)
    hx hb hml hown rfl hE hz (by show d + 9 ≤ 2048; omega) (by show 40 * d + 240 ≤ 94400; omega) (Nat.le_refl _) (Nat.le_refl _) (fun q => absurd rfl q) rfl (xlaw_chk meth.name) xlaw_chain (xgo_good (xcon_K xs z hz) d n) (fun mi as h r h' => xsound hl xs z hz d n mi as h r h') ?_ ?_ ?_ n xcL_law [(0, .ref 1000000)] [] [] ad s.heap [] ((lg_sl [Value.ref b] ++ List.replicate (11 - (lg_sl [Value.ref b]).length) Slot.unset).toArray) 0 0 (fun e h => h) xlaw_chain hr ⟨⟨Nat.le_refl _, Nat.le_refl _⟩, fun e he => absurd he List.not_mem_nil, fun q hq => by rw [List.mem_singleton] at hq; subst hq; exact Or.inr (Nat.le_refl _), fun v hv => absurd hv List.not_mem_nil⟩ (fun i _ => rfl) ⟨fun i e hi => (nomatch hi), fun i j e f hi => (nomatch hi), fun i e hi => (nomatch hi), va_S.rf⟩ hlv (by show 0 + (hf.length - 0) ≤ 688064; omega) (by show 0 + (xsz hf - 0) ≤ 7027135; omega) e0 he0
  · rw [hhd e0 he0] at main
    exact main
  · intro e1 v loc st ad1 H locs ls cells slots hck hs1 hv ha hR1 hl1 hc1 hs2
    cases hv
    obtain ⟨pc, i0, ln, aux⟩ := e1
    unfold xchk at hck
    obtain ⟨hd1, hck⟩ := Bool.and_eq_true _ _ |>.mp hck
    obtain ⟨hlen9, -⟩ := Bool.and_eq_true _ _ |>.mp hck
    have hdg : decode code pc = .ok (i0, ln) := of_decide_eq_true hd1
    have hi := xstep_inr hs1
    dsimp only at hlen9 hi ⊢
    refine W.widen hc1 hs2 ?_
    rcases hi with ⟨i, -, hq9⟩ | ⟨i, -, hq9⟩ | ⟨i, -, hq9⟩ | ⟨i, -, hq9⟩ | ⟨rfl, hq9⟩ | ⟨-, hq9⟩ | ⟨-, hq9⟩ | ⟨-, hq9⟩ | ⟨-, hq9⟩ | ⟨-, hq9⟩
    · obtain ⟨k, mi', n, I, rc, ra, -, -, -, hq9⟩ := xvirt_inr hq9
      cases (xcall_inr hq9).2.2
    · obtain ⟨k, mi', n, ra, -, -, -, -, hq9⟩ := xstat_inr hq9
      cases (xcall_inr hq9).2.2
    · obtain ⟨k, mi', n, ra, -, -, -, -, hq9⟩ := xspec_inr hq9
      cases (xcall_inr hq9).2.2
    · obtain ⟨i, ra, -, -, ho⟩ := xnewx_inr hq9
      cases ho
    · obtain ⟨w, rfl, hw, ho⟩ := xret_inr hq9
      cases ho
      cases xnat_eq (n := 1) hlen9
      have hfg : ∀ q ∈ locs, s.heap.size ≤ q.base := hR1.2.2.2.2.2
      have k := W.forget (s := s) (locs := []) (L := locs) hfg (lw_ret (p := p) (l := l) (e := e) (m := m) (below := below) (meth := meth) (c := c) (b := b) (H := H) (ls := ls) hd0 hx hb hret hlocks hdg)
      rw [List.nil_append] at k
      exact k
    · obtain ⟨w, rfl, hw, ho⟩ := xret_inr hq9
      cases ho; cases hw
    · obtain ⟨w, rfl, hw, ho⟩ := xret_inr hq9
      cases ho; cases hw
    · obtain ⟨w, rfl, hw, ho⟩ := xret_inr hq9
      cases ho; cases hw
    · obtain ⟨w, rfl, hw, ho⟩ := xret_inr hq9
      cases ho; cases hw
    · obtain ⟨-, ho⟩ := xretv_inr hq9
      cases ho
  · intro pc E X rest hb1 ad1 H locs ls cells slots q9 ce hr1
    cases hr1
  · intro e1 E loc st hb1 ad1 H locs ls cells slots hck hs1 hr1
    cases hr1
