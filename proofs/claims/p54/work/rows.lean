section
-- ===== PART A: goes FIRST, ahead of the names: the tables' words, and 'selects' of the private methods out of them =====
/-- a private method of a class that the tables say can be made, by its rows of tables_1 -/
def lw_okq (q : MethodName × Nat) : Prop := (q.1.cls ≠ "java/lang/invoke/MethodHandle" ∧ q.1.cls ≠ "java/lang/invoke/VarHandle") ∧ Cond.instantiable q.1.cls q.2 ∈ tables_1 ∧ Cond.privateMethod q.1 ∈ tables_1 ∧ Cond.instanceMethod q.1 ∈ tables_1
theorem lw_p0 : lw_okq (⟨"RiverReaches$History", "nextRow", "()LRiverReaches$River;"⟩, 3) := ⟨⟨by decide +kernel, by decide +kernel⟩, List.mem_of_getElem? (i := 157) (by decide +kernel), List.mem_of_getElem? (i := 369) (by decide +kernel), List.mem_of_getElem? (i := 370) (by decide +kernel)⟩
theorem lw_p1 : lw_okq (⟨"RiverReaches", "conclude", "(II)I"⟩, 9) := ⟨⟨by decide +kernel, by decide +kernel⟩, List.mem_of_getElem? (i := 38) (by decide +kernel), List.mem_of_getElem? (i := 386) (by decide +kernel), List.mem_of_getElem? (i := 387) (by decide +kernel)⟩
theorem lw_p2 : lw_okq (⟨"java/lang/Throwable", "fillInStackTrace", "(I)Ljava/lang/Throwable;"⟩, 6) := ⟨⟨by decide +kernel, by decide +kernel⟩, List.mem_of_getElem? (i := 433) (by decide +kernel), List.mem_of_getElem? (i := 431) (by decide +kernel), List.mem_of_getElem? (i := 432) (by decide +kernel)⟩
theorem lw_p3 : lw_okq (⟨"RiverReaches$River", "dropPassedPulses", "()V"⟩, 8) := ⟨⟨by decide +kernel, by decide +kernel⟩, List.mem_of_getElem? (i := 46) (by decide +kernel), List.mem_of_getElem? (i := 631) (by decide +kernel), List.mem_of_getElem? (i := 632) (by decide +kernel)⟩
theorem lw_p4 : lw_okq (⟨"RiverReaches$Text", "takeCommand", "(LRiverReaches$Command;)Z"⟩, 5) := ⟨⟨by decide +kernel, by decide +kernel⟩, List.mem_of_getElem? (i := 177) (by decide +kernel), List.mem_of_getElem? (i := 680) (by decide +kernel), List.mem_of_getElem? (i := 681) (by decide +kernel)⟩
theorem lw_p5 : lw_okq (⟨"RiverReaches$Text", "takeWord", "()LRiverReaches$Kind;"⟩, 5) := ⟨⟨by decide +kernel, by decide +kernel⟩, List.mem_of_getElem? (i := 177) (by decide +kernel), List.mem_of_getElem? (i := 684) (by decide +kernel), List.mem_of_getElem? (i := 685) (by decide +kernel)⟩
theorem lw_p6 : lw_okq (⟨"RiverReaches$Text", "sharedLength", "(Ljava/lang/String;)I"⟩, 5) := ⟨⟨by decide +kernel, by decide +kernel⟩, List.mem_of_getElem? (i := 177) (by decide +kernel), List.mem_of_getElem? (i := 690) (by decide +kernel), List.mem_of_getElem? (i := 691) (by decide +kernel)⟩
theorem lw_p7 : lw_okq (⟨"RiverReaches$Text", "signAt", "(I)I"⟩, 5) := ⟨⟨by decide +kernel, by decide +kernel⟩, List.mem_of_getElem? (i := 177) (by decide +kernel), List.mem_of_getElem? (i := 703) (by decide +kernel), List.mem_of_getElem? (i := 704) (by decide +kernel)⟩
theorem lw_p8 : lw_okq (⟨"RiverReaches$Text", "takeSign", "(C)Z"⟩, 5) := ⟨⟨by decide +kernel, by decide +kernel⟩, List.mem_of_getElem? (i := 177) (by decide +kernel), List.mem_of_getElem? (i := 748) (by decide +kernel), List.mem_of_getElem? (i := 749) (by decide +kernel)⟩
theorem lw_p9 : lw_okq (⟨"RiverReaches$Text", "takeParameter", "(C)I"⟩, 5) := ⟨⟨by decide +kernel, by decide +kernel⟩, List.mem_of_getElem? (i := 177) (by decide +kernel), List.mem_of_getElem? (i := 752) (by decide +kernel), List.mem_of_getElem? (i := 753) (by decide +kernel)⟩
theorem lw_p10 : lw_okq (⟨"RiverReaches$Text", "takeLetter", "()I"⟩, 5) := ⟨⟨by decide +kernel, by decide +kernel⟩, List.mem_of_getElem? (i := 177) (by decide +kernel), List.mem_of_getElem? (i := 756) (by decide +kernel), List.mem_of_getElem? (i := 757) (by decide +kernel)⟩
theorem lw_p11 : lw_okq (⟨"RiverReaches$Text", "takeDigits", "(I)I"⟩, 5) := ⟨⟨by decide +kernel, by decide +kernel⟩, List.mem_of_getElem? (i := 177) (by decide +kernel), List.mem_of_getElem? (i := 763) (by decide +kernel), List.mem_of_getElem? (i := 764) (by decide +kernel)⟩
theorem lw_p12 : lw_okq (⟨"RiverReaches", "failCommand", "(ILRiverReaches$Command;I)V"⟩, 9) := ⟨⟨by decide +kernel, by decide +kernel⟩, List.mem_of_getElem? (i := 38) (by decide +kernel), List.mem_of_getElem? (i := 813) (by decide +kernel), List.mem_of_getElem? (i := 814) (by decide +kernel)⟩
theorem lw_p13 : lw_okq (⟨"RiverReaches", "ahead", "(I)LRiverReaches$River;"⟩, 9) := ⟨⟨by decide +kernel, by decide +kernel⟩, List.mem_of_getElem? (i := 38) (by decide +kernel), List.mem_of_getElem? (i := 1021) (by decide +kernel), List.mem_of_getElem? (i := 1022) (by decide +kernel)⟩
theorem lw_p14 : lw_okq (⟨"RiverReaches", "requireReach", "(I)V"⟩, 9) := ⟨⟨by decide +kernel, by decide +kernel⟩, List.mem_of_getElem? (i := 38) (by decide +kernel), List.mem_of_getElem? (i := 1076) (by decide +kernel), List.mem_of_getElem? (i := 1077) (by decide +kernel)⟩
def lw_privs_1 : List (MethodName × Nat) := [(⟨"RiverReaches$History", "nextRow", "()LRiverReaches$River;"⟩, 3), (⟨"RiverReaches", "conclude", "(II)I"⟩, 9), (⟨"java/lang/Throwable", "fillInStackTrace", "(I)Ljava/lang/Throwable;"⟩, 6), (⟨"RiverReaches$River", "dropPassedPulses", "()V"⟩, 8), (⟨"RiverReaches$Text", "takeCommand", "(LRiverReaches$Command;)Z"⟩, 5), (⟨"RiverReaches$Text", "takeWord", "()LRiverReaches$Kind;"⟩, 5), (⟨"RiverReaches$Text", "sharedLength", "(Ljava/lang/String;)I"⟩, 5), (⟨"RiverReaches$Text", "signAt", "(I)I"⟩, 5), (⟨"RiverReaches$Text", "takeSign", "(C)Z"⟩, 5), (⟨"RiverReaches$Text", "takeParameter", "(C)I"⟩, 5), (⟨"RiverReaches$Text", "takeLetter", "()I"⟩, 5), (⟨"RiverReaches$Text", "takeDigits", "(I)I"⟩, 5), (⟨"RiverReaches", "failCommand", "(ILRiverReaches$Command;I)V"⟩, 9), (⟨"RiverReaches", "ahead", "(I)LRiverReaches$River;"⟩, 9), (⟨"RiverReaches", "requireReach", "(I)V"⟩, 9)]
theorem lw_r1 : ∀ q ∈ lw_privs_1, lw_okq q := List.forall_mem_cons.mpr ⟨lw_p0, List.forall_mem_cons.mpr ⟨lw_p1, List.forall_mem_cons.mpr ⟨lw_p2, List.forall_mem_cons.mpr ⟨lw_p3, List.forall_mem_cons.mpr ⟨lw_p4, List.forall_mem_cons.mpr ⟨lw_p5, List.forall_mem_cons.mpr ⟨lw_p6, List.forall_mem_cons.mpr ⟨lw_p7, List.forall_mem_cons.mpr ⟨lw_p8, List.forall_mem_cons.mpr ⟨lw_p9, List.forall_mem_cons.mpr ⟨lw_p10, List.forall_mem_cons.mpr ⟨lw_p11, List.forall_mem_cons.mpr ⟨lw_p12, List.forall_mem_cons.mpr ⟨lw_p13, List.forall_mem_cons.mpr ⟨lw_p14, fun _ h => absurd h List.not_mem_nil⟩⟩⟩⟩⟩⟩⟩⟩⟩⟩⟩⟩⟩⟩⟩
def lw_privs : List (MethodName × Nat) := lw_privs_1
def lw_tbl : List Cond := k2_sels lw_privs ++ tables_1
theorem lw_privs_ok : ∀ q ∈ lw_privs, lw_okq q := lw_r1
/-- the streams that the claim lets the run draw from -/
abbrev lw_cs : List Choice := [Jvm.Choice.named "NaN.bits"]
theorem lw_bits : nanBits ∈ lw_cs := by first | decide | exact List.mem_cons_self | simp [lw_cs, nanBits]
end
section
/-! ===== BEGIN words of one list among another's, by their places ===== -/
theorem goodIn_r {big : List Cond} (ws : List Cond) (ps : List Nat) (hp : ws = ps.filterMap (fun i => big[i]?)) (h : ws.all goodWord = true) : GoodIn big ws := by
  intro w hw
  have h1 := List.all_eq_true.mp h w hw
  rw [hp] at hw
  obtain ⟨i, -, hi⟩ := List.mem_filterMap.mp hw
  have hm : w ∈ big := by first | exact List.mem_of_getElem? hi | exact List.getElem?_mem hi
  exact ⟨hm, good_of_word h1⟩
theorem goodIn_app {big a b : List Cond} (ha : GoodIn big a) (hb : GoodIn big b) : GoodIn big (a ++ b) := fun w h => (List.mem_append.mp h).elim (ha w) (hb w)
theorem goodIn_ca {big a b : List Cond} {c : Cond} (ha : GoodIn big (c :: a)) (hb : GoodIn big b) : GoodIn big (c :: (a ++ b)) := fun w h => (List.mem_cons.mp h).elim (fun e => ha w (List.mem_cons.mpr (Or.inl e))) (fun h => (List.mem_append.mp h).elim (fun h => ha w (List.mem_cons.mpr (Or.inr h))) (hb w))
theorem goodIn_sub {big ws : List Cond} (hm : ∀ w ∈ ws, w ∈ big) (h : ws.all goodWord = true) : GoodIn big ws := fun w hw => ⟨hm w hw, good_of_word (List.all_eq_true.mp h w hw)⟩
/-! ===== END ===== -/

/-! ===== BEGIN exceptions that leave a method, and their catching by the caller (launches without stack traces) ===== -/
section VXA
/-! The laws vx_back, vx_callV, vx_callS, vx_callSW, vx_throw0, vx_throwS follow proofs of the library, with one case more: JvmDerived/Free/Laws.lean (Back.of_free), Shelf42/LK1.lean (callV, callS), Shelf/KitTraced.lean (throwNew0V, throwNewS). -/
/-- where a method has thrown q: the class by its name, the cell, what was written, the world -/
def vx_T (XC : String → State → State → Prop) (st : State) (q : Addr) (t : State) (mc ms : Nat) (free : Addr → Prop) : Prop :=
  ∃ (E : String) (ce : Cell) (L : List Loc), XC E st t ∧ t.heap[q]? = some ce ∧ ce.vm = .none ∧ st.vm.findClass E = some ce.cls ∧ st.WarmedH t.vm ∧ st.sameButNew ({ t with vm := st.vm } : State) L mc ms ∧ ∀ z ∈ L, free z.base
def vx_Q (Qc : Array Value → State → Outcome → State → Prop) (XC : String → State → State → Prop) (mc ms : Nat) (free : Addr → Prop) : Array Value → State → Outcome → State → Prop := fun a st o t =>
  (Qc a st o t ∧ ∃ L, FrameEnd st o t L mc ms ∧ ∀ q ∈ L, free q.base) ∨ ∃ q, o = .threw q ∧ vx_T XC st q t mc ms free
/-- a callee that returns or throws -/
def vx_Met (l : Launch) (y : MethodName) (ws : List Cond) (rm : Room) (Pc : Array Value → State → Prop) (Qc : Array Value → State → Outcome → State → Prop) (XC : String → State → State → Prop) (mc ms : Nat) (free : Addr → Prop) : Prop :=
  MetFree l y (headSpec ws rm) Pc (fun _ _ _ _ _ => True) (vx_Q Qc XC mc ms free)
def vx_Post (XC : String → State → State → Prop) (mc ms : Nat) (free : Addr → Prop) : Pt → Array Value → Addr → Pt → Prop := fun A a q B =>
  ∃ (g : JFrame) (mk : MethodId) (t : State) (L : List Loc) (E : String) (ce : Cell), B.U.heap = t.heap ∧ B.U.vm = t.vm ∧ XC E (A.U.calling g mk a) t ∧ t.heap[q]? = some ce ∧ ce.vm = .none ∧ A.U.vm.findClass E = some ce.cls ∧ B.locs = A.locs ++ L ∧ (∀ z ∈ L, free z.base) ∧ B.cells = A.cells + mc ∧ B.slots = A.slots + ms
def vx_Back (l : Launch) (R : Room) (p : Program) (e : Env) (below : List Frame) (s : State) (sargs : Array Value) (y : MethodName) (len W9 : Nat)
    (Pre : Pt → Array Value → Prop) (Post : Pt → Array Value → Option Value → Pt → Prop) (PostX : Pt → Array Value → Addr → Pt → Prop) : Prop :=
  ∀ (m : MethodId) (meth : Method) (c : Code) (A : Pt) (g : JFrame) (ig : Instr) (mk : MethodId) (a : Array Value),
    Stand p l e R s m sargs below meth c A.U A.locs A.cells A.slots → g.method = m → g.locals.size = c.maxLocals → decode c.code g.pc = .ok (ig, len) →
    2 * g.monitorRoom + (g.stack.map fun v => v.category).sum ≤ W9 → A.U.methodNamed? y = some mk → Pre A a →
    (∃ (v : Option Value) (B : Pt), Stand p l e R s m sargs below meth c B.U B.locs B.cells B.slots ∧ Post A a v B ∧
      Steps p.tables e below (doInvoke e (A.U.setTop g) [] mk a).1 (B.U.setTop { g with pc := g.pc + len, stack := v.toList ++ g.stack })) ∨
    (∃ (q : Addr) (B : Pt), Stand p l e R s m sargs below meth c B.U B.locs B.cells B.slots ∧ PostX A a q B ∧
      Steps p.tables e below (doInvoke e (A.U.setTop g) [] mk a).1 ((B.U.setTop g).pushFrame (.throwing q)))
section Payer
variable {l : Launch} {R : Room} {p : Program} {e : Env} {below : List Frame} {s : State} {sargs : Array Value} {y : MethodName} {len W9 : Nat}
theorem vx_back {ws : List Cond} {rm : Room} {Pc : Array Value → State → Prop} {Qc : Array Value → State → Outcome → State → Prop} {XC : String → State → State → Prop} {mc ms : Nat} {free : Addr → Prop} {bytes : ByteArray} {maxL : Nat} {ret : Option FieldType}
    (hM : vx_Met l y ws rm Pc Qc XC mc ms free) (hblind : FrameBlind Pc) (hrc : rm.cells = mc) (hrs : rm.slots = ms)
    (hframes : rm.frames + 1 ≤ R.frames) (hlocals : W9 + (maxL + 11) + rm.locals ≤ R.locals)
    (hws : ∀ w ∈ ws, ∀ a' U, s.WarmedH U.vm → w.before a' U = true) (hcode : Cond.code y bytes maxL ret ∈ ws) (hinit : ∀ a' U, s.WarmedH U.vm → (Cond.initialized y.cls).before a' U = true) :
    vx_Back l R p e below s sargs y len W9 (PreOf R mc ms Pc) (PostOf Qc mc ms free) (vx_Post XC mc ms free) := by
  intro m meth c A g ig mk a X hg hsize hdg hW hn hp
  have h1 : (headSpec ws rm).pre.before a A.U = true := atoms_intro fun w hw => hws w hw _ _ X.warmed
  have h2 : (Cond.code y bytes maxL ret).before a A.U = true := hws _ hcode _ _ X.warmed
  have h3 : (Cond.initialized y.cls).before a A.U = true := hinit _ _ X.warmed
  have h4 : A.cells + (headSpec ws rm).room.cells ≤ R.cells := by rw [show (headSpec ws rm).room.cells = mc from hrc]; exact hp.1
  have h5 : A.slots + (headSpec ws rm).room.slots ≤ R.slots := by rw [show (headSpec ws rm).room.slots = ms from hrs]; exact hp.2.1
  have hPc : Pc a (A.U.calling g mk a) := hblind _ _ _ _ hp.2.2
  obtain ⟨U, Ls, c0, s0⟩ := A
  dsimp only [Pt.U, Pt.locs, Pt.cells, Pt.slots] at h1 h2 h3 h4 h5 X hn hPc ⊢
  obtain ⟨methY, cY, hmY, hcY, -, hlY, -, -, -, -⟩ := Cond.code_spec hn h2
  obtain ⟨kY, hkY, -⟩ := className_of_methodNamed hn
  have hinitY : kY.init = .initialized := Cond.initialized_spec (findClass_of_methodNamed hn) hkY h3
  have h : At U g.method c below := by rw [hg]; exact X.here
  have hlocals9 : W9 + (maxL + 11) + (headSpec ws rm).room.locals ≤ R.locals := hlocals
  have happ : (headSpec ws rm).appliesLoose y e.platform (U.calling g mk a) = true :=
    Spec.appliesLoose_calling (g := g) h hdg hn hkY hinitY
      (X.room_calling (g := g) (R' := (headSpec ws rm).room) hsize hmY hcY hframes (by rw [hlY]; omega) h4 h5) h1
  obtain ⟨mid, hmid⟩ := h.above
  have hfr : (U.setTop g).frames = (.java g :: mid) ++ below := by rw [State.frames_setTop' g h.top, hmid]; rfl
  obtain ⟨o, s₂, hsteps, -, hend, hq⟩ := Steps.callFree hM p X.admits X.cas X.clock (acts := []) hfr happ hPc trivial
  have hq' : vx_Q Qc XC mc ms free a (U.calling g mk a) o s₂ := hq
  rw [State.frames_setTop' g h.top] at hend
  obtain ⟨g₀, hg0⟩ := Option.isSome_iff_exists.mp h.top
  obtain ⟨r, hr⟩ := State.topJava?_eq_some.mp hg0
  have hr' : (({ U with heap := s₂.heap, slotsUsed := s₂.slotsUsed } : State).setVm s₂.vm).frames = .java g₀ :: r := hr
  rcases hq' with ⟨hqc, L, hfe, hL⟩ | ⟨q, rfl, E, ce, L, hx, hce, hcv, hcl, hW₂, hsm, hL⟩
  · obtain ⟨⟨v, rfl⟩, hW₂, e2, q2, q3, q4, q5, q6⟩ := id hfe
    have e3 : s₂ = ({ (U.calling g mk a).setFrames s₂.frames with heap := s₂.heap, slotsUsed := s₂.slotsUsed } : State).setVm s₂.vm := by
      have : s₂ = ({ s₂ with vm := (U.calling g mk a).vm } : State).setVm s₂.vm := rfl
      rw [e2] at this
      exact this
    obtain ⟨c₂, i₂, len₂, hc₂, hd₂, hf₂⟩ := hend
    have hW' : U.WarmedH s₂.vm := hW₂
    have hcc : c₂ = c := by
      have h1 : s₂.code? g.method = U.code? g.method := by
        rw [State.code?_eq, State.code?_eq, hW'.alike.method?]
      exact Option.some.inj (hc₂.symm.trans (h1.trans h.code))
    subst hcc
    have hlen : len₂ = len := by rw [hdg] at hd₂; cases hd₂; rfl
    subst hlen
    have hs₂ : s₂ = (({ U with heap := s₂.heap, slotsUsed := s₂.slotsUsed } : State).setVm s₂.vm).setTop { g with pc := g.pc + len₂, stack := v.toList ++ g.stack } := by
      refine e3.trans ?_
      rw [hf₂, State.calling_eq h.top, State.setFrames_setFrames, State.setTop_of_frames _ hr', hr]
      rfl
    have hsame : U.sameButNew ({ U with heap := s₂.heap, slotsUsed := s₂.slotsUsed } : State) L mc ms := by
      refine ⟨?_, q2, q3, q4, q5, q6⟩
      obtain ⟨t, ht, -⟩ := State.frames_cons hr
      show ({ U with heap := s₂.heap, slotsUsed := s₂.slotsUsed } : State) = { U.setFrames U.frames with heap := s₂.heap, slotsUsed := s₂.slotsUsed }
      rw [State.setFrames_self ht]
    subst hg
    refine Or.inl ⟨v, ⟨(({ U with heap := s₂.heap, slotsUsed := s₂.slotsUsed } : State).setVm s₂.vm), Ls ++ L, c0 + mc, s0 + ms⟩,
      ⟨X.admits, X.cas, X.clock, X.frames, X.room, X.hears, X.method, X.code, (X.here.setHeapUsed s₂.heap s₂.slotsUsed).setVm hW'.alike, X.tail, State.WarmedH.trans X.warmed hW', X.limits, X.bytes, X.same.trans (hsame.setVm s.vm)⟩,
      ⟨g, mk, s₂, L, rfl, rfl, hqc, rfl, hL, rfl, rfl⟩, ?_⟩
    show Steps p.tables e below _ ((({ U with heap := s₂.heap, slotsUsed := s₂.slotsUsed } : State).setVm s₂.vm).setTop { g with pc := g.pc + len₂, stack := v.toList ++ g.stack })
    rw [← hs₂]
    exact hsteps
  · obtain ⟨e2, q2, q3, q4, q5, q6⟩ := id hsm
    have e3 : s₂ = ({ (U.calling g mk a).setFrames s₂.frames with heap := s₂.heap, slotsUsed := s₂.slotsUsed } : State).setVm s₂.vm := by
      have : s₂ = ({ s₂ with vm := (U.calling g mk a).vm } : State).setVm s₂.vm := rfl
      rw [e2] at this
      exact this
    have hf₂ : s₂.frames = .throwing q :: .java g :: U.frames.tail := hend
    have hW' : U.WarmedH s₂.vm := hW₂
    have hs₂ : s₂ = ((({ U with heap := s₂.heap, slotsUsed := s₂.slotsUsed } : State).setVm s₂.vm).setTop g).pushFrame (.throwing q) := by
      refine e3.trans ?_
      rw [hf₂, State.calling_eq h.top, State.setFrames_setFrames, State.pushFrame, State.frames_setTop _ hr', State.setTop_of_frames _ hr', State.setFrames_setFrames, hr]
      rfl
    have hsame : U.sameButNew ({ U with heap := s₂.heap, slotsUsed := s₂.slotsUsed } : State) L mc ms := by
      refine ⟨?_, q2, q3, q4, q5, q6⟩
      obtain ⟨t, ht, -⟩ := State.frames_cons hr
      show ({ U with heap := s₂.heap, slotsUsed := s₂.slotsUsed } : State) = { U.setFrames U.frames with heap := s₂.heap, slotsUsed := s₂.slotsUsed }
      rw [State.setFrames_self ht]
    subst hg
    refine Or.inr ⟨q, ⟨(({ U with heap := s₂.heap, slotsUsed := s₂.slotsUsed } : State).setVm s₂.vm), Ls ++ L, c0 + mc, s0 + ms⟩,
      ⟨X.admits, X.cas, X.clock, X.frames, X.room, X.hears, X.method, X.code, (X.here.setHeapUsed s₂.heap s₂.slotsUsed).setVm hW'.alike, X.tail, State.WarmedH.trans X.warmed hW', X.limits, X.bytes, X.same.trans (hsame.setVm s.vm)⟩,
      ⟨g, mk, s₂, L, E, ce, rfl, rfl, hx, hce, hcv, hcl, rfl, hL, rfl, rfl⟩, ?_⟩
    show Steps p.tables e below _ (((({ U with heap := s₂.heap, slotsUsed := s₂.slotsUsed } : State).setVm s₂.vm).setTop g).pushFrame (.throwing q))
    rw [← hs₂]
    exact hsteps
end Payer
section Calls
variable {p : Program} {l : Launch} {e : Env} {R : Room} {s : State} {m : MethodId} {args : Array Value} {below : List Frame} {meth : Method} {c : Code} {T : State} {locs : List Loc} {cells slots : Nat}
theorem vx_callV (X : Stand p l e R s m args below meth c T locs cells slots) (hexec : p.tables.exec = Jvm.exec) {own C : String} {index : Nat} {y : MethodName} {bytes : ByteArray} {maxL : Nat} {ret : Option FieldType}
    (hown : s.vm.findClass own = some m.cls) (hlink : (Cond.methodLink own index y).before args s = true) (hinst : (Cond.instanceMethod y).before args s = true) (hsel : (Cond.selects C y y).before args s = true)
    (hcode : (Cond.code y bytes maxL ret).before args s = true) (hy : y.cls ≠ "java/lang/invoke/MethodHandle" ∧ y.cls ≠ "java/lang/invoke/VarHandle")
    {W9 : Nat} {Pre : Pt → Array Value → Prop} {Post : Pt → Array Value → Option Value → Pt → Prop} {PostX : Pt → Array Value → Addr → Pt → Prop} (hK : vx_Back l R p e below s args y 3 W9 Pre Post PostX)
    {b : Addr} {cellB : Cell} (hcell : T.heap[b]? = some cellB) (hobj : cellB.vm.isStatics = false) (hcls : s.vm.findClass C = some cellB.cls)
    {g : JFrame} (hg : g.method = m) (hsize : g.locals.size = c.maxLocals) {argsL rest : List Value} (hlen : ∀ sig, parseMethodDescriptor y.desc = some sig → argsL.length = sig.parameters.length)
    (hstack : g.stack = argsL.reverse ++ .ref b :: rest) (hW : 2 * g.monitorRoom + (rest.map fun v => v.category).sum ≤ W9) (hdg : decode c.code g.pc = .ok (.invokevirtual index, 3))
    (hpre : ∀ vm₁, s.WarmedH vm₁ → Pre ⟨T.setVm vm₁, locs, cells, slots⟩ (Value.ref b :: argsL).toArray) :
    (∃ (v : Option Value) (vm₁ : Vm) (B : Pt), s.WarmedH vm₁ ∧ Stand p l e R s m args below meth c B.U B.locs B.cells B.slots ∧ Post ⟨T.setVm vm₁, locs, cells, slots⟩ (Value.ref b :: argsL).toArray v B ∧
      ∀ target, Steps p.tables e below (B.U.setTop { g with pc := g.pc + 3, stack := v.toList ++ rest }) target → Steps p.tables e below (T.setTop g) target) ∨
    (∃ (q : Addr) (vm₁ : Vm) (B : Pt), s.WarmedH vm₁ ∧ Stand p l e R s m args below meth c B.U B.locs B.cells B.slots ∧ PostX ⟨T.setVm vm₁, locs, cells, slots⟩ (Value.ref b :: argsL).toArray q B ∧
      Steps p.tables e below (T.setTop g) ((B.U.setTop { g with stack := rest }).pushFrame (.throwing q))) := by
  obtain ⟨mk, methM, hnamed, hmethM, hstM, habM⟩ := Cond.instanceMethod_spec hinst
  obtain ⟨methM', cM, hmethM', -, -, -, -, -, -, hsigM⟩ := Cond.code_spec hnamed hcode
  cases hmethM.symm.trans hmethM'
  obtain ⟨c2, r2, m2, q1, q2, q3, q4, kP, hkP, hkPi⟩ := Cond.selects_spec hsel
  cases hcls.symm.trans q1
  cases (State.methodFound?_of_named hnamed hy).symm.trans q2
  cases hnamed.symm.trans q3
  have hselP : selectMethod e.platform s.vm cellB.cls mk = .method mk := by rw [Launch.admits_selectMethod X.admits]; exact q4
  obtain ⟨vm₁, X₁, hstep₁⟩ := X.invokevirtual hexec hown hlink hnamed hmethM hstM hkP hkPi hy (a := b) (cell := cellB) hcell
    (fun z h => by rw [h] at hobj; cases hobj) hselP hmethM habM hkP hkPi (g := g) hg (argsL := argsL) (rest := rest) (hlen _ hsigM) hstack hdg
  rcases hK m meth c ⟨T.setVm vm₁, locs, cells, slots⟩ { g with stack := rest } (.invokevirtual index) mk (Value.ref b :: argsL).toArray X₁ hg hsize hdg hW (X₁.named hnamed) (hpre vm₁ X₁.warmed) with ⟨v, B, X', hpost, hsteps⟩ | ⟨q, B, X', hpost, hsteps⟩
  · exact Or.inl ⟨v, vm₁, B, X₁.warmed, X', hpost, fun target h => hstep₁ _ fun acts => by rw [doInvoke_state]; exact hsteps.trans h⟩
  · exact Or.inr ⟨q, vm₁, B, X₁.warmed, X', hpost, hstep₁ _ fun acts => by rw [doInvoke_state]; exact hsteps⟩
theorem vx_callS (X : Stand p l e R s m args below meth c T locs cells slots) (hexec : p.tables.exec = Jvm.exec) {own : String} {index : Nat} {y : MethodName} {bytes : ByteArray} {maxL : Nat} {ret : Option FieldType}
    (hown : s.vm.findClass own = some m.cls) (hlink : (Cond.methodLink own index y).before args s = true) (hstat : (Cond.static y).before args s = true) (hinit : (Cond.initialized y.cls).before args s = true)
    (hcode : (Cond.code y bytes maxL ret).before args s = true) (hy : y.cls ≠ "java/lang/invoke/MethodHandle" ∧ y.cls ≠ "java/lang/invoke/VarHandle")
    {W9 : Nat} {Pre : Pt → Array Value → Prop} {Post : Pt → Array Value → Option Value → Pt → Prop} {PostX : Pt → Array Value → Addr → Pt → Prop} (hK : vx_Back l R p e below s args y 3 W9 Pre Post PostX)
    {g : JFrame} (hg : g.method = m) (hsize : g.locals.size = c.maxLocals) {argsL rest : List Value} (hlen : ∀ sig, parseMethodDescriptor y.desc = some sig → argsL.length = sig.parameters.length)
    (hstack : g.stack = argsL.reverse ++ rest) (hW : 2 * g.monitorRoom + (rest.map fun v => v.category).sum ≤ W9) (hdg : decode c.code g.pc = .ok (.invokestatic index, 3))
    (hpre : ∀ vm₁, s.WarmedH vm₁ → Pre ⟨T.setVm vm₁, locs, cells, slots⟩ argsL.toArray) :
    (∃ (v : Option Value) (vm₁ : Vm) (B : Pt), s.WarmedH vm₁ ∧ Stand p l e R s m args below meth c B.U B.locs B.cells B.slots ∧ Post ⟨T.setVm vm₁, locs, cells, slots⟩ argsL.toArray v B ∧
      ∀ target, Steps p.tables e below (B.U.setTop { g with pc := g.pc + 3, stack := v.toList ++ rest }) target → Steps p.tables e below (T.setTop g) target) ∨
    (∃ (q : Addr) (vm₁ : Vm) (B : Pt), s.WarmedH vm₁ ∧ Stand p l e R s m args below meth c B.U B.locs B.cells B.slots ∧ PostX ⟨T.setVm vm₁, locs, cells, slots⟩ argsL.toArray q B ∧
      Steps p.tables e below (T.setTop g) ((B.U.setTop { g with stack := rest }).pushFrame (.throwing q))) := by
  obtain ⟨mk, hnamed⟩ := Cond.code_named hcode
  obtain ⟨methM, cM, hmethM, -, -, -, -, -, -, hsigM⟩ := Cond.code_spec hnamed hcode
  have hstatic : methM.isStatic = true := Cond.static_spec hnamed hmethM hstat
  obtain ⟨kP, hkP, -⟩ := className_of_methodNamed hnamed
  have hinitP : kP.init = .initialized := Cond.initialized_spec (findClass_of_methodNamed hnamed) hkP hinit
  obtain ⟨vm₁, X₁, hstep₁⟩ := X.invokestatic hexec hown hlink hnamed hmethM hstatic hkP hinitP hy (g := g) hg (argsL := argsL) (rest := rest) (hlen _ hsigM) hstack hdg
  rcases hK m meth c ⟨T.setVm vm₁, locs, cells, slots⟩ { g with stack := rest } (.invokestatic index) mk argsL.toArray X₁ hg hsize hdg hW (X₁.named hnamed) (hpre vm₁ X₁.warmed) with ⟨v, B, X', hpost, hsteps⟩ | ⟨q, B, X', hpost, hsteps⟩
  · exact Or.inl ⟨v, vm₁, B, X₁.warmed, X', hpost, fun target h => hstep₁ _ fun acts => by rw [doInvoke_state]; exact hsteps.trans h⟩
  · exact Or.inr ⟨q, vm₁, B, X₁.warmed, X', hpost, hstep₁ _ fun acts => by rw [doInvoke_state]; exact hsteps⟩
end Calls
theorem vx_cls {s : State} {T : State} {vm₁ : Vm} {E : String} {k : ClassId} (hW : s.WarmedH vm₁) (h : (T.setVm vm₁).vm.findClass E = some k) : s.vm.findClass E = some k := by
  have h1 : vm₁.findClass E = some k := h
  rw [hW.alike.findClass] at h1
  exact h1
/-- the method's frame g, with q thrown over it -/
def vx_W (p : Program) (l : Launch) (e : Env) (R : Room) (s : State) (m : MethodId) (args : Array Value) (below : List Frame) (meth : Method) (c : Code) (H : Heap) (locs : List Loc) (cells slots : Nat) (Q : State → Prop) (g : JFrame) (q : Addr) : Prop :=
  ∀ T : State, T.heap = H → Stand p l e R s m args below meth c T locs cells slots → ∃ t, Steps p.tables e below ((T.setTop g).pushFrame (.throwing q)) t ∧ Q t
def vx_Run (p : Program) (l : Launch) (e : Env) (R : Room) (s : State) (m : MethodId) (args : Array Value) (below : List Frame) (meth : Method) (c : Code) (H : Heap) (locs : List Loc) (cells slots mc ms : Nat) (g : JFrame) (rest : List Value) (Qa : State → Outcome → State → Prop) (XC : String → State → State → Prop) (free : Addr → Prop) : Prop :=
  ∀ T : State, T.heap = H → Stand p l e R s m args below meth c T locs cells slots →
    (∃ (v : Option Value) (st₀ t T' : State) (L : List Loc), st₀.heap = H ∧ Stand p l e R s m args below meth c T' (locs ++ L) (cells + mc) (slots + ms) ∧ (∀ q ∈ L, free q.base) ∧ T'.heap = t.heap ∧ T'.vm = t.vm ∧ Qa st₀ (.returned v) t ∧
      Goes p e below T g T' { g with pc := g.pc + 3, stack := v.toList ++ rest }) ∨
    (∃ (q : Addr) (st₀ t T' : State) (L : List Loc) (E : String) (ce : Cell), st₀.heap = H ∧ Stand p l e R s m args below meth c T' (locs ++ L) (cells + mc) (slots + ms) ∧ (∀ z ∈ L, free z.base) ∧ T'.heap = t.heap ∧ T'.vm = t.vm ∧ XC E st₀ t ∧ t.heap[q]? = some ce ∧ ce.vm = .none ∧ s.vm.findClass E = some ce.cls ∧
      Steps p.tables e below (T.setTop g) ((T'.setTop { g with stack := rest }).pushFrame (.throwing q)))
def vx_X {S : Type} (px : S → Prop) (B : String → S → State → Prop) (A : Nat → Prop) : String → State → State → Prop := fun E st t => ∃ u : S, px u ∧ B E u t ∧ va_F A st t
section Runs
variable {p : Program} {l : Launch} {e : Env} {R : Room} {s : State} {m : MethodId} {args : Array Value} {below : List Frame} {meth : Method} {c : Code} {H : Heap} {locs : List Loc} {cells slots : Nat}
variable {y : MethodName} {bytes cc : ByteArray} {maxL nL mc ms n index : Nat} {ret : Option FieldType} {ws : List Cond} {rm : Room} {Pc : Array Value → State → Prop} {Qc : Array Value → State → Outcome → State → Prop} {XC : String → State → State → Prop} {free : Addr → Prop} {Ts : List Cond} {own C : String} {b : Addr} {As rest : List Value} {g : JFrame}
theorem vx_callBack (cb : CallB R s args own index y bytes maxL ret ws rm mc ms n) (hM : vx_Met l y ws rm Pc Qc XC mc ms free) (hbl : FrameBlind Pc) : vx_Back l R p e below s args y 3 8 (PreOf R mc ms Pc) (PostOf Qc mc ms free) (vx_Post XC mc ms free) := by
  obtain ⟨hrc, hrs, hfr, hlo, hws, hcw, -, hini, -⟩ := cb
  exact vx_back (bytes := bytes) (maxL := maxL) (ret := ret) hM hbl hrc hrs hfr hlo hws hcw (fun a' U hW => word_at hW (Or.inl (by first | rfl | simp [Cond.onTables, Cond.keeps, Cond.steady])) hini)
theorem vx_runV (S : CallFix p m c cc nL s args Ts own) (hM : vx_Met l y ws rm Pc Qc XC mc ms free) (cw : CallW R s args own C index y bytes maxL ret ws rm mc ms n) (hp : PreV s H C b Pc As)
    (hg : g.method = m) (hn : As.length = n) (hsize : g.locals.size = nL) (hstack : g.stack = As.reverse ++ .ref b :: rest) (hW : 2 * g.monitorRoom + (rest.map fun v => v.category).sum ≤ 8) (hdg : decode cc g.pc = .ok (.invokevirtual index, 3)) (hf : cells + mc ≤ R.cells ∧ slots + ms ≤ R.slots) :
    vx_Run p l e R s m args below meth c H locs cells slots mc ms g rest (Qc (Value.ref b :: As).toArray) XC free := by
  have hK : vx_Back l R p e below s args y 3 8 (PreOf R mc ms Pc) (PostOf Qc mc ms free) (vx_Post XC mc ms free) := vx_callBack cw.1 hM hp.1
  obtain ⟨⟨-, -, -, -, -, -, hcode, -, hy, hlen, hl⟩, hin, hse⟩ := cw
  obtain ⟨hx, hb, hml, ho, -⟩ := S
  obtain ⟨-, ⟨cellB, hcB, hoB, hclB⟩, hPc⟩ := hp
  intro T hT X
  rcases vx_callV X hx (C := C) (bytes := bytes) (maxL := maxL) (ret := ret) ho hl hin hse hcode hy hK (by rw [hT]; exact hcB) hoB hclB hg (hsize.trans hml.symm) (argsL := As) (rest := rest) (fun sig h => hn.trans (hlen sig h)) hstack hW (by rw [hb]; exact hdg)
    (fun vm₁ hW₁ => ⟨hf.1, hf.2, hPc (T.setVm vm₁) hT hW₁⟩) with ⟨v, vm₁, ⟨U', l2, c2, s2⟩, hW₁, X', ⟨g', mk, t, L, e1, e2, hq, h1, hL, h2, h3⟩, st⟩ | ⟨q, vm₁, ⟨U', l2, c2, s2⟩, hW₁, X', ⟨g', mk, t, L, E, ce, e1, e2, hq, hce, hcv, hcl, h1, hL, h2, h3⟩, st⟩
  · dsimp only [Pt.U, Pt.locs, Pt.cells, Pt.slots] at X' e1 e2 h1 h2 h3 st
    subst h1; subst h2; subst h3
    exact Or.inl ⟨v, (T.setVm vm₁).calling g' mk (Value.ref b :: As).toArray, t, U', L, hT, X', hL, e1, e2, hq, st⟩
  · dsimp only [Pt.U, Pt.locs, Pt.cells, Pt.slots] at X' e1 e2 h1 h2 h3 st hcl
    subst h1; subst h2; subst h3
    exact Or.inr ⟨q, (T.setVm vm₁).calling g' mk (Value.ref b :: As).toArray, t, U', L, E, ce, hT, X', hL, e1, e2, hq, hce, hcv, vx_cls hW₁ hcl, st⟩
theorem vx_runS (S : CallFix p m c cc nL s args Ts own) (hM : vx_Met l y ws rm Pc Qc XC mc ms free) (cw : CallB R s args own index y bytes maxL ret ws rm mc ms n ∧ (Cond.static y).before args s = true) (hp : PreS s H Pc As)
    (hg : g.method = m) (hn : As.length = n) (hsize : g.locals.size = nL) (hstack : g.stack = As.reverse ++ rest) (hW : 2 * g.monitorRoom + (rest.map fun v => v.category).sum ≤ 8) (hdg : decode cc g.pc = .ok (.invokestatic index, 3)) (hf : cells + mc ≤ R.cells ∧ slots + ms ≤ R.slots) :
    vx_Run p l e R s m args below meth c H locs cells slots mc ms g rest (Qc As.toArray) XC free := by
  have hK : vx_Back l R p e below s args y 3 8 (PreOf R mc ms Pc) (PostOf Qc mc ms free) (vx_Post XC mc ms free) := vx_callBack cw.1 hM hp.1
  obtain ⟨⟨-, -, -, -, -, -, hcode, hini, hy, hlen, hl⟩, hstt⟩ := cw
  obtain ⟨hx, hb, hml, ho, -⟩ := S
  intro T hT X
  rcases vx_callS X hx (bytes := bytes) (maxL := maxL) (ret := ret) ho hl hstt hini hcode hy hK hg (hsize.trans hml.symm) (argsL := As) (rest := rest) (fun sig h => hn.trans (hlen sig h)) hstack hW (by rw [hb]; exact hdg)
    (fun vm₁ hW₁ => ⟨hf.1, hf.2, hp.2 (T.setVm vm₁) hT hW₁⟩) with ⟨v, vm₁, ⟨U', l2, c2, s2⟩, hW₁, X', ⟨g', mk, t, L, e1, e2, hq, h1, hL, h2, h3⟩, st⟩ | ⟨q, vm₁, ⟨U', l2, c2, s2⟩, hW₁, X', ⟨g', mk, t, L, E, ce, e1, e2, hq, hce, hcv, hcl, h1, hL, h2, h3⟩, st⟩
  · dsimp only [Pt.U, Pt.locs, Pt.cells, Pt.slots] at X' e1 e2 h1 h2 h3 st
    subst h1; subst h2; subst h3
    exact Or.inl ⟨v, (T.setVm vm₁).calling g' mk As.toArray, t, U', L, hT, X', hL, e1, e2, hq, st⟩
  · dsimp only [Pt.U, Pt.locs, Pt.cells, Pt.slots] at X' e1 e2 h1 h2 h3 st hcl
    subst h1; subst h2; subst h3
    exact Or.inr ⟨q, (T.setVm vm₁).calling g' mk As.toArray, t, U', L, E, ce, hT, X', hL, e1, e2, hq, hce, hcv, vx_cls hW₁ hcl, st⟩
end Runs
section Rows
variable {p : Program} {l : Launch} {e : Env} {R : Room} {s : State} {m : MethodId} {args : Array Value} {below : List Frame} {meth : Method} {c : Code} {H : Heap} {locs : List Loc} {cells slots : Nat} {Q : State → Prop}
variable {mc ms : Nat} {free : Addr → Prop} {A0 A1 : Nat → Prop} {H0 : Heap} {a : Array Value} {pc : Nat} {ls : Array Slot} {st0 rest : List Value}
theorem vx_keep {st₀ t T' : State} {L : List Loc} (h0 : st₀.heap = H) (e1 : T'.heap = t.heap) (hS : va_S A0 H0 H locs) (hA : ∀ q, q < H.size → A1 q → A0 q) (hf : ∀ q, free q → A0 q) (hL : ∀ q ∈ L, free q.base) (hF : va_F A1 st₀ t) :
    H.size ≤ T'.heap.size ∧ (∀ q : Nat, q < H.size → ¬ A1 q → T'.heap[q]? = H[q]?) ∧ va_S A0 H0 T'.heap (locs ++ L) := by
  obtain ⟨hz, hk⟩ := hF
  rw [h0] at hz hk
  exact ⟨by rw [e1]; exact hz, fun q h1 h2 => by rw [e1]; exact hk q h1 h2,
    ⟨Nat.le_trans hS.1 (by rw [e1]; exact hz), fun q h1 h2 => by rw [e1, hk q (Nat.lt_of_lt_of_le h1 hS.1) (fun z => h2 (hA q (Nat.lt_of_lt_of_le h1 hS.1) z))]; exact hS.2.1 q h1 h2, fun q hq => by
      rcases List.mem_append.mp hq with h | h
      · exact hS.2.2 q h
      · exact hf _ (hL q h)⟩⟩
theorem vx_calli {S SX : Type} {post : Int32 → S → Prop} {px : SX → Prop} {B : S → State → Prop} {BX : String → SX → State → Prop} {AX : Nat → Prop} (hr : vx_Run p l e R s m args below meth c H locs cells slots mc ms (F0 m pc ls st0) rest (va_Qi post B A1 a) (vx_X px BX AX) free) (hS : va_S A0 H0 H locs) (hA : ∀ q, q < H.size → A1 q → A0 q) (hf : ∀ q, free q → A0 q) (hAX : ∀ q, q < H.size → AX q → A0 q)
    (kx : ∀ (E : String) (ce : Cell) (q9 : Addr) (u : SX) (t : State) (H1 : Heap) (locs1 : List Loc), t.heap = H1 → s.vm.Alike t.vm → px u → BX E u t → H.size ≤ H1.size → (∀ q : Nat, q < H.size → ¬ AX q → H1[q]? = H[q]?) → va_S A0 H0 H1 locs1 → H1[q9]? = some ce → ce.vm = .none → s.vm.findClass E = some ce.cls → vx_W p l e R s m args below meth c H1 locs1 (cells + mc) (slots + ms) Q (F0 m pc ls rest) q9)
    (kk : ∀ (r : Int32) (u : S) (t : State) (H1 : Heap) (locs1 : List Loc), t.heap = H1 → s.vm.Alike t.vm → post r u → B u t → H.size ≤ H1.size → (∀ q : Nat, q < H.size → ¬ A1 q → H1[q]? = H[q]?) → va_S A0 H0 H1 locs1 → W p l e R s m args below meth c H1 locs1 (cells + mc) (slots + ms) Q (F0 m (pc + 3) ls (.int r :: rest))) : W p l e R s m args below meth c H locs cells slots Q (F0 m pc ls st0) := by
  intro T hT X
  rcases hr T hT X with ⟨v, st₀, t, T', L, h0, X', hL, e1, e2, ⟨⟨r, u, hv, hp, hb⟩, hF⟩, st⟩ | ⟨q, st₀, t, T', L, E, ce, h0, X', hL, e1, e2, ⟨u, hp, hb, hF⟩, hce, hcv, hcl, st⟩
  · cases hv
    obtain ⟨k1, k2, k3⟩ := vx_keep h0 e1 hS hA hf hL hF
    obtain ⟨t2, a1, b1⟩ := kk r u t T'.heap (locs ++ L) e1.symm (by rw [← e2]; exact X'.warmed.alike) hp hb k1 k2 k3 T' rfl X'
    exact ⟨t2, st t2 a1, b1⟩
  · obtain ⟨k1, k2, k3⟩ := vx_keep h0 e1 hS hAX hf hL hF
    obtain ⟨t2, a1, b1⟩ := kx E ce q u t T'.heap (locs ++ L) e1.symm (by rw [← e2]; exact X'.warmed.alike) hp hb k1 k2 k3 (by rw [e1]; exact hce) hcv hcl T' rfl X'
    exact ⟨t2, st.trans a1, b1⟩
theorem vx_calll {S SX : Type} {post : Int64 → S → Prop} {px : SX → Prop} {B : S → State → Prop} {BX : String → SX → State → Prop} {AX : Nat → Prop} (hr : vx_Run p l e R s m args below meth c H locs cells slots mc ms (F0 m pc ls st0) rest (va_Ql post B A1 a) (vx_X px BX AX) free) (hS : va_S A0 H0 H locs) (hA : ∀ q, q < H.size → A1 q → A0 q) (hf : ∀ q, free q → A0 q) (hAX : ∀ q, q < H.size → AX q → A0 q)
    (kx : ∀ (E : String) (ce : Cell) (q9 : Addr) (u : SX) (t : State) (H1 : Heap) (locs1 : List Loc), t.heap = H1 → s.vm.Alike t.vm → px u → BX E u t → H.size ≤ H1.size → (∀ q : Nat, q < H.size → ¬ AX q → H1[q]? = H[q]?) → va_S A0 H0 H1 locs1 → H1[q9]? = some ce → ce.vm = .none → s.vm.findClass E = some ce.cls → vx_W p l e R s m args below meth c H1 locs1 (cells + mc) (slots + ms) Q (F0 m pc ls rest) q9)
    (kk : ∀ (r : Int64) (u : S) (t : State) (H1 : Heap) (locs1 : List Loc), t.heap = H1 → s.vm.Alike t.vm → post r u → B u t → H.size ≤ H1.size → (∀ q : Nat, q < H.size → ¬ A1 q → H1[q]? = H[q]?) → va_S A0 H0 H1 locs1 → W p l e R s m args below meth c H1 locs1 (cells + mc) (slots + ms) Q (F0 m (pc + 3) ls (.long r :: rest))) : W p l e R s m args below meth c H locs cells slots Q (F0 m pc ls st0) := by
  intro T hT X
  rcases hr T hT X with ⟨v, st₀, t, T', L, h0, X', hL, e1, e2, ⟨⟨r, u, hv, hp, hb⟩, hF⟩, st⟩ | ⟨q, st₀, t, T', L, E, ce, h0, X', hL, e1, e2, ⟨u, hp, hb, hF⟩, hce, hcv, hcl, st⟩
  · cases hv
    obtain ⟨k1, k2, k3⟩ := vx_keep h0 e1 hS hA hf hL hF
    obtain ⟨t2, a1, b1⟩ := kk r u t T'.heap (locs ++ L) e1.symm (by rw [← e2]; exact X'.warmed.alike) hp hb k1 k2 k3 T' rfl X'
    exact ⟨t2, st t2 a1, b1⟩
  · obtain ⟨k1, k2, k3⟩ := vx_keep h0 e1 hS hAX hf hL hF
    obtain ⟨t2, a1, b1⟩ := kx E ce q u t T'.heap (locs ++ L) e1.symm (by rw [← e2]; exact X'.warmed.alike) hp hb k1 k2 k3 (by rw [e1]; exact hce) hcv hcl T' rfl X'
    exact ⟨t2, st.trans a1, b1⟩
theorem vx_callf {S SX : Type} {post : UInt32 → S → Prop} {px : SX → Prop} {B : S → State → Prop} {BX : String → SX → State → Prop} {AX : Nat → Prop} (hr : vx_Run p l e R s m args below meth c H locs cells slots mc ms (F0 m pc ls st0) rest (va_Qf post B A1 a) (vx_X px BX AX) free) (hS : va_S A0 H0 H locs) (hA : ∀ q, q < H.size → A1 q → A0 q) (hf : ∀ q, free q → A0 q) (hAX : ∀ q, q < H.size → AX q → A0 q)
    (kx : ∀ (E : String) (ce : Cell) (q9 : Addr) (u : SX) (t : State) (H1 : Heap) (locs1 : List Loc), t.heap = H1 → s.vm.Alike t.vm → px u → BX E u t → H.size ≤ H1.size → (∀ q : Nat, q < H.size → ¬ AX q → H1[q]? = H[q]?) → va_S A0 H0 H1 locs1 → H1[q9]? = some ce → ce.vm = .none → s.vm.findClass E = some ce.cls → vx_W p l e R s m args below meth c H1 locs1 (cells + mc) (slots + ms) Q (F0 m pc ls rest) q9)
    (kk : ∀ (r : UInt32) (u : S) (t : State) (H1 : Heap) (locs1 : List Loc), t.heap = H1 → s.vm.Alike t.vm → post r u → B u t → H.size ≤ H1.size → (∀ q : Nat, q < H.size → ¬ A1 q → H1[q]? = H[q]?) → va_S A0 H0 H1 locs1 → W p l e R s m args below meth c H1 locs1 (cells + mc) (slots + ms) Q (F0 m (pc + 3) ls (.float r :: rest))) : W p l e R s m args below meth c H locs cells slots Q (F0 m pc ls st0) := by
  intro T hT X
  rcases hr T hT X with ⟨v, st₀, t, T', L, h0, X', hL, e1, e2, ⟨⟨r, u, hv, hp, hb⟩, hF⟩, st⟩ | ⟨q, st₀, t, T', L, E, ce, h0, X', hL, e1, e2, ⟨u, hp, hb, hF⟩, hce, hcv, hcl, st⟩
  · cases hv
    obtain ⟨k1, k2, k3⟩ := vx_keep h0 e1 hS hA hf hL hF
    obtain ⟨t2, a1, b1⟩ := kk r u t T'.heap (locs ++ L) e1.symm (by rw [← e2]; exact X'.warmed.alike) hp hb k1 k2 k3 T' rfl X'
    exact ⟨t2, st t2 a1, b1⟩
  · obtain ⟨k1, k2, k3⟩ := vx_keep h0 e1 hS hAX hf hL hF
    obtain ⟨t2, a1, b1⟩ := kx E ce q u t T'.heap (locs ++ L) e1.symm (by rw [← e2]; exact X'.warmed.alike) hp hb k1 k2 k3 (by rw [e1]; exact hce) hcv hcl T' rfl X'
    exact ⟨t2, st.trans a1, b1⟩
theorem vx_calld {S SX : Type} {post : UInt64 → S → Prop} {px : SX → Prop} {B : S → State → Prop} {BX : String → SX → State → Prop} {AX : Nat → Prop} (hr : vx_Run p l e R s m args below meth c H locs cells slots mc ms (F0 m pc ls st0) rest (va_Qd post B A1 a) (vx_X px BX AX) free) (hS : va_S A0 H0 H locs) (hA : ∀ q, q < H.size → A1 q → A0 q) (hf : ∀ q, free q → A0 q) (hAX : ∀ q, q < H.size → AX q → A0 q)
    (kx : ∀ (E : String) (ce : Cell) (q9 : Addr) (u : SX) (t : State) (H1 : Heap) (locs1 : List Loc), t.heap = H1 → s.vm.Alike t.vm → px u → BX E u t → H.size ≤ H1.size → (∀ q : Nat, q < H.size → ¬ AX q → H1[q]? = H[q]?) → va_S A0 H0 H1 locs1 → H1[q9]? = some ce → ce.vm = .none → s.vm.findClass E = some ce.cls → vx_W p l e R s m args below meth c H1 locs1 (cells + mc) (slots + ms) Q (F0 m pc ls rest) q9)
    (kk : ∀ (r : UInt64) (u : S) (t : State) (H1 : Heap) (locs1 : List Loc), t.heap = H1 → s.vm.Alike t.vm → post r u → B u t → H.size ≤ H1.size → (∀ q : Nat, q < H.size → ¬ A1 q → H1[q]? = H[q]?) → va_S A0 H0 H1 locs1 → W p l e R s m args below meth c H1 locs1 (cells + mc) (slots + ms) Q (F0 m (pc + 3) ls (.double r :: rest))) : W p l e R s m args below meth c H locs cells slots Q (F0 m pc ls st0) := by
  intro T hT X
  rcases hr T hT X with ⟨v, st₀, t, T', L, h0, X', hL, e1, e2, ⟨⟨r, u, hv, hp, hb⟩, hF⟩, st⟩ | ⟨q, st₀, t, T', L, E, ce, h0, X', hL, e1, e2, ⟨u, hp, hb, hF⟩, hce, hcv, hcl, st⟩
  · cases hv
    obtain ⟨k1, k2, k3⟩ := vx_keep h0 e1 hS hA hf hL hF
    obtain ⟨t2, a1, b1⟩ := kk r u t T'.heap (locs ++ L) e1.symm (by rw [← e2]; exact X'.warmed.alike) hp hb k1 k2 k3 T' rfl X'
    exact ⟨t2, st t2 a1, b1⟩
  · obtain ⟨k1, k2, k3⟩ := vx_keep h0 e1 hS hAX hf hL hF
    obtain ⟨t2, a1, b1⟩ := kx E ce q u t T'.heap (locs ++ L) e1.symm (by rw [← e2]; exact X'.warmed.alike) hp hb k1 k2 k3 (by rw [e1]; exact hce) hcv hcl T' rfl X'
    exact ⟨t2, st.trans a1, b1⟩
theorem vx_callv {S SX : Type} {post : S → Prop} {px : SX → Prop} {B : S → State → Prop} {BX : String → SX → State → Prop} {AX : Nat → Prop} (hr : vx_Run p l e R s m args below meth c H locs cells slots mc ms (F0 m pc ls st0) rest (va_Qv post B A1 a) (vx_X px BX AX) free) (hS : va_S A0 H0 H locs) (hA : ∀ q, q < H.size → A1 q → A0 q) (hf : ∀ q, free q → A0 q) (hAX : ∀ q, q < H.size → AX q → A0 q)
    (kx : ∀ (E : String) (ce : Cell) (q9 : Addr) (u : SX) (t : State) (H1 : Heap) (locs1 : List Loc), t.heap = H1 → s.vm.Alike t.vm → px u → BX E u t → H.size ≤ H1.size → (∀ q : Nat, q < H.size → ¬ AX q → H1[q]? = H[q]?) → va_S A0 H0 H1 locs1 → H1[q9]? = some ce → ce.vm = .none → s.vm.findClass E = some ce.cls → vx_W p l e R s m args below meth c H1 locs1 (cells + mc) (slots + ms) Q (F0 m pc ls rest) q9)
    (kk : ∀ (u : S) (t : State) (H1 : Heap) (locs1 : List Loc), t.heap = H1 → s.vm.Alike t.vm → post u → B u t → H.size ≤ H1.size → (∀ q : Nat, q < H.size → ¬ A1 q → H1[q]? = H[q]?) → va_S A0 H0 H1 locs1 → W p l e R s m args below meth c H1 locs1 (cells + mc) (slots + ms) Q (F0 m (pc + 3) ls (rest))) : W p l e R s m args below meth c H locs cells slots Q (F0 m pc ls st0) := by
  intro T hT X
  rcases hr T hT X with ⟨v, st₀, t, T', L, h0, X', hL, e1, e2, ⟨⟨u, hv, hp, hb⟩, hF⟩, st⟩ | ⟨q, st₀, t, T', L, E, ce, h0, X', hL, e1, e2, ⟨u, hp, hb, hF⟩, hce, hcv, hcl, st⟩
  · cases hv
    obtain ⟨k1, k2, k3⟩ := vx_keep h0 e1 hS hA hf hL hF
    obtain ⟨t2, a1, b1⟩ := kk u t T'.heap (locs ++ L) e1.symm (by rw [← e2]; exact X'.warmed.alike) hp hb k1 k2 k3 T' rfl X'
    exact ⟨t2, st t2 a1, b1⟩
  · obtain ⟨k1, k2, k3⟩ := vx_keep h0 e1 hS hAX hf hL hF
    obtain ⟨t2, a1, b1⟩ := kx E ce q u t T'.heap (locs ++ L) e1.symm (by rw [← e2]; exact X'.warmed.alike) hp hb k1 k2 k3 (by rw [e1]; exact hce) hcv hcl T' rfl X'
    exact ⟨t2, st.trans a1, b1⟩
/-- caught by the row x of this method's table; the rows ahead don't take it -/
theorem vx_catch {own name : String} {E : String} {ce : Cell} {q : Addr} (hown : s.vm.findClass own = some m.cls) (pre : List ExceptionTableEntry) (x : ExceptionTableEntry) (suf : List ExceptionTableEntry) (hsplit : c.exceptionTable.toList = pre ++ x :: suf)
    (hpass : ∀ z ∈ pre, covers z pc = false ∨ (z.catchType ≠ 0 ∧ ∃ nm : String, (Cond.classLink own z.catchType nm).before args s = true ∧ va_Nc E nm s)) (hx : covers x pc = true) (h0 : x.catchType ≠ 0)
    (hlink : (Cond.classLink own x.catchType name).before args s = true) (hcast : (Cond.castable E name).before args s = true) (hcell : H[q]? = some ce) (hv : ce.vm = .none) (hcl : s.vm.findClass E = some ce.cls)
    (kk : W p l e R s m args below meth c H locs cells slots Q (F0 m x.handlerPc ls [.ref q])) : vx_W p l e R s m args below meth c H locs cells slots Q (F0 m pc ls rest) q := by
  intro T hT X
  have hpl : e.platform.magicAccessors = ({} : Platform).magicAccessors := by rw [X.admits.platform]
  obtain ⟨c3, c4, hc3, hc4, hasg⟩ := Cond.castable_spec hcast
  cases Option.some.inj (hc3.symm.trans hcl)
  obtain ⟨c5, hc5, hcl5⟩ := Cond.classLink_spec hown hlink e.platform hpl
  cases Option.some.inj (hc4.symm.trans hc5)
  obtain ⟨vm', X', st⟩ := X.thenCaughtThrough q (g := F0 m pc ls rest) rfl (Steps.refl _) (by rw [hT]; exact hcell) (by rw [hv]; rfl) (by obtain ⟨k9, h9, -⟩ := Vm.findClass_spec hcl; exact ⟨k9, h9⟩) pre x suf hsplit
    (fun z hz => by
      rcases hpass z hz with h | ⟨hz0, nm, hl1, hn1⟩
      · exact Or.inl h
      · obtain ⟨c6, hc6, hcl6⟩ := Cond.classLink_spec hown hl1 e.platform hpl
        obtain ⟨a8, b8, h1, h2, h3⟩ := hn1
        cases Option.some.inj (h1.symm.trans hcl)
        cases Option.some.inj (h2.symm.trans hc6)
        exact Or.inr ⟨hz0, _, hcl6, h3⟩) hx (Or.inr ⟨h0, c4, hcl5, hasg⟩)
  obtain ⟨t, a1, b1⟩ := kk (T.setVm vm') hT X'
  exact ⟨t, st.trans a1, b1⟩
end Rows
section Ends
variable {p : Program} {l : Launch} {e : Env} {R : Room} {s : State} {m : MethodId} {args : Array Value} {below : List Frame} {meth : Method} {c : Code} {H : Heap} {locs : List Loc} {cells slots : Nat} {Q : State → Prop}
variable {mc ms : Nat} {free : Addr → Prop} {A0 A1 : Nat → Prop} {H0 : Heap} {a : Array Value} {ls : Array Slot} {st0 rest : List Value}
variable {Qc : Array Value → State → Outcome → State → Prop} {XC : String → State → State → Prop}
/-- what a body that may throw owes at its end -/
def vx_MQ (below : List Frame) (Qc : Array Value → State → Outcome → State → Prop) (XC : String → State → State → Prop) (a : Array Value) (s : State) (mc ms : Nat) (free : Addr → Prop) : State → Prop := fun t =>
  ∃ o, t.status = .running ∧ Ended t below o ∧ vx_Q Qc XC mc ms free a s o t
theorem vx_ret {g : JFrame} {mc ms : Nat} (k : W p l e R s m args below meth c H locs cells slots (MQ below Qc args s mc ms free) g) : W p l e R s m args below meth c H locs cells slots (vx_MQ below Qc XC args s mc ms free) g := by
  intro T hT X
  obtain ⟨t, a1, o, b1, b2, b3, b4⟩ := k T hT X
  exact ⟨t, a1, o, b1, b2, Or.inl ⟨b3, b4⟩⟩
/-- not caught here: it goes on to the caller -/
theorem vx_widen {g : JFrame} {q : Addr} {k n : Nat} (h1 : cells ≤ k) (h2 : slots ≤ n) (kk : vx_W p l e R s m args below meth c H locs k n Q g q) : vx_W p l e R s m args below meth c H locs cells slots Q g q := fun T hT X => kk T hT (stand_widen X h1 h2)
theorem vx_out {pc : Nat} {E : String} {ce : Cell} {q : Addr} {mc ms : Nat} (hout : ∀ x ∈ c.exceptionTable.toList, covers x pc = false) (hlocks : meth.locks = false) (hcell : H[q]? = some ce) (hv : ce.vm = .none) (hcl : s.vm.findClass E = some ce.cls)
    (hx : ∀ t : State, t.heap = H → s.vm.Alike t.vm → XC E s t) (hf : ∀ z ∈ locs, free z.base) (hc : cells ≤ mc) (hs : slots ≤ ms) :
    vx_W p l e R s m args below meth c H locs cells slots (vx_MQ below Qc XC args s mc ms free) (F0 m pc ls rest) q := by
  intro T hT X
  obtain ⟨st1, hrun, hend, hW, hsm⟩ := X.leaveThrown q (g := F0 m pc ls rest) rfl rfl rfl hout hlocks
  have hcell9 : (T.setFrames (.throwing q :: below)).heap[q]? = some ce := by
    show T.heap[q]? = some ce
    rw [hT]; exact hcell
  exact ⟨_, st1, .threw q, hrun, hend, Or.inr ⟨q, rfl, E, ce, locs, hx _ hT hW.alike, hcell9, hv, hcl, hW, hsm.mono hc hs, hf⟩⟩
theorem vx_frame {U : State} {k n : Nat} (h : s.sameButNew ({ U with vm := s.vm } : State) locs k n) : s.heap.size ≤ U.heap.size ∧ ∀ q : Nat, q < s.heap.size → (∀ z ∈ locs, z.base ≠ q) → U.heap[q]? = s.heap[q]? := by
  obtain ⟨-, h2, -, -, -, h6⟩ := h
  refine ⟨h2, fun q hq hz => ?_⟩
  obtain ⟨c9, e1, e2, e3, e4⟩ := h6 q _ (Array.getElem?_eq_getElem hq)
  have hs : c9.slots = (s.heap[q]).slots := Array.ext_getElem? fun i => e4 i fun hm => hz _ hm rfl
  have h9 : c9 = s.heap[q] := by
    rw [hs] at e2
    exact e2
  have e5 : U.heap[q]? = some c9 := e1
  rw [e5, h9, Array.getElem?_eq_getElem hq]
/-- the words of a throw but the four that speak of the heap -/
def vx_no (w : Cond) : Bool := decide (w ≠ .isRef (.static Bundle.tN "UNASSIGNED_STACK" Bundle.steD)) && decide (w ≠ .isRef (.static Bundle.tN "SUPPRESSED_SENTINEL" Bundle.listD)) && decide (w ≠ .laysStatic Bundle.tN "UNASSIGNED_STACK" Bundle.steD) && decide (w ≠ .laysStatic Bundle.tN "SUPPRESSED_SENTINEL" Bundle.listD)
def vx_at0 (own : String) (ic : Nat) (X : String) (names : List String) : List Cond := (Bundle.ownAtoms0 own ic X names).filter vx_no
def vx_atS (own : String) (ic : Nat) (X : String) (names : List String) : List Cond := (Bundle.ownAtoms own ic X names).filter vx_no
/-- a word that the tables alone decide, or a good one -/
def vx_ot (w : Cond) : Bool := w.onTables || goodWord w
theorem vx_ot_at {args a' : Array Value} {s U : State} {w : Cond} (hW : s.WarmedH U.vm) (hvm : s.vm = U.vm) (hg : vx_ot w = true) (h : w.before args s = true) : w.before a' U = true := by
  simp only [vx_ot, Bool.or_eq_true] at hg
  rcases hg with hg | hg
  · exact va_tabs hg hvm h
  · exact word_at hW (good_of_word hg) h
/-- a list's words: the good ones out of the method's own list, the others by premises of their own -/
theorem vx_hat {args : Array Value} {s : State} {L B : List Cond} (h1 : ∀ w ∈ L.filter goodWord, w.before args s = true) (h2 : ∀ w ∈ L.filter (fun w => !goodWord w), w ∈ B) (h3 : ∀ w ∈ B, w.before args s = true) : ∀ w ∈ L, w.before args s = true := by
  intro w hw
  by_cases g : goodWord w = true
  · exact h1 w (List.mem_filter.mpr ⟨hw, g⟩)
  · refine h3 w (h2 w (List.mem_filter.mpr ⟨hw, ?_⟩))
    show (!goodWord w) = true
    cases hgw : goodWord w
    · rfl
    · exact absurd hgw g
theorem vx_c {args : Array Value} {s : State} {w : Cond} {B : List Cond} (h : w.before args s = true) (t : ∀ w ∈ B, w.before args s = true) : ∀ w' ∈ w :: B, w'.before args s = true := fun w' h' => (List.mem_cons.mp h').elim (fun e => by rw [e]; exact h) (t w')
theorem vx_n {args : Array Value} {s : State} : ∀ w ∈ ([] : List Cond), w.before args s = true := fun _ h => nomatch h
theorem vx_own {args : Array Value} {s : State} {L : List Cond} (h1 : ∀ w ∈ L.filter vx_no, w.before args s = true)
    (hU : (Cond.isRef (.static Bundle.tN "UNASSIGNED_STACK" Bundle.steD)).before args s = true) (hN : (Cond.isRef (.static Bundle.tN "SUPPRESSED_SENTINEL" Bundle.listD)).before args s = true)
    (lU : (Cond.laysStatic Bundle.tN "UNASSIGNED_STACK" Bundle.steD).before args s = true) (lN : (Cond.laysStatic Bundle.tN "SUPPRESSED_SENTINEL" Bundle.listD).before args s = true) : ∀ w ∈ L, w.before args s = true := by
  intro w hw
  by_cases e1 : w = .isRef (.static Bundle.tN "UNASSIGNED_STACK" Bundle.steD)
  · rw [e1]; exact hU
  · by_cases e2 : w = .isRef (.static Bundle.tN "SUPPRESSED_SENTINEL" Bundle.listD)
    · rw [e2]; exact hN
    · by_cases e3 : w = .laysStatic Bundle.tN "UNASSIGNED_STACK" Bundle.steD
      · rw [e3]; exact lU
      · by_cases e4 : w = .laysStatic Bundle.tN "SUPPRESSED_SENTINEL" Bundle.listD
        · rw [e4]; exact lN
        · exact h1 w (List.mem_filter.mpr ⟨hw, by unfold vx_no; rw [decide_eq_true e1, decide_eq_true e2, decide_eq_true e3, decide_eq_true e4]; rfl⟩)
/-- where a static field lies, its class's statics cell in H -/
def vx_L (C n d : String) (A : Nat → Prop) (U : State) (H : Heap) : Prop := ∃ (c : ClassId) (k : Class) (i : Nat) (f : Field) (a : Nat) (cell : Cell), U.vm.findClass C = some c ∧ U.fieldFound? C n d = some (c, k, i, f) ∧ f.isStatic = true ∧ k.statics = some a ∧ H[a]? = some cell ∧ cell.vm.isStatics = true ∧ cell.cls = c ∧ f.slot < cell.slots.size ∧ k.staticTypes[f.slot]? = some f.type ∧ ¬ A a
theorem vx_L.moved {C n d : String} {A : Nat → Prop} {u U : State} {H : Heap} (hvm : u.vm.Alike U.vm) (h : vx_L C n d A u H) : vx_L C n d A U H := by
  obtain ⟨c, k, i, f, a, cell, h1, h2, h3, h4, h5, h6, h7, h8, h9, h10⟩ := h
  obtain ⟨k', hi', he⟩ := State.fieldFound?_setVm hvm h2
  exact ⟨c, k', i, f, a, cell, by rw [hvm.findClass]; exact h1, hi', h3, by rw [he]; exact h4, h5, h6, h7, h8, by rw [he]; exact h9, h10⟩
theorem vx_L.kept {C n d : String} {A : Nat → Prop} {U : State} {H H1 : Heap} (h : vx_L C n d A U H) (hq : ∀ a : Nat, a < H.size → ¬ A a → H1[a]? = H[a]?) : vx_L C n d A U H1 := by
  obtain ⟨c, k, i, f, a, cell, h1, h2, h3, h4, h5, h6, h7, h8, h9, h10⟩ := h
  exact ⟨c, k, i, f, a, cell, h1, h2, h3, h4, by rw [hq a (Array.getElem?_eq_some_iff.mp h5).1 h10]; exact h5, h6, h7, h8, h9, h10⟩
theorem vx_L.narrow {C n d : String} {A B : Nat → Prop} {U : State} {H : Heap} (h : vx_L C n d A U H) (hAB : ∀ q, B q → A q) : vx_L C n d B U H := by
  obtain ⟨c, k, i, f, a, cell, h1, h2, h3, h4, h5, h6, h7, h8, h9, h10⟩ := h
  exact ⟨c, k, i, f, a, cell, h1, h2, h3, h4, h5, h6, h7, h8, h9, fun z => h10 (hAB _ z)⟩
theorem vx_L.word {C n d : String} {A : Nat → Prop} {s : State} {args : Array Value} (h : vx_L C n d A s s.heap) : (Cond.laysStatic C n d).before args s = true := by
  obtain ⟨c, k, i, f, a, cell, h1, h2, h3, h4, h5, h6, h7, h8, h9, -⟩ := h
  show (Cond.laysStatic C n d).holds args s none s [] = true
  exact Cond.laysStatic_of h1 h2 h3 h4 h5 h6 h7 h8 h9
/-- .. and what it holds: null or some reference -/
def vx_Zq (C n d : String) (A : Nat → Prop) (U : State) (H : Heap) : Prop := va_Zq C n d A U H ∧ vx_L C n d A U H
theorem vx_Zq.moved {C n d : String} {A : Nat → Prop} {u U : State} {H : Heap} (hvm : u.vm.Alike U.vm) (h : vx_Zq C n d A u H) : vx_Zq C n d A U H := ⟨va_Zq.moved hvm h.1, vx_L.moved hvm h.2⟩
theorem vx_Zq.kept {C n d : String} {A : Nat → Prop} {U : State} {H H1 : Heap} (h : vx_Zq C n d A U H) (hq : ∀ a : Nat, a < H.size → ¬ A a → H1[a]? = H[a]?) : vx_Zq C n d A U H1 := ⟨va_Zq.kept h.1 hq, vx_L.kept h.2 hq⟩
theorem vx_Zq.narrow {C n d : String} {A B : Nat → Prop} {U : State} {H : Heap} (h : vx_Zq C n d A U H) (hAB : ∀ q, B q → A q) : vx_Zq C n d B U H := ⟨va_Zq.narrow h.1 hAB, vx_L.narrow h.2 hAB⟩
theorem vx_Zqof {args : Array Value} {s : State} {C n d : String} {A : Nat → Prop} (hl : (Cond.laysStatic C n d).before args s = true) (hini : (Cond.initialized C).before args s = true) (h : (Cond.isRef (.static C n d)).before args s = true) (hA : ∀ a : Nat, a < s.heap.size → ¬ A a) : vx_Zq C n d A s s.heap := by
  refine ⟨va_Zqof hl hini h hA, ?_⟩
  obtain ⟨c, k, i, f, a, cell, h1, h2, h3, h4, h5, h6, h7, h8, h9⟩ := Cond.laysStatic_spec hl
  exact ⟨c, k, i, f, a, cell, h1, h2, h3, h4, h5, h6, h7, h8, h9, hA a (Array.getElem?_eq_some_iff.mp h5).1⟩
theorem vx_isRef {C n d : String} {v : Value} {A : Nat → Prop} {s : State} {args : Array Value} (h : va_Z C n d v A s s.heap) (hv : v.isRef = true) : (Cond.isRef (.static C n d)).before args s = true := by
  obtain ⟨cf, kf, fi, f, a, cell, h1, h2, h3, h4, h5, h6, h7, -⟩ := h
  have he : (Term.static C n d).eval args s none [] s = some v := by
    simp [Term.eval, State.fieldNamed?, h1, h2, h4, h5, h6, h7]
  simp only [Cond.before, Cond.holds, Cond.value, he]
  cases v <;> simp_all [Value.isRef]
theorem vx_isRefq {C n d : String} {A : Nat → Prop} {s : State} {args : Array Value} (h : va_Zq C n d A s s.heap) : (Cond.isRef (.static C n d)).before args s = true := by
  rcases h with h | ⟨t, h⟩
  · exact vx_isRef h rfl
  · exact vx_isRef h rfl
/-- the same frame, seen from here: as if the method were called anew in this heap -/
theorem vx_rebase {T : State} (X : Stand p l e R s m args below meth c T locs cells slots) {R' : Room} (hf : R'.frames ≤ R.frames) (hl : R'.locals ≤ R.locals) (hc : cells + R'.cells ≤ R.cells) (hs : slots + R'.slots ≤ R.slots) :
    Stand p l e R' ((T.setVm s.vm).setFrames (.invoking m args :: below)) m args below meth c T [] 0 0 := by
  have htop : (T.setVm s.vm).topJava?.isSome := X.here.top
  have hF : ((T.setVm s.vm).setFrames (.invoking m args :: below)).frames = .invoking m args :: below := State.frames_setFrames _ (State.cur_lt_of_top htop)
  obtain ⟨g₀, hg0⟩ := Option.isSome_iff_exists.mp htop
  obtain ⟨r, hr⟩ := State.topJava?_eq_some.mp hg0
  have hl9 : e.platform.stackLimits (T.setVm s.vm).me = e.platform.stackLimits s.me := X.limits
  have hb9 : (T.setVm s.vm).me.stackBytes = s.me.stackBytes := X.bytes
  refine ⟨X.admits, X.cas, X.clock, hF, ?_, X.hears, X.method, X.code, X.here, X.tail, X.warmed, ?_, ?_, ?_⟩
  · have h := X.room
    have hU : ((T.setVm s.vm).setFrames (.invoking m args :: below)).localsInUse = s.localsInUse := by
      rw [State.localsInUse_invoking hF (meth := meth) (c := c) X.method X.code, State.localsInUse_invoking X.frames X.method X.code]
    simp only [State.hasRoom, Bool.and_eq_true, decide_eq_true_eq] at h ⊢
    obtain ⟨⟨⟨⟨h1, h2, h3, h4, h5, h6⟩, h7⟩, h8⟩, h9⟩ := h
    rw [X.frames, List.length_cons] at h2 h3
    have q1 := X.heapSize
    have q2 := X.used
    simp only [hF, hU, List.length_cons, State.stackLimits_setFrames, State.stackBytes_setFrames, hl9, hb9]
    refine ⟨⟨⟨⟨by omega, by omega, by omega, by omega, by omega, h6⟩, ?_⟩, ?_⟩, X.book⟩
    · show T.heap.size + R'.cells ≤ e.platform.maxCells
      omega
    · show T.slotsUsed + R'.slots ≤ e.platform.maxSlots
      omega
  · rw [State.stackLimits_setFrames]; rfl
  · rw [State.stackBytes_setFrames]; rfl
  · refine ⟨?_, Nat.le_refl _, Nat.le_refl _, ?_, ?_, fun a c9 h9 => ⟨c9, h9, rfl, rfl, fun _ _ => rfl⟩⟩
    · obtain ⟨t, ht, -⟩ := State.frames_cons hr
      show T.setVm s.vm = { ((T.setVm s.vm).setFrames (.invoking m args :: below)).setFrames (T.setVm s.vm).frames with heap := T.heap, slotsUsed := T.slotsUsed }
      rw [State.setFrames_setFrames, State.setFrames_self ht]
      rfl
    · show T.slotsUsed = T.slotsUsed + ((T.heap.toList.drop T.heap.size).map (·.slots.size)).sum
      rw [List.drop_eq_nil_of_le (Nat.le_of_eq Array.length_toList)]
      rfl
    · show ((T.heap.toList.drop T.heap.size).map (·.slots.size)).sum ≤ 0
      rw [List.drop_eq_nil_of_le (Nat.le_of_eq Array.length_toList)]
      exact Nat.le_refl _
/-- 'throw new E()': new; dup; invokespecial; athrow -/
theorem vx_throw0 {cc : ByteArray} {pc : Nat} (hexec : p.tables.exec = Jvm.exec) (hb : c.code = cc) (hl : l.stackTraces = false) {own cls : String} {names : List String} {ik ic mc ms : Nat} {A : Nat → Prop}
    (hown : s.vm.findClass own = some m.cls) (hcls : Bundle.fit cls = true) (hnames : ∀ n ∈ names, Bundle.fit n = true)
    (hk : (Cond.classLink own ik cls).before args s = true) (hini : (Cond.initialized cls).before args s = true) (hat : ∀ w ∈ vx_at0 own ic cls names, w.before args s = true)
    (hgood : ∀ w ∈ Cond.classLink own ik cls :: Cond.initialized cls :: vx_at0 own ic cls names, vx_ot w = true)
    (hU : vx_Zq Bundle.tN "UNASSIGNED_STACK" Bundle.steD A s s.heap) (hN : vx_Zq Bundle.tN "SUPPRESSED_SENTINEL" Bundle.listD A s s.heap) (hS : va_S A s.heap H locs) (hsize : ls.size = c.maxLocals)
    (d0 : decode cc pc = .ok (.new ik, 3)) (d3 : decode cc (pc + 3) = .ok (.dup, 1)) (d4 : decode cc (pc + 4) = .ok (.invokespecial ic, 3)) (d7 : decode cc (pc + 7) = .ok (.athrow, 1))
    (hout : ∀ x ∈ c.exceptionTable.toList, covers x (pc + 7) = false)
    (hRframes : names.length + 3 < R.frames) (hRlocals : (rest.map fun v => v.category).sum + (13 * (names.length + 1) + 42) ≤ R.locals) (hRcells : cells + 1 ≤ R.cells) (hRslots : slots + 6 ≤ R.slots) (hlocks : meth.locks = false)
    (hx : ∀ t : State, s.vm.Alike t.vm → H.size ≤ t.heap.size → (∀ q : Nat, q < H.size → t.heap[q]? = H[q]?) → XC cls s t)
    (hf : ∀ z ∈ locs, free z.base) (hc : cells + 1 ≤ mc) (hs : slots + 6 ≤ ms) :
    W p l e R s m args below meth c H locs cells slots (vx_MQ below Qc XC args s mc ms free) (F0 m pc ls rest) := by
  intro T hT X
  have htr : e.platform.stackTraces = false := (show e.platform.stackTraces = l.stackTraces by rw [X.admits.platform]).trans hl
  have Y := vx_rebase X (R' := { frames := R.frames, locals := R.locals, cells := 1, slots := 6 }) (Nat.le_refl _) (Nat.le_refl _) hRcells hRslots
  obtain ⟨s', hA⟩ : ∃ z, z = (T.setVm s.vm).setFrames (.invoking m args :: below) := ⟨_, rfl⟩
  rw [← hA] at Y
  have hvm : s'.vm = s.vm := by rw [hA]; rfl
  have hhp : s'.heap = H := by rw [hA]; exact hT
  have hW0 : s.WarmedH s'.vm := by rw [hvm]; exact State.WarmedH.refl s
  have hat' : ∀ w ∈ vx_at0 own ic cls names, w.before args s' = true := fun w hw => vx_ot_at hW0 hvm.symm (hgood w (List.mem_cons_of_mem _ (List.mem_cons_of_mem _ hw))) (hat w hw)
  have hk' : (Cond.classLink own ik cls).before args s' = true := vx_ot_at hW0 hvm.symm (hgood _ List.mem_cons_self) hk
  have hini' : (Cond.initialized cls).before args s' = true := vx_ot_at hW0 hvm.symm (hgood _ (List.mem_cons_of_mem _ List.mem_cons_self)) hini
  have hU' : vx_Zq Bundle.tN "UNASSIGNED_STACK" Bundle.steD A s' s'.heap := by rw [hhp]; exact vx_Zq.moved hW0.alike (hU.kept hS.2.1)
  have hN' : vx_Zq Bundle.tN "SUPPRESSED_SENTINEL" Bundle.listD A s' s'.heap := by rw [hhp]; exact vx_Zq.moved hW0.alike (hN.kept hS.2.1)
  have h : ∀ w ∈ Bundle.ownAtoms0 own ic cls names, w.before args s' = true := vx_own hat' (vx_isRefq hU'.1) (vx_isRefq hN'.1) hU'.2.word hN'.2.word
  have hown' : s'.vm.findClass own = some m.cls := by rw [hvm]; exact hown
  have hins : (Cond.instantiable cls 6).before args s' = true := h _ (by simp [Bundle.ownAtoms0])
  obtain ⟨vm₁, cX, kX, hfX, hkX, -, -, X₁, st1⟩ := Y.newCold hexec (own := own) (C := cls) (index := ik) (n := 6) hown' hk' hins hini'
    (g := F0 m pc ls rest) rfl (by rw [hb]; exact d0) (Nat.le_refl _) (Nat.le_refl _)
  generalize hT1 : (T.setVm vm₁).pushCell { cls := cX, slots := kX.instanceTypes.map defaultValue, vm := .none } = T1 at X₁ st1
  have hcat : (Value.ref T.heap.size).category = 1 := rfl
  have hcellA : T1.heap[T.heap.size]? = some (freshCell cX kX) := by rw [← hT1]; exact State.heap_pushCell_size _ _
  have d3' : decode c.code (pc + 3) = .ok (.dup, 1) := by rw [hb]; exact d3
  obtain ⟨U, hsteps, hrun, hend, hW, hsame, ce, hce, hO⟩ := X₁.ctorThrow0 hexec htr (own := own) (cls := cls) (names := names) (ic := ic) hown' hcls hnames h (fun x hx => nomatch hx) hfX hkX hcellA (by rw [hhp, hT]; exact Nat.le_refl _)
    (g := { method := m, pc := pc + 4, locals := ls, stack := .ref T.heap.size :: .ref T.heap.size :: rest, locked := none }) rfl hsize rfl rfl (rest := rest) rfl
    (by rw [hb]; exact d4) (by rw [hb]; exact d7) hout hRframes (by simp only [List.map_cons, List.sum_cons, hcat]; omega) hlocks
  obtain ⟨f1, f2⟩ := vx_frame hsame
  rw [hhp] at f1 f2
  have hWs : s.WarmedH U.vm := State.WarmedH.trans hW0 hW
  have hcl : s.vm.findClass cls = some ce.cls := by
    have h9 := hO.cls
    rw [hvm] at h9
    exact h9
  have hall : s.sameButNew ({ U with vm := s.vm } : State) locs mc ms := by
    subst hA
    obtain ⟨e1, e2⟩ := hsame
    rw [State.setFrames_setFrames] at e1
    have h2 : (T.setVm s.vm).sameButNew ({ U with vm := s.vm } : State) [] (0 + 1) (0 + 6) := ⟨e1, e2⟩
    have h3 := X.same.trans h2
    rw [List.append_nil] at h3
    exact h3.mono hc hs
  refine ⟨U, ?_, .threw T.heap.size, hrun, hend, Or.inr ⟨T.heap.size, rfl, cls, ce, locs, hx U hWs.alike f1 (fun q hq => f2 q hq (fun z hz => nomatch hz)), hce, hO.vm, hcl, hWs, hall, hf⟩⟩
  refine st1 _ ?_
  show Steps p.tables e below (T1.setTop { method := m, pc := pc + 3, locals := ls, stack := .ref T.heap.size :: rest, locked := none }) _
  jvm_step X₁.here [X₁.here.top, hexec, d3', Value.category]
  exact hsteps
/-- 'throw new E("text")': new; dup; ldc; invokespecial; athrow -/
theorem vx_throwS {cc : ByteArray} {pc : Nat} (hexec : p.tables.exec = Jvm.exec) (hb : c.code = cc) (hl : l.stackTraces = false) {own cls text : String} {names : List String} {ik is ic mc ms sa : Nat} {A : Nat → Prop}
    (hown : s.vm.findClass own = some m.cls) (hcls : Bundle.fit cls = true) (hnames : ∀ n ∈ names, Bundle.fit n = true)
    (hk : (Cond.classLink own ik cls).before args s = true) (hini : (Cond.initialized cls).before args s = true) (hstr : vk_R own is text sa s) (hat : ∀ w ∈ vx_atS own ic cls names, w.before args s = true)
    (hgood : ∀ w ∈ Cond.classLink own ik cls :: Cond.initialized cls :: vx_atS own ic cls names, vx_ot w = true)
    (hU : vx_Zq Bundle.tN "UNASSIGNED_STACK" Bundle.steD A s s.heap) (hN : vx_Zq Bundle.tN "SUPPRESSED_SENTINEL" Bundle.listD A s s.heap) (hS : va_S A s.heap H locs) (hsize : ls.size = c.maxLocals)
    (d0 : decode cc pc = .ok (.new ik, 3)) (d3 : decode cc (pc + 3) = .ok (.dup, 1)) (d4 : decode cc (pc + 4) = .ok (.ldc is, 2)) (d6 : decode cc (pc + 6) = .ok (.invokespecial ic, 3)) (d9 : decode cc (pc + 9) = .ok (.athrow, 1))
    (hout : ∀ x ∈ c.exceptionTable.toList, covers x (pc + 9) = false)
    (hRframes : names.length + 3 < R.frames) (hRlocals : (rest.map fun v => v.category).sum + (13 * (names.length + 1) + 43) ≤ R.locals) (hRcells : cells + 1 ≤ R.cells) (hRslots : slots + 6 ≤ R.slots) (hlocks : meth.locks = false)
    (hx : ∀ t : State, s.vm.Alike t.vm → H.size ≤ t.heap.size → (∀ q : Nat, q < H.size → t.heap[q]? = H[q]?) → XC cls s t)
    (hf : ∀ z ∈ locs, free z.base) (hc : cells + 1 ≤ mc) (hs : slots + 6 ≤ ms) :
    W p l e R s m args below meth c H locs cells slots (vx_MQ below Qc XC args s mc ms free) (F0 m pc ls rest) := by
  intro T hT X
  have htr : e.platform.stackTraces = false := (show e.platform.stackTraces = l.stackTraces by rw [X.admits.platform]).trans hl
  have Y := vx_rebase X (R' := { frames := R.frames, locals := R.locals, cells := 1, slots := 6 }) (Nat.le_refl _) (Nat.le_refl _) hRcells hRslots
  obtain ⟨s', hA⟩ : ∃ z, z = (T.setVm s.vm).setFrames (.invoking m args :: below) := ⟨_, rfl⟩
  rw [← hA] at Y
  have hvm : s'.vm = s.vm := by rw [hA]; rfl
  have hhp : s'.heap = H := by rw [hA]; exact hT
  have hW0 : s.WarmedH s'.vm := by rw [hvm]; exact State.WarmedH.refl s
  have hat' : ∀ w ∈ vx_atS own ic cls names, w.before args s' = true := fun w hw => vx_ot_at hW0 hvm.symm (hgood w (List.mem_cons_of_mem _ (List.mem_cons_of_mem _ hw))) (hat w hw)
  have hk' : (Cond.classLink own ik cls).before args s' = true := vx_ot_at hW0 hvm.symm (hgood _ List.mem_cons_self) hk
  have hini' : (Cond.initialized cls).before args s' = true := vx_ot_at hW0 hvm.symm (hgood _ (List.mem_cons_of_mem _ List.mem_cons_self)) hini
  have hU' : vx_Zq Bundle.tN "UNASSIGNED_STACK" Bundle.steD A s' s'.heap := by rw [hhp]; exact vx_Zq.moved hW0.alike (hU.kept hS.2.1)
  have hN' : vx_Zq Bundle.tN "SUPPRESSED_SENTINEL" Bundle.listD A s' s'.heap := by rw [hhp]; exact vx_Zq.moved hW0.alike (hN.kept hS.2.1)
  have h : ∀ w ∈ Bundle.ownAtoms own ic cls names, w.before args s' = true := vx_own hat' (vx_isRefq hU'.1) (vx_isRefq hN'.1) hU'.2.word hN'.2.word
  have hown' : s'.vm.findClass own = some m.cls := by rw [hvm]; exact hown
  have hins : (Cond.instantiable cls 6).before args s' = true := h _ (by simp [Bundle.ownAtoms])
  obtain ⟨vm₁, cX, kX, hfX, hkX, -, -, X₁, st1⟩ := Y.newCold hexec (own := own) (C := cls) (index := ik) (n := 6) hown' hk' hins hini'
    (g := F0 m pc ls rest) rfl (by rw [hb]; exact d0) (Nat.le_refl _) (Nat.le_refl _)
  generalize hT1 : (T.setVm vm₁).pushCell { cls := cX, slots := kX.instanceTypes.map defaultValue, vm := .none } = T1 at X₁ st1
  have hcat : (Value.ref T.heap.size).category = 1 := rfl
  have hcellA : T1.heap[T.heap.size]? = some (freshCell cX kX) := by rw [← hT1]; exact State.heap_pushCell_size _ _
  have d3' : decode c.code (pc + 3) = .ok (.dup, 1) := by rw [hb]; exact d3
  have d4' : decode c.code (pc + 4) = .ok (.ldc is, 2) := by rw [hb]; exact d4
  have hstr' : vk_R own is text sa s' := vk_R.warm hW0 hstr
  obtain ⟨U, hsteps, hrun, hend, hW, hsame, ce, hce, hO⟩ := X₁.ctorThrowS hexec htr (own := own) (cls := cls) (names := names) (ic := ic) hown' hcls hnames h (fun x hx => nomatch hx) hfX hkX hcellA (by rw [hhp, hT]; exact Nat.le_refl _) (msg := .ref sa) rfl
    (g := { method := m, pc := pc + 6, locals := ls, stack := .ref sa :: .ref T.heap.size :: .ref T.heap.size :: rest, locked := none }) rfl hsize rfl rfl (rest := rest) rfl
    (by rw [hb]; exact d6) (by rw [hb]; exact d9) hout hRframes (by simp only [List.map_cons, List.sum_cons, hcat]; omega) hlocks
  obtain ⟨f1, f2⟩ := vx_frame hsame
  rw [hhp] at f1 f2
  have hWs : s.WarmedH U.vm := State.WarmedH.trans hW0 hW
  have hcl : s.vm.findClass cls = some ce.cls := by
    have h9 := hO.cls
    rw [hvm] at h9
    exact h9
  have hall : s.sameButNew ({ U with vm := s.vm } : State) locs mc ms := by
    subst hA
    obtain ⟨e1, e2⟩ := hsame
    rw [State.setFrames_setFrames] at e1
    have h2 : (T.setVm s.vm).sameButNew ({ U with vm := s.vm } : State) [] (0 + 1) (0 + 6) := ⟨e1, e2⟩
    have h3 := X.same.trans h2
    rw [List.append_nil] at h3
    exact h3.mono hc hs
  refine ⟨U, ?_, .threw T.heap.size, hrun, hend, Or.inr ⟨T.heap.size, rfl, cls, ce, locs, hx U hWs.alike f1 (fun q hq => f2 q hq (fun z hz => nomatch hz)), hce, hO.vm, hcl, hWs, hall, hf⟩⟩
  refine st1 _ ?_
  show Steps p.tables e below (T1.setTop { method := m, pc := pc + 3, locals := ls, stack := .ref T.heap.size :: rest, locked := none }) _
  jvm_step X₁.here [X₁.here.top, hexec, d3', Value.category]
  exact X₁.ldcString hexec (own := own) (text := text) (index := is) (a := sa) hown' hstr'.1 hstr'.2
    (g := { method := m, pc := pc + 4, locals := ls, stack := .ref T.heap.size :: .ref T.heap.size :: rest, locked := none }) rfl d4' _ hsteps
/-- 'throw new E("text")', the text by a wide index -/
theorem vx_throwSW {cc : ByteArray} {pc : Nat} (hexec : p.tables.exec = Jvm.exec) (hb : c.code = cc) (hl : l.stackTraces = false) {own cls text : String} {names : List String} {ik is ic mc ms sa : Nat} {A : Nat → Prop}
    (hown : s.vm.findClass own = some m.cls) (hcls : Bundle.fit cls = true) (hnames : ∀ n ∈ names, Bundle.fit n = true)
    (hk : (Cond.classLink own ik cls).before args s = true) (hini : (Cond.initialized cls).before args s = true) (hstr : vk_R own is text sa s) (hat : ∀ w ∈ vx_atS own ic cls names, w.before args s = true)
    (hgood : ∀ w ∈ Cond.classLink own ik cls :: Cond.initialized cls :: vx_atS own ic cls names, vx_ot w = true)
    (hU : vx_Zq Bundle.tN "UNASSIGNED_STACK" Bundle.steD A s s.heap) (hN : vx_Zq Bundle.tN "SUPPRESSED_SENTINEL" Bundle.listD A s s.heap) (hS : va_S A s.heap H locs) (hsize : ls.size = c.maxLocals)
    (d0 : decode cc pc = .ok (.new ik, 3)) (d3 : decode cc (pc + 3) = .ok (.dup, 1)) (d4 : decode cc (pc + 4) = .ok (.ldc_w is, 3)) (d7 : decode cc (pc + 7) = .ok (.invokespecial ic, 3)) (d10 : decode cc (pc + 10) = .ok (.athrow, 1))
    (hout : ∀ x ∈ c.exceptionTable.toList, covers x (pc + 10) = false)
    (hRframes : names.length + 3 < R.frames) (hRlocals : (rest.map fun v => v.category).sum + (13 * (names.length + 1) + 43) ≤ R.locals) (hRcells : cells + 1 ≤ R.cells) (hRslots : slots + 6 ≤ R.slots) (hlocks : meth.locks = false)
    (hx : ∀ t : State, s.vm.Alike t.vm → H.size ≤ t.heap.size → (∀ q : Nat, q < H.size → t.heap[q]? = H[q]?) → XC cls s t)
    (hf : ∀ z ∈ locs, free z.base) (hc : cells + 1 ≤ mc) (hs : slots + 6 ≤ ms) :
    W p l e R s m args below meth c H locs cells slots (vx_MQ below Qc XC args s mc ms free) (F0 m pc ls rest) := by
  intro T hT X
  have htr : e.platform.stackTraces = false := (show e.platform.stackTraces = l.stackTraces by rw [X.admits.platform]).trans hl
  have Y := vx_rebase X (R' := { frames := R.frames, locals := R.locals, cells := 1, slots := 6 }) (Nat.le_refl _) (Nat.le_refl _) hRcells hRslots
  obtain ⟨s', hA⟩ : ∃ z, z = (T.setVm s.vm).setFrames (.invoking m args :: below) := ⟨_, rfl⟩
  rw [← hA] at Y
  have hvm : s'.vm = s.vm := by rw [hA]; rfl
  have hhp : s'.heap = H := by rw [hA]; exact hT
  have hW0 : s.WarmedH s'.vm := by rw [hvm]; exact State.WarmedH.refl s
  have hat' : ∀ w ∈ vx_atS own ic cls names, w.before args s' = true := fun w hw => vx_ot_at hW0 hvm.symm (hgood w (List.mem_cons_of_mem _ (List.mem_cons_of_mem _ hw))) (hat w hw)
  have hk' : (Cond.classLink own ik cls).before args s' = true := vx_ot_at hW0 hvm.symm (hgood _ List.mem_cons_self) hk
  have hini' : (Cond.initialized cls).before args s' = true := vx_ot_at hW0 hvm.symm (hgood _ (List.mem_cons_of_mem _ List.mem_cons_self)) hini
  have hU' : vx_Zq Bundle.tN "UNASSIGNED_STACK" Bundle.steD A s' s'.heap := by rw [hhp]; exact vx_Zq.moved hW0.alike (hU.kept hS.2.1)
  have hN' : vx_Zq Bundle.tN "SUPPRESSED_SENTINEL" Bundle.listD A s' s'.heap := by rw [hhp]; exact vx_Zq.moved hW0.alike (hN.kept hS.2.1)
  have h : ∀ w ∈ Bundle.ownAtoms own ic cls names, w.before args s' = true := vx_own hat' (vx_isRefq hU'.1) (vx_isRefq hN'.1) hU'.2.word hN'.2.word
  have hown' : s'.vm.findClass own = some m.cls := by rw [hvm]; exact hown
  have hins : (Cond.instantiable cls 6).before args s' = true := h _ (by simp [Bundle.ownAtoms])
  obtain ⟨vm₁, cX, kX, hfX, hkX, -, -, X₁, st1⟩ := Y.newCold hexec (own := own) (C := cls) (index := ik) (n := 6) hown' hk' hins hini'
    (g := F0 m pc ls rest) rfl (by rw [hb]; exact d0) (Nat.le_refl _) (Nat.le_refl _)
  generalize hT1 : (T.setVm vm₁).pushCell { cls := cX, slots := kX.instanceTypes.map defaultValue, vm := .none } = T1 at X₁ st1
  have hcat : (Value.ref T.heap.size).category = 1 := rfl
  have hcellA : T1.heap[T.heap.size]? = some (freshCell cX kX) := by rw [← hT1]; exact State.heap_pushCell_size _ _
  have d3' : decode c.code (pc + 3) = .ok (.dup, 1) := by rw [hb]; exact d3
  have d4' : decode c.code (pc + 4) = .ok (.ldc_w is, 3) := by rw [hb]; exact d4
  have hstr' : vk_R own is text sa s' := vk_R.warm hW0 hstr
  obtain ⟨U, hsteps, hrun, hend, hW, hsame, ce, hce, hO⟩ := X₁.ctorThrowS hexec htr (own := own) (cls := cls) (names := names) (ic := ic) hown' hcls hnames h (fun x hx => nomatch hx) hfX hkX hcellA (by rw [hhp, hT]; exact Nat.le_refl _) (msg := .ref sa) rfl
    (g := { method := m, pc := pc + 7, locals := ls, stack := .ref sa :: .ref T.heap.size :: .ref T.heap.size :: rest, locked := none }) rfl hsize rfl rfl (rest := rest) rfl
    (by rw [hb]; exact d7) (by rw [hb]; exact d10) hout hRframes (by simp only [List.map_cons, List.sum_cons, hcat]; omega) hlocks
  obtain ⟨f1, f2⟩ := vx_frame hsame
  rw [hhp] at f1 f2
  have hWs : s.WarmedH U.vm := State.WarmedH.trans hW0 hW
  have hcl : s.vm.findClass cls = some ce.cls := by
    have h9 := hO.cls
    rw [hvm] at h9
    exact h9
  have hall : s.sameButNew ({ U with vm := s.vm } : State) locs mc ms := by
    subst hA
    obtain ⟨e1, e2⟩ := hsame
    rw [State.setFrames_setFrames] at e1
    have h2 : (T.setVm s.vm).sameButNew ({ U with vm := s.vm } : State) [] (0 + 1) (0 + 6) := ⟨e1, e2⟩
    have h3 := X.same.trans h2
    rw [List.append_nil] at h3
    exact h3.mono hc hs
  refine ⟨U, ?_, .threw T.heap.size, hrun, hend, Or.inr ⟨T.heap.size, rfl, cls, ce, locs, hx U hWs.alike f1 (fun q hq => f2 q hq (fun z hz => nomatch hz)), hce, hO.vm, hcl, hWs, hall, hf⟩⟩
  refine st1 _ ?_
  show Steps p.tables e below (T1.setTop { method := m, pc := pc + 3, locals := ls, stack := .ref T.heap.size :: rest, locked := none }) _
  jvm_step X₁.here [X₁.here.top, hexec, d3', Value.category]
  exact X₁.ldcStringW hexec (own := own) (text := text) (index := is) (a := sa) hown' hstr'.1 hstr'.2
    (g := { method := m, pc := pc + 4, locals := ls, stack := .ref T.heap.size :: .ref T.heap.size :: rest, locked := none }) rfl d4' _ hsteps
end Ends
section Bodies
variable {l : Launch}
theorem vx_ofW {y : MethodName} {ws ws' : List Cond} {rm : Room} {Pc : Array Value → State → Prop} {Qc : Array Value → State → Outcome → State → Prop} {XC : String → State → State → Prop} {mc ms : Nat} {free : Addr → Prop} {cc : ByteArray} {maxL : Nat} {ret : Option FieldType}
    (hy : plainName y.cls = true) (hw : ws = Cond.code y cc maxL ret :: ws')
    (body : ∀ p e s m args below meth c s₁, BodyLoose p l y (headSpec ws rm) cc maxL ret e s m args below meth c s₁ → c.maxLocals = maxL → (∀ x ∈ c.exceptionTable.toList, False) → Pc args s →
      W p l e (headSpec ws rm).room s m args below meth c s.heap [] 0 0 (vx_MQ below Qc XC args s mc ms free) (entryFrame m args maxL)) : vx_Met l y ws rm Pc Qc XC mc ms free := by
  refine MetFree.of_bodyS (code := cc) (maxLocals := maxL) (ret := ret) hy ?_ ?_
  · intro args s m h hn
    obtain ⟨meth, c, h1, h2, h3, h4, h5, h6, -, -⟩ := Cond.code_spec hn (atoms_spec (ws := ws) h _ (by rw [hw]; exact List.mem_cons_self))
    exact ⟨meth, c, h1, h2, h3, h4, h5, h6⟩
  · intro p e s m args below meth c s₁ B hml hP _
    have hh0 : s₁.heap = s.heap := by rw [B.state]; rfl
    have ht : ∀ x ∈ c.exceptionTable.toList, False := by
      obtain ⟨meth9, c9, h1, h2, -, -, -, -, h7, -⟩ := Cond.code_spec B.named (atoms_spec (ws := ws) B.pre _ (by rw [hw]; exact List.mem_cons_self))
      cases Option.some.inj (h1.symm.trans B.method)
      cases Option.some.inj (h2.symm.trans (Stand.of_body B).code)
      intro x hx
      rw [Array.isEmpty_iff.mp h7] at hx
      cases hx
    obtain ⟨t, a1, o, b1, b2, b3⟩ := body p e s m args below meth c s₁ B hml ht hP s₁ hh0 (Stand.of_body B)
    exact ⟨t, o, a1, b1, b2, b3⟩
/-- the table of a body with handlers -/
theorem vx_table {p : Program} {x y : MethodName} {S : Spec} {cc bytes : ByteArray} {maxL maxL' : Nat} {ret ret' : Option FieldType} {e : Env} {s s₁ : State} {m : MethodId} {args : Array Value} {below : List Frame} {meth : Method} {c : Code} {hh : List (Nat × Nat × Nat × Nat)}
    (B : BodyLoose p l y S cc maxL ret e s m args below meth c s₁) (h : (Cond.codeWith y bytes maxL' ret' hh).before args s = true) : c.exceptionTable.toList = tableOf hh := by
  obtain ⟨m9, meth9, c9, hn9, h1, h2, -, -, h6, -⟩ := Cond.codeWith_spec h
  cases Option.some.inj (hn9.symm.trans B.named)
  cases Option.some.inj (h1.symm.trans B.method)
  cases Option.some.inj (h2.symm.trans (Stand.of_body B).code)
  rw [← h6, table_eq]
end Bodies
end VXA
/-! ===== END ===== -/
/-! ===== BEGIN a static call of a method with an exception table ===== -/
section VXS
variable {p : Program} {l : Launch} {e : Env} {R : Room} {s : State} {m : MethodId} {args : Array Value} {below : List Frame} {meth : Method} {c : Code} {T : State} {H : Heap} {locs : List Loc} {cells slots : Nat}
abbrev vx_CSW (R : Room) (s : State) (args : Array Value) (own : String) (index : Nat) (y : MethodName) (bytes : ByteArray) (maxL : Nat) (ret : Option FieldType) (hh : List (Nat × Nat × Nat × Nat)) (ws : List Cond) (rm : Room) (mc ms n : Nat) : Prop :=
  (rm.cells = mc ∧ rm.slots = ms ∧ rm.frames + 1 ≤ R.frames ∧ 8 + (maxL + 11) + rm.locals ≤ R.locals ∧ (∀ w ∈ ws, ∀ (a' : Array Value) (U : State), s.WarmedH U.vm → w.before a' U = true) ∧ Cond.codeWith y bytes maxL ret hh ∈ ws) ∧
  (Cond.codeWith y bytes maxL ret hh).before args s = true ∧ (Cond.initialized y.cls).before args s = true ∧ (y.cls ≠ "java/lang/invoke/MethodHandle" ∧ y.cls ≠ "java/lang/invoke/VarHandle") ∧
  (∀ sig, parseMethodDescriptor y.desc = some sig → n = sig.parameters.length) ∧ (Cond.methodLink own index y).before args s = true ∧ (Cond.static y).before args s = true
theorem vx_cwSW {own : String} {index maxL mc ms : Nat} {y : MethodName} {bytes : ByteArray} {ret : Option FieldType} {hh : List (Nat × Nat × Nat × Nat)} {Ts ws ws' : List Cond} {rm : Room} (n : Nat) (ht : ∀ w ∈ Ts, w.before args s = true) (hT : GoodIn Ts (va_wsS own index y ws)) (hw : ws = Cond.codeWith y bytes maxL ret hh :: ws') (hrc : rm.cells = mc) (hrs : rm.slots = ms)
    (hd : y.cls ≠ "java/lang/invoke/MethodHandle" ∧ y.cls ≠ "java/lang/invoke/VarHandle" ∧ (parseMethodDescriptor y.desc).map (fun d => d.parameters.length) = some n) (hR : rm.frames + 1 ≤ R.frames ∧ 8 + (maxL + 11) + rm.locals ≤ R.locals) :
    vx_CSW R s args own index y bytes maxL ret hh ws rm mc ms n := by
  have ok : ∀ w ∈ va_wsS own index y ws, w.before args s = true := fun w h => ht w (hT w h).1
  have hG : GoodIn Ts ws := fun w h => hT w (by unfold va_wsS; exact List.mem_append_right _ h)
  have hc : Cond.codeWith y bytes maxL ret hh ∈ ws := by rw [hw]; exact List.mem_cons_self
  refine ⟨⟨hrc, hrs, hR.1, hR.2, pay_in ht hG, hc⟩, ht _ (hG _ hc).1, ok _ (by simp [va_wsS]), ⟨hd.1, hd.2.1⟩, fun sig h => ?_, ok _ (by simp [va_wsS]), ok _ (by simp [va_wsS])⟩
  have h2 := hd.2.2
  rw [h] at h2
  exact (Option.some.inj h2).symm
theorem vx_callSW (X : Stand p l e R s m args below meth c T locs cells slots) (hexec : p.tables.exec = Jvm.exec) {own : String} {index : Nat} {y : MethodName} {bytes : ByteArray} {maxL : Nat} {ret : Option FieldType} {hh : List (Nat × Nat × Nat × Nat)}
    (hown : s.vm.findClass own = some m.cls) (hlink : (Cond.methodLink own index y).before args s = true) (hstat : (Cond.static y).before args s = true) (hinit : (Cond.initialized y.cls).before args s = true)
    (hcode : (Cond.codeWith y bytes maxL ret hh).before args s = true) (hy : y.cls ≠ "java/lang/invoke/MethodHandle" ∧ y.cls ≠ "java/lang/invoke/VarHandle")
    {W9 : Nat} {Pre : Pt → Array Value → Prop} {Post : Pt → Array Value → Option Value → Pt → Prop} (hK : Back l R p e below s args y 3 W9 Pre Post)
    {g : JFrame} (hg : g.method = m) (hsize : g.locals.size = c.maxLocals) {argsL rest : List Value} (hlen : ∀ sig, parseMethodDescriptor y.desc = some sig → argsL.length = sig.parameters.length)
    (hstack : g.stack = argsL.reverse ++ rest) (hW : 2 * g.monitorRoom + (rest.map fun v => v.category).sum ≤ W9) (hdg : decode c.code g.pc = .ok (.invokestatic index, 3))
    (hpre : ∀ vm₁, s.WarmedH vm₁ → Pre ⟨T.setVm vm₁, locs, cells, slots⟩ argsL.toArray) :
    ∃ (v : Option Value) (vm₁ : Vm) (B : Pt), s.WarmedH vm₁ ∧ Stand p l e R s m args below meth c B.U B.locs B.cells B.slots ∧ Post ⟨T.setVm vm₁, locs, cells, slots⟩ argsL.toArray v B ∧
      ∀ target, Steps p.tables e below (B.U.setTop { g with pc := g.pc + 3, stack := v.toList ++ rest }) target → Steps p.tables e below (T.setTop g) target := by
  obtain ⟨mk, methM, cM, hnamed, hmethM, -, -, -, -, -, -, hsigM⟩ := Cond.codeWith_spec hcode
  have hstatic : methM.isStatic = true := Cond.static_spec hnamed hmethM hstat
  obtain ⟨kP, hkP, -⟩ := className_of_methodNamed hnamed
  have hinitP : kP.init = .initialized := Cond.initialized_spec (findClass_of_methodNamed hnamed) hkP hinit
  obtain ⟨vm₁, X₁, hstep₁⟩ := X.invokestatic hexec hown hlink hnamed hmethM hstatic hkP hinitP hy (g := g) hg (argsL := argsL) (rest := rest) (hlen _ hsigM) hstack hdg
  obtain ⟨v, B, X', hpost, hsteps⟩ := hK m meth c ⟨T.setVm vm₁, locs, cells, slots⟩ { g with stack := rest } (.invokestatic index) mk argsL.toArray X₁ hg hsize hdg hW (X₁.named hnamed) (hpre vm₁ X₁.warmed)
  exact ⟨v, vm₁, B, X₁.warmed, X', hpost, fun target h => hstep₁ _ fun acts => by rw [doInvoke_state]; exact hsteps.trans h⟩
theorem vx_runSW {y : MethodName} {bytes cc : ByteArray} {maxL nL mc ms n index : Nat} {ret : Option FieldType} {hh : List (Nat × Nat × Nat × Nat)} {ws : List Cond} {rm : Room} {Pc : Array Value → State → Prop} {Qc : Array Value → State → Outcome → State → Prop} {free : Addr → Prop} {Ts : List Cond} {own : String} {As rest : List Value} {g : JFrame}
    (S : CallFix p m c cc nL s args Ts own) (hM : Met l y ws rm Pc Qc mc ms free) (cw : vx_CSW R s args own index y bytes maxL ret hh ws rm mc ms n) (hp : PreS s H Pc As)
    (hg : g.method = m) (hn : As.length = n) (hsize : g.locals.size = nL) (hstack : g.stack = As.reverse ++ rest) (hW : 2 * g.monitorRoom + (rest.map fun v => v.category).sum ≤ 8) (hdg : decode cc g.pc = .ok (.invokestatic index, 3)) (hf : cells + mc ≤ R.cells ∧ slots + ms ≤ R.slots) :
    va_Run p l e R s m args below meth c H locs cells slots mc ms g rest (Qc As.toArray) (free) := by
  obtain ⟨⟨hrc, hrs, hfr, hlo, hws, hcw⟩, hcode, hini, hy, hlen, hl, hstt⟩ := cw
  have hK : Back l R p e below s args y 3 8 (PreOf R mc ms Pc) (PostOf Qc mc ms free) := va_backW (hh := hh) (bytes := bytes) (maxL := maxL) (ret := ret) hM hp.1 hrc hrs hfr hlo hws hcw (fun a' U hW => word_at hW (Or.inl (by first | rfl | simp [Cond.onTables, Cond.keeps, Cond.steady])) hini)
  obtain ⟨hx, hb, hml, ho, -⟩ := S
  intro T hT X
  obtain ⟨v, vm₁, ⟨U', l2, c2, s2⟩, hW₁, X', ⟨g', mk, t, L, e1, e2, hq, h1, hL, h2, h3⟩, st⟩ := vx_callSW X hx (hh := hh) (bytes := bytes) (maxL := maxL) (ret := ret) ho hl hstt hini hcode hy hK hg (hsize.trans hml.symm) (argsL := As) (rest := rest) (fun sig h => hn.trans (hlen sig h)) hstack hW (by rw [hb]; exact hdg)
    (fun vm₁ hW₁ => ⟨hf.1, hf.2, hp.2 (T.setVm vm₁) hT hW₁⟩)
  dsimp only [Pt.U, Pt.locs, Pt.cells, Pt.slots] at X' e1 e2 h1 h2 h3 st
  subst h1; subst h2; subst h3
  exact ⟨v, (T.setVm vm₁).calling g' mk As.toArray, t, U', L, hT, X', hL, e1, e2, hq, st⟩
/-- not caught here, past rows that name other classes: it goes on to the caller -/
theorem vx_outP {p : Program} {l : Launch} {e : Env} {R : Room} {s : State} {m : MethodId} {args : Array Value} {below : List Frame} {meth : Method} {c : Code} {H : Heap} {locs : List Loc} {cells slots : Nat} {free : Addr → Prop} {ls : Array Slot} {rest : List Value} {Qc : Array Value → State → Outcome → State → Prop} {XC : String → State → State → Prop}
    {pc : Nat} {own E : String} {ce : Cell} {q : Addr} {mc ms : Nat} (hown : s.vm.findClass own = some m.cls) (hlocks : meth.locks = false)
    (hpass : ∀ z ∈ c.exceptionTable.toList, covers z pc = false ∨ (z.catchType ≠ 0 ∧ ∃ nm : String, (Cond.classLink own z.catchType nm).before args s = true ∧ va_Nc E nm s)) (hcell : H[q]? = some ce) (hv : ce.vm = .none) (hcl : s.vm.findClass E = some ce.cls)
    (hx : ∀ t : State, t.heap = H → s.vm.Alike t.vm → XC E s t) (hf : ∀ z ∈ locs, free z.base) (hc : cells ≤ mc) (hs : slots ≤ ms) :
    vx_W p l e R s m args below meth c H locs cells slots (vx_MQ below Qc XC args s mc ms free) (F0 m pc ls rest) q := by
  intro T hT X
  have hpl : e.platform.magicAccessors = ({} : Platform).magicAccessors := by rw [X.admits.platform]
  obtain ⟨vm', hW', X', st⟩ := X.outThrough hlocks q (g := F0 m pc ls rest) rfl rfl rfl (cell := ce) (by rw [hT]; exact hcell) (by rw [hv]; rfl)
    (by obtain ⟨k9, h9, -⟩ := Vm.findClass_spec hcl; exact ⟨k9, h9⟩) (fun z hz => by
      rcases hpass z hz with h | ⟨hz0, nm, hl1, hn1⟩
      · exact Or.inl h
      · obtain ⟨c6, hc6, hcl6⟩ := Cond.classLink_spec hown hl1 e.platform hpl
        obtain ⟨a8, b8, h1, h2, h3⟩ := hn1
        cases Option.some.inj (h1.symm.trans hcl)
        cases Option.some.inj (h2.symm.trans hc6)
        exact Or.inr ⟨hz0, _, hcl6, h3⟩)
  obtain ⟨g₀, hfr⟩ := X'.frames_eq
  have hcell9 : ((T.setVm vm').setFrames (.throwing q :: below)).heap[q]? = some ce := by
    show T.heap[q]? = some ce
    rw [hT]; exact hcell
  have hend : Ended ((T.setVm vm').setFrames (.throwing q :: below)) below (.threw q) := State.frames_setFrames _ (State.cur_lt_of_frames hfr)
  refine ⟨(T.setVm vm').setFrames (.throwing q :: below), ?_, .threw q, X'.here.running, hend, Or.inr ⟨q, rfl, E, ce, locs, hx _ hT (X'.ends _).1.alike, hcell9, hv, hcl, (X'.ends _).1, (X'.ends _).2.mono hc hs, hf⟩⟩
  rw [X.pushThrowing_eq]
  exact st
/-- a thing of a world lies in the heap -/
theorem vx_lt {D : va_G} {cl : List vw_C} {ws : va_W} {H1 : Heap} (h : va_P D cl ws H1) {k : Nat} {q : Nat × va_E} (hk : ws[k]? = some q) : q.1 < H1.size := (h k q hk).lt
end VXS
/-! ===== END ===== -/
/-! ===== BEGIN methods with a table of their own: called by a name, returning or throwing ===== -/
section VXH
/-! vx_backW, vx_callVX, vx_callSX, vx_callVW, vx_runVW, vx_runVX, vx_runSX, vx_ofWH follow the same proofs as their sisters above (Free/Laws.lean, Shelf42/LK1.lean); vx_outP calls Shelf42/NT130.lean (outThrough). -/
section
variable {l : Launch} {R : Room} {p : Program} {e : Env} {below : List Frame} {s : State} {sargs : Array Value} {y : MethodName} {len W9 : Nat}
theorem vx_backW {ws : List Cond} {rm : Room} {Pc : Array Value → State → Prop} {Qc : Array Value → State → Outcome → State → Prop} {XC : String → State → State → Prop} {mc ms : Nat} {free : Addr → Prop} {bytes : ByteArray} {maxL : Nat} {ret : Option FieldType} {hh : List (Nat × Nat × Nat × Nat)}
    (hM : vx_Met l y ws rm Pc Qc XC mc ms free) (hblind : FrameBlind Pc) (hrc : rm.cells = mc) (hrs : rm.slots = ms)
    (hframes : rm.frames + 1 ≤ R.frames) (hlocals : W9 + (maxL + 11) + rm.locals ≤ R.locals)
    (hws : ∀ w ∈ ws, ∀ a' U, s.WarmedH U.vm → w.before a' U = true) (hcode : Cond.codeWith y bytes maxL ret hh ∈ ws) (hinit : ∀ a' U, s.WarmedH U.vm → (Cond.initialized y.cls).before a' U = true) :
    vx_Back l R p e below s sargs y len W9 (PreOf R mc ms Pc) (PostOf Qc mc ms free) (vx_Post XC mc ms free) := by
  intro m meth c A g ig mk a X hg hsize hdg hW hn hp
  have h1 : (headSpec ws rm).pre.before a A.U = true := atoms_intro fun w hw => hws w hw _ _ X.warmed
  have h2 : (Cond.codeWith y bytes maxL ret hh).before a A.U = true := hws _ hcode _ _ X.warmed
  have h3 : (Cond.initialized y.cls).before a A.U = true := hinit _ _ X.warmed
  have h4 : A.cells + (headSpec ws rm).room.cells ≤ R.cells := by rw [show (headSpec ws rm).room.cells = mc from hrc]; exact hp.1
  have h5 : A.slots + (headSpec ws rm).room.slots ≤ R.slots := by rw [show (headSpec ws rm).room.slots = ms from hrs]; exact hp.2.1
  have hPc : Pc a (A.U.calling g mk a) := hblind _ _ _ _ hp.2.2
  obtain ⟨U, Ls, c0, s0⟩ := A
  dsimp only [Pt.U, Pt.locs, Pt.cells, Pt.slots] at h1 h2 h3 h4 h5 X hn hPc ⊢
  obtain ⟨m9, methY, cY, hn9, hmY, hcY, -, hlY, -⟩ := Cond.codeWith_spec h2
  cases Option.some.inj (hn9.symm.trans hn)
  obtain ⟨kY, hkY, -⟩ := className_of_methodNamed hn
  have hinitY : kY.init = .initialized := Cond.initialized_spec (findClass_of_methodNamed hn) hkY h3
  have h : At U g.method c below := by rw [hg]; exact X.here
  have hlocals9 : W9 + (maxL + 11) + (headSpec ws rm).room.locals ≤ R.locals := hlocals
  have happ : (headSpec ws rm).appliesLoose y e.platform (U.calling g mk a) = true :=
    Spec.appliesLoose_calling (g := g) h hdg hn hkY hinitY
      (X.room_calling (g := g) (R' := (headSpec ws rm).room) hsize hmY hcY hframes (by rw [hlY]; omega) h4 h5) h1
  obtain ⟨mid, hmid⟩ := h.above
  have hfr : (U.setTop g).frames = (.java g :: mid) ++ below := by rw [State.frames_setTop' g h.top, hmid]; rfl
  obtain ⟨o, s₂, hsteps, -, hend, hq⟩ := Steps.callFree hM p X.admits X.cas X.clock (acts := []) hfr happ hPc trivial
  have hq' : vx_Q Qc XC mc ms free a (U.calling g mk a) o s₂ := hq
  rw [State.frames_setTop' g h.top] at hend
  obtain ⟨g₀, hg0⟩ := Option.isSome_iff_exists.mp h.top
  obtain ⟨r, hr⟩ := State.topJava?_eq_some.mp hg0
  have hr' : (({ U with heap := s₂.heap, slotsUsed := s₂.slotsUsed } : State).setVm s₂.vm).frames = .java g₀ :: r := hr
  rcases hq' with ⟨hqc, L, hfe, hL⟩ | ⟨q, rfl, E, ce, L, hx, hce, hcv, hcl, hW₂, hsm, hL⟩
  · obtain ⟨⟨v, rfl⟩, hW₂, e2, q2, q3, q4, q5, q6⟩ := id hfe
    have e3 : s₂ = ({ (U.calling g mk a).setFrames s₂.frames with heap := s₂.heap, slotsUsed := s₂.slotsUsed } : State).setVm s₂.vm := by
      have : s₂ = ({ s₂ with vm := (U.calling g mk a).vm } : State).setVm s₂.vm := rfl
      rw [e2] at this
      exact this
    obtain ⟨c₂, i₂, len₂, hc₂, hd₂, hf₂⟩ := hend
    have hW' : U.WarmedH s₂.vm := hW₂
    have hcc : c₂ = c := by
      have h1 : s₂.code? g.method = U.code? g.method := by
        rw [State.code?_eq, State.code?_eq, hW'.alike.method?]
      exact Option.some.inj (hc₂.symm.trans (h1.trans h.code))
    subst hcc
    have hlen : len₂ = len := by rw [hdg] at hd₂; cases hd₂; rfl
    subst hlen
    have hs₂ : s₂ = (({ U with heap := s₂.heap, slotsUsed := s₂.slotsUsed } : State).setVm s₂.vm).setTop { g with pc := g.pc + len₂, stack := v.toList ++ g.stack } := by
      refine e3.trans ?_
      rw [hf₂, State.calling_eq h.top, State.setFrames_setFrames, State.setTop_of_frames _ hr', hr]
      rfl
    have hsame : U.sameButNew ({ U with heap := s₂.heap, slotsUsed := s₂.slotsUsed } : State) L mc ms := by
      refine ⟨?_, q2, q3, q4, q5, q6⟩
      obtain ⟨t, ht, -⟩ := State.frames_cons hr
      show ({ U with heap := s₂.heap, slotsUsed := s₂.slotsUsed } : State) = { U.setFrames U.frames with heap := s₂.heap, slotsUsed := s₂.slotsUsed }
      rw [State.setFrames_self ht]
    subst hg
    refine Or.inl ⟨v, ⟨(({ U with heap := s₂.heap, slotsUsed := s₂.slotsUsed } : State).setVm s₂.vm), Ls ++ L, c0 + mc, s0 + ms⟩,
      ⟨X.admits, X.cas, X.clock, X.frames, X.room, X.hears, X.method, X.code, (X.here.setHeapUsed s₂.heap s₂.slotsUsed).setVm hW'.alike, X.tail, State.WarmedH.trans X.warmed hW', X.limits, X.bytes, X.same.trans (hsame.setVm s.vm)⟩,
      ⟨g, mk, s₂, L, rfl, rfl, hqc, rfl, hL, rfl, rfl⟩, ?_⟩
    show Steps p.tables e below _ ((({ U with heap := s₂.heap, slotsUsed := s₂.slotsUsed } : State).setVm s₂.vm).setTop { g with pc := g.pc + len₂, stack := v.toList ++ g.stack })
    rw [← hs₂]
    exact hsteps
  · obtain ⟨e2, q2, q3, q4, q5, q6⟩ := id hsm
    have e3 : s₂ = ({ (U.calling g mk a).setFrames s₂.frames with heap := s₂.heap, slotsUsed := s₂.slotsUsed } : State).setVm s₂.vm := by
      have : s₂ = ({ s₂ with vm := (U.calling g mk a).vm } : State).setVm s₂.vm := rfl
      rw [e2] at this
      exact this
    have hf₂ : s₂.frames = .throwing q :: .java g :: U.frames.tail := hend
    have hW' : U.WarmedH s₂.vm := hW₂
    have hs₂ : s₂ = ((({ U with heap := s₂.heap, slotsUsed := s₂.slotsUsed } : State).setVm s₂.vm).setTop g).pushFrame (.throwing q) := by
      refine e3.trans ?_
      rw [hf₂, State.calling_eq h.top, State.setFrames_setFrames, State.pushFrame, State.frames_setTop _ hr', State.setTop_of_frames _ hr', State.setFrames_setFrames, hr]
      rfl
    have hsame : U.sameButNew ({ U with heap := s₂.heap, slotsUsed := s₂.slotsUsed } : State) L mc ms := by
      refine ⟨?_, q2, q3, q4, q5, q6⟩
      obtain ⟨t, ht, -⟩ := State.frames_cons hr
      show ({ U with heap := s₂.heap, slotsUsed := s₂.slotsUsed } : State) = { U.setFrames U.frames with heap := s₂.heap, slotsUsed := s₂.slotsUsed }
      rw [State.setFrames_self ht]
    subst hg
    refine Or.inr ⟨q, ⟨(({ U with heap := s₂.heap, slotsUsed := s₂.slotsUsed } : State).setVm s₂.vm), Ls ++ L, c0 + mc, s0 + ms⟩,
      ⟨X.admits, X.cas, X.clock, X.frames, X.room, X.hears, X.method, X.code, (X.here.setHeapUsed s₂.heap s₂.slotsUsed).setVm hW'.alike, X.tail, State.WarmedH.trans X.warmed hW', X.limits, X.bytes, X.same.trans (hsame.setVm s.vm)⟩,
      ⟨g, mk, s₂, L, E, ce, rfl, rfl, hx, hce, hcv, hcl, rfl, hL, rfl, rfl⟩, ?_⟩
    show Steps p.tables e below _ (((({ U with heap := s₂.heap, slotsUsed := s₂.slotsUsed } : State).setVm s₂.vm).setTop g).pushFrame (.throwing q))
    rw [← hs₂]
    exact hsteps
end
variable {p : Program} {l : Launch} {e : Env} {R : Room} {s : State} {m : MethodId} {args : Array Value} {below : List Frame} {meth : Method} {c : Code} {T : State} {H : Heap} {locs : List Loc} {cells slots : Nat}
theorem vx_callVX (X : Stand p l e R s m args below meth c T locs cells slots) (hexec : p.tables.exec = Jvm.exec) {own C : String} {index : Nat} {y : MethodName} {bytes : ByteArray} {maxL : Nat} {ret : Option FieldType} {hh : List (Nat × Nat × Nat × Nat)}
    (hown : s.vm.findClass own = some m.cls) (hlink : (Cond.methodLink own index y).before args s = true) (hinst : (Cond.instanceMethod y).before args s = true) (hsel : (Cond.selects C y y).before args s = true)
    (hcode : (Cond.codeWith y bytes maxL ret hh).before args s = true) (hy : y.cls ≠ "java/lang/invoke/MethodHandle" ∧ y.cls ≠ "java/lang/invoke/VarHandle")
    {W9 : Nat} {Pre : Pt → Array Value → Prop} {Post : Pt → Array Value → Option Value → Pt → Prop} {PostX : Pt → Array Value → Addr → Pt → Prop} (hK : vx_Back l R p e below s args y 3 W9 Pre Post PostX)
    {b : Addr} {cellB : Cell} (hcell : T.heap[b]? = some cellB) (hobj : cellB.vm.isStatics = false) (hcls : s.vm.findClass C = some cellB.cls)
    {g : JFrame} (hg : g.method = m) (hsize : g.locals.size = c.maxLocals) {argsL rest : List Value} (hlen : ∀ sig, parseMethodDescriptor y.desc = some sig → argsL.length = sig.parameters.length)
    (hstack : g.stack = argsL.reverse ++ .ref b :: rest) (hW : 2 * g.monitorRoom + (rest.map fun v => v.category).sum ≤ W9) (hdg : decode c.code g.pc = .ok (.invokevirtual index, 3))
    (hpre : ∀ vm₁, s.WarmedH vm₁ → Pre ⟨T.setVm vm₁, locs, cells, slots⟩ (Value.ref b :: argsL).toArray) :
    (∃ (v : Option Value) (vm₁ : Vm) (B : Pt), s.WarmedH vm₁ ∧ Stand p l e R s m args below meth c B.U B.locs B.cells B.slots ∧ Post ⟨T.setVm vm₁, locs, cells, slots⟩ (Value.ref b :: argsL).toArray v B ∧
      ∀ target, Steps p.tables e below (B.U.setTop { g with pc := g.pc + 3, stack := v.toList ++ rest }) target → Steps p.tables e below (T.setTop g) target) ∨
    (∃ (q : Addr) (vm₁ : Vm) (B : Pt), s.WarmedH vm₁ ∧ Stand p l e R s m args below meth c B.U B.locs B.cells B.slots ∧ PostX ⟨T.setVm vm₁, locs, cells, slots⟩ (Value.ref b :: argsL).toArray q B ∧
      Steps p.tables e below (T.setTop g) ((B.U.setTop { g with stack := rest }).pushFrame (.throwing q))) := by
  obtain ⟨mk, methM, hnamed, hmethM, hstM, habM⟩ := Cond.instanceMethod_spec hinst
  obtain ⟨m8, methM', cM, hn8, hmethM', -, -, -, -, -, -, hsigM⟩ := Cond.codeWith_spec hcode
  cases Option.some.inj (hn8.symm.trans hnamed)
  cases hmethM.symm.trans hmethM'
  obtain ⟨c2, r2, m2, q1, q2, q3, q4, kP, hkP, hkPi⟩ := Cond.selects_spec hsel
  cases hcls.symm.trans q1
  cases (State.methodFound?_of_named hnamed hy).symm.trans q2
  cases hnamed.symm.trans q3
  have hselP : selectMethod e.platform s.vm cellB.cls mk = .method mk := by rw [Launch.admits_selectMethod X.admits]; exact q4
  obtain ⟨vm₁, X₁, hstep₁⟩ := X.invokevirtual hexec hown hlink hnamed hmethM hstM hkP hkPi hy (a := b) (cell := cellB) hcell
    (fun z h => by rw [h] at hobj; cases hobj) hselP hmethM habM hkP hkPi (g := g) hg (argsL := argsL) (rest := rest) (hlen _ hsigM) hstack hdg
  rcases hK m meth c ⟨T.setVm vm₁, locs, cells, slots⟩ { g with stack := rest } (.invokevirtual index) mk (Value.ref b :: argsL).toArray X₁ hg hsize hdg hW (X₁.named hnamed) (hpre vm₁ X₁.warmed) with ⟨v, B, X', hpost, hsteps⟩ | ⟨q, B, X', hpost, hsteps⟩
  · exact Or.inl ⟨v, vm₁, B, X₁.warmed, X', hpost, fun target h => hstep₁ _ fun acts => by rw [doInvoke_state]; exact hsteps.trans h⟩
  · exact Or.inr ⟨q, vm₁, B, X₁.warmed, X', hpost, hstep₁ _ fun acts => by rw [doInvoke_state]; exact hsteps⟩
theorem vx_callSX (X : Stand p l e R s m args below meth c T locs cells slots) (hexec : p.tables.exec = Jvm.exec) {own : String} {index : Nat} {y : MethodName} {bytes : ByteArray} {maxL : Nat} {ret : Option FieldType} {hh : List (Nat × Nat × Nat × Nat)}
    (hown : s.vm.findClass own = some m.cls) (hlink : (Cond.methodLink own index y).before args s = true) (hstat : (Cond.static y).before args s = true) (hinit : (Cond.initialized y.cls).before args s = true)
    (hcode : (Cond.codeWith y bytes maxL ret hh).before args s = true) (hy : y.cls ≠ "java/lang/invoke/MethodHandle" ∧ y.cls ≠ "java/lang/invoke/VarHandle")
    {W9 : Nat} {Pre : Pt → Array Value → Prop} {Post : Pt → Array Value → Option Value → Pt → Prop} {PostX : Pt → Array Value → Addr → Pt → Prop} (hK : vx_Back l R p e below s args y 3 W9 Pre Post PostX)
    {g : JFrame} (hg : g.method = m) (hsize : g.locals.size = c.maxLocals) {argsL rest : List Value} (hlen : ∀ sig, parseMethodDescriptor y.desc = some sig → argsL.length = sig.parameters.length)
    (hstack : g.stack = argsL.reverse ++ rest) (hW : 2 * g.monitorRoom + (rest.map fun v => v.category).sum ≤ W9) (hdg : decode c.code g.pc = .ok (.invokestatic index, 3))
    (hpre : ∀ vm₁, s.WarmedH vm₁ → Pre ⟨T.setVm vm₁, locs, cells, slots⟩ argsL.toArray) :
    (∃ (v : Option Value) (vm₁ : Vm) (B : Pt), s.WarmedH vm₁ ∧ Stand p l e R s m args below meth c B.U B.locs B.cells B.slots ∧ Post ⟨T.setVm vm₁, locs, cells, slots⟩ argsL.toArray v B ∧
      ∀ target, Steps p.tables e below (B.U.setTop { g with pc := g.pc + 3, stack := v.toList ++ rest }) target → Steps p.tables e below (T.setTop g) target) ∨
    (∃ (q : Addr) (vm₁ : Vm) (B : Pt), s.WarmedH vm₁ ∧ Stand p l e R s m args below meth c B.U B.locs B.cells B.slots ∧ PostX ⟨T.setVm vm₁, locs, cells, slots⟩ argsL.toArray q B ∧
      Steps p.tables e below (T.setTop g) ((B.U.setTop { g with stack := rest }).pushFrame (.throwing q))) := by
  obtain ⟨mk, methM, cM, hnamed, hmethM, -, -, -, -, -, -, hsigM⟩ := Cond.codeWith_spec hcode
  have hstatic : methM.isStatic = true := Cond.static_spec hnamed hmethM hstat
  obtain ⟨kP, hkP, -⟩ := className_of_methodNamed hnamed
  have hinitP : kP.init = .initialized := Cond.initialized_spec (findClass_of_methodNamed hnamed) hkP hinit
  obtain ⟨vm₁, X₁, hstep₁⟩ := X.invokestatic hexec hown hlink hnamed hmethM hstatic hkP hinitP hy (g := g) hg (argsL := argsL) (rest := rest) (hlen _ hsigM) hstack hdg
  rcases hK m meth c ⟨T.setVm vm₁, locs, cells, slots⟩ { g with stack := rest } (.invokestatic index) mk argsL.toArray X₁ hg hsize hdg hW (X₁.named hnamed) (hpre vm₁ X₁.warmed) with ⟨v, B, X', hpost, hsteps⟩ | ⟨q, B, X', hpost, hsteps⟩
  · exact Or.inl ⟨v, vm₁, B, X₁.warmed, X', hpost, fun target h => hstep₁ _ fun acts => by rw [doInvoke_state]; exact hsteps.trans h⟩
  · exact Or.inr ⟨q, vm₁, B, X₁.warmed, X', hpost, hstep₁ _ fun acts => by rw [doInvoke_state]; exact hsteps⟩
theorem vx_callVW (X : Stand p l e R s m args below meth c T locs cells slots) (hexec : p.tables.exec = Jvm.exec) {own C : String} {index : Nat} {y : MethodName} {bytes : ByteArray} {maxL : Nat} {ret : Option FieldType} {hh : List (Nat × Nat × Nat × Nat)}
    (hown : s.vm.findClass own = some m.cls) (hlink : (Cond.methodLink own index y).before args s = true) (hinst : (Cond.instanceMethod y).before args s = true) (hsel : (Cond.selects C y y).before args s = true)
    (hcode : (Cond.codeWith y bytes maxL ret hh).before args s = true) (hy : y.cls ≠ "java/lang/invoke/MethodHandle" ∧ y.cls ≠ "java/lang/invoke/VarHandle")
    {W9 : Nat} {Pre : Pt → Array Value → Prop} {Post : Pt → Array Value → Option Value → Pt → Prop} (hK : Back l R p e below s args y 3 W9 Pre Post)
    {b : Addr} {cellB : Cell} (hcell : T.heap[b]? = some cellB) (hobj : cellB.vm.isStatics = false) (hcls : s.vm.findClass C = some cellB.cls)
    {g : JFrame} (hg : g.method = m) (hsize : g.locals.size = c.maxLocals) {argsL rest : List Value} (hlen : ∀ sig, parseMethodDescriptor y.desc = some sig → argsL.length = sig.parameters.length)
    (hstack : g.stack = argsL.reverse ++ .ref b :: rest) (hW : 2 * g.monitorRoom + (rest.map fun v => v.category).sum ≤ W9) (hdg : decode c.code g.pc = .ok (.invokevirtual index, 3))
    (hpre : ∀ vm₁, s.WarmedH vm₁ → Pre ⟨T.setVm vm₁, locs, cells, slots⟩ (Value.ref b :: argsL).toArray) :
    ∃ (v : Option Value) (vm₁ : Vm) (B : Pt), s.WarmedH vm₁ ∧ Stand p l e R s m args below meth c B.U B.locs B.cells B.slots ∧ Post ⟨T.setVm vm₁, locs, cells, slots⟩ (Value.ref b :: argsL).toArray v B ∧
      ∀ target, Steps p.tables e below (B.U.setTop { g with pc := g.pc + 3, stack := v.toList ++ rest }) target → Steps p.tables e below (T.setTop g) target := by
  obtain ⟨mk, methM, hnamed, hmethM, hstM, habM⟩ := Cond.instanceMethod_spec hinst
  obtain ⟨m8, methM', cM, hn8, hmethM', -, -, -, -, -, -, hsigM⟩ := Cond.codeWith_spec hcode
  cases Option.some.inj (hn8.symm.trans hnamed)
  cases hmethM.symm.trans hmethM'
  obtain ⟨c2, r2, m2, q1, q2, q3, q4, kP, hkP, hkPi⟩ := Cond.selects_spec hsel
  cases hcls.symm.trans q1
  cases (State.methodFound?_of_named hnamed hy).symm.trans q2
  cases hnamed.symm.trans q3
  have hselP : selectMethod e.platform s.vm cellB.cls mk = .method mk := by rw [Launch.admits_selectMethod X.admits]; exact q4
  obtain ⟨vm₁, X₁, hstep₁⟩ := X.invokevirtual hexec hown hlink hnamed hmethM hstM hkP hkPi hy (a := b) (cell := cellB) hcell
    (fun z h => by rw [h] at hobj; cases hobj) hselP hmethM habM hkP hkPi (g := g) hg (argsL := argsL) (rest := rest) (hlen _ hsigM) hstack hdg
  obtain ⟨v, B, X', hpost, hsteps⟩ := hK m meth c ⟨T.setVm vm₁, locs, cells, slots⟩ { g with stack := rest } (.invokevirtual index) mk (Value.ref b :: argsL).toArray X₁ hg hsize hdg hW (X₁.named hnamed) (hpre vm₁ X₁.warmed)
  exact ⟨v, vm₁, B, X₁.warmed, X', hpost, fun target h => hstep₁ _ fun acts => by rw [doInvoke_state]; exact hsteps.trans h⟩
abbrev vx_CVW (R : Room) (s : State) (args : Array Value) (own C : String) (index : Nat) (y : MethodName) (bytes : ByteArray) (maxL : Nat) (ret : Option FieldType) (hh : List (Nat × Nat × Nat × Nat)) (ws : List Cond) (rm : Room) (mc ms n : Nat) : Prop :=
  (rm.cells = mc ∧ rm.slots = ms ∧ rm.frames + 1 ≤ R.frames ∧ 8 + (maxL + 11) + rm.locals ≤ R.locals ∧ (∀ w ∈ ws, ∀ (a' : Array Value) (U : State), s.WarmedH U.vm → w.before a' U = true) ∧ Cond.codeWith y bytes maxL ret hh ∈ ws) ∧
  (Cond.codeWith y bytes maxL ret hh).before args s = true ∧ (Cond.initialized y.cls).before args s = true ∧ (y.cls ≠ "java/lang/invoke/MethodHandle" ∧ y.cls ≠ "java/lang/invoke/VarHandle") ∧
  (∀ sig, parseMethodDescriptor y.desc = some sig → n = sig.parameters.length) ∧ (Cond.methodLink own index y).before args s = true ∧ (Cond.instanceMethod y).before args s = true ∧ (Cond.selects C y y).before args s = true
theorem vx_cwVW {own C : String} {index maxL mc ms : Nat} {y : MethodName} {bytes : ByteArray} {ret : Option FieldType} {hh : List (Nat × Nat × Nat × Nat)} {Ts ws ws' : List Cond} {rm : Room} (n : Nat) (ht : ∀ w ∈ Ts, w.before args s = true) (hT : GoodIn Ts (wsV own index C y ws)) (hw : ws = Cond.codeWith y bytes maxL ret hh :: ws') (hrc : rm.cells = mc) (hrs : rm.slots = ms)
    (hd : y.cls = C ∧ y.cls ≠ "java/lang/invoke/MethodHandle" ∧ y.cls ≠ "java/lang/invoke/VarHandle" ∧ (parseMethodDescriptor y.desc).map (fun d => d.parameters.length) = some n) (hR : rm.frames + 1 ≤ R.frames ∧ 8 + (maxL + 11) + rm.locals ≤ R.locals) :
    vx_CVW R s args own C index y bytes maxL ret hh ws rm mc ms n := by
  obtain ⟨hC, hd⟩ := hd
  subst hC
  have ok : ∀ w ∈ wsV own index y.cls y ws, w.before args s = true := fun w h => ht w (hT w h).1
  have hG : GoodIn Ts ws := fun w h => hT w (by unfold wsV; exact List.mem_append_right _ h)
  have hc : Cond.codeWith y bytes maxL ret hh ∈ ws := by rw [hw]; exact List.mem_cons_self
  refine ⟨⟨hrc, hrs, hR.1, hR.2, pay_in ht hG, hc⟩, ht _ (hG _ hc).1, ok _ (by simp [wsV]), ⟨hd.1, hd.2.1⟩, fun sig h => ?_, ok _ (by simp [wsV]), ok _ (by simp [wsV]), ok _ (by simp [wsV])⟩
  have h2 := hd.2.2
  rw [h] at h2
  exact (Option.some.inj h2).symm
theorem vx_runVW {y : MethodName} {bytes cc : ByteArray} {maxL nL mc ms n index : Nat} {ret : Option FieldType} {hh : List (Nat × Nat × Nat × Nat)} {ws : List Cond} {rm : Room} {Pc : Array Value → State → Prop} {Qc : Array Value → State → Outcome → State → Prop} {free : Addr → Prop} {Ts : List Cond} {own C : String} {b : Addr} {As rest : List Value} {g : JFrame}
    (S : CallFix p m c cc nL s args Ts own) (hM : Met l y ws rm Pc Qc mc ms free) (cw : vx_CVW R s args own C index y bytes maxL ret hh ws rm mc ms n) (hp : PreV s H C b Pc As)
    (hg : g.method = m) (hn : As.length = n) (hsize : g.locals.size = nL) (hstack : g.stack = As.reverse ++ .ref b :: rest) (hW : 2 * g.monitorRoom + (rest.map fun v => v.category).sum ≤ 8) (hdg : decode cc g.pc = .ok (.invokevirtual index, 3)) (hf : cells + mc ≤ R.cells ∧ slots + ms ≤ R.slots) :
    va_Run p l e R s m args below meth c H locs cells slots mc ms g rest (Qc (Value.ref b :: As).toArray) free := by
  obtain ⟨⟨hrc, hrs, hfr, hlo, hws, hcw⟩, hcode, hini, hy, hlen, hl, hin, hse⟩ := cw
  have hK : Back l R p e below s args y 3 8 (PreOf R mc ms Pc) (PostOf Qc mc ms free) := va_backW (hh := hh) (bytes := bytes) (maxL := maxL) (ret := ret) hM hp.1 hrc hrs hfr hlo hws hcw (fun a' U hW => word_at hW (Or.inl (by first | rfl | simp [Cond.onTables, Cond.keeps, Cond.steady])) hini)
  obtain ⟨hx, hb, hml, ho, -⟩ := S
  obtain ⟨-, ⟨cellB, hcB, hoB, hclB⟩, hPc⟩ := hp
  intro T hT X
  obtain ⟨v, vm₁, ⟨U', l2, c2, s2⟩, hW₁, X', ⟨g', mk, t, L, e1, e2, hq, h1, hL, h2, h3⟩, st⟩ := vx_callVW X hx (C := C) (hh := hh) (bytes := bytes) (maxL := maxL) (ret := ret) ho hl hin hse hcode hy hK (by rw [hT]; exact hcB) hoB hclB hg (hsize.trans hml.symm) (argsL := As) (rest := rest) (fun sig h => hn.trans (hlen sig h)) hstack hW (by rw [hb]; exact hdg)
    (fun vm₁ hW₁ => ⟨hf.1, hf.2, hPc (T.setVm vm₁) hT hW₁⟩)
  dsimp only [Pt.U, Pt.locs, Pt.cells, Pt.slots] at X' e1 e2 h1 h2 h3 st
  subst h1; subst h2; subst h3
  exact ⟨v, (T.setVm vm₁).calling g' mk (Value.ref b :: As).toArray, t, U', L, hT, X', hL, e1, e2, hq, st⟩
section
variable {y : MethodName} {bytes cc : ByteArray} {maxL nL mc ms n index : Nat} {ret : Option FieldType} {ws : List Cond} {rm : Room} {Pc : Array Value → State → Prop} {Qc : Array Value → State → Outcome → State → Prop} {XC : String → State → State → Prop} {free : Addr → Prop} {Ts : List Cond} {own C : String} {b : Addr} {As rest : List Value} {g : JFrame}
theorem vx_runVX {hh : List (Nat × Nat × Nat × Nat)} (S : CallFix p m c cc nL s args Ts own) (hM : vx_Met l y ws rm Pc Qc XC mc ms free) (cw : vx_CVW R s args own C index y bytes maxL ret hh ws rm mc ms n) (hp : PreV s H C b Pc As)
    (hg : g.method = m) (hn : As.length = n) (hsize : g.locals.size = nL) (hstack : g.stack = As.reverse ++ .ref b :: rest) (hW : 2 * g.monitorRoom + (rest.map fun v => v.category).sum ≤ 8) (hdg : decode cc g.pc = .ok (.invokevirtual index, 3)) (hf : cells + mc ≤ R.cells ∧ slots + ms ≤ R.slots) :
    vx_Run p l e R s m args below meth c H locs cells slots mc ms g rest (Qc (Value.ref b :: As).toArray) XC free := by
  obtain ⟨⟨hrc, hrs, hfr, hlo, hws, hcw⟩, hcode, hini, hy, hlen, hl, hin, hse⟩ := cw
  have hK : vx_Back l R p e below s args y 3 8 (PreOf R mc ms Pc) (PostOf Qc mc ms free) (vx_Post XC mc ms free) := vx_backW (hh := hh) (bytes := bytes) (maxL := maxL) (ret := ret) hM hp.1 hrc hrs hfr hlo hws hcw (fun a' U hW => word_at hW (Or.inl (by first | rfl | simp [Cond.onTables, Cond.keeps, Cond.steady])) hini)
  obtain ⟨hx, hb, hml, ho, -⟩ := S
  obtain ⟨-, ⟨cellB, hcB, hoB, hclB⟩, hPc⟩ := hp
  intro T hT X
  rcases vx_callVX X hx (C := C) (hh := hh) (bytes := bytes) (maxL := maxL) (ret := ret) ho hl hin hse hcode hy hK (by rw [hT]; exact hcB) hoB hclB hg (hsize.trans hml.symm) (argsL := As) (rest := rest) (fun sig h => hn.trans (hlen sig h)) hstack hW (by rw [hb]; exact hdg)
    (fun vm₁ hW₁ => ⟨hf.1, hf.2, hPc (T.setVm vm₁) hT hW₁⟩) with ⟨v, vm₁, ⟨U', l2, c2, s2⟩, hW₁, X', ⟨g', mk, t, L, e1, e2, hq, h1, hL, h2, h3⟩, st⟩ | ⟨q, vm₁, ⟨U', l2, c2, s2⟩, hW₁, X', ⟨g', mk, t, L, E, ce, e1, e2, hq, hce, hcv, hcl, h1, hL, h2, h3⟩, st⟩
  · dsimp only [Pt.U, Pt.locs, Pt.cells, Pt.slots] at X' e1 e2 h1 h2 h3 st
    subst h1; subst h2; subst h3
    exact Or.inl ⟨v, (T.setVm vm₁).calling g' mk (Value.ref b :: As).toArray, t, U', L, hT, X', hL, e1, e2, hq, st⟩
  · dsimp only [Pt.U, Pt.locs, Pt.cells, Pt.slots] at X' e1 e2 h1 h2 h3 st hcl
    subst h1; subst h2; subst h3
    exact Or.inr ⟨q, (T.setVm vm₁).calling g' mk (Value.ref b :: As).toArray, t, U', L, E, ce, hT, X', hL, e1, e2, hq, hce, hcv, vx_cls hW₁ hcl, st⟩
theorem vx_runSX {hh : List (Nat × Nat × Nat × Nat)} (S : CallFix p m c cc nL s args Ts own) (hM : vx_Met l y ws rm Pc Qc XC mc ms free) (cw : vx_CSW R s args own index y bytes maxL ret hh ws rm mc ms n) (hp : PreS s H Pc As)
    (hg : g.method = m) (hn : As.length = n) (hsize : g.locals.size = nL) (hstack : g.stack = As.reverse ++ rest) (hW : 2 * g.monitorRoom + (rest.map fun v => v.category).sum ≤ 8) (hdg : decode cc g.pc = .ok (.invokestatic index, 3)) (hf : cells + mc ≤ R.cells ∧ slots + ms ≤ R.slots) :
    vx_Run p l e R s m args below meth c H locs cells slots mc ms g rest (Qc As.toArray) XC free := by
  obtain ⟨⟨hrc, hrs, hfr, hlo, hws, hcw⟩, hcode, hini, hy, hlen, hl, hstt⟩ := cw
  have hK : vx_Back l R p e below s args y 3 8 (PreOf R mc ms Pc) (PostOf Qc mc ms free) (vx_Post XC mc ms free) := vx_backW (hh := hh) (bytes := bytes) (maxL := maxL) (ret := ret) hM hp.1 hrc hrs hfr hlo hws hcw (fun a' U hW => word_at hW (Or.inl (by first | rfl | simp [Cond.onTables, Cond.keeps, Cond.steady])) hini)
  obtain ⟨hx, hb, hml, ho, -⟩ := S
  intro T hT X
  rcases vx_callSX X hx (hh := hh) (bytes := bytes) (maxL := maxL) (ret := ret) ho hl hstt hini hcode hy hK hg (hsize.trans hml.symm) (argsL := As) (rest := rest) (fun sig h => hn.trans (hlen sig h)) hstack hW (by rw [hb]; exact hdg)
    (fun vm₁ hW₁ => ⟨hf.1, hf.2, hp.2 (T.setVm vm₁) hT hW₁⟩) with ⟨v, vm₁, ⟨U', l2, c2, s2⟩, hW₁, X', ⟨g', mk, t, L, e1, e2, hq, h1, hL, h2, h3⟩, st⟩ | ⟨q, vm₁, ⟨U', l2, c2, s2⟩, hW₁, X', ⟨g', mk, t, L, E, ce, e1, e2, hq, hce, hcv, hcl, h1, hL, h2, h3⟩, st⟩
  · dsimp only [Pt.U, Pt.locs, Pt.cells, Pt.slots] at X' e1 e2 h1 h2 h3 st
    subst h1; subst h2; subst h3
    exact Or.inl ⟨v, (T.setVm vm₁).calling g' mk As.toArray, t, U', L, hT, X', hL, e1, e2, hq, st⟩
  · dsimp only [Pt.U, Pt.locs, Pt.cells, Pt.slots] at X' e1 e2 h1 h2 h3 st hcl
    subst h1; subst h2; subst h3
    exact Or.inr ⟨q, (T.setVm vm₁).calling g' mk As.toArray, t, U', L, E, ce, hT, X', hL, e1, e2, hq, hce, hcv, vx_cls hW₁ hcl, st⟩
end
end VXH
theorem vx_ofWH {l : Launch} {y : MethodName} {ws ws' : List Cond} {rm : Room} {Pc : Array Value → State → Prop} {Qc : Array Value → State → Outcome → State → Prop} {XC : String → State → State → Prop} {mc ms : Nat} {free : Addr → Prop} {cc : ByteArray} {maxL : Nat} {ret : Option FieldType} {hh : List (Nat × Nat × Nat × Nat)}
    (hy : plainName y.cls = true) (hw : ws = Cond.codeWith y cc maxL ret hh :: ws')
    (body : ∀ p e s m args below meth c s₁, BodyLoose p l y (headSpec ws rm) cc maxL ret e s m args below meth c s₁ → c.maxLocals = maxL → Pc args s →
      W p l e (headSpec ws rm).room s m args below meth c s.heap [] 0 0 (vx_MQ below Qc XC args s mc ms free) (entryFrame m args maxL)) : vx_Met l y ws rm Pc Qc XC mc ms free := by
  refine MetFree.of_bodyS (code := cc) (maxLocals := maxL) (ret := ret) hy ?_ ?_
  · intro args s m h hn
    obtain ⟨m9, meth, c, hn9, h1, h2, h3, h4, -, h5, h6, -⟩ := Cond.codeWith_spec (atoms_spec (ws := ws) h _ (by rw [hw]; exact List.mem_cons_self))
    cases hn.symm.trans hn9
    exact ⟨meth, c, h1, h2, h3, h4, h5, h6⟩
  · intro p e s m args below meth c s₁ B hml hP _
    have hh0 : s₁.heap = s.heap := by rw [B.state]; rfl
    obtain ⟨t, a1, o, b1, b2, b3⟩ := body p e s m args below meth c s₁ B hml hP s₁ hh0 (Stand.of_body B)
    exact ⟨t, o, a1, b1, b2, b3⟩
/-! ===== END ===== -/

/-! ===== BEGIN what the machine throws by itself, no traces kept ===== -/
section VXM
set_option maxHeartbeats 1000000 in
/-- the machine throws cls with the message text, no traces kept: from its note over the frame g to 'throwing' over the same frame (follows the proofs of Stand.vmThrowsMessage, Shelf/KitTracedVmS.lean, and Stand.throwsMessageColdBareV, StandMessageColdV.lean, without the step out of the frame) -/
theorem vx_vmAt {p : Program} {l : Launch} {e : Env} {R : Room} {s : State} {m₀ : MethodId} {args : Array Value} {below : List Frame} {meth : Method} {c : Code} {W : State} {locs : List Loc} {cells slots : Nat}
    (X : Stand p l e R s m₀ args below meth c W locs cells slots) (hexec : p.tables.exec = Jvm.exec) (htr : e.platform.stackTraces = false) {cls : String} {names : List String} {text : String}
    (hcls : Bundle.fit cls = true) (hnames : ∀ n ∈ names, Bundle.fit n = true) (hsoe : (cls == "java/lang/StackOverflowError") = false) (hoom : (cls == "java/lang/OutOfMemoryError") = false)
    (h : ∀ a ∈ Bundle.messageArmAtoms cls names, a.before args s = true)
    (hlocs : ∀ x ∈ locs, ∀ cell, s.heap[x.base]? = some cell → cell.vm.isStatics = false)
    (htext : (text == notModelled) = false) (hlimit : ¬ (stringBytes (stringToUtf16 text)).size > e.platform.arrayLengthLimit) (hheap : ¬ (stringBytes (stringToUtf16 text)).size * componentBytes .byte > e.platform.maxHeapBytes)
    {g : JFrame} (hg : g.method = m₀) (hsize : g.locals.size = c.maxLocals)
    (hRframes : names.length + 4 < R.frames) (hRlocals : 2 * g.monitorRoom + (g.stack.map fun v => v.category).sum + 10240 ≤ R.locals) (hshort : 13 * names.length + 55 ≤ 10240)
    (hRcells : cells + 3 ≤ R.cells) (hRslots : slots + ((stringBytes (stringToUtf16 text)).size + 4 + 6) ≤ R.slots) (hlocks : meth.locks = false) :
    ∃ (S : State) (q : Addr) (ce : Cell), (∀ target, Steps p.tables e below ((S.setTop g).pushFrame (.throwing q)) target → Steps p.tables e below ((W.setTop g).pushFrame (.throwNew cls (some text) none)) target) ∧
      Stand p l e R s m₀ args below meth c S locs (cells + 3) (slots + ((stringBytes (stringToUtf16 text)).size + 4 + 6)) ∧ S.heap[q]? = some ce ∧ s.vm.findClass cls = some ce.cls ∧ ce.vm = .none := by
  have howns : e.platform.frameOwnsMonitors = true := by rw [X.admits.platform]
  have hfin : e.platform.finalization = false := by rw [X.admits.platform]
  have hpl : e.platform.magicAccessors = ({} : Platform).magicAccessors := by rw [X.admits.platform]
  have a : ∀ x, x ∈ Bundle.messageArmAtoms cls names → x.holds args s none s [] = true := fun x hx => h x hx
  obtain ⟨T, Z0, L, -, Y⟩ := ThrowableC.of_atoms (args := args) howns hfin hpl (fun x hx => h x (by simp [Bundle.messageArmAtoms, hx]))
  obtain ⟨Z, M, LZ, LM, hnZ⟩ := Init0T.ofS_atoms (args := args) hpl L Y (fun x hx => h x (by simp [Bundle.messageArmAtoms, hx]))
  obtain ⟨P1, Ps, hlen, L1, hL, hP1m, hlink1, hlink⟩ := Bundle.chainS (args := args) hpl hnZ names cls hcls hnames (fun x hx => h x (by simp [Bundle.messageArmAtoms, hx]))
  obtain ⟨Zs, LZs, hn4, hfitv, hfitc⟩ := StringT.of_atoms (args := args) (fun x hx => h x (by simp [Bundle.messageArmAtoms, hx]))
  have hfound : s.vm.findClass cls = some P1.m.cls := findClass_of_methodNamed hP1m
  obtain ⟨c1, kX, hc1, hk, hord, -, -, hn6⟩ := Cond.instantiable_spec (a (.instantiable cls 6) (by simp [Bundle.messageArmAtoms]))
  cases Option.some.inj (hc1.symm.trans hfound)
  have hinit := Cond.initialized_spec hfound hk (a (.initialized cls) (by simp [Bundle.messageArmAtoms]))
  have hctor : kX.findMethod "<init>" "(Ljava/lang/String;)V" = some P1.m.idx := findMethod_of_methodNamed hP1m hk
  have hsel0 : selectMethod e.platform s.vm P1.m.cls T.fill0 = .method T.fill0 := by
    obtain ⟨c2, r2, m2, q1, q2, q3, q4, -⟩ := Cond.selects_spec (a (.selects cls Bundle.tFill0 Bundle.tFill0) (by simp [Bundle.messageArmAtoms]))
    cases Option.some.inj (q1.symm.trans hfound)
    cases Option.some.inj (q2.symm.trans (State.methodFound?_of_named Y.fill0 (by decide)))
    cases Option.some.inj (q3.symm.trans Y.fill0)
    rw [Launch.admits_selectMethod X.admits]; exact q4
  have hselF : selectMethod e.platform s.vm P1.m.cls T.fill = .method T.fill := by
    obtain ⟨c2, r2, m2, q1, q2, q3, q4, -⟩ := Cond.selects_spec (a (.selects cls Bundle.tFill Bundle.tFill) (by simp [Bundle.messageArmAtoms]))
    cases Option.some.inj (q1.symm.trans hfound)
    cases Option.some.inj (q2.symm.trans (State.methodFound?_of_named Y.fill (by decide)))
    cases Option.some.inj (q3.symm.trans Y.fill)
    rw [Launch.admits_selectMethod X.admits]; exact q4
  obtain ⟨cellS0, hcS0, hiss⟩ := Y.statics
  obtain ⟨u0, hu0⟩ := Cond.staticRefV Y.unassigned L.unassignedStatic L.statics hcS0 hiss (a (.isRef (.static Bundle.tN "UNASSIGNED_STACK" Bundle.steD)) (by simp [Bundle.messageArmAtoms]))
  obtain ⟨sen, hsen⟩ := Cond.staticRefV Y.sentinel L.sentinelStatic L.statics hcS0 hiss (a (.isRef (.static Bundle.tN "SUPPRESSED_SENTINEL" Bundle.listD)) (by simp [Bundle.messageArmAtoms]))
  obtain ⟨ci198, i198, fB, hk198, hg198, ha198, hsB, -, hnB, htB, hffB⟩ := Cond.ownField (t := .object "java/lang/Object") Y.found L.cls (by decide +kernel) (a (.fieldLink Bundle.tN 198 Bundle.tN "backtrace" "Ljava/lang/Object;") (by simp [Bundle.messageArmAtoms])) (a (.lays Bundle.tN Bundle.tN "backtrace" "Ljava/lang/Object;") (by simp [Bundle.messageArmAtoms])) e.platform hpl
  obtain ⟨cellS, hcS', heS, -, hkeep⟩ := X.same.2.2.2.2.2 T.aS cellS0 hcS0
  have hcellS : W.heap[T.aS]? = some cellS := hcS'
  have hout' : ∀ i, (⟨T.aS, i⟩ : Loc) ∉ locs := fun i hmem => by
    have := hlocs _ hmem cellS0 hcS0
    rw [hiss] at this; cases this
  have hknownS : cellS.vm ≠ .unknown := by
    rw [heS]; intro hu
    rw [show cellS0.vm = .unknown from hu] at hiss
    cases hiss
  have hvU : cellS.slots[T.fUnassigned.slot]? = some u0.v := by rw [hkeep _ (hout' _)]; exact hu0
  have hvSen : cellS.slots[T.fSentinel.slot]? = some sen.v := by rw [hkeep _ (hout' _)]; exact hsen
  obtain ⟨iM, hffM⟩ := Y.msg
  obtain ⟨tyC, dC, hdC, hdnC⟩ := Cond.laysAt hfound hk Y.cause (a (.lays cls Bundle.tN "cause" "Ljava/lang/Throwable;") (by simp [Bundle.messageArmAtoms]))
  obtain ⟨tyS, dS, hdS, hdnS⟩ := Cond.laysAt hfound hk Y.stack (a (.lays cls Bundle.tN "stackTrace" Bundle.steD) (by simp [Bundle.messageArmAtoms]))
  obtain ⟨tyP, dP, hdP, hdnP⟩ := Cond.laysAt hfound hk Y.supp (a (.lays cls Bundle.tN "suppressedExceptions" Bundle.listD) (by simp [Bundle.messageArmAtoms]))
  obtain ⟨tyM, dM, hdM, hdnM⟩ := Cond.laysAt hfound hk hffM (a (.lays cls Bundle.tN "detailMessage" "Ljava/lang/String;") (by simp [Bundle.messageArmAtoms]))
  obtain ⟨tyB, dB, hdB, hdnB⟩ := Cond.laysAt hfound hk hffB (a (.lays cls Bundle.tN "backtrace" "Ljava/lang/Object;") (by simp [Bundle.messageArmAtoms]))
  have bC := Cond.laysApart hdB hdC hdnB hdnC (by rw [hnB, Y.causeName]; decide)
  have bS := Cond.laysApart hdB hdS hdnB hdnS (by rw [hnB, Y.stackName]; decide)
  have bP := Cond.laysApart hdB hdP hdnB hdnP (by rw [hnB, Y.suppName]; decide)
  have hbk : ((preparedCellV T.toThrowableT (freshCell P1.m.cls kX) (W.heap.size + 2) u0 sen).withEntry W.cur).slots[fB.slot]? = some .null := by
    have := fresh_default (c := P1.m.cls) tyB
    rw [htB] at this
    simpa [preparedCellV, Cell.setSlot, Cell.withEntry, Array.getElem?_setIfInBounds, bC, bS, bP, bC.symm, bS.symm, bP.symm, defaultValue] using this
  have tkC := Takes.of_laid (v := .ref (W.heap.size + 2)) hk hord tyC (by rw [Y.causeType]; rfl)
  have tkS := Takes.of_laid (v := u0.v) hk hord tyS (by rw [Y.stackType]; exact fits_refV_array _ u0)
  have tkP := Takes.of_laid (v := sen.v) hk hord tyP (by rw [Y.suppType]; exact fits_refV_object _ sen)
  have tkM := Takes.of_laid (v := .ref (W.heap.size + 1)) hk hord tyM (by rw [Y.msgType]; rfl)
  have hskip : SkipFacts T e.platform s (fun u => u) u0 ((preparedCellV T.toThrowableT (freshCell P1.m.cls kX) (W.heap.size + 2) u0 sen).withEntry W.cur) := ⟨{ ci198 := ci198, i198 := i198, fBack := fB }, ⟨hk198, hg198, ha198, hsB⟩, hbk, fun _ _ => rfl⟩
  have h0 : At W g.method c below := by rw [hg]; exact X.here
  obtain ⟨hbeyond, hfreeW⟩ := X.vmMayThrow hsize (.throwNew cls (some text) none) (fun f hf => by cases hf) rfl hRlocals
  have hfr' : W.frames.length + Ps.length + 4 < (e.platform.stackLimits W.me).1 := by have := X.framesAbove hRframes; omega
  have hwd' : (stackUse (.java g :: W.frames.tail)).2 + 13 * Ps.length + 55 ≤ (e.platform.stackLimits W.me).2 := by have := X.stackAbove hsize (K := 13 * Ps.length + 55) (by omega); omega
  have hslots : W.slotsUsed + (stringBytes (stringToUtf16 text)).size + Zs.kS.instanceTypes.size + kX.instanceTypes.size ≤ e.platform.maxSlots := by
    have := X.slotsAbove hRslots
    rw [hn4, hn6]
    omega
  obtain ⟨vm', hW', st⟩ := Steps.vmThrowsMessageColdByV p (s₀ := s) (S := W) (g := g) h0 hexec T L Z LZ M LM X.warmed (t := W.cur) rfl Zs LZs P1 L1 Ps hL hlink1 hlink hsoe hoom hfound hk hinit hord hctor
    (Launch.admits_hotImplicitExceptions X.admits) hbeyond hfreeW htext hlimit hheap (X.cellsAbove hRcells) hslots (hfitv _) (hfitc _)
    (Nn := fun u => u) heapOnly_id (fun _ _ => rfl) (fun _ => rfl) (fun u x y => setCell_twice _ _ _ _) (fun _ => Nat.le_refl _) (cN := ((preparedCellV T.toThrowableT (freshCell P1.m.cls kX) (W.heap.size + 2) u0 sen).withEntry W.cur))
    hsel0 hcellS hknownS hvU tkS (fun _ hu => hu) (fun _ hu => hu) rfl rfl rfl (by simp [preparedCellV, Cell.setSlot, Cell.withEntry]) hskip (fun _ _ hA hW _ hroom _ hrest => L.nativeOff p htr hA hW hroom hrest) hselF hvSen tkC tkP tkM Y.objLocals rfl hfr' hwd'
  rw [plainBareV_eq T.toThrowableT (W.heap.size + 2) u0 sen (.ref (W.heap.size + 1)) W.cur rfl rfl] at st
  obtain ⟨-, -, w3, w4, -, -, -⟩ := withThrown_facts e.platform W Zs text P1.m.cls kX
  have X3 := ((X.pushed (bytesOf Zs.cB (stringToUtf16 text))).pushed (stringAt Zs.cS Zs.kS Zs.fv Zs.fc (stringToUtf16 text) W.heap.size)).pushed (freshCell P1.m.cls kX)
  rw [← withString_eq] at X3
  have X4 := X3.noted hW'
  have ha : (W.heap.size + 2) < ((withThrown W Zs text P1.m.cls kX).setVm vm').heap.size := by show _ < (withThrown W Zs text P1.m.cls kX).heap.size; rw [w3]; omega
  have hcell : ((withThrown W Zs text P1.m.cls kX).setVm vm').heap[(W.heap.size + 2)]? = some (freshCell P1.m.cls kX) := w4
  have X5 := ((((X4.stored hcell T.fCause.slot (.ref (W.heap.size + 2))).storedAgain ha T.fStack.slot u0.v).storedAgain ha T.fSupp.slot sen.v).storedAgain ha T.fStack.slot u0.v).storedAgain ha T.fMsg.slot (.ref (W.heap.size + 1))
  obtain ⟨g₁, hfrM⟩ := X5.frames_eq
  have hU : ((((withThrown W Zs text P1.m.cls kX).setVm vm').setCell (W.heap.size + 2) (plainBareV T.toThrowableT (freshCell P1.m.cls kX) (W.heap.size + 2) u0 sen (.ref (W.heap.size + 1)))).setTop g).pushFrame (.throwing (W.heap.size + 2)) = (((withThrown W Zs text P1.m.cls kX).setVm vm').setCell (W.heap.size + 2) (plainBareV T.toThrowableT (freshCell P1.m.cls kX) (W.heap.size + 2) u0 sen (.ref (W.heap.size + 1)))).setFrames (.throwing (W.heap.size + 2) :: .java g :: below) := by
    rw [State.pushFrame, State.frames_setTop _ hfrM, State.setTop_of_frames _ hfrM, State.setFrames_setFrames]
  have b1 : (bytesOf Zs.cB (stringToUtf16 text)).slots.size = (stringBytes (stringToUtf16 text)).size := by
    rw [(Cell.writeAll_facts _ _).2.2]; simp [bytes0]
  have b2 : (stringAt Zs.cS Zs.kS Zs.fv Zs.fc (stringToUtf16 text) W.heap.size).slots.size = 4 := by simp [string0, Cell.setSlot, hn4]
  have b3 : (freshCell P1.m.cls kX).slots.size = 6 := by simp [hn6]
  rw [b1, b2, b3] at X5
  have e9 : slots + (stringBytes (stringToUtf16 text)).size + 4 + 6 = slots + ((stringBytes (stringToUtf16 text)).size + 4 + 6) := by omega
  rw [e9] at X5
  simp only [List.append_assoc, List.cons_append, List.nil_append] at X5
  refine ⟨((withThrown W Zs text P1.m.cls kX).setVm vm').setCell (W.heap.size + 2) (plainBareV T.toThrowableT (freshCell P1.m.cls kX) (W.heap.size + 2) u0 sen (.ref (W.heap.size + 1))), W.heap.size + 2, _, fun target ht => st _ (by rw [X.tail, ← hU]; exact ht),
    X5.forget (fun y hy => ?_), heapAt_setCell_self _ ha, hfound, rfl⟩
  simp only [List.mem_cons, List.not_mem_nil, or_false] at hy
  have hge : s.heap.size ≤ W.heap.size := X.same.2.1
  rcases hy with rfl | rfl | rfl | rfl | rfl <;> exact Nat.le_trans hge (Nat.le_add_right _ 2)
set_option maxHeartbeats 1000000 in
/-- the machine throws NullPointerException, no traces kept: from its note over the frame g to 'throwing' over the same frame (follows the proof of Stand.vmThrowsNpe, Shelf42/KT2.lean; throwsNpeColdBareVAt, Shelf42/NT91.lean, called) -/
theorem vx_npeAt {p : Program} {l : Launch} {e : Env} {R : Room} {s : State} {m₀ : MethodId} {args : Array Value} {below : List Frame} {meth : Method} {c : Code} {W : State} {locs : List Loc} {cells slots : Nat}
    (X : Stand p l e R s m₀ args below meth c W locs cells slots) (hexec : p.tables.exec = Jvm.exec) (htr : e.platform.stackTraces = false) {n : Nat}
    (h : ∀ a ∈ Bundle.npeArmAtoms n, a.before args s = true)
    (hlocs : ∀ x ∈ locs, ∀ cell, s.heap[x.base]? = some cell → cell.vm.isStatics = false)
    {g : JFrame} (hg : g.method = m₀) (hsize : g.locals.size = c.maxLocals)
    (hRframes : 7 < R.frames) (hRlocals : 2 * g.monitorRoom + (g.stack.map fun v => v.category).sum + 10240 ≤ R.locals)
    (hRcells : cells + 1 ≤ R.cells) (hRslots : slots + n ≤ R.slots) (hlocks : meth.locks = false) :
    ∃ (S : State) (q : Addr) (ce : Cell), (∀ target, Steps p.tables e below ((S.setTop g).pushFrame (.throwing q)) target → Steps p.tables e below ((W.setTop g).pushFrame (.throwNew "java/lang/NullPointerException" none none)) target) ∧
      Stand p l e R s m₀ args below meth c S locs (cells + 1) (slots + n) ∧ S.heap[q]? = some ce ∧ s.vm.findClass "java/lang/NullPointerException" = some ce.cls ∧ ce.vm = .none := by
  have howns : e.platform.frameOwnsMonitors = true := by rw [X.admits.platform]
  have hfin : e.platform.finalization = false := by rw [X.admits.platform]
  have hpl : e.platform.magicAccessors = ({} : Platform).magicAccessors := by rw [X.admits.platform]
  have hpl2 : e.platform.arrayCloneIsPublic = true := by rw [X.admits.platform]
  have a' : ∀ x, x ∈ Bundle.npeArmAtoms n → x.holds args s none s [] = true := fun x hx => h x hx
  obtain ⟨T, Z, L, LZ, Y⟩ := ThrowableC.of_atoms (args := args) howns hfin hpl (fun x hx => h x (by simp [Bundle.npeArmAtoms, hx]))
  obtain ⟨N, LN, hcN, hnNF, hordN, hffS⟩ := NpeC.of_atoms (args := args) hpl hpl2 L Y (fun x hx => h x (by simp [Bundle.npeArmAtoms, hx]))
  obtain ⟨P1, L1, hP1m, hP1s⟩ := PassC.of_atoms (args := args) (s := s) hpl (X := Bundle.nN) (Y := Bundle.rN) (by decide) (by decide) LibCode.NullPointerException.Init0.at_0 LibCode.NullPointerException.Init0.at_1 LibCode.NullPointerException.Init0.at_4 (fun x hx => h x (by simp [Bundle.npeArmAtoms, hx]))
  obtain ⟨PR, LR, hPRm, hPRs⟩ := PassC.of_atoms (args := args) (s := s) hpl (X := Bundle.rN) (Y := Bundle.eN) (by decide) (by decide) LibCode.RuntimeException.Init0.at_0 LibCode.RuntimeException.Init0.at_1 LibCode.RuntimeException.Init0.at_4 (fun x hx => h x (by simp [Bundle.npeArmAtoms, hx]))
  obtain ⟨PE, LEx, hPEm, hPEs⟩ := PassC.of_atoms (args := args) (s := s) hpl (X := Bundle.eN) (Y := Bundle.tN) (by decide) (by decide) LibCode.Exception.Init0.at_0 LibCode.Exception.Init0.at_1 LibCode.Exception.Init0.at_4 (fun x hx => h x (by simp [Bundle.npeArmAtoms, hx]))
  have hfound : s.vm.findClass Bundle.nN = some P1.m.cls := findClass_of_methodNamed hP1m
  have ecls : N.cN = P1.m.cls := Option.some.inj (hcN.symm.trans hfound)
  have hk : s.vm.classes[P1.m.cls]? = some N.kN := by rw [← ecls]; exact LN.cls
  have hinit := Cond.initialized_spec hfound hk (a' (.initialized Bundle.nN) (by simp [Bundle.npeArmAtoms]))
  have hctor : N.kN.findMethod "<init>" "()V" = some P1.m.idx := findMethod_of_methodNamed hP1m hk
  obtain ⟨c1, k1, hc1, hk1, -, -, -, hn⟩ := Cond.instantiable_spec (a' (.instantiable Bundle.nN n) (by simp [Bundle.npeArmAtoms]))
  cases Option.some.inj (hc1.symm.trans hfound)
  cases Option.some.inj (hk1.symm.trans hk)
  have hfsz : (freshCell P1.m.cls N.kN).slots.size = n := by simp [hn]
  have hlink1 : P1.sup = PR.m := Option.some.inj (hP1s.symm.trans hPRm)
  have hlinkR : PR.sup = PE.m := Option.some.inj (hPRs.symm.trans hPEm)
  have hlinkE : PE.sup = Z.m T.toThrowableT := Option.some.inj (hPEs.symm.trans Y.init0)
  have hLs : ∀ P, P ∈ [PR, PE] → P.Links0 e.platform s := fun P hP => by
    simp only [List.mem_cons, List.not_mem_nil, or_false] at hP
    rcases hP with rfl | rfl
    · exact LR
    · exact LEx
  have hsel0 : selectMethod e.platform s.vm P1.m.cls T.fill0 = .method T.fill0 := by
    obtain ⟨c2, r2, m2, q1, q2, q3, q4, -⟩ := Cond.selects_spec (a' (.selects Bundle.nN Bundle.tFill0 Bundle.tFill0) (by simp [Bundle.npeArmAtoms]))
    cases Option.some.inj (q1.symm.trans hfound)
    cases Option.some.inj (q2.symm.trans (State.methodFound?_of_named Y.fill0 (by decide)))
    cases Option.some.inj (q3.symm.trans Y.fill0)
    rw [Launch.admits_selectMethod X.admits]; exact q4
  have hselF : selectMethod e.platform s.vm P1.m.cls T.fill = .method N.fill := by
    obtain ⟨c2, r2, m2, q1, q2, q3, q4, -⟩ := Cond.selects_spec (a' (.selects Bundle.nN Bundle.tFill Bundle.nFill) (by simp [Bundle.npeArmAtoms]))
    cases Option.some.inj (q1.symm.trans hfound)
    cases Option.some.inj (q2.symm.trans (State.methodFound?_of_named Y.fill (by decide)))
    cases Option.some.inj (q3.symm.trans hnNF)
    rw [Launch.admits_selectMethod X.admits]; exact q4
  obtain ⟨cellS0, hcS0, hiss⟩ := Y.statics
  obtain ⟨u0, hu0⟩ := Cond.staticRefV Y.unassigned L.unassignedStatic L.statics hcS0 hiss (a' (.isRef (.static Bundle.tN "UNASSIGNED_STACK" Bundle.steD)) (by simp [Bundle.npeArmAtoms]))
  obtain ⟨sen, hsen⟩ := Cond.staticRefV Y.sentinel L.sentinelStatic L.statics hcS0 hiss (a' (.isRef (.static Bundle.tN "SUPPRESSED_SENTINEL" Bundle.listD)) (by simp [Bundle.npeArmAtoms]))
  obtain ⟨ci198, i198, fB, hk198, hg198, ha198, hsB, -, hnB, htB, hffB⟩ := Cond.ownField (t := .object "java/lang/Object") Y.found L.cls (by decide +kernel) (a' (.fieldLink Bundle.tN 198 Bundle.tN "backtrace" Bundle.objD) (by simp [Bundle.npeArmAtoms])) (a' (.lays Bundle.tN Bundle.tN "backtrace" Bundle.objD) (by simp [Bundle.npeArmAtoms])) e.platform hpl
  obtain ⟨cellS, hcS', heS, -, hkeep⟩ := X.same.2.2.2.2.2 T.aS cellS0 hcS0
  have hcellS : W.heap[T.aS]? = some cellS := hcS'
  have hout' : ∀ i, (⟨T.aS, i⟩ : Loc) ∉ locs := fun i hmem => by
    have := hlocs _ hmem cellS0 hcS0
    rw [hiss] at this; cases this
  have hknownS : cellS.vm ≠ .unknown := by
    rw [heS]; intro hu
    rw [show cellS0.vm = .unknown from hu] at hiss
    cases hiss
  have hvU : cellS.slots[T.fUnassigned.slot]? = some u0.v := by rw [hkeep _ (hout' _)]; exact hu0
  have hvSen : cellS.slots[T.fSentinel.slot]? = some sen.v := by rw [hkeep _ (hout' _)]; exact hsen
  obtain ⟨tyC, dC, hdC, hdnC⟩ := Cond.laysAt hfound hk Y.cause (a' (.lays Bundle.nN Bundle.tN "cause" "Ljava/lang/Throwable;") (by simp [Bundle.npeArmAtoms]))
  obtain ⟨tyS, dS, hdS, hdnS⟩ := Cond.laysAt hfound hk Y.stack (a' (.lays Bundle.nN Bundle.tN "stackTrace" Bundle.steD) (by simp [Bundle.npeArmAtoms]))
  obtain ⟨tyP, dP, hdP, hdnP⟩ := Cond.laysAt hfound hk Y.supp (a' (.lays Bundle.nN Bundle.tN "suppressedExceptions" Bundle.listD) (by simp [Bundle.npeArmAtoms]))
  obtain ⟨tyX, dX, hdX, hdnX⟩ := Cond.laysAt hfound hk hffS (a' (.lays Bundle.nN Bundle.nN "extendedMessageState" "I") (by simp [Bundle.npeArmAtoms, Bundle.npeAtoms]))
  obtain ⟨hnX, htX⟩ := State.fieldFound?_type hffS (t := .int) (by decide +kernel)
  have xC := Cond.laysApart hdC hdX hdnC hdnX (by rw [hnX, Y.causeName]; decide)
  have xS := Cond.laysApart hdS hdX hdnS hdnX (by rw [hnX, Y.stackName]; decide)
  have xP := Cond.laysApart hdP hdX hdnP hdnX (by rw [hnX, Y.suppName]; decide)
  have hv0 : (freshCell P1.m.cls N.kN).slots[N.fState.slot]? = some (.int 0) := by
    have := fresh_default (c := P1.m.cls) tyX
    rw [htX] at this; exact this
  obtain ⟨tyB, dB, hdB, hdnB⟩ := Cond.laysAt hfound hk hffB (a' (.lays Bundle.nN Bundle.tN "backtrace" Bundle.objD) (by simp [Bundle.npeArmAtoms]))
  have bC := Cond.laysApart hdB hdC hdnB hdnC (by rw [hnB, Y.causeName]; decide)
  have bS := Cond.laysApart hdB hdS hdnB hdnS (by rw [hnB, Y.stackName]; decide)
  have bP := Cond.laysApart hdB hdP hdnB hdnP (by rw [hnB, Y.suppName]; decide)
  have bX := Cond.laysApart hdB hdX hdnB hdnX (by rw [hnB, hnX]; decide)
  have hbk : ((npeCell N.toNpeT (preparedCellV T.toThrowableT (freshCell P1.m.cls N.kN) W.heap.size u0 sen) W.cur).withEntry W.cur).slots[fB.slot]? = some .null := by
    have := fresh_default (c := P1.m.cls) tyB
    rw [htB] at this
    simpa [npeCell, preparedCellV, Cell.setSlot, Cell.withEntry, Array.getElem?_setIfInBounds, bC, bS, bP, bX, bC.symm, bS.symm, bP.symm, bX.symm, defaultValue] using this
  have tkC := Takes.of_laid (v := .ref W.heap.size) hk hordN tyC (by rw [Y.causeType]; rfl)
  have tkS := Takes.of_laid (v := u0.v) hk hordN tyS (by rw [Y.stackType]; exact fits_refV_array _ u0)
  have tkP := Takes.of_laid (v := sen.v) hk hordN tyP (by rw [Y.suppType]; exact fits_refV_object _ sen)
  have tkX := Takes.of_laid (v := .int 1) hk hordN tyX (by rw [htX]; rfl)
  have hskip : SkipFacts T e.platform s (fun u => u) u0 ((npeCell N.toNpeT (preparedCellV T.toThrowableT (freshCell P1.m.cls N.kN) W.heap.size u0 sen) W.cur).withEntry W.cur) := ⟨{ ci198 := ci198, i198 := i198, fBack := fB }, ⟨hk198, hg198, ha198, hsB⟩, hbk, fun _ _ => rfl⟩
  obtain ⟨vm', X3, st, -⟩ := X.throwsNpeColdBareVAt hexec hg hsize T L Z LZ N LN P1 L1 [PR, PE] hLs hlink1 ⟨hlinkR, hlinkE, trivial⟩ hfound hk hinit hordN hctor hsel0 hselF hcellS hknownS hvU hvSen
    hv0 xC xS xP tkC tkS tkP tkX Y.objLocals hskip (fun _ _ hA hW _ hroom _ hrest => L.nativeOff p htr hA hW hroom hrest) (by simpa using hRframes) hRlocals (by simp) hRcells (by rw [hn]; exact hRslots)
  have hlt : W.heap.size < ((W.pushCell (freshCell P1.m.cls N.kN)).setVm vm').heap.size := by
    show W.heap.size < (W.pushCell (freshCell P1.m.cls N.kN)).heap.size
    rw [State.heap_size_pushCell]; omega
  rw [hfsz] at X3
  obtain ⟨g₁, hfrM⟩ := X3.frames_eq
  have hU : ((((W.pushCell (freshCell P1.m.cls N.kN)).setVm vm').setCell W.heap.size (npeBareV T.toThrowableT N.toNpeT (freshCell P1.m.cls N.kN) W.heap.size u0 sen)).setTop g).pushFrame (.throwing W.heap.size) = (((W.pushCell (freshCell P1.m.cls N.kN)).setVm vm').setCell W.heap.size (npeBareV T.toThrowableT N.toNpeT (freshCell P1.m.cls N.kN) W.heap.size u0 sen)).setFrames (.throwing W.heap.size :: .java g :: below) := by
    rw [State.pushFrame, State.frames_setTop _ hfrM, State.setTop_of_frames _ hfrM, State.setFrames_setFrames]
  refine ⟨_, W.heap.size, _, fun target ht => st.trans (by rw [← hU]; exact ht), X3.forget (fun y hy => ?_), heapAt_setCell_self _ hlt, hfound, rfl⟩
  simp only [List.mem_cons, List.not_mem_nil, or_false] at hy
  have hge : s.heap.size ≤ W.heap.size := X.same.2.1
  rcases hy with rfl | rfl | rfl | rfl | rfl <;> exact hge
/-- the words of a machine's NullPointerException, but the four that speak of the heap -/
def vx_atN (n : Nat) : List Cond := (Bundle.npeArmAtoms n).filter vx_no
/-- the words of a machine's throw with a message, but the four that speak of the heap -/
def vx_atM (X : String) (names : List String) : List Cond := (Bundle.messageArmAtoms X names).filter vx_no
section
variable {p : Program} {l : Launch} {e : Env} {R : Room} {s : State} {m : MethodId} {args : Array Value} {below : List Frame} {meth : Method} {c : Code} {H : Heap} {locs : List Loc} {cells slots : Nat}
/-- a frame seen from a rebased start, seen from the first start again -/
theorem vx_back9 {T S : State} {R' : Room} {k n : Nat} (X : Stand p l e R s m args below meth c T locs cells slots) (Y : Stand p l e R' ((T.setVm s.vm).setFrames (.invoking m args :: below)) m args below meth c T [] 0 0) (Z : Stand p l e R' ((T.setVm s.vm).setFrames (.invoking m args :: below)) m args below meth c S [] k n) :
    Stand p l e R s m args below meth c S locs (cells + k) (slots + n) := by
  have hW0 : s.WarmedH ((T.setVm s.vm).setFrames (.invoking m args :: below)).vm := State.WarmedH.refl s
  refine { admits := X.admits, cas := X.cas, clock := X.clock, frames := X.frames, room := X.room, hears := X.hears, method := X.method, code := X.code, here := Z.here, tail := Z.tail, warmed := State.WarmedH.trans hW0 Z.warmed, limits := Z.limits.trans (Y.limits.symm.trans X.limits), bytes := Z.bytes.trans (Y.bytes.symm.trans X.bytes), same := ?_ }
  obtain ⟨e1, e2⟩ := Z.same
  rw [State.setFrames_setFrames] at e1
  have h2 : (T.setVm s.vm).sameButNew (S.setVm s.vm) [] k n := ⟨e1, e2⟩
  have h3 := X.same.trans h2
  rw [List.append_nil] at h3
  exact h3
/-- from the machine's note that E is thrown here with this text -/
def vx_Note (p : Program) (l : Launch) (e : Env) (R : Room) (s : State) (m : MethodId) (args : Array Value) (below : List Frame) (meth : Method) (c : Code) (H : Heap) (locs : List Loc) (cells slots : Nat) (Q : State → Prop) (g : JFrame) (E text : String) : Prop :=
  ∀ T : State, T.heap = H → Stand p l e R s m args below meth c T locs cells slots → ∃ t, Steps p.tables e below ((T.setTop g).pushFrame (.throwNew E (some text) none)) t ∧ Q t
theorem vx_vm {pc : Nat} {ls : Array Slot} {rest : List Value} {Q : State → Prop} (hexec : p.tables.exec = Jvm.exec) (hl : l.stackTraces = false) {cls text : String} {names : List String} {nb : Nat} {A : Nat → Prop}
    (hcls : Bundle.fit cls = true) (hnames : ∀ n ∈ names, Bundle.fit n = true) (hsoe : (cls == "java/lang/StackOverflowError") = false) (hoom : (cls == "java/lang/OutOfMemoryError") = false)
    (hat : ∀ w ∈ vx_atM cls names, w.before args s = true) (hgood : ∀ w ∈ vx_atM cls names, vx_ot w = true)
    (hU : vx_Zq Bundle.tN "UNASSIGNED_STACK" Bundle.steD A s s.heap) (hN : vx_Zq Bundle.tN "SUPPRESSED_SENTINEL" Bundle.listD A s s.heap) (hS : va_S A s.heap H locs) (hsize : ls.size = c.maxLocals)
    (htext : (text == notModelled) = false) (hnb : (stringBytes (stringToUtf16 text)).size ≤ nb) (hnb1 : nb ≤ 1000)
    (hRframes : names.length + 4 < R.frames) (hRlocals : (rest.map fun v => v.category).sum + 10240 ≤ R.locals) (hshort : 13 * names.length + 55 ≤ 10240) (hRcells : cells + 3 ≤ R.cells) (hRslots : slots + (nb + 10) ≤ R.slots) (hlocks : meth.locks = false)
    (k : ∀ (H1 : Heap) (q9 : Addr) (ce : Cell), H.size ≤ H1.size → (∀ q : Nat, q < H.size → H1[q]? = H[q]?) → va_S A s.heap H1 locs → H1[q9]? = some ce → ce.vm = .none → s.vm.findClass cls = some ce.cls → vx_W p l e R s m args below meth c H1 locs (cells + 3) (slots + (nb + 10)) Q (F0 m pc ls rest) q9) :
    vx_Note p l e R s m args below meth c H locs cells slots Q (F0 m pc ls rest) cls text := by
  intro T hT X
  have htr : e.platform.stackTraces = false := (show e.platform.stackTraces = l.stackTraces by rw [X.admits.platform]).trans hl
  have Y := vx_rebase X (R' := { frames := R.frames, locals := R.locals, cells := 3, slots := nb + 10 }) (Nat.le_refl _) (Nat.le_refl _) hRcells hRslots
  have hhp : ((T.setVm s.vm).setFrames (.invoking m args :: below)).heap = H := hT
  have hW0 : s.WarmedH ((T.setVm s.vm).setFrames (.invoking m args :: below)).vm := State.WarmedH.refl s
  have hat' : ∀ w ∈ vx_atM cls names, w.before args ((T.setVm s.vm).setFrames (.invoking m args :: below)) = true := fun w hw => vx_ot_at hW0 rfl (hgood w hw) (hat w hw)
  have hU' : vx_Zq Bundle.tN "UNASSIGNED_STACK" Bundle.steD A ((T.setVm s.vm).setFrames (.invoking m args :: below)) ((T.setVm s.vm).setFrames (.invoking m args :: below)).heap := by rw [hhp]; exact vx_Zq.moved hW0.alike (hU.kept hS.2.1)
  have hN' : vx_Zq Bundle.tN "SUPPRESSED_SENTINEL" Bundle.listD A ((T.setVm s.vm).setFrames (.invoking m args :: below)) ((T.setVm s.vm).setFrames (.invoking m args :: below)).heap := by rw [hhp]; exact vx_Zq.moved hW0.alike (hN.kept hS.2.1)
  obtain ⟨S, q, ce, st, Z, hce, hcl', hv⟩ := vx_vmAt Y hexec htr (cls := cls) (names := names) (text := text) hcls hnames hsoe hoom (vx_own hat' (vx_isRefq hU'.1) (vx_isRefq hN'.1) hU'.2.word hN'.2.word) (fun x hx => nomatch hx) htext
    (by rw [Launch.admits_arrayLengthLimit X.admits]; omega) (by rw [Launch.admits_maxHeapBytes X.admits]; simp only [componentBytes]; omega)
    (g := F0 m pc ls rest) rfl hsize hRframes (by show 2 * 0 + (rest.map fun v => v.category).sum + 10240 ≤ R.locals; omega) hshort (by show 0 + 3 ≤ 3; omega) (by show 0 + (_ + 4 + 6) ≤ nb + 10; omega) hlocks
  obtain ⟨f1, f2⟩ := vx_frame Z.same
  have f1' : H.size ≤ S.heap.size := by rw [← hT]; exact f1
  have f2' : ∀ q : Nat, q < H.size → S.heap[q]? = H[q]? := fun q hq => by
    rw [← hT]
    exact f2 q (by rw [← hT] at hq; exact hq) (fun z hz => nomatch hz)
  have X5 := vx_back9 X Y Z
  have X6 : Stand p l e R s m args below meth c S locs (cells + 3) (slots + (nb + 10)) := { X5 with same := X5.same.mono (by omega) (by omega) }
  obtain ⟨t, a1, b1⟩ := k S.heap q ce f1' f2' ⟨Nat.le_trans hS.1 f1', fun q h1 h2 => (f2' q (Nat.lt_of_lt_of_le h1 hS.1)).trans (hS.2.1 q h1 h2), hS.2.2⟩ hce hv hcl' S rfl X6
  exact ⟨t, st t a1, b1⟩
/-- from the machine's note that NullPointerException is thrown here -/
def vx_NoteN (p : Program) (l : Launch) (e : Env) (R : Room) (s : State) (m : MethodId) (args : Array Value) (below : List Frame) (meth : Method) (c : Code) (H : Heap) (locs : List Loc) (cells slots : Nat) (Q : State → Prop) (g : JFrame) : Prop :=
  ∀ T : State, T.heap = H → Stand p l e R s m args below meth c T locs cells slots → ∃ t, Steps p.tables e below ((T.setTop g).pushFrame (.throwNew "java/lang/NullPointerException" none none)) t ∧ Q t
theorem vx_npe {pc : Nat} {ls : Array Slot} {rest : List Value} {Q : State → Prop} (hexec : p.tables.exec = Jvm.exec) (hl : l.stackTraces = false) {nb : Nat} {A : Nat → Prop}
    (hat : ∀ w ∈ vx_atN nb, w.before args s = true) (hgood : ∀ w ∈ vx_atN nb, vx_ot w = true)
    (hU : vx_Zq Bundle.tN "UNASSIGNED_STACK" Bundle.steD A s s.heap) (hN : vx_Zq Bundle.tN "SUPPRESSED_SENTINEL" Bundle.listD A s s.heap) (hS : va_S A s.heap H locs) (hsize : ls.size = c.maxLocals)
    (hRframes : 7 < R.frames) (hRlocals : (rest.map fun v => v.category).sum + 10240 ≤ R.locals) (hRcells : cells + 1 ≤ R.cells) (hRslots : slots + nb ≤ R.slots) (hlocks : meth.locks = false)
    (k : ∀ (H1 : Heap) (q9 : Addr) (ce : Cell), H.size ≤ H1.size → (∀ q : Nat, q < H.size → H1[q]? = H[q]?) → va_S A s.heap H1 locs → H1[q9]? = some ce → ce.vm = .none → s.vm.findClass "java/lang/NullPointerException" = some ce.cls → vx_W p l e R s m args below meth c H1 locs (cells + 1) (slots + nb) Q (F0 m pc ls rest) q9) :
    vx_NoteN p l e R s m args below meth c H locs cells slots Q (F0 m pc ls rest) := by
  intro T hT X
  have htr : e.platform.stackTraces = false := (show e.platform.stackTraces = l.stackTraces by rw [X.admits.platform]).trans hl
  have Y := vx_rebase X (R' := { frames := R.frames, locals := R.locals, cells := 1, slots := nb }) (Nat.le_refl _) (Nat.le_refl _) hRcells hRslots
  have hhp : ((T.setVm s.vm).setFrames (.invoking m args :: below)).heap = H := hT
  have hW0 : s.WarmedH ((T.setVm s.vm).setFrames (.invoking m args :: below)).vm := State.WarmedH.refl s
  have hat' : ∀ w ∈ vx_atN nb, w.before args ((T.setVm s.vm).setFrames (.invoking m args :: below)) = true := fun w hw => vx_ot_at hW0 rfl (hgood w hw) (hat w hw)
  have hU' : vx_Zq Bundle.tN "UNASSIGNED_STACK" Bundle.steD A ((T.setVm s.vm).setFrames (.invoking m args :: below)) ((T.setVm s.vm).setFrames (.invoking m args :: below)).heap := by rw [hhp]; exact vx_Zq.moved hW0.alike (hU.kept hS.2.1)
  have hN' : vx_Zq Bundle.tN "SUPPRESSED_SENTINEL" Bundle.listD A ((T.setVm s.vm).setFrames (.invoking m args :: below)) ((T.setVm s.vm).setFrames (.invoking m args :: below)).heap := by rw [hhp]; exact vx_Zq.moved hW0.alike (hN.kept hS.2.1)
  obtain ⟨S, q, ce, st, Z, hce, hcl', hv⟩ := vx_npeAt Y hexec htr (n := nb) (vx_own hat' (vx_isRefq hU'.1) (vx_isRefq hN'.1) hU'.2.word hN'.2.word) (fun x hx => nomatch hx)
    (g := F0 m pc ls rest) rfl hsize hRframes (by show 2 * 0 + (rest.map fun v => v.category).sum + 10240 ≤ R.locals; omega) (by show 0 + 1 ≤ 1; omega) (by show 0 + nb ≤ nb; omega) hlocks
  obtain ⟨f1, f2⟩ := vx_frame Z.same
  have f1' : H.size ≤ S.heap.size := by rw [← hT]; exact f1
  have f2' : ∀ q : Nat, q < H.size → S.heap[q]? = H[q]? := fun q hq => by
    rw [← hT]
    exact f2 q (by rw [← hT] at hq; exact hq) (fun z hz => nomatch hz)
  have X5 := vx_back9 X Y Z
  have X6 : Stand p l e R s m args below meth c S locs (cells + 1) (slots + nb) := { X5 with same := X5.same.mono (by omega) (by omega) }
  obtain ⟨t, a1, b1⟩ := k S.heap q ce f1' f2' ⟨Nat.le_trans hS.1 f1', fun q h1 h2 => (f2' q (Nat.lt_of_lt_of_le h1 hS.1)).trans (hS.2.1 q h1 h2), hS.2.2⟩ hce hv hcl' S rfl X6
  exact ⟨t, st t a1, b1⟩
variable {Q : State → Prop} {cc : ByteArray} {pc : Nat} {ls : Array Slot} {rest : List Value}
theorem vx_idivZ (hexec : p.tables.exec = Jvm.exec) (hb : c.code = cc) {a b : Int32} (h0 : b = 0) (d : decode cc pc = .ok (.idiv, 1)) (k : vx_Note p l e R s m args below meth c H locs cells slots Q (F0 m pc ls rest) "java/lang/ArithmeticException" "/ by zero") :
    W p l e R s m args below meth c H locs cells slots Q (F0 m pc ls (.int b :: .int a :: rest)) := by
  intro T hT X
  obtain ⟨t, st, q⟩ := k T hT X
  exact ⟨t, X.idivZero hexec (g := F0 m pc ls (.int b :: .int a :: rest)) rfl (a := a) (rest := rest) (by rw [h0]) (by rw [hb]; exact d) t st, q⟩
theorem vx_iremZ (hexec : p.tables.exec = Jvm.exec) (hb : c.code = cc) {a b : Int32} (h0 : b = 0) (d : decode cc pc = .ok (.irem, 1)) (k : vx_Note p l e R s m args below meth c H locs cells slots Q (F0 m pc ls rest) "java/lang/ArithmeticException" "/ by zero") :
    W p l e R s m args below meth c H locs cells slots Q (F0 m pc ls (.int b :: .int a :: rest)) := by
  intro T hT X
  obtain ⟨t, st, q⟩ := k T hT X
  exact ⟨t, X.iremZero hexec (g := F0 m pc ls (.int b :: .int a :: rest)) rfl (a := a) (rest := rest) (by rw [h0]) (by rw [hb]; exact d) t st, q⟩
theorem vx_ldivZ (hexec : p.tables.exec = Jvm.exec) (hb : c.code = cc) {a b : Int64} (h0 : b = 0) (d : decode cc pc = .ok (.ldiv, 1)) (k : vx_Note p l e R s m args below meth c H locs cells slots Q (F0 m pc ls rest) "java/lang/ArithmeticException" "/ by zero") :
    W p l e R s m args below meth c H locs cells slots Q (F0 m pc ls (.long b :: .long a :: rest)) := by
  intro T hT X
  obtain ⟨t, st, q⟩ := k T hT X
  exact ⟨t, X.ldivZero hexec (g := F0 m pc ls (.long b :: .long a :: rest)) rfl (a := a) (rest := rest) (by rw [h0]) (by rw [hb]; exact d) t st, q⟩
theorem vx_lremZ (hexec : p.tables.exec = Jvm.exec) (hb : c.code = cc) {a b : Int64} (h0 : b = 0) (d : decode cc pc = .ok (.lrem, 1)) (k : vx_Note p l e R s m args below meth c H locs cells slots Q (F0 m pc ls rest) "java/lang/ArithmeticException" "/ by zero") :
    W p l e R s m args below meth c H locs cells slots Q (F0 m pc ls (.long b :: .long a :: rest)) := by
  intro T hT X
  obtain ⟨t, st, q⟩ := k T hT X
  exact ⟨t, X.lremZero hexec (g := F0 m pc ls (.long b :: .long a :: rest)) rfl (a := a) (rest := rest) (by rw [h0]) (by rw [hb]; exact d) t st, q⟩
theorem vx_ialdZ {D : va_G} {cl : List vw_C} {ws : va_W} {tys : List (ClassId × FieldType)} {a : Nat} (hexec : p.tables.exec = Jvm.exec) (hb : c.code = cc) (hK : va_K D cl tys s) (hP : va_P D cl ws H) (q0 t0 : Nat) {cA : ClassId} {n : Nat} {f : Nat → Int32} (ha : ws[q0]? = some (a, .inl (cA, n, .inl f))) (ht : tys[t0]? = some (cA, .int)) {i : Int32} (hout : ¬ vp_in i n) (hdg : decode cc pc = .ok (.iaload, 1))
    (k : ∀ tx : String, tx = (toString "Index " ++ toString i ++ toString " out of bounds for length " ++ toString n : String) → vx_Note p l e R s m args below meth c H locs cells slots Q (F0 m pc ls rest) "java/lang/ArrayIndexOutOfBoundsException" tx) : W p l e R s m args below meth c H locs cells slots Q (F0 m pc ls (.int i :: .ref a :: rest)) := by
  intro T hT X
  obtain ⟨t, st, q⟩ := k _ rfl T hT X
  refine ⟨t, ?_, q⟩
  have h1 := X.ialoadOut hexec (by rw [hT]; exact hP q0 _ ha) ((hK.2 t0 _ ht).1 n (fun j => .int (f j))) (j := i) (by show (i < 0 ∨ (arrV _ _ _).slots.size ≤ _); rw [arrV_size]; exact Classical.byContradiction hout) (g := F0 m pc ls (.int i :: .ref a :: rest)) rfl (rest := rest) rfl (by rw [hb]; exact hdg) t
  simp only [arrV_size] at h1
  exact h1 st
theorem vx_iastZ {D : va_G} {cl : List vw_C} {ws : va_W} {tys : List (ClassId × FieldType)} {a : Nat} (hexec : p.tables.exec = Jvm.exec) (hb : c.code = cc) (hK : va_K D cl tys s) (hP : va_P D cl ws H) (q0 t0 : Nat) {cA : ClassId} {n : Nat} {f : Nat → Int32} (ha : ws[q0]? = some (a, .inl (cA, n, .inl f))) (ht : tys[t0]? = some (cA, .int)) {i : Int32} {x : Int32} (hout : ¬ vp_in i n) (hdg : decode cc pc = .ok (.iastore, 1))
    (k : ∀ tx : String, tx = (toString "Index " ++ toString i ++ toString " out of bounds for length " ++ toString n : String) → vx_Note p l e R s m args below meth c H locs cells slots Q (F0 m pc ls rest) "java/lang/ArrayIndexOutOfBoundsException" tx) : W p l e R s m args below meth c H locs cells slots Q (F0 m pc ls (.int x :: .int i :: .ref a :: rest)) := by
  intro T hT X
  obtain ⟨t, st, q⟩ := k _ rfl T hT X
  refine ⟨t, ?_, q⟩
  have h1 := X.iastoreOut hexec (by rw [hT]; exact hP q0 _ ha) ((hK.2 t0 _ ht).1 n (fun j => .int (f j))) (j := i) (by show (i < 0 ∨ (arrV _ _ _).slots.size ≤ _); rw [arrV_size]; exact Classical.byContradiction hout) (g := F0 m pc ls (.int x :: .int i :: .ref a :: rest)) rfl (rest := rest) rfl (by rw [hb]; exact hdg) t
  simp only [arrV_size] at h1
  exact h1 st
theorem vx_baldZ {D : va_G} {cl : List vw_C} {ws : va_W} {tys : List (ClassId × FieldType)} {a : Nat} (hexec : p.tables.exec = Jvm.exec) (hb : c.code = cc) (hK : va_K D cl tys s) (hP : va_P D cl ws H) (q0 t0 : Nat) {cA : ClassId} {n : Nat} {f : Nat → Int32} (ha : ws[q0]? = some (a, .inl (cA, n, .inl f))) (ht : tys[t0]? = some (cA, .byte)) {i : Int32} (hout : ¬ vp_in i n) (hdg : decode cc pc = .ok (.baload, 1))
    (k : ∀ tx : String, tx = (toString "Index " ++ toString i ++ toString " out of bounds for length " ++ toString n : String) → vx_Note p l e R s m args below meth c H locs cells slots Q (F0 m pc ls rest) "java/lang/ArrayIndexOutOfBoundsException" tx) : W p l e R s m args below meth c H locs cells slots Q (F0 m pc ls (.int i :: .ref a :: rest)) := by
  intro T hT X
  obtain ⟨t, st, q⟩ := k _ rfl T hT X
  refine ⟨t, ?_, q⟩
  have h1 := X.baloadOut hexec (by rw [hT]; exact hP q0 _ ha) ((hK.2 t0 _ ht).1 n (fun j => .int (f j))) (j := i) (by show (i < 0 ∨ (arrV _ _ _).slots.size ≤ _); rw [arrV_size]; exact Classical.byContradiction hout) (g := F0 m pc ls (.int i :: .ref a :: rest)) rfl (rest := rest) rfl (by rw [hb]; exact hdg) t
  simp only [arrV_size] at h1
  exact h1 st
theorem vx_bastZ {D : va_G} {cl : List vw_C} {ws : va_W} {tys : List (ClassId × FieldType)} {a : Nat} (hexec : p.tables.exec = Jvm.exec) (hb : c.code = cc) (hK : va_K D cl tys s) (hP : va_P D cl ws H) (q0 t0 : Nat) {cA : ClassId} {n : Nat} {f : Nat → Int32} (ha : ws[q0]? = some (a, .inl (cA, n, .inl f))) (ht : tys[t0]? = some (cA, .byte)) {i : Int32} {x : Int32} (hout : ¬ vp_in i n) (hdg : decode cc pc = .ok (.bastore, 1))
    (k : ∀ tx : String, tx = (toString "Index " ++ toString i ++ toString " out of bounds for length " ++ toString n : String) → vx_Note p l e R s m args below meth c H locs cells slots Q (F0 m pc ls rest) "java/lang/ArrayIndexOutOfBoundsException" tx) : W p l e R s m args below meth c H locs cells slots Q (F0 m pc ls (.int x :: .int i :: .ref a :: rest)) := by
  intro T hT X
  obtain ⟨t, st, q⟩ := k _ rfl T hT X
  refine ⟨t, ?_, q⟩
  have h1 := X.bastoreOut hexec (by rw [hT]; exact hP q0 _ ha) ((hK.2 t0 _ ht).1 n (fun j => .int (f j))) (j := i) (by show (i < 0 ∨ (arrV _ _ _).slots.size ≤ _); rw [arrV_size]; exact Classical.byContradiction hout) (g := F0 m pc ls (.int x :: .int i :: .ref a :: rest)) rfl (rest := rest) rfl (by rw [hb]; exact hdg) t
  simp only [arrV_size] at h1
  exact h1 st
theorem vx_zaldZ {D : va_G} {cl : List vw_C} {ws : va_W} {tys : List (ClassId × FieldType)} {a : Nat} (hexec : p.tables.exec = Jvm.exec) (hb : c.code = cc) (hK : va_K D cl tys s) (hP : va_P D cl ws H) (q0 t0 : Nat) {cA : ClassId} {n : Nat} {f : Nat → Int32} (ha : ws[q0]? = some (a, .inl (cA, n, .inl f))) (ht : tys[t0]? = some (cA, .boolean)) {i : Int32} (hout : ¬ vp_in i n) (hdg : decode cc pc = .ok (.baload, 1))
    (k : ∀ tx : String, tx = (toString "Index " ++ toString i ++ toString " out of bounds for length " ++ toString n : String) → vx_Note p l e R s m args below meth c H locs cells slots Q (F0 m pc ls rest) "java/lang/ArrayIndexOutOfBoundsException" tx) : W p l e R s m args below meth c H locs cells slots Q (F0 m pc ls (.int i :: .ref a :: rest)) := by
  intro T hT X
  obtain ⟨t, st, q⟩ := k _ rfl T hT X
  refine ⟨t, ?_, q⟩
  have h1 := X.baloadOut hexec (by rw [hT]; exact hP q0 _ ha) ((hK.2 t0 _ ht).1 n (fun j => .int (f j))) (j := i) (by show (i < 0 ∨ (arrV _ _ _).slots.size ≤ _); rw [arrV_size]; exact Classical.byContradiction hout) (g := F0 m pc ls (.int i :: .ref a :: rest)) rfl (rest := rest) rfl (by rw [hb]; exact hdg) t
  simp only [arrV_size] at h1
  exact h1 st
theorem vx_zastZ {D : va_G} {cl : List vw_C} {ws : va_W} {tys : List (ClassId × FieldType)} {a : Nat} (hexec : p.tables.exec = Jvm.exec) (hb : c.code = cc) (hK : va_K D cl tys s) (hP : va_P D cl ws H) (q0 t0 : Nat) {cA : ClassId} {n : Nat} {f : Nat → Int32} (ha : ws[q0]? = some (a, .inl (cA, n, .inl f))) (ht : tys[t0]? = some (cA, .boolean)) {i : Int32} {x : Int32} (hout : ¬ vp_in i n) (hdg : decode cc pc = .ok (.bastore, 1))
    (k : ∀ tx : String, tx = (toString "Index " ++ toString i ++ toString " out of bounds for length " ++ toString n : String) → vx_Note p l e R s m args below meth c H locs cells slots Q (F0 m pc ls rest) "java/lang/ArrayIndexOutOfBoundsException" tx) : W p l e R s m args below meth c H locs cells slots Q (F0 m pc ls (.int x :: .int i :: .ref a :: rest)) := by
  intro T hT X
  obtain ⟨t, st, q⟩ := k _ rfl T hT X
  refine ⟨t, ?_, q⟩
  have h1 := X.bastoreOut hexec (by rw [hT]; exact hP q0 _ ha) ((hK.2 t0 _ ht).1 n (fun j => .int (f j))) (j := i) (by show (i < 0 ∨ (arrV _ _ _).slots.size ≤ _); rw [arrV_size]; exact Classical.byContradiction hout) (g := F0 m pc ls (.int x :: .int i :: .ref a :: rest)) rfl (rest := rest) rfl (by rw [hb]; exact hdg) t
  simp only [arrV_size] at h1
  exact h1 st
theorem vx_caldZ {D : va_G} {cl : List vw_C} {ws : va_W} {tys : List (ClassId × FieldType)} {a : Nat} (hexec : p.tables.exec = Jvm.exec) (hb : c.code = cc) (hK : va_K D cl tys s) (hP : va_P D cl ws H) (q0 t0 : Nat) {cA : ClassId} {n : Nat} {f : Nat → Int32} (ha : ws[q0]? = some (a, .inl (cA, n, .inl f))) (ht : tys[t0]? = some (cA, .char)) {i : Int32} (hout : ¬ vp_in i n) (hdg : decode cc pc = .ok (.caload, 1))
    (k : ∀ tx : String, tx = (toString "Index " ++ toString i ++ toString " out of bounds for length " ++ toString n : String) → vx_Note p l e R s m args below meth c H locs cells slots Q (F0 m pc ls rest) "java/lang/ArrayIndexOutOfBoundsException" tx) : W p l e R s m args below meth c H locs cells slots Q (F0 m pc ls (.int i :: .ref a :: rest)) := by
  intro T hT X
  obtain ⟨t, st, q⟩ := k _ rfl T hT X
  refine ⟨t, ?_, q⟩
  have h1 := X.caloadOut hexec (by rw [hT]; exact hP q0 _ ha) ((hK.2 t0 _ ht).1 n (fun j => .int (f j))) (j := i) (by show (i < 0 ∨ (arrV _ _ _).slots.size ≤ _); rw [arrV_size]; exact Classical.byContradiction hout) (g := F0 m pc ls (.int i :: .ref a :: rest)) rfl (rest := rest) rfl (by rw [hb]; exact hdg) t
  simp only [arrV_size] at h1
  exact h1 st
theorem vx_castZ {D : va_G} {cl : List vw_C} {ws : va_W} {tys : List (ClassId × FieldType)} {a : Nat} (hexec : p.tables.exec = Jvm.exec) (hb : c.code = cc) (hK : va_K D cl tys s) (hP : va_P D cl ws H) (q0 t0 : Nat) {cA : ClassId} {n : Nat} {f : Nat → Int32} (ha : ws[q0]? = some (a, .inl (cA, n, .inl f))) (ht : tys[t0]? = some (cA, .char)) {i : Int32} {x : Int32} (hout : ¬ vp_in i n) (hdg : decode cc pc = .ok (.castore, 1))
    (k : ∀ tx : String, tx = (toString "Index " ++ toString i ++ toString " out of bounds for length " ++ toString n : String) → vx_Note p l e R s m args below meth c H locs cells slots Q (F0 m pc ls rest) "java/lang/ArrayIndexOutOfBoundsException" tx) : W p l e R s m args below meth c H locs cells slots Q (F0 m pc ls (.int x :: .int i :: .ref a :: rest)) := by
  intro T hT X
  obtain ⟨t, st, q⟩ := k _ rfl T hT X
  refine ⟨t, ?_, q⟩
  have h1 := X.castoreOut hexec (by rw [hT]; exact hP q0 _ ha) ((hK.2 t0 _ ht).1 n (fun j => .int (f j))) (j := i) (by show (i < 0 ∨ (arrV _ _ _).slots.size ≤ _); rw [arrV_size]; exact Classical.byContradiction hout) (g := F0 m pc ls (.int x :: .int i :: .ref a :: rest)) rfl (rest := rest) rfl (by rw [hb]; exact hdg) t
  simp only [arrV_size] at h1
  exact h1 st
theorem vx_saldZ {D : va_G} {cl : List vw_C} {ws : va_W} {tys : List (ClassId × FieldType)} {a : Nat} (hexec : p.tables.exec = Jvm.exec) (hb : c.code = cc) (hK : va_K D cl tys s) (hP : va_P D cl ws H) (q0 t0 : Nat) {cA : ClassId} {n : Nat} {f : Nat → Int32} (ha : ws[q0]? = some (a, .inl (cA, n, .inl f))) (ht : tys[t0]? = some (cA, .short)) {i : Int32} (hout : ¬ vp_in i n) (hdg : decode cc pc = .ok (.saload, 1))
    (k : ∀ tx : String, tx = (toString "Index " ++ toString i ++ toString " out of bounds for length " ++ toString n : String) → vx_Note p l e R s m args below meth c H locs cells slots Q (F0 m pc ls rest) "java/lang/ArrayIndexOutOfBoundsException" tx) : W p l e R s m args below meth c H locs cells slots Q (F0 m pc ls (.int i :: .ref a :: rest)) := by
  intro T hT X
  obtain ⟨t, st, q⟩ := k _ rfl T hT X
  refine ⟨t, ?_, q⟩
  have h1 := X.saloadOut hexec (by rw [hT]; exact hP q0 _ ha) ((hK.2 t0 _ ht).1 n (fun j => .int (f j))) (j := i) (by show (i < 0 ∨ (arrV _ _ _).slots.size ≤ _); rw [arrV_size]; exact Classical.byContradiction hout) (g := F0 m pc ls (.int i :: .ref a :: rest)) rfl (rest := rest) rfl (by rw [hb]; exact hdg) t
  simp only [arrV_size] at h1
  exact h1 st
theorem vx_sastZ {D : va_G} {cl : List vw_C} {ws : va_W} {tys : List (ClassId × FieldType)} {a : Nat} (hexec : p.tables.exec = Jvm.exec) (hb : c.code = cc) (hK : va_K D cl tys s) (hP : va_P D cl ws H) (q0 t0 : Nat) {cA : ClassId} {n : Nat} {f : Nat → Int32} (ha : ws[q0]? = some (a, .inl (cA, n, .inl f))) (ht : tys[t0]? = some (cA, .short)) {i : Int32} {x : Int32} (hout : ¬ vp_in i n) (hdg : decode cc pc = .ok (.sastore, 1))
    (k : ∀ tx : String, tx = (toString "Index " ++ toString i ++ toString " out of bounds for length " ++ toString n : String) → vx_Note p l e R s m args below meth c H locs cells slots Q (F0 m pc ls rest) "java/lang/ArrayIndexOutOfBoundsException" tx) : W p l e R s m args below meth c H locs cells slots Q (F0 m pc ls (.int x :: .int i :: .ref a :: rest)) := by
  intro T hT X
  obtain ⟨t, st, q⟩ := k _ rfl T hT X
  refine ⟨t, ?_, q⟩
  have h1 := X.sastoreOut hexec (by rw [hT]; exact hP q0 _ ha) ((hK.2 t0 _ ht).1 n (fun j => .int (f j))) (j := i) (by show (i < 0 ∨ (arrV _ _ _).slots.size ≤ _); rw [arrV_size]; exact Classical.byContradiction hout) (g := F0 m pc ls (.int x :: .int i :: .ref a :: rest)) rfl (rest := rest) rfl (by rw [hb]; exact hdg) t
  simp only [arrV_size] at h1
  exact h1 st
theorem vx_laldZ {D : va_G} {cl : List vw_C} {ws : va_W} {tys : List (ClassId × FieldType)} {a : Nat} (hexec : p.tables.exec = Jvm.exec) (hb : c.code = cc) (hK : va_K D cl tys s) (hP : va_P D cl ws H) (q0 t0 : Nat) {cA : ClassId} {n : Nat} {f : Nat → Int64} (ha : ws[q0]? = some (a, .inl (cA, n, .inr (.inl f)))) (ht : tys[t0]? = some (cA, .long)) {i : Int32} (hout : ¬ vp_in i n) (hdg : decode cc pc = .ok (.laload, 1))
    (k : ∀ tx : String, tx = (toString "Index " ++ toString i ++ toString " out of bounds for length " ++ toString n : String) → vx_Note p l e R s m args below meth c H locs cells slots Q (F0 m pc ls rest) "java/lang/ArrayIndexOutOfBoundsException" tx) : W p l e R s m args below meth c H locs cells slots Q (F0 m pc ls (.int i :: .ref a :: rest)) := by
  intro T hT X
  obtain ⟨t, st, q⟩ := k _ rfl T hT X
  refine ⟨t, ?_, q⟩
  have h1 := X.laloadOut hexec (by rw [hT]; exact hP q0 _ ha) ((hK.2 t0 _ ht).1 n (fun j => .long (f j))) (j := i) (by show (i < 0 ∨ (arrV _ _ _).slots.size ≤ _); rw [arrV_size]; exact Classical.byContradiction hout) (g := F0 m pc ls (.int i :: .ref a :: rest)) rfl (rest := rest) rfl (by rw [hb]; exact hdg) t
  simp only [arrV_size] at h1
  exact h1 st
theorem vx_lastZ {D : va_G} {cl : List vw_C} {ws : va_W} {tys : List (ClassId × FieldType)} {a : Nat} (hexec : p.tables.exec = Jvm.exec) (hb : c.code = cc) (hK : va_K D cl tys s) (hP : va_P D cl ws H) (q0 t0 : Nat) {cA : ClassId} {n : Nat} {f : Nat → Int64} (ha : ws[q0]? = some (a, .inl (cA, n, .inr (.inl f)))) (ht : tys[t0]? = some (cA, .long)) {i : Int32} {x : Int64} (hout : ¬ vp_in i n) (hdg : decode cc pc = .ok (.lastore, 1))
    (k : ∀ tx : String, tx = (toString "Index " ++ toString i ++ toString " out of bounds for length " ++ toString n : String) → vx_Note p l e R s m args below meth c H locs cells slots Q (F0 m pc ls rest) "java/lang/ArrayIndexOutOfBoundsException" tx) : W p l e R s m args below meth c H locs cells slots Q (F0 m pc ls (.long x :: .int i :: .ref a :: rest)) := by
  intro T hT X
  obtain ⟨t, st, q⟩ := k _ rfl T hT X
  refine ⟨t, ?_, q⟩
  have h1 := X.lastoreOut hexec (by rw [hT]; exact hP q0 _ ha) ((hK.2 t0 _ ht).1 n (fun j => .long (f j))) (j := i) (by show (i < 0 ∨ (arrV _ _ _).slots.size ≤ _); rw [arrV_size]; exact Classical.byContradiction hout) (g := F0 m pc ls (.long x :: .int i :: .ref a :: rest)) rfl (rest := rest) rfl (by rw [hb]; exact hdg) t
  simp only [arrV_size] at h1
  exact h1 st
theorem vx_faldZ {D : va_G} {cl : List vw_C} {ws : va_W} {tys : List (ClassId × FieldType)} {a : Nat} (hexec : p.tables.exec = Jvm.exec) (hb : c.code = cc) (hK : va_K D cl tys s) (hP : va_P D cl ws H) (q0 t0 : Nat) {cA : ClassId} {n : Nat} {f : Nat → UInt32} (ha : ws[q0]? = some (a, .inl (cA, n, .inr (.inr (.inl f))))) (ht : tys[t0]? = some (cA, .float)) {i : Int32} (hout : ¬ vp_in i n) (hdg : decode cc pc = .ok (.faload, 1))
    (k : ∀ tx : String, tx = (toString "Index " ++ toString i ++ toString " out of bounds for length " ++ toString n : String) → vx_Note p l e R s m args below meth c H locs cells slots Q (F0 m pc ls rest) "java/lang/ArrayIndexOutOfBoundsException" tx) : W p l e R s m args below meth c H locs cells slots Q (F0 m pc ls (.int i :: .ref a :: rest)) := by
  intro T hT X
  obtain ⟨t, st, q⟩ := k _ rfl T hT X
  refine ⟨t, ?_, q⟩
  have h1 := X.faloadOut hexec (by rw [hT]; exact hP q0 _ ha) ((hK.2 t0 _ ht).1 n (fun j => .float (f j))) (j := i) (by show (i < 0 ∨ (arrV _ _ _).slots.size ≤ _); rw [arrV_size]; exact Classical.byContradiction hout) (g := F0 m pc ls (.int i :: .ref a :: rest)) rfl (rest := rest) rfl (by rw [hb]; exact hdg) t
  simp only [arrV_size] at h1
  exact h1 st
theorem vx_fastZ {D : va_G} {cl : List vw_C} {ws : va_W} {tys : List (ClassId × FieldType)} {a : Nat} (hexec : p.tables.exec = Jvm.exec) (hb : c.code = cc) (hK : va_K D cl tys s) (hP : va_P D cl ws H) (q0 t0 : Nat) {cA : ClassId} {n : Nat} {f : Nat → UInt32} (ha : ws[q0]? = some (a, .inl (cA, n, .inr (.inr (.inl f))))) (ht : tys[t0]? = some (cA, .float)) {i : Int32} {x : UInt32} (hout : ¬ vp_in i n) (hdg : decode cc pc = .ok (.fastore, 1))
    (k : ∀ tx : String, tx = (toString "Index " ++ toString i ++ toString " out of bounds for length " ++ toString n : String) → vx_Note p l e R s m args below meth c H locs cells slots Q (F0 m pc ls rest) "java/lang/ArrayIndexOutOfBoundsException" tx) : W p l e R s m args below meth c H locs cells slots Q (F0 m pc ls (.float x :: .int i :: .ref a :: rest)) := by
  intro T hT X
  obtain ⟨t, st, q⟩ := k _ rfl T hT X
  refine ⟨t, ?_, q⟩
  have h1 := X.fastoreOut hexec (by rw [hT]; exact hP q0 _ ha) ((hK.2 t0 _ ht).1 n (fun j => .float (f j))) (j := i) (by show (i < 0 ∨ (arrV _ _ _).slots.size ≤ _); rw [arrV_size]; exact Classical.byContradiction hout) (g := F0 m pc ls (.float x :: .int i :: .ref a :: rest)) rfl (rest := rest) rfl (by rw [hb]; exact hdg) t
  simp only [arrV_size] at h1
  exact h1 st
theorem vx_daldZ {D : va_G} {cl : List vw_C} {ws : va_W} {tys : List (ClassId × FieldType)} {a : Nat} (hexec : p.tables.exec = Jvm.exec) (hb : c.code = cc) (hK : va_K D cl tys s) (hP : va_P D cl ws H) (q0 t0 : Nat) {cA : ClassId} {n : Nat} {f : Nat → UInt64} (ha : ws[q0]? = some (a, .inl (cA, n, .inr (.inr (.inr (.inl f)))))) (ht : tys[t0]? = some (cA, .double)) {i : Int32} (hout : ¬ vp_in i n) (hdg : decode cc pc = .ok (.daload, 1))
    (k : ∀ tx : String, tx = (toString "Index " ++ toString i ++ toString " out of bounds for length " ++ toString n : String) → vx_Note p l e R s m args below meth c H locs cells slots Q (F0 m pc ls rest) "java/lang/ArrayIndexOutOfBoundsException" tx) : W p l e R s m args below meth c H locs cells slots Q (F0 m pc ls (.int i :: .ref a :: rest)) := by
  intro T hT X
  obtain ⟨t, st, q⟩ := k _ rfl T hT X
  refine ⟨t, ?_, q⟩
  have h1 := X.daloadOut hexec (by rw [hT]; exact hP q0 _ ha) ((hK.2 t0 _ ht).1 n (fun j => .double (f j))) (j := i) (by show (i < 0 ∨ (arrV _ _ _).slots.size ≤ _); rw [arrV_size]; exact Classical.byContradiction hout) (g := F0 m pc ls (.int i :: .ref a :: rest)) rfl (rest := rest) rfl (by rw [hb]; exact hdg) t
  simp only [arrV_size] at h1
  exact h1 st
theorem vx_dastZ {D : va_G} {cl : List vw_C} {ws : va_W} {tys : List (ClassId × FieldType)} {a : Nat} (hexec : p.tables.exec = Jvm.exec) (hb : c.code = cc) (hK : va_K D cl tys s) (hP : va_P D cl ws H) (q0 t0 : Nat) {cA : ClassId} {n : Nat} {f : Nat → UInt64} (ha : ws[q0]? = some (a, .inl (cA, n, .inr (.inr (.inr (.inl f)))))) (ht : tys[t0]? = some (cA, .double)) {i : Int32} {x : UInt64} (hout : ¬ vp_in i n) (hdg : decode cc pc = .ok (.dastore, 1))
    (k : ∀ tx : String, tx = (toString "Index " ++ toString i ++ toString " out of bounds for length " ++ toString n : String) → vx_Note p l e R s m args below meth c H locs cells slots Q (F0 m pc ls rest) "java/lang/ArrayIndexOutOfBoundsException" tx) : W p l e R s m args below meth c H locs cells slots Q (F0 m pc ls (.double x :: .int i :: .ref a :: rest)) := by
  intro T hT X
  obtain ⟨t, st, q⟩ := k _ rfl T hT X
  refine ⟨t, ?_, q⟩
  have h1 := X.dastoreOut hexec (by rw [hT]; exact hP q0 _ ha) ((hK.2 t0 _ ht).1 n (fun j => .double (f j))) (j := i) (by show (i < 0 ∨ (arrV _ _ _).slots.size ≤ _); rw [arrV_size]; exact Classical.byContradiction hout) (g := F0 m pc ls (.double x :: .int i :: .ref a :: rest)) rfl (rest := rest) rfl (by rw [hb]; exact hdg) t
  simp only [arrV_size] at h1
  exact h1 st
theorem vx_arraylengthN (hexec : p.tables.exec = Jvm.exec) (hb : c.code = cc) (hdg : decode cc pc = .ok (.arraylength, 1)) (k : vx_NoteN p l e R s m args below meth c H locs cells slots Q (F0 m pc ls rest)) : W p l e R s m args below meth c H locs cells slots Q (F0 m pc ls (.null :: rest)) := by
  intro T hT X
  obtain ⟨t, st, q⟩ := k T hT X
  exact ⟨t, X.arraylengthNull hexec (g := F0 m pc ls (.null :: rest)) rfl (rest := rest) rfl (by rw [hb]; exact hdg) t st, q⟩
theorem vx_ialoadN (hexec : p.tables.exec = Jvm.exec) (hb : c.code = cc) {i : Int32} (hdg : decode cc pc = .ok (.iaload, 1)) (k : vx_NoteN p l e R s m args below meth c H locs cells slots Q (F0 m pc ls rest)) : W p l e R s m args below meth c H locs cells slots Q (F0 m pc ls (.int i :: .null :: rest)) := by
  intro T hT X
  obtain ⟨t, st, q⟩ := k T hT X
  exact ⟨t, X.ialoadNull hexec (g := F0 m pc ls (.int i :: .null :: rest)) rfl (rest := rest) rfl (by rw [hb]; exact hdg) t st, q⟩
theorem vx_laloadN (hexec : p.tables.exec = Jvm.exec) (hb : c.code = cc) {i : Int32} (hdg : decode cc pc = .ok (.laload, 1)) (k : vx_NoteN p l e R s m args below meth c H locs cells slots Q (F0 m pc ls rest)) : W p l e R s m args below meth c H locs cells slots Q (F0 m pc ls (.int i :: .null :: rest)) := by
  intro T hT X
  obtain ⟨t, st, q⟩ := k T hT X
  exact ⟨t, X.laloadNull hexec (g := F0 m pc ls (.int i :: .null :: rest)) rfl (rest := rest) rfl (by rw [hb]; exact hdg) t st, q⟩
theorem vx_faloadN (hexec : p.tables.exec = Jvm.exec) (hb : c.code = cc) {i : Int32} (hdg : decode cc pc = .ok (.faload, 1)) (k : vx_NoteN p l e R s m args below meth c H locs cells slots Q (F0 m pc ls rest)) : W p l e R s m args below meth c H locs cells slots Q (F0 m pc ls (.int i :: .null :: rest)) := by
  intro T hT X
  obtain ⟨t, st, q⟩ := k T hT X
  exact ⟨t, X.faloadNull hexec (g := F0 m pc ls (.int i :: .null :: rest)) rfl (rest := rest) rfl (by rw [hb]; exact hdg) t st, q⟩
theorem vx_daloadN (hexec : p.tables.exec = Jvm.exec) (hb : c.code = cc) {i : Int32} (hdg : decode cc pc = .ok (.daload, 1)) (k : vx_NoteN p l e R s m args below meth c H locs cells slots Q (F0 m pc ls rest)) : W p l e R s m args below meth c H locs cells slots Q (F0 m pc ls (.int i :: .null :: rest)) := by
  intro T hT X
  obtain ⟨t, st, q⟩ := k T hT X
  exact ⟨t, X.daloadNull hexec (g := F0 m pc ls (.int i :: .null :: rest)) rfl (rest := rest) rfl (by rw [hb]; exact hdg) t st, q⟩
theorem vx_aaloadN (hexec : p.tables.exec = Jvm.exec) (hb : c.code = cc) {i : Int32} (hdg : decode cc pc = .ok (.aaload, 1)) (k : vx_NoteN p l e R s m args below meth c H locs cells slots Q (F0 m pc ls rest)) : W p l e R s m args below meth c H locs cells slots Q (F0 m pc ls (.int i :: .null :: rest)) := by
  intro T hT X
  obtain ⟨t, st, q⟩ := k T hT X
  exact ⟨t, X.aaloadNull hexec (g := F0 m pc ls (.int i :: .null :: rest)) rfl (rest := rest) rfl (by rw [hb]; exact hdg) t st, q⟩
theorem vx_baloadN (hexec : p.tables.exec = Jvm.exec) (hb : c.code = cc) {i : Int32} (hdg : decode cc pc = .ok (.baload, 1)) (k : vx_NoteN p l e R s m args below meth c H locs cells slots Q (F0 m pc ls rest)) : W p l e R s m args below meth c H locs cells slots Q (F0 m pc ls (.int i :: .null :: rest)) := by
  intro T hT X
  obtain ⟨t, st, q⟩ := k T hT X
  exact ⟨t, X.baloadNull hexec (g := F0 m pc ls (.int i :: .null :: rest)) rfl (rest := rest) rfl (by rw [hb]; exact hdg) t st, q⟩
theorem vx_caloadN (hexec : p.tables.exec = Jvm.exec) (hb : c.code = cc) {i : Int32} (hdg : decode cc pc = .ok (.caload, 1)) (k : vx_NoteN p l e R s m args below meth c H locs cells slots Q (F0 m pc ls rest)) : W p l e R s m args below meth c H locs cells slots Q (F0 m pc ls (.int i :: .null :: rest)) := by
  intro T hT X
  obtain ⟨t, st, q⟩ := k T hT X
  exact ⟨t, X.caloadNull hexec (g := F0 m pc ls (.int i :: .null :: rest)) rfl (rest := rest) rfl (by rw [hb]; exact hdg) t st, q⟩
theorem vx_saloadN (hexec : p.tables.exec = Jvm.exec) (hb : c.code = cc) {i : Int32} (hdg : decode cc pc = .ok (.saload, 1)) (k : vx_NoteN p l e R s m args below meth c H locs cells slots Q (F0 m pc ls rest)) : W p l e R s m args below meth c H locs cells slots Q (F0 m pc ls (.int i :: .null :: rest)) := by
  intro T hT X
  obtain ⟨t, st, q⟩ := k T hT X
  exact ⟨t, X.saloadNull hexec (g := F0 m pc ls (.int i :: .null :: rest)) rfl (rest := rest) rfl (by rw [hb]; exact hdg) t st, q⟩
theorem vx_iastoreN (hexec : p.tables.exec = Jvm.exec) (hb : c.code = cc) {x : Int32} {i : Int32} (hdg : decode cc pc = .ok (.iastore, 1)) (k : vx_NoteN p l e R s m args below meth c H locs cells slots Q (F0 m pc ls rest)) : W p l e R s m args below meth c H locs cells slots Q (F0 m pc ls (.int x :: .int i :: .null :: rest)) := by
  intro T hT X
  obtain ⟨t, st, q⟩ := k T hT X
  exact ⟨t, X.iastoreNull hexec (g := F0 m pc ls (.int x :: .int i :: .null :: rest)) rfl (rest := rest) rfl (by rw [hb]; exact hdg) t st, q⟩
theorem vx_lastoreN (hexec : p.tables.exec = Jvm.exec) (hb : c.code = cc) {x : Int64} {i : Int32} (hdg : decode cc pc = .ok (.lastore, 1)) (k : vx_NoteN p l e R s m args below meth c H locs cells slots Q (F0 m pc ls rest)) : W p l e R s m args below meth c H locs cells slots Q (F0 m pc ls (.long x :: .int i :: .null :: rest)) := by
  intro T hT X
  obtain ⟨t, st, q⟩ := k T hT X
  exact ⟨t, X.lastoreNull hexec (g := F0 m pc ls (.long x :: .int i :: .null :: rest)) rfl (rest := rest) rfl (by rw [hb]; exact hdg) t st, q⟩
theorem vx_fastoreN (hexec : p.tables.exec = Jvm.exec) (hb : c.code = cc) {x : UInt32} {i : Int32} (hdg : decode cc pc = .ok (.fastore, 1)) (k : vx_NoteN p l e R s m args below meth c H locs cells slots Q (F0 m pc ls rest)) : W p l e R s m args below meth c H locs cells slots Q (F0 m pc ls (.float x :: .int i :: .null :: rest)) := by
  intro T hT X
  obtain ⟨t, st, q⟩ := k T hT X
  exact ⟨t, X.fastoreNull hexec (g := F0 m pc ls (.float x :: .int i :: .null :: rest)) rfl (rest := rest) rfl (by rw [hb]; exact hdg) t st, q⟩
theorem vx_dastoreN (hexec : p.tables.exec = Jvm.exec) (hb : c.code = cc) {x : UInt64} {i : Int32} (hdg : decode cc pc = .ok (.dastore, 1)) (k : vx_NoteN p l e R s m args below meth c H locs cells slots Q (F0 m pc ls rest)) : W p l e R s m args below meth c H locs cells slots Q (F0 m pc ls (.double x :: .int i :: .null :: rest)) := by
  intro T hT X
  obtain ⟨t, st, q⟩ := k T hT X
  exact ⟨t, X.dastoreNull hexec (g := F0 m pc ls (.double x :: .int i :: .null :: rest)) rfl (rest := rest) rfl (by rw [hb]; exact hdg) t st, q⟩
theorem vx_bastoreN (hexec : p.tables.exec = Jvm.exec) (hb : c.code = cc) {x : Int32} {i : Int32} (hdg : decode cc pc = .ok (.bastore, 1)) (k : vx_NoteN p l e R s m args below meth c H locs cells slots Q (F0 m pc ls rest)) : W p l e R s m args below meth c H locs cells slots Q (F0 m pc ls (.int x :: .int i :: .null :: rest)) := by
  intro T hT X
  obtain ⟨t, st, q⟩ := k T hT X
  exact ⟨t, X.bastoreNull hexec (g := F0 m pc ls (.int x :: .int i :: .null :: rest)) rfl (rest := rest) rfl (by rw [hb]; exact hdg) t st, q⟩
theorem vx_castoreN (hexec : p.tables.exec = Jvm.exec) (hb : c.code = cc) {x : Int32} {i : Int32} (hdg : decode cc pc = .ok (.castore, 1)) (k : vx_NoteN p l e R s m args below meth c H locs cells slots Q (F0 m pc ls rest)) : W p l e R s m args below meth c H locs cells slots Q (F0 m pc ls (.int x :: .int i :: .null :: rest)) := by
  intro T hT X
  obtain ⟨t, st, q⟩ := k T hT X
  exact ⟨t, X.castoreNull hexec (g := F0 m pc ls (.int x :: .int i :: .null :: rest)) rfl (rest := rest) rfl (by rw [hb]; exact hdg) t st, q⟩
theorem vx_sastoreN (hexec : p.tables.exec = Jvm.exec) (hb : c.code = cc) {x : Int32} {i : Int32} (hdg : decode cc pc = .ok (.sastore, 1)) (k : vx_NoteN p l e R s m args below meth c H locs cells slots Q (F0 m pc ls rest)) : W p l e R s m args below meth c H locs cells slots Q (F0 m pc ls (.int x :: .int i :: .null :: rest)) := by
  intro T hT X
  obtain ⟨t, st, q⟩ := k T hT X
  exact ⟨t, X.sastoreNull hexec (g := F0 m pc ls (.int x :: .int i :: .null :: rest)) rfl (rest := rest) rfl (by rw [hb]; exact hdg) t st, q⟩
theorem vx_invokeN {own C : String} {index maxL : Nat} {y : MethodName} {bytes : ByteArray} {ret : Option FieldType} (hexec : p.tables.exec = Jvm.exec) (hb : c.code = cc) (hown : s.vm.findClass own = some m.cls) (hlink : (Cond.methodLink own index y).before args s = true) (hinst : (Cond.instanceMethod y).before args s = true) (hcode : (Cond.code y bytes maxL ret).before args s = true) (hsel : (Cond.selects C y y).before args s = true)
    (hx : y.cls ≠ "java/lang/invoke/MethodHandle" ∧ y.cls ≠ "java/lang/invoke/VarHandle") {As : List Value} (hlen : (parseMethodDescriptor y.desc).map (fun d => d.parameters.length) = some As.length) (hdg : decode cc pc = .ok (.invokevirtual index, 3))
    (k : vx_NoteN p l e R s m args below meth c H locs cells slots Q (F0 m pc ls rest)) {st0 : List Value} (hst : st0 = As.reverse ++ .null :: rest) : W p l e R s m args below meth c H locs cells slots Q (F0 m pc ls st0) := by
  intro T hT X
  obtain ⟨r0, r, hn, hrm, hstR, hsigR⟩ := va_Decl.of hinst hcode
  obtain ⟨c2, r2, m2, q1, q2, q3, q4, kP, hkP, hkPi⟩ := Cond.selects_spec hsel
  cases hn.symm.trans q3
  have hl9 : As.length = r.sig.parameters.length := by
    rw [hsigR] at hlen
    exact (Option.some.inj hlen).symm
  obtain ⟨vm', X1, st1⟩ := X.invokevirtualNull hexec hown hlink hn hrm hstR hkP hkPi hx (g := F0 m pc ls st0) rfl (argsL := As) (rest := rest) hl9 hst (by rw [hb]; exact hdg)
  obtain ⟨t, st, q⟩ := k (T.setVm vm') hT X1
  exact ⟨t, st1 t st, q⟩
theorem vx_newarrayZ {atype : ArrayType} (hexec : p.tables.exec = Jvm.exec) (hb : c.code = cc) {n : Int32} (h0 : n < 0) (hdg : decode cc pc = .ok (.newarray atype, 2)) (k : ∀ tx : String, tx = toString n → vx_Note p l e R s m args below meth c H locs cells slots Q (F0 m pc ls rest) "java/lang/NegativeArraySizeException" tx) : W p l e R s m args below meth c H locs cells slots Q (F0 m pc ls (.int n :: rest)) := by
  intro T hT X
  obtain ⟨t, st, q⟩ := k _ rfl T hT X
  exact ⟨t, X.newarrayNegative hexec (g := F0 m pc ls (.int n :: rest)) rfl h0 (rest := rest) rfl (by rw [hb]; exact hdg) t st, q⟩
end
end VXM
/-! ===== END ===== -/
end
section
def RX0 : String := "RiverReaches$1"
def TX0 : u_T := fun k => match k with
  | _ => ("", "", "", false)
def tyX0 : Nat → FieldType := fun k => match k with
  | _ => .int
theorem nmX0 : ∀ a, a < 0 → ∀ b, b < 0 → a ≠ b → (TX0 a).2.1 ≠ (TX0 b).2.1 := by decide +kernel
theorem tyX0_ok : ∀ k, k < 0 → parseFieldDescriptor (TX0 k).2.2.1 = some (tyX0 k) := by decide +kernel
def RX1 : String := "RiverReaches$Command"
def TX1 : u_T := fun k => match k with
  | 0 => ("RiverReaches$Command", "kind", "LRiverReaches$Kind;", false)
  | 1 => ("RiverReaches$Command", "first", "I", false)
  | 2 => ("RiverReaches$Command", "second", "I", false)
  | _ => ("RiverReaches$Command", "third", "I", false)
def tyX1 : Nat → FieldType := fun k => match k with
  | 0 => .object "RiverReaches$Kind"
  | 1 => .int
  | 2 => .int
  | _ => .int
theorem nmX1 : ∀ a, a < 4 → ∀ b, b < 4 → a ≠ b → (TX1 a).2.1 ≠ (TX1 b).2.1 := by decide +kernel
theorem tyX1_ok : ∀ k, k < 4 → parseFieldDescriptor (TX1 k).2.2.1 = some (tyX1 k) := by decide +kernel
abbrev cX1_init : ByteArray := prog_3_method_1_code
def yX1_init : MethodName := ⟨RX1, "<init>", "()V"⟩
abbrev cX1_put : ByteArray := prog_3_method_2_code
def yX1_put : MethodName := ⟨RX1, "put", "(II)V"⟩
def RX2 : String := "RiverReaches$Denial"
def TX2 : u_T := fun k => match k with
  | 0 => ("RiverReaches$Denial", "number", "I", false)
  | 1 => ("RiverReaches$Denial", "detail", "I", false)
  | 2 => ("RiverReaches$Denial", "cause", "I", false)
  | _ => ("RiverReaches$Denial", "causeDetail", "I", false)
def tyX2 : Nat → FieldType := fun k => match k with
  | 0 => .int
  | 1 => .int
  | 2 => .int
  | _ => .int
theorem nmX2 : ∀ a, a < 4 → ∀ b, b < 4 → a ≠ b → (TX2 a).2.1 ≠ (TX2 b).2.1 := by decide +kernel
theorem tyX2_ok : ∀ k, k < 4 → parseFieldDescriptor (TX2 k).2.2.1 = some (tyX2 k) := by decide +kernel
abbrev cX2_init : ByteArray := prog_4_method_1_code
def yX2_init : MethodName := ⟨RX2, "<init>", "()V"⟩
abbrev cX2_keep : ByteArray := prog_4_method_2_code
def yX2_keep : MethodName := ⟨RX2, "keep", "(IIII)V"⟩
def RX3 : String := "RiverReaches$History"
def TX3 : u_T := fun k => match k with
  | 0 => ("RiverReaches$History", "rows", "[LRiverReaches$River;", true)
  | 1 => ("RiverReaches$History", "next", "I", false)
  | _ => ("RiverReaches$History", "count", "I", false)
def tyX3 : Nat → FieldType := fun k => match k with
  | 0 => .array (.object "RiverReaches$River")
  | 1 => .int
  | _ => .int
theorem nmX3 : ∀ a, a < 3 → ∀ b, b < 3 → a ≠ b → (TX3 a).2.1 ≠ (TX3 b).2.1 := by decide +kernel
theorem tyX3_ok : ∀ k, k < 3 → parseFieldDescriptor (TX3 k).2.2.1 = some (tyX3 k) := by decide +kernel
abbrev cX3_init : ByteArray := prog_5_method_1_code
def yX3_init : MethodName := ⟨RX3, "<init>", "()V"⟩
abbrev cX3_nextRow : ByteArray := prog_5_method_2_code
def yX3_nextRow : MethodName := ⟨RX3, "nextRow", "()LRiverReaches$River;"⟩
abbrev cX3_note : ByteArray := prog_5_method_3_code
def yX3_note : MethodName := ⟨RX3, "note", "(LRiverReaches$River;)V"⟩
abbrev cX3_confirm : ByteArray := prog_5_method_4_code
def yX3_confirm : MethodName := ⟨RX3, "confirm", "()V"⟩
abbrev cX3_putBack : ByteArray := prog_5_method_5_code
def yX3_putBack : MethodName := ⟨RX3, "putBack", "(LRiverReaches$River;)V"⟩
abbrev cX3_takeBack : ByteArray := prog_5_method_6_code
def yX3_takeBack : MethodName := ⟨RX3, "takeBack", "(LRiverReaches$River;)V"⟩
abbrev cX3_forgetAll : ByteArray := prog_5_method_7_code
def yX3_forgetAll : MethodName := ⟨RX3, "forgetAll", "()V"⟩
def RX4 : String := "RiverReaches$Kind"
def TX4 : u_T := fun k => match k with
  | _ => ("", "", "", false)
def tyX4 : Nat → FieldType := fun k => match k with
  | _ => .int
theorem nmX4 : ∀ a, a < 0 → ∀ b, b < 0 → a ≠ b → (TX4 a).2.1 ≠ (TX4 b).2.1 := by decide +kernel
theorem tyX4_ok : ∀ k, k < 0 → parseFieldDescriptor (TX4 k).2.2.1 = some (tyX4 k) := by decide +kernel
def RX5 : String := "RiverReaches$Pulse"
def TX5 : u_T := fun k => match k with
  | 0 => ("RiverReaches$Pulse", "first", "I", false)
  | 1 => ("RiverReaches$Pulse", "hours", "I", false)
  | _ => ("RiverReaches$Pulse", "rate", "I", false)
def tyX5 : Nat → FieldType := fun k => match k with
  | 0 => .int
  | 1 => .int
  | _ => .int
theorem nmX5 : ∀ a, a < 3 → ∀ b, b < 3 → a ≠ b → (TX5 a).2.1 ≠ (TX5 b).2.1 := by decide +kernel
theorem tyX5_ok : ∀ k, k < 3 → parseFieldDescriptor (TX5 k).2.2.1 = some (tyX5 k) := by decide +kernel
abbrev cX5_init : ByteArray := prog_7_method_1_code
def yX5_init : MethodName := ⟨RX5, "<init>", "()V"⟩
abbrev cX5_begin : ByteArray := prog_7_method_2_code
def yX5_begin : MethodName := ⟨RX5, "begin", "(III)V"⟩
abbrev cX5_end : ByteArray := prog_7_method_3_code
def yX5_end : MethodName := ⟨RX5, "end", "()I"⟩
abbrev cX5_rateIn : ByteArray := prog_7_method_4_code
def yX5_rateIn : MethodName := ⟨RX5, "rateIn", "(I)I"⟩
def RX6 : String := "RiverReaches$Reach"
def TX6 : u_T := fun k => match k with
  | 0 => ("RiverReaches$Reach", "surface", "I", false)
  | 1 => ("RiverReaches$Reach", "percentage", "I", false)
  | 2 => ("RiverReaches$Reach", "capacity", "I", false)
  | 3 => ("RiverReaches$Reach", "lateral", "I", false)
  | 4 => ("RiverReaches$Reach", "volume", "I", false)
  | 5 => ("RiverReaches$Reach", "warning", "I", false)
  | 6 => ("RiverReaches$Reach", "flood", "I", false)
  | 7 => ("RiverReaches$Reach", "setting", "I", false)
  | 8 => ("RiverReaches$Reach", "rule", "C", false)
  | 9 => ("RiverReaches$Reach", "statusBefore", "I", false)
  | _ => ("RiverReaches$Reach", "leaving", "I", false)
def tyX6 : Nat → FieldType := fun k => match k with
  | 0 => .int
  | 1 => .int
  | 2 => .int
  | 3 => .int
  | 4 => .int
  | 5 => .int
  | 6 => .int
  | 7 => .int
  | 8 => .char
  | 9 => .int
  | _ => .int
theorem nmX6 : ∀ a, a < 11 → ∀ b, b < 11 → a ≠ b → (TX6 a).2.1 ≠ (TX6 b).2.1 := by decide +kernel
theorem tyX6_ok : ∀ k, k < 11 → parseFieldDescriptor (TX6 k).2.2.1 = some (tyX6 k) := by decide +kernel
abbrev cX6_init : ByteArray := prog_8_method_1_code
def yX6_init : MethodName := ⟨RX6, "<init>", "()V"⟩
abbrev cX6_begin : ByteArray := prog_8_method_2_code
def yX6_begin : MethodName := ⟨RX6, "begin", "(III)V"⟩
abbrev cX6_copyFrom : ByteArray := prog_8_method_3_code
def yX6_copyFrom : MethodName := ⟨RX6, "copyFrom", "(LRiverReaches$Reach;)V"⟩
abbrev cX6_levelNow : ByteArray := prog_8_method_4_code
def yX6_levelNow : MethodName := ⟨RX6, "levelNow", "()I"⟩
abbrev cX6_statusNow : ByteArray := prog_8_method_5_code
def yX6_statusNow : MethodName := ⟨RX6, "statusNow", "()I"⟩
abbrev cX6_comesBefore : ByteArray := prog_8_method_6_code
def yX6_comesBefore : MethodName := ⟨RX6, "comesBefore", "(LRiverReaches$Reach;)Z"⟩
def RX7 : String := "RiverReaches$River"
def TX7 : u_T := fun k => match k with
  | 0 => ("RiverReaches$River", "reaches", "[LRiverReaches$Reach;", true)
  | 1 => ("RiverReaches$River", "pulses", "[LRiverReaches$Pulse;", true)
  | 2 => ("RiverReaches$River", "reachCount", "I", false)
  | 3 => ("RiverReaches$River", "pulseCount", "I", false)
  | 4 => ("RiverReaches$River", "hour", "I", false)
  | 5 => ("RiverReaches$River", "totalIn", "I", false)
  | 6 => ("RiverReaches$River", "totalOut", "I", false)
  | _ => ("RiverReaches$River", "alarms", "I", false)
def tyX7 : Nat → FieldType := fun k => match k with
  | 0 => .array (.object "RiverReaches$Reach")
  | 1 => .array (.object "RiverReaches$Pulse")
  | 2 => .int
  | 3 => .int
  | 4 => .int
  | 5 => .int
  | 6 => .int
  | _ => .int
theorem nmX7 : ∀ a, a < 8 → ∀ b, b < 8 → a ≠ b → (TX7 a).2.1 ≠ (TX7 b).2.1 := by decide +kernel
theorem tyX7_ok : ∀ k, k < 8 → parseFieldDescriptor (TX7 k).2.2.1 = some (tyX7 k) := by decide +kernel
abbrev cX7_init : ByteArray := prog_9_method_1_code
def yX7_init : MethodName := ⟨RX7, "<init>", "()V"⟩
abbrev cX7_copyFrom : ByteArray := prog_9_method_2_code
def yX7_copyFrom : MethodName := ⟨RX7, "copyFrom", "(LRiverReaches$River;)V"⟩
abbrev cX7_hasReach : ByteArray := prog_9_method_3_code
def yX7_hasReach : MethodName := ⟨RX7, "hasReach", "(I)Z"⟩
abbrev cX7_row : ByteArray := prog_9_method_4_code
def yX7_row : MethodName := ⟨RX7, "row", "(I)LRiverReaches$Reach;"⟩
abbrev cX7_perform : ByteArray := prog_9_method_5_code
def yX7_perform : MethodName := ⟨RX7, "perform", "(LRiverReaches$Command;)I"⟩
abbrev cX7_detailOf : ByteArray := prog_9_method_6_code
def yX7_detailOf : MethodName := ⟨RX7, "detailOf", "(II)I"⟩
abbrev cX7_appendReach : ByteArray := prog_9_method_7_code
def yX7_appendReach : MethodName := ⟨RX7, "appendReach", "(III)I"⟩
abbrev cX7_cutReach : ByteArray := prog_9_method_8_code
def yX7_cutReach : MethodName := ⟨RX7, "cutReach", "()I"⟩
abbrev cX7_changeLateral : ByteArray := prog_9_method_9_code
def yX7_changeLateral : MethodName := ⟨RX7, "changeLateral", "(II)I"⟩
abbrev cX7_pourInto : ByteArray := prog_9_method_10_code
def yX7_pourInto : MethodName := ⟨RX7, "pourInto", "(II)I"⟩
abbrev cX7_changeStages : ByteArray := prog_9_method_11_code
def yX7_changeStages : MethodName := ⟨RX7, "changeStages", "(III)I"⟩
abbrev cX7_changeSetting : ByteArray := prog_9_method_12_code
def yX7_changeSetting : MethodName := ⟨RX7, "changeSetting", "(II)I"⟩
abbrev cX7_changeRule : ByteArray := prog_9_method_13_code
def yX7_changeRule : MethodName := ⟨RX7, "changeRule", "(IC)I"⟩
abbrev cX7_appendPulse : ByteArray := prog_9_method_14_code
def yX7_appendPulse : MethodName := ⟨RX7, "appendPulse", "(III)I"⟩
abbrev cX7_letPass : ByteArray := prog_9_method_15_code
def yX7_letPass : MethodName := ⟨RX7, "letPass", "(I)I"⟩
abbrev cX7_passHour : ByteArray := prog_9_method_16_code
def yX7_passHour : MethodName := ⟨RX7, "passHour", "()I"⟩
abbrev cX7_dropPassedPulses : ByteArray := prog_9_method_17_code
def yX7_dropPassedPulses : MethodName := ⟨RX7, "dropPassedPulses", "()V"⟩
abbrev cX7_inflowOf : ByteArray := prog_9_method_18_code
def yX7_inflowOf : MethodName := ⟨RX7, "inflowOf", "(I)I"⟩
abbrev cX7_outflowOf : ByteArray := prog_9_method_19_code
def yX7_outflowOf : MethodName := ⟨RX7, "outflowOf", "(I)I"⟩
abbrev cX7_openingOf : ByteArray := prog_9_method_20_code
def yX7_openingOf : MethodName := ⟨RX7, "openingOf", "(I)I"⟩
abbrev cX7_headInflowIn : ByteArray := prog_9_method_21_code
def yX7_headInflowIn : MethodName := ⟨RX7, "headInflowIn", "(I)I"⟩
abbrev cX7_comingByHours : ByteArray := prog_9_method_22_code
def yX7_comingByHours : MethodName := ⟨RX7, "comingByHours", "()I"⟩
abbrev cX7_countAhead : ByteArray := prog_9_method_24_code
def yX7_countAhead : MethodName := ⟨RX7, "countAhead", "(I)I"⟩
abbrev cX7_volumeOfAll : ByteArray := prog_9_method_25_code
def yX7_volumeOfAll : MethodName := ⟨RX7, "volumeOfAll", "()I"⟩
abbrev cX7_sumOfLevels : ByteArray := prog_9_method_26_code
def yX7_sumOfLevels : MethodName := ⟨RX7, "sumOfLevels", "()I"⟩
abbrev cX7_countFlooded : ByteArray := prog_9_method_27_code
def yX7_countFlooded : MethodName := ⟨RX7, "countFlooded", "()I"⟩
def RX8 : String := "RiverReaches$Text"
def TX8 : u_T := fun k => match k with
  | 0 => ("RiverReaches$Text", "signs", "[C", true)
  | 1 => ("RiverReaches$Text", "commands", "[LRiverReaches$Command;", true)
  | 2 => ("RiverReaches$Text", "length", "I", false)
  | 3 => ("RiverReaches$Text", "position", "I", false)
  | _ => ("RiverReaches$Text", "commandCount", "I", false)
def tyX8 : Nat → FieldType := fun k => match k with
  | 0 => .array .char
  | 1 => .array (.object "RiverReaches$Command")
  | 2 => .int
  | 3 => .int
  | _ => .int
theorem nmX8 : ∀ a, a < 5 → ∀ b, b < 5 → a ≠ b → (TX8 a).2.1 ≠ (TX8 b).2.1 := by decide +kernel
theorem tyX8_ok : ∀ k, k < 5 → parseFieldDescriptor (TX8 k).2.2.1 = some (tyX8 k) := by decide +kernel
abbrev cX8_init : ByteArray := prog_10_method_1_code
def yX8_init : MethodName := ⟨RX8, "<init>", "()V"⟩
abbrev cX8_isFull : ByteArray := prog_10_method_2_code
def yX8_isFull : MethodName := ⟨RX8, "isFull", "()Z"⟩
abbrev cX8_append : ByteArray := prog_10_method_3_code
def yX8_append : MethodName := ⟨RX8, "append", "(C)I"⟩
abbrev cX8_empty : ByteArray := prog_10_method_4_code
def yX8_empty : MethodName := ⟨RX8, "empty", "()V"⟩
abbrev cX8_commandAt : ByteArray := prog_10_method_5_code
def yX8_commandAt : MethodName := ⟨RX8, "commandAt", "(I)LRiverReaches$Command;"⟩
abbrev cX8_parse : ByteArray := prog_10_method_6_code
def yX8_parse : MethodName := ⟨RX8, "parse", "()I"⟩
abbrev cX8_takeCommand : ByteArray := prog_10_method_7_code
def yX8_takeCommand : MethodName := ⟨RX8, "takeCommand", "(LRiverReaches$Command;)Z"⟩
abbrev cX8_takeWord : ByteArray := prog_10_method_8_code
def yX8_takeWord : MethodName := ⟨RX8, "takeWord", "()LRiverReaches$Kind;"⟩
abbrev cX8_sharedLength : ByteArray := prog_10_method_9_code
def yX8_sharedLength : MethodName := ⟨RX8, "sharedLength", "(Ljava/lang/String;)I"⟩
abbrev cX8_takeParameter : ByteArray := prog_10_method_10_code
def yX8_takeParameter : MethodName := ⟨RX8, "takeParameter", "(C)I"⟩
abbrev cX8_takeLetter : ByteArray := prog_10_method_11_code
def yX8_takeLetter : MethodName := ⟨RX8, "takeLetter", "()I"⟩
abbrev cX8_takeDigits : ByteArray := prog_10_method_12_code
def yX8_takeDigits : MethodName := ⟨RX8, "takeDigits", "(I)I"⟩
abbrev cX8_takeSign : ByteArray := prog_10_method_13_code
def yX8_takeSign : MethodName := ⟨RX8, "takeSign", "(C)Z"⟩
abbrev cX8_signAt : ByteArray := prog_10_method_14_code
def yX8_signAt : MethodName := ⟨RX8, "signAt", "(I)I"⟩
def RX9 : String := "RiverReaches"
def TX9 : u_T := fun k => match k with
  | 0 => ("RiverReaches", "river", "LRiverReaches$River;", true)
  | 1 => ("RiverReaches", "forecast", "LRiverReaches$River;", true)
  | 2 => ("RiverReaches", "snapshot", "LRiverReaches$River;", true)
  | 3 => ("RiverReaches", "history", "LRiverReaches$History;", true)
  | 4 => ("RiverReaches", "text", "LRiverReaches$Text;", true)
  | 5 => ("RiverReaches", "latest", "LRiverReaches$Denial;", true)
  | 6 => ("RiverReaches", "line", "Ljava/lang/StringBuilder;", true)
  | 7 => ("RiverReaches", "hasSnapshot", "Z", false)
  | _ => ("RiverReaches", "keptFault", "I", false)
def tyX9 : Nat → FieldType := fun k => match k with
  | 0 => .object "RiverReaches$River"
  | 1 => .object "RiverReaches$River"
  | 2 => .object "RiverReaches$River"
  | 3 => .object "RiverReaches$History"
  | 4 => .object "RiverReaches$Text"
  | 5 => .object "RiverReaches$Denial"
  | 6 => .object "java/lang/StringBuilder"
  | 7 => .boolean
  | _ => .int
theorem nmX9 : ∀ a, a < 9 → ∀ b, b < 9 → a ≠ b → (TX9 a).2.1 ≠ (TX9 b).2.1 := by decide +kernel
theorem tyX9_ok : ∀ k, k < 9 → parseFieldDescriptor (TX9 k).2.2.1 = some (tyX9 k) := by decide +kernel
abbrev cX9_init : ByteArray := prog_1_method_1_code
def yX9_init : MethodName := ⟨RX9, "<init>", "()V"⟩
abbrev cX9_addReach : ByteArray := prog_1_method_2_code
def yX9_addReach : MethodName := ⟨RX9, "addReach", "(III)I"⟩
abbrev cX9_removeLastReach : ByteArray := prog_1_method_3_code
def yX9_removeLastReach : MethodName := ⟨RX9, "removeLastReach", "()I"⟩
abbrev cX9_setLateral : ByteArray := prog_1_method_4_code
def yX9_setLateral : MethodName := ⟨RX9, "setLateral", "(II)I"⟩
abbrev cX9_fill : ByteArray := prog_1_method_5_code
def yX9_fill : MethodName := ⟨RX9, "fill", "(II)I"⟩
abbrev cX9_reachCount : ByteArray := prog_1_method_6_code
def yX9_reachCount : MethodName := ⟨RX9, "reachCount", "()I"⟩
abbrev cX9_volume : ByteArray := prog_1_method_7_code
def yX9_volume : MethodName := ⟨RX9, "volume", "(I)I"⟩
abbrev cX9_lateral : ByteArray := prog_1_method_8_code
def yX9_lateral : MethodName := ⟨RX9, "lateral", "(I)I"⟩
abbrev cX9_inflow : ByteArray := prog_1_method_9_code
def yX9_inflow : MethodName := ⟨RX9, "inflow", "(I)I"⟩
abbrev cX9_outflow : ByteArray := prog_1_method_10_code
def yX9_outflow : MethodName := ⟨RX9, "outflow", "(I)I"⟩
abbrev cX9_setStages : ByteArray := prog_1_method_11_code
def yX9_setStages : MethodName := ⟨RX9, "setStages", "(III)I"⟩
abbrev cX9_setGate : ByteArray := prog_1_method_12_code
def yX9_setGate : MethodName := ⟨RX9, "setGate", "(II)I"⟩
abbrev cX9_setRule : ByteArray := prog_1_method_13_code
def yX9_setRule : MethodName := ⟨RX9, "setRule", "(IC)I"⟩
abbrev cX9_level : ByteArray := prog_1_method_14_code
def yX9_level : MethodName := ⟨RX9, "level", "(I)I"⟩
abbrev cX9_status : ByteArray := prog_1_method_15_code
def yX9_status : MethodName := ⟨RX9, "status", "(I)I"⟩
abbrev cX9_isFlooded : ByteArray := prog_1_method_16_code
def yX9_isFlooded : MethodName := ⟨RX9, "isFlooded", "(I)Z"⟩
abbrev cX9_opening : ByteArray := prog_1_method_17_code
def yX9_opening : MethodName := ⟨RX9, "opening", "(I)I"⟩
abbrev cX9_rule : ByteArray := prog_1_method_18_code
def yX9_rule : MethodName := ⟨RX9, "rule", "(I)C"⟩
abbrev cX9_roomBelowFlood : ByteArray := prog_1_method_19_code
def yX9_roomBelowFlood : MethodName := ⟨RX9, "roomBelowFlood", "(I)I"⟩
abbrev cX9_reachByLevel : ByteArray := prog_1_method_20_code
def yX9_reachByLevel : MethodName := ⟨RX9, "reachByLevel", "(I)I"⟩
abbrev cX9_addPulse : ByteArray := prog_1_method_21_code
def yX9_addPulse : MethodName := ⟨RX9, "addPulse", "(III)I"⟩
abbrev cX9_pass : ByteArray := prog_1_method_22_code
def yX9_pass : MethodName := ⟨RX9, "pass", "(I)I"⟩
abbrev cX9_hour : ByteArray := prog_1_method_23_code
def yX9_hour : MethodName := ⟨RX9, "hour", "()I"⟩
abbrev cX9_pulseCount : ByteArray := prog_1_method_24_code
def yX9_pulseCount : MethodName := ⟨RX9, "pulseCount", "()I"⟩
abbrev cX9_headInflow : ByteArray := prog_1_method_25_code
def yX9_headInflow : MethodName := ⟨RX9, "headInflow", "(I)I"⟩
abbrev cX9_pendingInflow : ByteArray := prog_1_method_26_code
def yX9_pendingInflow : MethodName := ⟨RX9, "pendingInflow", "()I"⟩
abbrev cX9_levelAfter : ByteArray := prog_1_method_28_code
def yX9_levelAfter : MethodName := ⟨RX9, "levelAfter", "(II)I"⟩
abbrev cX9_peakLevel : ByteArray := prog_1_method_29_code
def yX9_peakLevel : MethodName := ⟨RX9, "peakLevel", "(II)I"⟩
abbrev cX9_hoursUntilFlood : ByteArray := prog_1_method_30_code
def yX9_hoursUntilFlood : MethodName := ⟨RX9, "hoursUntilFlood", "(I)I"⟩
abbrev cX9_volumeAfter : ByteArray := prog_1_method_31_code
def yX9_volumeAfter : MethodName := ⟨RX9, "volumeAfter", "(I)I"⟩
abbrev cX9_volumeAfterByBalance : ByteArray := prog_1_method_32_code
def yX9_volumeAfterByBalance : MethodName := ⟨RX9, "volumeAfterByBalance", "(I)I"⟩
abbrev cX9_totalIn : ByteArray := prog_1_method_34_code
def yX9_totalIn : MethodName := ⟨RX9, "totalIn", "()I"⟩
abbrev cX9_totalOut : ByteArray := prog_1_method_35_code
def yX9_totalOut : MethodName := ⟨RX9, "totalOut", "()I"⟩
abbrev cX9_alarms : ByteArray := prog_1_method_36_code
def yX9_alarms : MethodName := ⟨RX9, "alarms", "()I"⟩
abbrev cX9_meanLevel : ByteArray := prog_1_method_37_code
def yX9_meanLevel : MethodName := ⟨RX9, "meanLevel", "()D"⟩
abbrev cX9_floodedShare : ByteArray := prog_1_method_38_code
def yX9_floodedShare : MethodName := ⟨RX9, "floodedShare", "()F"⟩
abbrev cX9_feed : ByteArray := prog_1_method_39_code
def yX9_feed : MethodName := ⟨RX9, "feed", "(C)I"⟩
abbrev cX9_execute : ByteArray := prog_1_method_40_code
def yX9_execute : MethodName := ⟨RX9, "execute", "()I"⟩
abbrev cX9_faultPosition : ByteArray := prog_1_method_41_code
def yX9_faultPosition : MethodName := ⟨RX9, "faultPosition", "()I"⟩
abbrev cX9_writeReach : ByteArray := prog_1_method_42_code
def yX9_writeReach : MethodName := ⟨RX9, "writeReach", "(I)I"⟩
abbrev cX9_lineCharacter : ByteArray := prog_1_method_44_code
def yX9_lineCharacter : MethodName := ⟨RX9, "lineCharacter", "(I)C"⟩
abbrev cX9_denial : ByteArray := prog_1_method_45_code
def yX9_denial : MethodName := ⟨RX9, "denial", "()I"⟩
abbrev cX9_denialDetail : ByteArray := prog_1_method_46_code
def yX9_denialDetail : MethodName := ⟨RX9, "denialDetail", "()I"⟩
abbrev cX9_denialCause : ByteArray := prog_1_method_47_code
def yX9_denialCause : MethodName := ⟨RX9, "denialCause", "()I"⟩
abbrev cX9_denialCauseDetail : ByteArray := prog_1_method_48_code
def yX9_denialCauseDetail : MethodName := ⟨RX9, "denialCauseDetail", "()I"⟩
abbrev cX9_undo : ByteArray := prog_1_method_49_code
def yX9_undo : MethodName := ⟨RX9, "undo", "()I"⟩
abbrev cX9_undoCount : ByteArray := prog_1_method_50_code
def yX9_undoCount : MethodName := ⟨RX9, "undoCount", "()I"⟩
abbrev cX9_saveSnapshot : ByteArray := prog_1_method_51_code
def yX9_saveSnapshot : MethodName := ⟨RX9, "saveSnapshot", "()I"⟩
abbrev cX9_restoreSnapshot : ByteArray := prog_1_method_52_code
def yX9_restoreSnapshot : MethodName := ⟨RX9, "restoreSnapshot", "()I"⟩
abbrev cX9_conclude : ByteArray := prog_1_method_53_code
def yX9_conclude : MethodName := ⟨RX9, "conclude", "(II)I"⟩
abbrev cX9_failCommand : ByteArray := prog_1_method_54_code
def yX9_failCommand : MethodName := ⟨RX9, "failCommand", "(ILRiverReaches$Command;I)V"⟩
abbrev cX9_ahead : ByteArray := prog_1_method_55_code
def yX9_ahead : MethodName := ⟨RX9, "ahead", "(I)LRiverReaches$River;"⟩
abbrev cX9_requireReach : ByteArray := prog_1_method_56_code
def yX9_requireReach : MethodName := ⟨RX9, "requireReach", "(I)V"⟩
abbrev cX9_requireForecastHours : ByteArray := prog_1_method_57_code
def yX9_requireForecastHours : MethodName := ⟨RX9, "requireForecastHours", "(I)V"⟩
abbrev cX9_requireDenial : ByteArray := prog_1_method_58_code
def yX9_requireDenial : MethodName := ⟨RX9, "requireDenial", "(I)V"⟩
abbrev cX9_within : ByteArray := prog_1_method_59_code
def yX9_within : MethodName := ⟨RX9, "within", "(III)Z"⟩
abbrev cX9_isRule : ByteArray := prog_1_method_60_code
def yX9_isRule : MethodName := ⟨RX9, "isRule", "(I)Z"⟩
def RX10 : String := "RiverReachesModel"
def TX10 : u_T := fun k => match k with
  | _ => ("", "", "", false)
def tyX10 : Nat → FieldType := fun k => match k with
  | _ => .int
theorem nmX10 : ∀ a, a < 0 → ∀ b, b < 0 → a ≠ b → (TX10 a).2.1 ≠ (TX10 b).2.1 := by decide +kernel
theorem tyX10_ok : ∀ k, k < 0 → parseFieldDescriptor (TX10 k).2.2.1 = some (tyX10 k) := by decide +kernel
def RJx145de : String := "java/io/Serializable"
def TJx145de : u_T := fun k => match k with
  | _ => ("", "", "", false)
def tyJx145de : Nat → FieldType := fun k => match k with
  | _ => .int
theorem nmJx145de : ∀ a, a < 0 → ∀ b, b < 0 → a ≠ b → (TJx145de a).2.1 ≠ (TJx145de b).2.1 := by decide +kernel
theorem tyJx145de_ok : ∀ k, k < 0 → parseFieldDescriptor (TJx145de k).2.2.1 = some (tyJx145de k) := by decide +kernel
def RJ5 : String := "java/lang/AbstractStringBuilder"
def TJ5 : u_T := fun k => match k with
  | _ => ("", "", "", false)
def tyJ5 : Nat → FieldType := fun k => match k with
  | _ => .int
theorem nmJ5 : ∀ a, a < 0 → ∀ b, b < 0 → a ≠ b → (TJ5 a).2.1 ≠ (TJ5 b).2.1 := by decide +kernel
theorem tyJ5_ok : ∀ k, k < 0 → parseFieldDescriptor (TJ5 k).2.2.1 = some (tyJ5 k) := by decide +kernel
abbrev cJ5_init_d00df : ByteArray := prog_14_method_2_code
def yJ5_init_d00df : MethodName := ⟨RJ5, "<init>", "(I)V"⟩
abbrev cJ5_length_8abf5 : ByteArray := prog_14_method_6_code
def yJ5_length_8abf5 : MethodName := ⟨RJ5, "length", "()I"⟩
abbrev cJ5_ensureCapacityInternal_d00df : ByteArray := prog_14_method_9_code
def yJ5_ensureCapacityInternal_d00df : MethodName := ⟨RJ5, "ensureCapacityInternal", "(I)V"⟩
abbrev cJ5_newCapacity_0f7a4 : ByteArray := prog_14_method_10_code
def yJ5_newCapacity_0f7a4 : MethodName := ⟨RJ5, "newCapacity", "(I)I"⟩
abbrev cJ5_inflate_da8c8 : ByteArray := prog_14_method_11_code
def yJ5_inflate_da8c8 : MethodName := ⟨RJ5, "inflate", "()V"⟩
abbrev cJ5_setLength_d00df : ByteArray := prog_14_method_13_code
def yJ5_setLength_d00df : MethodName := ⟨RJ5, "setLength", "(I)V"⟩
abbrev cJ5_charAt_5068e : ByteArray := prog_14_method_14_code
def yJ5_charAt_5068e : MethodName := ⟨RJ5, "charAt", "(I)C"⟩
abbrev cJ5_append_cf1ce : ByteArray := prog_14_method_22_code
def yJ5_append_cf1ce : MethodName := ⟨RJ5, "append", "(Ljava/lang/String;)Ljava/lang/AbstractStringBuilder;"⟩
abbrev cJ5_appendNull_278bc : ByteArray := prog_14_method_26_code
def yJ5_appendNull_278bc : MethodName := ⟨RJ5, "appendNull", "()Ljava/lang/AbstractStringBuilder;"⟩
abbrev cJ5_append_3fe6f : ByteArray := prog_14_method_31_code
def yJ5_append_3fe6f : MethodName := ⟨RJ5, "append", "(C)Ljava/lang/AbstractStringBuilder;"⟩
abbrev cJ5_append_c97b9 : ByteArray := prog_14_method_32_code
def yJ5_append_c97b9 : MethodName := ⟨RJ5, "append", "(I)Ljava/lang/AbstractStringBuilder;"⟩
abbrev cJ5_getValue_6d5f1 : ByteArray := prog_14_method_64_code
def yJ5_getValue_6d5f1 : MethodName := ⟨RJ5, "getValue", "()[B"⟩
abbrev cJ5_isLatin1_aae02 : ByteArray := prog_14_method_68_code
def yJ5_isLatin1_aae02 : MethodName := ⟨RJ5, "isLatin1", "()Z"⟩
abbrev cJ5_inflateIfNeededFor_a7421 : ByteArray := prog_14_method_71_code
def yJ5_inflateIfNeededFor_a7421 : MethodName := ⟨RJ5, "inflateIfNeededFor", "(Ljava/lang/String;)V"⟩
abbrev cJ5_putStringAt_47b60 : ByteArray := prog_14_method_73_code
def yJ5_putStringAt_47b60 : MethodName := ⟨RJ5, "putStringAt", "(ILjava/lang/String;)V"⟩
def RJx2cfe8 : String := "java/lang/Appendable"
def TJx2cfe8 : u_T := fun k => match k with
  | _ => ("", "", "", false)
def tyJx2cfe8 : Nat → FieldType := fun k => match k with
  | _ => .int
theorem nmJx2cfe8 : ∀ a, a < 0 → ∀ b, b < 0 → a ≠ b → (TJx2cfe8 a).2.1 ≠ (TJx2cfe8 b).2.1 := by decide +kernel
theorem tyJx2cfe8_ok : ∀ k, k < 0 → parseFieldDescriptor (TJx2cfe8 k).2.2.1 = some (tyJx2cfe8 k) := by decide +kernel
def RJx00060 : String := "java/lang/ArrayIndexOutOfBoundsException"
def TJx00060 : u_T := fun k => match k with
  | 0 => ("java/lang/Throwable", "backtrace", "Ljava/lang/Object;", false)
  | 1 => ("java/lang/Throwable", "detailMessage", "Ljava/lang/String;", false)
  | 2 => ("java/lang/Throwable", "cause", "Ljava/lang/Throwable;", false)
  | 3 => ("java/lang/Throwable", "stackTrace", "[Ljava/lang/StackTraceElement;", false)
  | 4 => ("java/lang/Throwable", "depth", "I", false)
  | _ => ("java/lang/Throwable", "suppressedExceptions", "Ljava/util/List;", false)
def tyJx00060 : Nat → FieldType := fun k => match k with
  | 0 => .object "java/lang/Object"
  | 1 => .object "java/lang/String"
  | 2 => .object "java/lang/Throwable"
  | 3 => .array (.object "java/lang/StackTraceElement")
  | 4 => .int
  | _ => .object "java/util/List"
theorem nmJx00060 : ∀ a, a < 6 → ∀ b, b < 6 → a ≠ b → (TJx00060 a).2.1 ≠ (TJx00060 b).2.1 := by decide +kernel
theorem tyJx00060_ok : ∀ k, k < 6 → parseFieldDescriptor (TJx00060 k).2.2.1 = some (tyJx00060 k) := by decide +kernel
abbrev cJx00060_init_a7421 : ByteArray := prog_17_method_2_code
def yJx00060_init_a7421 : MethodName := ⟨RJx00060, "<init>", "(Ljava/lang/String;)V"⟩
abbrev cJx00060_init_d00df : ByteArray := prog_17_method_3_code
def yJx00060_init_d00df : MethodName := ⟨RJx00060, "<init>", "(I)V"⟩
def RJx9f9b0 : String := "java/lang/CharSequence"
def TJx9f9b0 : u_T := fun k => match k with
  | _ => ("", "", "", false)
def tyJx9f9b0 : Nat → FieldType := fun k => match k with
  | _ => .int
theorem nmJx9f9b0 : ∀ a, a < 0 → ∀ b, b < 0 → a ≠ b → (TJx9f9b0 a).2.1 ≠ (TJx9f9b0 b).2.1 := by decide +kernel
theorem tyJx9f9b0_ok : ∀ k, k < 0 → parseFieldDescriptor (TJx9f9b0 k).2.2.1 = some (tyJx9f9b0 k) := by decide +kernel
def RJx8e188 : String := "java/lang/Cloneable"
def TJx8e188 : u_T := fun k => match k with
  | _ => ("", "", "", false)
def tyJx8e188 : Nat → FieldType := fun k => match k with
  | _ => .int
theorem nmJx8e188 : ∀ a, a < 0 → ∀ b, b < 0 → a ≠ b → (TJx8e188 a).2.1 ≠ (TJx8e188 b).2.1 := by decide +kernel
theorem tyJx8e188_ok : ∀ k, k < 0 → parseFieldDescriptor (TJx8e188 k).2.2.1 = some (tyJx8e188 k) := by decide +kernel
def RJxb160c : String := "java/lang/Comparable"
def TJxb160c : u_T := fun k => match k with
  | _ => ("", "", "", false)
def tyJxb160c : Nat → FieldType := fun k => match k with
  | _ => .int
theorem nmJxb160c : ∀ a, a < 0 → ∀ b, b < 0 → a ≠ b → (TJxb160c a).2.1 ≠ (TJxb160c b).2.1 := by decide +kernel
theorem tyJxb160c_ok : ∀ k, k < 0 → parseFieldDescriptor (TJxb160c k).2.2.1 = some (tyJxb160c k) := by decide +kernel
def RJxe99ae : String := "java/lang/Double"
def TJxe99ae : u_T := fun k => match k with
  | _ => ("", "", "", false)
def tyJxe99ae : Nat → FieldType := fun k => match k with
  | _ => .int
theorem nmJxe99ae : ∀ a, a < 0 → ∀ b, b < 0 → a ≠ b → (TJxe99ae a).2.1 ≠ (TJxe99ae b).2.1 := by decide +kernel
theorem tyJxe99ae_ok : ∀ k, k < 0 → parseFieldDescriptor (TJxe99ae k).2.2.1 = some (tyJxe99ae k) := by decide +kernel
abbrev cJxe99ae_isNaN_b9ae7 : ByteArray := prog_21_method_6_code
def yJxe99ae_isNaN_b9ae7 : MethodName := ⟨RJxe99ae, "isNaN", "(D)Z"⟩
abbrev cJxe99ae_doubleToLongBits_ccdee : ByteArray := prog_21_method_23_code
def yJxe99ae_doubleToLongBits_ccdee : MethodName := ⟨RJxe99ae, "doubleToLongBits", "(D)J"⟩
def RJx29ce0 : String := "java/lang/Enum"
def TJx29ce0 : u_T := fun k => match k with
  | _ => ("", "", "", false)
def tyJx29ce0 : Nat → FieldType := fun k => match k with
  | _ => .int
theorem nmJx29ce0 : ∀ a, a < 0 → ∀ b, b < 0 → a ≠ b → (TJx29ce0 a).2.1 ≠ (TJx29ce0 b).2.1 := by decide +kernel
theorem tyJx29ce0_ok : ∀ k, k < 0 → parseFieldDescriptor (TJx29ce0 k).2.2.1 = some (tyJx29ce0 k) := by decide +kernel
abbrev cJx29ce0_ordinal_8abf5 : ByteArray := prog_22_method_2_code
def yJx29ce0_ordinal_8abf5 : MethodName := ⟨RJx29ce0, "ordinal", "()I"⟩
def RJxf58ca : String := "java/lang/Float"
def TJxf58ca : u_T := fun k => match k with
  | _ => ("", "", "", false)
def tyJxf58ca : Nat → FieldType := fun k => match k with
  | _ => .int
theorem nmJxf58ca : ∀ a, a < 0 → ∀ b, b < 0 → a ≠ b → (TJxf58ca a).2.1 ≠ (TJxf58ca b).2.1 := by decide +kernel
theorem tyJxf58ca_ok : ∀ k, k < 0 → parseFieldDescriptor (TJxf58ca k).2.2.1 = some (tyJxf58ca k) := by decide +kernel
abbrev cJxf58ca_isNaN_12338 : ByteArray := prog_24_method_6_code
def yJxf58ca_isNaN_12338 : MethodName := ⟨RJxf58ca, "isNaN", "(F)Z"⟩
abbrev cJxf58ca_floatToIntBits_5c35a : ByteArray := prog_24_method_24_code
def yJxf58ca_floatToIntBits_5c35a : MethodName := ⟨RJxf58ca, "floatToIntBits", "(F)I"⟩
def RJ6 : String := "java/lang/Integer"
def TJ6 : u_T := fun k => match k with
  | _ => ("", "", "", false)
def tyJ6 : Nat → FieldType := fun k => match k with
  | _ => .int
theorem nmJ6 : ∀ a, a < 0 → ∀ b, b < 0 → a ≠ b → (TJ6 a).2.1 ≠ (TJ6 b).2.1 := by decide +kernel
theorem tyJ6_ok : ∀ k, k < 0 → parseFieldDescriptor (TJ6 k).2.2.1 = some (tyJ6 k) := by decide +kernel
abbrev cJ6_getChars_ba4f3 : ByteArray := prog_28_method_12_code
def yJ6_getChars_ba4f3 : MethodName := ⟨RJ6, "getChars", "(II[B)I"⟩
abbrev cJ6_stringSize_0f7a4 : ByteArray := prog_28_method_13_code
def yJ6_stringSize_0f7a4 : MethodName := ⟨RJ6, "stringSize", "(I)I"⟩
def RJ9 : String := "java/lang/Math"
def TJ9 : u_T := fun k => match k with
  | _ => ("", "", "", false)
def tyJ9 : Nat → FieldType := fun k => match k with
  | _ => .int
theorem nmJ9 : ∀ a, a < 0 → ∀ b, b < 0 → a ≠ b → (TJ9 a).2.1 ≠ (TJ9 b).2.1 := by decide +kernel
theorem tyJ9_ok : ∀ k, k < 0 → parseFieldDescriptor (TJ9 k).2.2.1 = some (tyJ9 k) := by decide +kernel
abbrev cJ9_max_7cf53 : ByteArray := prog_29_method_65_code
def yJ9_max_7cf53 : MethodName := ⟨RJ9, "max", "(II)I"⟩
abbrev cJ9_min_7cf53 : ByteArray := prog_29_method_69_code
def yJ9_min_7cf53 : MethodName := ⟨RJ9, "min", "(II)I"⟩
def RJxd2413 : String := "java/lang/Number"
def TJxd2413 : u_T := fun k => match k with
  | _ => ("", "", "", false)
def tyJxd2413 : Nat → FieldType := fun k => match k with
  | _ => .int
theorem nmJxd2413 : ∀ a, a < 0 → ∀ b, b < 0 → a ≠ b → (TJxd2413 a).2.1 ≠ (TJxd2413 b).2.1 := by decide +kernel
theorem tyJxd2413_ok : ∀ k, k < 0 → parseFieldDescriptor (TJxd2413 k).2.2.1 = some (tyJxd2413 k) := by decide +kernel
def RJ0 : String := "java/lang/String"
def TJ0 : u_T := fun k => match k with
  | 0 => ("java/lang/String", "value", "[B", true)
  | 1 => ("java/lang/String", "coder", "B", true)
  | 2 => ("java/lang/String", "hash", "I", false)
  | _ => ("java/lang/String", "hashIsZero", "Z", false)
def tyJ0 : Nat → FieldType := fun k => match k with
  | 0 => .array .byte
  | 1 => .byte
  | 2 => .int
  | _ => .boolean
theorem nmJ0 : ∀ a, a < 4 → ∀ b, b < 4 → a ≠ b → (TJ0 a).2.1 ≠ (TJ0 b).2.1 := by decide +kernel
theorem tyJ0_ok : ∀ k, k < 4 → parseFieldDescriptor (TJ0 k).2.2.1 = some (tyJ0 k) := by decide +kernel
abbrev cJ0_init_81219 : ByteArray := prog_32_method_53_code
def yJ0_init_81219 : MethodName := ⟨RJ0, "<init>", "(Ljava/lang/StringBuilder;)V"⟩
abbrev cJ0_length_8abf5 : ByteArray := prog_32_method_54_code
def yJ0_length_8abf5 : MethodName := ⟨RJ0, "length", "()I"⟩
abbrev cJ0_charAt_5068e : ByteArray := prog_32_method_56_code
def yJ0_charAt_5068e : MethodName := ⟨RJ0, "charAt", "(I)C"⟩
abbrev cJ0_getBytes_840e7 : ByteArray := prog_32_method_147_code
def yJ0_getBytes_840e7 : MethodName := ⟨RJ0, "getBytes", "([BIB)V"⟩
abbrev cJ0_init_db425 : ByteArray := prog_32_method_150_code
def yJ0_init_db425 : MethodName := ⟨RJ0, "<init>", "(Ljava/lang/AbstractStringBuilder;Ljava/lang/Void;)V"⟩
abbrev cJ0_coder_7d493 : ByteArray := prog_32_method_152_code
def yJ0_coder_7d493 : MethodName := ⟨RJ0, "coder", "()B"⟩
abbrev cJ0_isLatin1_aae02 : ByteArray := prog_32_method_154_code
def yJ0_isLatin1_aae02 : MethodName := ⟨RJ0, "isLatin1", "()Z"⟩
abbrev cJ0_checkIndex_df160 : ByteArray := prog_32_method_155_code
def yJ0_checkIndex_df160 : MethodName := ⟨RJ0, "checkIndex", "(II)V"⟩
abbrev cJ0_checkBoundsOffCount_cabcc : ByteArray := prog_32_method_157_code
def yJ0_checkBoundsOffCount_cabcc : MethodName := ⟨RJ0, "checkBoundsOffCount", "(III)I"⟩
abbrev cJ0_checkBoundsBeginEnd_23922 : ByteArray := prog_32_method_158_code
def yJ0_checkBoundsBeginEnd_23922 : MethodName := ⟨RJ0, "checkBoundsBeginEnd", "(III)V"⟩
def RJ4 : String := "java/lang/StringBuilder"
def TJ4 : u_T := fun k => match k with
  | 0 => ("java/lang/AbstractStringBuilder", "value", "[B", false)
  | 1 => ("java/lang/AbstractStringBuilder", "coder", "B", false)
  | 2 => ("java/lang/AbstractStringBuilder", "maybeLatin1", "Z", false)
  | _ => ("java/lang/AbstractStringBuilder", "count", "I", false)
def tyJ4 : Nat → FieldType := fun k => match k with
  | 0 => .array .byte
  | 1 => .byte
  | 2 => .boolean
  | _ => .int
theorem nmJ4 : ∀ a, a < 4 → ∀ b, b < 4 → a ≠ b → (TJ4 a).2.1 ≠ (TJ4 b).2.1 := by decide +kernel
theorem tyJ4_ok : ∀ k, k < 4 → parseFieldDescriptor (TJ4 k).2.2.1 = some (tyJ4 k) := by decide +kernel
abbrev cJ4_init_da8c8 : ByteArray := prog_33_method_1_code
def yJ4_init_da8c8 : MethodName := ⟨RJ4, "<init>", "()V"⟩
abbrev cJ4_append_15ec4 : ByteArray := prog_33_method_7_code
def yJ4_append_15ec4 : MethodName := ⟨RJ4, "append", "(Ljava/lang/String;)Ljava/lang/StringBuilder;"⟩
abbrev cJ4_append_cf468 : ByteArray := prog_33_method_14_code
def yJ4_append_cf468 : MethodName := ⟨RJ4, "append", "(C)Ljava/lang/StringBuilder;"⟩
abbrev cJ4_append_bf812 : ByteArray := prog_33_method_15_code
def yJ4_append_bf812 : MethodName := ⟨RJ4, "append", "(I)Ljava/lang/StringBuilder;"⟩
abbrev cJ4_toString_0e30d : ByteArray := prog_33_method_42_code
def yJ4_toString_0e30d : MethodName := ⟨RJ4, "toString", "()Ljava/lang/String;"⟩
abbrev cJ4_charAt_5068e : ByteArray := prog_33_method_88_code
def yJ4_charAt_5068e : MethodName := ⟨RJ4, "charAt", "(I)C"⟩
abbrev cJ4_setLength_d00df : ByteArray := prog_33_method_89_code
def yJ4_setLength_d00df : MethodName := ⟨RJ4, "setLength", "(I)V"⟩
abbrev cJ4_length_8abf5 : ByteArray := prog_33_method_93_code
def yJ4_length_8abf5 : MethodName := ⟨RJ4, "length", "()I"⟩
def RJx7c733 : String := "java/lang/StringIndexOutOfBoundsException"
def TJx7c733 : u_T := fun k => match k with
  | 0 => ("java/lang/Throwable", "backtrace", "Ljava/lang/Object;", false)
  | 1 => ("java/lang/Throwable", "detailMessage", "Ljava/lang/String;", false)
  | 2 => ("java/lang/Throwable", "cause", "Ljava/lang/Throwable;", false)
  | 3 => ("java/lang/Throwable", "stackTrace", "[Ljava/lang/StackTraceElement;", false)
  | 4 => ("java/lang/Throwable", "depth", "I", false)
  | _ => ("java/lang/Throwable", "suppressedExceptions", "Ljava/util/List;", false)
def tyJx7c733 : Nat → FieldType := fun k => match k with
  | 0 => .object "java/lang/Object"
  | 1 => .object "java/lang/String"
  | 2 => .object "java/lang/Throwable"
  | 3 => .array (.object "java/lang/StackTraceElement")
  | 4 => .int
  | _ => .object "java/util/List"
theorem nmJx7c733 : ∀ a, a < 6 → ∀ b, b < 6 → a ≠ b → (TJx7c733 a).2.1 ≠ (TJx7c733 b).2.1 := by decide +kernel
theorem tyJx7c733_ok : ∀ k, k < 6 → parseFieldDescriptor (TJx7c733 k).2.2.1 = some (tyJx7c733 k) := by decide +kernel
abbrev cJx7c733_init_d00df : ByteArray := prog_34_method_3_code
def yJx7c733_init_d00df : MethodName := ⟨RJx7c733, "<init>", "(I)V"⟩
def RJ1 : String := "java/lang/StringLatin1"
def TJ1 : u_T := fun k => match k with
  | _ => ("", "", "", false)
def tyJ1 : Nat → FieldType := fun k => match k with
  | _ => .int
theorem nmJ1 : ∀ a, a < 0 → ∀ b, b < 0 → a ≠ b → (TJ1 a).2.1 ≠ (TJ1 b).2.1 := by decide +kernel
theorem tyJ1_ok : ∀ k, k < 0 → parseFieldDescriptor (TJ1 k).2.2.1 = some (tyJ1 k) := by decide +kernel
abbrev cJ1_charAt_3b067 : ByteArray := prog_35_method_2_code
def yJ1_charAt_3b067 : MethodName := ⟨RJ1, "charAt", "([BI)C"⟩
abbrev cJ1_canEncode_fc78d : ByteArray := prog_35_method_3_code
def yJ1_canEncode_fc78d : MethodName := ⟨RJ1, "canEncode", "(C)Z"⟩
abbrev cJ1_fillNull_b72d1 : ByteArray := prog_35_method_48_code
def yJ1_fillNull_b72d1 : MethodName := ⟨RJ1, "fillNull", "([BII)V"⟩
abbrev cJ1_inflate_0e8fd : ByteArray := prog_35_method_50_code
def yJ1_inflate_0e8fd : MethodName := ⟨RJ1, "inflate", "([BI[BII)V"⟩
def RJ2 : String := "java/lang/StringUTF16"
def TJ2 : u_T := fun k => match k with
  | _ => ("", "", "", false)
def tyJ2 : Nat → FieldType := fun k => match k with
  | _ => .int
theorem nmJ2 : ∀ a, a < 0 → ∀ b, b < 0 → a ≠ b → (TJ2 a).2.1 ≠ (TJ2 b).2.1 := by decide +kernel
theorem tyJ2_ok : ∀ k, k < 0 → parseFieldDescriptor (TJ2 k).2.2.1 = some (tyJ2 k) := by decide +kernel
abbrev cJ2_newBytesFor_77867 : ByteArray := prog_36_method_2_code
def yJ2_newBytesFor_77867 : MethodName := ⟨RJ2, "newBytesFor", "(I)[B"⟩
abbrev cJ2_newBytesLength_0f7a4 : ByteArray := prog_36_method_3_code
def yJ2_newBytesLength_0f7a4 : MethodName := ⟨RJ2, "newBytesLength", "(I)I"⟩
abbrev cJ2_putChar_b72d1 : ByteArray := prog_36_method_4_code
def yJ2_putChar_b72d1 : MethodName := ⟨RJ2, "putChar", "([BII)V"⟩
abbrev cJ2_getChar_3b067 : ByteArray := prog_36_method_5_code
def yJ2_getChar_3b067 : MethodName := ⟨RJ2, "getChar", "([BI)C"⟩
abbrev cJ2_length_9d52b : ByteArray := prog_36_method_6_code
def yJ2_length_9d52b : MethodName := ⟨RJ2, "length", "([B)I"⟩
abbrev cJ2_coderFromArrayLen_85cad : ByteArray := prog_36_method_15_code
def yJ2_coderFromArrayLen_85cad : MethodName := ⟨RJ2, "coderFromArrayLen", "([BI)B"⟩
abbrev cJ2_compress_39247 : ByteArray := prog_36_method_17_code
def yJ2_compress_39247 : MethodName := ⟨RJ2, "compress", "([BII)[B"⟩
abbrev cJ2_compress_5af95 : ByteArray := prog_36_method_22_code
def yJ2_compress_5af95 : MethodName := ⟨RJ2, "compress", "([BI[BII)I"⟩
abbrev cJ2_fillNull_b72d1 : ByteArray := prog_36_method_70_code
def yJ2_fillNull_b72d1 : MethodName := ⟨RJ2, "fillNull", "([BII)V"⟩
abbrev cJ2_putCharSB_b72d1 : ByteArray := prog_36_method_71_code
def yJ2_putCharSB_b72d1 : MethodName := ⟨RJ2, "putCharSB", "([BII)V"⟩
abbrev cJ2_getChars_46870 : ByteArray := prog_36_method_77_code
def yJ2_getChars_46870 : MethodName := ⟨RJ2, "getChars", "(III[B)I"⟩
abbrev cJ2_putCharsAt_cd4e5 : ByteArray := prog_36_method_81_code
def yJ2_putCharsAt_cd4e5 : MethodName := ⟨RJ2, "putCharsAt", "([BICCCC)I"⟩
abbrev cJ2_charAt_3b067 : ByteArray := prog_36_method_83_code
def yJ2_charAt_3b067 : MethodName := ⟨RJ2, "charAt", "([BI)C"⟩
abbrev cJ2_inflate_0e8fd : ByteArray := prog_36_method_86_code
def yJ2_inflate_0e8fd : MethodName := ⟨RJ2, "inflate", "([BI[BII)V"⟩
abbrev cJ2_getChars_ba4f3 : ByteArray := prog_36_method_89_code
def yJ2_getChars_ba4f3 : MethodName := ⟨RJ2, "getChars", "(II[B)I"⟩
abbrev cJ2_checkIndex_2214a : ByteArray := prog_36_method_91_code
def yJ2_checkIndex_2214a : MethodName := ⟨RJ2, "checkIndex", "(I[B)V"⟩
abbrev cJ2_checkBoundsBeginEnd_d044e : ByteArray := prog_36_method_93_code
def yJ2_checkBoundsBeginEnd_d044e : MethodName := ⟨RJ2, "checkBoundsBeginEnd", "(II[B)V"⟩
abbrev cJ2_checkBoundsOffCount_d044e : ByteArray := prog_36_method_94_code
def yJ2_checkBoundsOffCount_d044e : MethodName := ⟨RJ2, "checkBoundsOffCount", "(II[B)V"⟩
def RJ10 : String := "java/lang/System"
def TJ10 : u_T := fun k => match k with
  | _ => ("", "", "", false)
def tyJ10 : Nat → FieldType := fun k => match k with
  | _ => .int
theorem nmJ10 : ∀ a, a < 0 → ∀ b, b < 0 → a ≠ b → (TJ10 a).2.1 ≠ (TJ10 b).2.1 := by decide +kernel
theorem tyJ10_ok : ∀ k, k < 0 → parseFieldDescriptor (TJ10 k).2.2.1 = some (tyJ10 k) := by decide +kernel
def RJxfd54e : String := "java/lang/constant/Constable"
def TJxfd54e : u_T := fun k => match k with
  | _ => ("", "", "", false)
def tyJxfd54e : Nat → FieldType := fun k => match k with
  | _ => .int
theorem nmJxfd54e : ∀ a, a < 0 → ∀ b, b < 0 → a ≠ b → (TJxfd54e a).2.1 ≠ (TJxfd54e b).2.1 := by decide +kernel
theorem tyJxfd54e_ok : ∀ k, k < 0 → parseFieldDescriptor (TJxfd54e k).2.2.1 = some (tyJxfd54e k) := by decide +kernel
def RJx3cf43 : String := "java/lang/constant/ConstantDesc"
def TJx3cf43 : u_T := fun k => match k with
  | _ => ("", "", "", false)
def tyJx3cf43 : Nat → FieldType := fun k => match k with
  | _ => .int
theorem nmJx3cf43 : ∀ a, a < 0 → ∀ b, b < 0 → a ≠ b → (TJx3cf43 a).2.1 ≠ (TJx3cf43 b).2.1 := by decide +kernel
theorem tyJx3cf43_ok : ∀ k, k < 0 → parseFieldDescriptor (TJx3cf43 k).2.2.1 = some (tyJx3cf43 k) := by decide +kernel
def RJ7 : String := "java/util/Arrays"
def TJ7 : u_T := fun k => match k with
  | _ => ("", "", "", false)
def tyJ7 : Nat → FieldType := fun k => match k with
  | _ => .int
theorem nmJ7 : ∀ a, a < 0 → ∀ b, b < 0 → a ≠ b → (TJ7 a).2.1 ≠ (TJ7 b).2.1 := by decide +kernel
theorem tyJ7_ok : ∀ k, k < 0 → parseFieldDescriptor (TJ7 k).2.2.1 = some (tyJ7 k) := by decide +kernel
abbrev cJ7_rangeCheck_23922 : ByteArray := prog_42_method_30_code
def yJ7_rangeCheck_23922 : MethodName := ⟨RJ7, "rangeCheck", "(III)V"⟩
abbrev cJ7_fill_eb02e : ByteArray := prog_42_method_110_code
def yJ7_fill_eb02e : MethodName := ⟨RJ7, "fill", "([BIIB)V"⟩
abbrev cJ7_copyOf_9075b : ByteArray := prog_42_method_121_code
def yJ7_copyOf_9075b : MethodName := ⟨RJ7, "copyOf", "([BI)[B"⟩
abbrev cJ7_checkLength_df160 : ByteArray := prog_42_method_131_code
def yJ7_checkLength_df160 : MethodName := ⟨RJ7, "checkLength", "(II)V"⟩
abbrev cJ7_copyOfRange_39247 : ByteArray := prog_42_method_132_code
def yJ7_copyOfRange_39247 : MethodName := ⟨RJ7, "copyOfRange", "([BII)[B"⟩
abbrev cJ7_copyOfRangeByte_39247 : ByteArray := prog_42_method_133_code
def yJ7_copyOfRangeByte_39247 : MethodName := ⟨RJ7, "copyOfRangeByte", "([BII)[B"⟩
def RJ8 : String := "jdk/internal/util/ArraysSupport"
def TJ8 : u_T := fun k => match k with
  | _ => ("", "", "", false)
def tyJ8 : Nat → FieldType := fun k => match k with
  | _ => .int
theorem nmJ8 : ∀ a, a < 0 → ∀ b, b < 0 → a ≠ b → (TJ8 a).2.1 ≠ (TJ8 b).2.1 := by decide +kernel
theorem tyJ8_ok : ∀ k, k < 0 → parseFieldDescriptor (TJ8 k).2.2.1 = some (tyJ8 k) := by decide +kernel
abbrev cJ8_newLength_cabcc : ByteArray := prog_44_method_27_code
def yJ8_newLength_cabcc : MethodName := ⟨RJ8, "newLength", "(III)I"⟩
abbrev cJ8_hugeLength_7cf53 : ByteArray := prog_44_method_28_code
def yJ8_hugeLength_7cf53 : MethodName := ⟨RJ8, "hugeLength", "(II)I"⟩
def RJ3 : String := "jdk/internal/util/Preconditions"
def TJ3 : u_T := fun k => match k with
  | _ => ("", "", "", false)
def tyJ3 : Nat → FieldType := fun k => match k with
  | _ => .int
theorem nmJ3 : ∀ a, a < 0 → ∀ b, b < 0 → a ≠ b → (TJ3 a).2.1 ≠ (TJ3 b).2.1 := by decide +kernel
theorem tyJ3_ok : ∀ k, k < 0 → parseFieldDescriptor (TJ3 k).2.2.1 = some (tyJ3 k) := by decide +kernel
abbrev cJ3_checkIndex_8e157 : ByteArray := prog_45_method_11_code
def yJ3_checkIndex_8e157 : MethodName := ⟨RJ3, "checkIndex", "(IILjava/util/function/BiFunction;)I"⟩
abbrev cJ3_checkFromToIndex_8c36e : ByteArray := prog_45_method_12_code
def yJ3_checkFromToIndex_8c36e : MethodName := ⟨RJ3, "checkFromToIndex", "(IIILjava/util/function/BiFunction;)I"⟩
abbrev cJ3_checkFromIndexSize_8c36e : ByteArray := prog_45_method_13_code
def yJ3_checkFromIndexSize_8c36e : MethodName := ⟨RJ3, "checkFromIndexSize", "(IIILjava/util/function/BiFunction;)I"⟩
def RL : String := "RiverReachesLaw"
abbrev cL_at : ByteArray := method_2_code
def yL_at : MethodName := ⟨RL, "at", "([II)I"⟩
abbrev cL_some : ByteArray := method_3_code
def yL_some : MethodName := ⟨RL, "some", "(II)I"⟩
abbrev cL_addReach : ByteArray := method_4_code
def yL_addReach : MethodName := ⟨RL, "addReach", "(LRiverReaches;III)I"⟩
abbrev cL_removeLast : ByteArray := method_5_code
def yL_removeLast : MethodName := ⟨RL, "removeLast", "(LRiverReaches;)I"⟩
abbrev cL_setLateral : ByteArray := method_6_code
def yL_setLateral : MethodName := ⟨RL, "setLateral", "(LRiverReaches;II)I"⟩
abbrev cL_fill : ByteArray := method_7_code
def yL_fill : MethodName := ⟨RL, "fill", "(LRiverReaches;II)I"⟩
abbrev cL_volume : ByteArray := method_8_code
def yL_volume : MethodName := ⟨RL, "volume", "(LRiverReaches;I)I"⟩
abbrev cL_lateral : ByteArray := method_9_code
def yL_lateral : MethodName := ⟨RL, "lateral", "(LRiverReaches;I)I"⟩
abbrev cL_inflow : ByteArray := method_10_code
def yL_inflow : MethodName := ⟨RL, "inflow", "(LRiverReaches;I)I"⟩
abbrev cL_outflow : ByteArray := method_11_code
def yL_outflow : MethodName := ⟨RL, "outflow", "(LRiverReaches;I)I"⟩
abbrev cL_setStages : ByteArray := method_12_code
def yL_setStages : MethodName := ⟨RL, "setStages", "(LRiverReaches;III)I"⟩
abbrev cL_setGate : ByteArray := method_13_code
def yL_setGate : MethodName := ⟨RL, "setGate", "(LRiverReaches;II)I"⟩
abbrev cL_setRule : ByteArray := method_14_code
def yL_setRule : MethodName := ⟨RL, "setRule", "(LRiverReaches;IC)I"⟩
abbrev cL_level : ByteArray := method_15_code
def yL_level : MethodName := ⟨RL, "level", "(LRiverReaches;I)I"⟩
abbrev cL_status : ByteArray := method_16_code
def yL_status : MethodName := ⟨RL, "status", "(LRiverReaches;I)I"⟩
abbrev cL_isFlooded : ByteArray := method_17_code
def yL_isFlooded : MethodName := ⟨RL, "isFlooded", "(LRiverReaches;I)I"⟩
abbrev cL_opening : ByteArray := method_18_code
def yL_opening : MethodName := ⟨RL, "opening", "(LRiverReaches;I)I"⟩
abbrev cL_rule : ByteArray := method_19_code
def yL_rule : MethodName := ⟨RL, "rule", "(LRiverReaches;I)I"⟩
abbrev cL_room : ByteArray := method_20_code
def yL_room : MethodName := ⟨RL, "room", "(LRiverReaches;I)I"⟩
abbrev cL_byLevel : ByteArray := method_21_code
def yL_byLevel : MethodName := ⟨RL, "byLevel", "(LRiverReaches;I)I"⟩
abbrev cL_addPulse : ByteArray := method_22_code
def yL_addPulse : MethodName := ⟨RL, "addPulse", "(LRiverReaches;III)I"⟩
abbrev cL_pass : ByteArray := method_23_code
def yL_pass : MethodName := ⟨RL, "pass", "(LRiverReaches;I)I"⟩
abbrev cL_headInflow : ByteArray := method_24_code
def yL_headInflow : MethodName := ⟨RL, "headInflow", "(LRiverReaches;I)I"⟩
abbrev cL_levelAfter : ByteArray := method_25_code
def yL_levelAfter : MethodName := ⟨RL, "levelAfter", "(LRiverReaches;II)I"⟩
abbrev cL_peak : ByteArray := method_26_code
def yL_peak : MethodName := ⟨RL, "peak", "(LRiverReaches;II)I"⟩
abbrev cL_untilFlood : ByteArray := method_27_code
def yL_untilFlood : MethodName := ⟨RL, "untilFlood", "(LRiverReaches;I)I"⟩
abbrev cL_volumeAfter : ByteArray := method_28_code
def yL_volumeAfter : MethodName := ⟨RL, "volumeAfter", "(LRiverReaches;I)I"⟩
abbrev cL_volumeByBalance : ByteArray := method_29_code
def yL_volumeByBalance : MethodName := ⟨RL, "volumeByBalance", "(LRiverReaches;I)I"⟩
abbrev cL_meanLevel : ByteArray := method_30_code
def yL_meanLevel : MethodName := ⟨RL, "meanLevel", "(LRiverReaches;)D"⟩
abbrev cL_floodedShare : ByteArray := method_31_code
def yL_floodedShare : MethodName := ⟨RL, "floodedShare", "(LRiverReaches;)F"⟩
abbrev cL_feed : ByteArray := method_32_code
def yL_feed : MethodName := ⟨RL, "feed", "(LRiverReaches;C)I"⟩
abbrev cL_execute : ByteArray := method_33_code
def yL_execute : MethodName := ⟨RL, "execute", "(LRiverReaches;)I"⟩
abbrev cL_faultPosition : ByteArray := method_34_code
def yL_faultPosition : MethodName := ⟨RL, "faultPosition", "(LRiverReaches;)I"⟩
abbrev cL_write : ByteArray := method_35_code
def yL_write : MethodName := ⟨RL, "write", "(LRiverReaches;I)I"⟩
abbrev cL_lineChar : ByteArray := method_36_code
def yL_lineChar : MethodName := ⟨RL, "lineChar", "(LRiverReaches;I)I"⟩
abbrev cL_denial : ByteArray := method_37_code
def yL_denial : MethodName := ⟨RL, "denial", "(LRiverReaches;)I"⟩
abbrev cL_denialDetail : ByteArray := method_38_code
def yL_denialDetail : MethodName := ⟨RL, "denialDetail", "(LRiverReaches;)I"⟩
abbrev cL_denialCause : ByteArray := method_39_code
def yL_denialCause : MethodName := ⟨RL, "denialCause", "(LRiverReaches;)I"⟩
abbrev cL_denialCauseDetail : ByteArray := method_40_code
def yL_denialCauseDetail : MethodName := ⟨RL, "denialCauseDetail", "(LRiverReaches;)I"⟩
abbrev cL_undo : ByteArray := method_41_code
def yL_undo : MethodName := ⟨RL, "undo", "(LRiverReaches;)I"⟩
abbrev cL_restore : ByteArray := method_42_code
def yL_restore : MethodName := ⟨RL, "restore", "(LRiverReaches;)I"⟩
abbrev cL_runs : ByteArray := method_43_code
def yL_runs : MethodName := ⟨RL, "runs", "(LRiverReaches;Ljava/lang/String;)I"⟩
abbrev cL_is : ByteArray := method_44_code
def yL_is : MethodName := ⟨RL, "is", "(LRiverReaches;II)Z"⟩
abbrev cL_isFive : ByteArray := method_45_code
def yL_isFive : MethodName := ⟨RL, "isFive", "(LRiverReaches;III)Z"⟩
abbrev cL_makes : ByteArray := method_47_code
def yL_makes : MethodName := ⟨RL, "makes", "(LRiverReaches;[I)Z"⟩
abbrev cL_asks : ByteArray := method_48_code
def yL_asks : MethodName := ⟨RL, "asks", "(LRiverReaches;)J"⟩
abbrev cL_changes : ByteArray := method_49_code
def yL_changes : MethodName := ⟨RL, "changes", "(LRiverReaches;I)Z"⟩
abbrev cL_thrown : ByteArray := method_50_code
def yL_thrown : MethodName := ⟨RL, "thrown", "(LRiverReaches;)Z"⟩
abbrev cL_law : ByteArray := code
def yL_law : MethodName := ⟨RL, "law", "([I)Z"⟩
abbrev vwCl : List vw_C := [(RJ0, TJ0, 4), (RJ4, TJ4, 4), (RJx00060, TJx00060, 6), (RJx7c733, TJx7c733, 6), (RX1, TX1, 4), (RX2, TX2, 4), (RX3, TX3, 3), (RX5, TX5, 3), (RX6, TX6, 11), (RX7, TX7, 8), (RX8, TX8, 5), (RX9, TX9, 9)]
end
section
/-! THE ABSTRACT RUN. A heap is a list of cells; a reference is a cell's place in it (from 1000000 on: a constant object, by its place in xK). A cell is (kind, contents): kind below 40: an object of the class vwCl[kind]; 40: a cell of which nothing is known (an exception); 45: a constant of the enum; 50 + t: an array of the type xTy t. -/
abbrev xH : Type := List (Nat × List Value)
abbrev xL : Type := List (Nat × Value)
/-- an instruction: its place, itself, its length, what the pool names there -/
abbrev xE : Type := Nat × Instr × Nat × List Nat
/-- what an instruction does: goes on (at a place, or at the next); calls a method by its number; returns; throws a new exception by its number -/
abbrev xO : Type := (Option Nat × xL × List Value × xH) ⊕ ((Nat × List Value × xL × List Value × xH) ⊕ ((Option Value × xH) ⊕ (Nat × xH)))
abbrev xA : Type := Except (Nat × Nat) (Option Value)
def xnx (loc : xL) (st : List Value) (h : xH) : Option xO := some (.inl (none, loc, st, h))
def xjp (t : Option Nat) (loc : xL) (st : List Value) (h : xH) : Option xO := match t with
  | some t => some (.inl (some t, loc, st, h))
  | none => none
def xtgt (pc : Nat) (off : Int) : Option Nat := if 0 ≤ (pc : Int) + off then some ((pc : Int) + off).toNat else none
def xbr (b : Bool) (pc : Nat) (off : Int) (loc : xL) (st : List Value) (h : xH) : Option xO := match b with
  | true => xjp (xtgt pc off) loc st h
  | false => xnx loc st h
def xget (loc : xL) (i : Nat) : Option Value := (loc.find? (fun q => q.1 == i)).map (fun q => q.2)
def xs1 (loc : xL) (i : Nat) (v : Value) : xL := (i, v) :: loc.filter (fun q => !(q.1 == i) && !(q.1 + 1 == i && q.2.category == 2))
def xs2 (loc : xL) (i : Nat) (v : Value) : xL := (i, v) :: loc.filter (fun q => !(q.1 == i) && (!(q.1 == i + 1) && !(q.1 + 1 == i && q.2.category == 2)))
/-- the types of arrays -/
def xTy : Nat → FieldType
  | 0 => .byte
  | 1 => .char
  | 2 => .long
  | 3 => .object "RiverReaches$Command"
  | 4 => .object "RiverReaches$Pulse"
  | 5 => .object "RiverReaches$Reach"
  | 6 => .object "RiverReaches$River"
  | 7 => .object "RiverReaches$Kind"
  | _ => .int
def xld (p : Value → Bool) (loc : xL) (st : List Value) (h : xH) (i : Nat) : Option xO := match xget loc i with
  | some v => match p v with
    | true => xnx loc (v :: st) h
    | false => none
  | none => none
def xisI : Value → Bool
  | .int _ => true
  | _ => false
def xisJ : Value → Bool
  | .long _ => true
  | _ => false
def xisF : Value → Bool
  | .float _ => true
  | _ => false
def xisD : Value → Bool
  | .double _ => true
  | _ => false
def xisA : Value → Bool
  | .ref _ => true
  | .null => true
  | _ => false
def xst1 (p : Value → Bool) (nL : Nat) (loc : xL) (st : List Value) (h : xH) (i : Nat) : Option xO := match st with
  | v :: r => match p v && decide (i < nL) with
    | true => xnx (xs1 loc i v) r h
    | false => none
  | [] => none
def xst2 (p : Value → Bool) (nL : Nat) (loc : xL) (st : List Value) (h : xH) (i : Nat) : Option xO := match st with
  | v :: r => match p v && decide (i + 1 < nL) with
    | true => xnx (xs2 loc i v) r h
    | false => none
  | [] => none
def xinc (nL : Nat) (loc : xL) (st : List Value) (h : xH) (i : Nat) (n : Int) : Option xO := match xget loc i with
  | some (.int x) => match decide (i < nL) with
    | true => xnx (xs1 loc i (.int (x + Int32.ofInt n))) st h
    | false => none
  | _ => none
def xii (f : Int32 → Int32 → Int32) (loc : xL) (st : List Value) (h : xH) : Option xO := match st with
  | .int y :: .int x :: r => xnx loc (.int (f x y) :: r) h
  | _ => none
def xiz (f : Int32 → Int32 → Int32) (loc : xL) (st : List Value) (h : xH) : Option xO := match st with
  | .int y :: .int x :: r => match decide (y = 0) with
    | true => none
    | false => xnx loc (.int (f x y) :: r) h
  | _ => none
def xi1 (f : Int32 → Value) (loc : xL) (st : List Value) (h : xH) : Option xO := match st with
  | .int x :: r => xnx loc (f x :: r) h
  | _ => none
def xjj (f : Int64 → Int64 → Value) (loc : xL) (st : List Value) (h : xH) : Option xO := match st with
  | .long y :: .long x :: r => xnx loc (f x y :: r) h
  | _ => none
def xic (c : ClassFile.Cond) (x y : Int32) : Bool := match c with
  | .eq => decide (x = y)
  | .ne => !decide (x = y)
  | .lt => decide (x < y)
  | .ge => decide (y ≤ x)
  | .gt => decide (y < x)
  | .le => decide (x ≤ y)
/-- does a field of this type take this value as it is -/
def xfit (ty : FieldType) (v : Value) : Bool := match ty, v with
  | .int, .int _ => true
  | .long, .long _ => true
  | .char, .int x => decide (0 ≤ x) && decide (x ≤ 65535)
  | .boolean, .int x => decide (x = 0) || decide (x = 1)
  | .byte, .int x => decide (-128 ≤ x) && decide (x ≤ 127)
  | .object _, .null => true
  | .object _, .ref _ => true
  | .array _, .null => true
  | .array _, .ref _ => true
  | .float, .float _ => true
  | .double, .double _ => true
  | _, _ => false
def xin (i : Int32) (n : Nat) : Bool := decide (0 ≤ i) && decide (i.toNatClampNeg < n)
/-- the constant objects: the script first (XS), then the printed ones -/
def xcell (K : List (Nat × List Value)) (h : xH) (a : Nat) : Option (Nat × List Value) := match decide (a < 1000000) with
  | true => h[a]?
  | false => K[a - 1000000]?
def xknown : Value → Bool
  | .retAddr _ => false
  | _ => true
/-- getfield of the place k in a cell of the kind ci -/
def xgetf (K : List (Nat × List Value)) (ci k : Nat) (loc : xL) (st : List Value) (h : xH) : Option xO := match st with
  | .ref a :: r => match xcell K h a with
    | some (c, vs) => match decide (c = ci) with
      | true => match vs[k]? with
        | some v => match xknown v with
          | true => xnx loc (v :: r) h
          | false => none
        | none => none
      | false => none
    | none => none
  | _ => none
/-- putfield -/
def xputf (ty : FieldType) (ci k : Nat) (loc : xL) (st : List Value) (h : xH) : Option xO := match st with
  | v :: .ref a :: r => match decide (a < 1000000) with
    | true => match h[a]? with
      | some (c, vs) => match decide (c = ci) && (decide (k < vs.length) && xfit ty v) with
        | true => xnx loc r (h.set a (c, vs.set k v))
        | false => none
      | none => none
    | false => none
  | _ => none
/-- a load out of an array whose kind is one of 50 + t -/
def xald (K : List (Nat × List Value)) (p : Value → Bool) (t : Nat → Nat → Bool) (loc : xL) (st : List Value) (h : xH) : Option xO := match st with
  | .int i :: .ref a :: r => match xcell K h a with
    | some (c, vs) => match decide (50 ≤ c) && (t a (c - 50) && xin i vs.length) with
      | true => match vs[i.toNatClampNeg]? with
        | some v => match p v with
          | true => xnx loc (v :: r) h
          | false => none
        | none => none
      | false => none
    | none => none
  | _ => none
/-- a store of a number into an array of the kind 50 + t -/
def xast (t : Nat) (f : Value → Option Value) (loc : xL) (st : List Value) (h : xH) : Option xO := match st with
  | v :: .int i :: .ref a :: r => match decide (a < 1000000) with
    | true => match h[a]? with
      | some (c, vs) => match decide (c = 50 + t) && xin i vs.length with
        | true => match f v with
          | some w => xnx loc r (h.set a (c, vs.set i.toNatClampNeg w))
          | none => none
        | false => none
      | none => none
    | false => none
  | _ => none
/-- a store of a reference: the classes by their places in vwCl, as the arrays' types name them -/
def xAC : Nat → Nat
  | 3 => 4
  | 4 => 7
  | 5 => 8
  | 6 => 9
  | _ => 39
def xasq (loc : xL) (st : List Value) (h : xH) : Option xO := match st with
  | .ref b :: .int i :: .ref a :: r => match decide (a < 1000000) && decide (b < 1000000) with
    | true => match h[a]?, h[b]? with
      | some (c, vs), some (d, _) => match decide (53 ≤ c) && (decide (c ≤ 56) && (decide (d = xAC (c - 50)) && xin i vs.length)) with
        | true => xnx loc r (h.set a (c, vs.set i.toNatClampNeg (.ref b)))
        | false => none
      | _, _ => none
    | false => none
  | _ => none
def xalen (K : List (Nat × List Value)) (loc : xL) (st : List Value) (h : xH) : Option xO := match st with
  | .ref a :: r => match xcell K h a with
    | some (c, vs) => match decide (50 ≤ c) && (decide (1000000 ≤ a) || decide (c ≤ 56)) with
      | true => xnx loc (.int (Int32.ofNat vs.length) :: r) h
      | false => none
    | none => none
  | _ => none
/-- what the fields of a new object hold -/
def xnew0 : Nat → List Value
  | 0 => [.null, .int 0, .int 0, .int 0]
  | 1 => [.null, .int 0, .int 0, .int 0]
  | 4 => [.null, .int 0, .int 0, .int 0]
  | 5 => [.int 0, .int 0, .int 0, .int 0]
  | 6 => [.null, .int 0, .int 0]
  | 7 => [.int 0, .int 0, .int 0]
  | 8 => [.int 0, .int 0, .int 0, .int 0, .int 0, .int 0, .int 0, .int 0, .int 0, .int 0, .int 0]
  | 9 => [.null, .null, .int 0, .int 0, .int 0, .int 0, .int 0, .int 0]
  | 10 => [.null, .null, .int 0, .int 0, .int 0]
  | 11 => [.null, .null, .null, .null, .null, .null, .null, .int 0, .int 0]
  | _ => []
def xnew (ci : Nat) (loc : xL) (st : List Value) (h : xH) : Option xO := match decide (h.length < 1000000) with
  | true => xnx loc (.ref h.length :: st) (h ++ [(ci, xnew0 ci)])
  | false => none
def xnewa (t : Nat) (v : Value) (loc : xL) (st : List Value) (h : xH) : Option xO := match st with
  | .int n :: r => match decide (0 ≤ n) && (decide (n.toNatClampNeg ≤ 60000) && decide (h.length < 1000000)) with
    | true => xnx loc (.ref h.length :: r) (h ++ [(50 + t, List.replicate n.toNatClampNeg v)])
    | false => none
  | _ => none
/-- clone of an array of bytes -/
def xclone (loc : xL) (st : List Value) (h : xH) : Option xO := match st with
  | .ref a :: r => match decide (a < 1000000) && (decide (h.length < 1000000) && decide ((r.map fun v => v.category).sum ≤ 8)) with
    | true => match h[a]? with
      | some (c, vs) => match decide (c = 50) && vs.all (fun v => xfit .byte v) with
        | true => xnx loc (.ref h.length :: r) (h ++ [(c, vs)])
        | false => none
      | none => none
    | false => none
  | _ => none
def xcpy (f g : List Value) (sp dp n : Nat) : List Value := (List.range g.length).map fun k => if dp ≤ k ∧ k < dp + n then f.getD (sp + (k - dp)) .null else g.getD k .null
/-- System.arraycopy of bytes, into another array that is no constant -/
def xcopy (K : List (Nat × List Value)) (loc : xL) (st : List Value) (h : xH) : Option xO := match st with
  | .int n :: .int dp :: .ref a :: .int sp :: .ref b :: r => match decide (a < 1000000) && (!decide (a = b) && decide ((r.map fun v => v.category).sum ≤ 8)) with
    | true => match h[a]?, xcell K h b with
      | some (c, g), some (d, f) => match decide (c = 50) && (decide (d = 50) && (decide (0 ≤ n) && (decide (0 ≤ sp) && (decide (0 ≤ dp) && (decide (sp.toNatClampNeg + n.toNatClampNeg ≤ f.length) && (decide (dp.toNatClampNeg + n.toNatClampNeg ≤ g.length) && f.all (fun v => xfit .byte v))))))) with
        | true => xnx loc r (h.set a (c, xcpy f g sp.toNatClampNeg dp.toNatClampNeg n.toNatClampNeg))
        | false => none
      | _, _ => none
    | false => none
  | _ => none
def xcast (loc : xL) (st : List Value) (h : xH) : Option xO := match st with
  | .ref a :: r => match decide (a < 1000000) with
    | true => match h[a]? with
      | some (c, _) => match decide (c = 50) with
        | true => xnx loc (.ref a :: r) h
        | false => none
      | none => none
    | false => none
  | _ => none
/-- a call: the method by its number, how many arguments (the receiver too) -/
def xcall (mi n : Nat) (loc : xL) (st : List Value) (h : xH) : Option xO := match decide (n ≤ st.length) && decide (((st.drop n).map fun v => v.category).sum ≤ 8) with
  | true => some (.inr (.inl (mi, (st.take n).reverse, loc, st.drop n, h)))
  | false => none
def xsw (pc : Nat) (d lo hi : Int) (offs : Array Int) (loc : xL) (st : List Value) (h : xH) : Option xO := match st with
  | .int x :: r => match decide (x.toInt < lo) || decide (hi < x.toInt) with
    | true => xjp (xtgt pc d) loc r h
    | false => match offs[(x.toInt - lo).toNat]? with
      | some o => xjp (xtgt pc o) loc r h
      | none => none
  | _ => none
def xret (p : Value → Bool) (st : List Value) (h : xH) : Option xO := match st with
  | [v] => match p v with
    | true => some (.inr (.inr (.inl (some v, h))))
    | false => none
  | _ => none
def xb8 : Value → Option Value
  | .int x => some (.int x.toInt8.toInt32)
  | _ => none
def xb16 : Value → Option Value
  | .int x => some (.int x.toUInt32.toUInt16.toUInt32.toInt32)
  | _ => none
def xb64 : Value → Option Value
  | .long x => some (.long x)
  | _ => none
/-- the statics that are read: Z holds one value for each -/
def xgets (Z : List Value) (j : Nat) (loc : xL) (st : List Value) (h : xH) : Option xO := match Z[j]? with
  | some v => xnx loc (v :: st) h
  | none => none
def xroom (r : List Value) : Bool := decide ((r.map fun v => v.category).sum ≤ 8)
def xf1 (f : Value → Option Value) (loc : xL) (st : List Value) (h : xH) : Option xO := match st with
  | v :: r => match f v with
    | some w => match xroom r with
      | true => xnx loc (w :: r) h
      | false => none
    | none => none
  | [] => none
def xf2 (f : Value → Value → Option Value) (loc : xL) (st : List Value) (h : xH) : Option xO := match st with
  | w :: v :: r => match f v w with
    | some u => xnx loc (u :: r) h
    | none => none
  | _ => none
def xfdiv : Value → Value → Option Value
  | .float x, .float y => match decide (FP.fdiv x y &&& 0x7fffffff ≤ 0x7f800000) with
    | true => some (.float (FP.fdiv x y))
    | false => none
  | _, _ => none
def xddiv : Value → Value → Option Value
  | .double x, .double y => match decide (FP.ddiv x y &&& 0x7fffffffffffffff ≤ 0x7ff0000000000000) with
    | true => some (.double (FP.ddiv x y))
    | false => none
  | _, _ => none
def xfcmp (o : ClassFile.CmpOp) : Value → Value → Option Value
  | .float x, .float y => some (.int (Op.cmpValue (FP.fcmp x y) o))
  | _, _ => none
def xdcmp (o : ClassFile.CmpOp) : Value → Value → Option Value
  | .double x, .double y => some (.int (Op.cmpValue (FP.dcmp x y) o))
  | _, _ => none
def xd2l : Value → Option Value
  | .double b => some (.long b.toInt64)
  | _ => none
def xf2i : Value → Option Value
  | .float b => some (.int b.toInt32)
  | _ => none
def xcat1 (loc : xL) (st : List Value) (h : xH) (f : Value → List Value → List Value) : Option xO := match st with
  | v :: r => match decide (v.category = 1) with
    | true => xnx loc (f v r) h
    | false => none
  | [] => none
def xdx1 (loc : xL) (st : List Value) (h : xH) : Option xO := match st with
  | v :: w :: r => match decide (v.category = 1) && decide (w.category = 1) with
    | true => xnx loc (v :: w :: v :: r) h
    | false => none
  | _ => none
/-- the types of the fields of the classes in vwCl -/
def xFts : List (Nat → FieldType) := [tyJ0, tyJ4, tyJx00060, tyJx7c733, tyX1, tyX2, tyX3, tyX5, tyX6, tyX7, tyX8, tyX9]
def xFt (ci k : Nat) : FieldType := (xFts.getD ci (fun _ => .int)) k
def xa1 (aux : List Nat) (f : Nat → Option xO) : Option xO := match aux with
  | a :: _ => f a
  | [] => none
def xa2 (aux : List Nat) (f : Nat → Nat → Option xO) : Option xO := match aux with
  | a :: b :: _ => f a b
  | _ => none
def xnewx (loc : xL) (st : List Value) (h : xH) (k i : Nat) : Option xO := match decide (k = 0) with
  | true => xnew i loc st h
  | false => match decide (k = 1) && xroom st with
    | true => some (.inr (.inr (.inr (i, h))))
    | false => none
def xldc (loc : xL) (st : List Value) (h : xH) (k v : Nat) : Option xO := match k with
  | 0 => xnx loc (.int (Int32.ofNat v) :: st) h
  | 1 => xnx loc (.ref (1000000 + v) :: st) h
  | 2 => xnx loc (.float (UInt32.ofNat v) :: st) h
  | _ => none
def xldw (loc : xL) (st : List Value) (h : xH) (k v : Nat) : Option xO := match decide (k = 1) with
  | true => xnx loc (.ref (1000000 + v) :: st) h
  | false => none
def xld2 (loc : xL) (st : List Value) (h : xH) (k v : Nat) : Option xO := match decide (k = 0) with
  | true => xnx loc (.long (Int64.ofNat v) :: st) h
  | false => xnx loc (.double (UInt64.ofNat v) :: st) h
/-- the receiver of a call with n arguments is of the kind rc -/
def xrcv (K : List (Nat × List Value)) (h : xH) (st : List Value) (n rc : Nat) : Bool := match st[n - 1]? with
  | some (.ref a) => match xcell K h a with
    | some (c, _) => decide (c = rc)
    | none => false
  | _ => false
/-- the kind of the receiver, as the entry tells it: aux behind the kind of the call -/
def xrc (k r : Nat) : Nat := match k with
  | 0 => r
  | 3 => match r with
    | 0 => 1
    | _ => 45
  | _ => 1
def xvirt (K : List (Nat × List Value)) (loc : xL) (st : List Value) (h : xH) (aux : List Nat) : Option xO := match aux with
  | k :: r => match decide (k = 9) with
    | true => xclone loc st h
    | false => match r with
      | mi :: n :: _ :: rc :: _ => match xrcv K h st n (xrc k rc) with
        | true => xcall mi n loc st h
        | false => none
      | _ => none
  | [] => none
def xstat (K : List (Nat × List Value)) (loc : xL) (st : List Value) (h : xH) (aux : List Nat) : Option xO := match aux with
  | k :: r => match decide (k = 8) with
    | true => xcopy K loc st h
    | false => match decide (k = 10) with
      | true => xf1 xd2l loc st h
      | false => match decide (k = 11) with
        | true => xf1 xf2i loc st h
        | false => xa2 r fun mi n => xcall mi n loc st h
  | [] => none
def xrf (st : List Value) (n : Nat) : Bool := match st[n - 1]? with
  | some (.ref _) => true
  | _ => false
def xspec (K : List (Nat × List Value)) (loc : xL) (st : List Value) (h : xH) (aux : List Nat) : Option xO := match aux with
  | k :: r => match decide (k = 7) with
    | true => match st with
      | .ref _ :: r => match xroom r with
        | true => xnx loc r h
        | false => none
      | _ => none
    | false => xa2 r fun mi n => match xrf st n && (!decide (k = 4) || xrcv K h st n 1) with
      | true => xcall mi n loc st h
      | false => none
  | [] => none
def xif1 (c : ClassFile.Cond) (pc : Nat) (o : Int) (loc : xL) (st : List Value) (h : xH) : Option xO := match st with
  | .int x :: r => xbr (xic c x 0) pc o loc r h
  | _ => none
def xif2 (c : ClassFile.Cond) (pc : Nat) (o : Int) (loc : xL) (st : List Value) (h : xH) : Option xO := match st with
  | .int y :: .int x :: r => xbr (xic c x y) pc o loc r h
  | _ => none
def xifn (b : Bool) (pc : Nat) (o : Int) (loc : xL) (st : List Value) (h : xH) : Option xO := match st with
  | .ref _ :: r => xbr b pc o loc r h
  | .null :: r => xbr (!b) pc o loc r h
  | _ => none
def xretv (st : List Value) (h : xH) : Option xO := match st with
  | [] => some (.inr (.inr (.inl (none, h))))
  | _ => none
/-- ONE INSTRUCTION -/
def xstep (nL : Nat) (K : List (Nat × List Value)) (Z : List Value) (e : xE) (loc : xL) (st : List Value) (h : xH) : Option xO := match e.2.1 with
  | .aload_n k => xld xisA loc st h k
  | .aload i => xld xisA loc st h i
  | .iload_n k => xld xisI loc st h k
  | .iload i => xld xisI loc st h i
  | .lload_n k => xld xisJ loc st h k
  | .lload i => xld xisJ loc st h i
  | .fload_n k => xld xisF loc st h k
  | .dload_n k => xld xisD loc st h k
  | .istore_n k => xst1 xisI nL loc st h k
  | .istore i => xst1 xisI nL loc st h i
  | .astore_n k => xst1 xisA nL loc st h k
  | .astore i => xst1 xisA nL loc st h i
  | .lstore_n k => xst2 xisJ nL loc st h k
  | .lstore i => xst2 xisJ nL loc st h i
  | .iinc i n => xinc nL loc st h i n
  | .iconst n => xnx loc (.int (Int32.ofInt n) :: st) h
  | .bipush n => xnx loc (.int (Int8.ofInt n).toInt32 :: st) h
  | .sipush n => xnx loc (.int (Int16.ofInt n).toInt32 :: st) h
  | .aconst_null => xnx loc (.null :: st) h
  | .iadd => xii (fun x y => x + y) loc st h
  | .isub => xii (fun x y => x - y) loc st h
  | .imul => xii (fun x y => x * y) loc st h
  | .iand => xii (fun x y => x &&& y) loc st h
  | .ior => xii (fun x y => x ||| y) loc st h
  | .ixor => xii (fun x y => x ^^^ y) loc st h
  | .ishl => xii (fun x y => x <<< (y &&& 31)) loc st h
  | .ishr => xii (fun x y => x >>> (y &&& 31)) loc st h
  | .iushr => xii (fun x y => (x.toUInt32 >>> (y.toUInt32 &&& Int32.toUInt32 31)).toInt32) loc st h
  | .idiv => xiz (fun x y => x / y) loc st h
  | .irem => xiz (fun x y => x - x / y * y) loc st h
  | .ineg => xi1 (fun x => .int (-x)) loc st h
  | .i2l => xi1 (fun x => .long x.toInt64) loc st h
  | .i2b => xi1 (fun x => .int x.toInt8.toInt32) loc st h
  | .i2c => xi1 (fun x => .int (x.toUInt32 % 65536).toInt32) loc st h
  | .i2f => xi1 (fun x => .float (FP.i2f x)) loc st h
  | .i2d => xi1 (fun x => .double (FP.i2d x)) loc st h
  | .ladd => xjj (fun x y => .long (x + y)) loc st h
  | .lmul => xjj (fun x y => .long (x * y)) loc st h
  | .lcmp => xjj (fun x y => .int (lg_cmp x y)) loc st h
  | .fdiv => xf2 xfdiv loc st h
  | .ddiv => xf2 xddiv loc st h
  | .fcmp o => xf2 (xfcmp o) loc st h
  | .dcmp o => xf2 (xdcmp o) loc st h
  | .dup => xcat1 loc st h (fun v r => v :: v :: r)
  | .pop => xcat1 loc st h (fun _ r => r)
  | .dup_x1 => xdx1 loc st h
  | .goto o => xjp (xtgt e.1 o) loc st h
  | .ifCond c o => xif1 c e.1 o loc st h
  | .if_icmp c o => xif2 c e.1 o loc st h
  | .ifnonnull o => xifn true e.1 o loc st h
  | .ifnull o => xifn false e.1 o loc st h
  | .tableswitch d lo hi offs => xsw e.1 d lo hi offs loc st h
  | .getfield _ => xa2 e.2.2.2 fun ci k => xgetf K ci k loc st h
  | .putfield _ => xa2 e.2.2.2 fun ci k => xputf (xFt ci k) ci k loc st h
  | .getstatic _ => xa1 e.2.2.2 fun j => xgets Z j loc st h
  | .iaload => xald K xisI (fun a t => decide (1000000 ≤ a) && decide (8 ≤ t)) loc st h
  | .baload => xald K xisI (fun _ t => decide (t = 0)) loc st h
  | .caload => xald K xisI (fun a t => decide (a < 1000000) && decide (t = 1)) loc st h
  | .laload => xald K xisJ (fun a t => decide (a < 1000000) && decide (t = 2)) loc st h
  | .aaload => xald K xisA (fun a t => (decide (a < 1000000) && (decide (3 ≤ t) && decide (t ≤ 6))) || (decide (1000000 ≤ a) && decide (t = 7))) loc st h
  | .bastore => xast 0 xb8 loc st h
  | .castore => xast 1 xb16 loc st h
  | .lastore => xast 2 xb64 loc st h
  | .aastore => xasq loc st h
  | .arraylength => xalen K loc st h
  | .new _ => xa2 e.2.2.2 fun k i => xnewx loc st h k i
  | .newarray .byte => xnewa 0 (.int 0) loc st h
  | .newarray .char => xnewa 1 (.int 0) loc st h
  | .newarray .long => xnewa 2 (.long 0) loc st h
  | .anewarray _ => xa1 e.2.2.2 fun t => xnewa t .null loc st h
  | .ldc _ => xa2 e.2.2.2 fun k v => xldc loc st h k v
  | .ldc_w _ => xa2 e.2.2.2 fun k v => xldw loc st h k v
  | .ldc2_w _ => xa2 e.2.2.2 fun k v => xld2 loc st h k v
  | .checkcast _ => xa1 e.2.2.2 fun _ => xcast loc st h
  | .invokevirtual _ => xvirt K loc st h e.2.2.2
  | .invokestatic _ => xstat K loc st h e.2.2.2
  | .invokespecial _ => xspec K loc st h e.2.2.2
  | .ireturn => xret xisI st h
  | .lreturn => xret xisJ st h
  | .freturn => xret xisF st h
  | .dreturn => xret xisD st h
  | .areturn => xret xisA st h
  | .return_ => xretv st h
  | _ => none
/-- the code from a place on -/
def xseek : List xE → Nat → List xE
  | [], _ => []
  | e :: r, t => match decide (e.1 = t) with
    | true => e :: r
    | false => xseek r t
/-- who catches E at pc: the place, or nobody -/
def xhand : List (Nat × Nat × Nat × Nat) → Nat → Nat → Option Nat
  | [], _, _ => none
  | (a, b, t, E') :: r, pc, E => match decide (a ≤ pc) && (decide (pc < b) && decide (E' = E)) with
    | true => some t
    | false => xhand r pc E
/-- calls that may throw: virtual ones of a class's own methods, and static ones -/
def xmay (e : xE) : Bool := match e.2.2.2 with
  | k :: _ => decide (k ≤ 1)
  | [] => false
/-- A METHOD'S BODY: hs its handlers, each with the number of the exception that it takes -/
def xev (call : Nat → List Value → xH → Option (xA × xH)) (nL : Nat) (K : List (Nat × List Value)) (Z : List Value) (hs : List (Nat × Nat × Nat × Nat)) (code : List xE) : Nat → List xE → xL → List Value → xH → Option (xA × xH)
  | 0, _, _, _, _ => none
  | _ + 1, [], _, _, _ => none
  | n + 1, e :: cs, loc, st, h => match xstep nL K Z e loc st h with
    | none => none
    | some (.inl (none, loc, st, h)) => xev call nL K Z hs code n cs loc st h
    | some (.inl (some t, loc, st, h)) => xev call nL K Z hs code n (xseek code t) loc st h
    | some (.inr (.inl (mi, args, loc, st, h))) => match call mi args h with
      | none => none
      | some (.ok v, h) => xev call nL K Z hs code n cs loc (v.toList ++ st) h
      | some (.error (E, q), h) => match xmay e with
        | true => match xhand hs e.1 E with
          | some t => xev call nL K Z hs code n (xseek code t) loc [.ref q] h
          | none => some (.error (E, q), h)
        | false => none
    | some (.inr (.inr (.inl (v, h)))) => some (.ok v, h)
    | some (.inr (.inr (.inr (E, h)))) => match decide (h.length < 1000000) with
      | true => some (.error (E, h.length), h ++ [(40, List.replicate 6 .null)])
      | false => none
/-- a method: its name, code, locals, answer, handlers (as the class file has them, and the exceptions' numbers), instructions -/
abbrev xMi : Type := MethodName × ByteArray × Nat × Option FieldType × List (Nat × Nat × Nat × Nat) × List Nat × List xE
def xhs (m : xMi) : List (Nat × Nat × Nat × Nat) := (m.2.2.2.2.1.zip m.2.2.2.2.2.1).map fun q => (q.1.1, q.1.2.1, q.1.2.2.1, q.2)
/-- does what a method answers fit its type -/
def xrfit (r : Option FieldType) (v : Option Value) : Bool := match r, v with
  | none, none => true
  | some ty, some v => xfit ty v
  | _, _ => false
/-- THE METHODS, d calls deep -/
def xrun (M : List xMi) (K : List (Nat × List Value)) (Z : List Value) : Nat → Nat → Nat → List Value → xH → Option (xA × xH)
  | 0, _, _, _, _ => none
  | d + 1, f, mi, args, h => match M[mi]? with
    | none => none
    | some m => match xev (xrun M K Z d f) m.2.2.1 K Z (xhs m) m.2.2.2.2.2.2 f m.2.2.2.2.2.2 (lv_args 0 args) [] h with
      | some (.ok v, h) => match xrfit m.2.2.2.1 v with
        | true => some (.ok v, h)
        | false => none
      | r => r
end
section
/-! the instructions of every method, by program out of the decode rows and the words of the Statement -/
def xcX1_init : List xE := [(0, .aload_n 0, 1, []),
  (1, .invokespecial 1, 3, [7, 203]),
  (4, .aload_n 0, 1, []),
  (5, .getstatic 7, 3, [1, 204, 0]),
  (8, .putfield 13, 3, [4, 0, 206, 0]),
  (11, .return_, 1, [])]
def xcX1_put : List xE := [(0, .iload_n 1, 1, []),
  (1, .ifCond .ne 11, 3, []),
  (4, .aload_n 0, 1, []),
  (5, .iload_n 2, 1, []),
  (6, .putfield 18, 3, [4, 1, 209, 0]),
  (9, .goto 21, 3, []),
  (12, .iload_n 1, 1, []),
  (13, .iconst 1, 1, []),
  (14, .if_icmp .ne 11, 3, []),
  (17, .aload_n 0, 1, []),
  (18, .iload_n 2, 1, []),
  (19, .putfield 22, 3, [4, 2, 211, 0]),
  (22, .goto 8, 3, []),
  (25, .aload_n 0, 1, []),
  (26, .iload_n 2, 1, []),
  (27, .putfield 25, 3, [4, 3, 214, 0]),
  (30, .return_, 1, [])]
def xcX2_init : List xE := [(0, .aload_n 0, 1, []),
  (1, .invokespecial 1, 3, [7, 248]),
  (4, .return_, 1, [])]
def xcX2_keep : List xE := [(0, .aload_n 0, 1, []),
  (1, .iload_n 1, 1, []),
  (2, .putfield 7, 3, [5, 0, 249, 0]),
  (5, .aload_n 0, 1, []),
  (6, .iload_n 2, 1, []),
  (7, .putfield 13, 3, [5, 1, 251, 0]),
  (10, .aload_n 0, 1, []),
  (11, .iload_n 3, 1, []),
  (12, .putfield 16, 3, [5, 2, 253, 0]),
  (15, .aload_n 0, 1, []),
  (16, .iload 4, 2, []),
  (18, .putfield 19, 3, [5, 3, 255, 0]),
  (21, .return_, 1, [])]
def xcX3_init : List xE := [(0, .aload_n 0, 1, []),
  (1, .invokespecial 3, 3, [7, 176]),
  (4, .aload_n 0, 1, []),
  (5, .bipush 9, 2, []),
  (7, .anewarray 11, 3, [6, 177]),
  (10, .putfield 13, 3, [6, 0, 180, 1]),
  (13, .iconst 0, 1, []),
  (14, .istore_n 1, 1, []),
  (15, .iload_n 1, 1, []),
  (16, .bipush 9, 2, []),
  (18, .if_icmp .ge 22, 3, []),
  (21, .aload_n 0, 1, []),
  (22, .getfield 13, 3, [6, 0, 180, 1]),
  (25, .iload_n 1, 1, []),
  (26, .new 11, 3, [0, 9, 177, 61, 17]),
  (29, .dup, 1, []),
  (30, .invokespecial 17, 3, [2, 21, 1, 179]),
  (33, .aastore, 1, []),
  (34, .iinc 1 1, 3, []),
  (37, .goto (-22), 3, []),
  (40, .return_, 1, [])]
def xcX3_nextRow : List xE := [(0, .aload_n 0, 1, []),
  (1, .getfield 13, 3, [6, 0, 180, 1]),
  (4, .aload_n 0, 1, []),
  (5, .getfield 18, 3, [6, 1, 181, 0]),
  (8, .iconst 0, 1, []),
  (9, .bipush 8, 2, []),
  (11, .invokestatic 22, 3, [6, 116, 3, 387]),
  (14, .ifCond .eq 10, 3, []),
  (17, .aload_n 0, 1, []),
  (18, .getfield 18, 3, [6, 1, 181, 0]),
  (21, .goto 4, 3, []),
  (24, .iconst 0, 1, []),
  (25, .aaload, 1, []),
  (26, .areturn, 1, [])]
def xcX3_note : List xE := [(0, .aload_n 0, 1, []),
  (1, .invokevirtual 26, 3, [0, 5, 1, 383, 6]),
  (4, .aload_n 1, 1, []),
  (5, .invokevirtual 30, 3, [0, 22, 2, 390, 9]),
  (8, .return_, 1, [])]
def xcX3_confirm : List xE := [(0, .aload_n 0, 1, []),
  (1, .aload_n 0, 1, []),
  (2, .getfield 18, 3, [6, 1, 181, 0]),
  (5, .iconst 1, 1, []),
  (6, .iadd, 1, []),
  (7, .bipush 9, 2, []),
  (9, .irem, 1, []),
  (10, .putfield 18, 3, [6, 1, 181, 0]),
  (13, .aload_n 0, 1, []),
  (14, .aload_n 0, 1, []),
  (15, .getfield 34, 3, [6, 2, 182, 0]),
  (18, .iconst 1, 1, []),
  (19, .iadd, 1, []),
  (20, .bipush 8, 2, []),
  (22, .invokestatic 37, 3, [1, 143, 2, 515]),
  (25, .putfield 34, 3, [6, 2, 182, 0]),
  (28, .return_, 1, [])]
def xcX3_putBack : List xE := [(0, .aload_n 1, 1, []),
  (1, .aload_n 0, 1, []),
  (2, .invokevirtual 26, 3, [0, 5, 1, 383, 6]),
  (5, .invokevirtual 30, 3, [0, 22, 2, 390, 9]),
  (8, .return_, 1, [])]
def xcX3_takeBack : List xE := [(0, .aload_n 0, 1, []),
  (1, .aload_n 0, 1, []),
  (2, .getfield 18, 3, [6, 1, 181, 0]),
  (5, .bipush 9, 2, []),
  (7, .iadd, 1, []),
  (8, .iconst 1, 1, []),
  (9, .isub, 1, []),
  (10, .bipush 9, 2, []),
  (12, .irem, 1, []),
  (13, .putfield 18, 3, [6, 1, 181, 0]),
  (16, .aload_n 0, 1, []),
  (17, .dup, 1, []),
  (18, .getfield 34, 3, [6, 2, 182, 0]),
  (21, .iconst 1, 1, []),
  (22, .isub, 1, []),
  (23, .putfield 34, 3, [6, 2, 182, 0]),
  (26, .aload_n 1, 1, []),
  (27, .aload_n 0, 1, []),
  (28, .invokevirtual 26, 3, [0, 5, 1, 383, 6]),
  (31, .invokevirtual 30, 3, [0, 22, 2, 390, 9]),
  (34, .return_, 1, [])]
def xcX3_forgetAll : List xE := [(0, .aload_n 0, 1, []),
  (1, .iconst 0, 1, []),
  (2, .putfield 34, 3, [6, 2, 182, 0]),
  (5, .return_, 1, [])]
def xcX5_init : List xE := [(0, .aload_n 0, 1, []),
  (1, .invokespecial 1, 3, [7, 126]),
  (4, .return_, 1, [])]
def xcX5_begin : List xE := [(0, .aload_n 0, 1, []),
  (1, .iload_n 1, 1, []),
  (2, .putfield 7, 3, [7, 0, 127, 0]),
  (5, .aload_n 0, 1, []),
  (6, .iload_n 2, 1, []),
  (7, .putfield 13, 3, [7, 1, 129, 0]),
  (10, .aload_n 0, 1, []),
  (11, .iload_n 3, 1, []),
  (12, .putfield 16, 3, [7, 2, 131, 0]),
  (15, .return_, 1, [])]
def xcX5_end : List xE := [(0, .aload_n 0, 1, []),
  (1, .getfield 7, 3, [7, 0, 127, 0]),
  (4, .aload_n 0, 1, []),
  (5, .getfield 13, 3, [7, 1, 129, 0]),
  (8, .iadd, 1, []),
  (9, .ireturn, 1, [])]
def xcX5_rateIn : List xE := [(0, .iload_n 1, 1, []),
  (1, .aload_n 0, 1, []),
  (2, .getfield 7, 3, [7, 0, 127, 0]),
  (5, .if_icmp .lt 18, 3, []),
  (8, .iload_n 1, 1, []),
  (9, .aload_n 0, 1, []),
  (10, .invokevirtual 19, 3, [0, 13, 1, 641, 7]),
  (13, .if_icmp .ge 10, 3, []),
  (16, .aload_n 0, 1, []),
  (17, .getfield 16, 3, [7, 2, 131, 0]),
  (20, .goto 4, 3, []),
  (23, .iconst 0, 1, []),
  (24, .ireturn, 1, [])]
def xcX6_init : List xE := [(0, .aload_n 0, 1, []),
  (1, .invokespecial 3, 3, [7, 74]),
  (4, .aload_n 0, 1, []),
  (5, .iconst 1, 1, []),
  (6, .putfield 9, 3, [8, 0, 75, 0]),
  (9, .aload_n 0, 1, []),
  (10, .bipush 102, 2, []),
  (12, .putfield 15, 3, [8, 8, 94, 0]),
  (15, .return_, 1, [])]
def xcX6_begin : List xE := [(0, .aload_n 0, 1, []),
  (1, .iload_n 1, 1, []),
  (2, .putfield 9, 3, [8, 0, 75, 0]),
  (5, .aload_n 0, 1, []),
  (6, .iload_n 2, 1, []),
  (7, .putfield 19, 3, [8, 1, 77, 0]),
  (10, .aload_n 0, 1, []),
  (11, .iload_n 3, 1, []),
  (12, .putfield 22, 3, [8, 2, 79, 0]),
  (15, .aload_n 0, 1, []),
  (16, .iconst 0, 1, []),
  (17, .putfield 25, 3, [8, 3, 81, 0]),
  (20, .aload_n 0, 1, []),
  (21, .iconst 0, 1, []),
  (22, .putfield 28, 3, [8, 4, 84, 0]),
  (25, .aload_n 0, 1, []),
  (26, .bipush 20, 2, []),
  (28, .putfield 31, 3, [8, 5, 87, 0]),
  (31, .aload_n 0, 1, []),
  (32, .bipush 40, 2, []),
  (34, .putfield 34, 3, [8, 6, 89, 0]),
  (37, .aload_n 0, 1, []),
  (38, .bipush 100, 2, []),
  (40, .putfield 37, 3, [8, 7, 92, 0]),
  (43, .aload_n 0, 1, []),
  (44, .bipush 102, 2, []),
  (46, .putfield 15, 3, [8, 8, 94, 0]),
  (49, .return_, 1, [])]
def xcX6_copyFrom : List xE := [(0, .aload_n 0, 1, []),
  (1, .aload_n 1, 1, []),
  (2, .getfield 9, 3, [8, 0, 75, 0]),
  (5, .putfield 9, 3, [8, 0, 75, 0]),
  (8, .aload_n 0, 1, []),
  (9, .aload_n 1, 1, []),
  (10, .getfield 19, 3, [8, 1, 77, 0]),
  (13, .putfield 19, 3, [8, 1, 77, 0]),
  (16, .aload_n 0, 1, []),
  (17, .aload_n 1, 1, []),
  (18, .getfield 22, 3, [8, 2, 79, 0]),
  (21, .putfield 22, 3, [8, 2, 79, 0]),
  (24, .aload_n 0, 1, []),
  (25, .aload_n 1, 1, []),
  (26, .getfield 25, 3, [8, 3, 81, 0]),
  (29, .putfield 25, 3, [8, 3, 81, 0]),
  (32, .aload_n 0, 1, []),
  (33, .aload_n 1, 1, []),
  (34, .getfield 28, 3, [8, 4, 84, 0]),
  (37, .putfield 28, 3, [8, 4, 84, 0]),
  (40, .aload_n 0, 1, []),
  (41, .aload_n 1, 1, []),
  (42, .getfield 31, 3, [8, 5, 87, 0]),
  (45, .putfield 31, 3, [8, 5, 87, 0]),
  (48, .aload_n 0, 1, []),
  (49, .aload_n 1, 1, []),
  (50, .getfield 34, 3, [8, 6, 89, 0]),
  (53, .putfield 34, 3, [8, 6, 89, 0]),
  (56, .aload_n 0, 1, []),
  (57, .aload_n 1, 1, []),
  (58, .getfield 37, 3, [8, 7, 92, 0]),
  (61, .putfield 37, 3, [8, 7, 92, 0]),
  (64, .aload_n 0, 1, []),
  (65, .aload_n 1, 1, []),
  (66, .getfield 15, 3, [8, 8, 94, 0]),
  (69, .putfield 15, 3, [8, 8, 94, 0]),
  (72, .return_, 1, [])]
def xcX6_levelNow : List xE := [(0, .aload_n 0, 1, []),
  (1, .getfield 9, 3, [8, 0, 75, 0]),
  (4, .iconst 1, 1, []),
  (5, .if_icmp .ge 7, 3, []),
  (8, .iconst 0, 1, []),
  (9, .goto 12, 3, []),
  (12, .aload_n 0, 1, []),
  (13, .getfield 28, 3, [8, 4, 84, 0]),
  (16, .aload_n 0, 1, []),
  (17, .getfield 9, 3, [8, 0, 75, 0]),
  (20, .idiv, 1, []),
  (21, .ireturn, 1, [])]
def xcX6_statusNow : List xE := [(0, .aload_n 0, 1, []),
  (1, .getfield 28, 3, [8, 4, 84, 0]),
  (4, .aload_n 0, 1, []),
  (5, .getfield 34, 3, [8, 6, 89, 0]),
  (8, .aload_n 0, 1, []),
  (9, .getfield 9, 3, [8, 0, 75, 0]),
  (12, .imul, 1, []),
  (13, .if_icmp .lt 5, 3, []),
  (16, .iconst 2, 1, []),
  (17, .ireturn, 1, []),
  (18, .aload_n 0, 1, []),
  (19, .getfield 28, 3, [8, 4, 84, 0]),
  (22, .aload_n 0, 1, []),
  (23, .getfield 31, 3, [8, 5, 87, 0]),
  (26, .aload_n 0, 1, []),
  (27, .getfield 9, 3, [8, 0, 75, 0]),
  (30, .imul, 1, []),
  (31, .if_icmp .lt 7, 3, []),
  (34, .iconst 1, 1, []),
  (35, .goto 4, 3, []),
  (38, .iconst 0, 1, []),
  (39, .ireturn, 1, [])]
def xcX6_comesBefore : List xE := [(0, .aload_n 0, 1, []),
  (1, .invokevirtual 40, 3, [0, 18, 1, 1082, 8]),
  (4, .istore_n 2, 1, []),
  (5, .aload_n 1, 1, []),
  (6, .invokevirtual 40, 3, [0, 18, 1, 1082, 8]),
  (9, .istore_n 3, 1, []),
  (10, .iload_n 2, 1, []),
  (11, .iload_n 3, 1, []),
  (12, .if_icmp .gt 19, 3, []),
  (15, .iload_n 2, 1, []),
  (16, .iload_n 3, 1, []),
  (17, .if_icmp .ne 18, 3, []),
  (20, .aload_n 0, 1, []),
  (21, .getfield 28, 3, [8, 4, 84, 0]),
  (24, .aload_n 1, 1, []),
  (25, .getfield 28, 3, [8, 4, 84, 0]),
  (28, .if_icmp .le 7, 3, []),
  (31, .iconst 1, 1, []),
  (32, .goto 4, 3, []),
  (35, .iconst 0, 1, []),
  (36, .ireturn, 1, [])]
def xcX7_init : List xE := [(0, .aload_n 0, 1, []),
  (1, .invokespecial 3, 3, [7, 65]),
  (4, .aload_n 0, 1, []),
  (5, .bipush 8, 2, []),
  (7, .anewarray 9, 3, [5, 66]),
  (10, .putfield 11, 3, [9, 0, 140, 1]),
  (13, .aload_n 0, 1, []),
  (14, .bipush 8, 2, []),
  (16, .anewarray 17, 3, [4, 68]),
  (19, .putfield 19, 3, [9, 1, 141, 1]),
  (22, .iconst 0, 1, []),
  (23, .istore_n 1, 1, []),
  (24, .iload_n 1, 1, []),
  (25, .bipush 8, 2, []),
  (27, .if_icmp .ge 22, 3, []),
  (30, .aload_n 0, 1, []),
  (31, .getfield 11, 3, [9, 0, 140, 1]),
  (34, .iload_n 1, 1, []),
  (35, .new 9, 3, [0, 8, 66, 70, 18]),
  (38, .dup, 1, []),
  (39, .invokespecial 23, 3, [5, 15, 1, 71]),
  (42, .aastore, 1, []),
  (43, .iinc 1 1, 3, []),
  (46, .goto (-22), 3, []),
  (49, .iconst 0, 1, []),
  (50, .istore_n 1, 1, []),
  (51, .iload_n 1, 1, []),
  (52, .bipush 8, 2, []),
  (54, .if_icmp .ge 22, 3, []),
  (57, .aload_n 0, 1, []),
  (58, .getfield 19, 3, [9, 1, 141, 1]),
  (61, .iload_n 1, 1, []),
  (62, .new 17, 3, [0, 7, 68, 122, 19]),
  (65, .dup, 1, []),
  (66, .invokespecial 24, 3, [5, 11, 1, 123]),
  (69, .aastore, 1, []),
  (70, .iinc 1 1, 3, []),
  (73, .goto (-22), 3, []),
  (76, .return_, 1, [])]
def xcX7_copyFrom : List xE := [(0, .iconst 0, 1, []),
  (1, .istore_n 2, 1, []),
  (2, .iload_n 2, 1, []),
  (3, .bipush 8, 2, []),
  (5, .if_icmp .ge 24, 3, []),
  (8, .aload_n 0, 1, []),
  (9, .getfield 11, 3, [9, 0, 140, 1]),
  (12, .iload_n 2, 1, []),
  (13, .aaload, 1, []),
  (14, .aload_n 1, 1, []),
  (15, .getfield 11, 3, [9, 0, 140, 1]),
  (18, .iload_n 2, 1, []),
  (19, .aaload, 1, []),
  (20, .invokevirtual 25, 3, [0, 17, 2, 359, 8]),
  (23, .iinc 2 1, 3, []),
  (26, .goto (-24), 3, []),
  (29, .iconst 0, 1, []),
  (30, .istore_n 2, 1, []),
  (31, .iload_n 2, 1, []),
  (32, .bipush 8, 2, []),
  (34, .if_icmp .ge 37, 3, []),
  (37, .aload_n 1, 1, []),
  (38, .getfield 19, 3, [9, 1, 141, 1]),
  (41, .iload_n 2, 1, []),
  (42, .aaload, 1, []),
  (43, .astore_n 3, 1, []),
  (44, .aload_n 0, 1, []),
  (45, .getfield 19, 3, [9, 1, 141, 1]),
  (48, .iload_n 2, 1, []),
  (49, .aaload, 1, []),
  (50, .aload_n 3, 1, []),
  (51, .getfield 29, 3, [7, 0, 128, 0]),
  (54, .aload_n 3, 1, []),
  (55, .getfield 33, 3, [7, 1, 130, 0]),
  (58, .aload_n 3, 1, []),
  (59, .getfield 36, 3, [7, 2, 132, 0]),
  (62, .invokevirtual 39, 3, [0, 12, 4, 363, 7]),
  (65, .iinc 2 1, 3, []),
  (68, .goto (-37), 3, []),
  (71, .aload_n 0, 1, []),
  (72, .aload_n 1, 1, []),
  (73, .getfield 43, 3, [9, 2, 142, 0]),
  (76, .putfield 43, 3, [9, 2, 142, 0]),
  (79, .aload_n 0, 1, []),
  (80, .aload_n 1, 1, []),
  (81, .getfield 46, 3, [9, 3, 144, 0]),
  (84, .putfield 46, 3, [9, 3, 144, 0]),
  (87, .aload_n 0, 1, []),
  (88, .aload_n 1, 1, []),
  (89, .getfield 49, 3, [9, 4, 146, 0]),
  (92, .putfield 49, 3, [9, 4, 146, 0]),
  (95, .aload_n 0, 1, []),
  (96, .aload_n 1, 1, []),
  (97, .getfield 52, 3, [9, 5, 148, 0]),
  (100, .putfield 52, 3, [9, 5, 148, 0]),
  (103, .aload_n 0, 1, []),
  (104, .aload_n 1, 1, []),
  (105, .getfield 55, 3, [9, 6, 150, 0]),
  (108, .putfield 55, 3, [9, 6, 150, 0]),
  (111, .aload_n 0, 1, []),
  (112, .aload_n 1, 1, []),
  (113, .getfield 58, 3, [9, 7, 152, 0]),
  (116, .putfield 58, 3, [9, 7, 152, 0]),
  (119, .return_, 1, [])]
def xcX7_hasReach : List xE := [(0, .iload_n 1, 1, []),
  (1, .ifCond .lt 21, 3, []),
  (4, .iload_n 1, 1, []),
  (5, .aload_n 0, 1, []),
  (6, .getfield 43, 3, [9, 2, 142, 0]),
  (9, .if_icmp .ge 13, 3, []),
  (12, .iload_n 1, 1, []),
  (13, .bipush 8, 2, []),
  (15, .if_icmp .ge 7, 3, []),
  (18, .iconst 1, 1, []),
  (19, .goto 4, 3, []),
  (22, .iconst 0, 1, []),
  (23, .ireturn, 1, [])]
def xcX7_row : List xE := [(0, .iload_n 1, 1, []),
  (1, .ifCond .lt 17, 3, []),
  (4, .iload_n 1, 1, []),
  (5, .aload_n 0, 1, []),
  (6, .getfield 43, 3, [9, 2, 142, 0]),
  (9, .if_icmp .ge 9, 3, []),
  (12, .iload_n 1, 1, []),
  (13, .bipush 8, 2, []),
  (15, .if_icmp .lt 11, 3, []),
  (18, .new 61, 3, [1, 0, 591, 34, 63]),
  (21, .dup, 1, []),
  (22, .invokespecial 63, 3, [99, 99999, 0]),
  (25, .athrow, 1, []),
  (26, .aload_n 0, 1, []),
  (27, .getfield 11, 3, [9, 0, 140, 1]),
  (30, .iload_n 1, 1, []),
  (31, .aaload, 1, []),
  (32, .areturn, 1, [])]
def xcX7_perform : List xE := [(0, .getstatic 64, 3, [3, 797, 0]),
  (3, .aload_n 1, 1, []),
  (4, .getfield 70, 3, [4, 0, 207, 0]),
  (7, .invokevirtual 76, 3, [3, 137, 1, 799, 1, 800, 802, 137]),
  (10, .iaload, 1, []),
  (11, .tableswitch 154 1 8 #[45, 62, 67, 80, 93, 110, 123, 137], 45, []),
  (56, .aload_n 0, 1, []),
  (57, .aload_n 1, 1, []),
  (58, .getfield 82, 3, [4, 1, 210, 0]),
  (61, .aload_n 1, 1, []),
  (62, .getfield 83, 3, [4, 2, 212, 0]),
  (65, .aload_n 1, 1, []),
  (66, .getfield 86, 3, [4, 3, 215, 0]),
  (69, .invokevirtual 89, 3, [0, 27, 4, 805, 9]),
  (72, .ireturn, 1, []),
  (73, .aload_n 0, 1, []),
  (74, .invokevirtual 93, 3, [0, 28, 1, 806, 9]),
  (77, .ireturn, 1, []),
  (78, .aload_n 0, 1, []),
  (79, .aload_n 1, 1, []),
  (80, .getfield 82, 3, [4, 1, 210, 0]),
  (83, .aload_n 1, 1, []),
  (84, .getfield 83, 3, [4, 2, 212, 0]),
  (87, .invokevirtual 96, 3, [0, 29, 3, 807, 9]),
  (90, .ireturn, 1, []),
  (91, .aload_n 0, 1, []),
  (92, .aload_n 1, 1, []),
  (93, .getfield 82, 3, [4, 1, 210, 0]),
  (96, .aload_n 1, 1, []),
  (97, .getfield 83, 3, [4, 2, 212, 0]),
  (100, .invokevirtual 100, 3, [0, 30, 3, 811, 9]),
  (103, .ireturn, 1, []),
  (104, .aload_n 0, 1, []),
  (105, .aload_n 1, 1, []),
  (106, .getfield 82, 3, [4, 1, 210, 0]),
  (109, .aload_n 1, 1, []),
  (110, .getfield 83, 3, [4, 2, 212, 0]),
  (113, .aload_n 1, 1, []),
  (114, .getfield 86, 3, [4, 3, 215, 0]),
  (117, .invokevirtual 103, 3, [0, 31, 4, 812, 9]),
  (120, .ireturn, 1, []),
  (121, .aload_n 0, 1, []),
  (122, .aload_n 1, 1, []),
  (123, .getfield 82, 3, [4, 1, 210, 0]),
  (126, .aload_n 1, 1, []),
  (127, .getfield 83, 3, [4, 2, 212, 0]),
  (130, .invokevirtual 106, 3, [0, 32, 3, 816, 9]),
  (133, .ireturn, 1, []),
  (134, .aload_n 0, 1, []),
  (135, .aload_n 1, 1, []),
  (136, .getfield 82, 3, [4, 1, 210, 0]),
  (139, .aload_n 1, 1, []),
  (140, .getfield 83, 3, [4, 2, 212, 0]),
  (143, .i2c, 1, []),
  (144, .invokevirtual 109, 3, [0, 33, 3, 820, 9]),
  (147, .ireturn, 1, []),
  (148, .aload_n 0, 1, []),
  (149, .aload_n 1, 1, []),
  (150, .getfield 82, 3, [4, 1, 210, 0]),
  (153, .aload_n 1, 1, []),
  (154, .getfield 83, 3, [4, 2, 212, 0]),
  (157, .aload_n 1, 1, []),
  (158, .getfield 86, 3, [4, 3, 215, 0]),
  (161, .invokevirtual 113, 3, [0, 34, 4, 825, 9]),
  (164, .ireturn, 1, []),
  (165, .aload_n 0, 1, []),
  (166, .aload_n 1, 1, []),
  (167, .getfield 82, 3, [4, 1, 210, 0]),
  (170, .invokevirtual 116, 3, [0, 35, 2, 826, 9]),
  (173, .ireturn, 1, [])]
def xcX7_detailOf : List xE := [(0, .iload_n 1, 1, []),
  (1, .iconst 4, 1, []),
  (2, .if_icmp .ne 5, 3, []),
  (5, .iload_n 2, 1, []),
  (6, .ireturn, 1, []),
  (7, .iload_n 1, 1, []),
  (8, .iconst 1, 1, []),
  (9, .if_icmp .ne 6, 3, []),
  (12, .bipush 8, 2, []),
  (14, .ireturn, 1, []),
  (15, .aload_n 0, 1, []),
  (16, .getfield 49, 3, [9, 4, 146, 0]),
  (19, .ireturn, 1, [])]
def xcX7_appendReach : List xE := [(0, .iload_n 1, 1, []),
  (1, .iconst 1, 1, []),
  (2, .bipush 50, 2, []),
  (4, .invokestatic 120, 3, [6, 116, 3, 395]),
  (7, .ifCond .eq 24, 3, []),
  (10, .iload_n 2, 1, []),
  (11, .iconst 5, 1, []),
  (12, .bipush 60, 2, []),
  (14, .invokestatic 120, 3, [6, 116, 3, 395]),
  (17, .ifCond .eq 14, 3, []),
  (20, .iload_n 3, 1, []),
  (21, .iconst 1, 1, []),
  (22, .sipush 500, 3, []),
  (25, .invokestatic 120, 3, [6, 116, 3, 395]),
  (28, .ifCond .ne 6, 3, []),
  (31, .bipush (-12), 2, []),
  (33, .ireturn, 1, []),
  (34, .aload_n 0, 1, []),
  (35, .getfield 43, 3, [9, 2, 142, 0]),
  (38, .iconst 0, 1, []),
  (39, .bipush 7, 2, []),
  (41, .invokestatic 120, 3, [6, 116, 3, 395]),
  (44, .ifCond .ne 5, 3, []),
  (47, .iconst (-1), 1, []),
  (48, .ireturn, 1, []),
  (49, .aload_n 0, 1, []),
  (50, .getfield 11, 3, [9, 0, 140, 1]),
  (53, .aload_n 0, 1, []),
  (54, .getfield 43, 3, [9, 2, 142, 0]),
  (57, .aaload, 1, []),
  (58, .iload_n 1, 1, []),
  (59, .iload_n 2, 1, []),
  (60, .iload_n 3, 1, []),
  (61, .invokevirtual 124, 3, [0, 16, 4, 396, 8]),
  (64, .aload_n 0, 1, []),
  (65, .dup, 1, []),
  (66, .getfield 43, 3, [9, 2, 142, 0]),
  (69, .iconst 1, 1, []),
  (70, .iadd, 1, []),
  (71, .putfield 43, 3, [9, 2, 142, 0]),
  (74, .aload_n 0, 1, []),
  (75, .getfield 43, 3, [9, 2, 142, 0]),
  (78, .iconst 1, 1, []),
  (79, .isub, 1, []),
  (80, .ireturn, 1, [])]
def xcX7_cutReach : List xE := [(0, .aload_n 0, 1, []),
  (1, .aload_n 0, 1, []),
  (2, .getfield 43, 3, [9, 2, 142, 0]),
  (5, .iconst 1, 1, []),
  (6, .isub, 1, []),
  (7, .invokevirtual 125, 3, [0, 23, 2, 529, 9]),
  (10, .ifCond .ne 6, 3, []),
  (13, .bipush (-3), 2, []),
  (15, .ireturn, 1, []),
  (16, .aload_n 0, 1, []),
  (17, .getfield 11, 3, [9, 0, 140, 1]),
  (20, .aload_n 0, 1, []),
  (21, .getfield 43, 3, [9, 2, 142, 0]),
  (24, .iconst 1, 1, []),
  (25, .isub, 1, []),
  (26, .aaload, 1, []),
  (27, .getfield 129, 3, [8, 4, 86, 0]),
  (30, .istore_n 1, 1, []),
  (31, .aload_n 0, 1, []),
  (32, .dup, 1, []),
  (33, .getfield 43, 3, [9, 2, 142, 0]),
  (36, .iconst 1, 1, []),
  (37, .isub, 1, []),
  (38, .putfield 43, 3, [9, 2, 142, 0]),
  (41, .aload_n 0, 1, []),
  (42, .dup, 1, []),
  (43, .getfield 55, 3, [9, 6, 150, 0]),
  (46, .iload_n 1, 1, []),
  (47, .iadd, 1, []),
  (48, .putfield 55, 3, [9, 6, 150, 0]),
  (51, .iload_n 1, 1, []),
  (52, .ireturn, 1, [])]
def xcX7_changeLateral : List xE := [(0, .aload_n 0, 1, []),
  (1, .iload_n 1, 1, []),
  (2, .invokevirtual 125, 3, [0, 23, 2, 529, 9]),
  (5, .ifCond .ne 6, 3, []),
  (8, .bipush (-11), 2, []),
  (10, .ireturn, 1, []),
  (11, .iload_n 2, 1, []),
  (12, .iconst 0, 1, []),
  (13, .bipush 50, 2, []),
  (15, .invokestatic 120, 3, [6, 116, 3, 395]),
  (18, .ifCond .ne 6, 3, []),
  (21, .bipush (-12), 2, []),
  (23, .ireturn, 1, []),
  (24, .aload_n 0, 1, []),
  (25, .getfield 11, 3, [9, 0, 140, 1]),
  (28, .iload_n 1, 1, []),
  (29, .aaload, 1, []),
  (30, .astore_n 3, 1, []),
  (31, .aload_n 3, 1, []),
  (32, .getfield 132, 3, [8, 3, 83, 0]),
  (35, .istore 4, 2, []),
  (37, .iload 4, 2, []),
  (39, .iload_n 2, 1, []),
  (40, .if_icmp .ne 6, 3, []),
  (43, .bipush (-4), 2, []),
  (45, .ireturn, 1, []),
  (46, .aload_n 3, 1, []),
  (47, .iload_n 2, 1, []),
  (48, .putfield 132, 3, [8, 3, 83, 0]),
  (51, .iload 4, 2, []),
  (53, .ireturn, 1, [])]
def xcX7_pourInto : List xE := [(0, .aload_n 0, 1, []),
  (1, .iload_n 1, 1, []),
  (2, .invokevirtual 125, 3, [0, 23, 2, 529, 9]),
  (5, .ifCond .ne 6, 3, []),
  (8, .bipush (-11), 2, []),
  (10, .ireturn, 1, []),
  (11, .iload_n 2, 1, []),
  (12, .iconst 1, 1, []),
  (13, .sipush 999, 3, []),
  (16, .invokestatic 120, 3, [6, 116, 3, 395]),
  (19, .ifCond .ne 6, 3, []),
  (22, .bipush (-12), 2, []),
  (24, .ireturn, 1, []),
  (25, .aload_n 0, 1, []),
  (26, .getfield 11, 3, [9, 0, 140, 1]),
  (29, .iload_n 1, 1, []),
  (30, .aaload, 1, []),
  (31, .astore_n 3, 1, []),
  (32, .aload_n 3, 1, []),
  (33, .dup, 1, []),
  (34, .getfield 129, 3, [8, 4, 86, 0]),
  (37, .iload_n 2, 1, []),
  (38, .iadd, 1, []),
  (39, .putfield 129, 3, [8, 4, 86, 0]),
  (42, .aload_n 0, 1, []),
  (43, .dup, 1, []),
  (44, .getfield 52, 3, [9, 5, 148, 0]),
  (47, .iload_n 2, 1, []),
  (48, .iadd, 1, []),
  (49, .putfield 52, 3, [9, 5, 148, 0]),
  (52, .aload_n 3, 1, []),
  (53, .invokevirtual 135, 3, [0, 18, 1, 576, 8]),
  (56, .ireturn, 1, [])]
def xcX7_changeStages : List xE := [(0, .aload_n 0, 1, []),
  (1, .iload_n 1, 1, []),
  (2, .invokevirtual 125, 3, [0, 23, 2, 529, 9]),
  (5, .ifCond .ne 6, 3, []),
  (8, .bipush (-11), 2, []),
  (10, .ireturn, 1, []),
  (11, .iload_n 2, 1, []),
  (12, .iconst 1, 1, []),
  (13, .sipush 998, 3, []),
  (16, .invokestatic 120, 3, [6, 116, 3, 395]),
  (19, .ifCond .eq 19, 3, []),
  (22, .iload_n 3, 1, []),
  (23, .iconst 2, 1, []),
  (24, .sipush 999, 3, []),
  (27, .invokestatic 120, 3, [6, 116, 3, 395]),
  (30, .ifCond .eq 8, 3, []),
  (33, .iload_n 3, 1, []),
  (34, .iload_n 2, 1, []),
  (35, .if_icmp .gt 6, 3, []),
  (38, .bipush (-12), 2, []),
  (40, .ireturn, 1, []),
  (41, .aload_n 0, 1, []),
  (42, .getfield 11, 3, [9, 0, 140, 1]),
  (45, .iload_n 1, 1, []),
  (46, .aaload, 1, []),
  (47, .astore 4, 2, []),
  (49, .aload 4, 2, []),
  (51, .iload_n 2, 1, []),
  (52, .putfield 138, 3, [8, 5, 88, 0]),
  (55, .aload 4, 2, []),
  (57, .iload_n 3, 1, []),
  (58, .putfield 141, 3, [8, 6, 90, 0]),
  (61, .aload 4, 2, []),
  (63, .invokevirtual 144, 3, [0, 19, 1, 619, 8]),
  (66, .ireturn, 1, [])]
def xcX7_changeSetting : List xE := [(0, .aload_n 0, 1, []),
  (1, .iload_n 1, 1, []),
  (2, .invokevirtual 125, 3, [0, 23, 2, 529, 9]),
  (5, .ifCond .ne 6, 3, []),
  (8, .bipush (-11), 2, []),
  (10, .ireturn, 1, []),
  (11, .iload_n 2, 1, []),
  (12, .iconst 0, 1, []),
  (13, .bipush 100, 2, []),
  (15, .invokestatic 120, 3, [6, 116, 3, 395]),
  (18, .ifCond .ne 6, 3, []),
  (21, .bipush (-12), 2, []),
  (23, .ireturn, 1, []),
  (24, .aload_n 0, 1, []),
  (25, .getfield 11, 3, [9, 0, 140, 1]),
  (28, .iload_n 1, 1, []),
  (29, .aaload, 1, []),
  (30, .astore_n 3, 1, []),
  (31, .aload_n 3, 1, []),
  (32, .getfield 147, 3, [8, 7, 93, 0]),
  (35, .istore 4, 2, []),
  (37, .iload 4, 2, []),
  (39, .iload_n 2, 1, []),
  (40, .if_icmp .ne 6, 3, []),
  (43, .bipush (-4), 2, []),
  (45, .ireturn, 1, []),
  (46, .aload_n 3, 1, []),
  (47, .iload_n 2, 1, []),
  (48, .putfield 147, 3, [8, 7, 93, 0]),
  (51, .iload 4, 2, []),
  (53, .ireturn, 1, [])]
def xcX7_changeRule : List xE := [(0, .aload_n 0, 1, []),
  (1, .iload_n 1, 1, []),
  (2, .invokevirtual 125, 3, [0, 23, 2, 529, 9]),
  (5, .ifCond .ne 6, 3, []),
  (8, .bipush (-11), 2, []),
  (10, .ireturn, 1, []),
  (11, .iload_n 2, 1, []),
  (12, .invokestatic 150, 3, [6, 117, 1, 824]),
  (15, .ifCond .ne 6, 3, []),
  (18, .bipush (-12), 2, []),
  (20, .ireturn, 1, []),
  (21, .aload_n 0, 1, []),
  (22, .getfield 11, 3, [9, 0, 140, 1]),
  (25, .iload_n 1, 1, []),
  (26, .aaload, 1, []),
  (27, .astore_n 3, 1, []),
  (28, .aload_n 3, 1, []),
  (29, .getfield 153, 3, [8, 8, 95, 0]),
  (32, .iload_n 2, 1, []),
  (33, .if_icmp .ne 6, 3, []),
  (36, .bipush (-4), 2, []),
  (38, .ireturn, 1, []),
  (39, .aload_n 3, 1, []),
  (40, .iload_n 2, 1, []),
  (41, .putfield 153, 3, [8, 8, 95, 0]),
  (44, .aload_n 0, 1, []),
  (45, .iload_n 1, 1, []),
  (46, .invokevirtual 157, 3, [0, 40, 2, 628, 9]),
  (49, .ireturn, 1, [])]
def xcX7_appendPulse : List xE := [(0, .iload_n 1, 1, []),
  (1, .iconst 0, 1, []),
  (2, .sipush 999, 3, []),
  (5, .invokestatic 120, 3, [6, 116, 3, 395]),
  (8, .ifCond .eq 24, 3, []),
  (11, .iload_n 2, 1, []),
  (12, .iconst 1, 1, []),
  (13, .bipush 24, 2, []),
  (15, .invokestatic 120, 3, [6, 116, 3, 395]),
  (18, .ifCond .eq 14, 3, []),
  (21, .iload_n 3, 1, []),
  (22, .iconst 1, 1, []),
  (23, .sipush 200, 3, []),
  (26, .invokestatic 120, 3, [6, 116, 3, 395]),
  (29, .ifCond .ne 6, 3, []),
  (32, .bipush (-12), 2, []),
  (34, .ireturn, 1, []),
  (35, .iload_n 1, 1, []),
  (36, .aload_n 0, 1, []),
  (37, .getfield 49, 3, [9, 4, 146, 0]),
  (40, .if_icmp .ge 6, 3, []),
  (43, .bipush (-2), 2, []),
  (45, .ireturn, 1, []),
  (46, .aload_n 0, 1, []),
  (47, .getfield 46, 3, [9, 3, 144, 0]),
  (50, .iconst 0, 1, []),
  (51, .bipush 7, 2, []),
  (53, .invokestatic 120, 3, [6, 116, 3, 395]),
  (56, .ifCond .ne 5, 3, []),
  (59, .iconst (-1), 1, []),
  (60, .ireturn, 1, []),
  (61, .aload_n 0, 1, []),
  (62, .getfield 19, 3, [9, 1, 141, 1]),
  (65, .aload_n 0, 1, []),
  (66, .getfield 46, 3, [9, 3, 144, 0]),
  (69, .aaload, 1, []),
  (70, .iload_n 1, 1, []),
  (71, .iload_n 2, 1, []),
  (72, .iload_n 3, 1, []),
  (73, .invokevirtual 39, 3, [0, 12, 4, 363, 7]),
  (76, .aload_n 0, 1, []),
  (77, .dup, 1, []),
  (78, .getfield 46, 3, [9, 3, 144, 0]),
  (81, .iconst 1, 1, []),
  (82, .iadd, 1, []),
  (83, .putfield 46, 3, [9, 3, 144, 0]),
  (86, .aload_n 0, 1, []),
  (87, .getfield 46, 3, [9, 3, 144, 0]),
  (90, .ireturn, 1, [])]
def xcX7_letPass : List xE := [(0, .iload_n 1, 1, []),
  (1, .iconst 1, 1, []),
  (2, .bipush 48, 2, []),
  (4, .invokestatic 120, 3, [6, 116, 3, 395]),
  (7, .ifCond .ne 6, 3, []),
  (10, .bipush (-12), 2, []),
  (12, .ireturn, 1, []),
  (13, .aload_n 0, 1, []),
  (14, .getfield 43, 3, [9, 2, 142, 0]),
  (17, .ifCond .ne 6, 3, []),
  (20, .bipush (-3), 2, []),
  (22, .ireturn, 1, []),
  (23, .iconst 0, 1, []),
  (24, .istore_n 2, 1, []),
  (25, .iconst 0, 1, []),
  (26, .istore_n 3, 1, []),
  (27, .iload_n 3, 1, []),
  (28, .iload_n 1, 1, []),
  (29, .if_icmp .ge 16, 3, []),
  (32, .iload_n 2, 1, []),
  (33, .aload_n 0, 1, []),
  (34, .invokevirtual 160, 3, [0, 36, 1, 615, 9]),
  (37, .iadd, 1, []),
  (38, .istore_n 2, 1, []),
  (39, .iinc 3 1, 3, []),
  (42, .goto (-15), 3, []),
  (45, .iload_n 2, 1, []),
  (46, .ireturn, 1, [])]
def xcX7_passHour : List xE := [(0, .iconst 0, 1, []),
  (1, .istore_n 1, 1, []),
  (2, .iload_n 1, 1, []),
  (3, .aload_n 0, 1, []),
  (4, .getfield 43, 3, [9, 2, 142, 0]),
  (7, .if_icmp .ge 47, 3, []),
  (10, .iload_n 1, 1, []),
  (11, .bipush 8, 2, []),
  (13, .if_icmp .ge 41, 3, []),
  (16, .aload_n 0, 1, []),
  (17, .getfield 11, 3, [9, 0, 140, 1]),
  (20, .iload_n 1, 1, []),
  (21, .aaload, 1, []),
  (22, .aload_n 0, 1, []),
  (23, .getfield 11, 3, [9, 0, 140, 1]),
  (26, .iload_n 1, 1, []),
  (27, .aaload, 1, []),
  (28, .invokevirtual 144, 3, [0, 19, 1, 619, 8]),
  (31, .putfield 163, 3, [8, 9, 97, 0]),
  (34, .aload_n 0, 1, []),
  (35, .getfield 11, 3, [9, 0, 140, 1]),
  (38, .iload_n 1, 1, []),
  (39, .aaload, 1, []),
  (40, .aload_n 0, 1, []),
  (41, .iload_n 1, 1, []),
  (42, .invokevirtual 166, 3, [0, 39, 2, 623, 9]),
  (45, .putfield 169, 3, [8, 10, 98, 0]),
  (48, .iinc 1 1, 3, []),
  (51, .goto (-49), 3, []),
  (54, .aload_n 0, 1, []),
  (55, .aload_n 0, 1, []),
  (56, .getfield 49, 3, [9, 4, 146, 0]),
  (59, .invokevirtual 172, 3, [0, 41, 2, 633, 9]),
  (62, .istore_n 1, 1, []),
  (63, .aload_n 0, 1, []),
  (64, .dup, 1, []),
  (65, .getfield 52, 3, [9, 5, 148, 0]),
  (68, .iload_n 1, 1, []),
  (69, .iadd, 1, []),
  (70, .putfield 52, 3, [9, 5, 148, 0]),
  (73, .iconst 0, 1, []),
  (74, .istore_n 2, 1, []),
  (75, .iload_n 2, 1, []),
  (76, .aload_n 0, 1, []),
  (77, .getfield 43, 3, [9, 2, 142, 0]),
  (80, .if_icmp .ge 81, 3, []),
  (83, .iload_n 2, 1, []),
  (84, .bipush 8, 2, []),
  (86, .if_icmp .ge 75, 3, []),
  (89, .aload_n 0, 1, []),
  (90, .getfield 11, 3, [9, 0, 140, 1]),
  (93, .iload_n 2, 1, []),
  (94, .aaload, 1, []),
  (95, .astore_n 3, 1, []),
  (96, .aload_n 3, 1, []),
  (97, .dup, 1, []),
  (98, .getfield 129, 3, [8, 4, 86, 0]),
  (101, .iload_n 1, 1, []),
  (102, .aload_n 3, 1, []),
  (103, .getfield 132, 3, [8, 3, 83, 0]),
  (106, .iadd, 1, []),
  (107, .aload_n 3, 1, []),
  (108, .getfield 169, 3, [8, 10, 98, 0]),
  (111, .isub, 1, []),
  (112, .iadd, 1, []),
  (113, .putfield 129, 3, [8, 4, 86, 0]),
  (116, .aload_n 0, 1, []),
  (117, .dup, 1, []),
  (118, .getfield 52, 3, [9, 5, 148, 0]),
  (121, .aload_n 3, 1, []),
  (122, .getfield 132, 3, [8, 3, 83, 0]),
  (125, .iadd, 1, []),
  (126, .putfield 52, 3, [9, 5, 148, 0]),
  (129, .aload_n 3, 1, []),
  (130, .invokevirtual 144, 3, [0, 19, 1, 619, 8]),
  (133, .aload_n 3, 1, []),
  (134, .getfield 163, 3, [8, 9, 97, 0]),
  (137, .if_icmp .le 13, 3, []),
  (140, .aload_n 0, 1, []),
  (141, .dup, 1, []),
  (142, .getfield 58, 3, [9, 7, 152, 0]),
  (145, .iconst 1, 1, []),
  (146, .iadd, 1, []),
  (147, .putfield 58, 3, [9, 7, 152, 0]),
  (150, .aload_n 3, 1, []),
  (151, .getfield 169, 3, [8, 10, 98, 0]),
  (154, .istore_n 1, 1, []),
  (155, .iinc 2 1, 3, []),
  (158, .goto (-83), 3, []),
  (161, .aload_n 0, 1, []),
  (162, .dup, 1, []),
  (163, .getfield 55, 3, [9, 6, 150, 0]),
  (166, .iload_n 1, 1, []),
  (167, .iadd, 1, []),
  (168, .putfield 55, 3, [9, 6, 150, 0]),
  (171, .aload_n 0, 1, []),
  (172, .dup, 1, []),
  (173, .getfield 49, 3, [9, 4, 146, 0]),
  (176, .iconst 1, 1, []),
  (177, .iadd, 1, []),
  (178, .putfield 49, 3, [9, 4, 146, 0]),
  (181, .aload_n 0, 1, []),
  (182, .invokevirtual 175, 3, [0, 37, 1, 645, 9]),
  (185, .iload_n 1, 1, []),
  (186, .ireturn, 1, [])]
def xcX7_dropPassedPulses : List xE := [(0, .iconst 0, 1, []),
  (1, .istore_n 1, 1, []),
  (2, .iconst 0, 1, []),
  (3, .istore_n 2, 1, []),
  (4, .iload_n 2, 1, []),
  (5, .aload_n 0, 1, []),
  (6, .getfield 46, 3, [9, 3, 144, 0]),
  (9, .if_icmp .ge 57, 3, []),
  (12, .iload_n 2, 1, []),
  (13, .bipush 8, 2, []),
  (15, .if_icmp .ge 51, 3, []),
  (18, .aload_n 0, 1, []),
  (19, .getfield 19, 3, [9, 1, 141, 1]),
  (22, .iload_n 2, 1, []),
  (23, .aaload, 1, []),
  (24, .astore_n 3, 1, []),
  (25, .aload_n 3, 1, []),
  (26, .invokevirtual 178, 3, [0, 13, 1, 649, 7]),
  (29, .aload_n 0, 1, []),
  (30, .getfield 49, 3, [9, 4, 146, 0]),
  (33, .if_icmp .le 27, 3, []),
  (36, .aload_n 0, 1, []),
  (37, .getfield 19, 3, [9, 1, 141, 1]),
  (40, .iload_n 1, 1, []),
  (41, .aaload, 1, []),
  (42, .aload_n 3, 1, []),
  (43, .getfield 29, 3, [7, 0, 128, 0]),
  (46, .aload_n 3, 1, []),
  (47, .getfield 33, 3, [7, 1, 130, 0]),
  (50, .aload_n 3, 1, []),
  (51, .getfield 36, 3, [7, 2, 132, 0]),
  (54, .invokevirtual 39, 3, [0, 12, 4, 363, 7]),
  (57, .iinc 1 1, 3, []),
  (60, .iinc 2 1, 3, []),
  (63, .goto (-59), 3, []),
  (66, .aload_n 0, 1, []),
  (67, .iload_n 1, 1, []),
  (68, .putfield 46, 3, [9, 3, 144, 0]),
  (71, .return_, 1, [])]
def xcX7_inflowOf : List xE := [(0, .aload_n 0, 1, []),
  (1, .iload_n 1, 1, []),
  (2, .invokevirtual 181, 3, [0, 24, 2, 627, 9]),
  (5, .getfield 132, 3, [8, 3, 83, 0]),
  (8, .istore_n 2, 1, []),
  (9, .iload_n 2, 1, []),
  (10, .iload_n 1, 1, []),
  (11, .ifCond .ne 14, 3, []),
  (14, .aload_n 0, 1, []),
  (15, .aload_n 0, 1, []),
  (16, .getfield 49, 3, [9, 4, 146, 0]),
  (19, .invokevirtual 172, 3, [0, 41, 2, 633, 9]),
  (22, .goto 10, 3, []),
  (25, .aload_n 0, 1, []),
  (26, .iload_n 1, 1, []),
  (27, .iconst 1, 1, []),
  (28, .isub, 1, []),
  (29, .invokevirtual 166, 3, [0, 39, 2, 623, 9]),
  (32, .iadd, 1, []),
  (33, .ireturn, 1, [])]
def xcX7_outflowOf : List xE := [(0, .aload_n 0, 1, []),
  (1, .iload_n 1, 1, []),
  (2, .invokevirtual 181, 3, [0, 24, 2, 627, 9]),
  (5, .astore_n 2, 1, []),
  (6, .aload_n 2, 1, []),
  (7, .getfield 129, 3, [8, 4, 86, 0]),
  (10, .aload_n 2, 1, []),
  (11, .getfield 185, 3, [8, 1, 78, 0]),
  (14, .imul, 1, []),
  (15, .bipush 100, 2, []),
  (17, .idiv, 1, []),
  (18, .istore_n 3, 1, []),
  (19, .aload_n 2, 1, []),
  (20, .getfield 188, 3, [8, 2, 80, 0]),
  (23, .aload_n 0, 1, []),
  (24, .iload_n 1, 1, []),
  (25, .invokevirtual 157, 3, [0, 40, 2, 628, 9]),
  (28, .imul, 1, []),
  (29, .bipush 100, 2, []),
  (31, .idiv, 1, []),
  (32, .istore 4, 2, []),
  (34, .iload_n 3, 1, []),
  (35, .iload 4, 2, []),
  (37, .invokestatic 191, 3, [1, 143, 2, 632]),
  (40, .ireturn, 1, [])]
def xcX7_openingOf : List xE := [(0, .aload_n 0, 1, []),
  (1, .iload_n 1, 1, []),
  (2, .invokevirtual 181, 3, [0, 24, 2, 627, 9]),
  (5, .astore_n 2, 1, []),
  (6, .aload_n 2, 1, []),
  (7, .getfield 153, 3, [8, 8, 95, 0]),
  (10, .bipush 114, 2, []),
  (12, .if_icmp .ne 14, 3, []),
  (15, .aload_n 2, 1, []),
  (16, .invokevirtual 144, 3, [0, 19, 1, 619, 8]),
  (19, .iconst 2, 1, []),
  (20, .if_icmp .ne 6, 3, []),
  (23, .bipush 100, 2, []),
  (25, .ireturn, 1, []),
  (26, .aload_n 2, 1, []),
  (27, .getfield 153, 3, [8, 8, 95, 0]),
  (30, .bipush 104, 2, []),
  (32, .if_icmp .ne 35, 3, []),
  (35, .aload_n 0, 1, []),
  (36, .iload_n 1, 1, []),
  (37, .iconst 1, 1, []),
  (38, .iadd, 1, []),
  (39, .invokevirtual 125, 3, [0, 23, 2, 529, 9]),
  (42, .ifCond .eq 25, 3, []),
  (45, .aload_n 0, 1, []),
  (46, .getfield 11, 3, [9, 0, 140, 1]),
  (49, .iload_n 1, 1, []),
  (50, .iconst 1, 1, []),
  (51, .iadd, 1, []),
  (52, .aaload, 1, []),
  (53, .invokevirtual 144, 3, [0, 19, 1, 619, 8]),
  (56, .iconst 2, 1, []),
  (57, .if_icmp .ne 10, 3, []),
  (60, .aload_n 2, 1, []),
  (61, .getfield 147, 3, [8, 7, 93, 0]),
  (64, .iconst 2, 1, []),
  (65, .idiv, 1, []),
  (66, .ireturn, 1, []),
  (67, .aload_n 2, 1, []),
  (68, .getfield 147, 3, [8, 7, 93, 0]),
  (71, .ireturn, 1, [])]
def xcX7_headInflowIn : List xE := [(0, .iconst 0, 1, []),
  (1, .istore_n 2, 1, []),
  (2, .iconst 0, 1, []),
  (3, .istore_n 3, 1, []),
  (4, .iload_n 3, 1, []),
  (5, .aload_n 0, 1, []),
  (6, .getfield 46, 3, [9, 3, 144, 0]),
  (9, .if_icmp .ge 28, 3, []),
  (12, .iload_n 3, 1, []),
  (13, .bipush 8, 2, []),
  (15, .if_icmp .ge 22, 3, []),
  (18, .iload_n 2, 1, []),
  (19, .aload_n 0, 1, []),
  (20, .getfield 19, 3, [9, 1, 141, 1]),
  (23, .iload_n 3, 1, []),
  (24, .aaload, 1, []),
  (25, .iload_n 1, 1, []),
  (26, .invokevirtual 196, 3, [0, 14, 2, 637, 7]),
  (29, .iadd, 1, []),
  (30, .istore_n 2, 1, []),
  (31, .iinc 3 1, 3, []),
  (34, .goto (-30), 3, []),
  (37, .iload_n 2, 1, []),
  (38, .ireturn, 1, [])]
def xcX7_comingByHours : List xE := [(0, .aload_n 0, 1, []),
  (1, .getfield 49, 3, [9, 4, 146, 0]),
  (4, .istore_n 1, 1, []),
  (5, .iconst 0, 1, []),
  (6, .istore_n 2, 1, []),
  (7, .iload_n 2, 1, []),
  (8, .aload_n 0, 1, []),
  (9, .getfield 46, 3, [9, 3, 144, 0]),
  (12, .if_icmp .ge 29, 3, []),
  (15, .iload_n 2, 1, []),
  (16, .bipush 8, 2, []),
  (18, .if_icmp .ge 23, 3, []),
  (21, .iload_n 1, 1, []),
  (22, .aload_n 0, 1, []),
  (23, .getfield 19, 3, [9, 1, 141, 1]),
  (26, .iload_n 2, 1, []),
  (27, .aaload, 1, []),
  (28, .invokevirtual 178, 3, [0, 13, 1, 649, 7]),
  (31, .invokestatic 199, 3, [1, 142, 2, 1023]),
  (34, .istore_n 1, 1, []),
  (35, .iinc 2 1, 3, []),
  (38, .goto (-31), 3, []),
  (41, .iconst 0, 1, []),
  (42, .istore_n 2, 1, []),
  (43, .aload_n 0, 1, []),
  (44, .getfield 49, 3, [9, 4, 146, 0]),
  (47, .istore_n 3, 1, []),
  (48, .iload_n 3, 1, []),
  (49, .iload_n 1, 1, []),
  (50, .if_icmp .ge 17, 3, []),
  (53, .iload_n 2, 1, []),
  (54, .aload_n 0, 1, []),
  (55, .iload_n 3, 1, []),
  (56, .invokevirtual 172, 3, [0, 41, 2, 633, 9]),
  (59, .iadd, 1, []),
  (60, .istore_n 2, 1, []),
  (61, .iinc 3 1, 3, []),
  (64, .goto (-16), 3, []),
  (67, .iload_n 2, 1, []),
  (68, .ireturn, 1, [])]
def xcX7_countAhead : List xE := [(0, .aload_n 0, 1, []),
  (1, .iload_n 1, 1, []),
  (2, .invokevirtual 181, 3, [0, 24, 2, 627, 9]),
  (5, .astore_n 2, 1, []),
  (6, .iconst 0, 1, []),
  (7, .istore_n 3, 1, []),
  (8, .iconst 0, 1, []),
  (9, .istore 4, 2, []),
  (11, .iload 4, 2, []),
  (13, .aload_n 0, 1, []),
  (14, .getfield 43, 3, [9, 2, 142, 0]),
  (17, .if_icmp .ge 65, 3, []),
  (20, .iload 4, 2, []),
  (22, .bipush 8, 2, []),
  (24, .if_icmp .ge 58, 3, []),
  (27, .aload_n 2, 1, []),
  (28, .aload_n 0, 1, []),
  (29, .getfield 11, 3, [9, 0, 140, 1]),
  (32, .iload 4, 2, []),
  (34, .aaload, 1, []),
  (35, .invokevirtual 205, 3, [0, 20, 2, 1078, 8]),
  (38, .ifCond .ne 7, 3, []),
  (41, .iconst 1, 1, []),
  (42, .goto 4, 3, []),
  (45, .iconst 0, 1, []),
  (46, .istore 5, 2, []),
  (48, .aload_n 0, 1, []),
  (49, .getfield 11, 3, [9, 0, 140, 1]),
  (52, .iload 4, 2, []),
  (54, .aaload, 1, []),
  (55, .aload_n 2, 1, []),
  (56, .invokevirtual 205, 3, [0, 20, 2, 1078, 8]),
  (59, .ifCond .ne 14, 3, []),
  (62, .iload 4, 2, []),
  (64, .iload_n 1, 1, []),
  (65, .if_icmp .ge 11, 3, []),
  (68, .iload 5, 2, []),
  (70, .ifCond .eq 6, 3, []),
  (73, .iinc 3 1, 3, []),
  (76, .iinc 4 1, 3, []),
  (79, .goto (-68), 3, []),
  (82, .iload_n 3, 1, []),
  (83, .ireturn, 1, [])]
def xcX7_volumeOfAll : List xE := [(0, .iconst 0, 1, []),
  (1, .istore_n 1, 1, []),
  (2, .iconst 0, 1, []),
  (3, .istore_n 2, 1, []),
  (4, .iload_n 2, 1, []),
  (5, .aload_n 0, 1, []),
  (6, .getfield 43, 3, [9, 2, 142, 0]),
  (9, .if_icmp .ge 27, 3, []),
  (12, .iload_n 2, 1, []),
  (13, .bipush 8, 2, []),
  (15, .if_icmp .ge 21, 3, []),
  (18, .iload_n 1, 1, []),
  (19, .aload_n 0, 1, []),
  (20, .getfield 11, 3, [9, 0, 140, 1]),
  (23, .iload_n 2, 1, []),
  (24, .aaload, 1, []),
  (25, .getfield 129, 3, [8, 4, 86, 0]),
  (28, .iadd, 1, []),
  (29, .istore_n 1, 1, []),
  (30, .iinc 2 1, 3, []),
  (33, .goto (-29), 3, []),
  (36, .iload_n 1, 1, []),
  (37, .ireturn, 1, [])]
def xcX7_sumOfLevels : List xE := [(0, .iconst 0, 1, []),
  (1, .istore_n 1, 1, []),
  (2, .iconst 0, 1, []),
  (3, .istore_n 2, 1, []),
  (4, .iload_n 2, 1, []),
  (5, .aload_n 0, 1, []),
  (6, .getfield 43, 3, [9, 2, 142, 0]),
  (9, .if_icmp .ge 27, 3, []),
  (12, .iload_n 2, 1, []),
  (13, .bipush 8, 2, []),
  (15, .if_icmp .ge 21, 3, []),
  (18, .iload_n 1, 1, []),
  (19, .aload_n 0, 1, []),
  (20, .getfield 11, 3, [9, 0, 140, 1]),
  (23, .iload_n 2, 1, []),
  (24, .aaload, 1, []),
  (25, .invokevirtual 135, 3, [0, 18, 1, 576, 8]),
  (28, .iadd, 1, []),
  (29, .istore_n 1, 1, []),
  (30, .iinc 2 1, 3, []),
  (33, .goto (-29), 3, []),
  (36, .iload_n 1, 1, []),
  (37, .ireturn, 1, [])]
def xcX7_countFlooded : List xE := [(0, .iconst 0, 1, []),
  (1, .istore_n 1, 1, []),
  (2, .iconst 0, 1, []),
  (3, .istore_n 2, 1, []),
  (4, .iload_n 2, 1, []),
  (5, .aload_n 0, 1, []),
  (6, .getfield 43, 3, [9, 2, 142, 0]),
  (9, .if_icmp .ge 31, 3, []),
  (12, .iload_n 2, 1, []),
  (13, .bipush 8, 2, []),
  (15, .if_icmp .ge 25, 3, []),
  (18, .aload_n 0, 1, []),
  (19, .getfield 11, 3, [9, 0, 140, 1]),
  (22, .iload_n 2, 1, []),
  (23, .aaload, 1, []),
  (24, .invokevirtual 144, 3, [0, 19, 1, 619, 8]),
  (27, .iconst 2, 1, []),
  (28, .if_icmp .ne 6, 3, []),
  (31, .iinc 1 1, 3, []),
  (34, .iinc 2 1, 3, []),
  (37, .goto (-33), 3, []),
  (40, .iload_n 1, 1, []),
  (41, .ireturn, 1, [])]
def xcX8_init : List xE := [(0, .aload_n 0, 1, []),
  (1, .invokespecial 3, 3, [7, 196]),
  (4, .aload_n 0, 1, []),
  (5, .bipush 60, 2, []),
  (7, .newarray .char, 2, []),
  (9, .putfield 9, 3, [10, 0, 226, 1]),
  (12, .aload_n 0, 1, []),
  (13, .bipush 16, 2, []),
  (15, .anewarray 15, 3, [3, 197]),
  (18, .putfield 17, 3, [10, 1, 227, 1]),
  (21, .iconst 0, 1, []),
  (22, .istore_n 1, 1, []),
  (23, .iload_n 1, 1, []),
  (24, .bipush 16, 2, []),
  (26, .if_icmp .ge 22, 3, []),
  (29, .aload_n 0, 1, []),
  (30, .getfield 17, 3, [10, 1, 227, 1]),
  (33, .iload_n 1, 1, []),
  (34, .new 15, 3, [0, 4, 197, 199, 22]),
  (37, .dup, 1, []),
  (38, .invokespecial 21, 3, [5, 0, 1, 200]),
  (41, .aastore, 1, []),
  (42, .iinc 1 1, 3, []),
  (45, .goto (-22), 3, []),
  (48, .return_, 1, [])]
def xcX8_isFull : List xE := [(0, .aload_n 0, 1, []),
  (1, .getfield 22, 3, [10, 2, 228, 0]),
  (4, .iconst 0, 1, []),
  (5, .bipush 59, 2, []),
  (7, .invokestatic 26, 3, [6, 116, 3, 662]),
  (10, .ifCond .ne 7, 3, []),
  (13, .iconst 1, 1, []),
  (14, .goto 4, 3, []),
  (17, .iconst 0, 1, []),
  (18, .ireturn, 1, [])]
def xcX8_append : List xE := [(0, .aload_n 0, 1, []),
  (1, .invokevirtual 30, 3, [0, 48, 1, 682, 10]),
  (4, .ifCond .ne 23, 3, []),
  (7, .aload_n 0, 1, []),
  (8, .getfield 9, 3, [10, 0, 226, 1]),
  (11, .aload_n 0, 1, []),
  (12, .getfield 22, 3, [10, 2, 228, 0]),
  (15, .iload_n 1, 1, []),
  (16, .castore, 1, []),
  (17, .aload_n 0, 1, []),
  (18, .dup, 1, []),
  (19, .getfield 22, 3, [10, 2, 228, 0]),
  (22, .iconst 1, 1, []),
  (23, .iadd, 1, []),
  (24, .putfield 22, 3, [10, 2, 228, 0]),
  (27, .aload_n 0, 1, []),
  (28, .getfield 22, 3, [10, 2, 228, 0]),
  (31, .ireturn, 1, [])]
def xcX8_empty : List xE := [(0, .aload_n 0, 1, []),
  (1, .iconst 0, 1, []),
  (2, .putfield 22, 3, [10, 2, 228, 0]),
  (5, .return_, 1, [])]
def xcX8_commandAt : List xE := [(0, .aload_n 0, 1, []),
  (1, .getfield 17, 3, [10, 1, 227, 1]),
  (4, .iload_n 1, 1, []),
  (5, .ifCond .lt 13, 3, []),
  (8, .iload_n 1, 1, []),
  (9, .bipush 16, 2, []),
  (11, .if_icmp .ge 7, 3, []),
  (14, .iload_n 1, 1, []),
  (15, .goto 4, 3, []),
  (18, .iconst 0, 1, []),
  (19, .aaload, 1, []),
  (20, .areturn, 1, [])]
def xcX8_parse : List xE := [(0, .aload_n 0, 1, []),
  (1, .iconst 0, 1, []),
  (2, .putfield 34, 3, [10, 3, 229, 0]),
  (5, .iconst 0, 1, []),
  (6, .istore_n 1, 1, []),
  (7, .iload_n 1, 1, []),
  (8, .bipush 16, 2, []),
  (10, .if_icmp .ge 61, 3, []),
  (13, .aload_n 0, 1, []),
  (14, .aload_n 0, 1, []),
  (15, .getfield 17, 3, [10, 1, 227, 1]),
  (18, .iload_n 1, 1, []),
  (19, .aaload, 1, []),
  (20, .invokevirtual 37, 3, [0, 53, 2, 694, 10]),
  (23, .ifCond .ne 8, 3, []),
  (26, .aload_n 0, 1, []),
  (27, .getfield 34, 3, [10, 3, 229, 0]),
  (30, .ireturn, 1, []),
  (31, .aload_n 0, 1, []),
  (32, .iload_n 1, 1, []),
  (33, .iconst 1, 1, []),
  (34, .iadd, 1, []),
  (35, .putfield 41, 3, [10, 4, 230, 0]),
  (38, .aload_n 0, 1, []),
  (39, .getfield 34, 3, [10, 3, 229, 0]),
  (42, .aload_n 0, 1, []),
  (43, .getfield 22, 3, [10, 2, 228, 0]),
  (46, .if_icmp .ne 5, 3, []),
  (49, .iconst (-1), 1, []),
  (50, .ireturn, 1, []),
  (51, .aload_n 0, 1, []),
  (52, .bipush 59, 2, []),
  (54, .invokevirtual 44, 3, [0, 59, 2, 762, 10]),
  (57, .ifCond .ne 8, 3, []),
  (60, .aload_n 0, 1, []),
  (61, .getfield 34, 3, [10, 3, 229, 0]),
  (64, .ireturn, 1, []),
  (65, .iinc 1 1, 3, []),
  (68, .goto (-61), 3, []),
  (71, .aload_n 0, 1, []),
  (72, .getfield 34, 3, [10, 3, 229, 0]),
  (75, .ireturn, 1, [])]
def xcX8_takeCommand : List xE := [(0, .aload_n 0, 1, []),
  (1, .invokevirtual 48, 3, [0, 54, 1, 698, 10]),
  (4, .astore_n 2, 1, []),
  (5, .aload_n 2, 1, []),
  (6, .ifnonnull 5, 3, []),
  (9, .iconst 0, 1, []),
  (10, .ireturn, 1, []),
  (11, .aload_n 1, 1, []),
  (12, .aload_n 2, 1, []),
  (13, .putfield 52, 3, [4, 0, 208, 0]),
  (16, .iconst 0, 1, []),
  (17, .istore_n 3, 1, []),
  (18, .iload_n 3, 1, []),
  (19, .aload_n 2, 1, []),
  (20, .getfield 56, 3, [45, 1, 1518, 0]),
  (23, .invokevirtual 62, 3, [0, 145, 1, 708, 0]),
  (26, .if_icmp .ge 53, 3, []),
  (29, .iload_n 3, 1, []),
  (30, .ifCond .le 14, 3, []),
  (33, .aload_n 0, 1, []),
  (34, .bipush 32, 2, []),
  (36, .invokevirtual 44, 3, [0, 59, 2, 762, 10]),
  (39, .ifCond .ne 5, 3, []),
  (42, .iconst 0, 1, []),
  (43, .ireturn, 1, []),
  (44, .aload_n 0, 1, []),
  (45, .aload_n 2, 1, []),
  (46, .getfield 56, 3, [45, 1, 1518, 0]),
  (49, .iload_n 3, 1, []),
  (50, .invokevirtual 67, 3, [0, 146, 2, 721, 0]),
  (53, .invokevirtual 71, 3, [0, 56, 2, 766, 10]),
  (56, .istore 4, 2, []),
  (58, .iload 4, 2, []),
  (60, .iconst (-1), 1, []),
  (61, .if_icmp .ne 5, 3, []),
  (64, .iconst 0, 1, []),
  (65, .ireturn, 1, []),
  (66, .aload_n 1, 1, []),
  (67, .iload_n 3, 1, []),
  (68, .iload 4, 2, []),
  (70, .invokevirtual 75, 3, [0, 1, 3, 781, 4]),
  (73, .iinc 3 1, 3, []),
  (76, .goto (-58), 3, []),
  (79, .iconst 1, 1, []),
  (80, .ireturn, 1, [])]
def xcX8_takeWord : List xE := [(0, .iconst 0, 1, []),
  (1, .istore_n 1, 1, []),
  (2, .getstatic 79, 3, [2, 702, 1]),
  (5, .astore_n 2, 1, []),
  (6, .aload_n 2, 1, []),
  (7, .arraylength, 1, []),
  (8, .istore_n 3, 1, []),
  (9, .iconst 0, 1, []),
  (10, .istore 4, 2, []),
  (12, .iload 4, 2, []),
  (14, .iload_n 3, 1, []),
  (15, .if_icmp .ge 60, 3, []),
  (18, .aload_n 2, 1, []),
  (19, .iload 4, 2, []),
  (21, .aaload, 1, []),
  (22, .astore 5, 2, []),
  (24, .aload_n 0, 1, []),
  (25, .aload 5, 2, []),
  (27, .getfield 83, 3, [45, 0, 1517, 0]),
  (30, .invokevirtual 86, 3, [0, 55, 2, 704, 10]),
  (33, .istore 6, 2, []),
  (35, .iload 6, 2, []),
  (37, .aload 5, 2, []),
  (39, .getfield 83, 3, [45, 0, 1517, 0]),
  (42, .invokevirtual 62, 3, [0, 145, 1, 708, 0]),
  (45, .if_icmp .ne 17, 3, []),
  (48, .aload_n 0, 1, []),
  (49, .dup, 1, []),
  (50, .getfield 34, 3, [10, 3, 229, 0]),
  (53, .iload 6, 2, []),
  (55, .iadd, 1, []),
  (56, .putfield 34, 3, [10, 3, 229, 0]),
  (59, .aload 5, 2, []),
  (61, .areturn, 1, []),
  (62, .iload_n 1, 1, []),
  (63, .iload 6, 2, []),
  (65, .invokestatic 90, 3, [1, 142, 2, 759]),
  (68, .istore_n 1, 1, []),
  (69, .iinc 4 1, 3, []),
  (72, .goto (-60), 3, []),
  (75, .aload_n 0, 1, []),
  (76, .dup, 1, []),
  (77, .getfield 34, 3, [10, 3, 229, 0]),
  (80, .iload_n 1, 1, []),
  (81, .iadd, 1, []),
  (82, .putfield 34, 3, [10, 3, 229, 0]),
  (85, .aconst_null, 1, []),
  (86, .areturn, 1, [])]
def xcX8_sharedLength : List xE := [(0, .iconst 0, 1, []),
  (1, .istore_n 2, 1, []),
  (2, .iload_n 2, 1, []),
  (3, .aload_n 1, 1, []),
  (4, .invokevirtual 62, 3, [0, 145, 1, 708, 0]),
  (7, .if_icmp .ge 29, 3, []),
  (10, .aload_n 0, 1, []),
  (11, .aload_n 0, 1, []),
  (12, .getfield 34, 3, [10, 3, 229, 0]),
  (15, .iload_n 2, 1, []),
  (16, .iadd, 1, []),
  (17, .invokevirtual 96, 3, [0, 60, 2, 717, 10]),
  (20, .aload_n 1, 1, []),
  (21, .iload_n 2, 1, []),
  (22, .invokevirtual 67, 3, [0, 146, 2, 721, 0]),
  (25, .if_icmp .eq 5, 3, []),
  (28, .iload_n 2, 1, []),
  (29, .ireturn, 1, []),
  (30, .iinc 2 1, 3, []),
  (33, .goto (-31), 3, []),
  (36, .aload_n 1, 1, []),
  (37, .invokevirtual 62, 3, [0, 145, 1, 708, 0]),
  (40, .ireturn, 1, [])]
def xcX8_takeParameter : List xE := [(0, .iload_n 1, 1, []),
  (1, .bipush 108, 2, []),
  (3, .if_icmp .ne 8, 3, []),
  (6, .aload_n 0, 1, []),
  (7, .invokevirtual 100, 3, [0, 57, 1, 770, 10]),
  (10, .ireturn, 1, []),
  (11, .aload_n 0, 1, []),
  (12, .iload_n 1, 1, []),
  (13, .bipush 100, 2, []),
  (15, .if_icmp .ne 7, 3, []),
  (18, .iconst 1, 1, []),
  (19, .goto 4, 3, []),
  (22, .iconst 3, 1, []),
  (23, .invokevirtual 103, 3, [0, 58, 2, 777, 10]),
  (26, .ireturn, 1, [])]
def xcX8_takeLetter : List xE := [(0, .aload_n 0, 1, []),
  (1, .aload_n 0, 1, []),
  (2, .getfield 34, 3, [10, 3, 229, 0]),
  (5, .invokevirtual 96, 3, [0, 60, 2, 717, 10]),
  (8, .istore_n 1, 1, []),
  (9, .iload_n 1, 1, []),
  (10, .invokestatic 106, 3, [6, 117, 1, 774]),
  (13, .ifCond .ne 5, 3, []),
  (16, .iconst (-1), 1, []),
  (17, .ireturn, 1, []),
  (18, .aload_n 0, 1, []),
  (19, .dup, 1, []),
  (20, .getfield 34, 3, [10, 3, 229, 0]),
  (23, .iconst 1, 1, []),
  (24, .iadd, 1, []),
  (25, .putfield 34, 3, [10, 3, 229, 0]),
  (28, .iload_n 1, 1, []),
  (29, .ireturn, 1, [])]
def xcX8_takeDigits : List xE := [(0, .iconst (-1), 1, []),
  (1, .istore_n 2, 1, []),
  (2, .iconst 0, 1, []),
  (3, .istore_n 3, 1, []),
  (4, .iload_n 3, 1, []),
  (5, .iload_n 1, 1, []),
  (6, .if_icmp .ge 58, 3, []),
  (9, .aload_n 0, 1, []),
  (10, .aload_n 0, 1, []),
  (11, .getfield 34, 3, [10, 3, 229, 0]),
  (14, .invokevirtual 96, 3, [0, 60, 2, 717, 10]),
  (17, .istore 4, 2, []),
  (19, .iload 4, 2, []),
  (21, .bipush 48, 2, []),
  (23, .bipush 57, 2, []),
  (25, .invokestatic 26, 3, [6, 116, 3, 662]),
  (28, .ifCond .ne 5, 3, []),
  (31, .iload_n 2, 1, []),
  (32, .ireturn, 1, []),
  (33, .iload_n 2, 1, []),
  (34, .iconst 0, 1, []),
  (35, .invokestatic 90, 3, [1, 142, 2, 759]),
  (38, .bipush 10, 2, []),
  (40, .imul, 1, []),
  (41, .iload 4, 2, []),
  (43, .iadd, 1, []),
  (44, .bipush 48, 2, []),
  (46, .isub, 1, []),
  (47, .istore_n 2, 1, []),
  (48, .aload_n 0, 1, []),
  (49, .dup, 1, []),
  (50, .getfield 34, 3, [10, 3, 229, 0]),
  (53, .iconst 1, 1, []),
  (54, .iadd, 1, []),
  (55, .putfield 34, 3, [10, 3, 229, 0]),
  (58, .iinc 3 1, 3, []),
  (61, .goto (-57), 3, []),
  (64, .iload_n 2, 1, []),
  (65, .ireturn, 1, [])]
def xcX8_takeSign : List xE := [(0, .aload_n 0, 1, []),
  (1, .aload_n 0, 1, []),
  (2, .getfield 34, 3, [10, 3, 229, 0]),
  (5, .invokevirtual 96, 3, [0, 60, 2, 717, 10]),
  (8, .iload_n 1, 1, []),
  (9, .if_icmp .eq 5, 3, []),
  (12, .iconst 0, 1, []),
  (13, .ireturn, 1, []),
  (14, .aload_n 0, 1, []),
  (15, .dup, 1, []),
  (16, .getfield 34, 3, [10, 3, 229, 0]),
  (19, .iconst 1, 1, []),
  (20, .iadd, 1, []),
  (21, .putfield 34, 3, [10, 3, 229, 0]),
  (24, .iconst 1, 1, []),
  (25, .ireturn, 1, [])]
def xcX8_signAt : List xE := [(0, .iload_n 1, 1, []),
  (1, .ifCond .lt 26, 3, []),
  (4, .iload_n 1, 1, []),
  (5, .aload_n 0, 1, []),
  (6, .getfield 22, 3, [10, 2, 228, 0]),
  (9, .if_icmp .ge 18, 3, []),
  (12, .iload_n 1, 1, []),
  (13, .bipush 60, 2, []),
  (15, .if_icmp .ge 12, 3, []),
  (18, .aload_n 0, 1, []),
  (19, .getfield 9, 3, [10, 0, 226, 1]),
  (22, .iload_n 1, 1, []),
  (23, .caload, 1, []),
  (24, .goto 4, 3, []),
  (27, .iconst (-1), 1, []),
  (28, .ireturn, 1, [])]
def xcX9_init : List xE := [(0, .aload_n 0, 1, []),
  (1, .invokespecial 1, 3, [7, 57]),
  (4, .aload_n 0, 1, []),
  (5, .new 7, 3, [0, 9, 60, 61, 17]),
  (8, .dup, 1, []),
  (9, .invokespecial 9, 3, [2, 21, 1, 62]),
  (12, .putfield 10, 3, [11, 0, 299, 1]),
  (15, .aload_n 0, 1, []),
  (16, .new 7, 3, [0, 9, 60, 61, 17]),
  (19, .dup, 1, []),
  (20, .invokespecial 9, 3, [2, 21, 1, 62]),
  (23, .putfield 16, 3, [11, 1, 300, 1]),
  (26, .aload_n 0, 1, []),
  (27, .new 7, 3, [0, 9, 60, 61, 17]),
  (30, .dup, 1, []),
  (31, .invokespecial 9, 3, [2, 21, 1, 62]),
  (34, .putfield 19, 3, [11, 2, 301, 1]),
  (37, .aload_n 0, 1, []),
  (38, .new 22, 3, [0, 6, 171, 172, 20]),
  (41, .dup, 1, []),
  (42, .invokespecial 24, 3, [2, 4, 1, 173]),
  (45, .putfield 25, 3, [11, 3, 302, 1]),
  (48, .aload_n 0, 1, []),
  (49, .new 29, 3, [0, 10, 191, 192, 21]),
  (52, .dup, 1, []),
  (53, .invokespecial 31, 3, [2, 47, 1, 193]),
  (56, .putfield 32, 3, [11, 4, 303, 1]),
  (59, .aload_n 0, 1, []),
  (60, .new 36, 3, [0, 5, 243, 244, 25]),
  (63, .dup, 1, []),
  (64, .invokespecial 38, 3, [5, 2, 1, 245]),
  (67, .putfield 39, 3, [11, 5, 304, 1]),
  (70, .aload_n 0, 1, []),
  (71, .new 43, 3, [0, 1, 266, 267, 27]),
  (74, .dup, 1, []),
  (75, .invokespecial 45, 3, [2, 154, 1, 268]),
  (78, .putfield 46, 3, [11, 6, 305, 1]),
  (81, .aload_n 0, 1, []),
  (82, .iconst 0, 1, []),
  (83, .putfield 50, 3, [11, 7, 306, 0]),
  (86, .aload_n 0, 1, []),
  (87, .iconst (-1), 1, []),
  (88, .putfield 54, 3, [11, 8, 307, 0]),
  (91, .return_, 1, [])]
def xcX9_addReach : List xE := [(0, .aload_n 0, 1, []),
  (1, .getfield 25, 3, [11, 3, 302, 1]),
  (4, .aload_n 0, 1, []),
  (5, .getfield 10, 3, [11, 0, 299, 1]),
  (8, .invokevirtual 58, 3, [0, 6, 2, 379, 6]),
  (11, .aload_n 0, 1, []),
  (12, .aload_n 0, 1, []),
  (13, .getfield 10, 3, [11, 0, 299, 1]),
  (16, .iload_n 1, 1, []),
  (17, .iload_n 2, 1, []),
  (18, .iload_n 3, 1, []),
  (19, .invokevirtual 62, 3, [0, 27, 4, 391, 9]),
  (22, .iconst 0, 1, []),
  (23, .invokevirtual 66, 3, [0, 110, 3, 400, 11]),
  (26, .ireturn, 1, [])]
def xcX9_removeLastReach : List xE := [(0, .aload_n 0, 1, []),
  (1, .getfield 25, 3, [11, 3, 302, 1]),
  (4, .aload_n 0, 1, []),
  (5, .getfield 10, 3, [11, 0, 299, 1]),
  (8, .invokevirtual 58, 3, [0, 6, 2, 379, 6]),
  (11, .aload_n 0, 1, []),
  (12, .aload_n 0, 1, []),
  (13, .getfield 10, 3, [11, 0, 299, 1]),
  (16, .invokevirtual 70, 3, [0, 28, 1, 525, 9]),
  (19, .iconst 0, 1, []),
  (20, .invokevirtual 66, 3, [0, 110, 3, 400, 11]),
  (23, .ireturn, 1, [])]
def xcX9_setLateral : List xE := [(0, .aload_n 0, 1, []),
  (1, .getfield 25, 3, [11, 3, 302, 1]),
  (4, .aload_n 0, 1, []),
  (5, .getfield 10, 3, [11, 0, 299, 1]),
  (8, .invokevirtual 58, 3, [0, 6, 2, 379, 6]),
  (11, .aload_n 0, 1, []),
  (12, .aload_n 0, 1, []),
  (13, .getfield 10, 3, [11, 0, 299, 1]),
  (16, .iload_n 1, 1, []),
  (17, .iload_n 2, 1, []),
  (18, .invokevirtual 74, 3, [0, 29, 3, 943, 9]),
  (21, .iload_n 2, 1, []),
  (22, .invokevirtual 66, 3, [0, 110, 3, 400, 11]),
  (25, .ireturn, 1, [])]
def xcX9_fill : List xE := [(0, .aload_n 0, 1, []),
  (1, .getfield 25, 3, [11, 3, 302, 1]),
  (4, .aload_n 0, 1, []),
  (5, .getfield 10, 3, [11, 0, 299, 1]),
  (8, .invokevirtual 58, 3, [0, 6, 2, 379, 6]),
  (11, .aload_n 0, 1, []),
  (12, .aload_n 0, 1, []),
  (13, .getfield 10, 3, [11, 0, 299, 1]),
  (16, .iload_n 1, 1, []),
  (17, .iload_n 2, 1, []),
  (18, .invokevirtual 77, 3, [0, 30, 3, 572, 9]),
  (21, .iconst 0, 1, []),
  (22, .invokevirtual 66, 3, [0, 110, 3, 400, 11]),
  (25, .ireturn, 1, [])]
def xcX9_reachCount : List xE := [(0, .aload_n 0, 1, []),
  (1, .getfield 10, 3, [11, 0, 299, 1]),
  (4, .getfield 80, 3, [9, 2, 143, 0]),
  (7, .ireturn, 1, [])]
def xcX9_volume : List xE := [(0, .aload_n 0, 1, []),
  (1, .getfield 10, 3, [11, 0, 299, 1]),
  (4, .iload_n 1, 1, []),
  (5, .invokevirtual 83, 3, [0, 24, 2, 587, 9]),
  (8, .getfield 87, 3, [8, 4, 85, 0]),
  (11, .ireturn, 1, [])]
def xcX9_lateral : List xE := [(0, .aload_n 0, 1, []),
  (1, .getfield 10, 3, [11, 0, 299, 1]),
  (4, .iload_n 1, 1, []),
  (5, .invokevirtual 83, 3, [0, 24, 2, 587, 9]),
  (8, .getfield 92, 3, [8, 3, 82, 0]),
  (11, .ireturn, 1, [])]
def xcX9_inflow : List xE := [(0, .aload_n 0, 1, []),
  (1, .getfield 10, 3, [11, 0, 299, 1]),
  (4, .iload_n 1, 1, []),
  (5, .invokevirtual 95, 3, [0, 38, 2, 1436, 9]),
  (8, .ireturn, 1, [])]
def xcX9_outflow : List xE := [(0, .aload_n 0, 1, []),
  (1, .getfield 10, 3, [11, 0, 299, 1]),
  (4, .iload_n 1, 1, []),
  (5, .invokevirtual 99, 3, [0, 39, 2, 1058, 9]),
  (8, .ireturn, 1, [])]
def xcX9_setStages : List xE := [(0, .aload_n 0, 1, []),
  (1, .getfield 25, 3, [11, 3, 302, 1]),
  (4, .aload_n 0, 1, []),
  (5, .getfield 10, 3, [11, 0, 299, 1]),
  (8, .invokevirtual 58, 3, [0, 6, 2, 379, 6]),
  (11, .aload_n 0, 1, []),
  (12, .aload_n 0, 1, []),
  (13, .getfield 10, 3, [11, 0, 299, 1]),
  (16, .iload_n 1, 1, []),
  (17, .iload_n 2, 1, []),
  (18, .iload_n 3, 1, []),
  (19, .invokevirtual 102, 3, [0, 31, 4, 1389, 9]),
  (22, .iconst 0, 1, []),
  (23, .invokevirtual 66, 3, [0, 110, 3, 400, 11]),
  (26, .ireturn, 1, [])]
def xcX9_setGate : List xE := [(0, .aload_n 0, 1, []),
  (1, .getfield 25, 3, [11, 3, 302, 1]),
  (4, .aload_n 0, 1, []),
  (5, .getfield 10, 3, [11, 0, 299, 1]),
  (8, .invokevirtual 58, 3, [0, 6, 2, 379, 6]),
  (11, .aload_n 0, 1, []),
  (12, .aload_n 0, 1, []),
  (13, .getfield 10, 3, [11, 0, 299, 1]),
  (16, .iload_n 1, 1, []),
  (17, .iload_n 2, 1, []),
  (18, .invokevirtual 105, 3, [0, 32, 3, 935, 9]),
  (21, .iload_n 2, 1, []),
  (22, .invokevirtual 66, 3, [0, 110, 3, 400, 11]),
  (25, .ireturn, 1, [])]
def xcX9_setRule : List xE := [(0, .aload_n 0, 1, []),
  (1, .getfield 25, 3, [11, 3, 302, 1]),
  (4, .aload_n 0, 1, []),
  (5, .getfield 10, 3, [11, 0, 299, 1]),
  (8, .invokevirtual 58, 3, [0, 6, 2, 379, 6]),
  (11, .aload_n 0, 1, []),
  (12, .aload_n 0, 1, []),
  (13, .getfield 10, 3, [11, 0, 299, 1]),
  (16, .iload_n 1, 1, []),
  (17, .iload_n 2, 1, []),
  (18, .invokevirtual 108, 3, [0, 33, 3, 927, 9]),
  (21, .iload_n 2, 1, []),
  (22, .invokevirtual 66, 3, [0, 110, 3, 400, 11]),
  (25, .ireturn, 1, [])]
def xcX9_level : List xE := [(0, .aload_n 0, 1, []),
  (1, .getfield 10, 3, [11, 0, 299, 1]),
  (4, .iload_n 1, 1, []),
  (5, .invokevirtual 83, 3, [0, 24, 2, 587, 9]),
  (8, .invokevirtual 112, 3, [0, 18, 1, 1095, 8]),
  (11, .ireturn, 1, [])]
def xcX9_status : List xE := [(0, .aload_n 0, 1, []),
  (1, .getfield 10, 3, [11, 0, 299, 1]),
  (4, .iload_n 1, 1, []),
  (5, .invokevirtual 83, 3, [0, 24, 2, 587, 9]),
  (8, .invokevirtual 115, 3, [0, 19, 1, 1066, 8]),
  (11, .ireturn, 1, [])]
def xcX9_isFlooded : List xE := [(0, .aload_n 0, 1, []),
  (1, .getfield 10, 3, [11, 0, 299, 1]),
  (4, .iload_n 1, 1, []),
  (5, .invokevirtual 83, 3, [0, 24, 2, 587, 9]),
  (8, .invokevirtual 115, 3, [0, 19, 1, 1066, 8]),
  (11, .iconst 2, 1, []),
  (12, .if_icmp .ne 7, 3, []),
  (15, .iconst 1, 1, []),
  (16, .goto 4, 3, []),
  (19, .iconst 0, 1, []),
  (20, .ireturn, 1, [])]
def xcX9_opening : List xE := [(0, .aload_n 0, 1, []),
  (1, .getfield 10, 3, [11, 0, 299, 1]),
  (4, .iload_n 1, 1, []),
  (5, .invokevirtual 118, 3, [0, 40, 2, 1352, 9]),
  (8, .ireturn, 1, [])]
def xcX9_rule : List xE := [(0, .aload_n 0, 1, []),
  (1, .getfield 10, 3, [11, 0, 299, 1]),
  (4, .iload_n 1, 1, []),
  (5, .invokevirtual 83, 3, [0, 24, 2, 587, 9]),
  (8, .getfield 121, 3, [8, 8, 96, 0]),
  (11, .ireturn, 1, [])]
def xcX9_roomBelowFlood : List xE := [(0, .aload_n 0, 1, []),
  (1, .getfield 10, 3, [11, 0, 299, 1]),
  (4, .iload_n 1, 1, []),
  (5, .invokevirtual 83, 3, [0, 24, 2, 587, 9]),
  (8, .astore_n 2, 1, []),
  (9, .aload_n 2, 1, []),
  (10, .invokevirtual 115, 3, [0, 19, 1, 1066, 8]),
  (13, .iconst 2, 1, []),
  (14, .if_icmp .ne 11, 3, []),
  (17, .new 125, 3, [1, 3, 843, 38, 127]),
  (20, .dup, 1, []),
  (21, .invokespecial 127, 3, [99, 99999, 0]),
  (24, .athrow, 1, []),
  (25, .aload_n 2, 1, []),
  (26, .getfield 128, 3, [8, 6, 91, 0]),
  (29, .aload_n 2, 1, []),
  (30, .getfield 131, 3, [8, 0, 76, 0]),
  (33, .imul, 1, []),
  (34, .iconst 1, 1, []),
  (35, .isub, 1, []),
  (36, .aload_n 2, 1, []),
  (37, .getfield 87, 3, [8, 4, 85, 0]),
  (40, .isub, 1, []),
  (41, .ireturn, 1, [])]
def xcX9_reachByLevel : List xE := [(0, .iconst 0, 1, []),
  (1, .istore_n 2, 1, []),
  (2, .iload_n 2, 1, []),
  (3, .aload_n 0, 1, []),
  (4, .getfield 10, 3, [11, 0, 299, 1]),
  (7, .getfield 80, 3, [9, 2, 143, 0]),
  (10, .if_icmp .ge 23, 3, []),
  (13, .aload_n 0, 1, []),
  (14, .getfield 10, 3, [11, 0, 299, 1]),
  (17, .iload_n 2, 1, []),
  (18, .invokevirtual 134, 3, [0, 43, 2, 1074, 9]),
  (21, .iload_n 1, 1, []),
  (22, .if_icmp .ne 5, 3, []),
  (25, .iload_n 2, 1, []),
  (26, .ireturn, 1, []),
  (27, .iinc 2 1, 3, []),
  (30, .goto (-28), 3, []),
  (33, .new 125, 3, [1, 3, 843, 38, 127]),
  (36, .dup, 1, []),
  (37, .invokespecial 127, 3, [99, 99999, 0]),
  (40, .athrow, 1, [])]
def xcX9_addPulse : List xE := [(0, .aload_n 0, 1, []),
  (1, .getfield 25, 3, [11, 3, 302, 1]),
  (4, .aload_n 0, 1, []),
  (5, .getfield 10, 3, [11, 0, 299, 1]),
  (8, .invokevirtual 58, 3, [0, 6, 2, 379, 6]),
  (11, .aload_n 0, 1, []),
  (12, .aload_n 0, 1, []),
  (13, .getfield 10, 3, [11, 0, 299, 1]),
  (16, .iload_n 1, 1, []),
  (17, .iload_n 2, 1, []),
  (18, .iload_n 3, 1, []),
  (19, .invokevirtual 137, 3, [0, 34, 4, 600, 9]),
  (22, .iconst 0, 1, []),
  (23, .invokevirtual 66, 3, [0, 110, 3, 400, 11]),
  (26, .ireturn, 1, [])]
def xcX9_pass : List xE := [(0, .aload_n 0, 1, []),
  (1, .getfield 25, 3, [11, 3, 302, 1]),
  (4, .aload_n 0, 1, []),
  (5, .getfield 10, 3, [11, 0, 299, 1]),
  (8, .invokevirtual 58, 3, [0, 6, 2, 379, 6]),
  (11, .aload_n 0, 1, []),
  (12, .aload_n 0, 1, []),
  (13, .getfield 10, 3, [11, 0, 299, 1]),
  (16, .iload_n 1, 1, []),
  (17, .invokevirtual 140, 3, [0, 35, 2, 611, 9]),
  (20, .iconst 0, 1, []),
  (21, .invokevirtual 66, 3, [0, 110, 3, 400, 11]),
  (24, .ireturn, 1, [])]
def xcX9_hour : List xE := [(0, .aload_n 0, 1, []),
  (1, .getfield 10, 3, [11, 0, 299, 1]),
  (4, .getfield 143, 3, [9, 4, 147, 0]),
  (7, .ireturn, 1, [])]
def xcX9_pulseCount : List xE := [(0, .aload_n 0, 1, []),
  (1, .getfield 10, 3, [11, 0, 299, 1]),
  (4, .getfield 146, 3, [9, 3, 145, 0]),
  (7, .ireturn, 1, [])]
def xcX9_headInflow : List xE := [(0, .iload_n 1, 1, []),
  (1, .aload_n 0, 1, []),
  (2, .getfield 10, 3, [11, 0, 299, 1]),
  (5, .getfield 143, 3, [9, 4, 147, 0]),
  (8, .if_icmp .ge 11, 3, []),
  (11, .new 149, 3, [1, 1, 473, 35, 151]),
  (14, .dup, 1, []),
  (15, .invokespecial 151, 3, [99, 99999, 0]),
  (18, .athrow, 1, []),
  (19, .aload_n 0, 1, []),
  (20, .getfield 10, 3, [11, 0, 299, 1]),
  (23, .iload_n 1, 1, []),
  (24, .invokevirtual 152, 3, [0, 41, 2, 1378, 9]),
  (27, .ireturn, 1, [])]
def xcX9_pendingInflow : List xE := [(0, .aload_n 0, 1, []),
  (1, .getfield 10, 3, [11, 0, 299, 1]),
  (4, .invokevirtual 155, 3, [0, 42, 1, 1019, 9]),
  (7, .ireturn, 1, [])]
def xcX9_levelAfter : List xE := [(0, .aload_n 0, 1, []),
  (1, .iload_n 1, 1, []),
  (2, .invokevirtual 161, 3, [0, 113, 2, 1090, 11]),
  (5, .iload_n 2, 1, []),
  (6, .invokestatic 165, 3, [1, 114, 1, 1031]),
  (9, .aload_n 0, 1, []),
  (10, .iload_n 2, 1, []),
  (11, .invokevirtual 168, 3, [0, 112, 2, 1035, 11]),
  (14, .iload_n 1, 1, []),
  (15, .invokevirtual 83, 3, [0, 24, 2, 587, 9]),
  (18, .invokevirtual 112, 3, [0, 18, 1, 1095, 8]),
  (21, .ireturn, 1, [])]
def xcX9_peakLevel : List xE := [(0, .aload_n 0, 1, []),
  (1, .iload_n 1, 1, []),
  (2, .invokevirtual 161, 3, [0, 113, 2, 1090, 11]),
  (5, .iload_n 2, 1, []),
  (6, .invokestatic 165, 3, [1, 114, 1, 1031]),
  (9, .aload_n 0, 1, []),
  (10, .iconst 0, 1, []),
  (11, .invokevirtual 168, 3, [0, 112, 2, 1035, 11]),
  (14, .iload_n 1, 1, []),
  (15, .invokevirtual 83, 3, [0, 24, 2, 587, 9]),
  (18, .astore_n 3, 1, []),
  (19, .aload_n 3, 1, []),
  (20, .invokevirtual 112, 3, [0, 18, 1, 1095, 8]),
  (23, .istore 4, 2, []),
  (25, .iconst 0, 1, []),
  (26, .istore 5, 2, []),
  (28, .iload 5, 2, []),
  (30, .iload_n 2, 1, []),
  (31, .if_icmp .ge 28, 3, []),
  (34, .aload_n 0, 1, []),
  (35, .getfield 16, 3, [11, 1, 300, 1]),
  (38, .invokevirtual 172, 3, [0, 36, 1, 1039, 9]),
  (41, .pop, 1, []),
  (42, .iload 4, 2, []),
  (44, .aload_n 3, 1, []),
  (45, .invokevirtual 112, 3, [0, 18, 1, 1095, 8]),
  (48, .invokestatic 175, 3, [1, 142, 2, 1096]),
  (51, .istore 4, 2, []),
  (53, .iinc 5 1, 3, []),
  (56, .goto (-28), 3, []),
  (59, .iload 4, 2, []),
  (61, .ireturn, 1, [])]
def xcX9_hoursUntilFlood : List xE := [(0, .aload_n 0, 1, []),
  (1, .iload_n 1, 1, []),
  (2, .invokevirtual 161, 3, [0, 113, 2, 1090, 11]),
  (5, .aload_n 0, 1, []),
  (6, .iconst 0, 1, []),
  (7, .invokevirtual 168, 3, [0, 112, 2, 1035, 11]),
  (10, .iload_n 1, 1, []),
  (11, .invokevirtual 83, 3, [0, 24, 2, 587, 9]),
  (14, .astore_n 2, 1, []),
  (15, .iconst 0, 1, []),
  (16, .istore_n 3, 1, []),
  (17, .iload_n 3, 1, []),
  (18, .bipush 48, 2, []),
  (20, .if_icmp .gt 27, 3, []),
  (23, .aload_n 2, 1, []),
  (24, .invokevirtual 115, 3, [0, 19, 1, 1066, 8]),
  (27, .iconst 2, 1, []),
  (28, .if_icmp .ne 5, 3, []),
  (31, .iload_n 3, 1, []),
  (32, .ireturn, 1, []),
  (33, .aload_n 0, 1, []),
  (34, .getfield 16, 3, [11, 1, 300, 1]),
  (37, .invokevirtual 172, 3, [0, 36, 1, 1039, 9]),
  (40, .pop, 1, []),
  (41, .iinc 3 1, 3, []),
  (44, .goto (-27), 3, []),
  (47, .new 125, 3, [1, 3, 843, 38, 127]),
  (50, .dup, 1, []),
  (51, .invokespecial 127, 3, [99, 99999, 0]),
  (54, .athrow, 1, [])]
def xcX9_volumeAfter : List xE := [(0, .iload_n 1, 1, []),
  (1, .invokestatic 165, 3, [1, 114, 1, 1031]),
  (4, .aload_n 0, 1, []),
  (5, .iload_n 1, 1, []),
  (6, .invokevirtual 168, 3, [0, 112, 2, 1035, 11]),
  (9, .invokevirtual 180, 3, [0, 44, 1, 1040, 9]),
  (12, .ireturn, 1, [])]
def xcX9_volumeAfterByBalance : List xE := [(0, .iload_n 1, 1, []),
  (1, .invokestatic 165, 3, [1, 114, 1, 1031]),
  (4, .aload_n 0, 1, []),
  (5, .iload_n 1, 1, []),
  (6, .invokevirtual 168, 3, [0, 112, 2, 1035, 11]),
  (9, .astore_n 2, 1, []),
  (10, .aload_n 2, 1, []),
  (11, .getfield 183, 3, [9, 5, 149, 0]),
  (14, .aload_n 0, 1, []),
  (15, .getfield 10, 3, [11, 0, 299, 1]),
  (18, .getfield 183, 3, [9, 5, 149, 0]),
  (21, .isub, 1, []),
  (22, .istore_n 3, 1, []),
  (23, .aload_n 2, 1, []),
  (24, .getfield 186, 3, [9, 6, 151, 0]),
  (27, .aload_n 0, 1, []),
  (28, .getfield 10, 3, [11, 0, 299, 1]),
  (31, .getfield 186, 3, [9, 6, 151, 0]),
  (34, .isub, 1, []),
  (35, .istore 4, 2, []),
  (37, .aload_n 0, 1, []),
  (38, .getfield 10, 3, [11, 0, 299, 1]),
  (41, .invokevirtual 180, 3, [0, 44, 1, 1040, 9]),
  (44, .iload_n 3, 1, []),
  (45, .iadd, 1, []),
  (46, .iload 4, 2, []),
  (48, .isub, 1, []),
  (49, .ireturn, 1, [])]
def xcX9_totalIn : List xE := [(0, .aload_n 0, 1, []),
  (1, .getfield 10, 3, [11, 0, 299, 1]),
  (4, .getfield 183, 3, [9, 5, 149, 0]),
  (7, .ireturn, 1, [])]
def xcX9_totalOut : List xE := [(0, .aload_n 0, 1, []),
  (1, .getfield 10, 3, [11, 0, 299, 1]),
  (4, .getfield 186, 3, [9, 6, 151, 0]),
  (7, .ireturn, 1, [])]
def xcX9_alarms : List xE := [(0, .aload_n 0, 1, []),
  (1, .getfield 10, 3, [11, 0, 299, 1]),
  (4, .getfield 189, 3, [9, 7, 153, 0]),
  (7, .ireturn, 1, [])]
def xcX9_meanLevel : List xE := [(0, .aload_n 0, 1, []),
  (1, .getfield 10, 3, [11, 0, 299, 1]),
  (4, .getfield 80, 3, [9, 2, 143, 0]),
  (7, .ifCond .ne 11, 3, []),
  (10, .new 192, 3, [1, 5, 969, 43, 194]),
  (13, .dup, 1, []),
  (14, .invokespecial 194, 3, [99, 99999, 0]),
  (17, .athrow, 1, []),
  (18, .aload_n 0, 1, []),
  (19, .getfield 10, 3, [11, 0, 299, 1]),
  (22, .invokevirtual 195, 3, [0, 45, 1, 974, 9]),
  (25, .i2d, 1, []),
  (26, .aload_n 0, 1, []),
  (27, .getfield 10, 3, [11, 0, 299, 1]),
  (30, .getfield 80, 3, [9, 2, 143, 0]),
  (33, .i2d, 1, []),
  (34, .ddiv, 1, []),
  (35, .dreturn, 1, [])]
def xcX9_floodedShare : List xE := [(0, .aload_n 0, 1, []),
  (1, .getfield 10, 3, [11, 0, 299, 1]),
  (4, .getfield 80, 3, [9, 2, 143, 0]),
  (7, .ifCond .ne 11, 3, []),
  (10, .new 192, 3, [1, 5, 969, 43, 194]),
  (13, .dup, 1, []),
  (14, .invokespecial 194, 3, [99, 99999, 0]),
  (17, .athrow, 1, []),
  (18, .aload_n 0, 1, []),
  (19, .getfield 10, 3, [11, 0, 299, 1]),
  (22, .invokevirtual 198, 3, [0, 46, 1, 996, 9]),
  (25, .i2f, 1, []),
  (26, .aload_n 0, 1, []),
  (27, .getfield 10, 3, [11, 0, 299, 1]),
  (30, .getfield 80, 3, [9, 2, 143, 0]),
  (33, .i2f, 1, []),
  (34, .fdiv, 1, []),
  (35, .freturn, 1, [])]
def xcX9_feed : List xE := [(0, .aload_n 0, 1, []),
  (1, .getfield 32, 3, [11, 4, 303, 1]),
  (4, .invokevirtual 201, 3, [0, 48, 1, 658, 10]),
  (7, .ifCond .eq 11, 3, []),
  (10, .new 205, 3, [1, 4, 663, 33, 207]),
  (13, .dup, 1, []),
  (14, .invokespecial 207, 3, [99, 99999, 0]),
  (17, .athrow, 1, []),
  (18, .aload_n 0, 1, []),
  (19, .getfield 32, 3, [11, 4, 303, 1]),
  (22, .iload_n 1, 1, []),
  (23, .invokevirtual 208, 3, [0, 49, 2, 678, 10]),
  (26, .ireturn, 1, [])]
def xcX9_execute : List xE := [(0, .aload_n 0, 1, []),
  (1, .getfield 32, 3, [11, 4, 303, 1]),
  (4, .invokevirtual 212, 3, [0, 52, 1, 690, 10]),
  (7, .istore_n 1, 1, []),
  (8, .aload_n 0, 1, []),
  (9, .getfield 32, 3, [11, 4, 303, 1]),
  (12, .invokevirtual 215, 3, [0, 50, 1, 785, 10]),
  (15, .iload_n 1, 1, []),
  (16, .iconst (-1), 1, []),
  (17, .if_icmp .eq 16, 3, []),
  (20, .aload_n 0, 1, []),
  (21, .iload_n 1, 1, []),
  (22, .putfield 54, 3, [11, 8, 307, 0]),
  (25, .new 149, 3, [1, 1, 473, 35, 151]),
  (28, .dup, 1, []),
  (29, .invokespecial 151, 3, [99, 99999, 0]),
  (32, .athrow, 1, []),
  (33, .aload_n 0, 1, []),
  (34, .getfield 25, 3, [11, 3, 302, 1]),
  (37, .aload_n 0, 1, []),
  (38, .getfield 10, 3, [11, 0, 299, 1]),
  (41, .invokevirtual 58, 3, [0, 6, 2, 379, 6]),
  (44, .iconst 0, 1, []),
  (45, .istore_n 2, 1, []),
  (46, .iload_n 2, 1, []),
  (47, .aload_n 0, 1, []),
  (48, .getfield 32, 3, [11, 4, 303, 1]),
  (51, .getfield 218, 3, [10, 4, 231, 0]),
  (54, .if_icmp .ge 49, 3, []),
  (57, .aload_n 0, 1, []),
  (58, .getfield 32, 3, [11, 4, 303, 1]),
  (61, .iload_n 2, 1, []),
  (62, .invokevirtual 221, 3, [0, 51, 2, 789, 10]),
  (65, .astore_n 3, 1, []),
  (66, .aload_n 0, 1, []),
  (67, .getfield 10, 3, [11, 0, 299, 1]),
  (70, .aload_n 3, 1, []),
  (71, .invokevirtual 225, 3, [0, 25, 2, 793, 9]),
  (74, .istore 4, 2, []),
  (76, .iload 4, 2, []),
  (78, .ifCond .ge 19, 3, []),
  (81, .aload_n 0, 1, []),
  (82, .iload_n 2, 1, []),
  (83, .aload_n 3, 1, []),
  (84, .iload 4, 2, []),
  (86, .invokevirtual 229, 3, [0, 111, 4, 827, 11]),
  (89, .new 233, 3, [1, 2, 496, 36, 235]),
  (92, .dup, 1, []),
  (93, .invokespecial 235, 3, [99, 99999, 0]),
  (96, .athrow, 1, []),
  (97, .iinc 2 1, 3, []),
  (100, .goto (-54), 3, []),
  (103, .aload_n 0, 1, []),
  (104, .getfield 25, 3, [11, 3, 302, 1]),
  (107, .invokevirtual 236, 3, [0, 7, 1, 511, 6]),
  (110, .aload_n 0, 1, []),
  (111, .getfield 32, 3, [11, 4, 303, 1]),
  (114, .getfield 218, 3, [10, 4, 231, 0]),
  (117, .ireturn, 1, [])]
def xcX9_faultPosition : List xE := [(0, .aload_n 0, 1, []),
  (1, .getfield 54, 3, [11, 8, 307, 0]),
  (4, .iconst (-1), 1, []),
  (5, .if_icmp .ne 11, 3, []),
  (8, .new 125, 3, [1, 3, 843, 38, 127]),
  (11, .dup, 1, []),
  (12, .invokespecial 127, 3, [99, 99999, 0]),
  (15, .athrow, 1, []),
  (16, .aload_n 0, 1, []),
  (17, .getfield 54, 3, [11, 8, 307, 0]),
  (20, .ireturn, 1, [])]
def xcX9_writeReach : List xE := [(0, .aload_n 0, 1, []),
  (1, .getfield 10, 3, [11, 0, 299, 1]),
  (4, .iload_n 1, 1, []),
  (5, .invokevirtual 83, 3, [0, 24, 2, 587, 9]),
  (8, .astore_n 2, 1, []),
  (9, .aload_n 0, 1, []),
  (10, .getfield 46, 3, [11, 6, 305, 1]),
  (13, .iconst 0, 1, []),
  (14, .invokevirtual 239, 3, [0, 160, 2, 1104, 1]),
  (17, .aload_n 0, 1, []),
  (18, .getfield 46, 3, [11, 6, 305, 1]),
  (21, .iload_n 1, 1, []),
  (22, .invokevirtual 242, 3, [0, 157, 2, 1338, 1]),
  (25, .pop, 1, []),
  (26, .aload_n 0, 1, []),
  (27, .getfield 46, 3, [11, 6, 305, 1]),
  (30, .bipush 61, 2, []),
  (32, .invokevirtual 245, 3, [0, 156, 2, 1339, 1]),
  (35, .pop, 1, []),
  (36, .aload_n 0, 1, []),
  (37, .getfield 46, 3, [11, 6, 305, 1]),
  (40, .aload_n 2, 1, []),
  (41, .getfield 87, 3, [8, 4, 85, 0]),
  (44, .invokevirtual 242, 3, [0, 157, 2, 1338, 1]),
  (47, .pop, 1, []),
  (48, .aload_n 0, 1, []),
  (49, .getfield 46, 3, [11, 6, 305, 1]),
  (52, .bipush 47, 2, []),
  (54, .invokevirtual 245, 3, [0, 156, 2, 1339, 1]),
  (57, .pop, 1, []),
  (58, .aload_n 0, 1, []),
  (59, .getfield 46, 3, [11, 6, 305, 1]),
  (62, .aload_n 2, 1, []),
  (63, .getfield 131, 3, [8, 0, 76, 0]),
  (66, .invokevirtual 242, 3, [0, 157, 2, 1338, 1]),
  (69, .pop, 1, []),
  (70, .aload_n 0, 1, []),
  (71, .getfield 46, 3, [11, 6, 305, 1]),
  (74, .bipush 64, 2, []),
  (76, .invokevirtual 245, 3, [0, 156, 2, 1339, 1]),
  (79, .pop, 1, []),
  (80, .aload_n 0, 1, []),
  (81, .getfield 46, 3, [11, 6, 305, 1]),
  (84, .aload_n 2, 1, []),
  (85, .invokevirtual 112, 3, [0, 18, 1, 1095, 8]),
  (88, .invokevirtual 242, 3, [0, 157, 2, 1338, 1]),
  (91, .pop, 1, []),
  (92, .aload_n 2, 1, []),
  (93, .invokevirtual 115, 3, [0, 19, 1, 1066, 8]),
  (96, .istore_n 3, 1, []),
  (97, .iload_n 3, 1, []),
  (98, .ifCond .le 19, 3, []),
  (101, .aload_n 0, 1, []),
  (102, .getfield 46, 3, [11, 6, 305, 1]),
  (105, .bipush 33, 2, []),
  (107, .invokevirtual 245, 3, [0, 156, 2, 1339, 1]),
  (110, .pop, 1, []),
  (111, .iinc 3 (-1), 3, []),
  (114, .goto (-17), 3, []),
  (117, .aload_n 0, 1, []),
  (118, .getfield 46, 3, [11, 6, 305, 1]),
  (121, .bipush 32, 2, []),
  (123, .invokevirtual 245, 3, [0, 156, 2, 1339, 1]),
  (126, .pop, 1, []),
  (127, .aload_n 0, 1, []),
  (128, .getfield 46, 3, [11, 6, 305, 1]),
  (131, .aload_n 2, 1, []),
  (132, .getfield 121, 3, [8, 8, 96, 0]),
  (135, .invokevirtual 245, 3, [0, 156, 2, 1339, 1]),
  (138, .pop, 1, []),
  (139, .aload_n 0, 1, []),
  (140, .getfield 46, 3, [11, 6, 305, 1]),
  (143, .aload_n 0, 1, []),
  (144, .getfield 10, 3, [11, 0, 299, 1]),
  (147, .iload_n 1, 1, []),
  (148, .invokevirtual 118, 3, [0, 40, 2, 1352, 9]),
  (151, .invokevirtual 242, 3, [0, 157, 2, 1338, 1]),
  (154, .pop, 1, []),
  (155, .aload_n 0, 1, []),
  (156, .getfield 46, 3, [11, 6, 305, 1]),
  (159, .invokevirtual 248, 3, [0, 161, 1, 1353, 1]),
  (162, .ireturn, 1, [])]
def xcX9_lineCharacter : List xE := [(0, .iload_n 1, 1, []),
  (1, .ifCond .lt 14, 3, []),
  (4, .iload_n 1, 1, []),
  (5, .aload_n 0, 1, []),
  (6, .getfield 46, 3, [11, 6, 305, 1]),
  (9, .invokevirtual 248, 3, [0, 161, 1, 1353, 1]),
  (12, .if_icmp .lt 11, 3, []),
  (15, .new 251, 3, [1, 0, 404, 34, 253]),
  (18, .dup, 1, []),
  (19, .invokespecial 253, 3, [99, 99999, 0]),
  (22, .athrow, 1, []),
  (23, .aload_n 0, 1, []),
  (24, .getfield 46, 3, [11, 6, 305, 1]),
  (27, .iload_n 1, 1, []),
  (28, .invokevirtual 254, 3, [0, 159, 2, 1361, 1]),
  (31, .ireturn, 1, [])]
def xcX9_denial : List xE := [(0, .aload_n 0, 1, []),
  (1, .getfield 39, 3, [11, 5, 304, 1]),
  (4, .getfield 258, 3, [5, 0, 250, 0]),
  (7, .invokestatic 261, 3, [1, 115, 1, 890]),
  (10, .aload_n 0, 1, []),
  (11, .getfield 39, 3, [11, 5, 304, 1]),
  (14, .getfield 258, 3, [5, 0, 250, 0]),
  (17, .ireturn, 1, [])]
def xcX9_denialDetail : List xE := [(0, .aload_n 0, 1, []),
  (1, .getfield 39, 3, [11, 5, 304, 1]),
  (4, .getfield 258, 3, [5, 0, 250, 0]),
  (7, .invokestatic 261, 3, [1, 115, 1, 890]),
  (10, .aload_n 0, 1, []),
  (11, .getfield 39, 3, [11, 5, 304, 1]),
  (14, .getfield 264, 3, [5, 1, 252, 0]),
  (17, .ireturn, 1, [])]
def xcX9_denialCause : List xE := [(0, .aload_n 0, 1, []),
  (1, .getfield 39, 3, [11, 5, 304, 1]),
  (4, .getfield 267, 3, [5, 2, 254, 0]),
  (7, .invokestatic 261, 3, [1, 115, 1, 890]),
  (10, .aload_n 0, 1, []),
  (11, .getfield 39, 3, [11, 5, 304, 1]),
  (14, .getfield 267, 3, [5, 2, 254, 0]),
  (17, .ireturn, 1, [])]
def xcX9_denialCauseDetail : List xE := [(0, .aload_n 0, 1, []),
  (1, .getfield 39, 3, [11, 5, 304, 1]),
  (4, .getfield 267, 3, [5, 2, 254, 0]),
  (7, .invokestatic 261, 3, [1, 115, 1, 890]),
  (10, .aload_n 0, 1, []),
  (11, .getfield 39, 3, [11, 5, 304, 1]),
  (14, .getfield 270, 3, [5, 3, 256, 0]),
  (17, .ireturn, 1, [])]
def xcX9_undo : List xE := [(0, .aload_n 0, 1, []),
  (1, .getfield 25, 3, [11, 3, 302, 1]),
  (4, .getfield 273, 3, [6, 2, 183, 0]),
  (7, .ifCond .ne 11, 3, []),
  (10, .new 205, 3, [1, 4, 663, 33, 207]),
  (13, .dup, 1, []),
  (14, .invokespecial 207, 3, [99, 99999, 0]),
  (17, .athrow, 1, []),
  (18, .aload_n 0, 1, []),
  (19, .getfield 25, 3, [11, 3, 302, 1]),
  (22, .aload_n 0, 1, []),
  (23, .getfield 10, 3, [11, 0, 299, 1]),
  (26, .invokevirtual 276, 3, [0, 9, 2, 865, 6]),
  (29, .aload_n 0, 1, []),
  (30, .getfield 25, 3, [11, 3, 302, 1]),
  (33, .getfield 273, 3, [6, 2, 183, 0]),
  (36, .ireturn, 1, [])]
def xcX9_undoCount : List xE := [(0, .aload_n 0, 1, []),
  (1, .getfield 25, 3, [11, 3, 302, 1]),
  (4, .getfield 273, 3, [6, 2, 183, 0]),
  (7, .ireturn, 1, [])]
def xcX9_saveSnapshot : List xE := [(0, .aload_n 0, 1, []),
  (1, .getfield 19, 3, [11, 2, 301, 1]),
  (4, .aload_n 0, 1, []),
  (5, .getfield 10, 3, [11, 0, 299, 1]),
  (8, .invokevirtual 279, 3, [0, 22, 2, 355, 9]),
  (11, .aload_n 0, 1, []),
  (12, .iconst 1, 1, []),
  (13, .putfield 50, 3, [11, 7, 306, 0]),
  (16, .aload_n 0, 1, []),
  (17, .getfield 10, 3, [11, 0, 299, 1]),
  (20, .getfield 80, 3, [9, 2, 143, 0]),
  (23, .ireturn, 1, [])]
def xcX9_restoreSnapshot : List xE := [(0, .aload_n 0, 1, []),
  (1, .getfield 50, 3, [11, 7, 306, 0]),
  (4, .ifCond .ne 11, 3, []),
  (7, .new 205, 3, [1, 4, 663, 33, 207]),
  (10, .dup, 1, []),
  (11, .invokespecial 207, 3, [99, 99999, 0]),
  (14, .athrow, 1, []),
  (15, .aload_n 0, 1, []),
  (16, .getfield 10, 3, [11, 0, 299, 1]),
  (19, .aload_n 0, 1, []),
  (20, .getfield 19, 3, [11, 2, 301, 1]),
  (23, .invokevirtual 279, 3, [0, 22, 2, 355, 9]),
  (26, .aload_n 0, 1, []),
  (27, .getfield 25, 3, [11, 3, 302, 1]),
  (30, .invokevirtual 282, 3, [0, 10, 1, 876, 6]),
  (33, .aload_n 0, 1, []),
  (34, .getfield 10, 3, [11, 0, 299, 1]),
  (37, .getfield 80, 3, [9, 2, 143, 0]),
  (40, .ireturn, 1, [])]
def xcX9_conclude : List xE := [(0, .iload_n 1, 1, []),
  (1, .bipush (-11), 2, []),
  (3, .if_icmp .ne 11, 3, []),
  (6, .new 251, 3, [1, 0, 404, 34, 253]),
  (9, .dup, 1, []),
  (10, .invokespecial 253, 3, [99, 99999, 0]),
  (13, .athrow, 1, []),
  (14, .iload_n 1, 1, []),
  (15, .bipush (-12), 2, []),
  (17, .if_icmp .ne 11, 3, []),
  (20, .new 149, 3, [1, 1, 473, 35, 151]),
  (23, .dup, 1, []),
  (24, .invokespecial 151, 3, [99, 99999, 0]),
  (27, .athrow, 1, []),
  (28, .iload_n 1, 1, []),
  (29, .ifCond .ge 32, 3, []),
  (32, .aload_n 0, 1, []),
  (33, .getfield 39, 3, [11, 5, 304, 1]),
  (36, .iload_n 1, 1, []),
  (37, .ineg, 1, []),
  (38, .aload_n 0, 1, []),
  (39, .getfield 10, 3, [11, 0, 299, 1]),
  (42, .iload_n 1, 1, []),
  (43, .ineg, 1, []),
  (44, .iload_n 2, 1, []),
  (45, .invokevirtual 285, 3, [0, 26, 3, 488, 9]),
  (48, .iconst 0, 1, []),
  (49, .iconst 0, 1, []),
  (50, .invokevirtual 288, 3, [0, 3, 5, 492, 5]),
  (53, .new 233, 3, [1, 2, 496, 36, 235]),
  (56, .dup, 1, []),
  (57, .invokespecial 235, 3, [99, 99999, 0]),
  (60, .athrow, 1, []),
  (61, .aload_n 0, 1, []),
  (62, .getfield 25, 3, [11, 3, 302, 1]),
  (65, .invokevirtual 236, 3, [0, 7, 1, 511, 6]),
  (68, .iload_n 1, 1, []),
  (69, .ireturn, 1, [])]
def xcX9_failCommand : List xE := [(0, .iload_n 3, 1, []),
  (1, .bipush (-11), 2, []),
  (3, .if_icmp .eq 9, 3, []),
  (6, .iload_n 3, 1, []),
  (7, .bipush (-12), 2, []),
  (9, .if_icmp .ne 18, 3, []),
  (12, .aload_n 0, 1, []),
  (13, .getfield 39, 3, [11, 5, 304, 1]),
  (16, .iconst 5, 1, []),
  (17, .iload_n 1, 1, []),
  (18, .bipush 6, 2, []),
  (20, .iconst 0, 1, []),
  (21, .invokevirtual 288, 3, [0, 3, 5, 492, 5]),
  (24, .goto 31, 3, []),
  (27, .aload_n 0, 1, []),
  (28, .getfield 10, 3, [11, 0, 299, 1]),
  (31, .iload_n 3, 1, []),
  (32, .ineg, 1, []),
  (33, .aload_n 2, 1, []),
  (34, .getfield 292, 3, [4, 2, 213, 0]),
  (37, .invokevirtual 285, 3, [0, 26, 3, 488, 9]),
  (40, .istore 4, 2, []),
  (42, .aload_n 0, 1, []),
  (43, .getfield 39, 3, [11, 5, 304, 1]),
  (46, .iconst 5, 1, []),
  (47, .iload_n 1, 1, []),
  (48, .iload_n 3, 1, []),
  (49, .ineg, 1, []),
  (50, .iload 4, 2, []),
  (52, .invokevirtual 288, 3, [0, 3, 5, 492, 5]),
  (55, .aload_n 0, 1, []),
  (56, .getfield 25, 3, [11, 3, 302, 1]),
  (59, .aload_n 0, 1, []),
  (60, .getfield 10, 3, [11, 0, 299, 1]),
  (63, .invokevirtual 297, 3, [0, 8, 2, 831, 6]),
  (66, .return_, 1, [])]
def xcX9_ahead : List xE := [(0, .aload_n 0, 1, []),
  (1, .getfield 16, 3, [11, 1, 300, 1]),
  (4, .aload_n 0, 1, []),
  (5, .getfield 10, 3, [11, 0, 299, 1]),
  (8, .invokevirtual 279, 3, [0, 22, 2, 355, 9]),
  (11, .aload_n 0, 1, []),
  (12, .getfield 10, 3, [11, 0, 299, 1]),
  (15, .getfield 80, 3, [9, 2, 143, 0]),
  (18, .ifCond .ne 7, 3, []),
  (21, .iconst 0, 1, []),
  (22, .goto 4, 3, []),
  (25, .iload_n 1, 1, []),
  (26, .istore_n 2, 1, []),
  (27, .iconst 0, 1, []),
  (28, .istore_n 3, 1, []),
  (29, .iload_n 3, 1, []),
  (30, .iload_n 2, 1, []),
  (31, .if_icmp .ge 17, 3, []),
  (34, .aload_n 0, 1, []),
  (35, .getfield 16, 3, [11, 1, 300, 1]),
  (38, .invokevirtual 172, 3, [0, 36, 1, 1039, 9]),
  (41, .pop, 1, []),
  (42, .iinc 3 1, 3, []),
  (45, .goto (-16), 3, []),
  (48, .aload_n 0, 1, []),
  (49, .getfield 16, 3, [11, 1, 300, 1]),
  (52, .areturn, 1, [])]
def xcX9_requireReach : List xE := [(0, .aload_n 0, 1, []),
  (1, .getfield 10, 3, [11, 0, 299, 1]),
  (4, .iload_n 1, 1, []),
  (5, .invokevirtual 300, 3, [0, 23, 2, 1094, 9]),
  (8, .ifCond .ne 11, 3, []),
  (11, .new 251, 3, [1, 0, 404, 34, 253]),
  (14, .dup, 1, []),
  (15, .invokespecial 253, 3, [99, 99999, 0]),
  (18, .athrow, 1, []),
  (19, .return_, 1, [])]
def xcX9_requireForecastHours : List xE := [(0, .iload_n 0, 1, []),
  (1, .iconst 0, 1, []),
  (2, .bipush 48, 2, []),
  (4, .invokestatic 304, 3, [1, 116, 3, 1034]),
  (7, .ifCond .ne 11, 3, []),
  (10, .new 149, 3, [1, 1, 473, 35, 151]),
  (13, .dup, 1, []),
  (14, .invokespecial 151, 3, [99, 99999, 0]),
  (17, .athrow, 1, []),
  (18, .return_, 1, [])]
def xcX9_requireDenial : List xE := [(0, .iload_n 0, 1, []),
  (1, .ifCond .ne 11, 3, []),
  (4, .new 125, 3, [1, 3, 843, 38, 127]),
  (7, .dup, 1, []),
  (8, .invokespecial 127, 3, [99, 99999, 0]),
  (11, .athrow, 1, []),
  (12, .return_, 1, [])]
def xcX9_within : List xE := [(0, .iload_n 0, 1, []),
  (1, .iload_n 1, 1, []),
  (2, .if_icmp .lt 12, 3, []),
  (5, .iload_n 0, 1, []),
  (6, .iload_n 2, 1, []),
  (7, .if_icmp .gt 7, 3, []),
  (10, .iconst 1, 1, []),
  (11, .goto 4, 3, []),
  (14, .iconst 0, 1, []),
  (15, .ireturn, 1, [])]
def xcX9_isRule : List xE := [(0, .iload_n 0, 1, []),
  (1, .bipush 102, 2, []),
  (3, .if_icmp .eq 15, 3, []),
  (6, .iload_n 0, 1, []),
  (7, .bipush 104, 2, []),
  (9, .if_icmp .eq 9, 3, []),
  (12, .iload_n 0, 1, []),
  (13, .bipush 114, 2, []),
  (15, .if_icmp .ne 7, 3, []),
  (18, .iconst 1, 1, []),
  (19, .goto 4, 3, []),
  (22, .iconst 0, 1, []),
  (23, .ireturn, 1, [])]
def xcJ5_init_d00df : List xE := [(0, .aload_n 0, 1, []),
  (1, .invokespecial 3, 3, [7, 274]),
  (4, .getstatic 18, 3, [0, 275, 0]),
  (7, .ifCond .eq 18, 3, []),
  (10, .aload_n 0, 1, []),
  (11, .iload_n 1, 1, []),
  (12, .newarray .byte, 2, []),
  (14, .putfield 15, 3, [1, 0, 284, 0]),
  (17, .aload_n 0, 1, []),
  (18, .iconst 0, 1, []),
  (19, .putfield 22, 3, [1, 1, 285, 0]),
  (22, .goto 16, 3, []),
  (25, .aload_n 0, 1, []),
  (26, .iload_n 1, 1, []),
  (27, .invokestatic 26, 3, [1, 167, 1, 277]),
  (30, .putfield 15, 3, [1, 0, 284, 0]),
  (33, .aload_n 0, 1, []),
  (34, .iconst 1, 1, []),
  (35, .putfield 22, 3, [1, 1, 285, 0]),
  (38, .return_, 1, [])]
def xcJ5_length_8abf5 : List xE := [(0, .aload_n 0, 1, []),
  (1, .getfield 79, 3, [1, 3, 288, 0]),
  (4, .ireturn, 1, [])]
def xcJ5_ensureCapacityInternal_d00df : List xE := [(0, .aload_n 0, 1, []),
  (1, .getfield 15, 3, [1, 0, 284, 0]),
  (4, .arraylength, 1, []),
  (5, .aload_n 0, 1, []),
  (6, .getfield 22, 3, [1, 1, 285, 0]),
  (9, .ishr, 1, []),
  (10, .istore_n 2, 1, []),
  (11, .iload_n 1, 1, []),
  (12, .iload_n 2, 1, []),
  (13, .isub, 1, []),
  (14, .ifCond .le 24, 3, []),
  (17, .aload_n 0, 1, []),
  (18, .aload_n 0, 1, []),
  (19, .getfield 15, 3, [1, 0, 284, 0]),
  (22, .aload_n 0, 1, []),
  (23, .iload_n 1, 1, []),
  (24, .invokevirtual 104, 3, [3, 121, 2, 1134, 0, 1487, 5000, 121]),
  (27, .aload_n 0, 1, []),
  (28, .getfield 22, 3, [1, 1, 285, 0]),
  (31, .ishl, 1, []),
  (32, .invokestatic 108, 3, [1, 187, 2, 1147]),
  (35, .putfield 15, 3, [1, 0, 284, 0]),
  (38, .return_, 1, [])]
def xcJ5_newCapacity_0f7a4 : List xE := [(0, .aload_n 0, 1, []),
  (1, .getfield 15, 3, [1, 0, 284, 0]),
  (4, .arraylength, 1, []),
  (5, .istore_n 2, 1, []),
  (6, .iload_n 1, 1, []),
  (7, .aload_n 0, 1, []),
  (8, .getfield 22, 3, [1, 1, 285, 0]),
  (11, .ishl, 1, []),
  (12, .istore_n 3, 1, []),
  (13, .iload_n 3, 1, []),
  (14, .iload_n 2, 1, []),
  (15, .isub, 1, []),
  (16, .istore 4, 2, []),
  (18, .iload_n 2, 1, []),
  (19, .iload 4, 2, []),
  (21, .iload_n 2, 1, []),
  (22, .iconst 2, 1, []),
  (23, .aload_n 0, 1, []),
  (24, .getfield 22, 3, [1, 1, 285, 0]),
  (27, .ishl, 1, []),
  (28, .iadd, 1, []),
  (29, .invokestatic 114, 3, [1, 191, 3, 1138]),
  (32, .istore 5, 2, []),
  (34, .iload 5, 2, []),
  (36, .ldc 39, 2, [0, 2147483647, 1146]),
  (38, .if_icmp .ne 13, 3, []),
  (41, .new 120, 3, []),
  (44, .dup, 1, []),
  (45, .ldc 122, 2, []),
  (47, .invokespecial 124, 3, [99, 99999, 0]),
  (50, .athrow, 1, []),
  (51, .iload 5, 2, []),
  (53, .aload_n 0, 1, []),
  (54, .getfield 22, 3, [1, 1, 285, 0]),
  (57, .ishr, 1, []),
  (58, .ireturn, 1, [])]
def xcJ5_inflate_da8c8 : List xE := [(0, .aload_n 0, 1, []),
  (1, .invokevirtual 83, 3, [3, 130, 1, 1161, 0, 1163, 1164, 130]),
  (4, .ifCond .ne 4, 3, []),
  (7, .return_, 1, []),
  (8, .aload_n 0, 1, []),
  (9, .getfield 15, 3, [1, 0, 284, 0]),
  (12, .arraylength, 1, []),
  (13, .invokestatic 26, 3, [1, 167, 1, 277]),
  (16, .astore_n 1, 1, []),
  (17, .aload_n 0, 1, []),
  (18, .getfield 15, 3, [1, 0, 284, 0]),
  (21, .iconst 0, 1, []),
  (22, .aload_n 1, 1, []),
  (23, .iconst 0, 1, []),
  (24, .aload_n 0, 1, []),
  (25, .getfield 79, 3, [1, 3, 288, 0]),
  (28, .invokestatic 125, 3, [1, 166, 5, 1195]),
  (31, .aload_n 0, 1, []),
  (32, .aload_n 1, 1, []),
  (33, .putfield 15, 3, [1, 0, 284, 0]),
  (36, .aload_n 0, 1, []),
  (37, .iconst 1, 1, []),
  (38, .putfield 22, 3, [1, 1, 285, 0]),
  (41, .return_, 1, [])]
def xcJ5_setLength_d00df : List xE := [(0, .iload_n 1, 1, []),
  (1, .ifCond .ge 12, 3, []),
  (4, .new 129, 3, []),
  (7, .dup, 1, []),
  (8, .iload_n 1, 1, []),
  (9, .invokespecial 131, 3, [2, 162, 2, 1113]),
  (12, .athrow, 1, []),
  (13, .aload_n 0, 1, []),
  (14, .iload_n 1, 1, []),
  (15, .invokevirtual 100, 3, [3, 120, 2, 1130, 0, 1486, 5001, 120]),
  (18, .aload_n 0, 1, []),
  (19, .getfield 79, 3, [1, 3, 288, 0]),
  (22, .iload_n 1, 1, []),
  (23, .if_icmp .ge 40, 3, []),
  (26, .aload_n 0, 1, []),
  (27, .invokevirtual 83, 3, [3, 130, 1, 1161, 0, 1163, 1164, 130]),
  (30, .ifCond .eq 18, 3, []),
  (33, .aload_n 0, 1, []),
  (34, .getfield 15, 3, [1, 0, 284, 0]),
  (37, .aload_n 0, 1, []),
  (38, .getfield 79, 3, [1, 3, 288, 0]),
  (41, .iload_n 1, 1, []),
  (42, .invokestatic 133, 3, [1, 165, 3, 1312]),
  (45, .goto 31, 3, []),
  (48, .aload_n 0, 1, []),
  (49, .getfield 15, 3, [1, 0, 284, 0]),
  (52, .aload_n 0, 1, []),
  (53, .getfield 79, 3, [1, 3, 288, 0]),
  (56, .iload_n 1, 1, []),
  (57, .invokestatic 137, 3, [1, 175, 3, 1334]),
  (60, .goto 16, 3, []),
  (63, .aload_n 0, 1, []),
  (64, .getfield 79, 3, [1, 3, 288, 0]),
  (67, .iload_n 1, 1, []),
  (68, .if_icmp .le 8, 3, []),
  (71, .aload_n 0, 1, []),
  (72, .iconst 1, 1, []),
  (73, .putfield 73, 3, [1, 2, 286, 0]),
  (76, .aload_n 0, 1, []),
  (77, .iload_n 1, 1, []),
  (78, .putfield 79, 3, [1, 3, 288, 0]),
  (81, .return_, 1, [])]
def xcJ5_charAt_5068e : List xE := [(0, .aload_n 0, 1, []),
  (1, .getfield 22, 3, [1, 1, 285, 0]),
  (4, .istore_n 2, 1, []),
  (5, .aload_n 0, 1, []),
  (6, .getfield 15, 3, [1, 0, 284, 0]),
  (9, .astore_n 3, 1, []),
  (10, .aload_n 0, 1, []),
  (11, .getfield 79, 3, [1, 3, 288, 0]),
  (14, .aload_n 3, 1, []),
  (15, .arraylength, 1, []),
  (16, .iload_n 2, 1, []),
  (17, .ishr, 1, []),
  (18, .invokestatic 138, 3, [1, 143, 2, 1368]),
  (21, .istore 4, 2, []),
  (23, .iload_n 1, 1, []),
  (24, .iload 4, 2, []),
  (26, .invokestatic 144, 3, [1, 151, 2, 1369]),
  (29, .iload_n 2, 1, []),
  (30, .ifCond .ne 12, 3, []),
  (33, .aload_n 3, 1, []),
  (34, .iload_n 1, 1, []),
  (35, .baload, 1, []),
  (36, .sipush 255, 3, []),
  (39, .iand, 1, []),
  (40, .i2c, 1, []),
  (41, .ireturn, 1, []),
  (42, .aload_n 3, 1, []),
  (43, .iload_n 1, 1, []),
  (44, .invokestatic 148, 3, [1, 170, 2, 1370]),
  (47, .ireturn, 1, [])]
def xcJ5_append_cf1ce : List xE := [(0, .aload_n 1, 1, []),
  (1, .ifnonnull 8, 3, []),
  (4, .aload_n 0, 1, []),
  (5, .invokevirtual 204, 3, [3, 126, 1, 1126, 0, 1485, 5002, 126]),
  (8, .areturn, 1, []),
  (9, .aload_n 1, 1, []),
  (10, .invokevirtual 32, 3, [0, 145, 1, 1181, 0]),
  (13, .istore_n 2, 1, []),
  (14, .aload_n 0, 1, []),
  (15, .aload_n 0, 1, []),
  (16, .getfield 79, 3, [1, 3, 288, 0]),
  (19, .iload_n 2, 1, []),
  (20, .iadd, 1, []),
  (21, .invokevirtual 100, 3, [3, 120, 2, 1130, 0, 1486, 5001, 120]),
  (24, .aload_n 0, 1, []),
  (25, .aload_n 0, 1, []),
  (26, .getfield 79, 3, [1, 3, 288, 0]),
  (29, .aload_n 1, 1, []),
  (30, .invokevirtual 208, 3, [3, 132, 3, 1182, 0, 1488, 5003, 132]),
  (33, .aload_n 0, 1, []),
  (34, .dup, 1, []),
  (35, .getfield 79, 3, [1, 3, 288, 0]),
  (38, .iload_n 2, 1, []),
  (39, .iadd, 1, []),
  (40, .putfield 79, 3, [1, 3, 288, 0]),
  (43, .aload_n 0, 1, []),
  (44, .areturn, 1, [])]
def xcJ5_appendNull_278bc : List xE := [(0, .aload_n 0, 1, []),
  (1, .aload_n 0, 1, []),
  (2, .getfield 79, 3, [1, 3, 288, 0]),
  (5, .iconst 4, 1, []),
  (6, .iadd, 1, []),
  (7, .invokevirtual 100, 3, [3, 120, 2, 1130, 0, 1486, 5001, 120]),
  (10, .aload_n 0, 1, []),
  (11, .getfield 79, 3, [1, 3, 288, 0]),
  (14, .istore_n 1, 1, []),
  (15, .aload_n 0, 1, []),
  (16, .getfield 15, 3, [1, 0, 284, 0]),
  (19, .astore_n 2, 1, []),
  (20, .aload_n 0, 1, []),
  (21, .invokevirtual 83, 3, [3, 130, 1, 1161, 0, 1163, 1164, 130]),
  (24, .ifCond .eq 38, 3, []),
  (27, .aload_n 2, 1, []),
  (28, .iload_n 1, 1, []),
  (29, .iinc 1 1, 3, []),
  (32, .bipush 110, 2, []),
  (34, .bastore, 1, []),
  (35, .aload_n 2, 1, []),
  (36, .iload_n 1, 1, []),
  (37, .iinc 1 1, 3, []),
  (40, .bipush 117, 2, []),
  (42, .bastore, 1, []),
  (43, .aload_n 2, 1, []),
  (44, .iload_n 1, 1, []),
  (45, .iinc 1 1, 3, []),
  (48, .bipush 108, 2, []),
  (50, .bastore, 1, []),
  (51, .aload_n 2, 1, []),
  (52, .iload_n 1, 1, []),
  (53, .iinc 1 1, 3, []),
  (56, .bipush 108, 2, []),
  (58, .bastore, 1, []),
  (59, .goto 17, 3, []),
  (62, .aload_n 2, 1, []),
  (63, .iload_n 1, 1, []),
  (64, .bipush 110, 2, []),
  (66, .bipush 117, 2, []),
  (68, .bipush 108, 2, []),
  (70, .bipush 108, 2, []),
  (72, .invokestatic 226, 3, [1, 178, 6, 1166]),
  (75, .istore_n 1, 1, []),
  (76, .aload_n 0, 1, []),
  (77, .iload_n 1, 1, []),
  (78, .putfield 79, 3, [1, 3, 288, 0]),
  (81, .aload_n 0, 1, []),
  (82, .areturn, 1, [])]
def xcJ5_append_3fe6f : List xE := [(0, .aload_n 0, 1, []),
  (1, .aload_n 0, 1, []),
  (2, .getfield 79, 3, [1, 3, 288, 0]),
  (5, .iconst 1, 1, []),
  (6, .iadd, 1, []),
  (7, .invokevirtual 100, 3, [3, 120, 2, 1130, 0, 1486, 5001, 120]),
  (10, .aload_n 0, 1, []),
  (11, .invokevirtual 83, 3, [3, 130, 1, 1161, 0, 1163, 1164, 130]),
  (14, .ifCond .eq 31, 3, []),
  (17, .iload_n 1, 1, []),
  (18, .invokestatic 191, 3, [1, 164, 1, 1346]),
  (21, .ifCond .eq 24, 3, []),
  (24, .aload_n 0, 1, []),
  (25, .getfield 15, 3, [1, 0, 284, 0]),
  (28, .aload_n 0, 1, []),
  (29, .dup, 1, []),
  (30, .getfield 79, 3, [1, 3, 288, 0]),
  (33, .dup_x1, 1, []),
  (34, .iconst 1, 1, []),
  (35, .iadd, 1, []),
  (36, .putfield 79, 3, [1, 3, 288, 0]),
  (39, .iload_n 1, 1, []),
  (40, .i2b, 1, []),
  (41, .bastore, 1, []),
  (42, .goto 33, 3, []),
  (45, .aload_n 0, 1, []),
  (46, .invokevirtual 83, 3, [3, 130, 1, 1161, 0, 1163, 1164, 130]),
  (49, .ifCond .eq 7, 3, []),
  (52, .aload_n 0, 1, []),
  (53, .invokevirtual 195, 3, [3, 122, 1, 1191, 0, 1490, 5004, 122]),
  (56, .aload_n 0, 1, []),
  (57, .getfield 15, 3, [1, 0, 284, 0]),
  (60, .aload_n 0, 1, []),
  (61, .dup, 1, []),
  (62, .getfield 79, 3, [1, 3, 288, 0]),
  (65, .dup_x1, 1, []),
  (66, .iconst 1, 1, []),
  (67, .iadd, 1, []),
  (68, .putfield 79, 3, [1, 3, 288, 0]),
  (71, .iload_n 1, 1, []),
  (72, .invokestatic 197, 3, [1, 176, 3, 1349]),
  (75, .aload_n 0, 1, []),
  (76, .areturn, 1, [])]
def xcJ5_append_c97b9 : List xE := [(0, .aload_n 0, 1, []),
  (1, .getfield 79, 3, [1, 3, 288, 0]),
  (4, .istore_n 2, 1, []),
  (5, .iload_n 2, 1, []),
  (6, .iload_n 1, 1, []),
  (7, .invokestatic 245, 3, [1, 141, 1, 1223]),
  (10, .iadd, 1, []),
  (11, .istore_n 3, 1, []),
  (12, .aload_n 0, 1, []),
  (13, .iload_n 3, 1, []),
  (14, .invokevirtual 100, 3, [3, 120, 2, 1130, 0, 1486, 5001, 120]),
  (17, .aload_n 0, 1, []),
  (18, .invokevirtual 83, 3, [3, 130, 1, 1161, 0, 1163, 1164, 130]),
  (21, .ifCond .eq 16, 3, []),
  (24, .iload_n 1, 1, []),
  (25, .iload_n 3, 1, []),
  (26, .aload_n 0, 1, []),
  (27, .getfield 15, 3, [1, 0, 284, 0]),
  (30, .invokestatic 248, 3, [1, 140, 3, 1226]),
  (33, .pop, 1, []),
  (34, .goto 14, 3, []),
  (37, .iload_n 1, 1, []),
  (38, .iload_n 2, 1, []),
  (39, .iload_n 3, 1, []),
  (40, .aload_n 0, 1, []),
  (41, .getfield 15, 3, [1, 0, 284, 0]),
  (44, .invokestatic 251, 3, [1, 177, 4, 1233]),
  (47, .pop, 1, []),
  (48, .aload_n 0, 1, []),
  (49, .iload_n 3, 1, []),
  (50, .putfield 79, 3, [1, 3, 288, 0]),
  (53, .aload_n 0, 1, []),
  (54, .areturn, 1, [])]
def xcJ5_getValue_6d5f1 : List xE := [(0, .aload_n 0, 1, []),
  (1, .getfield 15, 3, [1, 0, 284, 0]),
  (4, .areturn, 1, [])]
def xcJ5_isLatin1_aae02 : List xE := [(0, .getstatic 18, 3, [0, 275, 0]),
  (3, .ifCond .eq 14, 3, []),
  (6, .aload_n 0, 1, []),
  (7, .getfield 22, 3, [1, 1, 285, 0]),
  (10, .ifCond .ne 7, 3, []),
  (13, .iconst 1, 1, []),
  (14, .goto 4, 3, []),
  (17, .iconst 0, 1, []),
  (18, .ireturn, 1, [])]
def xcJ5_inflateIfNeededFor_a7421 : List xE := [(0, .getstatic 18, 3, [0, 275, 0]),
  (3, .ifCond .eq 18, 3, []),
  (6, .aload_n 0, 1, []),
  (7, .getfield 22, 3, [1, 1, 285, 0]),
  (10, .aload_n 1, 1, []),
  (11, .invokevirtual 40, 3, [0, 149, 1, 1190, 0]),
  (14, .if_icmp .eq 7, 3, []),
  (17, .aload_n 0, 1, []),
  (18, .invokevirtual 195, 3, [3, 122, 1, 1191, 0, 1490, 5004, 122]),
  (21, .return_, 1, [])]
def xcJ5_putStringAt_47b60 : List xE := [(0, .aload_n 0, 1, []),
  (1, .aload_n 2, 1, []),
  (2, .invokevirtual 397, 3, [3, 131, 2, 1186, 0, 1489, 5005, 131]),
  (5, .aload_n 2, 1, []),
  (6, .aload_n 0, 1, []),
  (7, .getfield 15, 3, [1, 0, 284, 0]),
  (10, .iload_n 1, 1, []),
  (11, .aload_n 0, 1, []),
  (12, .getfield 22, 3, [1, 1, 285, 0]),
  (15, .invokevirtual 399, 3, [0, 147, 4, 1210, 0]),
  (18, .return_, 1, [])]
def xcJx00060_init_a7421 : List xE := [(0, .aload_n 0, 1, []),
  (1, .aload_n 1, 1, []),
  (2, .invokespecial 7, 3, [99, 99999, 0]),
  (5, .return_, 1, [])]
def xcJx00060_init_d00df : List xE := [(0, .aload_n 0, 1, []),
  (1, .new 10, 3, [0, 1, 1328, 267, 27]),
  (4, .dup, 1, []),
  (5, .invokespecial 12, 3, [2, 154, 1, 1329]),
  (8, .ldc 13, 2, [1, 30, 1330]),
  (10, .invokevirtual 15, 3, [0, 155, 2, 1331, 1]),
  (13, .iload_n 1, 1, []),
  (14, .invokevirtual 19, 3, [0, 157, 2, 1332, 1]),
  (17, .invokevirtual 22, 3, [0, 158, 1, 1333, 1]),
  (20, .invokespecial 7, 3, [99, 99999, 0]),
  (23, .return_, 1, [])]
def xcJxe99ae_isNaN_b9ae7 : List xE := [(0, .dload_n 0, 1, []),
  (1, .dload_n 0, 1, []),
  (2, .dcmp .l, 1, []),
  (3, .ifCond .eq 7, 3, []),
  (6, .iconst 1, 1, []),
  (7, .goto 4, 3, []),
  (10, .iconst 0, 1, []),
  (11, .ireturn, 1, [])]
def xcJxe99ae_doubleToLongBits_ccdee : List xE := [(0, .dload_n 0, 1, []),
  (1, .invokestatic 122, 3, [1, 135, 1, 982]),
  (4, .ifCond .ne 8, 3, []),
  (7, .dload_n 0, 1, []),
  (8, .invokestatic 134, 3, [10, 985]),
  (11, .lreturn, 1, []),
  (12, .ldc2_w 137, 3, [0, 9221120237041090560, 988]),
  (15, .lreturn, 1, [])]
def xcJx29ce0_ordinal_8abf5 : List xE := [(0, .aload_n 0, 1, []),
  (1, .getfield 7, 3, [45, 2, 1519, 0]),
  (4, .ireturn, 1, [])]
def xcJxf58ca_isNaN_12338 : List xE := [(0, .fload_n 0, 1, []),
  (1, .fload_n 0, 1, []),
  (2, .fcmp .l, 1, []),
  (3, .ifCond .eq 7, 3, []),
  (6, .iconst 1, 1, []),
  (7, .goto 4, 3, []),
  (10, .iconst 0, 1, []),
  (11, .ireturn, 1, [])]
def xcJxf58ca_floatToIntBits_5c35a : List xE := [(0, .fload_n 0, 1, []),
  (1, .invokestatic 59, 3, [1, 138, 1, 1004]),
  (4, .ifCond .ne 8, 3, []),
  (7, .fload_n 0, 1, []),
  (8, .invokestatic 74, 3, [11, 1007]),
  (11, .ireturn, 1, []),
  (12, .ldc 77, 2, [0, 2143289344, 1010]),
  (14, .ireturn, 1, [])]
def xcJ6_getChars_ba4f3 : List xE := [(0, .iload_n 1, 1, []),
  (1, .istore 5, 2, []),
  (3, .iload_n 0, 1, []),
  (4, .ifCond .ge 7, 3, []),
  (7, .iconst 1, 1, []),
  (8, .goto 4, 3, []),
  (11, .iconst 0, 1, []),
  (12, .istore 6, 2, []),
  (14, .iload 6, 2, []),
  (16, .ifCond .ne 6, 3, []),
  (19, .iload_n 0, 1, []),
  (20, .ineg, 1, []),
  (21, .istore_n 0, 1, []),
  (22, .iload_n 0, 1, []),
  (23, .bipush (-100), 2, []),
  (25, .if_icmp .gt 47, 3, []),
  (28, .iload_n 0, 1, []),
  (29, .bipush 100, 2, []),
  (31, .idiv, 1, []),
  (32, .istore_n 3, 1, []),
  (33, .iload_n 3, 1, []),
  (34, .bipush 100, 2, []),
  (36, .imul, 1, []),
  (37, .iload_n 0, 1, []),
  (38, .isub, 1, []),
  (39, .istore 4, 2, []),
  (41, .iload_n 3, 1, []),
  (42, .istore_n 0, 1, []),
  (43, .aload_n 2, 1, []),
  (44, .iinc 5 (-1), 3, []),
  (47, .iload 5, 2, []),
  (49, .getstatic 83, 3, [4, 1229, 0]),
  (52, .iload 4, 2, []),
  (54, .baload, 1, []),
  (55, .bastore, 1, []),
  (56, .aload_n 2, 1, []),
  (57, .iinc 5 (-1), 3, []),
  (60, .iload 5, 2, []),
  (62, .getstatic 87, 3, [5, 1231, 0]),
  (65, .iload 4, 2, []),
  (67, .baload, 1, []),
  (68, .bastore, 1, []),
  (69, .goto (-47), 3, []),
  (72, .aload_n 2, 1, []),
  (73, .iinc 5 (-1), 3, []),
  (76, .iload 5, 2, []),
  (78, .getstatic 83, 3, [4, 1229, 0]),
  (81, .iload_n 0, 1, []),
  (82, .ineg, 1, []),
  (83, .baload, 1, []),
  (84, .bastore, 1, []),
  (85, .iload_n 0, 1, []),
  (86, .bipush (-9), 2, []),
  (88, .if_icmp .ge 16, 3, []),
  (91, .aload_n 2, 1, []),
  (92, .iinc 5 (-1), 3, []),
  (95, .iload 5, 2, []),
  (97, .getstatic 87, 3, [5, 1231, 0]),
  (100, .iload_n 0, 1, []),
  (101, .ineg, 1, []),
  (102, .baload, 1, []),
  (103, .bastore, 1, []),
  (104, .iload 6, 2, []),
  (106, .ifCond .eq 12, 3, []),
  (109, .aload_n 2, 1, []),
  (110, .iinc 5 (-1), 3, []),
  (113, .iload 5, 2, []),
  (115, .bipush 45, 2, []),
  (117, .bastore, 1, []),
  (118, .iload 5, 2, []),
  (120, .ireturn, 1, [])]
def xcJ6_stringSize_0f7a4 : List xE := [(0, .iconst 1, 1, []),
  (1, .istore_n 1, 1, []),
  (2, .iload_n 0, 1, []),
  (3, .ifCond .lt 8, 3, []),
  (6, .iconst 0, 1, []),
  (7, .istore_n 1, 1, []),
  (8, .iload_n 0, 1, []),
  (9, .ineg, 1, []),
  (10, .istore_n 0, 1, []),
  (11, .bipush (-10), 2, []),
  (13, .istore_n 2, 1, []),
  (14, .iconst 1, 1, []),
  (15, .istore_n 3, 1, []),
  (16, .iload_n 3, 1, []),
  (17, .bipush 10, 2, []),
  (19, .if_icmp .ge 23, 3, []),
  (22, .iload_n 0, 1, []),
  (23, .iload_n 2, 1, []),
  (24, .if_icmp .le 7, 3, []),
  (27, .iload_n 3, 1, []),
  (28, .iload_n 1, 1, []),
  (29, .iadd, 1, []),
  (30, .ireturn, 1, []),
  (31, .bipush 10, 2, []),
  (33, .iload_n 2, 1, []),
  (34, .imul, 1, []),
  (35, .istore_n 2, 1, []),
  (36, .iinc 3 1, 3, []),
  (39, .goto (-23), 3, []),
  (42, .bipush 10, 2, []),
  (44, .iload_n 1, 1, []),
  (45, .iadd, 1, []),
  (46, .ireturn, 1, [])]
def xcJ9_max_7cf53 : List xE := [(0, .iload_n 0, 1, []),
  (1, .iload_n 1, 1, []),
  (2, .if_icmp .lt 7, 3, []),
  (5, .iload_n 0, 1, []),
  (6, .goto 4, 3, []),
  (9, .iload_n 1, 1, []),
  (10, .ireturn, 1, [])]
def xcJ9_min_7cf53 : List xE := [(0, .iload_n 0, 1, []),
  (1, .iload_n 1, 1, []),
  (2, .if_icmp .gt 7, 3, []),
  (5, .iload_n 0, 1, []),
  (6, .goto 4, 3, []),
  (9, .iload_n 1, 1, []),
  (10, .ireturn, 1, [])]
def xcJ0_init_81219 : List xE := [(0, .aload_n 0, 1, []),
  (1, .aload_n 1, 1, []),
  (2, .aconst_null, 1, []),
  (3, .invokespecial 489, 3, [2, 148, 3, 1249]),
  (6, .return_, 1, [])]
def xcJ0_length_8abf5 : List xE := [(0, .aload_n 0, 1, []),
  (1, .getfield 9, 3, [0, 0, 1297, 1]),
  (4, .arraylength, 1, []),
  (5, .aload_n 0, 1, []),
  (6, .invokevirtual 335, 3, [0, 149, 1, 712, 0]),
  (9, .ishr, 1, []),
  (10, .ireturn, 1, [])]
def xcJ0_charAt_5068e : List xE := [(0, .aload_n 0, 1, []),
  (1, .invokevirtual 492, 3, [0, 150, 1, 725, 0]),
  (4, .ifCond .eq 12, 3, []),
  (7, .aload_n 0, 1, []),
  (8, .getfield 9, 3, [0, 0, 1297, 1]),
  (11, .iload_n 1, 1, []),
  (12, .invokestatic 495, 3, [1, 163, 2, 729]),
  (15, .ireturn, 1, []),
  (16, .aload_n 0, 1, []),
  (17, .getfield 9, 3, [0, 0, 1297, 1]),
  (20, .iload_n 1, 1, []),
  (21, .invokestatic 498, 3, [1, 179, 2, 740]),
  (24, .ireturn, 1, [])]
def xcJ0_getBytes_840e7 : List xE := [(0, .aload_n 0, 1, []),
  (1, .invokevirtual 335, 3, [0, 149, 1, 712, 0]),
  (4, .iload_n 3, 1, []),
  (5, .if_icmp .ne 23, 3, []),
  (8, .aload_n 0, 1, []),
  (9, .getfield 9, 3, [0, 0, 1297, 1]),
  (12, .iconst 0, 1, []),
  (13, .aload_n 1, 1, []),
  (14, .iload_n 2, 1, []),
  (15, .iload_n 3, 1, []),
  (16, .ishl, 1, []),
  (17, .aload_n 0, 1, []),
  (18, .getfield 9, 3, [0, 0, 1297, 1]),
  (21, .arraylength, 1, []),
  (22, .invokestatic 212, 3, [8, 1214]),
  (25, .goto 18, 3, []),
  (28, .aload_n 0, 1, []),
  (29, .getfield 9, 3, [0, 0, 1297, 1]),
  (32, .iconst 0, 1, []),
  (33, .aload_n 1, 1, []),
  (34, .iload_n 2, 1, []),
  (35, .aload_n 0, 1, []),
  (36, .getfield 9, 3, [0, 0, 1297, 1]),
  (39, .arraylength, 1, []),
  (40, .invokestatic 106, 3, [1, 166, 5, 1215]),
  (43, .return_, 1, [])]
def xcJ0_init_db425 : List xE := [(0, .aload_n 0, 1, []),
  (1, .invokespecial 1, 3, [7, 1252]),
  (4, .aload_n 1, 1, []),
  (5, .invokevirtual 552, 3, [3, 129, 1, 1253, 0, 1255, 1256, 129]),
  (8, .astore_n 3, 1, []),
  (9, .aload_n 1, 1, []),
  (10, .invokevirtual 549, 3, [3, 161, 1, 1258, 0, 1260, 1261, 119]),
  (13, .istore 4, 2, []),
  (15, .aload_n 1, 1, []),
  (16, .invokevirtual 1047, 3, [3, 130, 1, 1266, 0, 1163, 1164, 130]),
  (19, .ifCond .eq 22, 3, []),
  (22, .aload_n 0, 1, []),
  (23, .iconst 0, 1, []),
  (24, .putfield 15, 3, [0, 1, 1298, 1]),
  (27, .aload_n 0, 1, []),
  (28, .aload_n 3, 1, []),
  (29, .iconst 0, 1, []),
  (30, .iload 4, 2, []),
  (32, .invokestatic 54, 3, [1, 189, 3, 1267]),
  (35, .putfield 9, 3, [0, 0, 1297, 1]),
  (38, .goto 59, 3, []),
  (41, .getstatic 38, 3, [0, 716, 0]),
  (44, .ifCond .eq 35, 3, []),
  (47, .aload_n 1, 1, []),
  (48, .getfield 1048, 3, [1, 2, 287, 0]),
  (51, .ifCond .eq 28, 3, []),
  (54, .aload_n 0, 1, []),
  (55, .aload_n 3, 1, []),
  (56, .iconst 0, 1, []),
  (57, .iload 4, 2, []),
  (59, .invokestatic 1051, 3, [1, 173, 3, 1287]),
  (62, .putfield 9, 3, [0, 0, 1297, 1]),
  (65, .aload_n 0, 1, []),
  (66, .aload_n 0, 1, []),
  (67, .getfield 9, 3, [0, 0, 1297, 1]),
  (70, .iload 4, 2, []),
  (72, .invokestatic 47, 3, [1, 172, 2, 1294]),
  (75, .putfield 15, 3, [0, 1, 1298, 1]),
  (78, .return_, 1, []),
  (79, .aload_n 0, 1, []),
  (80, .iconst 1, 1, []),
  (81, .putfield 15, 3, [0, 1, 1298, 1]),
  (84, .aload_n 0, 1, []),
  (85, .aload_n 3, 1, []),
  (86, .iconst 0, 1, []),
  (87, .iload 4, 2, []),
  (89, .iconst 1, 1, []),
  (90, .ishl, 1, []),
  (91, .invokestatic 54, 3, [1, 189, 3, 1267]),
  (94, .putfield 9, 3, [0, 0, 1297, 1]),
  (97, .return_, 1, [])]
def xcJ0_coder_7d493 : List xE := [(0, .getstatic 38, 3, [0, 716, 0]),
  (3, .ifCond .eq 10, 3, []),
  (6, .aload_n 0, 1, []),
  (7, .getfield 15, 3, [0, 1, 1298, 1]),
  (10, .goto 4, 3, []),
  (13, .iconst 1, 1, []),
  (14, .ireturn, 1, [])]
def xcJ0_isLatin1_aae02 : List xE := [(0, .getstatic 38, 3, [0, 716, 0]),
  (3, .ifCond .eq 14, 3, []),
  (6, .aload_n 0, 1, []),
  (7, .getfield 15, 3, [0, 1, 1298, 1]),
  (10, .ifCond .ne 7, 3, []),
  (13, .iconst 1, 1, []),
  (14, .goto 4, 3, []),
  (17, .iconst 0, 1, []),
  (18, .ireturn, 1, [])]
def xcJ0_checkIndex_df160 : List xE := [(0, .iload_n 0, 1, []),
  (1, .iload_n 1, 1, []),
  (2, .getstatic 1053, 3, [6, 735, 0]),
  (5, .invokestatic 1059, 3, [1, 193, 3, 737]),
  (8, .pop, 1, []),
  (9, .return_, 1, [])]
def xcJ0_checkBoundsOffCount_cabcc : List xE := [(0, .iload_n 0, 1, []),
  (1, .iload_n 1, 1, []),
  (2, .iload_n 2, 1, []),
  (3, .getstatic 1053, 3, [6, 735, 0]),
  (6, .invokestatic 1065, 3, [1, 195, 4, 1207]),
  (9, .ireturn, 1, [])]
def xcJ0_checkBoundsBeginEnd_23922 : List xE := [(0, .iload_n 0, 1, []),
  (1, .iload_n 1, 1, []),
  (2, .iload_n 2, 1, []),
  (3, .getstatic 1053, 3, [6, 735, 0]),
  (6, .invokestatic 1062, 3, [1, 194, 4, 1175]),
  (9, .pop, 1, []),
  (10, .return_, 1, [])]
def xcJ4_init_da8c8 : List xE := [(0, .aload_n 0, 1, []),
  (1, .bipush 16, 2, []),
  (3, .invokespecial 1, 3, [2, 118, 2, 271]),
  (6, .return_, 1, [])]
def xcJ4_append_15ec4 : List xE := [(0, .aload_n 0, 1, []),
  (1, .aload_n 1, 1, []),
  (2, .invokespecial 29, 3, [4, 125, 2, 1123, 1484, 297]),
  (5, .pop, 1, []),
  (6, .aload_n 0, 1, []),
  (7, .areturn, 1, [])]
def xcJ4_append_cf468 : List xE := [(0, .aload_n 0, 1, []),
  (1, .iload_n 1, 1, []),
  (2, .invokespecial 50, 3, [4, 127, 2, 1343, 1492, 297]),
  (5, .pop, 1, []),
  (6, .aload_n 0, 1, []),
  (7, .areturn, 1, [])]
def xcJ4_append_bf812 : List xE := [(0, .aload_n 0, 1, []),
  (1, .iload_n 1, 1, []),
  (2, .invokespecial 53, 3, [4, 128, 2, 1220, 1491, 297]),
  (5, .pop, 1, []),
  (6, .aload_n 0, 1, []),
  (7, .areturn, 1, [])]
def xcJ4_toString_0e30d : List xE := [(0, .new 18, 3, [0, 0, 1245, 563, 28]),
  (3, .dup, 1, []),
  (4, .aload_n 0, 1, []),
  (5, .invokespecial 137, 3, [2, 144, 2, 1246]),
  (8, .areturn, 1, [])]
def xcJ4_charAt_5068e : List xE := [(0, .aload_n 0, 1, []),
  (1, .iload_n 1, 1, []),
  (2, .invokespecial 329, 3, [4, 124, 2, 1365, 1494, 297]),
  (5, .ireturn, 1, [])]
def xcJ4_setLength_d00df : List xE := [(0, .aload_n 0, 1, []),
  (1, .iload_n 1, 1, []),
  (2, .invokespecial 333, 3, [4, 123, 2, 1108, 1483, 297]),
  (5, .return_, 1, [])]
def xcJ4_length_8abf5 : List xE := [(0, .aload_n 0, 1, []),
  (1, .invokespecial 343, 3, [4, 119, 1, 1264, 1260, 297]),
  (4, .ireturn, 1, [])]
def xcJx7c733_init_d00df : List xE := [(0, .aload_n 0, 1, []),
  (1, .new 10, 3, [0, 1, 1116, 267, 27]),
  (4, .dup, 1, []),
  (5, .invokespecial 12, 3, [2, 154, 1, 1117]),
  (8, .ldc 13, 2, [1, 20, 1118]),
  (10, .invokevirtual 15, 3, [0, 155, 2, 1119, 1]),
  (13, .iload_n 1, 1, []),
  (14, .invokevirtual 19, 3, [0, 157, 2, 1216, 1]),
  (17, .invokevirtual 22, 3, [0, 158, 1, 1241, 1]),
  (20, .invokespecial 7, 3, [99, 99999, 0]),
  (23, .return_, 1, [])]
def xcJ1_charAt_3b067 : List xE := [(0, .iload_n 1, 1, []),
  (1, .aload_n 0, 1, []),
  (2, .arraylength, 1, []),
  (3, .invokestatic 9, 3, [1, 151, 2, 732]),
  (6, .aload_n 0, 1, []),
  (7, .iload_n 1, 1, []),
  (8, .baload, 1, []),
  (9, .sipush 255, 3, []),
  (12, .iand, 1, []),
  (13, .i2c, 1, []),
  (14, .ireturn, 1, [])]
def xcJ1_canEncode_fc78d : List xE := [(0, .iload_n 0, 1, []),
  (1, .sipush 255, 3, []),
  (4, .if_icmp .gt 7, 3, []),
  (7, .iconst 1, 1, []),
  (8, .goto 4, 3, []),
  (11, .iconst 0, 1, []),
  (12, .ireturn, 1, [])]
def xcJ1_fillNull_b72d1 : List xE := [(0, .aload_n 0, 1, []),
  (1, .iload_n 1, 1, []),
  (2, .iload_n 2, 1, []),
  (3, .iconst 0, 1, []),
  (4, .invokestatic 236, 3, [1, 186, 4, 1315]),
  (7, .return_, 1, [])]
def xcJ1_inflate_0e8fd : List xE := [(0, .aload_n 0, 1, []),
  (1, .iload_n 1, 1, []),
  (2, .aload_n 2, 1, []),
  (3, .iload_n 3, 1, []),
  (4, .iload 4, 2, []),
  (6, .invokestatic 240, 3, [1, 180, 5, 1198]),
  (9, .return_, 1, [])]
def xcJ2_newBytesFor_77867 : List xE := [(0, .iload_n 0, 1, []),
  (1, .invokestatic 11, 3, [1, 168, 1, 280]),
  (4, .newarray .byte, 2, []),
  (6, .areturn, 1, [])]
def xcJ2_newBytesLength_0f7a4 : List xE := [(0, .iload_n 0, 1, []),
  (1, .ifCond .ge 11, 3, []),
  (4, .new 17, 3, []),
  (7, .dup, 1, []),
  (8, .invokespecial 19, 3, [99, 99999, 0]),
  (11, .athrow, 1, []),
  (12, .iload_n 0, 1, []),
  (13, .ldc 20, 2, [0, 1073741823, 283]),
  (15, .if_icmp .lt 40, 3, []),
  (18, .new 21, 3, []),
  (21, .dup, 1, []),
  (22, .new 23, 3, []),
  (25, .dup, 1, []),
  (26, .invokespecial 25, 3, [99, 99999, 0]),
  (29, .ldc 26, 2, []),
  (31, .invokevirtual 28, 3, [99, 99999, 0]),
  (34, .iload_n 0, 1, []),
  (35, .invokevirtual 32, 3, [99, 99999, 0]),
  (38, .ldc 35, 2, []),
  (40, .invokevirtual 28, 3, [99, 99999, 0]),
  (43, .ldc 20, 2, [0, 1073741823, 283]),
  (45, .invokevirtual 32, 3, [99, 99999, 0]),
  (48, .invokevirtual 37, 3, [99, 99999, 0]),
  (51, .invokespecial 41, 3, [99, 99999, 0]),
  (54, .athrow, 1, []),
  (55, .iload_n 0, 1, []),
  (56, .iconst 1, 1, []),
  (57, .ishl, 1, []),
  (58, .ireturn, 1, [])]
def xcJ2_putChar_b72d1 : List xE := [(0, .getstatic 44, 3, [7, 753, 0]),
  (3, .ifCond .ne 25, 3, []),
  (6, .iload_n 1, 1, []),
  (7, .ifCond .lt 11, 3, []),
  (10, .iload_n 1, 1, []),
  (11, .aload_n 0, 1, []),
  (12, .invokestatic 48, 3, [1, 171, 1, 746]),
  (15, .if_icmp .lt 13, 3, []),
  (18, .new 52, 3, []),
  (21, .dup, 1, []),
  (22, .ldc 54, 2, []),
  (24, .invokespecial 56, 3, [99, 99999, 0]),
  (27, .athrow, 1, []),
  (28, .iload_n 1, 1, []),
  (29, .iconst 1, 1, []),
  (30, .ishl, 1, []),
  (31, .istore_n 1, 1, []),
  (32, .aload_n 0, 1, []),
  (33, .iload_n 1, 1, []),
  (34, .iinc 1 1, 3, []),
  (37, .iload_n 2, 1, []),
  (38, .getstatic 59, 3, [8, 755, 0]),
  (41, .ishr, 1, []),
  (42, .i2b, 1, []),
  (43, .bastore, 1, []),
  (44, .aload_n 0, 1, []),
  (45, .iload_n 1, 1, []),
  (46, .iload_n 2, 1, []),
  (47, .getstatic 63, 3, [9, 757, 0]),
  (50, .ishr, 1, []),
  (51, .i2b, 1, []),
  (52, .bastore, 1, []),
  (53, .return_, 1, [])]
def xcJ2_getChar_3b067 : List xE := [(0, .getstatic 44, 3, [7, 753, 0]),
  (3, .ifCond .ne 25, 3, []),
  (6, .iload_n 1, 1, []),
  (7, .ifCond .lt 11, 3, []),
  (10, .iload_n 1, 1, []),
  (11, .aload_n 0, 1, []),
  (12, .invokestatic 48, 3, [1, 171, 1, 746]),
  (15, .if_icmp .lt 13, 3, []),
  (18, .new 52, 3, []),
  (21, .dup, 1, []),
  (22, .ldc 54, 2, []),
  (24, .invokespecial 56, 3, [99, 99999, 0]),
  (27, .athrow, 1, []),
  (28, .iload_n 1, 1, []),
  (29, .iconst 1, 1, []),
  (30, .ishl, 1, []),
  (31, .istore_n 1, 1, []),
  (32, .aload_n 0, 1, []),
  (33, .iload_n 1, 1, []),
  (34, .iinc 1 1, 3, []),
  (37, .baload, 1, []),
  (38, .sipush 255, 3, []),
  (41, .iand, 1, []),
  (42, .getstatic 59, 3, [8, 755, 0]),
  (45, .ishl, 1, []),
  (46, .aload_n 0, 1, []),
  (47, .iload_n 1, 1, []),
  (48, .baload, 1, []),
  (49, .sipush 255, 3, []),
  (52, .iand, 1, []),
  (53, .getstatic 63, 3, [9, 757, 0]),
  (56, .ishl, 1, []),
  (57, .ior, 1, []),
  (58, .i2c, 1, []),
  (59, .ireturn, 1, [])]
def xcJ2_length_9d52b : List xE := [(0, .aload_n 0, 1, []),
  (1, .arraylength, 1, []),
  (2, .iconst 1, 1, []),
  (3, .ishr, 1, []),
  (4, .ireturn, 1, [])]
def xcJ2_coderFromArrayLen_85cad : List xE := [(0, .iload_n 1, 1, []),
  (1, .aload_n 0, 1, []),
  (2, .arraylength, 1, []),
  (3, .isub, 1, []),
  (4, .bipush 31, 2, []),
  (6, .iushr, 1, []),
  (7, .i2b, 1, []),
  (8, .ireturn, 1, [])]
def xcJ2_compress_39247 : List xE := [(0, .iload_n 2, 1, []),
  (1, .newarray .byte, 2, []),
  (3, .astore_n 3, 1, []),
  (4, .aload_n 0, 1, []),
  (5, .iload_n 1, 1, []),
  (6, .aload_n 3, 1, []),
  (7, .iconst 0, 1, []),
  (8, .iload_n 2, 1, []),
  (9, .invokestatic 123, 3, [1, 174, 5, 1290]),
  (12, .istore 4, 2, []),
  (14, .iload 4, 2, []),
  (16, .iload_n 2, 1, []),
  (17, .if_icmp .eq 47, 3, []),
  (20, .aload_n 0, 1, []),
  (21, .iload_n 1, 1, []),
  (22, .iconst 1, 1, []),
  (23, .ishl, 1, []),
  (24, .iload_n 1, 1, []),
  (25, .iload_n 2, 1, []),
  (26, .iadd, 1, []),
  (27, .invokestatic 11, 3, [1, 168, 1, 280]),
  (30, .invokestatic 126, 3, [1, 189, 3, 1293]),
  (33, .astore 5, 2, []),
  (35, .aload 5, 2, []),
  (37, .iload 4, 2, []),
  (39, .invokestatic 71, 3, [1, 170, 2, 750]),
  (42, .sipush 255, 3, []),
  (45, .if_icmp .gt 16, 3, []),
  (48, .aload 5, 2, []),
  (50, .iconst 0, 1, []),
  (51, .aload_n 3, 1, []),
  (52, .iconst 0, 1, []),
  (53, .iload_n 2, 1, []),
  (54, .invokestatic 123, 3, [1, 174, 5, 1290]),
  (57, .iload_n 2, 1, []),
  (58, .if_icmp .eq 6, 3, []),
  (61, .aload 5, 2, []),
  (63, .areturn, 1, []),
  (64, .aload_n 3, 1, []),
  (65, .areturn, 1, [])]
def xcJ2_compress_5af95 : List xE := [(0, .iload_n 1, 1, []),
  (1, .iload 4, 2, []),
  (3, .aload_n 0, 1, []),
  (4, .invokestatic 173, 3, [1, 184, 3, 1201]),
  (7, .iconst 0, 1, []),
  (8, .istore 5, 2, []),
  (10, .iload 5, 2, []),
  (12, .iload 4, 2, []),
  (14, .if_icmp .ge 39, 3, []),
  (17, .aload_n 0, 1, []),
  (18, .iload_n 1, 1, []),
  (19, .invokestatic 71, 3, [1, 170, 2, 750]),
  (22, .istore 6, 2, []),
  (24, .iload 6, 2, []),
  (26, .sipush 255, 3, []),
  (29, .if_icmp .le 6, 3, []),
  (32, .iload 5, 2, []),
  (34, .ireturn, 1, []),
  (35, .aload_n 2, 1, []),
  (36, .iload_n 3, 1, []),
  (37, .iload 6, 2, []),
  (39, .i2b, 1, []),
  (40, .bastore, 1, []),
  (41, .iinc 1 1, 3, []),
  (44, .iinc 3 1, 3, []),
  (47, .iinc 5 1, 3, []),
  (50, .goto (-40), 3, []),
  (53, .iload 4, 2, []),
  (55, .ireturn, 1, [])]
def xcJ2_fillNull_b72d1 : List xE := [(0, .aload_n 0, 1, []),
  (1, .iload_n 1, 1, []),
  (2, .iconst 1, 1, []),
  (3, .ishl, 1, []),
  (4, .iload_n 2, 1, []),
  (5, .iconst 1, 1, []),
  (6, .ishl, 1, []),
  (7, .iconst 0, 1, []),
  (8, .invokestatic 380, 3, [1, 186, 4, 1337]),
  (11, .return_, 1, [])]
def xcJ2_putCharSB_b72d1 : List xE := [(0, .iload_n 1, 1, []),
  (1, .aload_n 0, 1, []),
  (2, .invokestatic 67, 3, [1, 182, 2, 743]),
  (5, .aload_n 0, 1, []),
  (6, .iload_n 1, 1, []),
  (7, .iload_n 2, 1, []),
  (8, .invokestatic 111, 3, [1, 169, 3, 1178]),
  (11, .return_, 1, [])]
def xcJ2_getChars_46870 : List xE := [(0, .iload_n 1, 1, []),
  (1, .iload_n 2, 1, []),
  (2, .aload_n 3, 1, []),
  (3, .invokestatic 96, 3, [1, 183, 3, 1169]),
  (6, .iload_n 0, 1, []),
  (7, .iload_n 2, 1, []),
  (8, .aload_n 3, 1, []),
  (9, .invokestatic 393, 3, [1, 181, 3, 1236]),
  (12, .istore 4, 2, []),
  (14, .getstatic 44, 3, [7, 753, 0]),
  (17, .ifCond .ne 17, 3, []),
  (20, .iload_n 1, 1, []),
  (21, .iload 4, 2, []),
  (23, .if_icmp .eq 11, 3, []),
  (26, .new 52, 3, []),
  (29, .dup, 1, []),
  (30, .invokespecial 66, 3, [99, 99999, 0]),
  (33, .athrow, 1, []),
  (34, .iload 4, 2, []),
  (36, .ireturn, 1, [])]
def xcJ2_putCharsAt_cd4e5 : List xE := [(0, .iload_n 1, 1, []),
  (1, .iconst 4, 1, []),
  (2, .iadd, 1, []),
  (3, .istore 6, 2, []),
  (5, .iload_n 1, 1, []),
  (6, .iload 6, 2, []),
  (8, .aload_n 0, 1, []),
  (9, .invokestatic 96, 3, [1, 183, 3, 1169]),
  (12, .aload_n 0, 1, []),
  (13, .iload_n 1, 1, []),
  (14, .iinc 1 1, 3, []),
  (17, .iload_n 2, 1, []),
  (18, .invokestatic 111, 3, [1, 169, 3, 1178]),
  (21, .aload_n 0, 1, []),
  (22, .iload_n 1, 1, []),
  (23, .iinc 1 1, 3, []),
  (26, .iload_n 3, 1, []),
  (27, .invokestatic 111, 3, [1, 169, 3, 1178]),
  (30, .aload_n 0, 1, []),
  (31, .iload_n 1, 1, []),
  (32, .iinc 1 1, 3, []),
  (35, .iload 4, 2, []),
  (37, .invokestatic 111, 3, [1, 169, 3, 1178]),
  (40, .aload_n 0, 1, []),
  (41, .iload_n 1, 1, []),
  (42, .iinc 1 1, 3, []),
  (45, .iload 5, 2, []),
  (47, .invokestatic 111, 3, [1, 169, 3, 1178]),
  (50, .getstatic 44, 3, [7, 753, 0]),
  (53, .ifCond .ne 17, 3, []),
  (56, .iload_n 1, 1, []),
  (57, .iload 6, 2, []),
  (59, .if_icmp .eq 11, 3, []),
  (62, .new 52, 3, []),
  (65, .dup, 1, []),
  (66, .invokespecial 66, 3, [99, 99999, 0]),
  (69, .athrow, 1, []),
  (70, .iload 6, 2, []),
  (72, .ireturn, 1, [])]
def xcJ2_charAt_3b067 : List xE := [(0, .iload_n 1, 1, []),
  (1, .aload_n 0, 1, []),
  (2, .invokestatic 67, 3, [1, 182, 2, 743]),
  (5, .aload_n 0, 1, []),
  (6, .iload_n 1, 1, []),
  (7, .invokestatic 71, 3, [1, 170, 2, 750]),
  (10, .ireturn, 1, [])]
def xcJ2_inflate_0e8fd : List xE := [(0, .iload_n 3, 1, []),
  (1, .iload 4, 2, []),
  (3, .aload_n 2, 1, []),
  (4, .invokestatic 173, 3, [1, 184, 3, 1201]),
  (7, .iconst 0, 1, []),
  (8, .istore 5, 2, []),
  (10, .iload 5, 2, []),
  (12, .iload 4, 2, []),
  (14, .if_icmp .ge 27, 3, []),
  (17, .aload_n 2, 1, []),
  (18, .iload_n 3, 1, []),
  (19, .iinc 3 1, 3, []),
  (22, .aload_n 0, 1, []),
  (23, .iload_n 1, 1, []),
  (24, .iinc 1 1, 3, []),
  (27, .baload, 1, []),
  (28, .sipush 255, 3, []),
  (31, .iand, 1, []),
  (32, .invokestatic 111, 3, [1, 169, 3, 1178]),
  (35, .iinc 5 1, 3, []),
  (38, .goto (-28), 3, []),
  (41, .return_, 1, [])]
def xcJ2_getChars_ba4f3 : List xE := [(0, .iload_n 1, 1, []),
  (1, .istore 5, 2, []),
  (3, .iload_n 0, 1, []),
  (4, .ifCond .ge 7, 3, []),
  (7, .iconst 1, 1, []),
  (8, .goto 4, 3, []),
  (11, .iconst 0, 1, []),
  (12, .istore 6, 2, []),
  (14, .iload 6, 2, []),
  (16, .ifCond .ne 6, 3, []),
  (19, .iload_n 0, 1, []),
  (20, .ineg, 1, []),
  (21, .istore_n 0, 1, []),
  (22, .iload_n 0, 1, []),
  (23, .bipush (-100), 2, []),
  (25, .if_icmp .gt 51, 3, []),
  (28, .iload_n 0, 1, []),
  (29, .bipush 100, 2, []),
  (31, .idiv, 1, []),
  (32, .istore_n 3, 1, []),
  (33, .iload_n 3, 1, []),
  (34, .bipush 100, 2, []),
  (36, .imul, 1, []),
  (37, .iload_n 0, 1, []),
  (38, .isub, 1, []),
  (39, .istore 4, 2, []),
  (41, .iload_n 3, 1, []),
  (42, .istore_n 0, 1, []),
  (43, .aload_n 2, 1, []),
  (44, .iinc 5 (-1), 3, []),
  (47, .iload 5, 2, []),
  (49, .getstatic 403, 3, [4, 1239, 0]),
  (52, .iload 4, 2, []),
  (54, .baload, 1, []),
  (55, .invokestatic 111, 3, [1, 169, 3, 1178]),
  (58, .aload_n 2, 1, []),
  (59, .iinc 5 (-1), 3, []),
  (62, .iload 5, 2, []),
  (64, .getstatic 407, 3, [5, 1240, 0]),
  (67, .iload 4, 2, []),
  (69, .baload, 1, []),
  (70, .invokestatic 111, 3, [1, 169, 3, 1178]),
  (73, .goto (-51), 3, []),
  (76, .aload_n 2, 1, []),
  (77, .iinc 5 (-1), 3, []),
  (80, .iload 5, 2, []),
  (82, .getstatic 403, 3, [4, 1239, 0]),
  (85, .iload_n 0, 1, []),
  (86, .ineg, 1, []),
  (87, .baload, 1, []),
  (88, .invokestatic 111, 3, [1, 169, 3, 1178]),
  (91, .iload_n 0, 1, []),
  (92, .bipush (-9), 2, []),
  (94, .if_icmp .ge 18, 3, []),
  (97, .aload_n 2, 1, []),
  (98, .iinc 5 (-1), 3, []),
  (101, .iload 5, 2, []),
  (103, .getstatic 407, 3, [5, 1240, 0]),
  (106, .iload_n 0, 1, []),
  (107, .ineg, 1, []),
  (108, .baload, 1, []),
  (109, .invokestatic 111, 3, [1, 169, 3, 1178]),
  (112, .iload 6, 2, []),
  (114, .ifCond .eq 14, 3, []),
  (117, .aload_n 2, 1, []),
  (118, .iinc 5 (-1), 3, []),
  (121, .iload 5, 2, []),
  (123, .bipush 45, 2, []),
  (125, .invokestatic 111, 3, [1, 169, 3, 1178]),
  (128, .iload 5, 2, []),
  (130, .ireturn, 1, [])]
def xcJ2_checkIndex_2214a : List xE := [(0, .iload_n 0, 1, []),
  (1, .aload_n 1, 1, []),
  (2, .invokestatic 48, 3, [1, 171, 1, 746]),
  (5, .invokestatic 414, 3, [1, 151, 2, 749]),
  (8, .return_, 1, [])]
def xcJ2_checkBoundsBeginEnd_d044e : List xE := [(0, .iload_n 0, 1, []),
  (1, .iload_n 1, 1, []),
  (2, .aload_n 2, 1, []),
  (3, .invokestatic 48, 3, [1, 171, 1, 746]),
  (6, .invokestatic 241, 3, [1, 153, 3, 1172]),
  (9, .return_, 1, [])]
def xcJ2_checkBoundsOffCount_d044e : List xE := [(0, .iload_n 0, 1, []),
  (1, .iload_n 1, 1, []),
  (2, .aload_n 2, 1, []),
  (3, .invokestatic 48, 3, [1, 171, 1, 746]),
  (6, .invokestatic 419, 3, [1, 152, 3, 1204]),
  (9, .pop, 1, []),
  (10, .return_, 1, [])]
def xcJ7_rangeCheck_23922 : List xE := [(0, .iload_n 1, 1, []),
  (1, .iload_n 2, 1, []),
  (2, .if_icmp .le 44, 3, []),
  (5, .new 43, 3, []),
  (8, .dup, 1, []),
  (9, .new 45, 3, [0, 1, 1277, 267, 27]),
  (12, .dup, 1, []),
  (13, .invokespecial 47, 3, [2, 154, 1, 1278]),
  (16, .ldc 48, 2, [1, 24, 1321]),
  (18, .invokevirtual 50, 3, [0, 155, 2, 1281, 1]),
  (21, .iload_n 1, 1, []),
  (22, .invokevirtual 54, 3, [0, 157, 2, 1279, 1]),
  (25, .ldc 57, 2, [1, 26, 1322]),
  (27, .invokevirtual 50, 3, [0, 155, 2, 1281, 1]),
  (30, .iload_n 2, 1, []),
  (31, .invokevirtual 54, 3, [0, 157, 2, 1279, 1]),
  (34, .ldc 59, 2, [1, 28, 1323]),
  (36, .invokevirtual 50, 3, [0, 155, 2, 1281, 1]),
  (39, .invokevirtual 61, 3, [0, 158, 1, 1282, 1]),
  (42, .invokespecial 65, 3, [99, 99999, 0]),
  (45, .athrow, 1, []),
  (46, .iload_n 1, 1, []),
  (47, .ifCond .ge 12, 3, []),
  (50, .new 68, 3, []),
  (53, .dup, 1, []),
  (54, .iload_n 1, 1, []),
  (55, .invokespecial 70, 3, [2, 134, 2, 1325]),
  (58, .athrow, 1, []),
  (59, .iload_n 2, 1, []),
  (60, .iload_n 0, 1, []),
  (61, .if_icmp .le 12, 3, []),
  (64, .new 68, 3, []),
  (67, .dup, 1, []),
  (68, .iload_n 2, 1, []),
  (69, .invokespecial 70, 3, [2, 134, 2, 1325]),
  (72, .athrow, 1, []),
  (73, .return_, 1, [])]
def xcJ7_fill_eb02e : List xE := [(0, .aload_n 0, 1, []),
  (1, .arraylength, 1, []),
  (2, .iload_n 1, 1, []),
  (3, .iload_n 2, 1, []),
  (4, .invokestatic 13, 3, [1, 185, 3, 1318]),
  (7, .iload_n 1, 1, []),
  (8, .istore 4, 2, []),
  (10, .iload 4, 2, []),
  (12, .iload_n 2, 1, []),
  (13, .if_icmp .ge 14, 3, []),
  (16, .aload_n 0, 1, []),
  (17, .iload 4, 2, []),
  (19, .iload_n 3, 1, []),
  (20, .bastore, 1, []),
  (21, .iinc 4 1, 3, []),
  (24, .goto (-14), 3, []),
  (27, .return_, 1, [])]
def xcJ7_copyOf_9075b : List xE := [(0, .iload_n 1, 1, []),
  (1, .aload_n 0, 1, []),
  (2, .arraylength, 1, []),
  (3, .if_icmp .ne 11, 3, []),
  (6, .aload_n 0, 1, []),
  (7, .invokevirtual 310, 3, [9, 1150]),
  (10, .checkcast 311, 3, [1156]),
  (13, .areturn, 1, []),
  (14, .iload_n 1, 1, []),
  (15, .newarray .byte, 2, []),
  (17, .astore_n 2, 1, []),
  (18, .aload_n 0, 1, []),
  (19, .iconst 0, 1, []),
  (20, .aload_n 2, 1, []),
  (21, .iconst 0, 1, []),
  (22, .aload_n 0, 1, []),
  (23, .arraylength, 1, []),
  (24, .iload_n 1, 1, []),
  (25, .invokestatic 304, 3, [1, 143, 2, 1157]),
  (28, .invokestatic 150, 3, [8, 1158]),
  (31, .aload_n 2, 1, []),
  (32, .areturn, 1, [])]
def xcJ7_checkLength_df160 : List xE := [(0, .iload_n 1, 1, []),
  (1, .iload_n 0, 1, []),
  (2, .if_icmp .ge 35, 3, []),
  (5, .new 43, 3, []),
  (8, .dup, 1, []),
  (9, .new 45, 3, [0, 1, 1277, 267, 27]),
  (12, .dup, 1, []),
  (13, .invokespecial 47, 3, [2, 154, 1, 1278]),
  (16, .iload_n 0, 1, []),
  (17, .invokevirtual 54, 3, [0, 157, 2, 1279, 1]),
  (20, .ldc_w 337, 3, [1, 22, 1280]),
  (23, .invokevirtual 50, 3, [0, 155, 2, 1281, 1]),
  (26, .iload_n 1, 1, []),
  (27, .invokevirtual 54, 3, [0, 157, 2, 1279, 1]),
  (30, .invokevirtual 61, 3, [0, 158, 1, 1282, 1]),
  (33, .invokespecial 65, 3, [99, 99999, 0]),
  (36, .athrow, 1, []),
  (37, .return_, 1, [])]
def xcJ7_copyOfRange_39247 : List xE := [(0, .iload_n 1, 1, []),
  (1, .ifCond .ne 9, 3, []),
  (4, .iload_n 2, 1, []),
  (5, .aload_n 0, 1, []),
  (6, .arraylength, 1, []),
  (7, .if_icmp .eq 10, 3, []),
  (10, .aload_n 0, 1, []),
  (11, .iload_n 1, 1, []),
  (12, .iload_n 2, 1, []),
  (13, .invokestatic 339, 3, [1, 190, 3, 1270]),
  (16, .areturn, 1, []),
  (17, .aload_n 0, 1, []),
  (18, .invokevirtual 310, 3, [9, 1150]),
  (21, .checkcast 311, 3, [1156]),
  (24, .areturn, 1, [])]
def xcJ7_copyOfRangeByte_39247 : List xE := [(0, .iload_n 1, 1, []),
  (1, .iload_n 2, 1, []),
  (2, .invokestatic 343, 3, [1, 188, 2, 1273]),
  (5, .iload_n 2, 1, []),
  (6, .iload_n 1, 1, []),
  (7, .isub, 1, []),
  (8, .istore_n 3, 1, []),
  (9, .iload_n 3, 1, []),
  (10, .newarray .byte, 2, []),
  (12, .astore 4, 2, []),
  (14, .aload_n 0, 1, []),
  (15, .iload_n 1, 1, []),
  (16, .aload 4, 2, []),
  (18, .iconst 0, 1, []),
  (19, .aload_n 0, 1, []),
  (20, .arraylength, 1, []),
  (21, .iload_n 1, 1, []),
  (22, .isub, 1, []),
  (23, .iload_n 3, 1, []),
  (24, .invokestatic 304, 3, [1, 143, 2, 1157]),
  (27, .invokestatic 150, 3, [8, 1158]),
  (30, .aload 4, 2, []),
  (32, .areturn, 1, [])]
def xcJ8_newLength_cabcc : List xE := [(0, .iload_n 0, 1, []),
  (1, .iload_n 1, 1, []),
  (2, .iload_n 2, 1, []),
  (3, .invokestatic 194, 3, [1, 142, 2, 1141]),
  (6, .iadd, 1, []),
  (7, .istore_n 3, 1, []),
  (8, .iconst 0, 1, []),
  (9, .iload_n 3, 1, []),
  (10, .if_icmp .ge 11, 3, []),
  (13, .iload_n 3, 1, []),
  (14, .ldc 200, 2, [0, 2147483639, 1142]),
  (16, .if_icmp .gt 5, 3, []),
  (19, .iload_n 3, 1, []),
  (20, .ireturn, 1, []),
  (21, .iload_n 0, 1, []),
  (22, .iload_n 1, 1, []),
  (23, .invokestatic 201, 3, [1, 192, 2, 1143]),
  (26, .ireturn, 1, [])]
def xcJ8_hugeLength_7cf53 : List xE := [(0, .iload_n 0, 1, []),
  (1, .iload_n 1, 1, []),
  (2, .iadd, 1, []),
  (3, .istore_n 2, 1, []),
  (4, .iload_n 2, 1, []),
  (5, .ifCond .ge 44, 3, []),
  (8, .new 204, 3, []),
  (11, .dup, 1, []),
  (12, .new 89, 3, []),
  (15, .dup, 1, []),
  (16, .invokespecial 91, 3, [99, 99999, 0]),
  (19, .ldc 206, 2, []),
  (21, .invokevirtual 94, 3, [99, 99999, 0]),
  (24, .iload_n 0, 1, []),
  (25, .invokevirtual 98, 3, [99, 99999, 0]),
  (28, .ldc 208, 2, []),
  (30, .invokevirtual 94, 3, [99, 99999, 0]),
  (33, .iload_n 1, 1, []),
  (34, .invokevirtual 98, 3, [99, 99999, 0]),
  (37, .ldc 210, 2, []),
  (39, .invokevirtual 94, 3, [99, 99999, 0]),
  (42, .invokevirtual 101, 3, [99, 99999, 0]),
  (45, .invokespecial 212, 3, [99, 99999, 0]),
  (48, .athrow, 1, []),
  (49, .iload_n 2, 1, []),
  (50, .ldc 200, 2, [0, 2147483639, 1142]),
  (52, .if_icmp .gt 6, 3, []),
  (55, .ldc 200, 2, [0, 2147483639, 1142]),
  (57, .ireturn, 1, []),
  (58, .iload_n 2, 1, []),
  (59, .ireturn, 1, [])]
def xcJ3_checkIndex_8e157 : List xE := [(0, .iload_n 0, 1, []),
  (1, .ifCond .lt 8, 3, []),
  (4, .iload_n 0, 1, []),
  (5, .iload_n 1, 1, []),
  (6, .if_icmp .lt 10, 3, []),
  (9, .aload_n 2, 1, []),
  (10, .iload_n 0, 1, []),
  (11, .iload_n 1, 1, []),
  (12, .invokestatic 95, 3, [99, 99999, 0]),
  (15, .athrow, 1, []),
  (16, .iload_n 0, 1, []),
  (17, .ireturn, 1, [])]
def xcJ3_checkFromToIndex_8c36e : List xE := [(0, .iload_n 0, 1, []),
  (1, .ifCond .lt 13, 3, []),
  (4, .iload_n 0, 1, []),
  (5, .iload_n 1, 1, []),
  (6, .if_icmp .gt 8, 3, []),
  (9, .iload_n 1, 1, []),
  (10, .iload_n 2, 1, []),
  (11, .if_icmp .le 11, 3, []),
  (14, .aload_n 3, 1, []),
  (15, .iload_n 0, 1, []),
  (16, .iload_n 1, 1, []),
  (17, .iload_n 2, 1, []),
  (18, .invokestatic 99, 3, [99, 99999, 0]),
  (21, .athrow, 1, []),
  (22, .iload_n 0, 1, []),
  (23, .ireturn, 1, [])]
def xcJ3_checkFromIndexSize_8c36e : List xE := [(0, .iload_n 2, 1, []),
  (1, .iload_n 0, 1, []),
  (2, .ior, 1, []),
  (3, .iload_n 1, 1, []),
  (4, .ior, 1, []),
  (5, .ifCond .lt 10, 3, []),
  (8, .iload_n 1, 1, []),
  (9, .iload_n 2, 1, []),
  (10, .iload_n 0, 1, []),
  (11, .isub, 1, []),
  (12, .if_icmp .le 11, 3, []),
  (15, .aload_n 3, 1, []),
  (16, .iload_n 0, 1, []),
  (17, .iload_n 1, 1, []),
  (18, .iload_n 2, 1, []),
  (19, .invokestatic 103, 3, [99, 99999, 0]),
  (22, .athrow, 1, []),
  (23, .iload_n 0, 1, []),
  (24, .ireturn, 1, [])]
def xcL_at : List xE := [(0, .iload_n 1, 1, []),
  (1, .aload_n 0, 1, []),
  (2, .arraylength, 1, []),
  (3, .if_icmp .ge 9, 3, []),
  (6, .aload_n 0, 1, []),
  (7, .iload_n 1, 1, []),
  (8, .iaload, 1, []),
  (9, .goto 4, 3, []),
  (12, .iconst 0, 1, []),
  (13, .ireturn, 1, [])]
def xcL_some : List xE := [(0, .iload_n 0, 1, []),
  (1, .iload_n 1, 1, []),
  (2, .irem, 1, []),
  (3, .istore_n 2, 1, []),
  (4, .iload_n 2, 1, []),
  (5, .ifCond .ge 9, 3, []),
  (8, .iload_n 2, 1, []),
  (9, .iload_n 1, 1, []),
  (10, .iadd, 1, []),
  (11, .goto 4, 3, []),
  (14, .iload_n 2, 1, []),
  (15, .ireturn, 1, [])]
def xcL_addReach : List xE := [(0, .aload_n 0, 1, []),
  (1, .iload_n 1, 1, []),
  (2, .iload_n 2, 1, []),
  (3, .iload_n 3, 1, []),
  (4, .invokevirtual 7, 3, [0, 62, 4, 375, 11]),
  (7, .ireturn, 1, []),
  (8, .astore 4, 2, []),
  (10, .sipush (-1001), 3, []),
  (13, .ireturn, 1, []),
  (14, .astore 4, 2, []),
  (16, .sipush (-1002), 3, []),
  (19, .ireturn, 1, [])]
def xcL_removeLast : List xE := [(0, .aload_n 0, 1, []),
  (1, .invokevirtual 17, 3, [0, 63, 1, 521, 11]),
  (4, .ireturn, 1, []),
  (5, .astore_n 1, 1, []),
  (6, .sipush (-1001), 3, []),
  (9, .ireturn, 1, [])]
def xcL_setLateral : List xE := [(0, .aload_n 0, 1, []),
  (1, .iload_n 1, 1, []),
  (2, .iload_n 2, 1, []),
  (3, .invokevirtual 21, 3, [0, 64, 3, 939, 11]),
  (6, .ireturn, 1, []),
  (7, .astore_n 3, 1, []),
  (8, .sipush (-1001), 3, []),
  (11, .ireturn, 1, []),
  (12, .astore_n 3, 1, []),
  (13, .sipush (-1002), 3, []),
  (16, .ireturn, 1, []),
  (17, .astore_n 3, 1, []),
  (18, .sipush (-1003), 3, []),
  (21, .ireturn, 1, [])]
def xcL_fill : List xE := [(0, .aload_n 0, 1, []),
  (1, .iload_n 1, 1, []),
  (2, .iload_n 2, 1, []),
  (3, .invokevirtual 27, 3, [0, 65, 3, 568, 11]),
  (6, .ireturn, 1, []),
  (7, .astore_n 3, 1, []),
  (8, .sipush (-1001), 3, []),
  (11, .ireturn, 1, []),
  (12, .astore_n 3, 1, []),
  (13, .sipush (-1002), 3, []),
  (16, .ireturn, 1, [])]
def xcL_volume : List xE := [(0, .aload_n 0, 1, []),
  (1, .iload_n 1, 1, []),
  (2, .invokevirtual 30, 3, [0, 67, 2, 583, 11]),
  (5, .ireturn, 1, []),
  (6, .astore_n 2, 1, []),
  (7, .sipush (-1001), 3, []),
  (10, .ireturn, 1, [])]
def xcL_lateral : List xE := [(0, .aload_n 0, 1, []),
  (1, .iload_n 1, 1, []),
  (2, .invokevirtual 34, 3, [0, 68, 2, 1047, 11]),
  (5, .ireturn, 1, []),
  (6, .astore_n 2, 1, []),
  (7, .sipush (-1001), 3, []),
  (10, .ireturn, 1, [])]
def xcL_inflow : List xE := [(0, .aload_n 0, 1, []),
  (1, .iload_n 1, 1, []),
  (2, .invokevirtual 37, 3, [0, 69, 2, 1432, 11]),
  (5, .ireturn, 1, []),
  (6, .astore_n 2, 1, []),
  (7, .sipush (-1001), 3, []),
  (10, .ireturn, 1, [])]
def xcL_outflow : List xE := [(0, .aload_n 0, 1, []),
  (1, .iload_n 1, 1, []),
  (2, .invokevirtual 40, 3, [0, 70, 2, 1054, 11]),
  (5, .ireturn, 1, []),
  (6, .astore_n 2, 1, []),
  (7, .sipush (-1001), 3, []),
  (10, .ireturn, 1, [])]
def xcL_setStages : List xE := [(0, .aload_n 0, 1, []),
  (1, .iload_n 1, 1, []),
  (2, .iload_n 2, 1, []),
  (3, .iload_n 3, 1, []),
  (4, .invokevirtual 43, 3, [0, 71, 4, 1385, 11]),
  (7, .ireturn, 1, []),
  (8, .astore 4, 2, []),
  (10, .sipush (-1001), 3, []),
  (13, .ireturn, 1, []),
  (14, .astore 4, 2, []),
  (16, .sipush (-1002), 3, []),
  (19, .ireturn, 1, [])]
def xcL_setGate : List xE := [(0, .aload_n 0, 1, []),
  (1, .iload_n 1, 1, []),
  (2, .iload_n 2, 1, []),
  (3, .invokevirtual 46, 3, [0, 72, 3, 931, 11]),
  (6, .ireturn, 1, []),
  (7, .astore_n 3, 1, []),
  (8, .sipush (-1001), 3, []),
  (11, .ireturn, 1, []),
  (12, .astore_n 3, 1, []),
  (13, .sipush (-1002), 3, []),
  (16, .ireturn, 1, []),
  (17, .astore_n 3, 1, []),
  (18, .sipush (-1003), 3, []),
  (21, .ireturn, 1, [])]
def xcL_setRule : List xE := [(0, .aload_n 0, 1, []),
  (1, .iload_n 1, 1, []),
  (2, .iload_n 2, 1, []),
  (3, .invokevirtual 49, 3, [0, 73, 3, 923, 11]),
  (6, .ireturn, 1, []),
  (7, .astore_n 3, 1, []),
  (8, .sipush (-1001), 3, []),
  (11, .ireturn, 1, []),
  (12, .astore_n 3, 1, []),
  (13, .sipush (-1002), 3, []),
  (16, .ireturn, 1, []),
  (17, .astore_n 3, 1, []),
  (18, .sipush (-1003), 3, []),
  (21, .ireturn, 1, [])]
def xcL_level : List xE := [(0, .aload_n 0, 1, []),
  (1, .iload_n 1, 1, []),
  (2, .invokevirtual 53, 3, [0, 74, 2, 1443, 11]),
  (5, .ireturn, 1, []),
  (6, .astore_n 2, 1, []),
  (7, .sipush (-1001), 3, []),
  (10, .ireturn, 1, [])]
def xcL_status : List xE := [(0, .aload_n 0, 1, []),
  (1, .iload_n 1, 1, []),
  (2, .invokevirtual 56, 3, [0, 75, 2, 1425, 11]),
  (5, .ireturn, 1, []),
  (6, .astore_n 2, 1, []),
  (7, .sipush (-1001), 3, []),
  (10, .ireturn, 1, [])]
def xcL_isFlooded : List xE := [(0, .aload_n 0, 1, []),
  (1, .iload_n 1, 1, []),
  (2, .invokevirtual 59, 3, [0, 76, 2, 1450, 11]),
  (5, .ifCond .eq 7, 3, []),
  (8, .iconst 1, 1, []),
  (9, .goto 4, 3, []),
  (12, .iconst 0, 1, []),
  (13, .ireturn, 1, []),
  (14, .astore_n 2, 1, []),
  (15, .sipush (-1001), 3, []),
  (18, .ireturn, 1, [])]
def xcL_opening : List xE := [(0, .aload_n 0, 1, []),
  (1, .iload_n 1, 1, []),
  (2, .invokevirtual 63, 3, [0, 77, 2, 1418, 11]),
  (5, .ireturn, 1, []),
  (6, .astore_n 2, 1, []),
  (7, .sipush (-1001), 3, []),
  (10, .ireturn, 1, [])]
def xcL_rule : List xE := [(0, .aload_n 0, 1, []),
  (1, .iload_n 1, 1, []),
  (2, .invokevirtual 66, 3, [0, 78, 2, 1411, 11]),
  (5, .ireturn, 1, []),
  (6, .astore_n 2, 1, []),
  (7, .sipush (-1001), 3, []),
  (10, .ireturn, 1, [])]
def xcL_room : List xE := [(0, .aload_n 0, 1, []),
  (1, .iload_n 1, 1, []),
  (2, .invokevirtual 70, 3, [0, 79, 2, 1062, 11]),
  (5, .ireturn, 1, []),
  (6, .astore_n 2, 1, []),
  (7, .sipush (-1001), 3, []),
  (10, .ireturn, 1, []),
  (11, .astore_n 2, 1, []),
  (12, .sipush (-1002), 3, []),
  (15, .ireturn, 1, [])]
def xcL_byLevel : List xE := [(0, .aload_n 0, 1, []),
  (1, .iload_n 1, 1, []),
  (2, .invokevirtual 75, 3, [0, 80, 2, 1070, 11]),
  (5, .ireturn, 1, []),
  (6, .astore_n 2, 1, []),
  (7, .sipush (-1001), 3, []),
  (10, .ireturn, 1, [])]
def xcL_addPulse : List xE := [(0, .aload_n 0, 1, []),
  (1, .iload_n 1, 1, []),
  (2, .iload_n 2, 1, []),
  (3, .iload_n 3, 1, []),
  (4, .invokevirtual 78, 3, [0, 81, 4, 596, 11]),
  (7, .ireturn, 1, []),
  (8, .astore 4, 2, []),
  (10, .sipush (-1001), 3, []),
  (13, .ireturn, 1, []),
  (14, .astore 4, 2, []),
  (16, .sipush (-1002), 3, []),
  (19, .ireturn, 1, [])]
def xcL_pass : List xE := [(0, .aload_n 0, 1, []),
  (1, .iload_n 1, 1, []),
  (2, .invokevirtual 81, 3, [0, 82, 2, 607, 11]),
  (5, .ireturn, 1, []),
  (6, .astore_n 2, 1, []),
  (7, .sipush (-1001), 3, []),
  (10, .ireturn, 1, []),
  (11, .astore_n 2, 1, []),
  (12, .sipush (-1002), 3, []),
  (15, .ireturn, 1, [])]
def xcL_headInflow : List xE := [(0, .aload_n 0, 1, []),
  (1, .iload_n 1, 1, []),
  (2, .invokevirtual 84, 3, [0, 85, 2, 1374, 11]),
  (5, .ireturn, 1, []),
  (6, .astore_n 2, 1, []),
  (7, .sipush (-1001), 3, []),
  (10, .ireturn, 1, [])]
def xcL_levelAfter : List xE := [(0, .aload_n 0, 1, []),
  (1, .iload_n 1, 1, []),
  (2, .iload_n 2, 1, []),
  (3, .invokevirtual 87, 3, [0, 87, 3, 1457, 11]),
  (6, .ireturn, 1, []),
  (7, .astore_n 3, 1, []),
  (8, .sipush (-1001), 3, []),
  (11, .ireturn, 1, []),
  (12, .astore_n 3, 1, []),
  (13, .sipush (-1002), 3, []),
  (16, .ireturn, 1, [])]
def xcL_peak : List xE := [(0, .aload_n 0, 1, []),
  (1, .iload_n 1, 1, []),
  (2, .iload_n 2, 1, []),
  (3, .invokevirtual 90, 3, [0, 88, 3, 1086, 11]),
  (6, .ireturn, 1, []),
  (7, .astore_n 3, 1, []),
  (8, .sipush (-1001), 3, []),
  (11, .ireturn, 1, []),
  (12, .astore_n 3, 1, []),
  (13, .sipush (-1002), 3, []),
  (16, .ireturn, 1, [])]
def xcL_untilFlood : List xE := [(0, .aload_n 0, 1, []),
  (1, .iload_n 1, 1, []),
  (2, .invokevirtual 93, 3, [0, 89, 2, 1464, 11]),
  (5, .ireturn, 1, []),
  (6, .astore_n 2, 1, []),
  (7, .sipush (-1001), 3, []),
  (10, .ireturn, 1, []),
  (11, .astore_n 2, 1, []),
  (12, .sipush (-1002), 3, []),
  (15, .ireturn, 1, [])]
def xcL_volumeAfter : List xE := [(0, .aload_n 0, 1, []),
  (1, .iload_n 1, 1, []),
  (2, .invokevirtual 96, 3, [0, 90, 2, 1027, 11]),
  (5, .ireturn, 1, []),
  (6, .astore_n 2, 1, []),
  (7, .sipush (-1001), 3, []),
  (10, .ireturn, 1, [])]
def xcL_volumeByBalance : List xE := [(0, .aload_n 0, 1, []),
  (1, .iload_n 1, 1, []),
  (2, .invokevirtual 99, 3, [0, 91, 2, 1471, 11]),
  (5, .ireturn, 1, []),
  (6, .astore_n 2, 1, []),
  (7, .sipush (-1001), 3, []),
  (10, .ireturn, 1, [])]
def xcL_meanLevel : List xE := [(0, .aload_n 0, 1, []),
  (1, .invokevirtual 102, 3, [0, 95, 1, 965, 11]),
  (4, .dreturn, 1, []),
  (5, .astore_n 1, 1, []),
  (6, .ldc2_w 108, 3, [1, 13875388141788987392, 978]),
  (9, .dreturn, 1, [])]
def xcL_floodedShare : List xE := [(0, .aload_n 0, 1, []),
  (1, .invokevirtual 110, 3, [0, 96, 1, 992, 11]),
  (4, .freturn, 1, []),
  (5, .astore_n 1, 1, []),
  (6, .ldc 114, 2, [2, 3296346112, 1000]),
  (8, .freturn, 1, [])]
def xcL_feed : List xE := [(0, .aload_n 0, 1, []),
  (1, .iload_n 1, 1, []),
  (2, .invokevirtual 115, 3, [0, 97, 2, 654, 11]),
  (5, .ireturn, 1, []),
  (6, .astore_n 2, 1, []),
  (7, .sipush (-1001), 3, []),
  (10, .ireturn, 1, [])]
def xcL_execute : List xE := [(0, .aload_n 0, 1, []),
  (1, .invokevirtual 121, 3, [0, 98, 1, 686, 11]),
  (4, .ireturn, 1, []),
  (5, .astore_n 1, 1, []),
  (6, .sipush (-1001), 3, []),
  (9, .ireturn, 1, []),
  (10, .astore_n 1, 1, []),
  (11, .sipush (-1002), 3, []),
  (14, .ireturn, 1, [])]
def xcL_faultPosition : List xE := [(0, .aload_n 0, 1, []),
  (1, .invokevirtual 124, 3, [0, 99, 1, 839, 11]),
  (4, .ireturn, 1, []),
  (5, .astore_n 1, 1, []),
  (6, .sipush (-1001), 3, []),
  (9, .ireturn, 1, [])]
def xcL_write : List xE := [(0, .aload_n 0, 1, []),
  (1, .iload_n 1, 1, []),
  (2, .invokevirtual 127, 3, [0, 100, 2, 1100, 11]),
  (5, .ireturn, 1, []),
  (6, .astore_n 2, 1, []),
  (7, .sipush (-1001), 3, []),
  (10, .ireturn, 1, [])]
def xcL_lineChar : List xE := [(0, .aload_n 0, 1, []),
  (1, .iload_n 1, 1, []),
  (2, .invokevirtual 130, 3, [0, 101, 2, 1357, 11]),
  (5, .ireturn, 1, []),
  (6, .astore_n 2, 1, []),
  (7, .sipush (-1001), 3, []),
  (10, .ireturn, 1, [])]
def xcL_denial : List xE := [(0, .aload_n 0, 1, []),
  (1, .invokevirtual 133, 3, [0, 102, 1, 886, 11]),
  (4, .ireturn, 1, []),
  (5, .astore_n 1, 1, []),
  (6, .sipush (-1001), 3, []),
  (9, .ireturn, 1, [])]
def xcL_denialDetail : List xE := [(0, .aload_n 0, 1, []),
  (1, .invokevirtual 136, 3, [0, 103, 1, 896, 11]),
  (4, .ireturn, 1, []),
  (5, .astore_n 1, 1, []),
  (6, .sipush (-1001), 3, []),
  (9, .ireturn, 1, [])]
def xcL_denialCause : List xE := [(0, .aload_n 0, 1, []),
  (1, .invokevirtual 139, 3, [0, 104, 1, 903, 11]),
  (4, .ireturn, 1, []),
  (5, .astore_n 1, 1, []),
  (6, .sipush (-1001), 3, []),
  (9, .ireturn, 1, [])]
def xcL_denialCauseDetail : List xE := [(0, .aload_n 0, 1, []),
  (1, .invokevirtual 142, 3, [0, 105, 1, 910, 11]),
  (4, .ireturn, 1, []),
  (5, .astore_n 1, 1, []),
  (6, .sipush (-1001), 3, []),
  (9, .ireturn, 1, [])]
def xcL_undo : List xE := [(0, .aload_n 0, 1, []),
  (1, .invokevirtual 145, 3, [0, 106, 1, 861, 11]),
  (4, .ireturn, 1, []),
  (5, .astore_n 1, 1, []),
  (6, .sipush (-1001), 3, []),
  (9, .ireturn, 1, [])]
def xcL_restore : List xE := [(0, .aload_n 0, 1, []),
  (1, .invokevirtual 148, 3, [0, 109, 1, 872, 11]),
  (4, .ireturn, 1, []),
  (5, .astore_n 1, 1, []),
  (6, .sipush (-1001), 3, []),
  (9, .ireturn, 1, [])]
def xcL_runs : List xE := [(0, .iconst 0, 1, []),
  (1, .istore_n 2, 1, []),
  (2, .iload_n 2, 1, []),
  (3, .aload_n 1, 1, []),
  (4, .invokevirtual 151, 3, [0, 145, 1, 1404, 0]),
  (7, .if_icmp .ge 28, 3, []),
  (10, .aload_n 0, 1, []),
  (11, .aload_n 1, 1, []),
  (12, .iload_n 2, 1, []),
  (13, .invokevirtual 156, 3, [0, 146, 2, 1391, 0]),
  (16, .invokestatic 159, 3, [1, 226, 2, 650]),
  (19, .iload_n 2, 1, []),
  (20, .iconst 1, 1, []),
  (21, .iadd, 1, []),
  (22, .if_icmp .eq 7, 3, []),
  (25, .sipush (-9999), 3, []),
  (28, .ireturn, 1, []),
  (29, .iinc 2 1, 3, []),
  (32, .goto (-30), 3, []),
  (35, .aload_n 0, 1, []),
  (36, .invokestatic 164, 3, [1, 227, 1, 683]),
  (39, .ireturn, 1, [])]
def xcL_is : List xE := [(0, .aload_n 0, 1, []),
  (1, .invokestatic 167, 3, [1, 231, 1, 883]),
  (4, .iload_n 1, 1, []),
  (5, .if_icmp .ne 35, 3, []),
  (8, .aload_n 0, 1, []),
  (9, .invokestatic 169, 3, [1, 232, 1, 893]),
  (12, .iload_n 2, 1, []),
  (13, .if_icmp .ne 27, 3, []),
  (16, .aload_n 0, 1, []),
  (17, .invokestatic 171, 3, [1, 233, 1, 900]),
  (20, .sipush (-1001), 3, []),
  (23, .if_icmp .ne 17, 3, []),
  (26, .aload_n 0, 1, []),
  (27, .invokestatic 173, 3, [1, 234, 1, 907]),
  (30, .sipush (-1001), 3, []),
  (33, .if_icmp .ne 7, 3, []),
  (36, .iconst 1, 1, []),
  (37, .goto 4, 3, []),
  (40, .iconst 0, 1, []),
  (41, .ireturn, 1, [])]
def xcL_isFive : List xE := [(0, .aload_n 0, 1, []),
  (1, .invokestatic 167, 3, [1, 231, 1, 883]),
  (4, .iconst 5, 1, []),
  (5, .if_icmp .ne 31, 3, []),
  (8, .aload_n 0, 1, []),
  (9, .invokestatic 169, 3, [1, 232, 1, 893]),
  (12, .iload_n 1, 1, []),
  (13, .if_icmp .ne 23, 3, []),
  (16, .aload_n 0, 1, []),
  (17, .invokestatic 171, 3, [1, 233, 1, 900]),
  (20, .iload_n 2, 1, []),
  (21, .if_icmp .ne 15, 3, []),
  (24, .aload_n 0, 1, []),
  (25, .invokestatic 173, 3, [1, 234, 1, 907]),
  (28, .iload_n 3, 1, []),
  (29, .if_icmp .ne 7, 3, []),
  (32, .iconst 1, 1, []),
  (33, .goto 4, 3, []),
  (36, .iconst 0, 1, []),
  (37, .ireturn, 1, [])]
def xcL_makes : List xE := [(0, .iconst 1, 1, []),
  (1, .aload_n 1, 1, []),
  (2, .iconst 0, 1, []),
  (3, .invokestatic 179, 3, [1, 196, 2, 367]),
  (6, .bipush 6, 2, []),
  (8, .invokestatic 183, 3, [1, 197, 2, 917]),
  (11, .iadd, 1, []),
  (12, .istore_n 2, 1, []),
  (13, .iconst 0, 1, []),
  (14, .istore_n 3, 1, []),
  (15, .iload_n 3, 1, []),
  (16, .iload_n 2, 1, []),
  (17, .if_icmp .ge 148, 3, []),
  (20, .aload_n 1, 1, []),
  (21, .iconst 1, 1, []),
  (22, .iload_n 3, 1, []),
  (23, .iadd, 1, []),
  (24, .invokestatic 179, 3, [1, 196, 2, 367]),
  (27, .istore 4, 2, []),
  (29, .aload_n 0, 1, []),
  (30, .iconst 1, 1, []),
  (31, .iload 4, 2, []),
  (33, .bipush 30, 2, []),
  (35, .invokestatic 183, 3, [1, 197, 2, 917]),
  (38, .iadd, 1, []),
  (39, .iconst 5, 1, []),
  (40, .iload 4, 2, []),
  (42, .iconst 5, 1, []),
  (43, .ishr, 1, []),
  (44, .bipush 56, 2, []),
  (46, .invokestatic 183, 3, [1, 197, 2, 917]),
  (49, .iadd, 1, []),
  (50, .iconst 1, 1, []),
  (51, .iload 4, 2, []),
  (53, .bipush 11, 2, []),
  (55, .ishr, 1, []),
  (56, .sipush 200, 3, []),
  (59, .invokestatic 183, 3, [1, 197, 2, 917]),
  (62, .iadd, 1, []),
  (63, .invokestatic 186, 3, [1, 198, 4, 370]),
  (66, .iload_n 3, 1, []),
  (67, .if_icmp .ne 24, 3, []),
  (70, .aload_n 0, 1, []),
  (71, .iload_n 3, 1, []),
  (72, .iconst 1, 1, []),
  (73, .iload 4, 2, []),
  (75, .bipush 6, 2, []),
  (77, .ishr, 1, []),
  (78, .sipush 900, 3, []),
  (81, .invokestatic 183, 3, [1, 197, 2, 917]),
  (84, .iadd, 1, []),
  (85, .invokestatic 189, 3, [1, 201, 3, 533]),
  (88, .ifCond .ge 5, 3, []),
  (91, .iconst 0, 1, []),
  (92, .ireturn, 1, []),
  (93, .aload_n 0, 1, []),
  (94, .iload_n 3, 1, []),
  (95, .iload 4, 2, []),
  (97, .iconst 1, 1, []),
  (98, .iand, 1, []),
  (99, .ifCond .ne 8, 3, []),
  (102, .bipush 104, 2, []),
  (104, .goto 5, 3, []),
  (107, .bipush 114, 2, []),
  (109, .invokestatic 192, 3, [1, 208, 3, 920]),
  (112, .ifCond .lt 23, 3, []),
  (115, .aload_n 0, 1, []),
  (116, .iload_n 3, 1, []),
  (117, .iload 4, 2, []),
  (119, .bipush 9, 2, []),
  (121, .ishr, 1, []),
  (122, .bipush 100, 2, []),
  (124, .invokestatic 183, 3, [1, 197, 2, 917]),
  (127, .invokestatic 195, 3, [1, 207, 3, 928]),
  (130, .bipush 100, 2, []),
  (132, .if_icmp .eq 5, 3, []),
  (135, .iconst 0, 1, []),
  (136, .ireturn, 1, []),
  (137, .aload_n 0, 1, []),
  (138, .iload_n 3, 1, []),
  (139, .iconst 1, 1, []),
  (140, .iload 4, 2, []),
  (142, .bipush 13, 2, []),
  (144, .ishr, 1, []),
  (145, .bipush 50, 2, []),
  (147, .invokestatic 183, 3, [1, 197, 2, 917]),
  (150, .iadd, 1, []),
  (151, .invokestatic 197, 3, [1, 200, 3, 936]),
  (154, .ifCond .eq 5, 3, []),
  (157, .iconst 0, 1, []),
  (158, .ireturn, 1, []),
  (159, .iinc 3 1, 3, []),
  (162, .goto (-147), 3, []),
  (165, .iconst 0, 1, []),
  (166, .istore_n 3, 1, []),
  (167, .iload_n 3, 1, []),
  (168, .iconst 3, 1, []),
  (169, .if_icmp .ge 62, 3, []),
  (172, .aload_n 1, 1, []),
  (173, .bipush 8, 2, []),
  (175, .iload_n 3, 1, []),
  (176, .iadd, 1, []),
  (177, .invokestatic 179, 3, [1, 196, 2, 367]),
  (180, .istore 4, 2, []),
  (182, .aload_n 0, 1, []),
  (183, .iload 4, 2, []),
  (185, .bipush 12, 2, []),
  (187, .invokestatic 183, 3, [1, 197, 2, 917]),
  (190, .iconst 1, 1, []),
  (191, .iload 4, 2, []),
  (193, .iconst 4, 1, []),
  (194, .ishr, 1, []),
  (195, .bipush 24, 2, []),
  (197, .invokestatic 183, 3, [1, 197, 2, 917]),
  (200, .iadd, 1, []),
  (201, .iconst 1, 1, []),
  (202, .iload 4, 2, []),
  (204, .bipush 9, 2, []),
  (206, .ishr, 1, []),
  (207, .sipush 200, 3, []),
  (210, .invokestatic 183, 3, [1, 197, 2, 917]),
  (213, .iadd, 1, []),
  (214, .invokestatic 199, 3, [1, 216, 4, 593]),
  (217, .iload_n 3, 1, []),
  (218, .iconst 1, 1, []),
  (219, .iadd, 1, []),
  (220, .if_icmp .eq 5, 3, []),
  (223, .iconst 0, 1, []),
  (224, .ireturn, 1, []),
  (225, .iinc 3 1, 3, []),
  (228, .goto (-61), 3, []),
  (231, .aload_n 1, 1, []),
  (232, .bipush 12, 2, []),
  (234, .invokestatic 179, 3, [1, 196, 2, 367]),
  (237, .iconst 1, 1, []),
  (238, .iand, 1, []),
  (239, .ifCond .eq 25, 3, []),
  (242, .aload_n 0, 1, []),
  (243, .iconst 1, 1, []),
  (244, .aload_n 1, 1, []),
  (245, .bipush 12, 2, []),
  (247, .invokestatic 179, 3, [1, 196, 2, 367]),
  (250, .iconst 2, 1, []),
  (251, .ishr, 1, []),
  (252, .bipush 6, 2, []),
  (254, .invokestatic 183, 3, [1, 197, 2, 917]),
  (257, .iadd, 1, []),
  (258, .invokestatic 201, 3, [1, 217, 2, 604]),
  (261, .ifCond .lt 7, 3, []),
  (264, .iconst 1, 1, []),
  (265, .goto 4, 3, []),
  (268, .iconst 0, 1, []),
  (269, .ireturn, 1, [])]
def xcL_asks : List xE := [(0, .aload_n 0, 1, []),
  (1, .invokevirtual 203, 3, [0, 66, 1, 327, 11]),
  (4, .istore_n 1, 1, []),
  (5, .ldc2_w 206, 3, [0, 31, 947]),
  (8, .aload_n 0, 1, []),
  (9, .invokestatic 208, 3, [1, 224, 1, 948]),
  (12, .invokestatic 211, 3, [1, 136, 1, 979]),
  (15, .lmul, 1, []),
  (16, .aload_n 0, 1, []),
  (17, .invokestatic 217, 3, [1, 225, 1, 989]),
  (20, .invokestatic 220, 3, [1, 139, 1, 1001]),
  (23, .i2l, 1, []),
  (24, .ladd, 1, []),
  (25, .lstore_n 2, 1, []),
  (26, .ldc2_w 206, 3, [0, 31, 947]),
  (29, .ldc2_w 206, 3, [0, 31, 947]),
  (32, .ldc2_w 206, 3, [0, 31, 947]),
  (35, .ldc2_w 206, 3, [0, 31, 947]),
  (38, .ldc2_w 206, 3, [0, 31, 947]),
  (41, .lload_n 2, 1, []),
  (42, .lmul, 1, []),
  (43, .iload_n 1, 1, []),
  (44, .i2l, 1, []),
  (45, .ladd, 1, []),
  (46, .lmul, 1, []),
  (47, .aload_n 0, 1, []),
  (48, .invokevirtual 226, 3, [0, 83, 1, 331, 11]),
  (51, .i2l, 1, []),
  (52, .ladd, 1, []),
  (53, .lmul, 1, []),
  (54, .aload_n 0, 1, []),
  (55, .invokevirtual 229, 3, [0, 92, 1, 339, 11]),
  (58, .i2l, 1, []),
  (59, .ladd, 1, []),
  (60, .lmul, 1, []),
  (61, .aload_n 0, 1, []),
  (62, .invokevirtual 232, 3, [0, 93, 1, 343, 11]),
  (65, .i2l, 1, []),
  (66, .ladd, 1, []),
  (67, .lmul, 1, []),
  (68, .aload_n 0, 1, []),
  (69, .invokevirtual 235, 3, [0, 94, 1, 1011, 11]),
  (72, .i2l, 1, []),
  (73, .ladd, 1, []),
  (74, .lstore_n 2, 1, []),
  (75, .ldc2_w 206, 3, [0, 31, 947]),
  (78, .ldc2_w 206, 3, [0, 31, 947]),
  (81, .ldc2_w 206, 3, [0, 31, 947]),
  (84, .lload_n 2, 1, []),
  (85, .lmul, 1, []),
  (86, .aload_n 0, 1, []),
  (87, .invokevirtual 238, 3, [0, 84, 1, 335, 11]),
  (90, .i2l, 1, []),
  (91, .ladd, 1, []),
  (92, .lmul, 1, []),
  (93, .aload_n 0, 1, []),
  (94, .invokevirtual 241, 3, [0, 86, 1, 1015, 11]),
  (97, .i2l, 1, []),
  (98, .ladd, 1, []),
  (99, .lmul, 1, []),
  (100, .aload_n 0, 1, []),
  (101, .bipush 9, 2, []),
  (103, .invokestatic 244, 3, [1, 222, 2, 1024]),
  (106, .i2l, 1, []),
  (107, .ladd, 1, []),
  (108, .lstore_n 2, 1, []),
  (109, .iconst 0, 1, []),
  (110, .istore 4, 2, []),
  (112, .iload 4, 2, []),
  (114, .iload_n 1, 1, []),
  (115, .if_icmp .ge 113, 3, []),
  (118, .ldc2_w 206, 3, [0, 31, 947]),
  (121, .ldc2_w 206, 3, [0, 31, 947]),
  (124, .ldc2_w 206, 3, [0, 31, 947]),
  (127, .lload_n 2, 1, []),
  (128, .lmul, 1, []),
  (129, .aload_n 0, 1, []),
  (130, .iload 4, 2, []),
  (132, .invokestatic 246, 3, [1, 203, 2, 1044]),
  (135, .i2l, 1, []),
  (136, .ladd, 1, []),
  (137, .lmul, 1, []),
  (138, .aload_n 0, 1, []),
  (139, .iload 4, 2, []),
  (141, .invokestatic 248, 3, [1, 205, 2, 1051]),
  (144, .i2l, 1, []),
  (145, .ladd, 1, []),
  (146, .lmul, 1, []),
  (147, .aload_n 0, 1, []),
  (148, .iload 4, 2, []),
  (150, .invokestatic 250, 3, [1, 214, 2, 1059]),
  (153, .i2l, 1, []),
  (154, .ladd, 1, []),
  (155, .lstore_n 2, 1, []),
  (156, .ldc2_w 206, 3, [0, 31, 947]),
  (159, .ldc2_w 206, 3, [0, 31, 947]),
  (162, .lload_n 2, 1, []),
  (163, .lmul, 1, []),
  (164, .aload_n 0, 1, []),
  (165, .iload 4, 2, []),
  (167, .invokestatic 253, 3, [1, 215, 2, 1067]),
  (170, .i2l, 1, []),
  (171, .ladd, 1, []),
  (172, .lmul, 1, []),
  (173, .aload_n 0, 1, []),
  (174, .iload 4, 2, []),
  (176, .bipush 12, 2, []),
  (178, .invokestatic 256, 3, [1, 220, 3, 1083]),
  (181, .i2l, 1, []),
  (182, .ladd, 1, []),
  (183, .lstore_n 2, 1, []),
  (184, .aload_n 0, 1, []),
  (185, .iload 4, 2, []),
  (187, .invokestatic 259, 3, [1, 229, 2, 1097]),
  (190, .istore 5, 2, []),
  (192, .iconst 0, 1, []),
  (193, .istore 6, 2, []),
  (195, .iload 6, 2, []),
  (197, .iload 5, 2, []),
  (199, .if_icmp .ge 23, 3, []),
  (202, .ldc2_w 206, 3, [0, 31, 947]),
  (205, .lload_n 2, 1, []),
  (206, .lmul, 1, []),
  (207, .aload_n 0, 1, []),
  (208, .iload 6, 2, []),
  (210, .invokestatic 175, 3, [1, 230, 2, 1354]),
  (213, .i2l, 1, []),
  (214, .ladd, 1, []),
  (215, .lstore_n 2, 1, []),
  (216, .iinc 6 1, 3, []),
  (219, .goto (-24), 3, []),
  (222, .iinc 4 1, 3, []),
  (225, .goto (-113), 3, []),
  (228, .iconst 0, 1, []),
  (229, .istore 4, 2, []),
  (231, .iload 4, 2, []),
  (233, .bipush 30, 2, []),
  (235, .if_icmp .ge 28, 3, []),
  (238, .ldc2_w 206, 3, [0, 31, 947]),
  (241, .lload_n 2, 1, []),
  (242, .lmul, 1, []),
  (243, .aload_n 0, 1, []),
  (244, .aload_n 0, 1, []),
  (245, .invokevirtual 226, 3, [0, 83, 1, 331, 11]),
  (248, .iload 4, 2, []),
  (250, .iadd, 1, []),
  (251, .invokestatic 262, 3, [1, 218, 2, 1371]),
  (254, .i2l, 1, []),
  (255, .ladd, 1, []),
  (256, .lstore_n 2, 1, []),
  (257, .iinc 4 1, 3, []),
  (260, .goto (-29), 3, []),
  (263, .lload_n 2, 1, []),
  (264, .lreturn, 1, [])]
def xcL_changes : List xE := [(0, .iload_n 1, 1, []),
  (1, .iconst 4, 1, []),
  (2, .ishr, 1, []),
  (3, .aload_n 0, 1, []),
  (4, .invokevirtual 203, 3, [0, 66, 1, 327, 11]),
  (7, .iconst 1, 1, []),
  (8, .iadd, 1, []),
  (9, .invokestatic 183, 3, [1, 197, 2, 917]),
  (12, .istore_n 2, 1, []),
  (13, .iload_n 1, 1, []),
  (14, .bipush 24, 2, []),
  (16, .invokestatic 183, 3, [1, 197, 2, 917]),
  (19, .tableswitch 415 0 19 #[93, 93, 93, 133, 154, 154, 177, 177, 177, 201, 201, 233, 233, 256, 256, 256, 284, 284, 324, 324], 93, []),
  (112, .aload_n 0, 1, []),
  (113, .iload_n 1, 1, []),
  (114, .iconst 4, 1, []),
  (115, .ishr, 1, []),
  (116, .bipush 52, 2, []),
  (118, .invokestatic 183, 3, [1, 197, 2, 917]),
  (121, .iload_n 1, 1, []),
  (122, .bipush 8, 2, []),
  (124, .ishr, 1, []),
  (125, .bipush 62, 2, []),
  (127, .invokestatic 183, 3, [1, 197, 2, 917]),
  (130, .iload_n 1, 1, []),
  (131, .bipush 11, 2, []),
  (133, .ishr, 1, []),
  (134, .sipush 502, 3, []),
  (137, .invokestatic 183, 3, [1, 197, 2, 917]),
  (140, .invokestatic 186, 3, [1, 198, 4, 370]),
  (143, .ifCond .lt 7, 3, []),
  (146, .iconst 1, 1, []),
  (147, .goto 4, 3, []),
  (150, .iconst 0, 1, []),
  (151, .ireturn, 1, []),
  (152, .iload_n 1, 1, []),
  (153, .iconst 4, 1, []),
  (154, .ishr, 1, []),
  (155, .iconst 3, 1, []),
  (156, .iand, 1, []),
  (157, .ifCond .ne 14, 3, []),
  (160, .aload_n 0, 1, []),
  (161, .invokestatic 264, 3, [1, 199, 1, 518]),
  (164, .ifCond .lt 7, 3, []),
  (167, .iconst 1, 1, []),
  (168, .goto 4, 3, []),
  (171, .iconst 0, 1, []),
  (172, .ireturn, 1, []),
  (173, .aload_n 0, 1, []),
  (174, .iload_n 2, 1, []),
  (175, .iload_n 1, 1, []),
  (176, .bipush 8, 2, []),
  (178, .ishr, 1, []),
  (179, .bipush 52, 2, []),
  (181, .invokestatic 183, 3, [1, 197, 2, 917]),
  (184, .invokestatic 197, 3, [1, 200, 3, 936]),
  (187, .ifCond .lt 7, 3, []),
  (190, .iconst 1, 1, []),
  (191, .goto 4, 3, []),
  (194, .iconst 0, 1, []),
  (195, .ireturn, 1, []),
  (196, .aload_n 0, 1, []),
  (197, .iload_n 2, 1, []),
  (198, .iload_n 1, 1, []),
  (199, .bipush 8, 2, []),
  (201, .ishr, 1, []),
  (202, .sipush 1001, 3, []),
  (205, .invokestatic 183, 3, [1, 197, 2, 917]),
  (208, .invokestatic 189, 3, [1, 201, 3, 533]),
  (211, .ifCond .lt 7, 3, []),
  (214, .iconst 1, 1, []),
  (215, .goto 4, 3, []),
  (218, .iconst 0, 1, []),
  (219, .ireturn, 1, []),
  (220, .aload_n 0, 1, []),
  (221, .iload_n 2, 1, []),
  (222, .iload_n 1, 1, []),
  (223, .bipush 8, 2, []),
  (225, .ishr, 1, []),
  (226, .bipush 60, 2, []),
  (228, .invokestatic 183, 3, [1, 197, 2, 917]),
  (231, .iload_n 1, 1, []),
  (232, .bipush 12, 2, []),
  (234, .ishr, 1, []),
  (235, .bipush 99, 2, []),
  (237, .invokestatic 183, 3, [1, 197, 2, 917]),
  (240, .invokestatic 267, 3, [1, 206, 4, 1382]),
  (243, .ifCond .lt 7, 3, []),
  (246, .iconst 1, 1, []),
  (247, .goto 4, 3, []),
  (250, .iconst 0, 1, []),
  (251, .ireturn, 1, []),
  (252, .aload_n 0, 1, []),
  (253, .iload_n 2, 1, []),
  (254, .iload_n 1, 1, []),
  (255, .bipush 8, 2, []),
  (257, .ishr, 1, []),
  (258, .bipush 102, 2, []),
  (260, .invokestatic 183, 3, [1, 197, 2, 917]),
  (263, .invokestatic 195, 3, [1, 207, 3, 928]),
  (266, .ifCond .lt 7, 3, []),
  (269, .iconst 1, 1, []),
  (270, .goto 4, 3, []),
  (273, .iconst 0, 1, []),
  (274, .ireturn, 1, []),
  (275, .aload_n 0, 1, []),
  (276, .iload_n 2, 1, []),
  (277, .ldc_w 269, 3, [1, 32, 1390]),
  (280, .iload_n 1, 1, []),
  (281, .bipush 8, 2, []),
  (283, .ishr, 1, []),
  (284, .iconst 4, 1, []),
  (285, .invokestatic 183, 3, [1, 197, 2, 917]),
  (288, .invokevirtual 156, 3, [0, 146, 2, 1391, 0]),
  (291, .invokestatic 192, 3, [1, 208, 3, 920]),
  (294, .ifCond .lt 7, 3, []),
  (297, .iconst 1, 1, []),
  (298, .goto 4, 3, []),
  (301, .iconst 0, 1, []),
  (302, .ireturn, 1, []),
  (303, .aload_n 0, 1, []),
  (304, .iload_n 1, 1, []),
  (305, .iconst 4, 1, []),
  (306, .ishr, 1, []),
  (307, .bipush 40, 2, []),
  (309, .invokestatic 183, 3, [1, 197, 2, 917]),
  (312, .iload_n 1, 1, []),
  (313, .bipush 9, 2, []),
  (315, .ishr, 1, []),
  (316, .bipush 26, 2, []),
  (318, .invokestatic 183, 3, [1, 197, 2, 917]),
  (321, .iload_n 1, 1, []),
  (322, .bipush 11, 2, []),
  (324, .ishr, 1, []),
  (325, .sipush 202, 3, []),
  (328, .invokestatic 183, 3, [1, 197, 2, 917]),
  (331, .invokestatic 199, 3, [1, 216, 4, 593]),
  (334, .ifCond .lt 7, 3, []),
  (337, .iconst 1, 1, []),
  (338, .goto 4, 3, []),
  (341, .iconst 0, 1, []),
  (342, .ireturn, 1, []),
  (343, .aload_n 0, 1, []),
  (344, .iload_n 1, 1, []),
  (345, .bipush 6, 2, []),
  (347, .ishr, 1, []),
  (348, .iconst 1, 1, []),
  (349, .iand, 1, []),
  (350, .ifCond .ne 39, 3, []),
  (353, .new 271, 3, [0, 1, 1392, 267, 27]),
  (356, .dup, 1, []),
  (357, .invokespecial 273, 3, [2, 154, 1, 1393]),
  (360, .ldc_w 274, 3, [1, 34, 1394]),
  (363, .invokevirtual 276, 3, [0, 155, 2, 1395, 1]),
  (366, .iload_n 1, 1, []),
  (367, .iconst 4, 1, []),
  (368, .ishr, 1, []),
  (369, .bipush 8, 2, []),
  (371, .invokestatic 183, 3, [1, 197, 2, 917]),
  (374, .invokevirtual 280, 3, [0, 157, 2, 1396, 1]),
  (377, .ldc_w 283, 3, [1, 36, 1397]),
  (380, .invokevirtual 276, 3, [0, 155, 2, 1395, 1]),
  (383, .invokevirtual 285, 3, [0, 158, 1, 1398, 1]),
  (386, .goto 36, 3, []),
  (389, .new 271, 3, [0, 1, 1392, 267, 27]),
  (392, .dup, 1, []),
  (393, .invokespecial 273, 3, [2, 154, 1, 1393]),
  (396, .ldc_w 289, 3, [1, 38, 1399]),
  (399, .invokevirtual 276, 3, [0, 155, 2, 1395, 1]),
  (402, .iload_n 1, 1, []),
  (403, .iconst 4, 1, []),
  (404, .ishr, 1, []),
  (405, .bipush 8, 2, []),
  (407, .invokestatic 183, 3, [1, 197, 2, 917]),
  (410, .invokevirtual 280, 3, [0, 157, 2, 1396, 1]),
  (413, .ldc_w 291, 3, [1, 40, 1400]),
  (416, .invokevirtual 276, 3, [0, 155, 2, 1395, 1]),
  (419, .invokevirtual 285, 3, [0, 158, 1, 1398, 1]),
  (422, .invokestatic 293, 3, [1, 237, 2, 1401]),
  (425, .ifCond .lt 7, 3, []),
  (428, .iconst 1, 1, []),
  (429, .goto 4, 3, []),
  (432, .iconst 0, 1, []),
  (433, .ireturn, 1, []),
  (434, .aload_n 0, 1, []),
  (435, .iload_n 1, 1, []),
  (436, .iconst 4, 1, []),
  (437, .ishr, 1, []),
  (438, .bipush 20, 2, []),
  (440, .invokestatic 183, 3, [1, 197, 2, 917]),
  (443, .invokestatic 201, 3, [1, 217, 2, 604]),
  (446, .ifCond .lt 7, 3, []),
  (449, .iconst 1, 1, []),
  (450, .goto 4, 3, []),
  (453, .iconst 0, 1, []),
  (454, .ireturn, 1, [])]
def xcL_thrown : List xE := [(0, .aload_n 0, 1, []),
  (1, .invokestatic 297, 3, [1, 241, 1, 944]),
  (4, .lstore_n 1, 1, []),
  (5, .aload_n 0, 1, []),
  (6, .invokevirtual 203, 3, [0, 66, 1, 327, 11]),
  (9, .istore_n 3, 1, []),
  (10, .aload_n 0, 1, []),
  (11, .invokevirtual 301, 3, [0, 107, 1, 347, 11]),
  (14, .istore 4, 2, []),
  (16, .aload_n 0, 1, []),
  (17, .invokevirtual 226, 3, [0, 83, 1, 331, 11]),
  (20, .istore 5, 2, []),
  (22, .aload_n 0, 1, []),
  (23, .iconst 0, 1, []),
  (24, .iconst 5, 1, []),
  (25, .iconst 1, 1, []),
  (26, .invokestatic 186, 3, [1, 198, 4, 370]),
  (29, .sipush (-1001), 3, []),
  (32, .if_icmp .ne 481, 3, []),
  (35, .aload_n 0, 1, []),
  (36, .bipush 51, 2, []),
  (38, .iconst 5, 1, []),
  (39, .iconst 1, 1, []),
  (40, .invokestatic 186, 3, [1, 198, 4, 370]),
  (43, .sipush (-1001), 3, []),
  (46, .if_icmp .ne 467, 3, []),
  (49, .aload_n 0, 1, []),
  (50, .iconst 1, 1, []),
  (51, .iconst 4, 1, []),
  (52, .iconst 1, 1, []),
  (53, .invokestatic 186, 3, [1, 198, 4, 370]),
  (56, .sipush (-1001), 3, []),
  (59, .if_icmp .ne 454, 3, []),
  (62, .aload_n 0, 1, []),
  (63, .iconst 1, 1, []),
  (64, .bipush 61, 2, []),
  (66, .iconst 1, 1, []),
  (67, .invokestatic 186, 3, [1, 198, 4, 370]),
  (70, .sipush (-1001), 3, []),
  (73, .if_icmp .ne 440, 3, []),
  (76, .aload_n 0, 1, []),
  (77, .iconst 1, 1, []),
  (78, .iconst 5, 1, []),
  (79, .iconst 0, 1, []),
  (80, .invokestatic 186, 3, [1, 198, 4, 370]),
  (83, .sipush (-1001), 3, []),
  (86, .if_icmp .ne 427, 3, []),
  (89, .aload_n 0, 1, []),
  (90, .iconst 1, 1, []),
  (91, .iconst 5, 1, []),
  (92, .sipush 501, 3, []),
  (95, .invokestatic 186, 3, [1, 198, 4, 370]),
  (98, .sipush (-1001), 3, []),
  (101, .if_icmp .ne 412, 3, []),
  (104, .iload_n 3, 1, []),
  (105, .bipush 8, 2, []),
  (107, .if_icmp .lt 26, 3, []),
  (110, .aload_n 0, 1, []),
  (111, .iconst 1, 1, []),
  (112, .iconst 5, 1, []),
  (113, .iconst 1, 1, []),
  (114, .invokestatic 186, 3, [1, 198, 4, 370]),
  (117, .sipush (-1002), 3, []),
  (120, .if_icmp .ne 393, 3, []),
  (123, .aload_n 0, 1, []),
  (124, .iconst 1, 1, []),
  (125, .bipush 8, 2, []),
  (127, .invokestatic 304, 3, [1, 238, 3, 880]),
  (130, .ifCond .eq 383, 3, []),
  (133, .aload_n 0, 1, []),
  (134, .iload_n 3, 1, []),
  (135, .bipush 99, 2, []),
  (137, .invokestatic 197, 3, [1, 200, 3, 936]),
  (140, .sipush (-1001), 3, []),
  (143, .if_icmp .ne 370, 3, []),
  (146, .aload_n 0, 1, []),
  (147, .iconst 0, 1, []),
  (148, .iconst (-1), 1, []),
  (149, .invokestatic 197, 3, [1, 200, 3, 936]),
  (152, .sipush (-1002), 3, []),
  (155, .if_icmp .ne 358, 3, []),
  (158, .aload_n 0, 1, []),
  (159, .iconst 0, 1, []),
  (160, .bipush 51, 2, []),
  (162, .invokestatic 197, 3, [1, 200, 3, 936]),
  (165, .sipush (-1002), 3, []),
  (168, .if_icmp .ne 345, 3, []),
  (171, .aload_n 0, 1, []),
  (172, .iload_n 3, 1, []),
  (173, .iconst 0, 1, []),
  (174, .invokestatic 189, 3, [1, 201, 3, 533]),
  (177, .sipush (-1001), 3, []),
  (180, .if_icmp .ne 333, 3, []),
  (183, .aload_n 0, 1, []),
  (184, .iconst 0, 1, []),
  (185, .iconst 0, 1, []),
  (186, .invokestatic 189, 3, [1, 201, 3, 533]),
  (189, .sipush (-1002), 3, []),
  (192, .if_icmp .ne 321, 3, []),
  (195, .aload_n 0, 1, []),
  (196, .iconst 0, 1, []),
  (197, .sipush 1000, 3, []),
  (200, .invokestatic 189, 3, [1, 201, 3, 533]),
  (203, .sipush (-1002), 3, []),
  (206, .if_icmp .ne 307, 3, []),
  (209, .aload_n 0, 1, []),
  (210, .iload_n 3, 1, []),
  (211, .bipush 9, 2, []),
  (213, .bipush 9, 2, []),
  (215, .invokestatic 267, 3, [1, 206, 4, 1382]),
  (218, .sipush (-1001), 3, []),
  (221, .if_icmp .ne 292, 3, []),
  (224, .aload_n 0, 1, []),
  (225, .iconst 0, 1, []),
  (226, .bipush 9, 2, []),
  (228, .bipush 9, 2, []),
  (230, .invokestatic 267, 3, [1, 206, 4, 1382]),
  (233, .sipush (-1002), 3, []),
  (236, .if_icmp .ne 277, 3, []),
  (239, .aload_n 0, 1, []),
  (240, .iconst 0, 1, []),
  (241, .iconst 0, 1, []),
  (242, .bipush 9, 2, []),
  (244, .invokestatic 267, 3, [1, 206, 4, 1382]),
  (247, .sipush (-1002), 3, []),
  (250, .if_icmp .ne 263, 3, []),
  (253, .aload_n 0, 1, []),
  (254, .iconst 0, 1, []),
  (255, .sipush 998, 3, []),
  (258, .sipush 1000, 3, []),
  (261, .invokestatic 267, 3, [1, 206, 4, 1382]),
  (264, .sipush (-1002), 3, []),
  (267, .if_icmp .ne 246, 3, []),
  (270, .aload_n 0, 1, []),
  (271, .iconst (-1), 1, []),
  (272, .sipush 200, 3, []),
  (275, .invokestatic 195, 3, [1, 207, 3, 928]),
  (278, .sipush (-1001), 3, []),
  (281, .if_icmp .ne 232, 3, []),
  (284, .aload_n 0, 1, []),
  (285, .iconst 0, 1, []),
  (286, .bipush 101, 2, []),
  (288, .invokestatic 195, 3, [1, 207, 3, 928]),
  (291, .sipush (-1002), 3, []),
  (294, .if_icmp .ne 219, 3, []),
  (297, .aload_n 0, 1, []),
  (298, .iconst 0, 1, []),
  (299, .iconst (-1), 1, []),
  (300, .invokestatic 195, 3, [1, 207, 3, 928]),
  (303, .sipush (-1002), 3, []),
  (306, .if_icmp .ne 207, 3, []),
  (309, .aload_n 0, 1, []),
  (310, .iload_n 3, 1, []),
  (311, .bipush 120, 2, []),
  (313, .invokestatic 192, 3, [1, 208, 3, 920]),
  (316, .sipush (-1001), 3, []),
  (319, .if_icmp .ne 194, 3, []),
  (322, .aload_n 0, 1, []),
  (323, .iconst 0, 1, []),
  (324, .bipush 70, 2, []),
  (326, .invokestatic 192, 3, [1, 208, 3, 920]),
  (329, .sipush (-1002), 3, []),
  (332, .if_icmp .ne 181, 3, []),
  (335, .aload_n 0, 1, []),
  (336, .iconst (-1), 1, []),
  (337, .iconst 1, 1, []),
  (338, .iconst 1, 1, []),
  (339, .invokestatic 199, 3, [1, 216, 4, 593]),
  (342, .sipush (-1001), 3, []),
  (345, .if_icmp .ne 168, 3, []),
  (348, .aload_n 0, 1, []),
  (349, .sipush 1000, 3, []),
  (352, .iconst 1, 1, []),
  (353, .iconst 1, 1, []),
  (354, .invokestatic 199, 3, [1, 216, 4, 593]),
  (357, .sipush (-1001), 3, []),
  (360, .if_icmp .ne 153, 3, []),
  (363, .aload_n 0, 1, []),
  (364, .iload 5, 2, []),
  (366, .iconst 0, 1, []),
  (367, .iconst 1, 1, []),
  (368, .invokestatic 199, 3, [1, 216, 4, 593]),
  (371, .sipush (-1001), 3, []),
  (374, .if_icmp .ne 139, 3, []),
  (377, .aload_n 0, 1, []),
  (378, .iload 5, 2, []),
  (380, .bipush 25, 2, []),
  (382, .iconst 1, 1, []),
  (383, .invokestatic 199, 3, [1, 216, 4, 593]),
  (386, .sipush (-1001), 3, []),
  (389, .if_icmp .ne 124, 3, []),
  (392, .aload_n 0, 1, []),
  (393, .iload 5, 2, []),
  (395, .iconst 1, 1, []),
  (396, .iconst 0, 1, []),
  (397, .invokestatic 199, 3, [1, 216, 4, 593]),
  (400, .sipush (-1001), 3, []),
  (403, .if_icmp .ne 110, 3, []),
  (406, .aload_n 0, 1, []),
  (407, .iload 5, 2, []),
  (409, .iconst 1, 1, []),
  (410, .sipush 201, 3, []),
  (413, .invokestatic 199, 3, [1, 216, 4, 593]),
  (416, .sipush (-1001), 3, []),
  (419, .if_icmp .ne 94, 3, []),
  (422, .iload 5, 2, []),
  (424, .ifCond .eq 29, 3, []),
  (427, .aload_n 0, 1, []),
  (428, .iload 5, 2, []),
  (430, .iconst 1, 1, []),
  (431, .isub, 1, []),
  (432, .iconst 1, 1, []),
  (433, .iconst 1, 1, []),
  (434, .invokestatic 199, 3, [1, 216, 4, 593]),
  (437, .sipush (-1002), 3, []),
  (440, .if_icmp .ne 73, 3, []),
  (443, .aload_n 0, 1, []),
  (444, .iconst 2, 1, []),
  (445, .iload 5, 2, []),
  (447, .invokestatic 304, 3, [1, 238, 3, 880]),
  (450, .ifCond .eq 63, 3, []),
  (453, .aload_n 0, 1, []),
  (454, .invokevirtual 238, 3, [0, 84, 1, 335, 11]),
  (457, .bipush 8, 2, []),
  (459, .if_icmp .lt 27, 3, []),
  (462, .aload_n 0, 1, []),
  (463, .iload 5, 2, []),
  (465, .iconst 1, 1, []),
  (466, .iconst 1, 1, []),
  (467, .invokestatic 199, 3, [1, 216, 4, 593]),
  (470, .sipush (-1002), 3, []),
  (473, .if_icmp .ne 40, 3, []),
  (476, .aload_n 0, 1, []),
  (477, .iconst 1, 1, []),
  (478, .bipush 8, 2, []),
  (480, .invokestatic 304, 3, [1, 238, 3, 880]),
  (483, .ifCond .eq 30, 3, []),
  (486, .aload_n 0, 1, []),
  (487, .iconst 0, 1, []),
  (488, .invokestatic 201, 3, [1, 217, 2, 604]),
  (491, .sipush (-1001), 3, []),
  (494, .if_icmp .ne 19, 3, []),
  (497, .aload_n 0, 1, []),
  (498, .bipush 49, 2, []),
  (500, .invokestatic 201, 3, [1, 217, 2, 604]),
  (503, .sipush (-1001), 3, []),
  (506, .if_icmp .ne 7, 3, []),
  (509, .iconst 1, 1, []),
  (510, .goto 4, 3, []),
  (513, .iconst 0, 1, []),
  (514, .istore 6, 2, []),
  (516, .iconst 0, 1, []),
  (517, .istore 7, 2, []),
  (519, .iload 7, 2, []),
  (521, .iload_n 3, 1, []),
  (522, .if_icmp .ge 188, 3, []),
  (525, .iload 6, 2, []),
  (527, .ifCond .eq 72, 3, []),
  (530, .aload_n 0, 1, []),
  (531, .iload 7, 2, []),
  (533, .aload_n 0, 1, []),
  (534, .iload 7, 2, []),
  (536, .invokestatic 246, 3, [1, 203, 2, 1044]),
  (539, .invokestatic 197, 3, [1, 200, 3, 936]),
  (542, .sipush (-1003), 3, []),
  (545, .if_icmp .ne 54, 3, []),
  (548, .aload_n 0, 1, []),
  (549, .iconst 4, 1, []),
  (550, .aload_n 0, 1, []),
  (551, .iload 7, 2, []),
  (553, .invokestatic 246, 3, [1, 203, 2, 1044]),
  (556, .invokestatic 304, 3, [1, 238, 3, 880]),
  (559, .ifCond .eq 40, 3, []),
  (562, .aload_n 0, 1, []),
  (563, .iload 7, 2, []),
  (565, .aload_n 0, 1, []),
  (566, .iload 7, 2, []),
  (568, .invokestatic 308, 3, [1, 213, 2, 1408]),
  (571, .i2c, 1, []),
  (572, .invokestatic 192, 3, [1, 208, 3, 920]),
  (575, .sipush (-1003), 3, []),
  (578, .if_icmp .ne 21, 3, []),
  (581, .aload_n 0, 1, []),
  (582, .iconst 4, 1, []),
  (583, .aload_n 0, 1, []),
  (584, .iload 7, 2, []),
  (586, .invokestatic 308, 3, [1, 213, 2, 1408]),
  (589, .invokestatic 304, 3, [1, 238, 3, 880]),
  (592, .ifCond .eq 7, 3, []),
  (595, .iconst 1, 1, []),
  (596, .goto 4, 3, []),
  (599, .iconst 0, 1, []),
  (600, .istore 6, 2, []),
  (602, .aload_n 0, 1, []),
  (603, .iload 7, 2, []),
  (605, .invokestatic 308, 3, [1, 213, 2, 1408]),
  (608, .bipush 102, 2, []),
  (610, .if_icmp .ne 47, 3, []),
  (613, .iload 6, 2, []),
  (615, .ifCond .eq 39, 3, []),
  (618, .aload_n 0, 1, []),
  (619, .iload 7, 2, []),
  (621, .aload_n 0, 1, []),
  (622, .iload 7, 2, []),
  (624, .invokestatic 310, 3, [1, 212, 2, 1415]),
  (627, .invokestatic 195, 3, [1, 207, 3, 928]),
  (630, .sipush (-1003), 3, []),
  (633, .if_icmp .ne 21, 3, []),
  (636, .aload_n 0, 1, []),
  (637, .iconst 4, 1, []),
  (638, .aload_n 0, 1, []),
  (639, .iload 7, 2, []),
  (641, .invokestatic 310, 3, [1, 212, 2, 1415]),
  (644, .invokestatic 304, 3, [1, 238, 3, 880]),
  (647, .ifCond .eq 7, 3, []),
  (650, .iconst 1, 1, []),
  (651, .goto 4, 3, []),
  (654, .iconst 0, 1, []),
  (655, .istore 6, 2, []),
  (657, .iload 6, 2, []),
  (659, .ifCond .eq 42, 3, []),
  (662, .aload_n 0, 1, []),
  (663, .iload 7, 2, []),
  (665, .invokestatic 312, 3, [1, 210, 2, 1422]),
  (668, .iconst 2, 1, []),
  (669, .if_icmp .ne 7, 3, []),
  (672, .iconst 1, 1, []),
  (673, .goto 4, 3, []),
  (676, .iconst 0, 1, []),
  (677, .aload_n 0, 1, []),
  (678, .iload 7, 2, []),
  (680, .invokestatic 250, 3, [1, 214, 2, 1059]),
  (683, .sipush (-1002), 3, []),
  (686, .if_icmp .ne 7, 3, []),
  (689, .iconst 1, 1, []),
  (690, .goto 4, 3, []),
  (693, .iconst 0, 1, []),
  (694, .if_icmp .ne 7, 3, []),
  (697, .iconst 1, 1, []),
  (698, .goto 4, 3, []),
  (701, .iconst 0, 1, []),
  (702, .istore 6, 2, []),
  (704, .iinc 7 1, 3, []),
  (707, .goto (-188), 3, []),
  (710, .aload_n 0, 1, []),
  (711, .iconst 0, 1, []),
  (712, .invokestatic 246, 3, [1, 203, 2, 1044]),
  (715, .istore 7, 2, []),
  (717, .iload 6, 2, []),
  (719, .ifCond .eq 307, 3, []),
  (722, .aload_n 0, 1, []),
  (723, .iconst 0, 1, []),
  (724, .iload 7, 2, []),
  (726, .invokestatic 197, 3, [1, 200, 3, 936]),
  (729, .sipush (-1003), 3, []),
  (732, .if_icmp .ne 294, 3, []),
  (735, .aload_n 0, 1, []),
  (736, .iload_n 3, 1, []),
  (737, .invokestatic 314, 3, [1, 202, 2, 580]),
  (740, .sipush (-1001), 3, []),
  (743, .if_icmp .ne 283, 3, []),
  (746, .aload_n 0, 1, []),
  (747, .iconst (-1), 1, []),
  (748, .invokestatic 246, 3, [1, 203, 2, 1044]),
  (751, .sipush (-1001), 3, []),
  (754, .if_icmp .ne 272, 3, []),
  (757, .aload_n 0, 1, []),
  (758, .iload_n 3, 1, []),
  (759, .invokestatic 316, 3, [1, 204, 2, 1429]),
  (762, .sipush (-1001), 3, []),
  (765, .if_icmp .ne 261, 3, []),
  (768, .aload_n 0, 1, []),
  (769, .iload_n 3, 1, []),
  (770, .invokestatic 248, 3, [1, 205, 2, 1051]),
  (773, .sipush (-1001), 3, []),
  (776, .if_icmp .ne 250, 3, []),
  (779, .aload_n 0, 1, []),
  (780, .iload_n 3, 1, []),
  (781, .invokestatic 318, 3, [1, 209, 2, 1440]),
  (784, .sipush (-1001), 3, []),
  (787, .if_icmp .ne 239, 3, []),
  (790, .aload_n 0, 1, []),
  (791, .iconst (-1), 1, []),
  (792, .invokestatic 312, 3, [1, 210, 2, 1422]),
  (795, .sipush (-1001), 3, []),
  (798, .if_icmp .ne 228, 3, []),
  (801, .aload_n 0, 1, []),
  (802, .iload_n 3, 1, []),
  (803, .invokestatic 320, 3, [1, 211, 2, 1447]),
  (806, .sipush (-1001), 3, []),
  (809, .if_icmp .ne 217, 3, []),
  (812, .aload_n 0, 1, []),
  (813, .iload_n 3, 1, []),
  (814, .invokestatic 310, 3, [1, 212, 2, 1415]),
  (817, .sipush (-1001), 3, []),
  (820, .if_icmp .ne 206, 3, []),
  (823, .aload_n 0, 1, []),
  (824, .iload_n 3, 1, []),
  (825, .invokestatic 308, 3, [1, 213, 2, 1408]),
  (828, .sipush (-1001), 3, []),
  (831, .if_icmp .ne 195, 3, []),
  (834, .aload_n 0, 1, []),
  (835, .iload_n 3, 1, []),
  (836, .invokestatic 250, 3, [1, 214, 2, 1059]),
  (839, .sipush (-1001), 3, []),
  (842, .if_icmp .ne 184, 3, []),
  (845, .aload_n 0, 1, []),
  (846, .iload_n 3, 1, []),
  (847, .invokestatic 253, 3, [1, 215, 2, 1067]),
  (850, .sipush (-1001), 3, []),
  (853, .if_icmp .ne 173, 3, []),
  (856, .aload_n 0, 1, []),
  (857, .iconst (-1), 1, []),
  (858, .invokestatic 253, 3, [1, 215, 2, 1067]),
  (861, .sipush (-1001), 3, []),
  (864, .if_icmp .ne 162, 3, []),
  (867, .aload_n 0, 1, []),
  (868, .iload 5, 2, []),
  (870, .iconst 1, 1, []),
  (871, .isub, 1, []),
  (872, .invokestatic 262, 3, [1, 218, 2, 1371]),
  (875, .sipush (-1001), 3, []),
  (878, .if_icmp .ne 148, 3, []),
  (881, .aload_n 0, 1, []),
  (882, .iload_n 3, 1, []),
  (883, .bipush 99, 2, []),
  (885, .invokestatic 322, 3, [1, 219, 3, 1454]),
  (888, .sipush (-1001), 3, []),
  (891, .if_icmp .ne 135, 3, []),
  (894, .aload_n 0, 1, []),
  (895, .iconst 0, 1, []),
  (896, .iconst (-1), 1, []),
  (897, .invokestatic 322, 3, [1, 219, 3, 1454]),
  (900, .sipush (-1002), 3, []),
  (903, .if_icmp .ne 123, 3, []),
  (906, .aload_n 0, 1, []),
  (907, .iconst 0, 1, []),
  (908, .bipush 49, 2, []),
  (910, .invokestatic 322, 3, [1, 219, 3, 1454]),
  (913, .sipush (-1002), 3, []),
  (916, .if_icmp .ne 110, 3, []),
  (919, .aload_n 0, 1, []),
  (920, .iconst (-1), 1, []),
  (921, .iconst 0, 1, []),
  (922, .invokestatic 256, 3, [1, 220, 3, 1083]),
  (925, .sipush (-1001), 3, []),
  (928, .if_icmp .ne 98, 3, []),
  (931, .aload_n 0, 1, []),
  (932, .iconst 0, 1, []),
  (933, .bipush 49, 2, []),
  (935, .invokestatic 256, 3, [1, 220, 3, 1083]),
  (938, .sipush (-1002), 3, []),
  (941, .if_icmp .ne 85, 3, []),
  (944, .aload_n 0, 1, []),
  (945, .iload_n 3, 1, []),
  (946, .invokestatic 324, 3, [1, 221, 2, 1461]),
  (949, .sipush (-1001), 3, []),
  (952, .if_icmp .ne 74, 3, []),
  (955, .aload_n 0, 1, []),
  (956, .bipush 49, 2, []),
  (958, .invokestatic 244, 3, [1, 222, 2, 1024]),
  (961, .sipush (-1001), 3, []),
  (964, .if_icmp .ne 62, 3, []),
  (967, .aload_n 0, 1, []),
  (968, .iconst (-1), 1, []),
  (969, .invokestatic 327, 3, [1, 223, 2, 1468]),
  (972, .sipush (-1001), 3, []),
  (975, .if_icmp .ne 51, 3, []),
  (978, .aload_n 0, 1, []),
  (979, .iload_n 3, 1, []),
  (980, .invokestatic 259, 3, [1, 229, 2, 1097]),
  (983, .sipush (-1001), 3, []),
  (986, .if_icmp .ne 40, 3, []),
  (989, .aload_n 0, 1, []),
  (990, .iconst (-1), 1, []),
  (991, .invokestatic 175, 3, [1, 230, 2, 1354]),
  (994, .sipush (-1001), 3, []),
  (997, .if_icmp .ne 29, 3, []),
  (1000, .aload_n 0, 1, []),
  (1001, .bipush 90, 2, []),
  (1003, .invokestatic 175, 3, [1, 230, 2, 1354]),
  (1006, .sipush (-1001), 3, []),
  (1009, .if_icmp .ne 17, 3, []),
  (1012, .aload_n 0, 1, []),
  (1013, .iconst 4, 1, []),
  (1014, .iload 7, 2, []),
  (1016, .invokestatic 304, 3, [1, 238, 3, 880]),
  (1019, .ifCond .eq 7, 3, []),
  (1022, .iconst 1, 1, []),
  (1023, .goto 4, 3, []),
  (1026, .iconst 0, 1, []),
  (1027, .istore 6, 2, []),
  (1029, .iload 6, 2, []),
  (1031, .ifCond .eq 118, 3, []),
  (1034, .aload_n 0, 1, []),
  (1035, .ldc_w 330, 3, [1, 42, 1475]),
  (1038, .invokestatic 293, 3, [1, 237, 2, 1401]),
  (1041, .sipush (-1001), 3, []),
  (1044, .if_icmp .ne 105, 3, []),
  (1047, .aload_n 0, 1, []),
  (1048, .invokestatic 332, 3, [1, 228, 1, 835]),
  (1051, .ifCond .ne 98, 3, []),
  (1054, .aload_n 0, 1, []),
  (1055, .ldc_w 334, 3, [1, 44, 1476]),
  (1058, .invokestatic 293, 3, [1, 237, 2, 1401]),
  (1061, .sipush (-1002), 3, []),
  (1064, .if_icmp .ne 85, 3, []),
  (1067, .aload_n 0, 1, []),
  (1068, .iconst 2, 1, []),
  (1069, .bipush 6, 2, []),
  (1071, .iconst 0, 1, []),
  (1072, .invokestatic 336, 3, [1, 239, 4, 1477]),
  (1075, .ifCond .eq 74, 3, []),
  (1078, .aload_n 0, 1, []),
  (1079, .new 271, 3, [0, 1, 1392, 267, 27]),
  (1082, .dup, 1, []),
  (1083, .invokespecial 273, 3, [2, 154, 1, 1393]),
  (1086, .ldc_w 340, 3, [1, 46, 1480]),
  (1089, .invokevirtual 276, 3, [0, 155, 2, 1395, 1]),
  (1092, .iload 7, 2, []),
  (1094, .invokevirtual 280, 3, [0, 157, 2, 1396, 1]),
  (1097, .invokevirtual 285, 3, [0, 158, 1, 1398, 1]),
  (1100, .invokestatic 293, 3, [1, 237, 2, 1401]),
  (1103, .sipush (-1002), 3, []),
  (1106, .if_icmp .ne 43, 3, []),
  (1109, .aload_n 0, 1, []),
  (1110, .iconst 1, 1, []),
  (1111, .iconst 4, 1, []),
  (1112, .iload 7, 2, []),
  (1114, .invokestatic 336, 3, [1, 239, 4, 1477]),
  (1117, .ifCond .eq 32, 3, []),
  (1120, .aload_n 0, 1, []),
  (1121, .invokestatic 332, 3, [1, 228, 1, 835]),
  (1124, .ifCond .ne 25, 3, []),
  (1127, .aload_n 0, 1, []),
  (1128, .invokevirtual 301, 3, [0, 107, 1, 347, 11]),
  (1131, .iload 4, 2, []),
  (1133, .if_icmp .ne 16, 3, []),
  (1136, .aload_n 0, 1, []),
  (1137, .invokestatic 297, 3, [1, 241, 1, 944]),
  (1140, .lload_n 1, 1, []),
  (1141, .lcmp, 1, []),
  (1142, .ifCond .ne 7, 3, []),
  (1145, .iconst 1, 1, []),
  (1146, .goto 4, 3, []),
  (1149, .iconst 0, 1, []),
  (1150, .ireturn, 1, [])]
def xcL_law : List xE := [(0, .new 8, 3, [0, 11, 52, 53, 16]),
  (3, .dup, 1, []),
  (4, .invokespecial 342, 3, [2, 61, 1, 54]),
  (7, .astore_n 1, 1, []),
  (8, .aload_n 1, 1, []),
  (9, .invokestatic 343, 3, [1, 235, 1, 858]),
  (12, .sipush (-1001), 3, []),
  (15, .if_icmp .ne 52, 3, []),
  (18, .aload_n 1, 1, []),
  (19, .invokestatic 345, 3, [1, 236, 1, 869]),
  (22, .sipush (-1001), 3, []),
  (25, .if_icmp .ne 42, 3, []),
  (28, .aload_n 1, 1, []),
  (29, .invokevirtual 348, 3, [0, 108, 1, 351, 11]),
  (32, .ifCond .ne 35, 3, []),
  (35, .aload_n 1, 1, []),
  (36, .invokestatic 264, 3, [1, 199, 1, 518]),
  (39, .sipush (-1001), 3, []),
  (42, .if_icmp .ne 25, 3, []),
  (45, .aload_n 1, 1, []),
  (46, .iconst 3, 1, []),
  (47, .iconst 0, 1, []),
  (48, .invokestatic 304, 3, [1, 238, 3, 880]),
  (51, .ifCond .eq 16, 3, []),
  (54, .aload_n 1, 1, []),
  (55, .iconst 0, 1, []),
  (56, .bipush 24, 2, []),
  (58, .bipush 10, 2, []),
  (60, .invokestatic 199, 3, [1, 216, 4, 593]),
  (63, .iconst 1, 1, []),
  (64, .if_icmp .eq 5, 3, []),
  (67, .iconst 0, 1, []),
  (68, .ireturn, 1, []),
  (69, .iconst 0, 1, []),
  (70, .istore_n 2, 1, []),
  (71, .iload_n 2, 1, []),
  (72, .bipush 60, 2, []),
  (74, .if_icmp .ge 26, 3, []),
  (77, .aload_n 1, 1, []),
  (78, .bipush 65, 2, []),
  (80, .iload_n 2, 1, []),
  (81, .iadd, 1, []),
  (82, .i2c, 1, []),
  (83, .invokestatic 159, 3, [1, 226, 2, 650]),
  (86, .iload_n 2, 1, []),
  (87, .iconst 1, 1, []),
  (88, .iadd, 1, []),
  (89, .if_icmp .eq 5, 3, []),
  (92, .iconst 0, 1, []),
  (93, .ireturn, 1, []),
  (94, .iinc 2 1, 3, []),
  (97, .goto (-26), 3, []),
  (100, .aload_n 1, 1, []),
  (101, .bipush 99, 2, []),
  (103, .invokestatic 159, 3, [1, 226, 2, 650]),
  (106, .sipush (-1001), 3, []),
  (109, .if_icmp .ne 48, 3, []),
  (112, .aload_n 1, 1, []),
  (113, .invokestatic 164, 3, [1, 227, 1, 683]),
  (116, .sipush (-1001), 3, []),
  (119, .if_icmp .ne 38, 3, []),
  (122, .aload_n 1, 1, []),
  (123, .invokestatic 332, 3, [1, 228, 1, 835]),
  (126, .ifCond .ne 31, 3, []),
  (129, .aload_n 1, 1, []),
  (130, .bipush 99, 2, []),
  (132, .invokestatic 159, 3, [1, 226, 2, 650]),
  (135, .iconst 1, 1, []),
  (136, .if_icmp .ne 21, 3, []),
  (139, .aload_n 1, 1, []),
  (140, .invokestatic 164, 3, [1, 227, 1, 683]),
  (143, .sipush (-1001), 3, []),
  (146, .if_icmp .ne 11, 3, []),
  (149, .aload_n 1, 1, []),
  (150, .invokestatic 332, 3, [1, 228, 1, 835]),
  (153, .iconst 1, 1, []),
  (154, .if_icmp .eq 5, 3, []),
  (157, .iconst 0, 1, []),
  (158, .ireturn, 1, []),
  (159, .iconst 0, 1, []),
  (160, .istore_n 2, 1, []),
  (161, .iload_n 2, 1, []),
  (162, .bipush 8, 2, []),
  (164, .if_icmp .ge 25, 3, []),
  (167, .aload_n 1, 1, []),
  (168, .bipush 10, 2, []),
  (170, .bipush 50, 2, []),
  (172, .bipush 100, 2, []),
  (174, .invokestatic 186, 3, [1, 198, 4, 370]),
  (177, .iload_n 2, 1, []),
  (178, .if_icmp .eq 5, 3, []),
  (181, .iconst 0, 1, []),
  (182, .ireturn, 1, []),
  (183, .iinc 2 1, 3, []),
  (186, .goto (-25), 3, []),
  (189, .aload_n 1, 1, []),
  (190, .iconst 1, 1, []),
  (191, .iconst 5, 1, []),
  (192, .iconst 1, 1, []),
  (193, .invokestatic 186, 3, [1, 198, 4, 370]),
  (196, .sipush (-1002), 3, []),
  (199, .if_icmp .ne 98, 3, []),
  (202, .aload_n 1, 1, []),
  (203, .iconst 1, 1, []),
  (204, .bipush 8, 2, []),
  (206, .invokestatic 304, 3, [1, 238, 3, 880]),
  (209, .ifCond .eq 88, 3, []),
  (212, .aload_n 1, 1, []),
  (213, .iconst 2, 1, []),
  (214, .invokestatic 201, 3, [1, 217, 2, 604]),
  (217, .ifCond .ne 80, 3, []),
  (220, .aload_n 1, 1, []),
  (221, .iconst 0, 1, []),
  (222, .invokestatic 314, 3, [1, 202, 2, 580]),
  (225, .bipush 15, 2, []),
  (227, .if_icmp .ne 70, 3, []),
  (230, .aload_n 1, 1, []),
  (231, .iconst 1, 1, []),
  (232, .invokestatic 314, 3, [1, 202, 2, 580]),
  (235, .iconst 5, 1, []),
  (236, .if_icmp .ne 61, 3, []),
  (239, .aload_n 1, 1, []),
  (240, .invokevirtual 229, 3, [0, 92, 1, 339, 11]),
  (243, .bipush 20, 2, []),
  (245, .if_icmp .ne 52, 3, []),
  (248, .aload_n 1, 1, []),
  (249, .bipush 7, 2, []),
  (251, .bipush 40, 2, []),
  (253, .invokestatic 189, 3, [1, 201, 3, 533]),
  (256, .iconst 4, 1, []),
  (257, .if_icmp .ne 40, 3, []),
  (260, .aload_n 1, 1, []),
  (261, .iconst 1, 1, []),
  (262, .invokestatic 201, 3, [1, 217, 2, 604]),
  (265, .bipush 20, 2, []),
  (267, .if_icmp .ne 30, 3, []),
  (270, .aload_n 1, 1, []),
  (271, .invokevirtual 232, 3, [0, 93, 1, 343, 11]),
  (274, .bipush 20, 2, []),
  (276, .if_icmp .ne 21, 3, []),
  (279, .aload_n 1, 1, []),
  (280, .invokestatic 264, 3, [1, 199, 1, 518]),
  (283, .bipush 20, 2, []),
  (285, .if_icmp .ne 12, 3, []),
  (288, .aload_n 1, 1, []),
  (289, .invokevirtual 301, 3, [0, 107, 1, 347, 11]),
  (292, .bipush 8, 2, []),
  (294, .if_icmp .eq 5, 3, []),
  (297, .iconst 0, 1, []),
  (298, .ireturn, 1, []),
  (299, .aload_n 1, 1, []),
  (300, .invokestatic 343, 3, [1, 235, 1, 858]),
  (303, .bipush 7, 2, []),
  (305, .if_icmp .ne 141, 3, []),
  (308, .aload_n 1, 1, []),
  (309, .invokevirtual 203, 3, [0, 66, 1, 327, 11]),
  (312, .bipush 8, 2, []),
  (314, .if_icmp .ne 132, 3, []),
  (317, .aload_n 1, 1, []),
  (318, .invokestatic 343, 3, [1, 235, 1, 858]),
  (321, .bipush 6, 2, []),
  (323, .if_icmp .ne 123, 3, []),
  (326, .aload_n 1, 1, []),
  (327, .invokevirtual 232, 3, [0, 93, 1, 343, 11]),
  (330, .ifCond .ne 116, 3, []),
  (333, .aload_n 1, 1, []),
  (334, .invokevirtual 226, 3, [0, 83, 1, 331, 11]),
  (337, .iconst 2, 1, []),
  (338, .if_icmp .ne 108, 3, []),
  (341, .aload_n 1, 1, []),
  (342, .invokestatic 343, 3, [1, 235, 1, 858]),
  (345, .iconst 5, 1, []),
  (346, .if_icmp .ne 100, 3, []),
  (349, .aload_n 1, 1, []),
  (350, .bipush 7, 2, []),
  (352, .invokestatic 314, 3, [1, 202, 2, 580]),
  (355, .ifCond .ne 91, 3, []),
  (358, .aload_n 1, 1, []),
  (359, .invokestatic 343, 3, [1, 235, 1, 858]),
  (362, .iconst 4, 1, []),
  (363, .if_icmp .ne 83, 3, []),
  (366, .aload_n 1, 1, []),
  (367, .invokevirtual 226, 3, [0, 83, 1, 331, 11]),
  (370, .ifCond .ne 76, 3, []),
  (373, .aload_n 1, 1, []),
  (374, .invokevirtual 229, 3, [0, 92, 1, 339, 11]),
  (377, .ifCond .ne 69, 3, []),
  (380, .aload_n 1, 1, []),
  (381, .invokestatic 343, 3, [1, 235, 1, 858]),
  (384, .iconst 3, 1, []),
  (385, .if_icmp .ne 61, 3, []),
  (388, .aload_n 1, 1, []),
  (389, .invokevirtual 203, 3, [0, 66, 1, 327, 11]),
  (392, .bipush 7, 2, []),
  (394, .if_icmp .ne 52, 3, []),
  (397, .aload_n 1, 1, []),
  (398, .invokestatic 343, 3, [1, 235, 1, 858]),
  (401, .iconst 2, 1, []),
  (402, .if_icmp .ne 44, 3, []),
  (405, .aload_n 1, 1, []),
  (406, .invokestatic 343, 3, [1, 235, 1, 858]),
  (409, .iconst 1, 1, []),
  (410, .if_icmp .ne 36, 3, []),
  (413, .aload_n 1, 1, []),
  (414, .invokestatic 343, 3, [1, 235, 1, 858]),
  (417, .ifCond .ne 29, 3, []),
  (420, .aload_n 1, 1, []),
  (421, .invokevirtual 203, 3, [0, 66, 1, 327, 11]),
  (424, .iconst 4, 1, []),
  (425, .if_icmp .ne 21, 3, []),
  (428, .aload_n 1, 1, []),
  (429, .invokevirtual 238, 3, [0, 84, 1, 335, 11]),
  (432, .iconst 1, 1, []),
  (433, .if_icmp .ne 13, 3, []),
  (436, .aload_n 1, 1, []),
  (437, .invokestatic 343, 3, [1, 235, 1, 858]),
  (440, .sipush (-1001), 3, []),
  (443, .if_icmp .eq 5, 3, []),
  (446, .iconst 0, 1, []),
  (447, .ireturn, 1, []),
  (448, .aload_n 1, 1, []),
  (449, .invokestatic 345, 3, [1, 236, 1, 869]),
  (452, .ifCond .ne 27, 3, []),
  (455, .aload_n 1, 1, []),
  (456, .invokevirtual 203, 3, [0, 66, 1, 327, 11]),
  (459, .ifCond .ne 20, 3, []),
  (462, .aload_n 1, 1, []),
  (463, .invokevirtual 238, 3, [0, 84, 1, 335, 11]),
  (466, .ifCond .ne 13, 3, []),
  (469, .aload_n 1, 1, []),
  (470, .invokestatic 343, 3, [1, 235, 1, 858]),
  (473, .sipush (-1001), 3, []),
  (476, .if_icmp .eq 5, 3, []),
  (479, .iconst 0, 1, []),
  (480, .ireturn, 1, []),
  (481, .new 8, 3, [0, 11, 52, 53, 16]),
  (484, .dup, 1, []),
  (485, .invokespecial 342, 3, [2, 61, 1, 54]),
  (488, .astore_n 2, 1, []),
  (489, .aload_n 2, 1, []),
  (490, .aload_n 0, 1, []),
  (491, .invokestatic 351, 3, [1, 240, 2, 914]),
  (494, .ifCond .ne 5, 3, []),
  (497, .iconst 0, 1, []),
  (498, .ireturn, 1, []),
  (499, .aload_n 2, 1, []),
  (500, .invokestatic 297, 3, [1, 241, 1, 944]),
  (503, .lstore_n 3, 1, []),
  (504, .aload_n 2, 1, []),
  (505, .invokestatic 297, 3, [1, 241, 1, 944]),
  (508, .lload_n 3, 1, []),
  (509, .lcmp, 1, []),
  (510, .ifCond .ne 10, 3, []),
  (513, .aload_n 2, 1, []),
  (514, .invokestatic 355, 3, [1, 243, 1, 1405]),
  (517, .ifCond .ne 5, 3, []),
  (520, .iconst 0, 1, []),
  (521, .ireturn, 1, []),
  (522, .aload_n 2, 1, []),
  (523, .invokevirtual 348, 3, [0, 108, 1, 351, 11]),
  (526, .istore 5, 2, []),
  (528, .iload 5, 2, []),
  (530, .aload_n 2, 1, []),
  (531, .invokevirtual 203, 3, [0, 66, 1, 327, 11]),
  (534, .if_icmp .ne 28, 3, []),
  (537, .aload_n 2, 1, []),
  (538, .invokestatic 297, 3, [1, 241, 1, 944]),
  (541, .lload_n 3, 1, []),
  (542, .lcmp, 1, []),
  (543, .ifCond .ne 19, 3, []),
  (546, .aload_n 2, 1, []),
  (547, .invokestatic 345, 3, [1, 236, 1, 869]),
  (550, .iload 5, 2, []),
  (552, .if_icmp .ne 10, 3, []),
  (555, .aload_n 2, 1, []),
  (556, .invokevirtual 301, 3, [0, 107, 1, 347, 11]),
  (559, .ifCond .eq 5, 3, []),
  (562, .iconst 0, 1, []),
  (563, .ireturn, 1, []),
  (564, .bipush 9, 2, []),
  (566, .newarray .long, 2, []),
  (568, .astore 6, 2, []),
  (570, .iconst 0, 1, []),
  (571, .istore 7, 2, []),
  (573, .iconst 0, 1, []),
  (574, .istore 8, 2, []),
  (576, .iload 8, 2, []),
  (578, .bipush 8, 2, []),
  (580, .if_icmp .ge 74, 3, []),
  (583, .aload_n 2, 1, []),
  (584, .invokestatic 297, 3, [1, 241, 1, 944]),
  (587, .lstore 9, 2, []),
  (589, .aload_n 2, 1, []),
  (590, .aload_n 0, 1, []),
  (591, .bipush 20, 2, []),
  (593, .iload 8, 2, []),
  (595, .iadd, 1, []),
  (596, .invokestatic 179, 3, [1, 196, 2, 367]),
  (599, .iload 8, 2, []),
  (601, .sipush 977, 3, []),
  (604, .imul, 1, []),
  (605, .ixor, 1, []),
  (606, .invokestatic 359, 3, [1, 242, 2, 1379]),
  (609, .ifCond .eq 16, 3, []),
  (612, .aload 6, 2, []),
  (614, .iload 7, 2, []),
  (616, .iinc 7 1, 3, []),
  (619, .lload 9, 2, []),
  (621, .lastore, 1, []),
  (622, .goto 15, 3, []),
  (625, .aload_n 2, 1, []),
  (626, .invokestatic 297, 3, [1, 241, 1, 944]),
  (629, .lload 9, 2, []),
  (631, .lcmp, 1, []),
  (632, .ifCond .eq 5, 3, []),
  (635, .iconst 0, 1, []),
  (636, .ireturn, 1, []),
  (637, .aload_n 2, 1, []),
  (638, .invokevirtual 301, 3, [0, 107, 1, 347, 11]),
  (641, .iload 7, 2, []),
  (643, .if_icmp .eq 5, 3, []),
  (646, .iconst 0, 1, []),
  (647, .ireturn, 1, []),
  (648, .iinc 8 1, 3, []),
  (651, .goto (-75), 3, []),
  (654, .iconst 1, 1, []),
  (655, .istore 8, 2, []),
  (657, .iload 8, 2, []),
  (659, .iload 7, 2, []),
  (661, .if_icmp .gt 39, 3, []),
  (664, .aload_n 2, 1, []),
  (665, .invokestatic 343, 3, [1, 235, 1, 858]),
  (668, .iload 7, 2, []),
  (670, .iload 8, 2, []),
  (672, .isub, 1, []),
  (673, .if_icmp .ne 19, 3, []),
  (676, .aload_n 2, 1, []),
  (677, .invokestatic 297, 3, [1, 241, 1, 944]),
  (680, .aload 6, 2, []),
  (682, .iload 7, 2, []),
  (684, .iload 8, 2, []),
  (686, .isub, 1, []),
  (687, .laload, 1, []),
  (688, .lcmp, 1, []),
  (689, .ifCond .eq 5, 3, []),
  (692, .iconst 0, 1, []),
  (693, .ireturn, 1, []),
  (694, .iinc 8 1, 3, []),
  (697, .goto (-40), 3, []),
  (700, .aload_n 2, 1, []),
  (701, .invokestatic 343, 3, [1, 235, 1, 858]),
  (704, .sipush (-1001), 3, []),
  (707, .if_icmp .ne 35, 3, []),
  (710, .aload_n 2, 1, []),
  (711, .invokestatic 345, 3, [1, 236, 1, 869]),
  (714, .iload 5, 2, []),
  (716, .if_icmp .ne 26, 3, []),
  (719, .aload_n 2, 1, []),
  (720, .invokestatic 297, 3, [1, 241, 1, 944]),
  (723, .lload_n 3, 1, []),
  (724, .lcmp, 1, []),
  (725, .ifCond .ne 17, 3, []),
  (728, .aload_n 2, 1, []),
  (729, .invokestatic 343, 3, [1, 235, 1, 858]),
  (732, .sipush (-1001), 3, []),
  (735, .if_icmp .ne 7, 3, []),
  (738, .iconst 1, 1, []),
  (739, .goto 4, 3, []),
  (742, .iconst 0, 1, []),
  (743, .ireturn, 1, [])]
def xMs : List xMi := [(yX1_init, cX1_init, 1, none, [], [], xcX1_init),
  (yX1_put, cX1_put, 3, none, [], [], xcX1_put),
  (yX2_init, cX2_init, 1, none, [], [], xcX2_init),
  (yX2_keep, cX2_keep, 5, none, [], [], xcX2_keep),
  (yX3_init, cX3_init, 2, none, [], [], xcX3_init),
  (yX3_nextRow, cX3_nextRow, 1, (some (.object "RiverReaches$River")), [], [], xcX3_nextRow),
  (yX3_note, cX3_note, 2, none, [], [], xcX3_note),
  (yX3_confirm, cX3_confirm, 1, none, [], [], xcX3_confirm),
  (yX3_putBack, cX3_putBack, 2, none, [], [], xcX3_putBack),
  (yX3_takeBack, cX3_takeBack, 2, none, [], [], xcX3_takeBack),
  (yX3_forgetAll, cX3_forgetAll, 1, none, [], [], xcX3_forgetAll),
  (yX5_init, cX5_init, 1, none, [], [], xcX5_init),
  (yX5_begin, cX5_begin, 4, none, [], [], xcX5_begin),
  (yX5_end, cX5_end, 1, (some .int), [], [], xcX5_end),
  (yX5_rateIn, cX5_rateIn, 2, (some .int), [], [], xcX5_rateIn),
  (yX6_init, cX6_init, 1, none, [], [], xcX6_init),
  (yX6_begin, cX6_begin, 4, none, [], [], xcX6_begin),
  (yX6_copyFrom, cX6_copyFrom, 2, none, [], [], xcX6_copyFrom),
  (yX6_levelNow, cX6_levelNow, 1, (some .int), [], [], xcX6_levelNow),
  (yX6_statusNow, cX6_statusNow, 1, (some .int), [], [], xcX6_statusNow),
  (yX6_comesBefore, cX6_comesBefore, 4, (some .boolean), [], [], xcX6_comesBefore),
  (yX7_init, cX7_init, 2, none, [], [], xcX7_init),
  (yX7_copyFrom, cX7_copyFrom, 4, none, [], [], xcX7_copyFrom),
  (yX7_hasReach, cX7_hasReach, 2, (some .boolean), [], [], xcX7_hasReach),
  (yX7_row, cX7_row, 2, (some (.object "RiverReaches$Reach")), [], [], xcX7_row),
  (yX7_perform, cX7_perform, 2, (some .int), [], [], xcX7_perform),
  (yX7_detailOf, cX7_detailOf, 3, (some .int), [], [], xcX7_detailOf),
  (yX7_appendReach, cX7_appendReach, 4, (some .int), [], [], xcX7_appendReach),
  (yX7_cutReach, cX7_cutReach, 2, (some .int), [], [], xcX7_cutReach),
  (yX7_changeLateral, cX7_changeLateral, 5, (some .int), [], [], xcX7_changeLateral),
  (yX7_pourInto, cX7_pourInto, 4, (some .int), [], [], xcX7_pourInto),
  (yX7_changeStages, cX7_changeStages, 5, (some .int), [], [], xcX7_changeStages),
  (yX7_changeSetting, cX7_changeSetting, 5, (some .int), [], [], xcX7_changeSetting),
  (yX7_changeRule, cX7_changeRule, 4, (some .int), [], [], xcX7_changeRule),
  (yX7_appendPulse, cX7_appendPulse, 4, (some .int), [], [], xcX7_appendPulse),
  (yX7_letPass, cX7_letPass, 4, (some .int), [], [], xcX7_letPass),
  (yX7_passHour, cX7_passHour, 4, (some .int), [], [], xcX7_passHour),
  (yX7_dropPassedPulses, cX7_dropPassedPulses, 4, none, [], [], xcX7_dropPassedPulses),
  (yX7_inflowOf, cX7_inflowOf, 3, (some .int), [], [], xcX7_inflowOf),
  (yX7_outflowOf, cX7_outflowOf, 5, (some .int), [], [], xcX7_outflowOf),
  (yX7_openingOf, cX7_openingOf, 3, (some .int), [], [], xcX7_openingOf),
  (yX7_headInflowIn, cX7_headInflowIn, 4, (some .int), [], [], xcX7_headInflowIn),
  (yX7_comingByHours, cX7_comingByHours, 4, (some .int), [], [], xcX7_comingByHours),
  (yX7_countAhead, cX7_countAhead, 6, (some .int), [], [], xcX7_countAhead),
  (yX7_volumeOfAll, cX7_volumeOfAll, 3, (some .int), [], [], xcX7_volumeOfAll),
  (yX7_sumOfLevels, cX7_sumOfLevels, 3, (some .int), [], [], xcX7_sumOfLevels),
  (yX7_countFlooded, cX7_countFlooded, 3, (some .int), [], [], xcX7_countFlooded),
  (yX8_init, cX8_init, 2, none, [], [], xcX8_init),
  (yX8_isFull, cX8_isFull, 1, (some .boolean), [], [], xcX8_isFull),
  (yX8_append, cX8_append, 2, (some .int), [], [], xcX8_append),
  (yX8_empty, cX8_empty, 1, none, [], [], xcX8_empty),
  (yX8_commandAt, cX8_commandAt, 2, (some (.object "RiverReaches$Command")), [], [], xcX8_commandAt),
  (yX8_parse, cX8_parse, 2, (some .int), [], [], xcX8_parse),
  (yX8_takeCommand, cX8_takeCommand, 5, (some .boolean), [], [], xcX8_takeCommand),
  (yX8_takeWord, cX8_takeWord, 7, (some (.object "RiverReaches$Kind")), [], [], xcX8_takeWord),
  (yX8_sharedLength, cX8_sharedLength, 3, (some .int), [], [], xcX8_sharedLength),
  (yX8_takeParameter, cX8_takeParameter, 2, (some .int), [], [], xcX8_takeParameter),
  (yX8_takeLetter, cX8_takeLetter, 2, (some .int), [], [], xcX8_takeLetter),
  (yX8_takeDigits, cX8_takeDigits, 5, (some .int), [], [], xcX8_takeDigits),
  (yX8_takeSign, cX8_takeSign, 2, (some .boolean), [], [], xcX8_takeSign),
  (yX8_signAt, cX8_signAt, 2, (some .int), [], [], xcX8_signAt),
  (yX9_init, cX9_init, 1, none, [], [], xcX9_init),
  (yX9_addReach, cX9_addReach, 4, (some .int), [], [], xcX9_addReach),
  (yX9_removeLastReach, cX9_removeLastReach, 1, (some .int), [], [], xcX9_removeLastReach),
  (yX9_setLateral, cX9_setLateral, 3, (some .int), [], [], xcX9_setLateral),
  (yX9_fill, cX9_fill, 3, (some .int), [], [], xcX9_fill),
  (yX9_reachCount, cX9_reachCount, 1, (some .int), [], [], xcX9_reachCount),
  (yX9_volume, cX9_volume, 2, (some .int), [], [], xcX9_volume),
  (yX9_lateral, cX9_lateral, 2, (some .int), [], [], xcX9_lateral),
  (yX9_inflow, cX9_inflow, 2, (some .int), [], [], xcX9_inflow),
  (yX9_outflow, cX9_outflow, 2, (some .int), [], [], xcX9_outflow),
  (yX9_setStages, cX9_setStages, 4, (some .int), [], [], xcX9_setStages),
  (yX9_setGate, cX9_setGate, 3, (some .int), [], [], xcX9_setGate),
  (yX9_setRule, cX9_setRule, 3, (some .int), [], [], xcX9_setRule),
  (yX9_level, cX9_level, 2, (some .int), [], [], xcX9_level),
  (yX9_status, cX9_status, 2, (some .int), [], [], xcX9_status),
  (yX9_isFlooded, cX9_isFlooded, 2, (some .boolean), [], [], xcX9_isFlooded),
  (yX9_opening, cX9_opening, 2, (some .int), [], [], xcX9_opening),
  (yX9_rule, cX9_rule, 2, (some .char), [], [], xcX9_rule),
  (yX9_roomBelowFlood, cX9_roomBelowFlood, 3, (some .int), [], [], xcX9_roomBelowFlood),
  (yX9_reachByLevel, cX9_reachByLevel, 3, (some .int), [], [], xcX9_reachByLevel),
  (yX9_addPulse, cX9_addPulse, 4, (some .int), [], [], xcX9_addPulse),
  (yX9_pass, cX9_pass, 2, (some .int), [], [], xcX9_pass),
  (yX9_hour, cX9_hour, 1, (some .int), [], [], xcX9_hour),
  (yX9_pulseCount, cX9_pulseCount, 1, (some .int), [], [], xcX9_pulseCount),
  (yX9_headInflow, cX9_headInflow, 2, (some .int), [], [], xcX9_headInflow),
  (yX9_pendingInflow, cX9_pendingInflow, 1, (some .int), [], [], xcX9_pendingInflow),
  (yX9_levelAfter, cX9_levelAfter, 3, (some .int), [], [], xcX9_levelAfter),
  (yX9_peakLevel, cX9_peakLevel, 6, (some .int), [], [], xcX9_peakLevel),
  (yX9_hoursUntilFlood, cX9_hoursUntilFlood, 4, (some .int), [], [], xcX9_hoursUntilFlood),
  (yX9_volumeAfter, cX9_volumeAfter, 2, (some .int), [], [], xcX9_volumeAfter),
  (yX9_volumeAfterByBalance, cX9_volumeAfterByBalance, 5, (some .int), [], [], xcX9_volumeAfterByBalance),
  (yX9_totalIn, cX9_totalIn, 1, (some .int), [], [], xcX9_totalIn),
  (yX9_totalOut, cX9_totalOut, 1, (some .int), [], [], xcX9_totalOut),
  (yX9_alarms, cX9_alarms, 1, (some .int), [], [], xcX9_alarms),
  (yX9_meanLevel, cX9_meanLevel, 1, (some .double), [], [], xcX9_meanLevel),
  (yX9_floodedShare, cX9_floodedShare, 1, (some .float), [], [], xcX9_floodedShare),
  (yX9_feed, cX9_feed, 2, (some .int), [], [], xcX9_feed),
  (yX9_execute, cX9_execute, 5, (some .int), [], [], xcX9_execute),
  (yX9_faultPosition, cX9_faultPosition, 1, (some .int), [], [], xcX9_faultPosition),
  (yX9_writeReach, cX9_writeReach, 4, (some .int), [], [], xcX9_writeReach),
  (yX9_lineCharacter, cX9_lineCharacter, 2, (some .char), [], [], xcX9_lineCharacter),
  (yX9_denial, cX9_denial, 1, (some .int), [], [], xcX9_denial),
  (yX9_denialDetail, cX9_denialDetail, 1, (some .int), [], [], xcX9_denialDetail),
  (yX9_denialCause, cX9_denialCause, 1, (some .int), [], [], xcX9_denialCause),
  (yX9_denialCauseDetail, cX9_denialCauseDetail, 1, (some .int), [], [], xcX9_denialCauseDetail),
  (yX9_undo, cX9_undo, 1, (some .int), [], [], xcX9_undo),
  (yX9_undoCount, cX9_undoCount, 1, (some .int), [], [], xcX9_undoCount),
  (yX9_saveSnapshot, cX9_saveSnapshot, 1, (some .int), [], [], xcX9_saveSnapshot),
  (yX9_restoreSnapshot, cX9_restoreSnapshot, 1, (some .int), [], [], xcX9_restoreSnapshot),
  (yX9_conclude, cX9_conclude, 3, (some .int), [], [], xcX9_conclude),
  (yX9_failCommand, cX9_failCommand, 5, none, [], [], xcX9_failCommand),
  (yX9_ahead, cX9_ahead, 4, (some (.object "RiverReaches$River")), [], [], xcX9_ahead),
  (yX9_requireReach, cX9_requireReach, 2, none, [], [], xcX9_requireReach),
  (yX9_requireForecastHours, cX9_requireForecastHours, 1, none, [], [], xcX9_requireForecastHours),
  (yX9_requireDenial, cX9_requireDenial, 1, none, [], [], xcX9_requireDenial),
  (yX9_within, cX9_within, 3, (some .boolean), [], [], xcX9_within),
  (yX9_isRule, cX9_isRule, 1, (some .boolean), [], [], xcX9_isRule),
  (yJ5_init_d00df, cJ5_init_d00df, 2, none, [], [], xcJ5_init_d00df),
  (yJ5_length_8abf5, cJ5_length_8abf5, 1, (some .int), [], [], xcJ5_length_8abf5),
  (yJ5_ensureCapacityInternal_d00df, cJ5_ensureCapacityInternal_d00df, 3, none, [], [], xcJ5_ensureCapacityInternal_d00df),
  (yJ5_newCapacity_0f7a4, cJ5_newCapacity_0f7a4, 6, (some .int), [], [], xcJ5_newCapacity_0f7a4),
  (yJ5_inflate_da8c8, cJ5_inflate_da8c8, 2, none, [], [], xcJ5_inflate_da8c8),
  (yJ5_setLength_d00df, cJ5_setLength_d00df, 2, none, [], [], xcJ5_setLength_d00df),
  (yJ5_charAt_5068e, cJ5_charAt_5068e, 5, (some .char), [], [], xcJ5_charAt_5068e),
  (yJ5_append_cf1ce, cJ5_append_cf1ce, 3, (some (.object "java/lang/AbstractStringBuilder")), [], [], xcJ5_append_cf1ce),
  (yJ5_appendNull_278bc, cJ5_appendNull_278bc, 3, (some (.object "java/lang/AbstractStringBuilder")), [], [], xcJ5_appendNull_278bc),
  (yJ5_append_3fe6f, cJ5_append_3fe6f, 2, (some (.object "java/lang/AbstractStringBuilder")), [], [], xcJ5_append_3fe6f),
  (yJ5_append_c97b9, cJ5_append_c97b9, 4, (some (.object "java/lang/AbstractStringBuilder")), [], [], xcJ5_append_c97b9),
  (yJ5_getValue_6d5f1, cJ5_getValue_6d5f1, 1, (some (.array .byte)), [], [], xcJ5_getValue_6d5f1),
  (yJ5_isLatin1_aae02, cJ5_isLatin1_aae02, 1, (some .boolean), [], [], xcJ5_isLatin1_aae02),
  (yJ5_inflateIfNeededFor_a7421, cJ5_inflateIfNeededFor_a7421, 2, none, [], [], xcJ5_inflateIfNeededFor_a7421),
  (yJ5_putStringAt_47b60, cJ5_putStringAt_47b60, 3, none, [], [], xcJ5_putStringAt_47b60),
  (yJx00060_init_a7421, cJx00060_init_a7421, 2, none, [], [], xcJx00060_init_a7421),
  (yJx00060_init_d00df, cJx00060_init_d00df, 2, none, [], [], xcJx00060_init_d00df),
  (yJxe99ae_isNaN_b9ae7, cJxe99ae_isNaN_b9ae7, 2, (some .boolean), [], [], xcJxe99ae_isNaN_b9ae7),
  (yJxe99ae_doubleToLongBits_ccdee, cJxe99ae_doubleToLongBits_ccdee, 2, (some .long), [], [], xcJxe99ae_doubleToLongBits_ccdee),
  (yJx29ce0_ordinal_8abf5, cJx29ce0_ordinal_8abf5, 1, (some .int), [], [], xcJx29ce0_ordinal_8abf5),
  (yJxf58ca_isNaN_12338, cJxf58ca_isNaN_12338, 1, (some .boolean), [], [], xcJxf58ca_isNaN_12338),
  (yJxf58ca_floatToIntBits_5c35a, cJxf58ca_floatToIntBits_5c35a, 1, (some .int), [], [], xcJxf58ca_floatToIntBits_5c35a),
  (yJ6_getChars_ba4f3, cJ6_getChars_ba4f3, 7, (some .int), [], [], xcJ6_getChars_ba4f3),
  (yJ6_stringSize_0f7a4, cJ6_stringSize_0f7a4, 4, (some .int), [], [], xcJ6_stringSize_0f7a4),
  (yJ9_max_7cf53, cJ9_max_7cf53, 2, (some .int), [], [], xcJ9_max_7cf53),
  (yJ9_min_7cf53, cJ9_min_7cf53, 2, (some .int), [], [], xcJ9_min_7cf53),
  (yJ0_init_81219, cJ0_init_81219, 2, none, [], [], xcJ0_init_81219),
  (yJ0_length_8abf5, cJ0_length_8abf5, 1, (some .int), [], [], xcJ0_length_8abf5),
  (yJ0_charAt_5068e, cJ0_charAt_5068e, 2, (some .char), [], [], xcJ0_charAt_5068e),
  (yJ0_getBytes_840e7, cJ0_getBytes_840e7, 4, none, [], [], xcJ0_getBytes_840e7),
  (yJ0_init_db425, cJ0_init_db425, 5, none, [], [], xcJ0_init_db425),
  (yJ0_coder_7d493, cJ0_coder_7d493, 1, (some .byte), [], [], xcJ0_coder_7d493),
  (yJ0_isLatin1_aae02, cJ0_isLatin1_aae02, 1, (some .boolean), [], [], xcJ0_isLatin1_aae02),
  (yJ0_checkIndex_df160, cJ0_checkIndex_df160, 2, none, [], [], xcJ0_checkIndex_df160),
  (yJ0_checkBoundsOffCount_cabcc, cJ0_checkBoundsOffCount_cabcc, 3, (some .int), [], [], xcJ0_checkBoundsOffCount_cabcc),
  (yJ0_checkBoundsBeginEnd_23922, cJ0_checkBoundsBeginEnd_23922, 3, none, [], [], xcJ0_checkBoundsBeginEnd_23922),
  (yJ4_init_da8c8, cJ4_init_da8c8, 1, none, [], [], xcJ4_init_da8c8),
  (yJ4_append_15ec4, cJ4_append_15ec4, 2, (some (.object "java/lang/StringBuilder")), [], [], xcJ4_append_15ec4),
  (yJ4_append_cf468, cJ4_append_cf468, 2, (some (.object "java/lang/StringBuilder")), [], [], xcJ4_append_cf468),
  (yJ4_append_bf812, cJ4_append_bf812, 2, (some (.object "java/lang/StringBuilder")), [], [], xcJ4_append_bf812),
  (yJ4_toString_0e30d, cJ4_toString_0e30d, 1, (some (.object "java/lang/String")), [], [], xcJ4_toString_0e30d),
  (yJ4_charAt_5068e, cJ4_charAt_5068e, 2, (some .char), [], [], xcJ4_charAt_5068e),
  (yJ4_setLength_d00df, cJ4_setLength_d00df, 2, none, [], [], xcJ4_setLength_d00df),
  (yJ4_length_8abf5, cJ4_length_8abf5, 1, (some .int), [], [], xcJ4_length_8abf5),
  (yJx7c733_init_d00df, cJx7c733_init_d00df, 2, none, [], [], xcJx7c733_init_d00df),
  (yJ1_charAt_3b067, cJ1_charAt_3b067, 2, (some .char), [], [], xcJ1_charAt_3b067),
  (yJ1_canEncode_fc78d, cJ1_canEncode_fc78d, 1, (some .boolean), [], [], xcJ1_canEncode_fc78d),
  (yJ1_fillNull_b72d1, cJ1_fillNull_b72d1, 3, none, [], [], xcJ1_fillNull_b72d1),
  (yJ1_inflate_0e8fd, cJ1_inflate_0e8fd, 5, none, [], [], xcJ1_inflate_0e8fd),
  (yJ2_newBytesFor_77867, cJ2_newBytesFor_77867, 1, (some (.array .byte)), [], [], xcJ2_newBytesFor_77867),
  (yJ2_newBytesLength_0f7a4, cJ2_newBytesLength_0f7a4, 1, (some .int), [], [], xcJ2_newBytesLength_0f7a4),
  (yJ2_putChar_b72d1, cJ2_putChar_b72d1, 3, none, [], [], xcJ2_putChar_b72d1),
  (yJ2_getChar_3b067, cJ2_getChar_3b067, 2, (some .char), [], [], xcJ2_getChar_3b067),
  (yJ2_length_9d52b, cJ2_length_9d52b, 1, (some .int), [], [], xcJ2_length_9d52b),
  (yJ2_coderFromArrayLen_85cad, cJ2_coderFromArrayLen_85cad, 2, (some .byte), [], [], xcJ2_coderFromArrayLen_85cad),
  (yJ2_compress_39247, cJ2_compress_39247, 6, (some (.array .byte)), [], [], xcJ2_compress_39247),
  (yJ2_compress_5af95, cJ2_compress_5af95, 7, (some .int), [], [], xcJ2_compress_5af95),
  (yJ2_fillNull_b72d1, cJ2_fillNull_b72d1, 3, none, [], [], xcJ2_fillNull_b72d1),
  (yJ2_putCharSB_b72d1, cJ2_putCharSB_b72d1, 3, none, [], [], xcJ2_putCharSB_b72d1),
  (yJ2_getChars_46870, cJ2_getChars_46870, 5, (some .int), [], [], xcJ2_getChars_46870),
  (yJ2_putCharsAt_cd4e5, cJ2_putCharsAt_cd4e5, 7, (some .int), [], [], xcJ2_putCharsAt_cd4e5),
  (yJ2_charAt_3b067, cJ2_charAt_3b067, 2, (some .char), [], [], xcJ2_charAt_3b067),
  (yJ2_inflate_0e8fd, cJ2_inflate_0e8fd, 6, none, [], [], xcJ2_inflate_0e8fd),
  (yJ2_getChars_ba4f3, cJ2_getChars_ba4f3, 7, (some .int), [], [], xcJ2_getChars_ba4f3),
  (yJ2_checkIndex_2214a, cJ2_checkIndex_2214a, 2, none, [], [], xcJ2_checkIndex_2214a),
  (yJ2_checkBoundsBeginEnd_d044e, cJ2_checkBoundsBeginEnd_d044e, 3, none, [], [], xcJ2_checkBoundsBeginEnd_d044e),
  (yJ2_checkBoundsOffCount_d044e, cJ2_checkBoundsOffCount_d044e, 3, none, [], [], xcJ2_checkBoundsOffCount_d044e),
  (yJ7_rangeCheck_23922, cJ7_rangeCheck_23922, 3, none, [], [], xcJ7_rangeCheck_23922),
  (yJ7_fill_eb02e, cJ7_fill_eb02e, 5, none, [], [], xcJ7_fill_eb02e),
  (yJ7_copyOf_9075b, cJ7_copyOf_9075b, 3, (some (.array .byte)), [], [], xcJ7_copyOf_9075b),
  (yJ7_checkLength_df160, cJ7_checkLength_df160, 2, none, [], [], xcJ7_checkLength_df160),
  (yJ7_copyOfRange_39247, cJ7_copyOfRange_39247, 3, (some (.array .byte)), [], [], xcJ7_copyOfRange_39247),
  (yJ7_copyOfRangeByte_39247, cJ7_copyOfRangeByte_39247, 5, (some (.array .byte)), [], [], xcJ7_copyOfRangeByte_39247),
  (yJ8_newLength_cabcc, cJ8_newLength_cabcc, 4, (some .int), [], [], xcJ8_newLength_cabcc),
  (yJ8_hugeLength_7cf53, cJ8_hugeLength_7cf53, 3, (some .int), [], [], xcJ8_hugeLength_7cf53),
  (yJ3_checkIndex_8e157, cJ3_checkIndex_8e157, 3, (some .int), [], [], xcJ3_checkIndex_8e157),
  (yJ3_checkFromToIndex_8c36e, cJ3_checkFromToIndex_8c36e, 4, (some .int), [], [], xcJ3_checkFromToIndex_8c36e),
  (yJ3_checkFromIndexSize_8c36e, cJ3_checkFromIndexSize_8c36e, 4, (some .int), [], [], xcJ3_checkFromIndexSize_8c36e),
  (yL_at, cL_at, 2, (some .int), [], [], xcL_at),
  (yL_some, cL_some, 3, (some .int), [], [], xcL_some),
  (yL_addReach, cL_addReach, 5, (some .int), [(0, 7, 8, 13), (0, 7, 14, 15)], [1, 2], xcL_addReach),
  (yL_removeLast, cL_removeLast, 2, (some .int), [(0, 4, 5, 15)], [2], xcL_removeLast),
  (yL_setLateral, cL_setLateral, 4, (some .int), [(0, 6, 7, 25), (0, 6, 12, 13), (0, 6, 17, 15)], [0, 1, 2], xcL_setLateral),
  (yL_fill, cL_fill, 4, (some .int), [(0, 6, 7, 25), (0, 6, 12, 13)], [0, 1], xcL_fill),
  (yL_volume, cL_volume, 3, (some .int), [(0, 5, 6, 25)], [0], xcL_volume),
  (yL_lateral, cL_lateral, 3, (some .int), [(0, 5, 6, 25)], [0], xcL_lateral),
  (yL_inflow, cL_inflow, 3, (some .int), [(0, 5, 6, 25)], [0], xcL_inflow),
  (yL_outflow, cL_outflow, 3, (some .int), [(0, 5, 6, 25)], [0], xcL_outflow),
  (yL_setStages, cL_setStages, 5, (some .int), [(0, 7, 8, 25), (0, 7, 14, 13)], [0, 1], xcL_setStages),
  (yL_setGate, cL_setGate, 4, (some .int), [(0, 6, 7, 25), (0, 6, 12, 13), (0, 6, 17, 15)], [0, 1, 2], xcL_setGate),
  (yL_setRule, cL_setRule, 4, (some .int), [(0, 6, 7, 25), (0, 6, 12, 13), (0, 6, 17, 15)], [0, 1, 2], xcL_setRule),
  (yL_level, cL_level, 3, (some .int), [(0, 5, 6, 25)], [0], xcL_level),
  (yL_status, cL_status, 3, (some .int), [(0, 5, 6, 25)], [0], xcL_status),
  (yL_isFlooded, cL_isFlooded, 3, (some .int), [(0, 13, 14, 25)], [0], xcL_isFlooded),
  (yL_opening, cL_opening, 3, (some .int), [(0, 5, 6, 25)], [0], xcL_opening),
  (yL_rule, cL_rule, 3, (some .int), [(0, 5, 6, 25)], [0], xcL_rule),
  (yL_room, cL_room, 3, (some .int), [(0, 5, 6, 25), (0, 5, 11, 73)], [0, 3], xcL_room),
  (yL_byLevel, cL_byLevel, 3, (some .int), [(0, 5, 6, 73)], [3], xcL_byLevel),
  (yL_addPulse, cL_addPulse, 5, (some .int), [(0, 7, 8, 13), (0, 7, 14, 15)], [1, 2], xcL_addPulse),
  (yL_pass, cL_pass, 3, (some .int), [(0, 5, 6, 13), (0, 5, 11, 15)], [1, 2], xcL_pass),
  (yL_headInflow, cL_headInflow, 3, (some .int), [(0, 5, 6, 13)], [1], xcL_headInflow),
  (yL_levelAfter, cL_levelAfter, 4, (some .int), [(0, 6, 7, 25), (0, 6, 12, 13)], [0, 1], xcL_levelAfter),
  (yL_peak, cL_peak, 4, (some .int), [(0, 6, 7, 25), (0, 6, 12, 13)], [0, 1], xcL_peak),
  (yL_untilFlood, cL_untilFlood, 3, (some .int), [(0, 5, 6, 25), (0, 5, 11, 73)], [0, 3], xcL_untilFlood),
  (yL_volumeAfter, cL_volumeAfter, 3, (some .int), [(0, 5, 6, 13)], [1], xcL_volumeAfter),
  (yL_volumeByBalance, cL_volumeByBalance, 3, (some .int), [(0, 5, 6, 13)], [1], xcL_volumeByBalance),
  (yL_meanLevel, cL_meanLevel, 2, (some .double), [(0, 4, 5, 106)], [5], xcL_meanLevel),
  (yL_floodedShare, cL_floodedShare, 2, (some .float), [(0, 4, 5, 106)], [5], xcL_floodedShare),
  (yL_feed, cL_feed, 3, (some .int), [(0, 5, 6, 119)], [4], xcL_feed),
  (yL_execute, cL_execute, 2, (some .int), [(0, 4, 5, 13), (0, 4, 10, 15)], [1, 2], xcL_execute),
  (yL_faultPosition, cL_faultPosition, 2, (some .int), [(0, 4, 5, 73)], [3], xcL_faultPosition),
  (yL_write, cL_write, 3, (some .int), [(0, 5, 6, 25)], [0], xcL_write),
  (yL_lineChar, cL_lineChar, 3, (some .int), [(0, 5, 6, 25)], [0], xcL_lineChar),
  (yL_denial, cL_denial, 2, (some .int), [(0, 4, 5, 73)], [3], xcL_denial),
  (yL_denialDetail, cL_denialDetail, 2, (some .int), [(0, 4, 5, 73)], [3], xcL_denialDetail),
  (yL_denialCause, cL_denialCause, 2, (some .int), [(0, 4, 5, 73)], [3], xcL_denialCause),
  (yL_denialCauseDetail, cL_denialCauseDetail, 2, (some .int), [(0, 4, 5, 73)], [3], xcL_denialCauseDetail),
  (yL_undo, cL_undo, 2, (some .int), [(0, 4, 5, 119)], [4], xcL_undo),
  (yL_restore, cL_restore, 2, (some .int), [(0, 4, 5, 119)], [4], xcL_restore),
  (yL_runs, cL_runs, 3, (some .int), [], [], xcL_runs),
  (yL_is, cL_is, 3, (some .boolean), [], [], xcL_is),
  (yL_isFive, cL_isFive, 4, (some .boolean), [], [], xcL_isFive),
  (yL_makes, cL_makes, 5, (some .boolean), [], [], xcL_makes),
  (yL_asks, cL_asks, 7, (some .long), [], [], xcL_asks),
  (yL_changes, cL_changes, 3, (some .boolean), [], [], xcL_changes),
  (yL_thrown, cL_thrown, 8, (some .boolean), [], [], xcL_thrown)]
/-- the places of a method's words: its code, its class, instance, static, selects -/
def xPs : List (List Nat) := [[202, 22, 201, 0, 0],
  [784, 22, 782, 0, 783],
  [247, 25, 246, 0, 0],
  [495, 25, 493, 0, 494],
  [175, 20, 174, 0, 0],
  [386, 20, 385, 0, 0],
  [382, 20, 380, 0, 381],
  [514, 20, 512, 0, 513],
  [834, 20, 832, 0, 833],
  [868, 20, 866, 0, 867],
  [879, 20, 877, 0, 878],
  [125, 19, 124, 0, 0],
  [366, 19, 364, 0, 365],
  [644, 19, 642, 0, 643],
  [640, 19, 638, 0, 639],
  [73, 18, 72, 0, 0],
  [399, 18, 397, 0, 398],
  [362, 18, 360, 0, 361],
  [579, 18, 577, 0, 578],
  [622, 18, 620, 0, 621],
  [1081, 18, 1079, 0, 1080],
  [64, 17, 63, 0, 0],
  [358, 17, 356, 0, 357],
  [532, 17, 530, 0, 531],
  [590, 17, 588, 0, 589],
  [796, 17, 794, 0, 795],
  [491, 17, 489, 0, 490],
  [394, 17, 392, 0, 393],
  [528, 17, 526, 0, 527],
  [810, 17, 808, 0, 809],
  [575, 17, 573, 0, 574],
  [815, 17, 813, 0, 814],
  [819, 17, 817, 0, 818],
  [823, 17, 821, 0, 822],
  [603, 17, 601, 0, 602],
  [614, 17, 612, 0, 613],
  [618, 17, 616, 0, 617],
  [648, 17, 647, 0, 3],
  [1439, 17, 1437, 0, 1438],
  [626, 17, 624, 0, 625],
  [631, 17, 629, 0, 630],
  [636, 17, 634, 0, 635],
  [1022, 17, 1020, 0, 1021],
  [1077, 17, 1075, 0, 1076],
  [1043, 17, 1041, 0, 1042],
  [977, 17, 975, 0, 976],
  [999, 17, 997, 0, 998],
  [195, 21, 194, 0, 0],
  [661, 21, 659, 0, 660],
  [681, 21, 679, 0, 680],
  [788, 21, 786, 0, 787],
  [792, 21, 790, 0, 791],
  [693, 21, 691, 0, 692],
  [697, 21, 696, 0, 4],
  [701, 21, 700, 0, 5],
  [707, 21, 706, 0, 6],
  [769, 21, 768, 0, 9],
  [773, 21, 772, 0, 10],
  [780, 21, 779, 0, 11],
  [765, 21, 764, 0, 8],
  [720, 21, 719, 0, 7],
  [56, 16, 55, 0, 0],
  [378, 16, 376, 0, 377],
  [524, 16, 522, 0, 523],
  [942, 16, 940, 0, 941],
  [571, 16, 569, 0, 570],
  [330, 16, 328, 0, 329],
  [586, 16, 584, 0, 585],
  [1050, 16, 1048, 0, 1049],
  [1435, 16, 1433, 0, 1434],
  [1057, 16, 1055, 0, 1056],
  [1388, 16, 1386, 0, 1387],
  [934, 16, 932, 0, 933],
  [926, 16, 924, 0, 925],
  [1446, 16, 1444, 0, 1445],
  [1428, 16, 1426, 0, 1427],
  [1453, 16, 1451, 0, 1452],
  [1421, 16, 1419, 0, 1420],
  [1414, 16, 1412, 0, 1413],
  [1065, 16, 1063, 0, 1064],
  [1073, 16, 1071, 0, 1072],
  [599, 16, 597, 0, 598],
  [610, 16, 608, 0, 609],
  [334, 16, 332, 0, 333],
  [338, 16, 336, 0, 337],
  [1377, 16, 1375, 0, 1376],
  [1018, 16, 1016, 0, 1017],
  [1460, 16, 1458, 0, 1459],
  [1089, 16, 1087, 0, 1088],
  [1467, 16, 1465, 0, 1466],
  [1030, 16, 1028, 0, 1029],
  [1474, 16, 1472, 0, 1473],
  [342, 16, 340, 0, 341],
  [346, 16, 344, 0, 345],
  [1014, 16, 1012, 0, 1013],
  [968, 16, 966, 0, 967],
  [995, 16, 993, 0, 994],
  [657, 16, 655, 0, 656],
  [689, 16, 687, 0, 688],
  [842, 16, 840, 0, 841],
  [1103, 16, 1101, 0, 1102],
  [1360, 16, 1358, 0, 1359],
  [889, 16, 887, 0, 888],
  [899, 16, 897, 0, 898],
  [906, 16, 904, 0, 905],
  [913, 16, 911, 0, 912],
  [864, 16, 862, 0, 863],
  [350, 16, 348, 0, 349],
  [354, 16, 352, 0, 353],
  [875, 16, 873, 0, 874],
  [403, 16, 402, 0, 1],
  [830, 16, 829, 0, 12],
  [1038, 16, 1037, 0, 13],
  [1093, 16, 1092, 0, 14],
  [1033, 16, 0, 1032, 0],
  [892, 16, 0, 891, 0],
  [389, 16, 0, 388, 0],
  [776, 16, 0, 775, 0],
  [273, 26, 272, 0, 0],
  [1265, 26, 1259, 0, 0],
  [1133, 26, 1132, 0, 0],
  [1137, 26, 1136, 0, 0],
  [1194, 26, 1193, 0, 0],
  [1110, 26, 1109, 0, 0],
  [1367, 26, 1366, 0, 0],
  [1125, 26, 1124, 0, 0],
  [1129, 26, 1128, 0, 0],
  [1345, 26, 1344, 0, 0],
  [1222, 26, 1221, 0, 0],
  [1257, 26, 1254, 0, 0],
  [1165, 26, 1162, 0, 0],
  [1189, 26, 1188, 0, 0],
  [1185, 26, 1184, 0, 0],
  [539, 42, 538, 0, 0],
  [1327, 42, 1326, 0, 0],
  [984, 45, 0, 983, 0],
  [981, 45, 0, 980, 0],
  [804, 23, 803, 0, 0],
  [1006, 46, 0, 1005, 0],
  [1003, 46, 0, 1002, 0],
  [1228, 51, 0, 1227, 0],
  [1225, 51, 0, 1224, 0],
  [761, 37, 0, 760, 0],
  [517, 37, 0, 516, 0],
  [1248, 28, 1247, 0, 0],
  [711, 28, 709, 0, 710],
  [724, 28, 722, 0, 723],
  [1213, 28, 1211, 0, 1212],
  [1251, 28, 1250, 0, 0],
  [715, 28, 713, 0, 714],
  [728, 28, 726, 0, 727],
  [734, 28, 0, 733, 0],
  [1206, 28, 0, 1205, 0],
  [1174, 28, 0, 1173, 0],
  [270, 27, 269, 0, 0],
  [1122, 27, 1120, 0, 1121],
  [1342, 27, 1340, 0, 1341],
  [1219, 27, 1217, 0, 1218],
  [1244, 27, 1242, 0, 1243],
  [1364, 27, 1362, 0, 1363],
  [1107, 27, 1105, 0, 1106],
  [1263, 27, 1262, 0, 1493],
  [1115, 47, 1114, 0, 0],
  [731, 39, 0, 730, 0],
  [1348, 39, 0, 1347, 0],
  [1314, 39, 0, 1313, 0],
  [1197, 39, 0, 1196, 0],
  [279, 29, 0, 278, 0],
  [282, 29, 0, 281, 0],
  [1180, 29, 0, 1179, 0],
  [752, 29, 0, 751, 0],
  [748, 29, 0, 747, 0],
  [1296, 29, 0, 1295, 0],
  [1289, 29, 0, 1288, 0],
  [1292, 29, 0, 1291, 0],
  [1336, 29, 0, 1335, 0],
  [1351, 29, 0, 1350, 0],
  [1235, 29, 0, 1234, 0],
  [1168, 29, 0, 1167, 0],
  [742, 29, 0, 741, 0],
  [1200, 29, 0, 1199, 0],
  [1238, 29, 0, 1237, 0],
  [745, 29, 0, 744, 0],
  [1171, 29, 0, 1170, 0],
  [1203, 29, 0, 1202, 0],
  [1320, 49, 0, 1319, 0],
  [1317, 49, 0, 1316, 0],
  [1149, 49, 0, 1148, 0],
  [1275, 49, 0, 1274, 0],
  [1269, 49, 0, 1268, 0],
  [1272, 49, 0, 1271, 0],
  [1140, 48, 0, 1139, 0],
  [1145, 48, 0, 1144, 0],
  [739, 40, 0, 738, 0],
  [1177, 40, 0, 1176, 0],
  [1209, 40, 0, 1208, 0],
  [369, 15, 0, 368, 0],
  [919, 15, 0, 918, 0],
  [372, 15, 0, 371, 0, 373, 374],
  [520, 15, 0, 519, 0, 374],
  [938, 15, 0, 937, 0, 536, 373, 374],
  [535, 15, 0, 534, 0, 536, 373],
  [582, 15, 0, 581, 0, 536],
  [1046, 15, 0, 1045, 0, 536],
  [1431, 15, 0, 1430, 0, 536],
  [1053, 15, 0, 1052, 0, 536],
  [1384, 15, 0, 1383, 0, 536, 373],
  [930, 15, 0, 929, 0, 536, 373, 374],
  [922, 15, 0, 921, 0, 536, 373, 374],
  [1442, 15, 0, 1441, 0, 536],
  [1424, 15, 0, 1423, 0, 536],
  [1449, 15, 0, 1448, 0, 536],
  [1417, 15, 0, 1416, 0, 536],
  [1410, 15, 0, 1409, 0, 536],
  [1061, 15, 0, 1060, 0, 536, 838],
  [1069, 15, 0, 1068, 0, 838],
  [595, 15, 0, 594, 0, 373, 374],
  [606, 15, 0, 605, 0, 373, 374],
  [1373, 15, 0, 1372, 0, 373],
  [1456, 15, 0, 1455, 0, 536, 373],
  [1085, 15, 0, 1084, 0, 536, 373],
  [1463, 15, 0, 1462, 0, 536, 838],
  [1026, 15, 0, 1025, 0, 373],
  [1470, 15, 0, 1469, 0, 373],
  [950, 15, 0, 949, 0, 951],
  [991, 15, 0, 990, 0, 951],
  [652, 15, 0, 651, 0, 653],
  [685, 15, 0, 684, 0, 373, 374],
  [837, 15, 0, 836, 0, 838],
  [1099, 15, 0, 1098, 0, 536],
  [1356, 15, 0, 1355, 0, 536],
  [885, 15, 0, 884, 0, 838],
  [895, 15, 0, 894, 0, 838],
  [902, 15, 0, 901, 0, 838],
  [909, 15, 0, 908, 0, 838],
  [860, 15, 0, 859, 0, 653],
  [871, 15, 0, 870, 0, 653],
  [1403, 15, 0, 1402, 0],
  [882, 15, 0, 881, 0],
  [1479, 15, 0, 1478, 0],
  [916, 15, 0, 915, 0],
  [946, 15, 0, 945, 0],
  [1381, 15, 0, 1380, 0],
  [1407, 15, 0, 1406, 0]]
/-- the constant objects: 0 the script; 1 to 9 the constants of the enum; 10 their row; 11 the switch's row; 12, 13 digits; 14 what nobody looks into; from 20 on the String constants, each with its bytes -/
def xK (xs : List Int32) : List (Nat × List Value) := [(58, xs.map Value.int),
  (45, [.ref 1000052, .ref 1000054, .int 0]),
  (45, [.ref 1000048, .ref 1000050, .int 1]),
  (45, [.ref 1000056, .ref 1000058, .int 2]),
  (45, [.ref 1000060, .ref 1000058, .int 3]),
  (45, [.ref 1000062, .ref 1000064, .int 4]),
  (45, [.ref 1000066, .ref 1000058, .int 5]),
  (45, [.ref 1000068, .ref 1000070, .int 6]),
  (45, [.ref 1000072, .ref 1000054, .int 7]),
  (45, [.ref 1000074, .ref 1000076, .int 8]),
  (57, [.ref 1000001, .ref 1000002, .ref 1000003, .ref 1000004, .ref 1000005, .ref 1000006, .ref 1000007, .ref 1000008, .ref 1000009]),
  (58, [.int 1, .int 2, .int 3, .int 4, .int 5, .int 6, .int 7, .int 8, .int 0]),
  (50, [.int 48, .int 49, .int 50, .int 51, .int 52, .int 53, .int 54, .int 55, .int 56, .int 57, .int 48, .int 49, .int 50, .int 51, .int 52, .int 53, .int 54, .int 55, .int 56, .int 57, .int 48, .int 49, .int 50, .int 51, .int 52, .int 53, .int 54, .int 55, .int 56, .int 57, .int 48, .int 49, .int 50, .int 51, .int 52, .int 53, .int 54, .int 55, .int 56, .int 57, .int 48, .int 49, .int 50, .int 51, .int 52, .int 53, .int 54, .int 55, .int 56, .int 57, .int 48, .int 49, .int 50, .int 51, .int 52, .int 53, .int 54, .int 55, .int 56, .int 57, .int 48, .int 49, .int 50, .int 51, .int 52, .int 53, .int 54, .int 55, .int 56, .int 57, .int 48, .int 49, .int 50, .int 51, .int 52, .int 53, .int 54, .int 55, .int 56, .int 57, .int 48, .int 49, .int 50, .int 51, .int 52, .int 53, .int 54, .int 55, .int 56, .int 57, .int 48, .int 49, .int 50, .int 51, .int 52, .int 53, .int 54, .int 55, .int 56, .int 57]),
  (50, [.int 48, .int 48, .int 48, .int 48, .int 48, .int 48, .int 48, .int 48, .int 48, .int 48, .int 49, .int 49, .int 49, .int 49, .int 49, .int 49, .int 49, .int 49, .int 49, .int 49, .int 50, .int 50, .int 50, .int 50, .int 50, .int 50, .int 50, .int 50, .int 50, .int 50, .int 51, .int 51, .int 51, .int 51, .int 51, .int 51, .int 51, .int 51, .int 51, .int 51, .int 52, .int 52, .int 52, .int 52, .int 52, .int 52, .int 52, .int 52, .int 52, .int 52, .int 53, .int 53, .int 53, .int 53, .int 53, .int 53, .int 53, .int 53, .int 53, .int 53, .int 54, .int 54, .int 54, .int 54, .int 54, .int 54, .int 54, .int 54, .int 54, .int 54, .int 55, .int 55, .int 55, .int 55, .int 55, .int 55, .int 55, .int 55, .int 55, .int 55, .int 56, .int 56, .int 56, .int 56, .int 56, .int 56, .int 56, .int 56, .int 56, .int 56, .int 57, .int 57, .int 57, .int 57, .int 57, .int 57, .int 57, .int 57, .int 57, .int 57]),
  (40, []),
  (40, []),
  (40, []),
  (40, []),
  (40, []),
  (40, []),
  (0, [.ref 1000021, .int 0, .retAddr 0, .retAddr 0]),
  (50, [.int 83, .int 116, .int 114, .int 105, .int 110, .int 103, .int 32, .int 105, .int 110, .int 100, .int 101, .int 120, .int 32, .int 111, .int 117, .int 116, .int 32, .int 111, .int 102, .int 32, .int 114, .int 97, .int 110, .int 103, .int 101, .int 58, .int 32]),
  (0, [.ref 1000023, .int 0, .retAddr 0, .retAddr 0]),
  (50, [.int 32, .int 62, .int 32]),
  (0, [.ref 1000025, .int 0, .retAddr 0, .retAddr 0]),
  (50, [.int 102, .int 114, .int 111, .int 109, .int 73, .int 110, .int 100, .int 101, .int 120, .int 40]),
  (0, [.ref 1000027, .int 0, .retAddr 0, .retAddr 0]),
  (50, [.int 41, .int 32, .int 62, .int 32, .int 116, .int 111, .int 73, .int 110, .int 100, .int 101, .int 120, .int 40]),
  (0, [.ref 1000029, .int 0, .retAddr 0, .retAddr 0]),
  (50, [.int 41]),
  (0, [.ref 1000031, .int 0, .retAddr 0, .retAddr 0]),
  (50, [.int 65, .int 114, .int 114, .int 97, .int 121, .int 32, .int 105, .int 110, .int 100, .int 101, .int 120, .int 32, .int 111, .int 117, .int 116, .int 32, .int 111, .int 102, .int 32, .int 114, .int 97, .int 110, .int 103, .int 101, .int 58, .int 32]),
  (0, [.ref 1000033, .int 0, .retAddr 0, .retAddr 0]),
  (50, [.int 102, .int 104, .int 114, .int 120]),
  (0, [.ref 1000035, .int 0, .retAddr 0, .retAddr 0]),
  (50, [.int 112, .int 97, .int 115, .int 115, .int 32, .int 50, .int 59, .int 114, .int 117, .int 108, .int 101, .int 32]),
  (0, [.ref 1000037, .int 0, .retAddr 0, .retAddr 0]),
  (50, [.int 32, .int 114]),
  (0, [.ref 1000039, .int 0, .retAddr 0, .retAddr 0]),
  (50, [.int 102, .int 105, .int 108, .int 108, .int 32, .int 48, .int 32, .int 53, .int 59, .int 99, .int 117, .int 116, .int 59, .int 108, .int 97, .int 116, .int 101, .int 114, .int 97, .int 108, .int 32]),
  (0, [.ref 1000041, .int 0, .retAddr 0, .retAddr 0]),
  (50, [.int 32, .int 51]),
  (0, [.ref 1000043, .int 0, .retAddr 0, .retAddr 0]),
  (50, [.int 113]),
  (0, [.ref 1000045, .int 0, .retAddr 0, .retAddr 0]),
  (50, [.int 112, .int 97, .int 115, .int 115, .int 32, .int 51, .int 59, .int 102, .int 105, .int 108, .int 108, .int 32, .int 48, .int 32, .int 49, .int 59, .int 103, .int 97, .int 116, .int 101, .int 32, .int 57, .int 32, .int 53]),
  (0, [.ref 1000047, .int 0, .retAddr 0, .retAddr 0]),
  (50, [.int 102, .int 105, .int 108, .int 108, .int 32, .int 48, .int 32, .int 57, .int 59, .int 108, .int 97, .int 116, .int 101, .int 114, .int 97, .int 108, .int 32, .int 48, .int 32]),
  (0, [.ref 1000049, .int 0, .retAddr 0, .retAddr 0]),
  (50, [.int 99, .int 117, .int 116]),
  (0, [.ref 1000051, .int 0, .retAddr 0, .retAddr 0]),
  (50, []),
  (0, [.ref 1000053, .int 0, .retAddr 0, .retAddr 0]),
  (50, [.int 114, .int 101, .int 97, .int 99, .int 104, .int 32]),
  (0, [.ref 1000055, .int 0, .retAddr 0, .retAddr 0]),
  (50, [.int 110, .int 110, .int 110]),
  (0, [.ref 1000057, .int 0, .retAddr 0, .retAddr 0]),
  (50, [.int 108, .int 97, .int 116, .int 101, .int 114, .int 97, .int 108, .int 32]),
  (0, [.ref 1000059, .int 0, .retAddr 0, .retAddr 0]),
  (50, [.int 100, .int 110]),
  (0, [.ref 1000061, .int 0, .retAddr 0, .retAddr 0]),
  (50, [.int 102, .int 105, .int 108, .int 108, .int 32]),
  (0, [.ref 1000063, .int 0, .retAddr 0, .retAddr 0]),
  (50, [.int 115, .int 116, .int 97, .int 103, .int 101, .int 115, .int 32]),
  (0, [.ref 1000065, .int 0, .retAddr 0, .retAddr 0]),
  (50, [.int 100, .int 110, .int 110]),
  (0, [.ref 1000067, .int 0, .retAddr 0, .retAddr 0]),
  (50, [.int 103, .int 97, .int 116, .int 101, .int 32]),
  (0, [.ref 1000069, .int 0, .retAddr 0, .retAddr 0]),
  (50, [.int 114, .int 117, .int 108, .int 101, .int 32]),
  (0, [.ref 1000071, .int 0, .retAddr 0, .retAddr 0]),
  (50, [.int 100, .int 108]),
  (0, [.ref 1000073, .int 0, .retAddr 0, .retAddr 0]),
  (50, [.int 112, .int 117, .int 108, .int 115, .int 101, .int 32]),
  (0, [.ref 1000075, .int 0, .retAddr 0, .retAddr 0]),
  (50, [.int 112, .int 97, .int 115, .int 115, .int 32]),
  (0, [.ref 1000077, .int 0, .retAddr 0, .retAddr 0]),
  (50, [.int 110])]
/-- the statics that are read; z: what nobody looks into -/
def xZ (z : Value) : List Value := [.int 1, .ref 1000002, .ref 1000010, .ref 1000011, .ref 1000012, .ref 1000013, z, .int 1, .int 0, .int 8]
def xZn : List (String × String × String) := [("java/lang/String", "COMPACT_STRINGS", "Z"), ("RiverReaches$Kind", "CUT", "LRiverReaches$Kind;"), ("RiverReaches", "KINDS", "[LRiverReaches$Kind;"), ("RiverReaches$1", "$SwitchMap$RiverReaches$Kind", "[I"), ("java/lang/Integer", "DigitOnes", "[B"), ("java/lang/Integer", "DigitTens", "[B"), ("jdk/internal/util/Preconditions", "SIOOBE_FORMATTER", "Ljava/util/function/BiFunction;"), ("java/lang/StringUTF16", "$assertionsDisabled", "Z"), ("java/lang/StringUTF16", "HI_BYTE_SHIFT", "I"), ("java/lang/StringUTF16", "LO_BYTE_SHIFT", "I")]
/-- the String constants by their pool places -/
def xSt : List (String × Nat × String) := [("java/lang/StringIndexOutOfBoundsException", 13, "String index out of range: "), ("java/util/Arrays", 337, " > "), ("java/util/Arrays", 48, "fromIndex("), ("java/util/Arrays", 57, ") > toIndex("), ("java/util/Arrays", 59, ")"), ("java/lang/ArrayIndexOutOfBoundsException", 13, "Array index out of range: "), ("RiverReachesLaw", 269, "fhrx"), ("RiverReachesLaw", 274, "pass 2;rule "), ("RiverReachesLaw", 283, " r"), ("RiverReachesLaw", 289, "fill 0 5;cut;lateral "), ("RiverReachesLaw", 291, " 3"), ("RiverReachesLaw", 330, "q"), ("RiverReachesLaw", 334, "pass 3;fill 0 1;gate 9 5"), ("RiverReachesLaw", 340, "fill 0 9;lateral 0 "), ("RiverReaches$Kind", 66, "cut"), ("RiverReaches$Kind", 68, ""), ("RiverReaches$Kind", 58, "reach "), ("RiverReaches$Kind", 60, "nnn"), ("RiverReaches$Kind", 71, "lateral "), ("RiverReaches$Kind", 73, "dn"), ("RiverReaches$Kind", 76, "fill "), ("RiverReaches$Kind", 79, "stages "), ("RiverReaches$Kind", 81, "dnn"), ("RiverReaches$Kind", 84, "gate "), ("RiverReaches$Kind", 87, "rule "), ("RiverReaches$Kind", 89, "dl"), ("RiverReaches$Kind", 92, "pulse "), ("RiverReaches$Kind", 95, "pass "), ("RiverReaches$Kind", 97, "n")]
def xEx : List String := ["java/lang/IndexOutOfBoundsException", "java/lang/IllegalArgumentException", "java/lang/UnsupportedOperationException", "java/util/NoSuchElementException", "java/lang/IllegalStateException", "java/lang/ArithmeticException"]
/-- where exceptions are thrown anew: class, the constructor's index, the exception's number -/
def xThr : List (String × Nat × Nat) := [("RiverReaches$River", 63, 0), ("RiverReaches", 127, 3), ("RiverReaches", 151, 1), ("RiverReaches", 194, 5), ("RiverReaches", 207, 4), ("RiverReaches", 235, 2), ("RiverReaches", 253, 0)]
/-- private methods of the builder's superclass -/
def xSel : List MethodName := [⟨"java/lang/AbstractStringBuilder", "newCapacity", "(I)I"⟩, ⟨"java/lang/AbstractStringBuilder", "ensureCapacityInternal", "(I)V"⟩, ⟨"java/lang/AbstractStringBuilder", "appendNull", "()Ljava/lang/AbstractStringBuilder;"⟩, ⟨"java/lang/AbstractStringBuilder", "putStringAt", "(ILjava/lang/String;)V"⟩, ⟨"java/lang/AbstractStringBuilder", "inflate", "()V"⟩, ⟨"java/lang/AbstractStringBuilder", "inflateIfNeededFor", "(Ljava/lang/String;)V"⟩]
end
section
/-! THE ABSTRACT HEAP AND THE MACHINE'S: ad gives the address of each place -/
def xcV (ad : Nat → Nat) : Value → Value
  | .ref i => .ref (ad i)
  | v => v
def xI : Value → Int32
  | .int v => v
  | _ => 0
def xJ : Value → Int64
  | .long v => v
  | _ => 0
def xR (ad : Nat → Nat) : Value → Option Nat
  | .ref i => some (ad i)
  | _ => none
def xcA (ad : Nat → Nat) (t : Nat) (vs : List Value) : (Nat → Int32) ⊕ (Nat → Int64) ⊕ (Nat → UInt32) ⊕ (Nat → UInt64) ⊕ (Nat → Option Nat) :=
  if t = 2 then .inr (.inl fun k => xJ (vs.getD k .null)) else if t < 2 then .inl (fun k => xI (vs.getD k .null)) else .inr (.inr (.inr (.inr fun k => xR ad (vs.getD k .null))))
def xcE (ad : Nat → Nat) (tyC : Nat → ClassId) (q : Nat × List Value) : va_E := if q.1 < 50 then .inr (q.1, q.2.map (xcV ad)) else .inl (tyC (q.1 - 50), q.2.length, xcA ad (q.1 - 50) q.2)
def xcw (ad : Nat → Nat) (tyC : Nat → ClassId) (h : xH) : va_W := (h.zipIdx.filter (fun x => !(x.1.1 == 40))).map (fun x => (ad x.2, xcE ad tyC x.1))
def xlc (ad : Nat → Nat) (loc : xL) : xL := loc.map (fun q => (q.1, xcV ad q.2))
def xsz (h : xH) : Nat := (h.map (fun q => q.2.length)).sum
def xtys (tyC : Nat → ClassId) : List (ClassId × FieldType) := (List.range 7).map (fun t => (tyC t, xTy t))
theorem xcV_cat (ad : Nat → Nat) (v : Value) : (xcV ad v).category = v.category := by cases v <;> rfl
def xP (D : va_G) (tyC : Nat → ClassId) (ad : Nat → Nat) (h : xH) (H : Heap) : Prop := ∀ (i : Nat) (e : Nat × List Value), h[i]? = some e → e.1 ≠ 40 → va_at D vwCl (ad i, xcE ad tyC e) H
def xinj (ad : Nat → Nat) (h : xH) : Prop := ∀ (i j : Nat) (e f : Nat × List Value), h[i]? = some e → h[j]? = some f → e.1 ≠ 40 → f.1 ≠ 40 → ad i = ad j → i = j
def xbd (b0 : Nat) (ad : Nat → Nat) (h : xH) : Prop := ∀ (i : Nat) (e : Nat × List Value), h[i]? = some e → e.1 ≠ 40 → b0 ≤ ad i
/-- the abstract heap h stands in H -/
def xRel (b0 : Nat) (D : va_G) (tyC : Nat → ClassId) (ad : Nat → Nat) (h : xH) (s : State) (H : Heap) (locs : List Loc) : Prop :=
  xP D tyC ad h H ∧ xinj ad h ∧ xbd b0 ad h ∧ va_S (fun q => b0 ≤ q) s.heap H locs
theorem xcw_mem {ad : Nat → Nat} {tyC : Nat → ClassId} {h : xH} {q : Nat × va_E} : q ∈ xcw ad tyC h ↔ ∃ (i : Nat) (e : Nat × List Value), h[i]? = some e ∧ e.1 ≠ 40 ∧ q = (ad i, xcE ad tyC e) := by
  unfold xcw
  constructor
  · intro hq
    obtain ⟨x, hx, rfl⟩ := List.mem_map.mp hq
    obtain ⟨h1, h2⟩ := List.mem_filter.mp hx
    refine ⟨x.2, x.1, ?_, ?_, rfl⟩
    · exact List.mem_zipIdx_iff_getElem?.mp h1
    · simpa using h2
  · rintro ⟨i, e, h1, h2, rfl⟩
    refine List.mem_map.mpr ⟨(e, i), List.mem_filter.mpr ⟨List.mem_zipIdx_iff_getElem?.mpr h1, ?_⟩, rfl⟩
    simpa using h2
theorem xcw_at {ad : Nat → Nat} {tyC : Nat → ClassId} {h : xH} {i : Nat} {e : Nat × List Value} (h1 : h[i]? = some e) (h2 : e.1 ≠ 40) : ∃ k : Nat, (xcw ad tyC h)[k]? = some (ad i, xcE ad tyC e) :=
  List.mem_iff_getElem?.mp (xcw_mem.mpr ⟨i, e, h1, h2, rfl⟩)
theorem xcw_P {D : va_G} {tyC : Nat → ClassId} {ad : Nat → Nat} {h : xH} {H : Heap} (hP : xP D tyC ad h H) : va_P D vwCl (xcw ad tyC h) H := by
  intro k q hq
  obtain ⟨i, e, h1, h2, rfl⟩ := xcw_mem.mp (List.mem_of_getElem? hq)
  exact hP i e h1 h2
theorem xcw_D {b0 : Nat} {tyC : Nat → ClassId} {ad : Nat → Nat} {h : xH} (hI : xinj ad h) (hb : xbd b0 ad h) : va_D (fun q => b0 ≤ q) (xcw ad tyC h) := by
  constructor
  · intro i j p q hi hj hpq
    unfold xcw at hi hj
    rw [List.getElem?_map] at hi hj
    obtain ⟨x, hx, rfl⟩ := Option.map_eq_some_iff.mp hi
    obtain ⟨y, hy, rfl⟩ := Option.map_eq_some_iff.mp hj
    obtain ⟨m1, n1⟩ := List.mem_filter.mp (List.mem_of_getElem? hx)
    obtain ⟨m2, n2⟩ := List.mem_filter.mp (List.mem_of_getElem? hy)
    have e : x.2 = y.2 := hI x.2 y.2 x.1 y.1 (List.mem_zipIdx_iff_getElem?.mp m1) (List.mem_zipIdx_iff_getElem?.mp m2) (by simpa using n1) (by simpa using n2) hpq
    have nd : ((h.zipIdx.filter (fun x => !(x.1.1 == 40))).map (fun x => x.2)).Nodup := by
      refine List.Nodup.sublist (List.Sublist.map _ List.filter_sublist) ?_
      have := List.zipIdx_map_snd 0 h
      rw [show (fun x : (Nat × List Value) × Nat => x.2) = Prod.snd from rfl, this]
      exact List.nodup_range'
    refine (List.getElem?_inj (i := i) (j := j) ?_ nd).mp ?_
    · rw [List.length_map]
      exact (List.getElem?_eq_some_iff.mp hx).1
    · rw [List.getElem?_map, List.getElem?_map, hx, hy]
      show some x.2 = some y.2
      rw [e]
  · intro k q hq
    obtain ⟨i, e, h1, h2, rfl⟩ := xcw_mem.mp (List.mem_of_getElem? hq)
    exact hb i e h1 h2
theorem xset {D : va_G} {tyC : Nat → ClassId} {ad : Nat → Nat} {h : xH} {H1 : Heap} {i k : Nat} {e e' : Nat × List Value} (hI : xinj ad h) (hi : h[i]? = some e) (he : e.1 ≠ 40) (hk : (xcw ad tyC h)[k]? = some (ad i, xcE ad tyC e)) (hP' : va_P D vwCl ((xcw ad tyC h).set k (ad i, xcE ad tyC e')) H1) : xP D tyC ad (h.set i e') H1 := by
  intro j f hj hf
  have hkl : k < (xcw ad tyC h).length := (List.getElem?_eq_some_iff.mp hk).1
  by_cases hij : i = j
  · subst hij
    rw [List.getElem?_set_self (List.getElem?_eq_some_iff.mp hi).1] at hj
    cases hj
    exact hP' k _ (List.getElem?_set_self hkl)
  · rw [List.getElem?_set_ne hij] at hj
    obtain ⟨k2, hk2⟩ := xcw_at (ad := ad) (tyC := tyC) hj hf
    have hne : k ≠ k2 := by
      intro hkk
      subst hkk
      have := Option.some.inj (hk.symm.trans hk2)
      exact hij (hI i j e f hi hj he hf (congrArg Prod.fst this))
    exact hP' k2 _ (by rw [List.getElem?_set_ne hne]; exact hk2)
theorem xinj_set {ad : Nat → Nat} {h : xH} {i : Nat} {e e' : Nat × List Value} (hI : xinj ad h) (hi : h[i]? = some e) (he : e.1 ≠ 40) : xinj ad (h.set i e') := by
  have key : ∀ (j : Nat) (f : Nat × List Value), (h.set i e')[j]? = some f → f.1 ≠ 40 → ∃ g, h[j]? = some g ∧ g.1 ≠ 40 := by
    intro j f hj hf
    by_cases hij : i = j
    · subst hij
      exact ⟨e, hi, he⟩
    · rw [List.getElem?_set_ne hij] at hj
      exact ⟨f, hj, hf⟩
  intro j k f g hj hk hf hg hjk
  obtain ⟨f', a1, a2⟩ := key j f hj hf
  obtain ⟨g', b1, b2⟩ := key k g hk hg
  exact hI j k f' g' a1 b1 a2 b2 hjk
/-! what refers only to places that are there -/
def xsc (n : Nat) (v : Value) : Prop := match v with
  | .ref i => i < n ∨ 1000000 ≤ i
  | _ => True
def xscL (n : Nat) (vs : List Value) : Prop := ∀ v ∈ vs, xsc n v
def xscH (h : xH) : Prop := ∀ e ∈ h, xscL h.length e.2
theorem xsc_mono {n m : Nat} (hnm : n ≤ m) {v : Value} (h : xsc n v) : xsc m v := by
  cases v <;> first | trivial | exact h.elim (fun q => Or.inl (Nat.lt_of_lt_of_le q hnm)) Or.inr
theorem xcV_ext {ad ad' : Nat → Nat} {n : Nat} (ha : ∀ i, (i < n ∨ 1000000 ≤ i) → ad' i = ad i) {v : Value} (h : xsc n v) : xcV ad' v = xcV ad v := by
  cases v <;> first | rfl | exact congrArg Value.ref (ha _ h)
theorem xcVs_ext {ad ad' : Nat → Nat} {n : Nat} (ha : ∀ i, (i < n ∨ 1000000 ≤ i) → ad' i = ad i) {vs : List Value} (h : xscL n vs) : vs.map (xcV ad') = vs.map (xcV ad) :=
  List.map_congr_left fun v hv => xcV_ext ha (h v hv)
theorem xR_ext {ad ad' : Nat → Nat} {n : Nat} (ha : ∀ i, (i < n ∨ 1000000 ≤ i) → ad' i = ad i) {v : Value} (h : xsc n v) : xR ad' v = xR ad v := by
  cases v <;> first | rfl | exact congrArg some (ha _ h)
theorem xcE_ext {ad ad' : Nat → Nat} {tyC : Nat → ClassId} {n : Nat} (ha : ∀ i, (i < n ∨ 1000000 ≤ i) → ad' i = ad i) {q : Nat × List Value} (h : xscL n q.2) : xcE ad' tyC q = xcE ad tyC q := by
  have key : ∀ k, xR ad' (q.2.getD k .null) = xR ad (q.2.getD k .null) := by
    intro k
    by_cases hk : k < q.2.length
    · refine xR_ext ha (h _ ?_)
      rw [List.getD_eq_getElem?_getD, List.getElem?_eq_getElem hk]
      exact List.getElem_mem hk
    · rw [List.getD_eq_getElem?_getD, List.getElem?_eq_none (Nat.not_lt.mp hk)]
      rfl
  unfold xcE xcA
  rw [xcVs_ext ha h]
  simp only [key]
/-- a new cell -/
theorem xpush {b0 : Nat} {D : va_G} {tyC : Nat → ClassId} {ad ad' : Nat → Nat} {h : xH} {s : State} {H H1 : Heap} {locs locs1 : List Loc} {q : Nat} {e : Nat × List Value} (hR : xRel b0 D tyC ad h s H locs) (hsc : xscH h) (hes : xscL h.length e.2) (he : e.1 ≠ 40) (ha : ∀ i, (i < h.length ∨ 1000000 ≤ i) → ad' i = ad i) (hq : ad' h.length = q)
    (hP' : va_P D vwCl (xcw ad tyC h ++ [(q, xcE ad tyC e)]) H1) (hD' : va_D (fun q => b0 ≤ q) (xcw ad tyC h ++ [(q, xcE ad tyC e)])) (hS' : va_S (fun q => b0 ≤ q) s.heap H1 locs1) : xRel b0 D tyC ad' (h ++ [e]) s H1 locs1 := by
  obtain ⟨hP, hI, hb, hS⟩ := hR
  have hlast : (xcw ad tyC h ++ [(q, xcE ad tyC e)])[(xcw ad tyC h).length]? = some (q, xcE ad tyC e) := by simp
  have hsplit : ∀ (j : Nat) (f : Nat × List Value), (h ++ [e])[j]? = some f → (j < h.length ∧ h[j]? = some f) ∨ (j = h.length ∧ f = e) := by
    intro j f hj
    by_cases hjl : j < h.length
    · rw [List.getElem?_append_left hjl] at hj
      exact Or.inl ⟨hjl, hj⟩
    · rw [List.getElem?_append_right (Nat.not_lt.mp hjl)] at hj
      have hz : j - h.length < 1 := (List.getElem?_eq_some_iff.mp hj).1
      have hz0 : j - h.length = 0 := by omega
      rw [hz0] at hj
      exact Or.inr ⟨by omega, (Option.some.inj hj).symm⟩
  have hnew : ∀ (j : Nat) (f : Nat × List Value), h[j]? = some f → f.1 ≠ 40 → ad j ≠ q := by
    intro j f hj hf hjq
    obtain ⟨k, hk⟩ := xcw_at (ad := ad) (tyC := tyC) hj hf
    have hkl : k < (xcw ad tyC h).length := (List.getElem?_eq_some_iff.mp hk).1
    have := hD'.1 k (xcw ad tyC h).length _ _ (by rw [List.getElem?_append_left hkl]; exact hk) hlast hjq
    omega
  refine ⟨fun j f hj hf => ?_, fun i j f g hi hj hf hg hij => ?_, fun i f hi hf => ?_, hS'⟩
  · rcases hsplit j f hj with ⟨hl, hj⟩ | ⟨rfl, rfl⟩
    · obtain ⟨k, hk⟩ := xcw_at (ad := ad) (tyC := tyC) hj hf
      have hkl : k < (xcw ad tyC h).length := (List.getElem?_eq_some_iff.mp hk).1
      rw [ha j (Or.inl hl), xcE_ext ha (hsc f (List.mem_of_getElem? hj))]
      exact hP' k _ (by rw [List.getElem?_append_left hkl]; exact hk)
    · rw [hq, xcE_ext ha hes]
      exact hP' _ _ hlast
  · rcases hsplit i f hi with ⟨hl, hi2⟩ | ⟨e1, e2⟩
    · rcases hsplit j g hj with ⟨hl2, hj2⟩ | ⟨e3, e4⟩
      · rw [ha i (Or.inl hl), ha j (Or.inl hl2)] at hij
        exact hI i j f g hi2 hj2 hf hg hij
      · rw [ha i (Or.inl hl), e3, hq] at hij
        exact absurd hij (hnew i f hi2 hf)
    · rcases hsplit j g hj with ⟨hl2, hj2⟩ | ⟨e3, e4⟩
      · rw [ha j (Or.inl hl2), e1, hq] at hij
        exact absurd hij.symm (hnew j g hj2 hg)
      · rw [e1, e3]
  · rcases hsplit i f hi with ⟨hl, hi2⟩ | ⟨e1, e2⟩
    · rw [ha i (Or.inl hl)]
      exact hb i f hi2 hf
    · rw [e1, hq]
      exact hD'.2 _ _ hlast
theorem xbd_set {b0 : Nat} {ad : Nat → Nat} {h : xH} {i : Nat} {e e' : Nat × List Value} (hb : xbd b0 ad h) (hi : h[i]? = some e) (he : e.1 ≠ 40) : xbd b0 ad (h.set i e') := by
  intro j f hj hf
  by_cases hij : i = j
  · subst hij
    exact hb i e hi he
  · rw [List.getElem?_set_ne hij] at hj
    exact hb j f hj hf
theorem xsz_push (h : xH) (e : Nat × List Value) : xsz (h ++ [e]) = xsz h + e.2.length := by
  simp [xsz]
theorem xsz_set {h : xH} {i c : Nat} {vs : List Value} (hi : h[i]? = some (c, vs)) {ws : List Value} (hw : ws.length = vs.length) : xsz (h.set i (c, ws)) = xsz h := by
  induction h generalizing i with
  | nil => simp at hi
  | cons a t ih =>
    cases i with
    | zero =>
      simp only [List.getElem?_cons_zero, Option.some.injEq] at hi
      subst hi
      simp [xsz, hw]
    | succ j =>
      simp only [List.getElem?_cons_succ] at hi
      have := ih hi
      simp only [xsz, List.set_cons_succ, List.map_cons, List.sum_cons] at this ⊢
      omega
end
section
/-! every instruction keeps to places that are there -/
def xok (n : Nat × Nat) (h : xH) (loc : xL) (st : List Value) : Prop := (n.1 ≤ h.length ∧ n.2 ≤ xsz h) ∧ xscH h ∧ (∀ q ∈ loc, xsc h.length q.2) ∧ ∀ v ∈ st, xsc h.length v
def xgood (n : Nat × Nat) : xO → Prop
  | .inl (_, loc, st, h) => xok n h loc st
  | .inr (.inl (_, args, loc, st, h)) => xok n h loc (args ++ st)
  | .inr (.inr (.inl (v, h))) => xok n h [] v.toList
  | .inr (.inr (.inr (_, h))) => xok n h [] []
def xcon (K : List (Nat × List Value)) (Z : List Value) : Prop := (∀ e ∈ K, ∀ v ∈ e.2, xsc 0 v) ∧ ∀ v ∈ Z, xsc 0 v
section XG
variable {n : Nat × Nat} {nL : Nat} {h : xH} {loc : xL} {st : List Value} {o : xO} {K : List (Nat × List Value)} {Z : List Value}
theorem xg_nx {st' : List Value} {loc' : xL} (hs : xnx loc' st' h = some o) (h1 : n.1 ≤ h.length ∧ n.2 ≤ xsz h) (h2 : xscH h) (h3 : ∀ q ∈ loc', xsc h.length q.2) (h4 : ∀ v ∈ st', xsc h.length v) : xgood n o := by
  cases hs
  exact ⟨h1, h2, h3, h4⟩
theorem xg_jp {t : Option Nat} {st' : List Value} (hs : xjp t loc st' h = some o) (g : xok n h loc st') : xgood n o := by
  cases t with
  | none => cases hs
  | some t => cases hs; exact g
theorem xg_br {b : Bool} {pc : Nat} {off : Int} {st' : List Value} (hs : xbr b pc off loc st' h = some o) (g : xok n h loc st') : xgood n o := by
  cases b with
  | true => exact xg_jp hs g
  | false => cases hs; exact g
theorem xok_tail {v : Value} {r : List Value} (g : xok n h loc (v :: r)) : xok n h loc r := ⟨g.1, g.2.1, g.2.2.1, fun w hw => g.2.2.2 w (List.mem_cons_of_mem _ hw)⟩
theorem xok_cons {v : Value} {r : List Value} (g : xok n h loc r) (hv : xsc h.length v) : xok n h loc (v :: r) := ⟨g.1, g.2.1, g.2.2.1, fun w hw => (List.mem_cons.mp hw).elim (fun e => e ▸ hv) (g.2.2.2 w)⟩
theorem xok_head {v : Value} {r : List Value} (g : xok n h loc (v :: r)) : xsc h.length v := g.2.2.2 v List.mem_cons_self
theorem xg_ok {st' : List Value} (hs : xnx loc st' h = some o) (g : xok n h loc st') : xgood n o := by
  cases hs
  exact g
theorem xget_sc {i : Nat} {v : Value} (hv : xget loc i = some v) (g : xok n h loc st) : xsc h.length v := by
  unfold xget at hv
  obtain ⟨q, hq, rfl⟩ := Option.map_eq_some_iff.mp hv
  exact g.2.2.1 q (List.mem_of_find?_eq_some hq)
theorem xg_ld {p : Value → Bool} {i : Nat} (hs : xld p loc st h i = some o) (g : xok n h loc st) : xgood n o := by
  unfold xld at hs
  split at hs
  · rename_i v hv
    split at hs
    · exact xg_ok hs (xok_cons g (xget_sc hv g))
    · cases hs
  · cases hs
theorem xs1_sc {i m : Nat} {v : Value} (hl : ∀ q ∈ loc, xsc m q.2) (hv : xsc m v) : ∀ q ∈ xs1 loc i v, xsc m q.2 := by
  intro q hq
  rcases List.mem_cons.mp hq with rfl | hq
  · exact hv
  · exact hl q (List.mem_filter.mp hq).1
theorem xs2_sc {i m : Nat} {v : Value} (hl : ∀ q ∈ loc, xsc m q.2) (hv : xsc m v) : ∀ q ∈ xs2 loc i v, xsc m q.2 := by
  intro q hq
  rcases List.mem_cons.mp hq with rfl | hq
  · exact hv
  · exact hl q (List.mem_filter.mp hq).1
theorem xg_st1 {p : Value → Bool} {i : Nat} (hs : xst1 p nL loc st h i = some o) (g : xok n h loc st) : xgood n o := by
  unfold xst1 at hs
  split at hs
  · split at hs
    · cases hs
      exact ⟨g.1, g.2.1, xs1_sc g.2.2.1 (xok_head g), (xok_tail g).2.2.2⟩
    · cases hs
  · cases hs
theorem xg_st2 {p : Value → Bool} {i : Nat} (hs : xst2 p nL loc st h i = some o) (g : xok n h loc st) : xgood n o := by
  unfold xst2 at hs
  split at hs
  · split at hs
    · cases hs
      exact ⟨g.1, g.2.1, xs2_sc g.2.2.1 (xok_head g), (xok_tail g).2.2.2⟩
    · cases hs
  · cases hs
theorem xg_inc {i : Nat} {m : Int} (hs : xinc nL loc st h i m = some o) (g : xok n h loc st) : xgood n o := by
  unfold xinc at hs
  split at hs
  · split at hs
    · cases hs
      exact ⟨g.1, g.2.1, xs1_sc g.2.2.1 trivial, g.2.2.2⟩
    · cases hs
  · cases hs
theorem xg_ii {f : Int32 → Int32 → Int32} (hs : xii f loc st h = some o) (g : xok n h loc st) : xgood n o := by
  unfold xii at hs
  split at hs
  · exact xg_ok hs (xok_cons (xok_tail (xok_tail g)) trivial)
  · cases hs
theorem xg_iz {f : Int32 → Int32 → Int32} (hs : xiz f loc st h = some o) (g : xok n h loc st) : xgood n o := by
  unfold xiz at hs
  split at hs
  · split at hs
    · cases hs
    · exact xg_ok hs (xok_cons (xok_tail (xok_tail g)) trivial)
  · cases hs
theorem xg_i1 {f : Int32 → Value} (hf : ∀ x m, xsc m (f x)) (hs : xi1 f loc st h = some o) (g : xok n h loc st) : xgood n o := by
  unfold xi1 at hs
  split at hs
  · exact xg_ok hs (xok_cons (xok_tail g) (hf _ _))
  · cases hs
theorem xg_jj {f : Int64 → Int64 → Value} (hf : ∀ x y m, xsc m (f x y)) (hs : xjj f loc st h = some o) (g : xok n h loc st) : xgood n o := by
  unfold xjj at hs
  split at hs
  · exact xg_ok hs (xok_cons (xok_tail (xok_tail g)) (hf _ _ _))
  · cases hs
theorem xg_f1 {f : Value → Option Value} (hf : ∀ x y m, f x = some y → xsc m y) (hs : xf1 f loc st h = some o) (g : xok n h loc st) : xgood n o := by
  unfold xf1 at hs
  split at hs
  · split at hs
    · rename_i w hw
      split at hs
      · exact xg_ok hs (xok_cons (xok_tail g) (hf _ _ _ hw))
      · cases hs
    · cases hs
  · cases hs
theorem xg_f2 {f : Value → Value → Option Value} (hf : ∀ x y z m, f x y = some z → xsc m z) (hs : xf2 f loc st h = some o) (g : xok n h loc st) : xgood n o := by
  unfold xf2 at hs
  split at hs
  · split at hs
    · rename_i w hw
      exact xg_ok hs (xok_cons (xok_tail (xok_tail g)) (hf _ _ _ _ hw))
    · cases hs
  · cases hs
theorem xcell_sc {a c : Nat} {vs : List Value} (hK : xcon K Z) (hc : xcell K h a = some (c, vs)) (g : xok n h loc st) : ∀ v ∈ vs, xsc h.length v := by
  unfold xcell at hc
  split at hc
  · exact fun v hv => g.2.1 _ (List.mem_of_getElem? hc) v hv
  · exact fun v hv => xsc_mono (Nat.zero_le _) (hK.1 _ (List.mem_of_getElem? hc) v hv)
theorem xg_getf {ci k : Nat} (hK : xcon K Z) (hs : xgetf K ci k loc st h = some o) (g : xok n h loc st) : xgood n o := by
  unfold xgetf at hs
  split at hs
  · split at hs
    · rename_i c vs hc
      split at hs
      · split at hs
        · rename_i v hv
          split at hs
          · exact xg_ok hs (xok_cons (xok_tail g) (xcell_sc hK hc g v (List.mem_of_getElem? hv)))
          · cases hs
        · cases hs
      · cases hs
    · cases hs
  · cases hs
theorem xok_set {a c : Nat} {ws vs : List Value} {r : List Value} (hc : h[a]? = some (c, vs)) (hlen : ws.length = vs.length) (g : xok n h loc r) (hw : ∀ v ∈ ws, xsc h.length v) : xok n (h.set a (c, ws)) loc r := by
  refine ⟨by rw [List.length_set, xsz_set hc hlen]; exact g.1, ?_, by rw [List.length_set]; exact g.2.2.1, by rw [List.length_set]; exact g.2.2.2⟩
  intro e he v hv
  rw [List.length_set]
  rcases List.mem_or_eq_of_mem_set he with he | rfl
  · exact g.2.1 e he v hv
  · exact hw v hv
theorem xscL_set {m k : Nat} {vs : List Value} {v : Value} (h1 : ∀ w ∈ vs, xsc m w) (h2 : xsc m v) : ∀ w ∈ vs.set k v, xsc m w := by
  intro w hw
  rcases List.mem_or_eq_of_mem_set hw with hw | rfl
  · exact h1 w hw
  · exact h2
theorem xg_putf {ty : FieldType} {ci k : Nat} (hs : xputf ty ci k loc st h = some o) (g : xok n h loc st) : xgood n o := by
  unfold xputf at hs
  split at hs
  · split at hs
    · split at hs
      · rename_i c vs hc
        split at hs
        · cases hs
          exact xok_set hc (List.length_set) (xok_tail (xok_tail g)) (xscL_set (fun v hv => g.2.1 _ (List.mem_of_getElem? hc) v hv) (xok_head g))
        · cases hs
      · cases hs
    · cases hs
  · cases hs
theorem xg_ald {p : Value → Bool} {t : Nat → Nat → Bool} (hK : xcon K Z) (hs : xald K p t loc st h = some o) (g : xok n h loc st) : xgood n o := by
  unfold xald at hs
  split at hs
  · split at hs
    · rename_i c vs hc
      split at hs
      · split at hs
        · rename_i v hv
          split at hs
          · exact xg_ok hs (xok_cons (xok_tail (xok_tail g)) (xcell_sc hK hc g v (List.mem_of_getElem? hv)))
          · cases hs
        · cases hs
      · cases hs
    · cases hs
  · cases hs
theorem xg_ast {t : Nat} {f : Value → Option Value} (hf : ∀ x y m, f x = some y → xsc m y) (hs : xast t f loc st h = some o) (g : xok n h loc st) : xgood n o := by
  unfold xast at hs
  split at hs
  · split at hs
    · split at hs
      · rename_i c vs hc
        split at hs
        · split at hs
          · rename_i w hw
            cases hs
            exact xok_set hc (List.length_set) (xok_tail (xok_tail (xok_tail g))) (xscL_set (fun v hv => g.2.1 _ (List.mem_of_getElem? hc) v hv) (hf _ _ _ hw))
          · cases hs
        · cases hs
      · cases hs
    · cases hs
  · cases hs
theorem xg_asq (hs : xasq loc st h = some o) (g : xok n h loc st) : xgood n o := by
  unfold xasq at hs
  split at hs
  · split at hs
    · split at hs
      · rename_i c vs d x hc hd
        split at hs
        · cases hs
          exact xok_set hc (List.length_set) (xok_tail (xok_tail (xok_tail g))) (xscL_set (fun v hv => g.2.1 _ (List.mem_of_getElem? hc) v hv) (xok_head g))
        · cases hs
      · cases hs
    · cases hs
  · cases hs
theorem xg_alen (hs : xalen K loc st h = some o) (g : xok n h loc st) : xgood n o := by
  unfold xalen at hs
  split at hs
  · split at hs
    · split at hs
      · exact xg_ok hs (xok_cons (xok_tail g) trivial)
      · cases hs
    · cases hs
  · cases hs
theorem xok_push {c : Nat} {vs r : List Value} (g : xok n h loc r) (hv : ∀ v ∈ vs, xsc h.length v) : xok n (h ++ [(c, vs)]) loc (.ref h.length :: r) := by
  have hl : (h ++ [(c, vs)]).length = h.length + 1 := by simp
  have mono : ∀ v, xsc h.length v → xsc (h ++ [(c, vs)]).length v := fun v hv => xsc_mono (by rw [hl]; exact Nat.le_succ _) hv
  refine ⟨⟨by rw [hl]; exact Nat.le_succ_of_le g.1.1, by rw [xsz_push]; exact Nat.le_add_right_of_le g.1.2⟩, ?_, fun q hq => mono _ (g.2.2.1 q hq), ?_⟩
  · intro e he v hve
    rcases List.mem_append.mp he with he | he
    · exact mono _ (g.2.1 e he v hve)
    · rw [List.mem_singleton] at he
      subst he
      exact mono _ (hv v hve)
  · intro v hv2
    rcases List.mem_cons.mp hv2 with rfl | hv2
    · exact Or.inl (by rw [hl]; exact Nat.lt_succ_self _)
    · exact mono _ (g.2.2.2 v hv2)
def xnref : Value → Bool
  | .ref _ => false
  | _ => true
theorem xnref_sc {v : Value} (h : xnref v = true) (m : Nat) : xsc m v := by cases v <;> first | trivial | cases h
theorem xnew0_all (ci : Nat) : (xnew0 ci).all xnref = true := by
  unfold xnew0
  split <;> rfl
theorem xnew0_sc (m ci : Nat) : ∀ v ∈ xnew0 ci, xsc m v := fun v hv => xnref_sc (List.all_eq_true.mp (xnew0_all ci) v hv) m
theorem xg_new {ci : Nat} (hs : xnew ci loc st h = some o) (g : xok n h loc st) : xgood n o := by
  unfold xnew at hs
  split at hs
  · cases hs
    exact xok_push g (xnew0_sc _ _)
  · cases hs
theorem xg_newa {t : Nat} {v : Value} (hv : ∀ m, xsc m v) (hs : xnewa t v loc st h = some o) (g : xok n h loc st) : xgood n o := by
  unfold xnewa at hs
  split at hs
  · split at hs
    · cases hs
      exact xok_push (xok_tail g) (fun w hw => by rw [List.eq_of_mem_replicate hw]; exact hv _)
    · cases hs
  · cases hs
theorem xg_clone (hs : xclone loc st h = some o) (g : xok n h loc st) : xgood n o := by
  unfold xclone at hs
  split at hs
  · split at hs
    · split at hs
      · rename_i c vs hc
        split at hs
        · cases hs
          exact xok_push (xok_tail g) (fun v hv => g.2.1 _ (List.mem_of_getElem? hc) v hv)
        · cases hs
      · cases hs
    · cases hs
  · cases hs
theorem xcpy_sc {f g : List Value} {sp dp k m : Nat} (hf : ∀ v ∈ f, xsc m v) (hg : ∀ v ∈ g, xsc m v) : ∀ v ∈ xcpy f g sp dp k, xsc m v := by
  have key : ∀ (l : List Value) (j : Nat), (∀ v ∈ l, xsc m v) → xsc m (l.getD j .null) := by
    intro l j hl
    rw [List.getD_eq_getElem?_getD]
    cases hj : l[j]? with
    | none => trivial
    | some w => exact hl w (List.mem_of_getElem? hj)
  intro v hv
  unfold xcpy at hv
  obtain ⟨j, -, rfl⟩ := List.mem_map.mp hv
  split
  · exact key f _ hf
  · exact key g _ hg
theorem xg_copy (hK : xcon K Z) (hs : xcopy K loc st h = some o) (g : xok n h loc st) : xgood n o := by
  unfold xcopy at hs
  split at hs
  · split at hs
    · split at hs
      · rename_i c vs d f hc hd
        split at hs
        · cases hs
          exact xok_set hc (by simp [xcpy]) (xok_tail (xok_tail (xok_tail (xok_tail (xok_tail g))))) (xcpy_sc (xcell_sc hK hd g) (fun v hv => g.2.1 _ (List.mem_of_getElem? hc) v hv))
        · cases hs
      · cases hs
    · cases hs
  · cases hs
theorem xg_cast (hs : xcast loc st h = some o) (g : xok n h loc st) : xgood n o := by
  unfold xcast at hs
  split at hs
  · split at hs
    · split at hs
      · split at hs
        · exact xg_ok hs g
        · cases hs
      · cases hs
    · cases hs
  · cases hs
theorem xg_call {mi k : Nat} (hs : xcall mi k loc st h = some o) (g : xok n h loc st) : xgood n o := by
  unfold xcall at hs
  split at hs
  · cases hs
    refine ⟨g.1, g.2.1, g.2.2.1, fun v hv => ?_⟩
    rcases List.mem_append.mp hv with hv | hv
    · exact g.2.2.2 v (List.mem_of_mem_take (List.mem_reverse.mp hv))
    · exact g.2.2.2 v (List.mem_of_mem_drop hv)
  · cases hs
theorem xg_sw {pc : Nat} {d lo hi : Int} {offs : Array Int} (hs : xsw pc d lo hi offs loc st h = some o) (g : xok n h loc st) : xgood n o := by
  unfold xsw at hs
  split at hs
  · split at hs
    · exact xg_jp hs (xok_tail g)
    · split at hs
      · exact xg_jp hs (xok_tail g)
      · cases hs
  · cases hs
theorem xg_ret {p : Value → Bool} (hs : xret p st h = some o) (g : xok n h loc st) : xgood n o := by
  unfold xret at hs
  split at hs
  · split at hs
    · cases hs
      exact ⟨g.1, g.2.1, fun q hq => absurd hq List.not_mem_nil, g.2.2.2⟩
    · cases hs
  · cases hs
theorem xg_gets {j : Nat} (hK : xcon K Z) (hs : xgets Z j loc st h = some o) (g : xok n h loc st) : xgood n o := by
  unfold xgets at hs
  split at hs
  · rename_i v hv
    exact xg_ok hs (xok_cons g (xsc_mono (Nat.zero_le _) (hK.2 _ (List.mem_of_getElem? hv))))
  · cases hs
theorem xg_a1 {aux : List Nat} {f : Nat → Option xO} (hf : ∀ a, f a = some o → xgood n o) (hs : xa1 aux f = some o) : xgood n o := by
  unfold xa1 at hs
  split at hs
  · exact hf _ hs
  · cases hs
theorem xg_a2 {aux : List Nat} {f : Nat → Nat → Option xO} (hf : ∀ a b, f a b = some o → xgood n o) (hs : xa2 aux f = some o) : xgood n o := by
  unfold xa2 at hs
  split at hs
  · exact hf _ _ hs
  · cases hs
theorem xg_newx {k i : Nat} (hs : xnewx loc st h k i = some o) (g : xok n h loc st) : xgood n o := by
  unfold xnewx at hs
  split at hs
  · exact xg_new hs g
  · split at hs
    · cases hs
      exact ⟨g.1, g.2.1, fun q hq => absurd hq List.not_mem_nil, fun q hq => absurd hq List.not_mem_nil⟩
    · cases hs
theorem xg_ldc {k v : Nat} (hs : xldc loc st h k v = some o) (g : xok n h loc st) : xgood n o := by
  unfold xldc at hs
  split at hs
  · exact xg_ok hs (xok_cons g trivial)
  · exact xg_ok hs (xok_cons g (Or.inr (Nat.le_add_right _ _)))
  · exact xg_ok hs (xok_cons g trivial)
  · cases hs
theorem xg_ldw {k v : Nat} (hs : xldw loc st h k v = some o) (g : xok n h loc st) : xgood n o := by
  unfold xldw at hs
  split at hs
  · exact xg_ok hs (xok_cons g (Or.inr (Nat.le_add_right _ _)))
  · cases hs
theorem xg_ld2 {k v : Nat} (hs : xld2 loc st h k v = some o) (g : xok n h loc st) : xgood n o := by
  unfold xld2 at hs
  split at hs <;> exact xg_ok hs (xok_cons g trivial)
theorem xg_virt {aux : List Nat} (hs : xvirt K loc st h aux = some o) (g : xok n h loc st) : xgood n o := by
  unfold xvirt at hs
  split at hs
  · split at hs
    · exact xg_clone hs g
    · split at hs
      · split at hs
        · exact xg_call hs g
        · cases hs
      · cases hs
  · cases hs
theorem xg_stat {aux : List Nat} (hK : xcon K Z) (hs : xstat K loc st h aux = some o) (g : xok n h loc st) : xgood n o := by
  unfold xstat at hs
  split at hs
  · split at hs
    · exact xg_copy hK hs g
    · split at hs
      · exact xg_f1 (fun x y m q => by unfold xd2l at q; split at q <;> cases q; trivial) hs g
      · split at hs
        · exact xg_f1 (fun x y m q => by unfold xf2i at q; split at q <;> cases q; trivial) hs g
        · exact xg_a2 (fun a b q => xg_call q g) hs
  · cases hs
theorem xg_spec {aux : List Nat} (hs : xspec K loc st h aux = some o) (g : xok n h loc st) : xgood n o := by
  unfold xspec at hs
  split at hs
  · split at hs
    · split at hs
      · split at hs
        · exact xg_ok hs (xok_tail g)
        · cases hs
      · cases hs
    · refine xg_a2 (fun a b q => ?_) hs
      split at q
      · exact xg_call q g
      · cases q
  · cases hs
theorem xg_if1 {c : ClassFile.Cond} {pc : Nat} {off : Int} (hs : xif1 c pc off loc st h = some o) (g : xok n h loc st) : xgood n o := by
  unfold xif1 at hs
  split at hs
  · exact xg_br hs (xok_tail g)
  · cases hs
theorem xg_if2 {c : ClassFile.Cond} {pc : Nat} {off : Int} (hs : xif2 c pc off loc st h = some o) (g : xok n h loc st) : xgood n o := by
  unfold xif2 at hs
  split at hs
  · exact xg_br hs (xok_tail (xok_tail g))
  · cases hs
theorem xg_ifn {b : Bool} {pc : Nat} {off : Int} (hs : xifn b pc off loc st h = some o) (g : xok n h loc st) : xgood n o := by
  unfold xifn at hs
  split at hs
  · exact xg_br hs (xok_tail g)
  · exact xg_br hs (xok_tail g)
  · cases hs
theorem xg_retv (hs : xretv st h = some o) (g : xok n h loc st) : xgood n o := by
  unfold xretv at hs
  split at hs
  · cases hs
    exact ⟨g.1, g.2.1, fun q hq => absurd hq List.not_mem_nil, fun q hq => absurd hq List.not_mem_nil⟩
  · cases hs
theorem xg_cat1 {f : Value → List Value → List Value} (hf : ∀ v r w, w ∈ f v r → w = v ∨ w ∈ r) (hs : xcat1 loc st h f = some o) (g : xok n h loc st) : xgood n o := by
  unfold xcat1 at hs
  split at hs
  · split at hs
    · cases hs
      exact ⟨g.1, g.2.1, g.2.2.1, fun w hw => (hf _ _ w hw).elim (fun e => e ▸ xok_head g) ((xok_tail g).2.2.2 w)⟩
    · cases hs
  · cases hs
theorem xg_dx1 (hs : xdx1 loc st h = some o) (g : xok n h loc st) : xgood n o := by
  unfold xdx1 at hs
  split at hs
  · split at hs
    · exact xg_ok hs (xok_cons g (xok_head g) |> fun z => xok_cons (xok_cons (xok_cons (xok_tail (xok_tail g)) (xok_head g)) (xok_head (xok_tail g))) (xok_head g))
    · cases hs
  · cases hs
set_option maxHeartbeats 4000000 in
theorem xstep_good {e : xE} (hK : xcon K Z) (hs : xstep nL K Z e loc st h = some o) (g : xok n h loc st) : xgood n o := by
  unfold xstep at hs
  split at hs
  all_goals first
    | exact xg_ld hs g
    | exact xg_st1 hs g
    | exact xg_st2 hs g
    | exact xg_inc hs g
    | exact xg_ii hs g
    | exact xg_iz hs g
    | (refine xg_i1 ?_ hs g; intros; trivial)
    | (refine xg_jj ?_ hs g; intros; trivial)
    | exact xg_jp hs g
    | exact xg_if1 hs g
    | exact xg_if2 hs g
    | exact xg_ifn hs g
    | exact xg_sw hs g
    | exact xg_dx1 hs g
    | exact xg_a2 (fun a b q => xg_getf hK q g) hs
    | exact xg_a2 (fun a b q => xg_putf q g) hs
    | exact xg_a1 (fun a q => xg_gets hK q g) hs
    | exact xg_ald hK hs g
    | exact xg_asq hs g
    | exact xg_alen hs g
    | exact xg_a2 (fun a b q => xg_newx q g) hs
    | (refine xg_newa ?_ hs g; intros; trivial)
    | (refine xg_a1 ?_ hs; intro a q; refine xg_newa ?_ q g; intros; trivial)
    | exact xg_a2 (fun a b q => xg_ldc q g) hs
    | exact xg_a2 (fun a b q => xg_ldw q g) hs
    | exact xg_a2 (fun a b q => xg_ld2 q g) hs
    | exact xg_a1 (fun a q => xg_cast q g) hs
    | exact xg_virt hs g
    | exact xg_stat hK hs g
    | exact xg_spec hs g
    | exact xg_ret hs g
    | exact xg_retv hs g
    | exact xg_ok hs (xok_cons g trivial)
    | (refine xg_cat1 ?_ hs g; intro v r w hw; simpa using hw)
    | (refine xg_cat1 ?_ hs g; intro v r w hw; exact Or.inr hw)
    | (refine xg_ast ?_ hs g; intro x y m q; unfold xb8 at q; split at q <;> cases q; trivial)
    | (refine xg_ast ?_ hs g; intro x y m q; unfold xb16 at q; split at q <;> cases q; trivial)
    | (refine xg_ast ?_ hs g; intro x y m q; unfold xb64 at q; split at q <;> cases q; trivial)
    | (refine xg_f2 ?_ hs g; intro x y z m q; unfold xfdiv at q; split at q <;> (try split at q) <;> cases q; trivial)
    | (refine xg_f2 ?_ hs g; intro x y z m q; unfold xddiv at q; split at q <;> (try split at q) <;> cases q; trivial)
    | (refine xg_f2 ?_ hs g; intro x y z m q; unfold xfcmp at q; split at q <;> cases q; trivial)
    | (refine xg_f2 ?_ hs g; intro x y z m q; unfold xdcmp at q; split at q <;> cases q; trivial)
    | cases hs
end XG
end
section
/-! THE WORDS, THE CONSTANTS, AND WHAT AN INSTRUCTION'S ENTRY MUST NAME -/
def xNg : Cond → Bool
  | .methodLinkNest .. => true
  | .fieldLinkNest .. => true
  | .declares _ => true
  | .castable .. => true
  | _ => false
/-- a word of the tables alone that warming keeps -/
def xgd (w : Cond) : Bool := (w.onTables && w.keeps) || xNg w
theorem xgd_tab {w : Cond} (h : xgd w = true) : w.onTables = true := by
  unfold xgd at h
  rcases Bool.or_eq_true _ _ |>.mp h with h | h
  · exact (Bool.and_eq_true _ _ |>.mp h).1
  · cases w <;> first | rfl | cases h
theorem xgd_warm {w : Cond} {s U : State} (hW : s.WarmedH U.vm) (h : xgd w = true) (hz : va_Nw w s) : va_Nw w U := by
  unfold xgd at h
  rcases Bool.or_eq_true _ _ |>.mp h with h | h
  · exact word_at hW (Or.inl h) hz
  · cases w <;> first | exact va_Nw.warmM hW hz | exact va_Nw.warmF hW hz | exact va_Nw.warmD hW hz | exact va_Nw.warmC hW hz | cases h
def xSelW : List Cond := xSel.map fun x => Cond.selects "java/lang/StringBuilder" x x
/-- the words, in pieces of 16 -/
def xT0 : List Cond := lw_tbl
def xT1 : List Cond := xT0.drop 16
def xT2 : List Cond := xT1.drop 16
def xT3 : List Cond := xT2.drop 16
def xT4 : List Cond := xT3.drop 16
def xT5 : List Cond := xT4.drop 16
def xT6 : List Cond := xT5.drop 16
def xT7 : List Cond := xT6.drop 16
def xT8 : List Cond := xT7.drop 16
def xT9 : List Cond := xT8.drop 16
def xT10 : List Cond := xT9.drop 16
def xT11 : List Cond := xT10.drop 16
def xT12 : List Cond := xT11.drop 16
def xT13 : List Cond := xT12.drop 16
def xT14 : List Cond := xT13.drop 16
def xT15 : List Cond := xT14.drop 16
def xT16 : List Cond := xT15.drop 16
def xT17 : List Cond := xT16.drop 16
def xT18 : List Cond := xT17.drop 16
def xT19 : List Cond := xT18.drop 16
def xT20 : List Cond := xT19.drop 16
def xT21 : List Cond := xT20.drop 16
def xT22 : List Cond := xT21.drop 16
def xT23 : List Cond := xT22.drop 16
def xT24 : List Cond := xT23.drop 16
def xT25 : List Cond := xT24.drop 16
def xT26 : List Cond := xT25.drop 16
def xT27 : List Cond := xT26.drop 16
def xT28 : List Cond := xT27.drop 16
def xT29 : List Cond := xT28.drop 16
def xT30 : List Cond := xT29.drop 16
def xT31 : List Cond := xT30.drop 16
def xT32 : List Cond := xT31.drop 16
def xT33 : List Cond := xT32.drop 16
def xT34 : List Cond := xT33.drop 16
def xT35 : List Cond := xT34.drop 16
def xT36 : List Cond := xT35.drop 16
def xT37 : List Cond := xT36.drop 16
def xT38 : List Cond := xT37.drop 16
def xT39 : List Cond := xT38.drop 16
def xT40 : List Cond := xT39.drop 16
def xT41 : List Cond := xT40.drop 16
def xT42 : List Cond := xT41.drop 16
def xT43 : List Cond := xT42.drop 16
def xT44 : List Cond := xT43.drop 16
def xT45 : List Cond := xT44.drop 16
def xT46 : List Cond := xT45.drop 16
def xT47 : List Cond := xT46.drop 16
def xT48 : List Cond := xT47.drop 16
def xT49 : List Cond := xT48.drop 16
def xT50 : List Cond := xT49.drop 16
def xT51 : List Cond := xT50.drop 16
def xT52 : List Cond := xT51.drop 16
def xT53 : List Cond := xT52.drop 16
def xT54 : List Cond := xT53.drop 16
def xT55 : List Cond := xT54.drop 16
def xT56 : List Cond := xT55.drop 16
def xT57 : List Cond := xT56.drop 16
def xT58 : List Cond := xT57.drop 16
def xT59 : List Cond := xT58.drop 16
def xT60 : List Cond := xT59.drop 16
def xT61 : List Cond := xT60.drop 16
def xT62 : List Cond := xT61.drop 16
def xT63 : List Cond := xT62.drop 16
def xT64 : List Cond := xT63.drop 16
def xT65 : List Cond := xT64.drop 16
def xT66 : List Cond := xT65.drop 16
def xT67 : List Cond := xT66.drop 16
def xT68 : List Cond := xT67.drop 16
def xT69 : List Cond := xT68.drop 16
def xT70 : List Cond := xT69.drop 16
def xT71 : List Cond := xT70.drop 16
def xT72 : List Cond := xT71.drop 16
def xT73 : List Cond := xT72.drop 16
def xT74 : List Cond := xT73.drop 16
def xT75 : List Cond := xT74.drop 16
def xT76 : List Cond := xT75.drop 16
def xT77 : List Cond := xT76.drop 16
def xT78 : List Cond := xT77.drop 16
def xT79 : List Cond := xT78.drop 16
def xT80 : List Cond := xT79.drop 16
def xT81 : List Cond := xT80.drop 16
def xT82 : List Cond := xT81.drop 16
def xT83 : List Cond := xT82.drop 16
def xT84 : List Cond := xT83.drop 16
def xT85 : List Cond := xT84.drop 16
def xT86 : List Cond := xT85.drop 16
def xT87 : List Cond := xT86.drop 16
def xT88 : List Cond := xT87.drop 16
def xT89 : List Cond := xT88.drop 16
def xT90 : List Cond := xT89.drop 16
def xT91 : List Cond := xT90.drop 16
def xT92 : List Cond := xT91.drop 16
def xT93 : List Cond := xT92.drop 16
def xT94 : List Cond := xT93.drop 16
def xT95 : List Cond := xT94.drop 16
def xUs : List (List (List Cond)) := [[xT0, xT1, xT2, xT3, xT4, xT5, xT6, xT7, xT8, xT9, xT10, xT11, xT12, xT13, xT14, xT15], [xT16, xT17, xT18, xT19, xT20, xT21, xT22, xT23, xT24, xT25, xT26, xT27, xT28, xT29, xT30, xT31], [xT32, xT33, xT34, xT35, xT36, xT37, xT38, xT39, xT40, xT41, xT42, xT43, xT44, xT45, xT46, xT47], [xT48, xT49, xT50, xT51, xT52, xT53, xT54, xT55, xT56, xT57, xT58, xT59, xT60, xT61, xT62, xT63], [xT64, xT65, xT66, xT67, xT68, xT69, xT70, xT71, xT72, xT73, xT74, xT75, xT76, xT77, xT78, xT79], [xT80, xT81, xT82, xT83, xT84, xT85, xT86, xT87, xT88, xT89, xT90, xT91, xT92, xT93, xT94, xT95]]
theorem xT0_in : ∀ w ∈ xT0, w ∈ lw_tbl := fun _ h => h
theorem xT1_in : ∀ w ∈ xT1, w ∈ lw_tbl := fun w h => xT0_in w (List.mem_of_mem_drop h)
theorem xT2_in : ∀ w ∈ xT2, w ∈ lw_tbl := fun w h => xT1_in w (List.mem_of_mem_drop h)
theorem xT3_in : ∀ w ∈ xT3, w ∈ lw_tbl := fun w h => xT2_in w (List.mem_of_mem_drop h)
theorem xT4_in : ∀ w ∈ xT4, w ∈ lw_tbl := fun w h => xT3_in w (List.mem_of_mem_drop h)
theorem xT5_in : ∀ w ∈ xT5, w ∈ lw_tbl := fun w h => xT4_in w (List.mem_of_mem_drop h)
theorem xT6_in : ∀ w ∈ xT6, w ∈ lw_tbl := fun w h => xT5_in w (List.mem_of_mem_drop h)
theorem xT7_in : ∀ w ∈ xT7, w ∈ lw_tbl := fun w h => xT6_in w (List.mem_of_mem_drop h)
theorem xT8_in : ∀ w ∈ xT8, w ∈ lw_tbl := fun w h => xT7_in w (List.mem_of_mem_drop h)
theorem xT9_in : ∀ w ∈ xT9, w ∈ lw_tbl := fun w h => xT8_in w (List.mem_of_mem_drop h)
theorem xT10_in : ∀ w ∈ xT10, w ∈ lw_tbl := fun w h => xT9_in w (List.mem_of_mem_drop h)
theorem xT11_in : ∀ w ∈ xT11, w ∈ lw_tbl := fun w h => xT10_in w (List.mem_of_mem_drop h)
theorem xT12_in : ∀ w ∈ xT12, w ∈ lw_tbl := fun w h => xT11_in w (List.mem_of_mem_drop h)
theorem xT13_in : ∀ w ∈ xT13, w ∈ lw_tbl := fun w h => xT12_in w (List.mem_of_mem_drop h)
theorem xT14_in : ∀ w ∈ xT14, w ∈ lw_tbl := fun w h => xT13_in w (List.mem_of_mem_drop h)
theorem xT15_in : ∀ w ∈ xT15, w ∈ lw_tbl := fun w h => xT14_in w (List.mem_of_mem_drop h)
theorem xT16_in : ∀ w ∈ xT16, w ∈ lw_tbl := fun w h => xT15_in w (List.mem_of_mem_drop h)
theorem xT17_in : ∀ w ∈ xT17, w ∈ lw_tbl := fun w h => xT16_in w (List.mem_of_mem_drop h)
theorem xT18_in : ∀ w ∈ xT18, w ∈ lw_tbl := fun w h => xT17_in w (List.mem_of_mem_drop h)
theorem xT19_in : ∀ w ∈ xT19, w ∈ lw_tbl := fun w h => xT18_in w (List.mem_of_mem_drop h)
theorem xT20_in : ∀ w ∈ xT20, w ∈ lw_tbl := fun w h => xT19_in w (List.mem_of_mem_drop h)
theorem xT21_in : ∀ w ∈ xT21, w ∈ lw_tbl := fun w h => xT20_in w (List.mem_of_mem_drop h)
theorem xT22_in : ∀ w ∈ xT22, w ∈ lw_tbl := fun w h => xT21_in w (List.mem_of_mem_drop h)
theorem xT23_in : ∀ w ∈ xT23, w ∈ lw_tbl := fun w h => xT22_in w (List.mem_of_mem_drop h)
theorem xT24_in : ∀ w ∈ xT24, w ∈ lw_tbl := fun w h => xT23_in w (List.mem_of_mem_drop h)
theorem xT25_in : ∀ w ∈ xT25, w ∈ lw_tbl := fun w h => xT24_in w (List.mem_of_mem_drop h)
theorem xT26_in : ∀ w ∈ xT26, w ∈ lw_tbl := fun w h => xT25_in w (List.mem_of_mem_drop h)
theorem xT27_in : ∀ w ∈ xT27, w ∈ lw_tbl := fun w h => xT26_in w (List.mem_of_mem_drop h)
theorem xT28_in : ∀ w ∈ xT28, w ∈ lw_tbl := fun w h => xT27_in w (List.mem_of_mem_drop h)
theorem xT29_in : ∀ w ∈ xT29, w ∈ lw_tbl := fun w h => xT28_in w (List.mem_of_mem_drop h)
theorem xT30_in : ∀ w ∈ xT30, w ∈ lw_tbl := fun w h => xT29_in w (List.mem_of_mem_drop h)
theorem xT31_in : ∀ w ∈ xT31, w ∈ lw_tbl := fun w h => xT30_in w (List.mem_of_mem_drop h)
theorem xT32_in : ∀ w ∈ xT32, w ∈ lw_tbl := fun w h => xT31_in w (List.mem_of_mem_drop h)
theorem xT33_in : ∀ w ∈ xT33, w ∈ lw_tbl := fun w h => xT32_in w (List.mem_of_mem_drop h)
theorem xT34_in : ∀ w ∈ xT34, w ∈ lw_tbl := fun w h => xT33_in w (List.mem_of_mem_drop h)
theorem xT35_in : ∀ w ∈ xT35, w ∈ lw_tbl := fun w h => xT34_in w (List.mem_of_mem_drop h)
theorem xT36_in : ∀ w ∈ xT36, w ∈ lw_tbl := fun w h => xT35_in w (List.mem_of_mem_drop h)
theorem xT37_in : ∀ w ∈ xT37, w ∈ lw_tbl := fun w h => xT36_in w (List.mem_of_mem_drop h)
theorem xT38_in : ∀ w ∈ xT38, w ∈ lw_tbl := fun w h => xT37_in w (List.mem_of_mem_drop h)
theorem xT39_in : ∀ w ∈ xT39, w ∈ lw_tbl := fun w h => xT38_in w (List.mem_of_mem_drop h)
theorem xT40_in : ∀ w ∈ xT40, w ∈ lw_tbl := fun w h => xT39_in w (List.mem_of_mem_drop h)
theorem xT41_in : ∀ w ∈ xT41, w ∈ lw_tbl := fun w h => xT40_in w (List.mem_of_mem_drop h)
theorem xT42_in : ∀ w ∈ xT42, w ∈ lw_tbl := fun w h => xT41_in w (List.mem_of_mem_drop h)
theorem xT43_in : ∀ w ∈ xT43, w ∈ lw_tbl := fun w h => xT42_in w (List.mem_of_mem_drop h)
theorem xT44_in : ∀ w ∈ xT44, w ∈ lw_tbl := fun w h => xT43_in w (List.mem_of_mem_drop h)
theorem xT45_in : ∀ w ∈ xT45, w ∈ lw_tbl := fun w h => xT44_in w (List.mem_of_mem_drop h)
theorem xT46_in : ∀ w ∈ xT46, w ∈ lw_tbl := fun w h => xT45_in w (List.mem_of_mem_drop h)
theorem xT47_in : ∀ w ∈ xT47, w ∈ lw_tbl := fun w h => xT46_in w (List.mem_of_mem_drop h)
theorem xT48_in : ∀ w ∈ xT48, w ∈ lw_tbl := fun w h => xT47_in w (List.mem_of_mem_drop h)
theorem xT49_in : ∀ w ∈ xT49, w ∈ lw_tbl := fun w h => xT48_in w (List.mem_of_mem_drop h)
theorem xT50_in : ∀ w ∈ xT50, w ∈ lw_tbl := fun w h => xT49_in w (List.mem_of_mem_drop h)
theorem xT51_in : ∀ w ∈ xT51, w ∈ lw_tbl := fun w h => xT50_in w (List.mem_of_mem_drop h)
theorem xT52_in : ∀ w ∈ xT52, w ∈ lw_tbl := fun w h => xT51_in w (List.mem_of_mem_drop h)
theorem xT53_in : ∀ w ∈ xT53, w ∈ lw_tbl := fun w h => xT52_in w (List.mem_of_mem_drop h)
theorem xT54_in : ∀ w ∈ xT54, w ∈ lw_tbl := fun w h => xT53_in w (List.mem_of_mem_drop h)
theorem xT55_in : ∀ w ∈ xT55, w ∈ lw_tbl := fun w h => xT54_in w (List.mem_of_mem_drop h)
theorem xT56_in : ∀ w ∈ xT56, w ∈ lw_tbl := fun w h => xT55_in w (List.mem_of_mem_drop h)
theorem xT57_in : ∀ w ∈ xT57, w ∈ lw_tbl := fun w h => xT56_in w (List.mem_of_mem_drop h)
theorem xT58_in : ∀ w ∈ xT58, w ∈ lw_tbl := fun w h => xT57_in w (List.mem_of_mem_drop h)
theorem xT59_in : ∀ w ∈ xT59, w ∈ lw_tbl := fun w h => xT58_in w (List.mem_of_mem_drop h)
theorem xT60_in : ∀ w ∈ xT60, w ∈ lw_tbl := fun w h => xT59_in w (List.mem_of_mem_drop h)
theorem xT61_in : ∀ w ∈ xT61, w ∈ lw_tbl := fun w h => xT60_in w (List.mem_of_mem_drop h)
theorem xT62_in : ∀ w ∈ xT62, w ∈ lw_tbl := fun w h => xT61_in w (List.mem_of_mem_drop h)
theorem xT63_in : ∀ w ∈ xT63, w ∈ lw_tbl := fun w h => xT62_in w (List.mem_of_mem_drop h)
theorem xT64_in : ∀ w ∈ xT64, w ∈ lw_tbl := fun w h => xT63_in w (List.mem_of_mem_drop h)
theorem xT65_in : ∀ w ∈ xT65, w ∈ lw_tbl := fun w h => xT64_in w (List.mem_of_mem_drop h)
theorem xT66_in : ∀ w ∈ xT66, w ∈ lw_tbl := fun w h => xT65_in w (List.mem_of_mem_drop h)
theorem xT67_in : ∀ w ∈ xT67, w ∈ lw_tbl := fun w h => xT66_in w (List.mem_of_mem_drop h)
theorem xT68_in : ∀ w ∈ xT68, w ∈ lw_tbl := fun w h => xT67_in w (List.mem_of_mem_drop h)
theorem xT69_in : ∀ w ∈ xT69, w ∈ lw_tbl := fun w h => xT68_in w (List.mem_of_mem_drop h)
theorem xT70_in : ∀ w ∈ xT70, w ∈ lw_tbl := fun w h => xT69_in w (List.mem_of_mem_drop h)
theorem xT71_in : ∀ w ∈ xT71, w ∈ lw_tbl := fun w h => xT70_in w (List.mem_of_mem_drop h)
theorem xT72_in : ∀ w ∈ xT72, w ∈ lw_tbl := fun w h => xT71_in w (List.mem_of_mem_drop h)
theorem xT73_in : ∀ w ∈ xT73, w ∈ lw_tbl := fun w h => xT72_in w (List.mem_of_mem_drop h)
theorem xT74_in : ∀ w ∈ xT74, w ∈ lw_tbl := fun w h => xT73_in w (List.mem_of_mem_drop h)
theorem xT75_in : ∀ w ∈ xT75, w ∈ lw_tbl := fun w h => xT74_in w (List.mem_of_mem_drop h)
theorem xT76_in : ∀ w ∈ xT76, w ∈ lw_tbl := fun w h => xT75_in w (List.mem_of_mem_drop h)
theorem xT77_in : ∀ w ∈ xT77, w ∈ lw_tbl := fun w h => xT76_in w (List.mem_of_mem_drop h)
theorem xT78_in : ∀ w ∈ xT78, w ∈ lw_tbl := fun w h => xT77_in w (List.mem_of_mem_drop h)
theorem xT79_in : ∀ w ∈ xT79, w ∈ lw_tbl := fun w h => xT78_in w (List.mem_of_mem_drop h)
theorem xT80_in : ∀ w ∈ xT80, w ∈ lw_tbl := fun w h => xT79_in w (List.mem_of_mem_drop h)
theorem xT81_in : ∀ w ∈ xT81, w ∈ lw_tbl := fun w h => xT80_in w (List.mem_of_mem_drop h)
theorem xT82_in : ∀ w ∈ xT82, w ∈ lw_tbl := fun w h => xT81_in w (List.mem_of_mem_drop h)
theorem xT83_in : ∀ w ∈ xT83, w ∈ lw_tbl := fun w h => xT82_in w (List.mem_of_mem_drop h)
theorem xT84_in : ∀ w ∈ xT84, w ∈ lw_tbl := fun w h => xT83_in w (List.mem_of_mem_drop h)
theorem xT85_in : ∀ w ∈ xT85, w ∈ lw_tbl := fun w h => xT84_in w (List.mem_of_mem_drop h)
theorem xT86_in : ∀ w ∈ xT86, w ∈ lw_tbl := fun w h => xT85_in w (List.mem_of_mem_drop h)
theorem xT87_in : ∀ w ∈ xT87, w ∈ lw_tbl := fun w h => xT86_in w (List.mem_of_mem_drop h)
theorem xT88_in : ∀ w ∈ xT88, w ∈ lw_tbl := fun w h => xT87_in w (List.mem_of_mem_drop h)
theorem xT89_in : ∀ w ∈ xT89, w ∈ lw_tbl := fun w h => xT88_in w (List.mem_of_mem_drop h)
theorem xT90_in : ∀ w ∈ xT90, w ∈ lw_tbl := fun w h => xT89_in w (List.mem_of_mem_drop h)
theorem xT91_in : ∀ w ∈ xT91, w ∈ lw_tbl := fun w h => xT90_in w (List.mem_of_mem_drop h)
theorem xT92_in : ∀ w ∈ xT92, w ∈ lw_tbl := fun w h => xT91_in w (List.mem_of_mem_drop h)
theorem xT93_in : ∀ w ∈ xT93, w ∈ lw_tbl := fun w h => xT92_in w (List.mem_of_mem_drop h)
theorem xT94_in : ∀ w ∈ xT94, w ∈ lw_tbl := fun w h => xT93_in w (List.mem_of_mem_drop h)
theorem xT95_in : ∀ w ∈ xT95, w ∈ lw_tbl := fun w h => xT94_in w (List.mem_of_mem_drop h)
theorem xU0_in : ∀ t ∈ ([xT0, xT1, xT2, xT3, xT4, xT5, xT6, xT7, xT8, xT9, xT10, xT11, xT12, xT13, xT14, xT15] : List (List Cond)), ∀ w ∈ t, w ∈ lw_tbl := List.forall_mem_cons.mpr ⟨xT0_in, List.forall_mem_cons.mpr ⟨xT1_in, List.forall_mem_cons.mpr ⟨xT2_in, List.forall_mem_cons.mpr ⟨xT3_in, List.forall_mem_cons.mpr ⟨xT4_in, List.forall_mem_cons.mpr ⟨xT5_in, List.forall_mem_cons.mpr ⟨xT6_in, List.forall_mem_cons.mpr ⟨xT7_in, List.forall_mem_cons.mpr ⟨xT8_in, List.forall_mem_cons.mpr ⟨xT9_in, List.forall_mem_cons.mpr ⟨xT10_in, List.forall_mem_cons.mpr ⟨xT11_in, List.forall_mem_cons.mpr ⟨xT12_in, List.forall_mem_cons.mpr ⟨xT13_in, List.forall_mem_cons.mpr ⟨xT14_in, List.forall_mem_cons.mpr ⟨xT15_in, fun _ h => absurd h List.not_mem_nil⟩⟩⟩⟩⟩⟩⟩⟩⟩⟩⟩⟩⟩⟩⟩⟩
theorem xU1_in : ∀ t ∈ ([xT16, xT17, xT18, xT19, xT20, xT21, xT22, xT23, xT24, xT25, xT26, xT27, xT28, xT29, xT30, xT31] : List (List Cond)), ∀ w ∈ t, w ∈ lw_tbl := List.forall_mem_cons.mpr ⟨xT16_in, List.forall_mem_cons.mpr ⟨xT17_in, List.forall_mem_cons.mpr ⟨xT18_in, List.forall_mem_cons.mpr ⟨xT19_in, List.forall_mem_cons.mpr ⟨xT20_in, List.forall_mem_cons.mpr ⟨xT21_in, List.forall_mem_cons.mpr ⟨xT22_in, List.forall_mem_cons.mpr ⟨xT23_in, List.forall_mem_cons.mpr ⟨xT24_in, List.forall_mem_cons.mpr ⟨xT25_in, List.forall_mem_cons.mpr ⟨xT26_in, List.forall_mem_cons.mpr ⟨xT27_in, List.forall_mem_cons.mpr ⟨xT28_in, List.forall_mem_cons.mpr ⟨xT29_in, List.forall_mem_cons.mpr ⟨xT30_in, List.forall_mem_cons.mpr ⟨xT31_in, fun _ h => absurd h List.not_mem_nil⟩⟩⟩⟩⟩⟩⟩⟩⟩⟩⟩⟩⟩⟩⟩⟩
theorem xU2_in : ∀ t ∈ ([xT32, xT33, xT34, xT35, xT36, xT37, xT38, xT39, xT40, xT41, xT42, xT43, xT44, xT45, xT46, xT47] : List (List Cond)), ∀ w ∈ t, w ∈ lw_tbl := List.forall_mem_cons.mpr ⟨xT32_in, List.forall_mem_cons.mpr ⟨xT33_in, List.forall_mem_cons.mpr ⟨xT34_in, List.forall_mem_cons.mpr ⟨xT35_in, List.forall_mem_cons.mpr ⟨xT36_in, List.forall_mem_cons.mpr ⟨xT37_in, List.forall_mem_cons.mpr ⟨xT38_in, List.forall_mem_cons.mpr ⟨xT39_in, List.forall_mem_cons.mpr ⟨xT40_in, List.forall_mem_cons.mpr ⟨xT41_in, List.forall_mem_cons.mpr ⟨xT42_in, List.forall_mem_cons.mpr ⟨xT43_in, List.forall_mem_cons.mpr ⟨xT44_in, List.forall_mem_cons.mpr ⟨xT45_in, List.forall_mem_cons.mpr ⟨xT46_in, List.forall_mem_cons.mpr ⟨xT47_in, fun _ h => absurd h List.not_mem_nil⟩⟩⟩⟩⟩⟩⟩⟩⟩⟩⟩⟩⟩⟩⟩⟩
theorem xU3_in : ∀ t ∈ ([xT48, xT49, xT50, xT51, xT52, xT53, xT54, xT55, xT56, xT57, xT58, xT59, xT60, xT61, xT62, xT63] : List (List Cond)), ∀ w ∈ t, w ∈ lw_tbl := List.forall_mem_cons.mpr ⟨xT48_in, List.forall_mem_cons.mpr ⟨xT49_in, List.forall_mem_cons.mpr ⟨xT50_in, List.forall_mem_cons.mpr ⟨xT51_in, List.forall_mem_cons.mpr ⟨xT52_in, List.forall_mem_cons.mpr ⟨xT53_in, List.forall_mem_cons.mpr ⟨xT54_in, List.forall_mem_cons.mpr ⟨xT55_in, List.forall_mem_cons.mpr ⟨xT56_in, List.forall_mem_cons.mpr ⟨xT57_in, List.forall_mem_cons.mpr ⟨xT58_in, List.forall_mem_cons.mpr ⟨xT59_in, List.forall_mem_cons.mpr ⟨xT60_in, List.forall_mem_cons.mpr ⟨xT61_in, List.forall_mem_cons.mpr ⟨xT62_in, List.forall_mem_cons.mpr ⟨xT63_in, fun _ h => absurd h List.not_mem_nil⟩⟩⟩⟩⟩⟩⟩⟩⟩⟩⟩⟩⟩⟩⟩⟩
theorem xU4_in : ∀ t ∈ ([xT64, xT65, xT66, xT67, xT68, xT69, xT70, xT71, xT72, xT73, xT74, xT75, xT76, xT77, xT78, xT79] : List (List Cond)), ∀ w ∈ t, w ∈ lw_tbl := List.forall_mem_cons.mpr ⟨xT64_in, List.forall_mem_cons.mpr ⟨xT65_in, List.forall_mem_cons.mpr ⟨xT66_in, List.forall_mem_cons.mpr ⟨xT67_in, List.forall_mem_cons.mpr ⟨xT68_in, List.forall_mem_cons.mpr ⟨xT69_in, List.forall_mem_cons.mpr ⟨xT70_in, List.forall_mem_cons.mpr ⟨xT71_in, List.forall_mem_cons.mpr ⟨xT72_in, List.forall_mem_cons.mpr ⟨xT73_in, List.forall_mem_cons.mpr ⟨xT74_in, List.forall_mem_cons.mpr ⟨xT75_in, List.forall_mem_cons.mpr ⟨xT76_in, List.forall_mem_cons.mpr ⟨xT77_in, List.forall_mem_cons.mpr ⟨xT78_in, List.forall_mem_cons.mpr ⟨xT79_in, fun _ h => absurd h List.not_mem_nil⟩⟩⟩⟩⟩⟩⟩⟩⟩⟩⟩⟩⟩⟩⟩⟩
theorem xU5_in : ∀ t ∈ ([xT80, xT81, xT82, xT83, xT84, xT85, xT86, xT87, xT88, xT89, xT90, xT91, xT92, xT93, xT94, xT95] : List (List Cond)), ∀ w ∈ t, w ∈ lw_tbl := List.forall_mem_cons.mpr ⟨xT80_in, List.forall_mem_cons.mpr ⟨xT81_in, List.forall_mem_cons.mpr ⟨xT82_in, List.forall_mem_cons.mpr ⟨xT83_in, List.forall_mem_cons.mpr ⟨xT84_in, List.forall_mem_cons.mpr ⟨xT85_in, List.forall_mem_cons.mpr ⟨xT86_in, List.forall_mem_cons.mpr ⟨xT87_in, List.forall_mem_cons.mpr ⟨xT88_in, List.forall_mem_cons.mpr ⟨xT89_in, List.forall_mem_cons.mpr ⟨xT90_in, List.forall_mem_cons.mpr ⟨xT91_in, List.forall_mem_cons.mpr ⟨xT92_in, List.forall_mem_cons.mpr ⟨xT93_in, List.forall_mem_cons.mpr ⟨xT94_in, List.forall_mem_cons.mpr ⟨xT95_in, fun _ h => absurd h List.not_mem_nil⟩⟩⟩⟩⟩⟩⟩⟩⟩⟩⟩⟩⟩⟩⟩⟩
theorem xUs_in : ∀ u ∈ xUs, ∀ t ∈ u, ∀ w ∈ t, w ∈ lw_tbl := List.forall_mem_cons.mpr ⟨xU0_in, List.forall_mem_cons.mpr ⟨xU1_in, List.forall_mem_cons.mpr ⟨xU2_in, List.forall_mem_cons.mpr ⟨xU3_in, List.forall_mem_cons.mpr ⟨xU4_in, List.forall_mem_cons.mpr ⟨xU5_in, fun _ h => absurd h List.not_mem_nil⟩⟩⟩⟩⟩⟩
/-- the word at the place k (from 5000 on: of the private methods of the builder's superclass) -/
def xWt (k : Nat) : Option Cond := match xUs[k / 256]? with
  | some u => match u[k / 16 % 16]? with
    | some t => t[k % 16]?
    | none => none
  | none => none
def xWd (k : Nat) : Option Cond := match decide (k < 5000) with
  | true => xWt k
  | false => xSelW[k - 5000]?
theorem xWt_in {k : Nat} {w : Cond} (h : xWt k = some w) : w ∈ lw_tbl := by
  unfold xWt at h
  split at h
  · rename_i u hu
    split at h
    · rename_i t ht
      exact xUs_in u (List.mem_of_getElem? hu) t (List.mem_of_getElem? ht) w (List.mem_of_getElem? h)
    · cases h
  · cases h
def xwd (k : Nat) (w : Cond) : Bool := decide (xWd k = some w) && xgd w
/-- the fields of constant objects -/
def xKF : Nat → Nat → Option (String × String × String)
  | 0, 0 => some ("java/lang/String", "value", "[B")
  | 0, 1 => some ("java/lang/String", "coder", "B")
  | 45, 0 => some ("RiverReaches$Kind", "word", "Ljava/lang/String;")
  | 45, 1 => some ("RiverReaches$Kind", "parameters", "Ljava/lang/String;")
  | 45, 2 => some ("java/lang/Enum", "ordinal", "I")
  | _, _ => none
def xKC : Nat → Option String
  | 0 => some "java/lang/String"
  | 45 => some "RiverReaches$Kind"
  | _ => none
def xCok (b0 : Nat) (ad : Nat → Nat) (s : State) (i k : Nat) (vs : List Value) : Prop :=
  (∀ (j : Nat) (o n d : String) (v : Value), xKF k j = some (o, n, d) → vs[j]? = some v → xknown v = true → va_OF o n d (xcV ad v) (ad (1000000 + i)) (fun q => b0 ≤ q) s s.heap) ∧
  (50 ≤ k → va_T (xTy (k - 50)) (ad (1000000 + i)) vs.length (fun j => xcV ad (vs.getD j .null)) (fun q => b0 ≤ q) s s.heap) ∧
  ∀ E, xKC k = some E → va_O E (ad (1000000 + i)) (fun q => b0 ≤ q) s s.heap
/-- WHAT HOLDS AT A METHOD'S START, besides the abstract heap -/
def xEnv (xs : List Int32) (z : Value) (b0 : Nat) (D : va_G) (tyC : Nat → ClassId) (ad : Nat → Nat) (s : State) : Prop :=
  (∀ w : Cond, (w ∈ lw_tbl ∨ w ∈ xSelW) → xgd w = true → va_Nw w s) ∧
  va_K D vwCl (xtys tyC) s ∧
  (∀ (j : Nat) (C n d : String) (v : Value), xZn[j]? = some (C, n, d) → (xZ z)[j]? = some v → va_Z C n d (xcV ad v) (fun q => b0 ≤ q) s s.heap) ∧
  (∀ (i k : Nat) (vs : List Value), (xK xs)[i]? = some (k, vs) → xCok b0 ad s i k vs) ∧
  (∀ (j : Nat) (own : String) (i : Nat) (tx : String), xSt[j]? = some (own, i, tx) → vk_R own i tx (ad (1000020 + 2 * j)) s) ∧
  (vx_Zq Bundle.tN "UNASSIGNED_STACK" Bundle.steD (fun q => b0 ≤ q) s s.heap ∧ vx_Zq Bundle.tN "SUPPRESSED_SENTINEL" Bundle.listD (fun q => b0 ≤ q) s s.heap) ∧
  (∀ (t : Nat) (C : String), 3 ≤ t → t ≤ 6 → xTy t = .object C → va_AO C s) ∧
  ((Cond.arrayClass .byte).before #[] s = true ∧ (Cond.arrayClass .char).before #[] s = true ∧ (Cond.arrayClass .long).before #[] s = true) ∧
  (∀ E F : String, E ∈ xEx → F ∈ xEx → E ≠ F → va_Nc E F s) ∧ b0 ≤ s.heap.size
theorem xenv_w {xs : List Int32} {z : Value} {b0 : Nat} {D : va_G} {tyC : Nat → ClassId} {ad : Nat → Nat} {s : State} (hE : xEnv xs z b0 D tyC ad s) {k : Nat} {w : Cond} (h : xwd k w = true) (args : Array Value) : w.before args s = true := by
  obtain ⟨h1, h2⟩ := Bool.and_eq_true _ _ |>.mp h
  have h1 := of_decide_eq_true h1
  refine va_Nw.use (xgd_tab h2) (hE.1 w ?_ h2)
  unfold xWd at h1
  split at h1
  · exact Or.inl (xWt_in h1)
  · exact Or.inr (List.mem_of_getElem? h1)
theorem xcls_words : vwCl.all (fun q => (u_ws q.1 q.2.1 q.2.2).all (fun w => decide (w ∈ lw_tbl) && xgd w)) = true := by decide +kernel
theorem xcls_w {xs : List Int32} {z : Value} {b0 : Nat} {D : va_G} {tyC : Nat → ClassId} {ad : Nat → Nat} {s : State} (hE : xEnv xs z b0 D tyC ad s) {ci : Nat} {C : String} {T : u_T} {N : Nat} (hc : vwCl[ci]? = some (C, T, N)) (args : Array Value) : ∀ w ∈ u_ws C T N, w.before args s = true := by
  intro w hw
  have h1 := List.all_eq_true.mp (List.all_eq_true.mp xcls_words _ (List.mem_of_getElem? hc)) w hw
  obtain ⟨h1, h2⟩ := Bool.and_eq_true _ _ |>.mp h1
  exact va_Nw.use (xgd_tab h2) (hE.1 w (Or.inl (of_decide_eq_true h1)) h2)
/-- the types of the fields, and that no two fields of a class share a name -/
theorem xcls_ty0 : vwCl.zipIdx.all (fun x => (List.range x.1.2.2).all (fun k => decide (parseFieldDescriptor (x.1.2.1 k).2.2.1 = some (xFt x.2 k)))) = true := by decide +kernel
theorem xcls_ty {ci : Nat} {C : String} {T : u_T} {N : Nat} (h : vwCl[ci]? = some (C, T, N)) : ∀ k, k < N → parseFieldDescriptor (T k).2.2.1 = some (xFt ci k) := fun k hk =>
  of_decide_eq_true (List.all_eq_true.mp (List.all_eq_true.mp xcls_ty0 ((C, T, N), ci) (List.mem_zipIdx_iff_getElem?.mpr h)) k (List.mem_range.mpr hk))
theorem xcls_nm0 : vwCl.all (fun q => (List.range q.2.2).all (fun a => (List.range q.2.2).all (fun b => decide (a = b) || decide ((q.2.1 a).2.1 ≠ (q.2.1 b).2.1)))) = true := by decide +kernel
theorem xcls_nm {ci : Nat} {C : String} {T : u_T} {N : Nat} (h : vwCl[ci]? = some (C, T, N)) : ∀ a, a < N → ∀ b, b < N → a ≠ b → (T a).2.1 ≠ (T b).2.1 := by
  intro a ha b hb hab
  have h1 := List.all_eq_true.mp (List.all_eq_true.mp (List.all_eq_true.mp xcls_nm0 _ (List.mem_of_getElem? h)) a (List.mem_range.mpr ha)) b (List.mem_range.mpr hb)
  rcases Bool.or_eq_true _ _ |>.mp h1 with h1 | h1
  · exact absurd (of_decide_eq_true h1) hab
  · exact of_decide_eq_true h1
theorem xcls_lt {ci : Nat} {q : vw_C} (h : vwCl[ci]? = some q) : ci < 12 := (List.getElem?_eq_some_iff.mp h).1
/-- the lengths of the instructions -/
def xlen (i : Instr) (n : Nat) : Bool := match i with
  | .tableswitch .. => true
  | .bipush _ => n == 2
  | .newarray _ => n == 2
  | .ldc _ => n == 2
  | .iload _ => n == 2
  | .lload _ => n == 2
  | .aload _ => n == 2
  | .istore _ => n == 2
  | .astore _ => n == 2
  | .lstore _ => n == 2
  | .sipush _ => n == 3
  | .goto _ => n == 3
  | .ifCond .. => n == 3
  | .if_icmp .. => n == 3
  | .ifnonnull _ => n == 3
  | .ifnull _ => n == 3
  | .getfield _ => n == 3
  | .putfield _ => n == 3
  | .getstatic _ => n == 3
  | .invokevirtual _ => n == 3
  | .invokestatic _ => n == 3
  | .invokespecial _ => n == 3
  | .new _ => n == 3
  | .anewarray _ => n == 3
  | .checkcast _ => n == 3
  | .iinc .. => n == 3
  | .ldc_w _ => n == 3
  | .ldc2_w _ => n == 3
  | _ => n == 1
def xbfld (own : String) (i : Nat) (aux : List Nat) : Bool := match aux with
  | ci :: k :: I :: _ => match decide (ci = 45) with
    | true => match xKF 45 k with
      | some (o, n, d) => xwd I (.fieldLink own i o n d)
      | none => false
    | false => match vwCl[ci]? with
      | some (_, T, N) => decide (k < N) && (xwd I (.fieldLink own i (T k).1 (T k).2.1 (T k).2.2.1) && (decide (ci ≠ 0) || decide (k < 2)))
      | none => false
  | [] => true
  | _ => false
def xbput (y : MethodName) (i : Nat) (aux : List Nat) : Bool := match aux with
  | ci :: k :: I :: _ => match vwCl[ci]? with
    | some (_, T, N) => decide (k < N) && (xwd I (.fieldLink y.cls i (T k).1 (T k).2.1 (T k).2.2.1) && (!(T k).2.2.2 || (decide (y.name = "<init>") && decide ((T k).1 = y.cls))))
    | none => false
  | [] => true
  | _ => false
def xbsta (own : String) (i : Nat) (aux : List Nat) : Bool := match aux with
  | j :: I :: nest :: _ => match xZn[j]? with
    | some (C, n, d) => match decide (nest = 0) with
      | true => xwd I (.fieldLink own i C n d)
      | false => xwd I (.fieldLinkNest own i C n d "RiverReaches")
    | none => false
  | [] => true
  | _ => false
def xbnew (own : String) (i : Nat) (aux : List Nat) : Bool := match aux with
  | 0 :: ci :: I :: I2 :: I3 :: _ => match vwCl[ci]? with
    | some (C, _, N) => xwd I (.classLink own i C) && (xwd I2 (.instantiable C N) && (xwd I3 (.initialized C) && (decide ((xnew0 ci).length = N) && decide (ci ≠ 2) && decide (ci ≠ 3))))
    | none => false
  | 1 :: E :: I :: I2 :: ic :: _ => match xEx[E]? with
    | some X => xwd I (.classLink own i X) && (xwd I2 (.initialized X) && decide (ic < 100000))
    | none => false
  | [] => true
  | _ => false
def xbarr (own : String) (i : Nat) (aux : List Nat) : Bool := match aux with
  | t :: I :: _ => decide (3 ≤ t) && (decide (t ≤ 6) && match xTy t with
    | .object C => xwd I (.classLink own i C)
    | _ => false)
  | [] => true
  | _ => false
def xbldc (own : String) (i : Nat) (aux : List Nat) : Bool := match aux with
  | 0 :: v :: I :: _ => xwd I (.constant own i (Int32.ofNat v))
  | 1 :: j :: _ => decide (20 ≤ j) && (decide (j % 2 = 0) && match xSt[(j - 20) / 2]? with
    | some (o, k, _) => decide (o = own) && decide (k = i)
    | none => false)
  | 2 :: v :: I :: _ => xwd I (.constantFloat own i (UInt32.ofNat v))
  | [] => true
  | _ => false
def xbld2 (own : String) (i : Nat) (aux : List Nat) : Bool := match aux with
  | 0 :: v :: I :: _ => xwd I (.constantLong own i (Int64.ofNat v))
  | 1 :: v :: I :: _ => xwd I (.constantDouble own i (UInt64.ofNat v))
  | [] => true
  | _ => false
theorem xbfld_spec {own : String} {i ci k : Nat} {r : List Nat} (hk : xbfld own i (ci :: k :: r) = true) : (ci = 45 ∧ ∃ I o n d, xKF 45 k = some (o, n, d) ∧ xwd I (.fieldLink own i o n d) = true) ∨ ∃ I C T N, vwCl[ci]? = some (C, T, N) ∧ k < N ∧ xwd I (.fieldLink own i (T k).1 (T k).2.1 (T k).2.2.1) = true ∧ (ci ≠ 0 ∨ k < 2) := by
  unfold xbfld at hk
  cases r with
  | nil => cases hk
  | cons I r =>
    dsimp only at hk
    split at hk
    · rename_i h45
      split at hk
      · rename_i o n d hf
        exact Or.inl ⟨of_decide_eq_true h45, I, o, n, d, hf, hk⟩
      · cases hk
    · split at hk
      · rename_i C T N hc
        simp only [Bool.and_eq_true, Bool.or_eq_true, decide_eq_true_eq] at hk
        exact Or.inr ⟨I, C, T, N, hc, hk.1, hk.2.1, hk.2.2⟩
      · cases hk
theorem xbput_spec {y : MethodName} {i ci k : Nat} {r : List Nat} (hk : xbput y i (ci :: k :: r) = true) : ∃ I C T N, vwCl[ci]? = some (C, T, N) ∧ k < N ∧ xwd I (.fieldLink y.cls i (T k).1 (T k).2.1 (T k).2.2.1) = true ∧ ((T k).2.2.2 = false ∨ ((T k).2.2.2 = true ∧ y.name = "<init>" ∧ (T k).1 = y.cls)) := by
  unfold xbput at hk
  cases r with
  | nil => cases hk
  | cons I r =>
    dsimp only at hk
    split at hk
    · rename_i C T N hc
      simp only [Bool.and_eq_true, Bool.or_eq_true, decide_eq_true_eq, Bool.not_eq_true'] at hk
      refine ⟨I, C, T, N, hc, hk.1, hk.2.1, ?_⟩
      rcases hk.2.2 with q | q
      · exact Or.inl q
      · cases hf : (T k).2.2.2 with
        | false => exact Or.inl rfl
        | true => exact Or.inr ⟨rfl, q⟩
    · cases hk
theorem xK_kinds (xs : List Int32) : (xK xs).all (fun q => decide (q.1 = 0) || decide (40 ≤ q.1)) = true := rfl
theorem xK_kind {xs : List Int32} {i k : Nat} {vs : List Value} (h : (xK xs)[i]? = some (k, vs)) : k = 0 ∨ 40 ≤ k := by
  have := List.all_eq_true.mp (xK_kinds xs) _ (List.mem_of_getElem? h)
  simpa using this
theorem xfit_fits {ty : FieldType} {v : Value} (h : xfit ty v = true) (ad : Nat → Nat) : fits ty (xcV ad v) = true := by
  unfold xfit at h
  split at h <;> first | rfl | (cases h; done) | (simp only [Bool.and_eq_true, Bool.or_eq_true, decide_eq_true_eq] at h; simp [xcV, fits, h])
end
section
/-! EVERY INSTRUCTION BUT CALLS, RETURNS AND THROWS IS TRUE TO THE MACHINE -/
section XS
variable {p : Program} {l : Launch} {e : Env} {R : Room} {s : State} {m : MethodId} {args : Array Value} {below : List Frame} {meth : Method} {c : Code} {H : Heap} {locs : List Loc} {cells slots : Nat} {Q : State → Prop}
variable {cc : ByteArray} {pc nL : Nat} {ls : Array Slot} {b0 : Nat} {D : va_G} {tyC : Nat → ClassId} {ad : Nat → Nat} {h h' : xH} {loc loc' : xL} {st st' : List Value} {K : List (Nat × List Value)} {Z : List Value} {t : Option Nat}
/-- what must be shown behind an instruction: from every machine that stands as the abstract state does -/
def xCont (p : Program) (l : Launch) (e : Env) (R : Room) (s : State) (m : MethodId) (args : Array Value) (below : List Frame) (meth : Method) (c : Code) (Q : State → Prop) (nL b0 : Nat) (D : va_G) (tyC : Nat → ClassId) (ad : Nat → Nat) (h : xH) (cells slots pc' : Nat) (loc' : xL) (st' : List Value) (h' : xH) : Prop :=
  ∀ (ad' : Nat → Nat) (H' : Heap) (locs' : List Loc) (ls' : Array Slot), (∀ i, (i < h.length ∨ 1000000 ≤ i) → ad' i = ad i) → xRel b0 D tyC ad' h' s H' locs' → lv_has ls' nL (xlc ad' loc') → W p l e R s m args below meth c H' locs' (cells + (h'.length - h.length)) (slots + (xsz h' - xsz h)) Q (F0 m pc' ls' (st'.map (xcV ad')))
theorem xk0 {pc' : Nat} {ls' : Array Slot} (kk : xCont p l e R s m args below meth c Q nL b0 D tyC ad h cells slots pc' loc' st' h) (hR : xRel b0 D tyC ad h s H locs) (hl : lv_has ls' nL (xlc ad loc')) : W p l e R s m args below meth c H locs cells slots Q (F0 m pc' ls' (st'.map (xcV ad))) := by
  have k := kk ad H locs ls' (fun _ _ => rfl) hR hl
  rwa [Nat.sub_self, Nat.sub_self, Nat.add_zero, Nat.add_zero] at k
theorem xk1 {pc' i : Nat} {ls' : Array Slot} {k : Nat} {vs ws : List Value} {H1 : Heap} {locs1 : List Loc} (kk : xCont p l e R s m args below meth c Q nL b0 D tyC ad h cells slots pc' loc' st' (h.set i (k, ws))) (hi : h[i]? = some (k, vs)) (hw : ws.length = vs.length) (hR : xRel b0 D tyC ad (h.set i (k, ws)) s H1 locs1) (hl : lv_has ls' nL (xlc ad loc')) : W p l e R s m args below meth c H1 locs1 cells slots Q (F0 m pc' ls' (st'.map (xcV ad))) := by
  have k := kk ad H1 locs1 ls' (fun _ _ => rfl) hR hl
  rwa [List.length_set, xsz_set hi hw, Nat.sub_self, Nat.sub_self, Nat.add_zero, Nat.add_zero] at k
theorem xk2 {pc' : Nat} {ls' : Array Slot} {ad' : Nat → Nat} {q : Nat × List Value} {H1 : Heap} {locs1 : List Loc} {n : Nat} (hn : q.2.length = n) (kk : xCont p l e R s m args below meth c Q nL b0 D tyC ad h cells slots pc' loc' st' (h ++ [q])) (ha : ∀ i, (i < h.length ∨ 1000000 ≤ i) → ad' i = ad i) (hR : xRel b0 D tyC ad' (h ++ [q]) s H1 locs1) (hl : lv_has ls' nL (xlc ad' loc')) : W p l e R s m args below meth c H1 locs1 (cells + 1) (slots + n) Q (F0 m pc' ls' (st'.map (xcV ad'))) := by
  have k := kk ad' H1 locs1 ls' ha hR hl
  rwa [xsz_push, List.length_append, show h.length + [q].length - h.length = 1 by simp, show xsz h + q.2.length - xsz h = n by omega] at k
theorem xget_at {i : Nat} {v : Value} (hv : xget loc i = some v) (hl : lv_has ls nL (xlc ad loc)) : ls[i]? = some (.val (xcV ad v)) := by
  unfold xget at hv
  obtain ⟨q, hq, rfl⟩ := Option.map_eq_some_iff.mp hv
  have h1 := List.mem_of_find?_eq_some hq
  have h2 : q.1 = i := by simpa using List.find?_some hq
  subst h2
  exact hl.2.2 (q.1, xcV ad q.2) (List.mem_map.mpr ⟨q, h1, rfl⟩)
theorem xlc_s1 (i : Nat) (v : Value) : (i, xcV ad v) :: (xlc ad loc).filter (fun q => !(q.1 == i) && !(q.1 + 1 == i && q.2.category == 2)) = xlc ad (xs1 loc i v) := by
  unfold xlc xs1
  rw [List.map_cons, List.filter_map]
  congr 3
  funext q
  simp [xcV_cat]
theorem xlc_s2 (i : Nat) (v : Value) : (i, xcV ad v) :: (xlc ad loc).filter (fun q => !(q.1 == i) && (!(q.1 == i + 1) && !(q.1 + 1 == i && q.2.category == 2))) = xlc ad (xs2 loc i v) := by
  unfold xlc xs2
  rw [List.map_cons, List.filter_map]
  congr 3
  funext q
  simp [xcV_cat]
theorem xtgt_eq {off : Int} {t : Nat} (h : xtgt pc off = some t) : (pc : Int) + off = (t : Int) := by
  unfold xtgt at h
  split at h
  · cases h
    omega
  · cases h

theorem xo_iconst (hx : p.tables.exec = Jvm.exec) (hb : c.code = cc) {n : Int} (hdg : decode cc pc = .ok (.iconst n, 1)) (hs : xnx loc (.int (Int32.ofInt n) :: st) h = some (.inl (t, loc', st', h'))) (hR : xRel b0 D tyC ad h s H locs) (hl : lv_has ls nL (xlc ad loc)) (kk : xCont p l e R s m args below meth c Q nL b0 D tyC ad h cells slots (t.getD (pc + 1)) loc' st' h') : W p l e R s m args below meth c H locs cells slots Q (F0 m pc ls (st.map (xcV ad))) := by
  cases hs
  exact lv_iconst hx hb hdg rfl (xk0 kk hR hl)

theorem xo_bipush (hx : p.tables.exec = Jvm.exec) (hb : c.code = cc) {n : Int} (hdg : decode cc pc = .ok (.bipush n, 2)) (hs : xnx loc (.int (Int8.ofInt n).toInt32 :: st) h = some (.inl (t, loc', st', h'))) (hR : xRel b0 D tyC ad h s H locs) (hl : lv_has ls nL (xlc ad loc)) (kk : xCont p l e R s m args below meth c Q nL b0 D tyC ad h cells slots (t.getD (pc + 2)) loc' st' h') : W p l e R s m args below meth c H locs cells slots Q (F0 m pc ls (st.map (xcV ad))) := by
  cases hs
  exact lv_bipush hx hb hdg rfl (xk0 kk hR hl)

theorem xo_sipush (hx : p.tables.exec = Jvm.exec) (hb : c.code = cc) {n : Int} (hdg : decode cc pc = .ok (.sipush n, 3)) (hs : xnx loc (.int (Int16.ofInt n).toInt32 :: st) h = some (.inl (t, loc', st', h'))) (hR : xRel b0 D tyC ad h s H locs) (hl : lv_has ls nL (xlc ad loc)) (kk : xCont p l e R s m args below meth c Q nL b0 D tyC ad h cells slots (t.getD (pc + 3)) loc' st' h') : W p l e R s m args below meth c H locs cells slots Q (F0 m pc ls (st.map (xcV ad))) := by
  cases hs
  exact lv_sipush hx hb hdg rfl (xk0 kk hR hl)

theorem xo_null (hx : p.tables.exec = Jvm.exec) (hb : c.code = cc)  (hdg : decode cc pc = .ok (.aconst_null, 1)) (hs : xnx loc (.null :: st) h = some (.inl (t, loc', st', h'))) (hR : xRel b0 D tyC ad h s H locs) (hl : lv_has ls nL (xlc ad loc)) (kk : xCont p l e R s m args below meth c Q nL b0 D tyC ad h cells slots (t.getD (pc + 1)) loc' st' h') : W p l e R s m args below meth c H locs cells slots Q (F0 m pc ls (st.map (xcV ad))) := by
  cases hs
  exact lv_null hx hb hdg (xk0 kk hR hl)

theorem xo_iloadn (hx : p.tables.exec = Jvm.exec) (hb : c.code = cc) {k : Fin 4} (hdg : decode cc pc = .ok (.iload_n k, 1)) (hs : xld xisI loc st h k = some (.inl (t, loc', st', h'))) (hR : xRel b0 D tyC ad h s H locs) (hl : lv_has ls nL (xlc ad loc)) (kk : xCont p l e R s m args below meth c Q nL b0 D tyC ad h cells slots (t.getD (pc + 1)) loc' st' h') : W p l e R s m args below meth c H locs cells slots Q (F0 m pc ls (st.map (xcV ad))) := by
  unfold xld at hs
  split at hs
  · rename_i v hv
    cases v <;> first | (cases hs; done) | (cases hs; exact lv_iload_n hx hb hdg rfl (xget_at hv hl) (xk0 kk hR hl))
  · cases hs

theorem xo_iloadw (hx : p.tables.exec = Jvm.exec) (hb : c.code = cc) {k : Nat} (hdg : decode cc pc = .ok (.iload k, 2)) (hs : xld xisI loc st h k = some (.inl (t, loc', st', h'))) (hR : xRel b0 D tyC ad h s H locs) (hl : lv_has ls nL (xlc ad loc)) (kk : xCont p l e R s m args below meth c Q nL b0 D tyC ad h cells slots (t.getD (pc + 2)) loc' st' h') : W p l e R s m args below meth c H locs cells slots Q (F0 m pc ls (st.map (xcV ad))) := by
  unfold xld at hs
  split at hs
  · rename_i v hv
    cases v <;> first | (cases hs; done) | (cases hs; exact lv_iload hx hb hdg (xget_at hv hl) (xk0 kk hR hl))
  · cases hs

theorem xo_lloadn (hx : p.tables.exec = Jvm.exec) (hb : c.code = cc) {k : Fin 4} (hdg : decode cc pc = .ok (.lload_n k, 1)) (hs : xld xisJ loc st h k = some (.inl (t, loc', st', h'))) (hR : xRel b0 D tyC ad h s H locs) (hl : lv_has ls nL (xlc ad loc)) (kk : xCont p l e R s m args below meth c Q nL b0 D tyC ad h cells slots (t.getD (pc + 1)) loc' st' h') : W p l e R s m args below meth c H locs cells slots Q (F0 m pc ls (st.map (xcV ad))) := by
  unfold xld at hs
  split at hs
  · rename_i v hv
    cases v <;> first | (cases hs; done) | (cases hs; exact lv_lload_n hx hb hdg rfl (xget_at hv hl) (xk0 kk hR hl))
  · cases hs

theorem xo_lloadw (hx : p.tables.exec = Jvm.exec) (hb : c.code = cc) {k : Nat} (hdg : decode cc pc = .ok (.lload k, 2)) (hs : xld xisJ loc st h k = some (.inl (t, loc', st', h'))) (hR : xRel b0 D tyC ad h s H locs) (hl : lv_has ls nL (xlc ad loc)) (kk : xCont p l e R s m args below meth c Q nL b0 D tyC ad h cells slots (t.getD (pc + 2)) loc' st' h') : W p l e R s m args below meth c H locs cells slots Q (F0 m pc ls (st.map (xcV ad))) := by
  unfold xld at hs
  split at hs
  · rename_i v hv
    cases v <;> first | (cases hs; done) | (cases hs; exact lv_lload hx hb hdg (xget_at hv hl) (xk0 kk hR hl))
  · cases hs

theorem xo_floadn (hx : p.tables.exec = Jvm.exec) (hb : c.code = cc) {k : Fin 4} (hdg : decode cc pc = .ok (.fload_n k, 1)) (hs : xld xisF loc st h k = some (.inl (t, loc', st', h'))) (hR : xRel b0 D tyC ad h s H locs) (hl : lv_has ls nL (xlc ad loc)) (kk : xCont p l e R s m args below meth c Q nL b0 D tyC ad h cells slots (t.getD (pc + 1)) loc' st' h') : W p l e R s m args below meth c H locs cells slots Q (F0 m pc ls (st.map (xcV ad))) := by
  unfold xld at hs
  split at hs
  · rename_i v hv
    cases v <;> first | (cases hs; done) | (cases hs; exact lv_fload_n hx hb hdg rfl (xget_at hv hl) (xk0 kk hR hl))
  · cases hs

theorem xo_floadw (hx : p.tables.exec = Jvm.exec) (hb : c.code = cc) {k : Nat} (hdg : decode cc pc = .ok (.fload k, 2)) (hs : xld xisF loc st h k = some (.inl (t, loc', st', h'))) (hR : xRel b0 D tyC ad h s H locs) (hl : lv_has ls nL (xlc ad loc)) (kk : xCont p l e R s m args below meth c Q nL b0 D tyC ad h cells slots (t.getD (pc + 2)) loc' st' h') : W p l e R s m args below meth c H locs cells slots Q (F0 m pc ls (st.map (xcV ad))) := by
  unfold xld at hs
  split at hs
  · rename_i v hv
    cases v <;> first | (cases hs; done) | (cases hs; exact lv_fload hx hb hdg (xget_at hv hl) (xk0 kk hR hl))
  · cases hs

theorem xo_dloadn (hx : p.tables.exec = Jvm.exec) (hb : c.code = cc) {k : Fin 4} (hdg : decode cc pc = .ok (.dload_n k, 1)) (hs : xld xisD loc st h k = some (.inl (t, loc', st', h'))) (hR : xRel b0 D tyC ad h s H locs) (hl : lv_has ls nL (xlc ad loc)) (kk : xCont p l e R s m args below meth c Q nL b0 D tyC ad h cells slots (t.getD (pc + 1)) loc' st' h') : W p l e R s m args below meth c H locs cells slots Q (F0 m pc ls (st.map (xcV ad))) := by
  unfold xld at hs
  split at hs
  · rename_i v hv
    cases v <;> first | (cases hs; done) | (cases hs; exact lv_dload_n hx hb hdg rfl (xget_at hv hl) (xk0 kk hR hl))
  · cases hs

theorem xo_dloadw (hx : p.tables.exec = Jvm.exec) (hb : c.code = cc) {k : Nat} (hdg : decode cc pc = .ok (.dload k, 2)) (hs : xld xisD loc st h k = some (.inl (t, loc', st', h'))) (hR : xRel b0 D tyC ad h s H locs) (hl : lv_has ls nL (xlc ad loc)) (kk : xCont p l e R s m args below meth c Q nL b0 D tyC ad h cells slots (t.getD (pc + 2)) loc' st' h') : W p l e R s m args below meth c H locs cells slots Q (F0 m pc ls (st.map (xcV ad))) := by
  unfold xld at hs
  split at hs
  · rename_i v hv
    cases v <;> first | (cases hs; done) | (cases hs; exact lv_dload hx hb hdg (xget_at hv hl) (xk0 kk hR hl))
  · cases hs

theorem xo_aloadn (hx : p.tables.exec = Jvm.exec) (hb : c.code = cc) {k : Fin 4} (hdg : decode cc pc = .ok (.aload_n k, 1)) (hs : xld xisA loc st h k = some (.inl (t, loc', st', h'))) (hR : xRel b0 D tyC ad h s H locs) (hl : lv_has ls nL (xlc ad loc)) (kk : xCont p l e R s m args below meth c Q nL b0 D tyC ad h cells slots (t.getD (pc + 1)) loc' st' h') : W p l e R s m args below meth c H locs cells slots Q (F0 m pc ls (st.map (xcV ad))) := by
  unfold xld at hs
  split at hs
  · rename_i v hv
    cases v <;> first | (cases hs; done) | (cases hs; exact lv_aload_n hx hb hdg rfl (xget_at hv hl) (xk0 kk hR hl)) | (cases hs; exact lv_aload_nN hx hb hdg rfl (xget_at hv hl) (xk0 kk hR hl))
  · cases hs

theorem xo_aloadw (hx : p.tables.exec = Jvm.exec) (hb : c.code = cc) {k : Nat} (hdg : decode cc pc = .ok (.aload k, 2)) (hs : xld xisA loc st h k = some (.inl (t, loc', st', h'))) (hR : xRel b0 D tyC ad h s H locs) (hl : lv_has ls nL (xlc ad loc)) (kk : xCont p l e R s m args below meth c Q nL b0 D tyC ad h cells slots (t.getD (pc + 2)) loc' st' h') : W p l e R s m args below meth c H locs cells slots Q (F0 m pc ls (st.map (xcV ad))) := by
  unfold xld at hs
  split at hs
  · rename_i v hv
    cases v <;> first | (cases hs; done) | (cases hs; exact lv_aload hx hb hdg (xget_at hv hl) (xk0 kk hR hl)) | (cases hs; exact lv_aloadN hx hb hdg (xget_at hv hl) (xk0 kk hR hl))
  · cases hs

theorem xo_istoren (hx : p.tables.exec = Jvm.exec) (hb : c.code = cc) {k : Fin 4} (hdg : decode cc pc = .ok (.istore_n k, 1)) (hs : xst1 xisI nL loc st h k = some (.inl (t, loc', st', h'))) (hR : xRel b0 D tyC ad h s H locs) (hl : lv_has ls nL (xlc ad loc)) (kk : xCont p l e R s m args below meth c Q nL b0 D tyC ad h cells slots (t.getD (pc + 1)) loc' st' h') : W p l e R s m args below meth c H locs cells slots Q (F0 m pc ls (st.map (xcV ad))) := by
  unfold xst1 at hs
  split at hs
  · rename_i v r
    split at hs
    · rename_i hg
      obtain ⟨g1, g2⟩ := Bool.and_eq_true _ _ |>.mp hg
      have g2 := of_decide_eq_true g2
      cases v <;> first | (cases g1; done) | (cases hs; exact lv_istore_n hx hb hdg rfl hl g2 (xlc_s1 (ad := ad) _ (.int _)) (fun ls2 hl2 => xk0 kk hR hl2))
    · cases hs
  · cases hs

theorem xo_istorew (hx : p.tables.exec = Jvm.exec) (hb : c.code = cc) {k : Nat} (hdg : decode cc pc = .ok (.istore k, 2)) (hs : xst1 xisI nL loc st h k = some (.inl (t, loc', st', h'))) (hR : xRel b0 D tyC ad h s H locs) (hl : lv_has ls nL (xlc ad loc)) (kk : xCont p l e R s m args below meth c Q nL b0 D tyC ad h cells slots (t.getD (pc + 2)) loc' st' h') : W p l e R s m args below meth c H locs cells slots Q (F0 m pc ls (st.map (xcV ad))) := by
  unfold xst1 at hs
  split at hs
  · rename_i v r
    split at hs
    · rename_i hg
      obtain ⟨g1, g2⟩ := Bool.and_eq_true _ _ |>.mp hg
      have g2 := of_decide_eq_true g2
      cases v <;> first | (cases g1; done) | (cases hs; exact lv_istore hx hb hdg hl g2 (xlc_s1 (ad := ad) _ (.int _)) (fun ls2 hl2 => xk0 kk hR hl2))
    · cases hs
  · cases hs

theorem xo_lstoren (hx : p.tables.exec = Jvm.exec) (hb : c.code = cc) {k : Fin 4} (hdg : decode cc pc = .ok (.lstore_n k, 1)) (hs : xst2 xisJ nL loc st h k = some (.inl (t, loc', st', h'))) (hR : xRel b0 D tyC ad h s H locs) (hl : lv_has ls nL (xlc ad loc)) (kk : xCont p l e R s m args below meth c Q nL b0 D tyC ad h cells slots (t.getD (pc + 1)) loc' st' h') : W p l e R s m args below meth c H locs cells slots Q (F0 m pc ls (st.map (xcV ad))) := by
  unfold xst2 at hs
  split at hs
  · rename_i v r
    split at hs
    · rename_i hg
      obtain ⟨g1, g2⟩ := Bool.and_eq_true _ _ |>.mp hg
      have g2 := of_decide_eq_true g2
      cases v <;> first | (cases g1; done) | (cases hs; exact lv_lstore_n hx hb hdg rfl hl g2 (xlc_s2 (ad := ad) _ (.long _)) (fun ls2 hl2 => xk0 kk hR hl2))
    · cases hs
  · cases hs

theorem xo_lstorew (hx : p.tables.exec = Jvm.exec) (hb : c.code = cc) {k : Nat} (hdg : decode cc pc = .ok (.lstore k, 2)) (hs : xst2 xisJ nL loc st h k = some (.inl (t, loc', st', h'))) (hR : xRel b0 D tyC ad h s H locs) (hl : lv_has ls nL (xlc ad loc)) (kk : xCont p l e R s m args below meth c Q nL b0 D tyC ad h cells slots (t.getD (pc + 2)) loc' st' h') : W p l e R s m args below meth c H locs cells slots Q (F0 m pc ls (st.map (xcV ad))) := by
  unfold xst2 at hs
  split at hs
  · rename_i v r
    split at hs
    · rename_i hg
      obtain ⟨g1, g2⟩ := Bool.and_eq_true _ _ |>.mp hg
      have g2 := of_decide_eq_true g2
      cases v <;> first | (cases g1; done) | (cases hs; exact lv_lstore hx hb hdg hl g2 (xlc_s2 (ad := ad) _ (.long _)) (fun ls2 hl2 => xk0 kk hR hl2))
    · cases hs
  · cases hs

theorem xo_astoren (hx : p.tables.exec = Jvm.exec) (hb : c.code = cc) {k : Fin 4} (hdg : decode cc pc = .ok (.astore_n k, 1)) (hs : xst1 xisA nL loc st h k = some (.inl (t, loc', st', h'))) (hR : xRel b0 D tyC ad h s H locs) (hl : lv_has ls nL (xlc ad loc)) (kk : xCont p l e R s m args below meth c Q nL b0 D tyC ad h cells slots (t.getD (pc + 1)) loc' st' h') : W p l e R s m args below meth c H locs cells slots Q (F0 m pc ls (st.map (xcV ad))) := by
  unfold xst1 at hs
  split at hs
  · rename_i v r
    split at hs
    · rename_i hg
      obtain ⟨g1, g2⟩ := Bool.and_eq_true _ _ |>.mp hg
      have g2 := of_decide_eq_true g2
      cases v <;> first | (cases g1; done) | (cases hs; exact lv_astore_n hx hb hdg rfl hl g2 (xlc_s1 (ad := ad) _ (.ref _)) (fun ls2 hl2 => xk0 kk hR hl2)) | (cases hs; exact lv_astore_nN hx hb hdg rfl hl g2 (xlc_s1 (ad := ad) _ .null) (fun ls2 hl2 => xk0 kk hR hl2))
    · cases hs
  · cases hs

theorem xo_astorew (hx : p.tables.exec = Jvm.exec) (hb : c.code = cc) {k : Nat} (hdg : decode cc pc = .ok (.astore k, 2)) (hs : xst1 xisA nL loc st h k = some (.inl (t, loc', st', h'))) (hR : xRel b0 D tyC ad h s H locs) (hl : lv_has ls nL (xlc ad loc)) (kk : xCont p l e R s m args below meth c Q nL b0 D tyC ad h cells slots (t.getD (pc + 2)) loc' st' h') : W p l e R s m args below meth c H locs cells slots Q (F0 m pc ls (st.map (xcV ad))) := by
  unfold xst1 at hs
  split at hs
  · rename_i v r
    split at hs
    · rename_i hg
      obtain ⟨g1, g2⟩ := Bool.and_eq_true _ _ |>.mp hg
      have g2 := of_decide_eq_true g2
      cases v <;> first | (cases g1; done) | (cases hs; exact lv_astore hx hb hdg hl g2 (xlc_s1 (ad := ad) _ (.ref _)) (fun ls2 hl2 => xk0 kk hR hl2)) | (cases hs; exact lv_astoreN hx hb hdg hl g2 (xlc_s1 (ad := ad) _ .null) (fun ls2 hl2 => xk0 kk hR hl2))
    · cases hs
  · cases hs

theorem xo_iinc (hx : p.tables.exec = Jvm.exec) (hb : c.code = cc) {i : Nat} {n : Int} (hdg : decode cc pc = .ok (.iinc i n, 3)) (hs : xinc nL loc st h i n = some (.inl (t, loc', st', h'))) (hR : xRel b0 D tyC ad h s H locs) (hl : lv_has ls nL (xlc ad loc)) (kk : xCont p l e R s m args below meth c Q nL b0 D tyC ad h cells slots (t.getD (pc + 3)) loc' st' h') : W p l e R s m args below meth c H locs cells slots Q (F0 m pc ls (st.map (xcV ad))) := by
  unfold xinc at hs
  split at hs
  · rename_i x hv
    split at hs
    · rename_i hg
      have hg := of_decide_eq_true hg
      cases hs
      unfold xget at hv
      obtain ⟨q, hq, hqv⟩ := Option.map_eq_some_iff.mp hv
      have h1 := List.mem_of_find?_eq_some hq
      have h2 : q.1 = i := by simpa using List.find?_some hq
      obtain ⟨k, hk⟩ := List.mem_iff_getElem?.mp (List.mem_map.mpr ⟨q, h1, rfl⟩ : ((fun q => (q.1, xcV ad q.2)) q) ∈ xlc ad loc)
      rw [show ((fun q : Nat × Value => (q.1, xcV ad q.2)) q) = (i, .int x) by rw [← h2]; show (q.1, xcV ad q.2) = _; rw [hqv]; rfl] at hk
      exact lv_iinc hx hb hdg hl hk rfl hg (xlc_s1 (ad := ad) _ (.int _)) (fun ls2 hl2 => xk0 kk hR hl2)
    · cases hs
  · cases hs

theorem xo_iadd (hx : p.tables.exec = Jvm.exec) (hb : c.code = cc) (hdg : decode cc pc = .ok (.iadd, 1)) (hs : xii (fun x y => x + y) loc st h = some (.inl (t, loc', st', h'))) (hR : xRel b0 D tyC ad h s H locs) (hl : lv_has ls nL (xlc ad loc)) (kk : xCont p l e R s m args below meth c Q nL b0 D tyC ad h cells slots (t.getD (pc + 1)) loc' st' h') : W p l e R s m args below meth c H locs cells slots Q (F0 m pc ls (st.map (xcV ad))) := by
  unfold xii at hs
  split at hs
  · cases hs
    exact lv_iadd hx hb hdg (xk0 kk hR hl)
  · cases hs

theorem xo_isub (hx : p.tables.exec = Jvm.exec) (hb : c.code = cc) (hdg : decode cc pc = .ok (.isub, 1)) (hs : xii (fun x y => x - y) loc st h = some (.inl (t, loc', st', h'))) (hR : xRel b0 D tyC ad h s H locs) (hl : lv_has ls nL (xlc ad loc)) (kk : xCont p l e R s m args below meth c Q nL b0 D tyC ad h cells slots (t.getD (pc + 1)) loc' st' h') : W p l e R s m args below meth c H locs cells slots Q (F0 m pc ls (st.map (xcV ad))) := by
  unfold xii at hs
  split at hs
  · cases hs
    exact lv_isub hx hb hdg (xk0 kk hR hl)
  · cases hs

theorem xo_imul (hx : p.tables.exec = Jvm.exec) (hb : c.code = cc) (hdg : decode cc pc = .ok (.imul, 1)) (hs : xii (fun x y => x * y) loc st h = some (.inl (t, loc', st', h'))) (hR : xRel b0 D tyC ad h s H locs) (hl : lv_has ls nL (xlc ad loc)) (kk : xCont p l e R s m args below meth c Q nL b0 D tyC ad h cells slots (t.getD (pc + 1)) loc' st' h') : W p l e R s m args below meth c H locs cells slots Q (F0 m pc ls (st.map (xcV ad))) := by
  unfold xii at hs
  split at hs
  · cases hs
    exact lv_imul hx hb hdg (xk0 kk hR hl)
  · cases hs

theorem xo_iand (hx : p.tables.exec = Jvm.exec) (hb : c.code = cc) (hdg : decode cc pc = .ok (.iand, 1)) (hs : xii (fun x y => x &&& y) loc st h = some (.inl (t, loc', st', h'))) (hR : xRel b0 D tyC ad h s H locs) (hl : lv_has ls nL (xlc ad loc)) (kk : xCont p l e R s m args below meth c Q nL b0 D tyC ad h cells slots (t.getD (pc + 1)) loc' st' h') : W p l e R s m args below meth c H locs cells slots Q (F0 m pc ls (st.map (xcV ad))) := by
  unfold xii at hs
  split at hs
  · cases hs
    exact lv_iand hx hb hdg (xk0 kk hR hl)
  · cases hs

theorem xo_ior (hx : p.tables.exec = Jvm.exec) (hb : c.code = cc) (hdg : decode cc pc = .ok (.ior, 1)) (hs : xii (fun x y => x ||| y) loc st h = some (.inl (t, loc', st', h'))) (hR : xRel b0 D tyC ad h s H locs) (hl : lv_has ls nL (xlc ad loc)) (kk : xCont p l e R s m args below meth c Q nL b0 D tyC ad h cells slots (t.getD (pc + 1)) loc' st' h') : W p l e R s m args below meth c H locs cells slots Q (F0 m pc ls (st.map (xcV ad))) := by
  unfold xii at hs
  split at hs
  · cases hs
    exact lv_ior hx hb hdg (xk0 kk hR hl)
  · cases hs

theorem xo_ixor (hx : p.tables.exec = Jvm.exec) (hb : c.code = cc) (hdg : decode cc pc = .ok (.ixor, 1)) (hs : xii (fun x y => x ^^^ y) loc st h = some (.inl (t, loc', st', h'))) (hR : xRel b0 D tyC ad h s H locs) (hl : lv_has ls nL (xlc ad loc)) (kk : xCont p l e R s m args below meth c Q nL b0 D tyC ad h cells slots (t.getD (pc + 1)) loc' st' h') : W p l e R s m args below meth c H locs cells slots Q (F0 m pc ls (st.map (xcV ad))) := by
  unfold xii at hs
  split at hs
  · cases hs
    exact lv_ixor hx hb hdg (xk0 kk hR hl)
  · cases hs

theorem xo_ishl (hx : p.tables.exec = Jvm.exec) (hb : c.code = cc) (hdg : decode cc pc = .ok (.ishl, 1)) (hs : xii (fun x y => x <<< (y &&& 31)) loc st h = some (.inl (t, loc', st', h'))) (hR : xRel b0 D tyC ad h s H locs) (hl : lv_has ls nL (xlc ad loc)) (kk : xCont p l e R s m args below meth c Q nL b0 D tyC ad h cells slots (t.getD (pc + 1)) loc' st' h') : W p l e R s m args below meth c H locs cells slots Q (F0 m pc ls (st.map (xcV ad))) := by
  unfold xii at hs
  split at hs
  · cases hs
    exact lv_ishl hx hb hdg (xk0 kk hR hl)
  · cases hs

theorem xo_ishr (hx : p.tables.exec = Jvm.exec) (hb : c.code = cc) (hdg : decode cc pc = .ok (.ishr, 1)) (hs : xii (fun x y => x >>> (y &&& 31)) loc st h = some (.inl (t, loc', st', h'))) (hR : xRel b0 D tyC ad h s H locs) (hl : lv_has ls nL (xlc ad loc)) (kk : xCont p l e R s m args below meth c Q nL b0 D tyC ad h cells slots (t.getD (pc + 1)) loc' st' h') : W p l e R s m args below meth c H locs cells slots Q (F0 m pc ls (st.map (xcV ad))) := by
  unfold xii at hs
  split at hs
  · cases hs
    exact lv_ishr hx hb hdg (xk0 kk hR hl)
  · cases hs

theorem xo_iushr (hx : p.tables.exec = Jvm.exec) (hb : c.code = cc) (hdg : decode cc pc = .ok (.iushr, 1)) (hs : xii (fun x y => (x.toUInt32 >>> (y.toUInt32 &&& Int32.toUInt32 31)).toInt32) loc st h = some (.inl (t, loc', st', h'))) (hR : xRel b0 D tyC ad h s H locs) (hl : lv_has ls nL (xlc ad loc)) (kk : xCont p l e R s m args below meth c Q nL b0 D tyC ad h cells slots (t.getD (pc + 1)) loc' st' h') : W p l e R s m args below meth c H locs cells slots Q (F0 m pc ls (st.map (xcV ad))) := by
  unfold xii at hs
  split at hs
  · cases hs
    exact lv_iushr hx hb hdg rfl (xk0 kk hR hl)
  · cases hs

theorem xo_idiv (hx : p.tables.exec = Jvm.exec) (hb : c.code = cc) (hdg : decode cc pc = .ok (.idiv, 1)) (hs : xiz (fun x y => x / y) loc st h = some (.inl (t, loc', st', h'))) (hR : xRel b0 D tyC ad h s H locs) (hl : lv_has ls nL (xlc ad loc)) (kk : xCont p l e R s m args below meth c Q nL b0 D tyC ad h cells slots (t.getD (pc + 1)) loc' st' h') : W p l e R s m args below meth c H locs cells slots Q (F0 m pc ls (st.map (xcV ad))) := by
  unfold xiz at hs
  split at hs
  · split at hs
    · cases hs
    · rename_i hg
      cases hs
      exact lv_idiv hx hb hdg (of_decide_eq_false hg) (xk0 kk hR hl)
  · cases hs

theorem xo_irem (hx : p.tables.exec = Jvm.exec) (hb : c.code = cc) (hdg : decode cc pc = .ok (.irem, 1)) (hs : xiz (fun x y => x - x / y * y) loc st h = some (.inl (t, loc', st', h'))) (hR : xRel b0 D tyC ad h s H locs) (hl : lv_has ls nL (xlc ad loc)) (kk : xCont p l e R s m args below meth c Q nL b0 D tyC ad h cells slots (t.getD (pc + 1)) loc' st' h') : W p l e R s m args below meth c H locs cells slots Q (F0 m pc ls (st.map (xcV ad))) := by
  unfold xiz at hs
  split at hs
  · split at hs
    · cases hs
    · rename_i hg
      cases hs
      exact lv_irem hx hb hdg (of_decide_eq_false hg) (xk0 kk hR hl)
  · cases hs

theorem xo_ineg (hx : p.tables.exec = Jvm.exec) (hb : c.code = cc) (hdg : decode cc pc = .ok (.ineg, 1)) (hs : xi1 (fun x => .int (-x)) loc st h = some (.inl (t, loc', st', h'))) (hR : xRel b0 D tyC ad h s H locs) (hl : lv_has ls nL (xlc ad loc)) (kk : xCont p l e R s m args below meth c Q nL b0 D tyC ad h cells slots (t.getD (pc + 1)) loc' st' h') : W p l e R s m args below meth c H locs cells slots Q (F0 m pc ls (st.map (xcV ad))) := by
  unfold xi1 at hs
  split at hs
  · cases hs
    exact lv_ineg hx hb hdg (xk0 kk hR hl)
  · cases hs

theorem xo_i2l (hx : p.tables.exec = Jvm.exec) (hb : c.code = cc) (hdg : decode cc pc = .ok (.i2l, 1)) (hs : xi1 (fun x => .long x.toInt64) loc st h = some (.inl (t, loc', st', h'))) (hR : xRel b0 D tyC ad h s H locs) (hl : lv_has ls nL (xlc ad loc)) (kk : xCont p l e R s m args below meth c Q nL b0 D tyC ad h cells slots (t.getD (pc + 1)) loc' st' h') : W p l e R s m args below meth c H locs cells slots Q (F0 m pc ls (st.map (xcV ad))) := by
  unfold xi1 at hs
  split at hs
  · cases hs
    exact lv_i2l hx hb hdg rfl (xk0 kk hR hl)
  · cases hs

theorem xo_i2b (hx : p.tables.exec = Jvm.exec) (hb : c.code = cc) (hdg : decode cc pc = .ok (.i2b, 1)) (hs : xi1 (fun x => .int x.toInt8.toInt32) loc st h = some (.inl (t, loc', st', h'))) (hR : xRel b0 D tyC ad h s H locs) (hl : lv_has ls nL (xlc ad loc)) (kk : xCont p l e R s m args below meth c Q nL b0 D tyC ad h cells slots (t.getD (pc + 1)) loc' st' h') : W p l e R s m args below meth c H locs cells slots Q (F0 m pc ls (st.map (xcV ad))) := by
  unfold xi1 at hs
  split at hs
  · cases hs
    exact lv_i2b hx hb hdg rfl (xk0 kk hR hl)
  · cases hs

theorem xo_i2c (hx : p.tables.exec = Jvm.exec) (hb : c.code = cc) (hdg : decode cc pc = .ok (.i2c, 1)) (hs : xi1 (fun x => .int (x.toUInt32 % 65536).toInt32) loc st h = some (.inl (t, loc', st', h'))) (hR : xRel b0 D tyC ad h s H locs) (hl : lv_has ls nL (xlc ad loc)) (kk : xCont p l e R s m args below meth c Q nL b0 D tyC ad h cells slots (t.getD (pc + 1)) loc' st' h') : W p l e R s m args below meth c H locs cells slots Q (F0 m pc ls (st.map (xcV ad))) := by
  unfold xi1 at hs
  split at hs
  · cases hs
    exact lv_i2c hx hb hdg rfl (xk0 kk hR hl)
  · cases hs

theorem xo_i2f (hx : p.tables.exec = Jvm.exec) (hb : c.code = cc) (hdg : decode cc pc = .ok (.i2f, 1)) (hs : xi1 (fun x => .float (FP.i2f x)) loc st h = some (.inl (t, loc', st', h'))) (hR : xRel b0 D tyC ad h s H locs) (hl : lv_has ls nL (xlc ad loc)) (kk : xCont p l e R s m args below meth c Q nL b0 D tyC ad h cells slots (t.getD (pc + 1)) loc' st' h') : W p l e R s m args below meth c H locs cells slots Q (F0 m pc ls (st.map (xcV ad))) := by
  unfold xi1 at hs
  split at hs
  · cases hs
    exact lv_i2f hx hb hdg (xk0 kk hR hl)
  · cases hs

theorem xo_i2d (hx : p.tables.exec = Jvm.exec) (hb : c.code = cc) (hdg : decode cc pc = .ok (.i2d, 1)) (hs : xi1 (fun x => .double (FP.i2d x)) loc st h = some (.inl (t, loc', st', h'))) (hR : xRel b0 D tyC ad h s H locs) (hl : lv_has ls nL (xlc ad loc)) (kk : xCont p l e R s m args below meth c Q nL b0 D tyC ad h cells slots (t.getD (pc + 1)) loc' st' h') : W p l e R s m args below meth c H locs cells slots Q (F0 m pc ls (st.map (xcV ad))) := by
  unfold xi1 at hs
  split at hs
  · cases hs
    exact lv_i2d hx hb hdg (xk0 kk hR hl)
  · cases hs

theorem xo_ladd (hx : p.tables.exec = Jvm.exec) (hb : c.code = cc) (hdg : decode cc pc = .ok (.ladd, 1)) (hs : xjj (fun x y => .long (x + y)) loc st h = some (.inl (t, loc', st', h'))) (hR : xRel b0 D tyC ad h s H locs) (hl : lv_has ls nL (xlc ad loc)) (kk : xCont p l e R s m args below meth c Q nL b0 D tyC ad h cells slots (t.getD (pc + 1)) loc' st' h') : W p l e R s m args below meth c H locs cells slots Q (F0 m pc ls (st.map (xcV ad))) := by
  unfold xjj at hs
  split at hs
  · cases hs
    exact lv_ladd hx hb hdg (xk0 kk hR hl)
  · cases hs

theorem xo_lmul (hx : p.tables.exec = Jvm.exec) (hb : c.code = cc) (hdg : decode cc pc = .ok (.lmul, 1)) (hs : xjj (fun x y => .long (x * y)) loc st h = some (.inl (t, loc', st', h'))) (hR : xRel b0 D tyC ad h s H locs) (hl : lv_has ls nL (xlc ad loc)) (kk : xCont p l e R s m args below meth c Q nL b0 D tyC ad h cells slots (t.getD (pc + 1)) loc' st' h') : W p l e R s m args below meth c H locs cells slots Q (F0 m pc ls (st.map (xcV ad))) := by
  unfold xjj at hs
  split at hs
  · cases hs
    exact lv_lmul hx hb hdg (xk0 kk hR hl)
  · cases hs

theorem xo_lcmp (hx : p.tables.exec = Jvm.exec) (hb : c.code = cc) (hdg : decode cc pc = .ok (.lcmp, 1)) (hs : xjj (fun x y => .int (lg_cmp x y)) loc st h = some (.inl (t, loc', st', h'))) (hR : xRel b0 D tyC ad h s H locs) (hl : lv_has ls nL (xlc ad loc)) (kk : xCont p l e R s m args below meth c Q nL b0 D tyC ad h cells slots (t.getD (pc + 1)) loc' st' h') : W p l e R s m args below meth c H locs cells slots Q (F0 m pc ls (st.map (xcV ad))) := by
  unfold xjj at hs
  split at hs
  · cases hs
    exact W.lcmp hx hb hdg (xk0 kk hR hl)
  · cases hs

theorem xo_fdiv (hx : p.tables.exec = Jvm.exec) (hb : c.code = cc) (hdg : decode cc pc = .ok (.fdiv, 1)) (hs : xf2 xfdiv loc st h = some (.inl (t, loc', st', h'))) (hR : xRel b0 D tyC ad h s H locs) (hl : lv_has ls nL (xlc ad loc)) (kk : xCont p l e R s m args below meth c Q nL b0 D tyC ad h cells slots (t.getD (pc + 1)) loc' st' h') : W p l e R s m args below meth c H locs cells slots Q (F0 m pc ls (st.map (xcV ad))) := by
  unfold xf2 at hs
  split at hs
  · split at hs
    · rename_i u hu
      unfold xfdiv at hu
      split at hu
      · split at hu
        · rename_i hg
          cases hu
          cases hs
          have hg := of_decide_eq_true hg
          exact lv_fdiv hx hb hdg hg (xk0 kk hR hl)
        · cases hu
      · cases hu
    · cases hs
  · cases hs
theorem xo_ddiv (hx : p.tables.exec = Jvm.exec) (hb : c.code = cc) (hdg : decode cc pc = .ok (.ddiv, 1)) (hs : xf2 xddiv loc st h = some (.inl (t, loc', st', h'))) (hR : xRel b0 D tyC ad h s H locs) (hl : lv_has ls nL (xlc ad loc)) (kk : xCont p l e R s m args below meth c Q nL b0 D tyC ad h cells slots (t.getD (pc + 1)) loc' st' h') : W p l e R s m args below meth c H locs cells slots Q (F0 m pc ls (st.map (xcV ad))) := by
  unfold xf2 at hs
  split at hs
  · split at hs
    · rename_i u hu
      unfold xddiv at hu
      split at hu
      · split at hu
        · rename_i hg
          cases hu
          cases hs
          have hg := of_decide_eq_true hg
          exact lv_ddiv hx hb hdg hg (xk0 kk hR hl)
        · cases hu
      · cases hu
    · cases hs
  · cases hs
theorem xo_fcmp (hx : p.tables.exec = Jvm.exec) (hb : c.code = cc) {op : ClassFile.CmpOp} (hdg : decode cc pc = .ok (.fcmp op, 1)) (hs : xf2 (xfcmp op) loc st h = some (.inl (t, loc', st', h'))) (hR : xRel b0 D tyC ad h s H locs) (hl : lv_has ls nL (xlc ad loc)) (kk : xCont p l e R s m args below meth c Q nL b0 D tyC ad h cells slots (t.getD (pc + 1)) loc' st' h') : W p l e R s m args below meth c H locs cells slots Q (F0 m pc ls (st.map (xcV ad))) := by
  unfold xf2 at hs
  split at hs
  · split at hs
    · rename_i u hu
      unfold xfcmp at hu
      split at hu
      · cases hu
        cases hs
        exact lv_fcmp hx hb hdg (xk0 kk hR hl)
      · cases hu
    · cases hs
  · cases hs
theorem xo_dcmp (hx : p.tables.exec = Jvm.exec) (hb : c.code = cc) {op : ClassFile.CmpOp} (hdg : decode cc pc = .ok (.dcmp op, 1)) (hs : xf2 (xdcmp op) loc st h = some (.inl (t, loc', st', h'))) (hR : xRel b0 D tyC ad h s H locs) (hl : lv_has ls nL (xlc ad loc)) (kk : xCont p l e R s m args below meth c Q nL b0 D tyC ad h cells slots (t.getD (pc + 1)) loc' st' h') : W p l e R s m args below meth c H locs cells slots Q (F0 m pc ls (st.map (xcV ad))) := by
  unfold xf2 at hs
  split at hs
  · split at hs
    · rename_i u hu
      unfold xdcmp at hu
      split at hu
      · cases hu
        cases hs
        exact lv_dcmp hx hb hdg (xk0 kk hR hl)
      · cases hu
    · cases hs
  · cases hs
theorem xo_dup (hx : p.tables.exec = Jvm.exec) (hb : c.code = cc) (hdg : decode cc pc = .ok (.dup, 1)) (hs : xcat1 loc st h (fun v r => v :: v :: r) = some (.inl (t, loc', st', h'))) (hR : xRel b0 D tyC ad h s H locs) (hl : lv_has ls nL (xlc ad loc)) (kk : xCont p l e R s m args below meth c Q nL b0 D tyC ad h cells slots (t.getD (pc + 1)) loc' st' h') : W p l e R s m args below meth c H locs cells slots Q (F0 m pc ls (st.map (xcV ad))) := by
  unfold xcat1 at hs
  split at hs
  · split at hs
    · rename_i hg
      cases hs
      exact lv_dup hx hb hdg (by rw [xcV_cat]; exact of_decide_eq_true hg) (xk0 kk hR hl)
    · cases hs
  · cases hs
theorem xo_pop (hx : p.tables.exec = Jvm.exec) (hb : c.code = cc) (hdg : decode cc pc = .ok (.pop, 1)) (hs : xcat1 loc st h (fun _ r => r) = some (.inl (t, loc', st', h'))) (hR : xRel b0 D tyC ad h s H locs) (hl : lv_has ls nL (xlc ad loc)) (kk : xCont p l e R s m args below meth c Q nL b0 D tyC ad h cells slots (t.getD (pc + 1)) loc' st' h') : W p l e R s m args below meth c H locs cells slots Q (F0 m pc ls (st.map (xcV ad))) := by
  unfold xcat1 at hs
  split at hs
  · split at hs
    · rename_i hg
      cases hs
      exact lv_pop hx hb hdg (by rw [xcV_cat]; exact of_decide_eq_true hg) (xk0 kk hR hl)
    · cases hs
  · cases hs
theorem xo_dup_x1 (hx : p.tables.exec = Jvm.exec) (hb : c.code = cc) (hdg : decode cc pc = .ok (.dup_x1, 1)) (hs : xdx1 loc st h = some (.inl (t, loc', st', h'))) (hR : xRel b0 D tyC ad h s H locs) (hl : lv_has ls nL (xlc ad loc)) (kk : xCont p l e R s m args below meth c Q nL b0 D tyC ad h cells slots (t.getD (pc + 1)) loc' st' h') : W p l e R s m args below meth c H locs cells slots Q (F0 m pc ls (st.map (xcV ad))) := by
  unfold xdx1 at hs
  split at hs
  · split at hs
    · rename_i hg
      obtain ⟨g1, g2⟩ := Bool.and_eq_true _ _ |>.mp hg
      cases hs
      exact lv_dup_x1 hx hb hdg (by rw [xcV_cat]; exact of_decide_eq_true g1) (by rw [xcV_cat]; exact of_decide_eq_true g2) (xk0 kk hR hl)
    · cases hs
  · cases hs
theorem xo_goto (hx : p.tables.exec = Jvm.exec) (hb : c.code = cc) {off : Int} (hdg : decode cc pc = .ok (.goto off, 3)) (hs : xjp (xtgt pc off) loc st h = some (.inl (t, loc', st', h'))) (hR : xRel b0 D tyC ad h s H locs) (hl : lv_has ls nL (xlc ad loc)) (kk : xCont p l e R s m args below meth c Q nL b0 D tyC ad h cells slots (t.getD (pc + 3)) loc' st' h') : W p l e R s m args below meth c H locs cells slots Q (F0 m pc ls (st.map (xcV ad))) := by
  unfold xjp at hs
  split at hs
  · rename_i t2 ht
    cases hs
    exact lv_goto hx hb hdg (xtgt_eq ht) (xk0 kk hR hl)
  · cases hs

theorem xo_if1_eq (hx : p.tables.exec = Jvm.exec) (hb : c.code = cc) {off : Int} (hoff : 0 ≤ (pc : Int) + off) (hdg : decode cc pc = .ok (.ifCond .eq off, 3)) (hs : xif1 .eq pc off loc st h = some (.inl (t, loc', st', h'))) (hR : xRel b0 D tyC ad h s H locs) (hl : lv_has ls nL (xlc ad loc)) (kk : xCont p l e R s m args below meth c Q nL b0 D tyC ad h cells slots (t.getD (pc + 3)) loc' st' h') : W p l e R s m args below meth c H locs cells slots Q (F0 m pc ls (st.map (xcV ad))) := by
  unfold xif1 at hs
  split at hs
  · rename_i x r
    have ht : (pc : Int) + off = ((((pc : Int) + off).toNat : Nat) : Int) := by omega
    refine lv_if_eq hx hb hdg ht (fun q => ?_) (fun q => ?_)
    · have e : xic .eq x 0 = true := decide_eq_true q
      rw [e] at hs
      unfold xbr xjp xtgt at hs
      rw [if_pos hoff] at hs
      cases hs
      exact xk0 kk hR hl
    · have e : xic .eq x 0 = false := decide_eq_false q
      rw [e] at hs
      cases hs
      exact xk0 kk hR hl
  · cases hs

theorem xo_if2_eq (hx : p.tables.exec = Jvm.exec) (hb : c.code = cc) {off : Int} (hoff : 0 ≤ (pc : Int) + off) (hdg : decode cc pc = .ok (.if_icmp .eq off, 3)) (hs : xif2 .eq pc off loc st h = some (.inl (t, loc', st', h'))) (hR : xRel b0 D tyC ad h s H locs) (hl : lv_has ls nL (xlc ad loc)) (kk : xCont p l e R s m args below meth c Q nL b0 D tyC ad h cells slots (t.getD (pc + 3)) loc' st' h') : W p l e R s m args below meth c H locs cells slots Q (F0 m pc ls (st.map (xcV ad))) := by
  unfold xif2 at hs
  split at hs
  · rename_i y x r
    have ht : (pc : Int) + off = ((((pc : Int) + off).toNat : Nat) : Int) := by omega
    refine lv_icmp_eq hx hb hdg ht (fun q => ?_) (fun q => ?_)
    · have e : xic .eq x y = true := decide_eq_true q
      rw [e] at hs
      unfold xbr xjp xtgt at hs
      rw [if_pos hoff] at hs
      cases hs
      exact xk0 kk hR hl
    · have e : xic .eq x y = false := decide_eq_false q
      rw [e] at hs
      cases hs
      exact xk0 kk hR hl
  · cases hs

theorem xo_if1_ne (hx : p.tables.exec = Jvm.exec) (hb : c.code = cc) {off : Int} (hoff : 0 ≤ (pc : Int) + off) (hdg : decode cc pc = .ok (.ifCond .ne off, 3)) (hs : xif1 .ne pc off loc st h = some (.inl (t, loc', st', h'))) (hR : xRel b0 D tyC ad h s H locs) (hl : lv_has ls nL (xlc ad loc)) (kk : xCont p l e R s m args below meth c Q nL b0 D tyC ad h cells slots (t.getD (pc + 3)) loc' st' h') : W p l e R s m args below meth c H locs cells slots Q (F0 m pc ls (st.map (xcV ad))) := by
  unfold xif1 at hs
  split at hs
  · rename_i x r
    have ht : (pc : Int) + off = ((((pc : Int) + off).toNat : Nat) : Int) := by omega
    refine lv_if_ne hx hb hdg ht (fun q => ?_) (fun q => ?_)
    · have e : xic .ne x 0 = true := by show (!decide (x = 0)) = true; rw [decide_eq_false q]; rfl
      rw [e] at hs
      unfold xbr xjp xtgt at hs
      rw [if_pos hoff] at hs
      cases hs
      exact xk0 kk hR hl
    · have e : xic .ne x 0 = false := by show (!decide (x = 0)) = false; rw [decide_eq_true q]; rfl
      rw [e] at hs
      cases hs
      exact xk0 kk hR hl
  · cases hs

theorem xo_if2_ne (hx : p.tables.exec = Jvm.exec) (hb : c.code = cc) {off : Int} (hoff : 0 ≤ (pc : Int) + off) (hdg : decode cc pc = .ok (.if_icmp .ne off, 3)) (hs : xif2 .ne pc off loc st h = some (.inl (t, loc', st', h'))) (hR : xRel b0 D tyC ad h s H locs) (hl : lv_has ls nL (xlc ad loc)) (kk : xCont p l e R s m args below meth c Q nL b0 D tyC ad h cells slots (t.getD (pc + 3)) loc' st' h') : W p l e R s m args below meth c H locs cells slots Q (F0 m pc ls (st.map (xcV ad))) := by
  unfold xif2 at hs
  split at hs
  · rename_i y x r
    have ht : (pc : Int) + off = ((((pc : Int) + off).toNat : Nat) : Int) := by omega
    refine lv_icmp_ne hx hb hdg ht (fun q => ?_) (fun q => ?_)
    · have e : xic .ne x y = true := by show (!decide (x = y)) = true; rw [decide_eq_false q]; rfl
      rw [e] at hs
      unfold xbr xjp xtgt at hs
      rw [if_pos hoff] at hs
      cases hs
      exact xk0 kk hR hl
    · have e : xic .ne x y = false := by show (!decide (x = y)) = false; rw [decide_eq_true q]; rfl
      rw [e] at hs
      cases hs
      exact xk0 kk hR hl
  · cases hs

theorem xo_if1_lt (hx : p.tables.exec = Jvm.exec) (hb : c.code = cc) {off : Int} (hoff : 0 ≤ (pc : Int) + off) (hdg : decode cc pc = .ok (.ifCond .lt off, 3)) (hs : xif1 .lt pc off loc st h = some (.inl (t, loc', st', h'))) (hR : xRel b0 D tyC ad h s H locs) (hl : lv_has ls nL (xlc ad loc)) (kk : xCont p l e R s m args below meth c Q nL b0 D tyC ad h cells slots (t.getD (pc + 3)) loc' st' h') : W p l e R s m args below meth c H locs cells slots Q (F0 m pc ls (st.map (xcV ad))) := by
  unfold xif1 at hs
  split at hs
  · rename_i x r
    have ht : (pc : Int) + off = ((((pc : Int) + off).toNat : Nat) : Int) := by omega
    refine lv_if_lt hx hb hdg ht (fun q => ?_) (fun q => ?_)
    · have e : xic .lt x 0 = true := decide_eq_true q
      rw [e] at hs
      unfold xbr xjp xtgt at hs
      rw [if_pos hoff] at hs
      cases hs
      exact xk0 kk hR hl
    · have e : xic .lt x 0 = false := decide_eq_false q
      rw [e] at hs
      cases hs
      exact xk0 kk hR hl
  · cases hs

theorem xo_if2_lt (hx : p.tables.exec = Jvm.exec) (hb : c.code = cc) {off : Int} (hoff : 0 ≤ (pc : Int) + off) (hdg : decode cc pc = .ok (.if_icmp .lt off, 3)) (hs : xif2 .lt pc off loc st h = some (.inl (t, loc', st', h'))) (hR : xRel b0 D tyC ad h s H locs) (hl : lv_has ls nL (xlc ad loc)) (kk : xCont p l e R s m args below meth c Q nL b0 D tyC ad h cells slots (t.getD (pc + 3)) loc' st' h') : W p l e R s m args below meth c H locs cells slots Q (F0 m pc ls (st.map (xcV ad))) := by
  unfold xif2 at hs
  split at hs
  · rename_i y x r
    have ht : (pc : Int) + off = ((((pc : Int) + off).toNat : Nat) : Int) := by omega
    refine lv_icmp_lt hx hb hdg ht (fun q => ?_) (fun q => ?_)
    · have e : xic .lt x y = true := decide_eq_true q
      rw [e] at hs
      unfold xbr xjp xtgt at hs
      rw [if_pos hoff] at hs
      cases hs
      exact xk0 kk hR hl
    · have e : xic .lt x y = false := decide_eq_false q
      rw [e] at hs
      cases hs
      exact xk0 kk hR hl
  · cases hs

theorem xo_if1_ge (hx : p.tables.exec = Jvm.exec) (hb : c.code = cc) {off : Int} (hoff : 0 ≤ (pc : Int) + off) (hdg : decode cc pc = .ok (.ifCond .ge off, 3)) (hs : xif1 .ge pc off loc st h = some (.inl (t, loc', st', h'))) (hR : xRel b0 D tyC ad h s H locs) (hl : lv_has ls nL (xlc ad loc)) (kk : xCont p l e R s m args below meth c Q nL b0 D tyC ad h cells slots (t.getD (pc + 3)) loc' st' h') : W p l e R s m args below meth c H locs cells slots Q (F0 m pc ls (st.map (xcV ad))) := by
  unfold xif1 at hs
  split at hs
  · rename_i x r
    have ht : (pc : Int) + off = ((((pc : Int) + off).toNat : Nat) : Int) := by omega
    refine lv_if_ge hx hb hdg ht (fun q => ?_) (fun q => ?_)
    · have e : xic .ge x 0 = true := decide_eq_true q
      rw [e] at hs
      unfold xbr xjp xtgt at hs
      rw [if_pos hoff] at hs
      cases hs
      exact xk0 kk hR hl
    · have e : xic .ge x 0 = false := decide_eq_false q
      rw [e] at hs
      cases hs
      exact xk0 kk hR hl
  · cases hs

theorem xo_if2_ge (hx : p.tables.exec = Jvm.exec) (hb : c.code = cc) {off : Int} (hoff : 0 ≤ (pc : Int) + off) (hdg : decode cc pc = .ok (.if_icmp .ge off, 3)) (hs : xif2 .ge pc off loc st h = some (.inl (t, loc', st', h'))) (hR : xRel b0 D tyC ad h s H locs) (hl : lv_has ls nL (xlc ad loc)) (kk : xCont p l e R s m args below meth c Q nL b0 D tyC ad h cells slots (t.getD (pc + 3)) loc' st' h') : W p l e R s m args below meth c H locs cells slots Q (F0 m pc ls (st.map (xcV ad))) := by
  unfold xif2 at hs
  split at hs
  · rename_i y x r
    have ht : (pc : Int) + off = ((((pc : Int) + off).toNat : Nat) : Int) := by omega
    refine lv_icmp_ge hx hb hdg ht (fun q => ?_) (fun q => ?_)
    · have e : xic .ge x y = true := decide_eq_true q
      rw [e] at hs
      unfold xbr xjp xtgt at hs
      rw [if_pos hoff] at hs
      cases hs
      exact xk0 kk hR hl
    · have e : xic .ge x y = false := decide_eq_false q
      rw [e] at hs
      cases hs
      exact xk0 kk hR hl
  · cases hs

theorem xo_if1_gt (hx : p.tables.exec = Jvm.exec) (hb : c.code = cc) {off : Int} (hoff : 0 ≤ (pc : Int) + off) (hdg : decode cc pc = .ok (.ifCond .gt off, 3)) (hs : xif1 .gt pc off loc st h = some (.inl (t, loc', st', h'))) (hR : xRel b0 D tyC ad h s H locs) (hl : lv_has ls nL (xlc ad loc)) (kk : xCont p l e R s m args below meth c Q nL b0 D tyC ad h cells slots (t.getD (pc + 3)) loc' st' h') : W p l e R s m args below meth c H locs cells slots Q (F0 m pc ls (st.map (xcV ad))) := by
  unfold xif1 at hs
  split at hs
  · rename_i x r
    have ht : (pc : Int) + off = ((((pc : Int) + off).toNat : Nat) : Int) := by omega
    refine lv_if_gt hx hb hdg ht (fun q => ?_) (fun q => ?_)
    · have e : xic .gt x 0 = true := decide_eq_true q
      rw [e] at hs
      unfold xbr xjp xtgt at hs
      rw [if_pos hoff] at hs
      cases hs
      exact xk0 kk hR hl
    · have e : xic .gt x 0 = false := decide_eq_false q
      rw [e] at hs
      cases hs
      exact xk0 kk hR hl
  · cases hs

theorem xo_if2_gt (hx : p.tables.exec = Jvm.exec) (hb : c.code = cc) {off : Int} (hoff : 0 ≤ (pc : Int) + off) (hdg : decode cc pc = .ok (.if_icmp .gt off, 3)) (hs : xif2 .gt pc off loc st h = some (.inl (t, loc', st', h'))) (hR : xRel b0 D tyC ad h s H locs) (hl : lv_has ls nL (xlc ad loc)) (kk : xCont p l e R s m args below meth c Q nL b0 D tyC ad h cells slots (t.getD (pc + 3)) loc' st' h') : W p l e R s m args below meth c H locs cells slots Q (F0 m pc ls (st.map (xcV ad))) := by
  unfold xif2 at hs
  split at hs
  · rename_i y x r
    have ht : (pc : Int) + off = ((((pc : Int) + off).toNat : Nat) : Int) := by omega
    refine lv_icmp_gt hx hb hdg ht (fun q => ?_) (fun q => ?_)
    · have e : xic .gt x y = true := decide_eq_true q
      rw [e] at hs
      unfold xbr xjp xtgt at hs
      rw [if_pos hoff] at hs
      cases hs
      exact xk0 kk hR hl
    · have e : xic .gt x y = false := decide_eq_false q
      rw [e] at hs
      cases hs
      exact xk0 kk hR hl
  · cases hs

theorem xo_if1_le (hx : p.tables.exec = Jvm.exec) (hb : c.code = cc) {off : Int} (hoff : 0 ≤ (pc : Int) + off) (hdg : decode cc pc = .ok (.ifCond .le off, 3)) (hs : xif1 .le pc off loc st h = some (.inl (t, loc', st', h'))) (hR : xRel b0 D tyC ad h s H locs) (hl : lv_has ls nL (xlc ad loc)) (kk : xCont p l e R s m args below meth c Q nL b0 D tyC ad h cells slots (t.getD (pc + 3)) loc' st' h') : W p l e R s m args below meth c H locs cells slots Q (F0 m pc ls (st.map (xcV ad))) := by
  unfold xif1 at hs
  split at hs
  · rename_i x r
    have ht : (pc : Int) + off = ((((pc : Int) + off).toNat : Nat) : Int) := by omega
    refine lv_if_le hx hb hdg ht (fun q => ?_) (fun q => ?_)
    · have e : xic .le x 0 = true := decide_eq_true q
      rw [e] at hs
      unfold xbr xjp xtgt at hs
      rw [if_pos hoff] at hs
      cases hs
      exact xk0 kk hR hl
    · have e : xic .le x 0 = false := decide_eq_false q
      rw [e] at hs
      cases hs
      exact xk0 kk hR hl
  · cases hs

theorem xo_if2_le (hx : p.tables.exec = Jvm.exec) (hb : c.code = cc) {off : Int} (hoff : 0 ≤ (pc : Int) + off) (hdg : decode cc pc = .ok (.if_icmp .le off, 3)) (hs : xif2 .le pc off loc st h = some (.inl (t, loc', st', h'))) (hR : xRel b0 D tyC ad h s H locs) (hl : lv_has ls nL (xlc ad loc)) (kk : xCont p l e R s m args below meth c Q nL b0 D tyC ad h cells slots (t.getD (pc + 3)) loc' st' h') : W p l e R s m args below meth c H locs cells slots Q (F0 m pc ls (st.map (xcV ad))) := by
  unfold xif2 at hs
  split at hs
  · rename_i y x r
    have ht : (pc : Int) + off = ((((pc : Int) + off).toNat : Nat) : Int) := by omega
    refine lv_icmp_le hx hb hdg ht (fun q => ?_) (fun q => ?_)
    · have e : xic .le x y = true := decide_eq_true q
      rw [e] at hs
      unfold xbr xjp xtgt at hs
      rw [if_pos hoff] at hs
      cases hs
      exact xk0 kk hR hl
    · have e : xic .le x y = false := decide_eq_false q
      rw [e] at hs
      cases hs
      exact xk0 kk hR hl
  · cases hs

theorem xo_ifnonnull (hx : p.tables.exec = Jvm.exec) (hb : c.code = cc) {off : Int} (hdg : decode cc pc = .ok (.ifnonnull off, 3)) (hs : xifn true pc off loc st h = some (.inl (t, loc', st', h'))) (hR : xRel b0 D tyC ad h s H locs) (hl : lv_has ls nL (xlc ad loc)) (kk : xCont p l e R s m args below meth c Q nL b0 D tyC ad h cells slots (t.getD (pc + 3)) loc' st' h') : W p l e R s m args below meth c H locs cells slots Q (F0 m pc ls (st.map (xcV ad))) := by
  unfold xifn at hs
  split at hs
  · unfold xbr xjp at hs
    split at hs
    · rename_i hq
      split at hs
      · rename_i t2 ht
        cases hs
        exact lv_ifnonnull hx hb hdg (xtgt_eq ht) (xk0 kk hR hl)
      · cases hs
    · rename_i hq
      cases hq
  · cases hs
    exact lv_ifnonnullN hx hb hdg (xk0 kk hR hl)
  · cases hs
theorem xo_ifnull (hx : p.tables.exec = Jvm.exec) (hb : c.code = cc) {off : Int} (hdg : decode cc pc = .ok (.ifnull off, 3)) (hs : xifn false pc off loc st h = some (.inl (t, loc', st', h'))) (hR : xRel b0 D tyC ad h s H locs) (hl : lv_has ls nL (xlc ad loc)) (kk : xCont p l e R s m args below meth c Q nL b0 D tyC ad h cells slots (t.getD (pc + 3)) loc' st' h') : W p l e R s m args below meth c H locs cells slots Q (F0 m pc ls (st.map (xcV ad))) := by
  unfold xifn at hs
  split at hs
  · cases hs
    exact lv_ifnull hx hb hdg (xk0 kk hR hl)
  · unfold xbr xjp at hs
    split at hs
    · rename_i hq
      split at hs
      · rename_i t2 ht
        cases hs
        exact lv_ifnullN hx hb hdg (xtgt_eq ht) (xk0 kk hR hl)
      · cases hs
    · rename_i hq
      cases hq
  · cases hs
theorem xo_sw (hx : p.tables.exec = Jvm.exec) (hb : c.code = cc) {d lo hi : Int} {offs : Array Int} {ln : Nat} (hdg : decode cc pc = .ok (.tableswitch d lo hi offs, ln)) (hs : xsw pc d lo hi offs loc st h = some (.inl (t, loc', st', h'))) (hR : xRel b0 D tyC ad h s H locs) (hl : lv_has ls nL (xlc ad loc)) (kk : xCont p l e R s m args below meth c Q nL b0 D tyC ad h cells slots (t.getD (pc + ln)) loc' st' h') : W p l e R s m args below meth c H locs cells slots Q (F0 m pc ls (st.map (xcV ad))) := by
  unfold xsw at hs
  split at hs
  · split at hs
    · rename_i hg
      unfold xjp at hs
      split at hs
      · rename_i t2 ht
        cases hs
        refine lv_tableOut hx hb hdg ?_ (xtgt_eq ht) (xk0 kk hR hl)
        simpa using hg
      · cases hs
    · rename_i hg
      split at hs
      · rename_i o2 ho
        unfold xjp at hs
        split at hs
        · rename_i t2 ht
          cases hs
          have hg2 := Bool.or_eq_false_iff.mp hg
          exact lv_tableIn hx hb hdg (of_decide_eq_false hg2.1) (of_decide_eq_false hg2.2) ho (xtgt_eq ht) (xk0 kk hR hl)
        · cases hs
      · cases hs
  · cases hs

variable {xs : List Int32} {z : Value} {own : String}
theorem xcell_h {a : Nat} {q : Nat × List Value} (hc : xcell K h a = some q) (ha : a < 1000000) : h[a]? = some q := by
  unfold xcell at hc
  rw [decide_eq_true ha] at hc
  exact hc
theorem xcell_k {a : Nat} {q : Nat × List Value} (hc : xcell K h a = some q) (ha : ¬ a < 1000000) : K[a - 1000000]? = some q ∧ 1000000 + (a - 1000000) = a := by
  unfold xcell at hc
  rw [decide_eq_false ha] at hc
  exact ⟨hc, by omega⟩
theorem xputf_spec {ty : FieldType} {ci k : Nat} {o : xO} (hs : xputf ty ci k loc st h = some o) : ∃ v a r vs, st = v :: .ref a :: r ∧ h[a]? = some (ci, vs) ∧ k < vs.length ∧ xfit ty v = true ∧ o = .inl (none, loc, r, h.set a (ci, vs.set k v)) := by
  unfold xputf at hs
  split at hs
  · split at hs
    · split at hs
      · rename_i c0 vs hc
        split at hs
        · rename_i hg
          simp only [Bool.and_eq_true, decide_eq_true_eq] at hg
          obtain ⟨rfl, hlen, hft⟩ := hg
          cases hs
          exact ⟨_, _, _, vs, rfl, hc, hlen, hft, rfl⟩
        · cases hs
      · cases hs
    · cases hs
  · cases hs
theorem xo_getfield (hx : p.tables.exec = Jvm.exec) (hb : c.code = cc) (hown : s.vm.findClass own = some m.cls) (hE : xEnv xs z b0 D tyC ad s) {i ci k : Nat} {aux : List Nat} (hk : xbfld own i (ci :: k :: aux) = true) (hdg : decode cc pc = .ok (.getfield i, 3)) (hs : xgetf (xK xs) ci k loc st h = some (.inl (t, loc', st', h'))) (hR : xRel b0 D tyC ad h s H locs) (hl : lv_has ls nL (xlc ad loc)) (kk : xCont p l e R s m args below meth c Q nL b0 D tyC ad h cells slots (t.getD (pc + 3)) loc' st' h') : W p l e R s m args below meth c H locs cells slots Q (F0 m pc ls (st.map (xcV ad))) := by
  unfold xgetf at hs
  split at hs
  · rename_i a r
    split at hs
    · rename_i c0 vs hc
      split at hs
      · rename_i hci
        have hci := of_decide_eq_true hci
        subst hci
        split at hs
        · rename_i v hv
          split at hs
          · rename_i hkn
            cases hs
            have key := xk0 kk hR hl
            have hvm : (vs.map (xcV ad))[k]? = some (xcV ad v) := by rw [List.getElem?_map, hv]; rfl
            by_cases ha : a < 1000000
            · have hc := xcell_h hc ha
              rcases xbfld_spec hk with ⟨rfl, -⟩ | ⟨I, C, T, N, hcl, hkN, hw, -⟩
              · obtain ⟨q, hq, -⟩ := hR.1 a _ hc (by show (45 : Nat) ≠ 40; decide)
                exact absurd hq (by show ¬ vwCl[45]? = some q; simp)
              · have hlt := xcls_lt hcl
                obtain ⟨k0, hk0⟩ := xcw_at (ad := ad) (tyC := tyC) hc (by show c0 ≠ 40; omega)
                have hk1 : (xcw ad tyC h)[k0]? = some (ad a, .inr (c0, vs.map (xcV ad))) := by rw [hk0]; unfold xcE; rw [if_pos (show c0 < 50 by omega)]
                exact va_get (Ts := u_ws C T N) (ref := (T k).1) hx hb (xcls_w hE hcl args) (fun _ h => h) hown hE.2.1 (xcw_P hR.1) k0 hk1 hcl k hkN (xenv_w hE hw args) (fun _ h => h) hvm hdg key
            · obtain ⟨hc, haq⟩ := xcell_k hc ha
              have hcK := hE.2.2.2.1 _ _ _ hc
              rcases xbfld_spec hk with ⟨rfl, I, o, n, d, hf, hw⟩ | ⟨I, C, T, N, hcl, hkN, hw, h2⟩
              · have h1 := hcK.1 k o n d v hf hv hkn
                rw [haq] at h1
                exact vk_getf (ref := o) hx hb h1 hR.2.2.2 hown (xenv_w hE hw args) (fun _ h => h) hdg key
              · have hlt := xcls_lt hcl
                have h0 : c0 = 0 := by rcases xK_kind hc with q | q <;> omega
                subst h0
                have h2 : k < 2 := h2.resolve_left (fun q => q rfl)
                cases hcl
                have hf : xKF 0 k = some ((TJ0 k).1, (TJ0 k).2.1, (TJ0 k).2.2.1) := by
                  rcases (show k = 0 ∨ k = 1 by omega) with rfl | rfl <;> rfl
                have h1 := hcK.1 k _ _ _ v hf hv hkn
                rw [haq] at h1
                exact vk_getf (ref := (TJ0 k).1) hx hb h1 hR.2.2.2 hown (xenv_w hE hw args) (fun _ h => h) hdg key
          · cases hs
        · cases hs
      · cases hs
    · cases hs
  · cases hs
theorem xo_putfield (hx : p.tables.exec = Jvm.exec) (hb : c.code = cc) {y : MethodName} (hown : s.vm.findClass y.cls = some m.cls) (hmn : meth.name = y.name) (hE : xEnv xs z b0 D tyC ad s) {i ci k : Nat} {aux : List Nat} (hk : xbput y i (ci :: k :: aux) = true) (hdg : decode cc pc = .ok (.putfield i, 3)) (hs : xputf (xFt ci k) ci k loc st h = some (.inl (t, loc', st', h'))) (hR : xRel b0 D tyC ad h s H locs) (hl : lv_has ls nL (xlc ad loc)) (kk : xCont p l e R s m args below meth c Q nL b0 D tyC ad h cells slots (t.getD (pc + 3)) loc' st' h') : W p l e R s m args below meth c H locs cells slots Q (F0 m pc ls (st.map (xcV ad))) := by
  obtain ⟨v, a, r, vs, rfl, hc, hlen, hft, ho⟩ := xputf_spec hs
  cases ho
  obtain ⟨I, C, T, N, hcl, hkN, hw, hfin⟩ := xbput_spec hk
  have hlt := xcls_lt hcl
  obtain ⟨hP, hI, hbs, hS⟩ := hR
  obtain ⟨k0, hk0⟩ := xcw_at (ad := ad) (tyC := tyC) hc (by show ci ≠ 40; omega)
  have hk1 : (xcw ad tyC h)[k0]? = some (ad a, .inr (ci, vs.map (xcV ad))) := by rw [hk0]; unfold xcE; rw [if_pos (show ci < 50 by omega)]
  have hfit := xfit_fits hft ad
  have hE' : xcE ad tyC (ci, vs.set k v) = .inr (ci, (vs.map (xcV ad)).set k (xcV ad v)) := by unfold xcE; rw [if_pos (show ci < 50 by omega)]; rw [List.map_set]
  have done : ∀ (H1 : Heap) (locs1 : List Loc), va_P D vwCl ((xcw ad tyC h).set k0 (ad a, .inr (ci, (vs.map (xcV ad)).set k (xcV ad v)))) H1 → va_D (fun q => b0 ≤ q) ((xcw ad tyC h).set k0 (ad a, .inr (ci, (vs.map (xcV ad)).set k (xcV ad v)))) → va_S (fun q => b0 ≤ q) s.heap H1 locs1 → W p l e R s m args below meth c H1 locs1 cells slots Q (F0 m (pc + 3) ls (st'.map (xcV ad))) := by
    intro H1 locs1 hP1 _ hS1
    rw [← hE'] at hP1
    exact xk1 kk hc (by rw [List.length_set]) ⟨xset hI hc (by show ci ≠ 40; omega) hk0 hP1, xinj_set hI hc (by show ci ≠ 40; omega), xbd_set hbs hc (by show ci ≠ 40; omega), hS1⟩ hl
  rcases hfin with hf | ⟨hf, hin, hdc⟩
  · exact va_put (Ts := u_ws C T N) (ref := (T k).1) hx hb (xcls_w hE hcl args) (fun _ h => h) (xFt ci) (xcls_ty hcl) (xcls_nm hcl) hown hE.2.1 (xcw_P hP) (xcw_D hI hbs) hS k0 hk1 hcl k hkN (xenv_w hE hw args) (fun _ h => h) hf (xcls_ty hcl k hkN) (narrow_of_fits hfit) hfit (by rw [List.length_map]; exact hlen) hdg done
  · exact va_putF (Ts := u_ws C T N) (ref := (T k).1) hx hb (xcls_w hE hcl args) (fun _ h => h) (xFt ci) (xcls_ty hcl) (xcls_nm hcl) hown hE.2.1 (xcw_P hP) (xcw_D hI hbs) hS k0 hk1 hcl k hkN (xenv_w hE hw args) (fun _ h => h) hf (hmn.trans hin) hdc (xcls_ty hcl k hkN) (narrow_of_fits hfit) hfit (by rw [List.length_map]; exact hlen) hdg done
theorem xo_getstatic (hx : p.tables.exec = Jvm.exec) (hb : c.code = cc) (hown : s.vm.findClass own = some m.cls) (hE : xEnv xs z b0 D tyC ad s) {i j : Nat} {aux : List Nat} (hk : xbsta own i (j :: aux) = true) (hdg : decode cc pc = .ok (.getstatic i, 3)) (hs : xgets (xZ z) j loc st h = some (.inl (t, loc', st', h'))) (hR : xRel b0 D tyC ad h s H locs) (hl : lv_has ls nL (xlc ad loc)) (kk : xCont p l e R s m args below meth c Q nL b0 D tyC ad h cells slots (t.getD (pc + 3)) loc' st' h') : W p l e R s m args below meth c H locs cells slots Q (F0 m pc ls (st.map (xcV ad))) := by
  unfold xgets at hs
  split at hs
  · rename_i v hv
    cases hs
    have key := xk0 kk hR hl
    unfold xbsta at hk
    cases aux with
    | nil => cases hk
    | cons I aux =>
      cases aux with
      | nil => cases hk
      | cons nest aux =>
        dsimp only at hk
        split at hk
        · rename_i C n d hz
          have hZ := hE.2.2.1 j C n d v hz hv
          split at hk
          · exact va_gets (ref := C) hx hb hZ hR.2.2.2 hown (xenv_w hE hk args) (fun _ h => h) hdg key
          · exact va_getsN (ref := C) hx hb hZ hR.2.2.2 hown (xenv_w hE hk args) (fun _ h => h) hdg key
        · cases hk
  · cases hs

end XS
end
section
/-! ARRAYS, NEW CELLS, CONSTANTS OF THE POOL, NATIVES ARE TRUE TO THE MACHINE -/
section XT
variable {p : Program} {l : Launch} {e : Env} {R : Room} {s : State} {m : MethodId} {args : Array Value} {below : List Frame} {meth : Method} {c : Code} {H : Heap} {locs : List Loc} {cells slots : Nat} {Q : State → Prop}
variable {cc : ByteArray} {pc nL : Nat} {ls : Array Slot} {b0 : Nat} {D : va_G} {tyC : Nat → ClassId} {ad : Nat → Nat} {h h' : xH} {loc loc' : xL} {st st' : List Value} {t : Option Nat}
variable {xs : List Int32} {z : Value} {own : String}
theorem xin_vp {i : Int32} {n : Nat} (h : xin i n = true) : vp_in i n := by
  simp only [xin, Bool.and_eq_true, decide_eq_true_eq] at h
  intro q
  rcases q with q | q
  · exact absurd h.1 (by rw [Int32.not_le]; exact q)
  · omega
theorem xtys_at {t : Nat} (h : t < 7) : (xtys tyC)[t]? = some (tyC t, xTy t) := by
  unfold xtys
  rw [List.getElem?_map, List.getElem?_range h]
  rfl
theorem xgetD_of {vs : List Value} {k : Nat} {v : Value} (h : vs[k]? = some v) : vs.getD k .null = v := by
  rw [List.getD_eq_getElem?_getD, h]; rfl
theorem xarr {c0 : Nat} {vs : List Value} (hc : 50 ≤ c0) : xcE ad tyC (c0, vs) = .inl (tyC (c0 - 50), vs.length, xcA ad (c0 - 50) vs) := by
  unfold xcE
  rw [if_neg (show ¬ c0 < 50 by omega)]
theorem xarr_b (c0 : Nat) (vs : List Value) (h : c0 < 2) : xcA ad c0 vs = .inl (fun k => xI (vs.getD k .null)) := by
  unfold xcA
  rw [if_neg (show ¬ c0 = 2 by omega), if_pos h]
theorem xarr_l (vs : List Value) : xcA ad 2 vs = .inr (.inl fun k => xJ (vs.getD k .null)) := rfl
theorem xarr_q (c0 : Nat) (vs : List Value) (h : 3 ≤ c0) : xcA ad c0 vs = .inr (.inr (.inr (.inr fun k => xR ad (vs.getD k .null)))) := by
  unfold xcA
  rw [if_neg (show ¬ c0 = 2 by omega), if_neg (show ¬ c0 < 2 by omega)]
/-- what a load of numbers finds -/
theorem xald_spec {K : List (Nat × List Value)} {p : Value → Bool} {tt : Nat → Nat → Bool} {o : xO} (hs : xald K p tt loc st h = some o) : ∃ i a r c0 vs v, st = .int i :: .ref a :: r ∧ xcell K h a = some (c0, vs) ∧ 50 ≤ c0 ∧ tt a (c0 - 50) = true ∧ xin i vs.length = true ∧ vs[i.toNatClampNeg]? = some v ∧ p v = true ∧ o = .inl (none, loc, v :: r, h) := by
  unfold xald at hs
  split at hs
  · rename_i i a r
    split at hs
    · rename_i c0 vs hc
      split at hs
      · rename_i hg
        simp only [Bool.and_eq_true, decide_eq_true_eq] at hg
        split at hs
        · rename_i v hv
          split at hs
          · rename_i hp
            cases hs
            exact ⟨i, a, r, c0, vs, v, rfl, hc, hg.1, hg.2.1, hg.2.2, hv, hp, rfl⟩
          · cases hs
        · cases hs
      · cases hs
    · cases hs
  · cases hs
theorem xo_baload (hx : p.tables.exec = Jvm.exec) (hb : c.code = cc) (hE : xEnv xs z b0 D tyC ad s) (hdg : decode cc pc = .ok (.baload, 1)) (hs : xald (xK xs) xisI (fun _ t => decide (t = 0)) loc st h = some (.inl (t, loc', st', h'))) (hR : xRel b0 D tyC ad h s H locs) (hl : lv_has ls nL (xlc ad loc)) (kk : xCont p l e R s m args below meth c Q nL b0 D tyC ad h cells slots (t.getD (pc + 1)) loc' st' h') : W p l e R s m args below meth c H locs cells slots Q (F0 m pc ls (st.map (xcV ad))) := by
  obtain ⟨i, a, r, c0, vs, v, rfl, hc, h50, ht, hi, hv, hp, ho⟩ := xald_spec hs
  cases ho
  have key := xk0 kk hR hl
  have h0 : c0 = 50 := by have := of_decide_eq_true ht; omega
  subst h0
  cases v <;> first | (cases hp; done) | skip
  rename_i x
  by_cases ha : a < 1000000
  · have hc := xcell_h hc ha
    obtain ⟨k0, hk0⟩ := xcw_at (ad := ad) (tyC := tyC) hc (by simp)
    rw [xarr (by decide), xarr_b _ _ (by decide)] at hk0
    refine va_bald hx hb hE.2.1 (xcw_P hR.1) k0 0 hk0 (xtys_at (by decide)) (xin_vp hi) hdg ?_
    rw [show xI (vs.getD i.toNatClampNeg .null) = x by rw [xgetD_of hv]; rfl]
    exact key
  · obtain ⟨hc, haq⟩ := xcell_k hc ha
    have h1 := (hE.2.2.2.1 _ _ _ hc).2.1 (by decide)
    rw [haq] at h1
    exact va_tb hx hb h1 hR.2.2.2 (xin_vp hi) (v := .int x) (by show xcV ad (vs.getD i.toNatClampNeg .null) = _; rw [xgetD_of hv]; rfl) hdg key
theorem xo_iaload (hx : p.tables.exec = Jvm.exec) (hb : c.code = cc) (hE : xEnv xs z b0 D tyC ad s) (hdg : decode cc pc = .ok (.iaload, 1)) (hs : xald (xK xs) xisI (fun a t => decide (1000000 ≤ a) && decide (8 ≤ t)) loc st h = some (.inl (t, loc', st', h'))) (hR : xRel b0 D tyC ad h s H locs) (hl : lv_has ls nL (xlc ad loc)) (kk : xCont p l e R s m args below meth c Q nL b0 D tyC ad h cells slots (t.getD (pc + 1)) loc' st' h') : W p l e R s m args below meth c H locs cells slots Q (F0 m pc ls (st.map (xcV ad))) := by
  obtain ⟨i, a, r, c0, vs, v, rfl, hc, h50, ht, hi, hv, hp, ho⟩ := xald_spec hs
  cases ho
  have key := xk0 kk hR hl
  simp only [Bool.and_eq_true, decide_eq_true_eq] at ht
  cases v <;> first | (cases hp; done) | skip
  rename_i x
  obtain ⟨hc, haq⟩ := xcell_k hc (by omega)
  have h1 := (hE.2.2.2.1 _ _ _ hc).2.1 h50
  rw [haq] at h1
  have hty : xTy (c0 - 50) = .int := by
    obtain ⟨n, hn⟩ : ∃ n, c0 - 50 = n + 8 := ⟨c0 - 58, by omega⟩
    rw [hn]
    rfl
  rw [hty] at h1
  exact va_ti hx hb h1 hR.2.2.2 (xin_vp hi) (v := .int x) (by show xcV ad (vs.getD i.toNatClampNeg .null) = _; rw [xgetD_of hv]; rfl) hdg key
theorem xo_caload (hx : p.tables.exec = Jvm.exec) (hb : c.code = cc) (hE : xEnv xs z b0 D tyC ad s) (hdg : decode cc pc = .ok (.caload, 1)) (hs : xald (xK xs) xisI (fun a t => decide (a < 1000000) && decide (t = 1)) loc st h = some (.inl (t, loc', st', h'))) (hR : xRel b0 D tyC ad h s H locs) (hl : lv_has ls nL (xlc ad loc)) (kk : xCont p l e R s m args below meth c Q nL b0 D tyC ad h cells slots (t.getD (pc + 1)) loc' st' h') : W p l e R s m args below meth c H locs cells slots Q (F0 m pc ls (st.map (xcV ad))) := by
  obtain ⟨i, a, r, c0, vs, v, rfl, hc, h50, ht, hi, hv, hp, ho⟩ := xald_spec hs
  cases ho
  have key := xk0 kk hR hl
  simp only [Bool.and_eq_true, decide_eq_true_eq] at ht
  have h0 : c0 = 51 := by omega
  subst h0
  cases v <;> first | (cases hp; done) | skip
  rename_i x
  have hc := xcell_h hc ht.1
  obtain ⟨k0, hk0⟩ := xcw_at (ad := ad) (tyC := tyC) hc (by simp)
  rw [xarr (by decide), xarr_b _ _ (by decide)] at hk0
  refine va_cald hx hb hE.2.1 (xcw_P hR.1) k0 1 hk0 (xtys_at (by decide)) (xin_vp hi) hdg ?_
  rw [show xI (vs.getD i.toNatClampNeg .null) = x by rw [xgetD_of hv]; rfl]
  exact key
theorem xo_laload (hx : p.tables.exec = Jvm.exec) (hb : c.code = cc) (hE : xEnv xs z b0 D tyC ad s) (hdg : decode cc pc = .ok (.laload, 1)) (hs : xald (xK xs) xisJ (fun a t => decide (a < 1000000) && decide (t = 2)) loc st h = some (.inl (t, loc', st', h'))) (hR : xRel b0 D tyC ad h s H locs) (hl : lv_has ls nL (xlc ad loc)) (kk : xCont p l e R s m args below meth c Q nL b0 D tyC ad h cells slots (t.getD (pc + 1)) loc' st' h') : W p l e R s m args below meth c H locs cells slots Q (F0 m pc ls (st.map (xcV ad))) := by
  obtain ⟨i, a, r, c0, vs, v, rfl, hc, h50, ht, hi, hv, hp, ho⟩ := xald_spec hs
  cases ho
  have key := xk0 kk hR hl
  simp only [Bool.and_eq_true, decide_eq_true_eq] at ht
  have h0 : c0 = 52 := by omega
  subst h0
  cases v <;> first | (cases hp; done) | skip
  rename_i x
  have hc := xcell_h hc ht.1
  obtain ⟨k0, hk0⟩ := xcw_at (ad := ad) (tyC := tyC) hc (by simp)
  rw [xarr (by decide), show 52 - 50 = 2 from rfl, xarr_l] at hk0
  refine va_lald hx hb hE.2.1 (xcw_P hR.1) k0 2 hk0 (xtys_at (by decide)) (xin_vp hi) hdg ?_
  rw [show xJ (vs.getD i.toNatClampNeg .null) = x by rw [xgetD_of hv]; rfl]
  exact key
theorem xrf_V {v : Value} (h : xisA v = true) : va_rf (xR ad v) = xcV ad v := by
  cases v <;> first | rfl | cases h
theorem xTy_obj {t : Nat} (h1 : 3 ≤ t) (h2 : t ≤ 6) : ∃ C, xTy t = .object C ∧ ∃ q, vwCl[xAC t]? = some q ∧ q.1 = C := by
  rcases (show t = 3 ∨ t = 4 ∨ t = 5 ∨ t = 6 by omega) with rfl | rfl | rfl | rfl
  · exact ⟨_, rfl, _, rfl, rfl⟩
  · exact ⟨_, rfl, _, rfl, rfl⟩
  · exact ⟨_, rfl, _, rfl, rfl⟩
  · exact ⟨_, rfl, _, rfl, rfl⟩
theorem xo_aaload (hx : p.tables.exec = Jvm.exec) (hb : c.code = cc) (hE : xEnv xs z b0 D tyC ad s) (hdg : decode cc pc = .ok (.aaload, 1)) (hs : xald (xK xs) xisA (fun a t => (decide (a < 1000000) && (decide (3 ≤ t) && decide (t ≤ 6))) || (decide (1000000 ≤ a) && decide (t = 7))) loc st h = some (.inl (t, loc', st', h'))) (hR : xRel b0 D tyC ad h s H locs) (hl : lv_has ls nL (xlc ad loc)) (kk : xCont p l e R s m args below meth c Q nL b0 D tyC ad h cells slots (t.getD (pc + 1)) loc' st' h') : W p l e R s m args below meth c H locs cells slots Q (F0 m pc ls (st.map (xcV ad))) := by
  obtain ⟨i, a, r, c0, vs, v, rfl, hc, h50, ht, hi, hv, hp, ho⟩ := xald_spec hs
  cases ho
  have key := xk0 kk hR hl
  simp only [Bool.and_eq_true, Bool.or_eq_true, decide_eq_true_eq] at ht
  rcases ht with ⟨ha, h3, h6⟩ | ⟨ha, h7⟩
  · have hc := xcell_h hc ha
    obtain ⟨C, hC, -⟩ := xTy_obj h3 h6
    obtain ⟨k0, hk0⟩ := xcw_at (ad := ad) (tyC := tyC) hc (by show c0 ≠ 40; omega)
    rw [xarr h50, xarr_q _ _ h3] at hk0
    have ht7 := xtys_at (tyC := tyC) (t := c0 - 50) (by omega)
    rw [hC] at ht7
    refine va_aldq hx hb hE.2.1 (xcw_P hR.1) k0 (c0 - 50) hk0 ht7 (xin_vp hi) hdg ?_
    rw [xgetD_of hv, xrf_V hp]
    exact key
  · obtain ⟨hc, haq⟩ := xcell_k hc (by omega)
    have h1 := (hE.2.2.2.1 _ _ _ hc).2.1 h50
    rw [haq, h7] at h1
    obtain ⟨cell, g1, g2, g3, g4, g5, g6, g7⟩ := h1
    have hin := xin_vp hi
    have hlt : i.toNatClampNeg < vs.length := Nat.not_le.mp fun q => hin (Or.inr q)
    exact W.aald (v := xcV ad v) (ty := .object "RiverReaches$Kind") hx hb (by rw [hR.2.2.2.2.1 _ (Array.getElem?_eq_some_iff.mp g1).1 g7]; exact g1) g2 rfl g3 (fun q => q.elim (fun q => hin (Or.inl q)) (fun q => by omega)) (by rw [g6 _ hlt]; show some (xcV ad (vs.getD i.toNatClampNeg .null)) = _; rw [xgetD_of hv]) rfl rfl hdg key
theorem xset_I {vs : List Value} {n : Nat} {x : Int32} (hn : n < vs.length) : (fun k => xI ((vs.set n (.int x)).getD k .null)) = upd (fun k => xI (vs.getD k .null)) n x := by
  funext k
  unfold upd
  by_cases hk : k = n
  · subst hk
    rw [if_pos rfl, List.getD_eq_getElem?_getD, List.getElem?_set_self hn]
    rfl
  · rw [if_neg hk, List.getD_eq_getElem?_getD, List.getElem?_set_ne (Ne.symm hk), ← List.getD_eq_getElem?_getD]
theorem xset_J {vs : List Value} {n : Nat} {x : Int64} (hn : n < vs.length) : (fun k => xJ ((vs.set n (.long x)).getD k .null)) = vp_updL (fun k => xJ (vs.getD k .null)) n x := by
  funext k
  unfold vp_updL
  by_cases hk : k = n
  · subst hk
    rw [if_pos rfl, List.getD_eq_getElem?_getD, List.getElem?_set_self hn]
    rfl
  · rw [if_neg hk, List.getD_eq_getElem?_getD, List.getElem?_set_ne (Ne.symm hk), ← List.getD_eq_getElem?_getD]
theorem xset_R {vs : List Value} {n b : Nat} (hn : n < vs.length) : (fun k => xR ad ((vs.set n (.ref b)).getD k .null)) = va_up (fun k => xR ad (vs.getD k .null)) n (some (ad b)) := by
  funext k
  unfold va_up
  by_cases hk : k = n
  · subst hk
    rw [if_pos rfl, List.getD_eq_getElem?_getD, List.getElem?_set_self hn]
    rfl
  · rw [if_neg hk, List.getD_eq_getElem?_getD, List.getElem?_set_ne (Ne.symm hk), ← List.getD_eq_getElem?_getD]
theorem xast_spec {tn : Nat} {f : Value → Option Value} {o : xO} (hs : xast tn f loc st h = some o) : ∃ v i a r vs w, st = v :: .int i :: .ref a :: r ∧ h[a]? = some (50 + tn, vs) ∧ xin i vs.length = true ∧ f v = some w ∧ o = .inl (none, loc, r, h.set a (50 + tn, vs.set i.toNatClampNeg w)) := by
  unfold xast at hs
  split at hs
  · rename_i v i a r
    split at hs
    · split at hs
      · rename_i c0 vs hc
        split at hs
        · rename_i hg
          simp only [Bool.and_eq_true, decide_eq_true_eq] at hg
          split at hs
          · rename_i w hw
            cases hs
            obtain ⟨rfl, hg⟩ := hg
            exact ⟨v, i, a, r, vs, w, rfl, hc, hg, hw, rfl⟩
          · cases hs
        · cases hs
      · cases hs
    · cases hs
  · cases hs
theorem xin_lt {i : Int32} {n : Nat} (h : xin i n = true) : i.toNatClampNeg < n := by
  simp only [xin, Bool.and_eq_true, decide_eq_true_eq] at h
  exact h.2
/-- behind a store into an array -/
theorem xk1a {a tn k0 : Nat} {vs ws r : List Value} (htn : tn ≤ 6) (hc : h[a]? = some (50 + tn, vs)) (hlen : ws.length = vs.length) (hk0 : (xcw ad tyC h)[k0]? = some (ad a, xcE ad tyC (50 + tn, vs))) (hR : xRel b0 D tyC ad h s H locs) (hl : lv_has ls nL (xlc ad loc)) (kk : xCont p l e R s m args below meth c Q nL b0 D tyC ad h cells slots (pc + 1) loc r (h.set a (50 + tn, ws))) : ∀ (H1 : Heap) (locs1 : List Loc), va_P D vwCl ((xcw ad tyC h).set k0 (ad a, xcE ad tyC (50 + tn, ws))) H1 → va_S (fun q => b0 ≤ q) s.heap H1 locs1 → W p l e R s m args below meth c H1 locs1 cells slots Q (F0 m (pc + 1) ls (r.map (xcV ad))) := by
  intro H1 locs1 hP1 hS1
  obtain ⟨hP, hI, hbs, hS⟩ := hR
  exact xk1 kk hc hlen ⟨xset hI hc (by show 50 + tn ≠ 40; omega) hk0 hP1, xinj_set hI hc (by show 50 + tn ≠ 40; omega), xbd_set hbs hc (by show 50 + tn ≠ 40; omega), hS1⟩ hl
theorem xo_bastore (hx : p.tables.exec = Jvm.exec) (hb : c.code = cc) (hE : xEnv xs z b0 D tyC ad s) (hdg : decode cc pc = .ok (.bastore, 1)) (hs : xast 0 xb8 loc st h = some (.inl (t, loc', st', h'))) (hR : xRel b0 D tyC ad h s H locs) (hl : lv_has ls nL (xlc ad loc)) (kk : xCont p l e R s m args below meth c Q nL b0 D tyC ad h cells slots (t.getD (pc + 1)) loc' st' h') : W p l e R s m args below meth c H locs cells slots Q (F0 m pc ls (st.map (xcV ad))) := by
  obtain ⟨v, i, a, r, vs, w, rfl, hc, hi, hw, ho⟩ := xast_spec hs
  cases ho
  cases v <;> first | (cases hw; done) | skip
  rename_i x
  cases hw
  obtain ⟨k0, hk0⟩ := xcw_at (ad := ad) (tyC := tyC) hc (by simp)
  have fin := xk1a (pc := pc) (by decide) hc (List.length_set) hk0 hR hl kk
  have e1 : xcE ad tyC (50 + 0, vs) = .inl (tyC 0, vs.length, .inl fun k => xI (vs.getD k .null)) := rfl
  have e2 : xcE ad tyC (50 + 0, vs.set i.toNatClampNeg (.int x.toInt8.toInt32)) = .inl (tyC 0, vs.length, .inl (upd (fun k => xI (vs.getD k .null)) i.toNatClampNeg (vp_nar .byte x))) := by
    rw [xarr (by decide), xarr_b _ _ (by decide), xset_I (xin_lt hi), List.length_set]
    rfl
  rw [e1] at hk0
  rw [e2] at fin
  exact va_bast hx hb hE.2.1 (xcw_P hR.1) (xcw_D hR.2.1 hR.2.2.1) hR.2.2.2 k0 0 hk0 (xtys_at (by decide)) (xin_vp hi) hdg (fun H1 locs1 h1 _ h3 => fin H1 locs1 h1 h3)
theorem xo_castore (hx : p.tables.exec = Jvm.exec) (hb : c.code = cc) (hE : xEnv xs z b0 D tyC ad s) (hdg : decode cc pc = .ok (.castore, 1)) (hs : xast 1 xb16 loc st h = some (.inl (t, loc', st', h'))) (hR : xRel b0 D tyC ad h s H locs) (hl : lv_has ls nL (xlc ad loc)) (kk : xCont p l e R s m args below meth c Q nL b0 D tyC ad h cells slots (t.getD (pc + 1)) loc' st' h') : W p l e R s m args below meth c H locs cells slots Q (F0 m pc ls (st.map (xcV ad))) := by
  obtain ⟨v, i, a, r, vs, w, rfl, hc, hi, hw, ho⟩ := xast_spec hs
  cases ho
  cases v <;> first | (cases hw; done) | skip
  rename_i x
  cases hw
  obtain ⟨k0, hk0⟩ := xcw_at (ad := ad) (tyC := tyC) hc (by simp)
  have fin := xk1a (pc := pc) (by decide) hc (List.length_set) hk0 hR hl kk
  have e1 : xcE ad tyC (50 + 1, vs) = .inl (tyC 1, vs.length, .inl fun k => xI (vs.getD k .null)) := rfl
  have e2 : xcE ad tyC (50 + 1, vs.set i.toNatClampNeg (.int x.toUInt32.toUInt16.toUInt32.toInt32)) = .inl (tyC 1, vs.length, .inl (upd (fun k => xI (vs.getD k .null)) i.toNatClampNeg (vp_nar .char x))) := by
    rw [xarr (by decide), xarr_b _ _ (by decide), xset_I (xin_lt hi), List.length_set]
    rfl
  rw [e1] at hk0
  rw [e2] at fin
  exact va_cast hx hb hE.2.1 (xcw_P hR.1) (xcw_D hR.2.1 hR.2.2.1) hR.2.2.2 k0 1 hk0 (xtys_at (by decide)) (xin_vp hi) hdg (fun H1 locs1 h1 _ h3 => fin H1 locs1 h1 h3)
theorem xo_lastore (hx : p.tables.exec = Jvm.exec) (hb : c.code = cc) (hE : xEnv xs z b0 D tyC ad s) (hdg : decode cc pc = .ok (.lastore, 1)) (hs : xast 2 xb64 loc st h = some (.inl (t, loc', st', h'))) (hR : xRel b0 D tyC ad h s H locs) (hl : lv_has ls nL (xlc ad loc)) (kk : xCont p l e R s m args below meth c Q nL b0 D tyC ad h cells slots (t.getD (pc + 1)) loc' st' h') : W p l e R s m args below meth c H locs cells slots Q (F0 m pc ls (st.map (xcV ad))) := by
  obtain ⟨v, i, a, r, vs, w, rfl, hc, hi, hw, ho⟩ := xast_spec hs
  cases ho
  cases v <;> first | (cases hw; done) | skip
  rename_i x
  cases hw
  obtain ⟨k0, hk0⟩ := xcw_at (ad := ad) (tyC := tyC) hc (by simp)
  have fin := xk1a (pc := pc) (by decide) hc (List.length_set) hk0 hR hl kk
  have e1 : xcE ad tyC (50 + 2, vs) = .inl (tyC 2, vs.length, .inr (.inl fun k => xJ (vs.getD k .null))) := rfl
  have e2 : xcE ad tyC (50 + 2, vs.set i.toNatClampNeg (.long x)) = .inl (tyC 2, vs.length, .inr (.inl (vp_updL (fun k => xJ (vs.getD k .null)) i.toNatClampNeg x))) := by
    rw [xarr (by decide), show 50 + 2 - 50 = 2 from rfl, xarr_l, xset_J (xin_lt hi), List.length_set]
  rw [e1] at hk0
  rw [e2] at fin
  exact va_last hx hb hE.2.1 (xcw_P hR.1) (xcw_D hR.2.1 hR.2.2.1) hR.2.2.2 k0 2 hk0 (xtys_at (by decide)) (xin_vp hi) hdg (fun H1 locs1 h1 _ h3 => fin H1 locs1 h1 h3)
theorem xo_aastore (hx : p.tables.exec = Jvm.exec) (hb : c.code = cc) (hE : xEnv xs z b0 D tyC ad s) (hdg : decode cc pc = .ok (.aastore, 1)) (hs : xasq loc st h = some (.inl (t, loc', st', h'))) (hR : xRel b0 D tyC ad h s H locs) (hl : lv_has ls nL (xlc ad loc)) (kk : xCont p l e R s m args below meth c Q nL b0 D tyC ad h cells slots (t.getD (pc + 1)) loc' st' h') : W p l e R s m args below meth c H locs cells slots Q (F0 m pc ls (st.map (xcV ad))) := by
  unfold xasq at hs
  split at hs
  · rename_i b i a r
    split at hs
    · split at hs
      · rename_i c0 vs d us hc hd
        split at hs
        · rename_i hg
          simp only [Bool.and_eq_true, decide_eq_true_eq] at hg
          obtain ⟨h53, h56, hdc, hi⟩ := hg
          cases hs
          obtain ⟨tn, rfl⟩ : ∃ tn, c0 = 50 + tn := ⟨c0 - 50, by omega⟩
          have e0 : 50 + tn - 50 = tn := by omega
          rw [e0] at hdc
          obtain ⟨C, hC, q, hq, hqC⟩ := xTy_obj (t := tn) (by omega) (by omega)
          subst hqC
          obtain ⟨k0, hk0⟩ := xcw_at (ad := ad) (tyC := tyC) hc (by show 50 + tn ≠ 40; omega)
          have fin := xk1a (pc := pc) (by omega) hc (List.length_set) hk0 hR hl kk
          have hd12 : d < 12 := by rw [hdc]; exact xcls_lt hq
          obtain ⟨k1, hk1⟩ := xcw_at (ad := ad) (tyC := tyC) hd (by show d ≠ 40; omega)
          have hk1' : (xcw ad tyC h)[k1]? = some (ad b, .inr (d, us.map (xcV ad))) := by rw [hk1]; unfold xcE; rw [if_pos (show d < 50 by omega)]
          have e1 : xcE ad tyC (50 + tn, vs) = .inl (tyC tn, vs.length, .inr (.inr (.inr (.inr fun k => xR ad (vs.getD k .null))))) := by
            rw [xarr (by omega), e0, xarr_q _ _ (by omega)]
          have e2 : xcE ad tyC (50 + tn, vs.set i.toNatClampNeg (.ref b)) = .inl (tyC tn, vs.length, .inr (.inr (.inr (.inr (va_up (fun k => xR ad (vs.getD k .null)) i.toNatClampNeg (some (ad b))))))) := by
            rw [xarr (by omega), e0, xarr_q _ _ (by omega), xset_R (xin_lt hi), List.length_set]
          rw [e1] at hk0
          rw [e2] at fin
          have ht7 := xtys_at (tyC := tyC) (t := tn) (by omega)
          rw [hC] at ht7
          rw [hdc] at hk1'
          exact va_astq hx hb hE.2.1 (xcw_P hR.1) (xcw_D hR.2.1 hR.2.2.1) hR.2.2.2 k0 tn k1 (xAC tn) hk0 ht7 hk1' hq (xin_vp hi) hdg (fun H1 locs1 h1 _ h3 => fin H1 locs1 h1 h3)
        · cases hs
      · cases hs
    · cases hs
  · cases hs
theorem xo_alen (hx : p.tables.exec = Jvm.exec) (hb : c.code = cc) (hE : xEnv xs z b0 D tyC ad s) (hdg : decode cc pc = .ok (.arraylength, 1)) (hs : xalen (xK xs) loc st h = some (.inl (t, loc', st', h'))) (hR : xRel b0 D tyC ad h s H locs) (hl : lv_has ls nL (xlc ad loc)) (kk : xCont p l e R s m args below meth c Q nL b0 D tyC ad h cells slots (t.getD (pc + 1)) loc' st' h') : W p l e R s m args below meth c H locs cells slots Q (F0 m pc ls (st.map (xcV ad))) := by
  unfold xalen at hs
  split at hs
  · rename_i a r
    split at hs
    · rename_i c0 vs hc
      split at hs
      · rename_i hg
        simp only [Bool.and_eq_true, Bool.or_eq_true, decide_eq_true_eq] at hg
        cases hs
        have key := xk0 kk hR hl
        by_cases ha : a < 1000000
        · have hc := xcell_h hc ha
          have h56 : c0 ≤ 56 := hg.2.resolve_left (Nat.not_le.mpr ha)
          obtain ⟨k0, hk0⟩ := xcw_at (ad := ad) (tyC := tyC) hc (by show c0 ≠ 40; omega)
          rw [xarr hg.1] at hk0
          exact va_alen hx hb hE.2.1 (xcw_P hR.1) k0 (c0 - 50) hk0 (xtys_at (by omega)) rfl hdg key
        · obtain ⟨hc, haq⟩ := xcell_k hc ha
          have h1 := (hE.2.2.2.1 _ _ _ hc).2.1 hg.1
          rw [haq] at h1
          exact va_tlen hx hb h1 hR.2.2.2 rfl hdg key
      · cases hs
    · cases hs
  · cases hs
end XT
end
section
/-! NEW CELLS, CONSTANTS OF THE POOL, CASTS, NATIVES ARE TRUE TO THE MACHINE -/
section XU
variable {p : Program} {l : Launch} {e : Env} {R : Room} {s : State} {m : MethodId} {args : Array Value} {below : List Frame} {meth : Method} {c : Code} {H : Heap} {locs : List Loc} {cells slots : Nat} {Q : State → Prop}
variable {cc : ByteArray} {pc nL : Nat} {n0 : Nat × Nat} {ls : Array Slot} {b0 : Nat} {D : va_G} {tyC : Nat → ClassId} {ad : Nat → Nat} {h h' : xH} {loc loc' : xL} {st st' : List Value} {t : Option Nat}
variable {xs : List Int32} {z : Value} {own : String}
theorem xlc_ext {ad' : Nat → Nat} {n : Nat} (ha : ∀ i, (i < n ∨ 1000000 ≤ i) → ad' i = ad i) (hl : ∀ q ∈ loc, xsc n q.2) : xlc ad' loc = xlc ad loc :=
  List.map_congr_left fun q hq => by rw [xcV_ext ha (hl q hq)]
/-- behind a new cell -/
theorem xpushed {pc' n : Nat} {r : List Value} {q0 : Nat × List Value} (hn : q0.2.length = n) (kk : xCont p l e R s m args below meth c Q nL b0 D tyC ad h cells slots pc' loc (.ref h.length :: r) (h ++ [q0])) (hlt : h.length < 1000000) (hok : xok n0 h loc r) (hes : xscL h.length q0.2) (he : q0.1 ≠ 40) (hR : xRel b0 D tyC ad h s H locs) (hl : lv_has ls nL (xlc ad loc)) :
    ∀ (q : Nat) (H1 : Heap), va_P D vwCl (xcw ad tyC h ++ [(q, xcE ad tyC q0)]) H1 → va_D (fun q => b0 ≤ q) (xcw ad tyC h ++ [(q, xcE ad tyC q0)]) → va_S (fun q => b0 ≤ q) s.heap H1 locs → W p l e R s m args below meth c H1 locs (cells + 1) (slots + n) Q (F0 m pc' ls (.ref q :: r.map (xcV ad))) := by
  intro q H1 hP hD hS
  have ha : ∀ i, (i < h.length ∨ 1000000 ≤ i) → (fun i => if i = h.length then q else ad i) i = ad i := by
    intro i hi
    show (if i = h.length then q else ad i) = ad i
    rw [if_neg (by omega)]
  have hq : (fun i => if i = h.length then q else ad i) h.length = q := if_pos rfl
  have hR' := xpush hR hok.2.1 hes he ha hq hP hD hS
  have k := xk2 (ls' := ls) hn kk ha hR' (by rw [xlc_ext ha hok.2.2.1]; exact hl)
  have e1 : (Value.ref h.length :: r).map (xcV fun i => if i = h.length then q else ad i) = .ref q :: r.map (xcV ad) := by
    rw [List.map_cons, xcVs_ext ha hok.2.2.2]
    show Value.ref (if h.length = h.length then q else ad h.length) :: _ = _
    rw [if_pos rfl]
  rw [e1] at k
  exact k
theorem xnew0_ok : (List.range 12).all (fun ci => decide (ci = 2) || (decide (ci = 3) || (List.range (xnew0 ci).length).all (fun j => decide (defaultValue (xFt ci j) = vp_V (xnew0 ci) j)))) = true := by decide +kernel
theorem xnew0_map (ci : Nat) : (xnew0 ci).map (xcV ad) = xnew0 ci := by
  have h := xnew0_all ci
  generalize xnew0 ci = vs at h
  induction vs with
  | nil => rfl
  | cons v vs ih =>
    simp only [List.all_cons, Bool.and_eq_true] at h
    rw [List.map_cons, ih h.2]
    cases v <;> first | rfl | cases h.1
theorem xo_new (hx : p.tables.exec = Jvm.exec) (hb : c.code = cc) (hown : s.vm.findClass own = some m.cls) (hE : xEnv xs z b0 D tyC ad s) {i k ci : Nat} {aux : List Nat} (hk : xbnew own i (k :: ci :: aux) = true) (hdg : decode cc pc = .ok (.new i, 3)) (hs : xnewx loc st h k ci = some (.inl (t, loc', st', h'))) (hok : xok n0 h loc st) (hroom : cells + (h'.length - h.length) ≤ R.cells ∧ slots + (xsz h' - xsz h) ≤ R.slots) (hR : xRel b0 D tyC ad h s H locs) (hl : lv_has ls nL (xlc ad loc)) (kk : xCont p l e R s m args below meth c Q nL b0 D tyC ad h cells slots (t.getD (pc + 3)) loc' st' h') : W p l e R s m args below meth c H locs cells slots Q (F0 m pc ls (st.map (xcV ad))) := by
  unfold xnewx at hs
  split at hs
  · rename_i hk0
    have hk0 := of_decide_eq_true hk0
    subst hk0
    unfold xnew at hs
    split at hs
    · rename_i hlt
      have hlt := of_decide_eq_true hlt
      cases hs
      unfold xbnew at hk
      split at hk
      · rename_i heq
        cases heq
        rename_i I I2 I3 aux
        split at hk
        · rename_i C T N hc
          simp only [Bool.and_eq_true, decide_eq_true_eq] at hk
          obtain ⟨w1, w2, w3, ⟨hN, h2⟩, h3⟩ := hk
          have hlt12 := xcls_lt hc
          have hfs : ∀ j, j < N → defaultValue (xFt ci j) = vp_V (xnew0 ci) j := by
            intro j hj
            have h1 := List.all_eq_true.mp xnew0_ok ci (List.mem_range.mpr hlt12)
            simp only [Bool.or_eq_true, decide_eq_true_eq] at h1
            have h1 := (h1.resolve_left h2).resolve_left h3
            exact of_decide_eq_true (List.all_eq_true.mp h1 j (List.mem_range.mpr (by omega)))
          have eE : xcE ad tyC (ci, xnew0 ci) = .inr (ci, xnew0 ci) := by
            unfold xcE
            rw [if_pos (show ci < 50 by omega), xnew0_map]
          have hr1 : (h ++ [(ci, xnew0 ci)]).length - h.length = 1 := by simp
          have hr2 : xsz (h ++ [(ci, xnew0 ci)]) - xsz h = N := by rw [xsz_push, ← hN]; show xsz h + (xnew0 ci).length - xsz h = _; omega
          rw [hr1, hr2] at hroom
          refine va_new (Ts := u_ws C T N) (fs := xnew0 ci) hx hb (xcls_w hE hc args) (fun _ h => h) (xFt ci) (xcls_ty hc) hown (xenv_w hE w1 args) (xenv_w hE w2 args) (xenv_w hE w3 args) hE.2.1 (xcw_P hR.1) (xcw_D hR.2.1 hR.2.2.1) hR.2.2.2 (fun q hq => Nat.le_trans hE.2.2.2.2.2.2.2.2.2 hq) hc hfs hroom.1 hroom.2 hdg ?_
          intro q H1 hP hD hS
          rw [← eE] at hP hD
          exact xpushed (q0 := (ci, xnew0 ci)) hN kk hlt hok (xnew0_sc _ _) (by show ci ≠ 40; omega) hR hl q H1 hP hD hS
        · cases hk
      · rename_i heq
        cases heq
      · rename_i heq
        cases heq
      · cases hk
    · cases hs
  · split at hs <;> cases hs
theorem xty_same {ty : FieldType} {c1 c2 : ClassId} (h1 : va_RA s c1 ty) (h2 : va_RA s c2 ty) : c1 = c2 := by
  cases ty with
  | object C =>
    obtain ⟨-, -, -, -, -, a1⟩ := h1
    obtain ⟨-, -, -, -, -, a2⟩ := h2
    exact Option.some.inj (a1.symm.trans a2)
  | _ => exact Option.some.inj (h1.symm.trans h2)
theorem xtyC_of {tn : Nat} {cA : ClassId} (htn : tn < 7) (hE : xEnv xs z b0 D tyC ad s) (hK : va_K D vwCl (xtys tyC ++ [(cA, xTy tn)]) s) : cA = tyC tn := by
  have h1 := (hE.2.1.2 tn _ (xtys_at htn)).2
  have h2 := (hK.2 7 (cA, xTy tn) (by simp [xtys])).2
  exact xty_same h2 h1
theorem xrep_I (n : Nat) : (fun k => xI ((List.replicate n (Value.int 0)).getD k .null)) = fun _ => 0 := by
  funext k
  rw [List.getD_eq_getElem?_getD, List.getElem?_replicate]
  split <;> rfl
theorem xrep_J (n : Nat) : (fun k => xJ ((List.replicate n (Value.long 0)).getD k .null)) = fun _ => 0 := by
  funext k
  rw [List.getD_eq_getElem?_getD, List.getElem?_replicate]
  split <;> rfl
theorem xrep_R (n : Nat) : (fun k => xR ad ((List.replicate n Value.null).getD k .null)) = fun _ => none := by
  funext k
  rw [List.getD_eq_getElem?_getD, List.getElem?_replicate]
  split <;> rfl
theorem xnewa_spec {tn : Nat} {v : Value} {o : xO} (hs : xnewa tn v loc st h = some o) : ∃ n r, st = .int n :: r ∧ ¬ n < 0 ∧ n.toNatClampNeg ≤ 60000 ∧ h.length < 1000000 ∧ o = .inl (none, loc, .ref h.length :: r, h ++ [(50 + tn, List.replicate n.toNatClampNeg v)]) := by
  unfold xnewa at hs
  split at hs
  · rename_i n r
    split at hs
    · rename_i hg
      simp only [Bool.and_eq_true, decide_eq_true_eq] at hg
      cases hs
      exact ⟨n, r, rfl, Int32.not_lt.mpr hg.1, hg.2.1, hg.2.2, rfl⟩
    · cases hs
  · cases hs
theorem xo_newarray (hx : p.tables.exec = Jvm.exec) (hb : c.code = cc) (hE : xEnv xs z b0 D tyC ad s) {at0 : ArrayType} {tn : Nat} {v : Value} {a0 : Nat → vp_A} (htn : tn < 7) (harr : (Cond.arrayClass (newarray.typeOf at0)).before args s = true) (hty : newarray.typeOf at0 = xTy tn) (hbyt : componentBytes (xTy tn) ≤ 8) (hv : ∀ m, xsc m v)
    (ha : ∀ (n : Nat) (cA : ClassId), vp_cell cA (a0 n) = arrV cA n (fun _ => defaultValue (xTy tn))) (hcE : ∀ n : Nat, xcE ad tyC (50 + tn, List.replicate n v) = .inl (tyC tn, a0 n)) (hdg : decode cc pc = .ok (.newarray at0, 2)) (hs : xnewa tn v loc st h = some (.inl (t, loc', st', h'))) (hok : xok n0 h loc st) (hroom : cells + (h'.length - h.length) ≤ R.cells ∧ slots + (xsz h' - xsz h) ≤ R.slots) (hR : xRel b0 D tyC ad h s H locs) (hl : lv_has ls nL (xlc ad loc)) (kk : xCont p l e R s m args below meth c Q nL b0 D tyC ad h cells slots (t.getD (pc + 2)) loc' st' h') : W p l e R s m args below meth c H locs cells slots Q (F0 m pc ls (st.map (xcV ad))) := by
  obtain ⟨n, r, rfl, hn, h6, hlt, ho⟩ := xnewa_spec hs
  cases ho
  have hr1 : (h ++ [(50 + tn, List.replicate n.toNatClampNeg v)]).length - h.length = 1 := by simp
  have hr2 : xsz (h ++ [(50 + tn, List.replicate n.toNatClampNeg v)]) - xsz h = n.toNatClampNeg := by rw [xsz_push]; simp
  rw [hr1, hr2] at hroom
  have hby : n.toNatClampNeg * componentBytes (xTy tn) ≤ 536870912 := Nat.le_trans (Nat.mul_le_mul h6 hbyt) (by decide)
  refine va_newa hx hb harr hty hE.2.1 (xcw_P hR.1) (xcw_D hR.2.1 hR.2.2.1) hR.2.2.2 (fun q hq => Nat.le_trans hE.2.2.2.2.2.2.2.2.2 hq) (a0 := a0 n.toNatClampNeg) (ha n.toNatClampNeg) hn rfl hby hroom.1 hroom.2 hdg ?_
  intro q cA H1 hK hP hD hS
  have hcA := xtyC_of htn hE hK
  subst hcA
  rw [← hcE] at hP hD
  exact xpushed (q0 := (50 + tn, List.replicate n.toNatClampNeg v)) (by simp) kk hlt (xok_tail hok) (fun w hw => by rw [List.eq_of_mem_replicate hw]; exact hv _) (by show 50 + tn ≠ 40; omega) hR hl q H1 hP hD hS
theorem xarrC {ty : FieldType} (h : (Cond.arrayClass ty).before #[] s = true) (args : Array Value) : (Cond.arrayClass ty).before args s = true := by
  simpa only [Cond.before, Cond.holds, Cond.value] using h
theorem xo_newarray_b (hx : p.tables.exec = Jvm.exec) (hb : c.code = cc) (hE : xEnv xs z b0 D tyC ad s) (hdg : decode cc pc = .ok (.newarray .byte, 2)) (hs : xnewa 0 (.int 0) loc st h = some (.inl (t, loc', st', h'))) (hok : xok n0 h loc st) (hroom : cells + (h'.length - h.length) ≤ R.cells ∧ slots + (xsz h' - xsz h) ≤ R.slots) (hR : xRel b0 D tyC ad h s H locs) (hl : lv_has ls nL (xlc ad loc)) (kk : xCont p l e R s m args below meth c Q nL b0 D tyC ad h cells slots (t.getD (pc + 2)) loc' st' h') : W p l e R s m args below meth c H locs cells slots Q (F0 m pc ls (st.map (xcV ad))) :=
  xo_newarray (a0 := fun n => (n, .inl fun _ => 0)) (at0 := .byte) (v := .int 0) hx hb hE (by decide) (xarrC (ty := .byte) hE.2.2.2.2.2.2.2.1.1 args) rfl (by decide) (fun _ => trivial) (fun n cA => rfl) (fun n => by rw [xarr (by decide), xarr_b _ _ (by decide), xrep_I, List.length_replicate]) hdg hs hok hroom hR hl kk
theorem xo_newarray_c (hx : p.tables.exec = Jvm.exec) (hb : c.code = cc) (hE : xEnv xs z b0 D tyC ad s) (hdg : decode cc pc = .ok (.newarray .char, 2)) (hs : xnewa 1 (.int 0) loc st h = some (.inl (t, loc', st', h'))) (hok : xok n0 h loc st) (hroom : cells + (h'.length - h.length) ≤ R.cells ∧ slots + (xsz h' - xsz h) ≤ R.slots) (hR : xRel b0 D tyC ad h s H locs) (hl : lv_has ls nL (xlc ad loc)) (kk : xCont p l e R s m args below meth c Q nL b0 D tyC ad h cells slots (t.getD (pc + 2)) loc' st' h') : W p l e R s m args below meth c H locs cells slots Q (F0 m pc ls (st.map (xcV ad))) :=
  xo_newarray (a0 := fun n => (n, .inl fun _ => 0)) (at0 := .char) (v := .int 0) hx hb hE (by decide) (xarrC (ty := .char) hE.2.2.2.2.2.2.2.1.2.1 args) rfl (by decide) (fun _ => trivial) (fun n cA => rfl) (fun n => by rw [xarr (by decide), xarr_b _ _ (by decide), xrep_I, List.length_replicate]) hdg hs hok hroom hR hl kk
theorem xo_newarray_l (hx : p.tables.exec = Jvm.exec) (hb : c.code = cc) (hE : xEnv xs z b0 D tyC ad s) (hdg : decode cc pc = .ok (.newarray .long, 2)) (hs : xnewa 2 (.long 0) loc st h = some (.inl (t, loc', st', h'))) (hok : xok n0 h loc st) (hroom : cells + (h'.length - h.length) ≤ R.cells ∧ slots + (xsz h' - xsz h) ≤ R.slots) (hR : xRel b0 D tyC ad h s H locs) (hl : lv_has ls nL (xlc ad loc)) (kk : xCont p l e R s m args below meth c Q nL b0 D tyC ad h cells slots (t.getD (pc + 2)) loc' st' h') : W p l e R s m args below meth c H locs cells slots Q (F0 m pc ls (st.map (xcV ad))) :=
  xo_newarray (a0 := fun n => (n, .inr (.inl fun _ => 0))) (at0 := .long) (v := .long 0) hx hb hE (by decide) (xarrC (ty := .long) hE.2.2.2.2.2.2.2.1.2.2 args) rfl (by decide) (fun _ => trivial) (fun n cA => rfl) (fun n => by rw [xarr (by decide), show 50 + 2 - 50 = 2 from rfl, xarr_l, xrep_J, List.length_replicate]) hdg hs hok hroom hR hl kk
theorem xo_anewarray (hx : p.tables.exec = Jvm.exec) (hb : c.code = cc) (hown : s.vm.findClass own = some m.cls) (hE : xEnv xs z b0 D tyC ad s) {i tn : Nat} {aux : List Nat} (hk : xbarr own i (tn :: aux) = true) (hdg : decode cc pc = .ok (.anewarray i, 3)) (hs : xnewa tn .null loc st h = some (.inl (t, loc', st', h'))) (hok : xok n0 h loc st) (hroom : cells + (h'.length - h.length) ≤ R.cells ∧ slots + (xsz h' - xsz h) ≤ R.slots) (hR : xRel b0 D tyC ad h s H locs) (hl : lv_has ls nL (xlc ad loc)) (kk : xCont p l e R s m args below meth c Q nL b0 D tyC ad h cells slots (t.getD (pc + 3)) loc' st' h') : W p l e R s m args below meth c H locs cells slots Q (F0 m pc ls (st.map (xcV ad))) := by
  obtain ⟨n, r, rfl, hn, h6, hlt, ho⟩ := xnewa_spec hs
  cases ho
  cases aux with
  | nil => cases hk
  | cons I aux =>
    unfold xbarr at hk
    dsimp only at hk
    simp only [Bool.and_eq_true, decide_eq_true_eq] at hk
    obtain ⟨h3, h66, hk⟩ := hk
    obtain ⟨C, hC, -⟩ := xTy_obj h3 h66
    rw [hC] at hk
    have hr1 : (h ++ [(50 + tn, List.replicate n.toNatClampNeg Value.null)]).length - h.length = 1 := by simp
    have hr2 : xsz (h ++ [(50 + tn, List.replicate n.toNatClampNeg Value.null)]) - xsz h = n.toNatClampNeg := by rw [xsz_push]; simp
    rw [hr1, hr2] at hroom
    have hcE : xcE ad tyC (50 + tn, List.replicate n.toNatClampNeg Value.null) = .inl (tyC tn, n.toNatClampNeg, .inr (.inr (.inr (.inr fun _ => none)))) := by
      rw [xarr (by omega), show 50 + tn - 50 = tn by omega, xarr_q _ _ h3, xrep_R, List.length_replicate]
    refine va_newq hx hb hown (xenv_w hE hk args) (hE.2.2.2.2.2.2.1 tn C h3 h66 hC) hE.2.1 (xcw_P hR.1) (xcw_D hR.2.1 hR.2.2.1) hR.2.2.2 (fun q hq => Nat.le_trans hE.2.2.2.2.2.2.2.2.2 hq) hn rfl (by omega) hroom.1 hroom.2 hdg ?_
    intro q cA H1 hK hP hD hS
    rw [← hC] at hK
    have hcA := xtyC_of (by omega) hE hK
    subst hcA
    rw [← hcE] at hP hD
    exact xpushed (q0 := (50 + tn, List.replicate n.toNatClampNeg Value.null)) (by simp) kk hlt (xok_tail hok) (fun w hw => by rw [List.eq_of_mem_replicate hw]; trivial) (by show 50 + tn ≠ 40; omega) hR hl q H1 hP hD hS
theorem xstr_at (hE : xEnv xs z b0 D tyC ad s) {i j : Nat} {aux : List Nat} (hk : xbldc own i (1 :: j :: aux) = true) : ∃ tx, vk_R own i tx (ad (1000000 + j)) s := by
  unfold xbldc at hk
  simp only [Bool.and_eq_true, decide_eq_true_eq] at hk
  obtain ⟨h20, h2, hk⟩ := hk
  split at hk
  · rename_i o k tx hst
    simp only [Bool.and_eq_true, decide_eq_true_eq] at hk
    obtain ⟨rfl, rfl⟩ := hk
    have h1 := hE.2.2.2.2.1 _ _ _ _ hst
    rw [show 1000020 + 2 * ((j - 20) / 2) = 1000000 + j by omega] at h1
    exact ⟨tx, h1⟩
  · cases hk
theorem xo_ldc (hx : p.tables.exec = Jvm.exec) (hb : c.code = cc) (hown : s.vm.findClass own = some m.cls) (hE : xEnv xs z b0 D tyC ad s) {i k v : Nat} {aux : List Nat} (hk : xbldc own i (k :: v :: aux) = true) (hdg : decode cc pc = .ok (.ldc i, 2)) (hs : xldc loc st h k v = some (.inl (t, loc', st', h'))) (hR : xRel b0 D tyC ad h s H locs) (hl : lv_has ls nL (xlc ad loc)) (kk : xCont p l e R s m args below meth c Q nL b0 D tyC ad h cells slots (t.getD (pc + 2)) loc' st' h') : W p l e R s m args below meth c H locs cells slots Q (F0 m pc ls (st.map (xcV ad))) := by
  unfold xldc at hs
  split at hs
  · cases hs
    cases aux with
    | nil => cases hk
    | cons I aux => exact lv_ldc hx hb hown (xenv_w hE (k := I) (w := .constant own i (Int32.ofNat v)) hk args) hdg (xk0 kk hR hl)
  · cases hs
    obtain ⟨tx, h1⟩ := xstr_at hE hk
    exact va_ldcS hx hb hown h1 hdg (xk0 kk hR hl)
  · cases hs
    cases aux with
    | nil => cases hk
    | cons I aux => exact lv_ldcf hx hb hown (xenv_w hE (k := I) (w := .constantFloat own i (UInt32.ofNat v)) hk args) hdg (xk0 kk hR hl)
  · cases hs
theorem xo_ldcw (hx : p.tables.exec = Jvm.exec) (hb : c.code = cc) (hown : s.vm.findClass own = some m.cls) (hE : xEnv xs z b0 D tyC ad s) {i k v : Nat} {aux : List Nat} (hk : xbldc own i (k :: v :: aux) = true) (hdg : decode cc pc = .ok (.ldc_w i, 3)) (hs : xldw loc st h k v = some (.inl (t, loc', st', h'))) (hR : xRel b0 D tyC ad h s H locs) (hl : lv_has ls nL (xlc ad loc)) (kk : xCont p l e R s m args below meth c Q nL b0 D tyC ad h cells slots (t.getD (pc + 3)) loc' st' h') : W p l e R s m args below meth c H locs cells slots Q (F0 m pc ls (st.map (xcV ad))) := by
  unfold xldw at hs
  split at hs
  · rename_i hk1
    have hk1 := of_decide_eq_true hk1
    subst hk1
    cases hs
    obtain ⟨tx, h1⟩ := xstr_at hE hk
    have key := xk0 kk hR hl
    intro T hT X
    obtain ⟨t1, a1, b1⟩ := key T hT X
    exact ⟨t1, X.ldcStringW hx hown (text := tx) (a := ad (1000000 + v)) h1.1 h1.2 (g := F0 m pc ls (st.map (xcV ad))) rfl (by rw [hb]; exact hdg) t1 a1, b1⟩
  · cases hs
theorem xo_ldc2 (hx : p.tables.exec = Jvm.exec) (hb : c.code = cc) (hown : s.vm.findClass own = some m.cls) (hE : xEnv xs z b0 D tyC ad s) {i k v : Nat} {aux : List Nat} (hk : xbld2 own i (k :: v :: aux) = true) (hdg : decode cc pc = .ok (.ldc2_w i, 3)) (hs : xld2 loc st h k v = some (.inl (t, loc', st', h'))) (hR : xRel b0 D tyC ad h s H locs) (hl : lv_has ls nL (xlc ad loc)) (kk : xCont p l e R s m args below meth c Q nL b0 D tyC ad h cells slots (t.getD (pc + 3)) loc' st' h') : W p l e R s m args below meth c H locs cells slots Q (F0 m pc ls (st.map (xcV ad))) := by
  unfold xld2 at hs
  unfold xbld2 at hk
  split at hk
  · rename_i heq
    cases heq
    rw [decide_eq_true rfl] at hs
    cases hs
    exact lv_ldc2 hx hb hown (xenv_w hE hk args) hdg (xk0 kk hR hl)
  · rename_i heq
    cases heq
    rw [decide_eq_false (by decide)] at hs
    cases hs
    exact lv_ldc2d hx hb hown (xenv_w hE hk args) hdg (xk0 kk hR hl)
  · rename_i heq
    cases heq
  · cases hk
end XU
end
section
/-! CASTS, CLONES, COPIES AND BITS ARE TRUE TO THE MACHINE -/
section XV
variable {p : Program} {l : Launch} {e : Env} {R : Room} {s : State} {m : MethodId} {args : Array Value} {below : List Frame} {meth : Method} {c : Code} {H : Heap} {locs : List Loc} {cells slots : Nat} {Q : State → Prop}
variable {cc : ByteArray} {pc nL : Nat} {n0 : Nat × Nat} {ls : Array Slot} {b0 : Nat} {D : va_G} {tyC : Nat → ClassId} {ad : Nat → Nat} {h h' : xH} {loc loc' : xL} {st st' : List Value} {t : Option Nat}
variable {xs : List Int32} {z : Value} {own : String}
/-- the words of the natives -/
def xFix : List (Nat × Cond) := [(1160, .native arraycopyName), (1159, .static arraycopyName), (50, .initialized "java/lang/System"), (1152, .native ⟨"java/lang/Object", "clone", "()Ljava/lang/Object;"⟩), (1153, .instanceMethod ⟨"java/lang/Object", "clone", "()Ljava/lang/Object;"⟩), (1151, .sameMethod "[B" "java/lang/Object" "clone" "()Ljava/lang/Object;"), (1154, .selects "[B" ⟨"[B", "clone", "()Ljava/lang/Object;"⟩ ⟨"java/lang/Object", "clone", "()Ljava/lang/Object;"⟩), (1155, .castable "[B" "java/lang/Cloneable"), (987, .native ⟨"java/lang/Double", "doubleToRawLongBits", "(D)J"⟩), (986, .static ⟨"java/lang/Double", "doubleToRawLongBits", "(D)J"⟩), (45, .initialized "java/lang/Double"), (1009, .native ⟨"java/lang/Float", "floatToRawIntBits", "(F)I"⟩), (1008, .static ⟨"java/lang/Float", "floatToRawIntBits", "(F)I"⟩), (46, .initialized "java/lang/Float"), (58, .instanceMethod Lib.objectInit), (59, .code Lib.objectInit ⟨#[0xb1]⟩ 1 none)]
theorem xFix_ok : xFix.all (fun q => xwd q.1 q.2) = true := by decide +kernel
theorem xfix_w (hE : xEnv xs z b0 D tyC ad s) (i : Nat) {k : Nat} {w : Cond} (h : xFix[i]? = some (k, w)) (args : Array Value) : w.before args s = true :=
  xenv_w hE (List.all_eq_true.mp xFix_ok _ (List.mem_of_getElem? h)) args
theorem xbytes (hE : xEnv xs z b0 D tyC ad s) : s.vm.findClass "[B" = some (tyC 0) := (hE.2.1.2 0 _ (xtys_at (by decide))).2
theorem xo_cast (hx : p.tables.exec = Jvm.exec) (hb : c.code = cc) (hown : s.vm.findClass own = some m.cls) (hE : xEnv xs z b0 D tyC ad s) {i I : Nat} (hk : xwd I (.classLink own i "[B") = true) (hdg : decode cc pc = .ok (.checkcast i, 3)) (hs : xcast loc st h = some (.inl (t, loc', st', h'))) (hR : xRel b0 D tyC ad h s H locs) (hl : lv_has ls nL (xlc ad loc)) (kk : xCont p l e R s m args below meth c Q nL b0 D tyC ad h cells slots (t.getD (pc + 3)) loc' st' h') : W p l e R s m args below meth c H locs cells slots Q (F0 m pc ls (st.map (xcV ad))) := by
  unfold xcast at hs
  split at hs
  · split at hs
    · split at hs
      · rename_i c0 vs hc
        split at hs
        · rename_i hg
          have hg := of_decide_eq_true hg
          subst hg
          cases hs
          obtain ⟨k0, hk0⟩ := xcw_at (ad := ad) (tyC := tyC) hc (by simp)
          rw [xarr (by decide)] at hk0
          exact va_castA hx hb hown (xenv_w hE hk args) (xcw_P hR.1) k0 hk0 (xbytes hE) hdg (xk0 kk hR hl)
        · cases hs
      · cases hs
    · cases hs
  · cases hs
theorem xsum (ad : Nat → Nat) (r : List Value) : ((r.map (xcV ad)).map fun v => v.category).sum = (r.map fun v => v.category).sum := by
  rw [List.map_map]
  exact congrArg List.sum (List.map_congr_left fun v _ => xcV_cat ad v)
theorem xall_fit {vs : List Value} (h : vs.all (fun v => xfit .byte v) = true) {k : Nat} (hk : k < vs.length) : fits .byte (.int (xI (vs.getD k .null))) = true ∧ xcV ad (vs.getD k .null) = .int (xI (vs.getD k .null)) := by
  have h1 : xfit .byte (vs.getD k .null) = true := by
    rw [List.getD_eq_getElem?_getD, List.getElem?_eq_getElem hk]
    exact List.all_eq_true.mp h _ (List.getElem_mem hk)
  have h2 := xfit_fits h1 ad
  cases hv : vs.getD k .null with
  | int x => rw [hv] at h2; exact ⟨h2, rfl⟩
  | _ => rw [hv] at h1; cases h1
theorem xo_clone (hx : p.tables.exec = Jvm.exec) (hb : c.code = cc) (hml : c.maxLocals = nL) (hown : s.vm.findClass own = some m.cls) (hE : xEnv xs z b0 D tyC ad s) {i I : Nat} (hk : xwd I (.methodLink own i ⟨"[B", "clone", "()Ljava/lang/Object;"⟩) = true) (hdg : decode cc pc = .ok (.invokevirtual i, 3)) (hs : xclone loc st h = some (.inl (t, loc', st', h'))) (hok : xok n0 h loc st) (hfr : 1 ≤ R.frames) (hlo : 100 ≤ R.locals) (hroom : cells + (h'.length - h.length) ≤ R.cells ∧ slots + (xsz h' - xsz h) ≤ R.slots) (hR : xRel b0 D tyC ad h s H locs) (hl : lv_has ls nL (xlc ad loc)) (kk : xCont p l e R s m args below meth c Q nL b0 D tyC ad h cells slots (t.getD (pc + 3)) loc' st' h') : W p l e R s m args below meth c H locs cells slots Q (F0 m pc ls (st.map (xcV ad))) := by
  unfold xclone at hs
  split at hs
  · rename_i a r
    split at hs
    · rename_i hg0
      simp only [Bool.and_eq_true, decide_eq_true_eq] at hg0
      split at hs
      · rename_i c0 vs hc
        split at hs
        · rename_i hg
          simp only [Bool.and_eq_true, decide_eq_true_eq] at hg
          obtain ⟨hg, hall⟩ := hg
          subst hg
          have hok := xok_tail hok
          have hcat := hg0.2.2
          rw [← xsum ad] at hcat
          cases hs
          have hr1 : (h ++ [(50, vs)]).length - h.length = 1 := by simp
          have hr2 : xsz (h ++ [(50, vs)]) - xsz h = vs.length := by rw [xsz_push]; simp
          rw [hr1, hr2] at hroom
          obtain ⟨k0, hk0⟩ := xcw_at (ad := ad) (tyC := tyC) hc (by simp)
          have hcE : xcE ad tyC (50, vs) = .inl (tyC 0, vs.length, .inl fun k => xI (vs.getD k .null)) := rfl
          rw [hcE] at hk0
          refine va_clone hx hb (hml.trans hl.1.symm) hown (xenv_w hE hk args) (xfix_w hE 5 rfl args) (xfix_w hE 3 rfl args) (xfix_w hE 4 rfl args) (xfix_w hE 6 rfl args) (xfix_w hE 7 rfl #[]) hE.2.1 (xcw_P hR.1) (xcw_D hR.2.1 hR.2.2.1) hR.2.2.2 (fun q hq => Nat.le_trans hE.2.2.2.2.2.2.2.2.2 hq) k0 0 hk0 (xtys_at (by decide)) (xbytes hE) ?_ hfr (by omega) hroom.1 hroom.2 hdg ?_
          · intro j v hv
            have hj : j < vs.length := by
              have := (Array.getElem?_eq_some_iff.mp hv).1
              rw [vp_cell_i, arrV_size] at this
              exact this
            rw [vp_cell_i, arrV_read _ _ hj] at hv
            rw [← Option.some.inj hv]
            exact (xall_fit (ad := ad) hall hj).1
          · intro q H1 hK hP hD hS
            rw [← hcE] at hP hD
            exact xpushed (q0 := (50, vs)) rfl kk hg0.2.1 hok (fun v hv => hok.2.1 _ (List.mem_of_getElem? hc) v hv) (by simp) hR hl q H1 hP hD hS
        · cases hs
      · cases hs
    · cases hs
  · cases hs
theorem xcpy_len (f g : List Value) (sp dp n : Nat) : (xcpy f g sp dp n).length = g.length := by simp [xcpy]
theorem xcpy_I {f g : List Value} {sp dp n : Nat} (hd : dp + n ≤ g.length) : (fun k => xI ((xcpy f g sp dp n).getD k .null)) = va_cpy (fun k => xI (f.getD k .null)) (fun k => xI (g.getD k .null)) sp dp n := by
  funext k
  unfold va_cpy
  by_cases hk : k < g.length
  · rw [List.getD_eq_getElem?_getD (l := xcpy f g sp dp n)]
    unfold xcpy
    rw [List.getElem?_map, List.getElem?_range hk]
    show xI (if dp ≤ k ∧ k < dp + n then f.getD (sp + (k - dp)) .null else g.getD k .null) = _
    split <;> rfl
  · rw [List.getD_eq_getElem?_getD (l := xcpy f g sp dp n), List.getElem?_eq_none (by rw [xcpy_len]; omega), if_neg (by omega)]
    show _ = xI (g.getD k .null)
    rw [List.getD_eq_getElem?_getD (l := g), List.getElem?_eq_none (by omega)]
theorem xo_copy (hx : p.tables.exec = Jvm.exec) (hb : c.code = cc) (hml : c.maxLocals = nL) (hown : s.vm.findClass own = some m.cls) (hE : xEnv xs z b0 D tyC ad s) {i I : Nat} (hk : xwd I (.methodLink own i arraycopyName) = true) (hdg : decode cc pc = .ok (.invokestatic i, 3)) (hs : xcopy (xK xs) loc st h = some (.inl (t, loc', st', h'))) (hfr : 1 ≤ R.frames) (hlo : 100 ≤ R.locals) (hR : xRel b0 D tyC ad h s H locs) (hl : lv_has ls nL (xlc ad loc)) (kk : xCont p l e R s m args below meth c Q nL b0 D tyC ad h cells slots (t.getD (pc + 3)) loc' st' h') : W p l e R s m args below meth c H locs cells slots Q (F0 m pc ls (st.map (xcV ad))) := by
  unfold xcopy at hs
  split at hs
  · rename_i n dp a sp b r
    split at hs
    · rename_i hg0
      simp only [Bool.and_eq_true, decide_eq_true_eq, Bool.not_eq_true', decide_eq_false_iff_not] at hg0
      split at hs
      · rename_i c0 g d f hc hd
        split at hs
        · rename_i hg
          simp only [Bool.and_eq_true, decide_eq_true_eq] at hg
          obtain ⟨rfl, rfl, hn, hsp, hdp, h4, h5, hall⟩ := hg
          have hcat := hg0.2.2
          rw [← xsum ad] at hcat
          cases hs
          have hw : nativeFrameWords "java/lang/System" "arraycopy" 5 + 11 ≤ 90 := by decide
          obtain ⟨k0, hk0⟩ := xcw_at (ad := ad) (tyC := tyC) hc (by simp)
          have hcE : ∀ vs : List Value, xcE ad tyC (50, vs) = .inl (tyC 0, vs.length, .inl fun k => xI (vs.getD k .null)) := fun _ => rfl
          have fin : ∀ (H1 : Heap) (locs1 : List Loc), va_P D vwCl ((xcw ad tyC h).set k0 (ad a, .inl (tyC 0, g.length, .inl (va_cpy (fun k => xI (f.getD k .null)) (fun k => xI (g.getD k .null)) sp.toNatClampNeg dp.toNatClampNeg n.toNatClampNeg)))) H1 → va_D (fun q => b0 ≤ q) ((xcw ad tyC h).set k0 (ad a, .inl (tyC 0, g.length, .inl (va_cpy (fun k => xI (f.getD k .null)) (fun k => xI (g.getD k .null)) sp.toNatClampNeg dp.toNatClampNeg n.toNatClampNeg)))) → va_S (fun q => b0 ≤ q) s.heap H1 locs1 → W p l e R s m args below meth c H1 locs1 cells slots Q (F0 m (pc + 3) ls (st'.map (xcV ad))) := by
            intro H1 locs1 hP1 _ hS1
            rw [← xcpy_I h5, ← xcpy_len f g sp.toNatClampNeg dp.toNatClampNeg n.toNatClampNeg, ← hcE] at hP1
            exact xk1 kk hc (xcpy_len _ _ _ _ _) ⟨xset hR.2.1 hc (by simp) hk0 hP1, xinj_set hR.2.1 hc (by simp), xbd_set hR.2.2.1 hc (by simp), hS1⟩ hl
          rw [hcE] at hk0
          by_cases hb6 : b < 1000000
          · have hd := xcell_h hd hb6
            obtain ⟨k1, hk1⟩ := xcw_at (ad := ad) (tyC := tyC) hd (by simp)
            rw [hcE] at hk1
            exact va_copyi hx hb (hml.trans hl.1.symm) hown (xenv_w hE hk args) (xfix_w hE 0 rfl args) (xfix_w hE 1 rfl args) (xfix_w hE 2 rfl args) hE.2.1 (xcw_P hR.1) (xcw_D hR.2.1 hR.2.2.1) hR.2.2.2 k1 k0 0 0 hk1 hk0 (xtys_at (by decide)) (xtys_at (by decide)) rfl (Int32.not_lt.mpr hsp) (Int32.not_lt.mpr hdp) (Int32.not_lt.mpr hn) h4 h5 (fun j hj => (xall_fit (ad := ad) hall (by omega)).1) hfr (by omega) hdg fin
          · obtain ⟨hd, haq⟩ := xcell_k hd hb6
            have h1 := (hE.2.2.2.1 _ _ _ hd).2.1 (by decide)
            rw [haq] at h1
            have h2 : va_T .byte (ad b) f.length (fun j => .int (xI (f.getD j .null))) (fun q => b0 ≤ q) s s.heap := by
              obtain ⟨cell, g1, g2, g3, g4, g5, g6, g7⟩ := h1
              refine ⟨cell, g1, g2, g3, g4, g5, fun j hj => ?_, g7⟩
              rw [g6 j hj]
              exact congrArg some (xall_fit (ad := ad) hall hj).2
            exact vk_copyt hx hb (hml.trans hl.1.symm) hown (xenv_w hE hk args) (xfix_w hE 0 rfl args) (xfix_w hE 1 rfl args) (xfix_w hE 2 rfl args) hE.2.1 (xcw_P hR.1) (xcw_D hR.2.1 hR.2.2.1) hR.2.2.2 h2 k0 0 hk0 (xtys_at (by decide)) (Int32.not_lt.mpr hsp) (Int32.not_lt.mpr hdp) (Int32.not_lt.mpr hn) h4 h5 (fun j hj => (xall_fit (ad := ad) hall (by omega)).1) hfr (by omega) hdg fin
        · cases hs
      · cases hs
    · cases hs
  · cases hs
theorem xf1_spec {f : Value → Option Value} {o : xO} (hs : xf1 f loc st h = some o) : ∃ v r w, st = v :: r ∧ f v = some w ∧ (r.map fun v => v.category).sum ≤ 8 ∧ o = .inl (none, loc, w :: r, h) := by
  unfold xf1 at hs
  split at hs
  · split at hs
    · rename_i w hw
      split at hs
      · rename_i hg
        cases hs
        exact ⟨_, _, w, rfl, hw, of_decide_eq_true hg, rfl⟩
      · cases hs
    · cases hs
  · cases hs
theorem xo_d2l (hx : p.tables.exec = Jvm.exec) (hb : c.code = cc) (hml : c.maxLocals = nL) (hown : s.vm.findClass own = some m.cls) (hE : xEnv xs z b0 D tyC ad s) {i I : Nat} (hk : xwd I (.methodLink own i ⟨"java/lang/Double", "doubleToRawLongBits", "(D)J"⟩) = true) (hdg : decode cc pc = .ok (.invokestatic i, 3)) (hs : xf1 xd2l loc st h = some (.inl (t, loc', st', h'))) (hfr : 1 ≤ R.frames) (hlo : 100 ≤ R.locals) (hR : xRel b0 D tyC ad h s H locs) (hl : lv_has ls nL (xlc ad loc)) (kk : xCont p l e R s m args below meth c Q nL b0 D tyC ad h cells slots (t.getD (pc + 3)) loc' st' h') : W p l e R s m args below meth c H locs cells slots Q (F0 m pc ls (st.map (xcV ad))) := by
  obtain ⟨v, r, w, rfl, hf, hcat, ho⟩ := xf1_spec hs
  rw [← xsum ad] at hcat
  cases v <;> first | (cases hf; done) | skip
  cases hf
  cases ho
  exact vn_d2l hx hb (hml.trans hl.1.symm) hown (xenv_w hE hk args) (xfix_w hE 8 rfl args) (xfix_w hE 9 rfl args) (xfix_w hE 10 rfl args) hfr (by omega) hdg (xk0 kk hR hl)
theorem xo_f2i (hx : p.tables.exec = Jvm.exec) (hb : c.code = cc) (hml : c.maxLocals = nL) (hown : s.vm.findClass own = some m.cls) (hE : xEnv xs z b0 D tyC ad s) {i I : Nat} (hk : xwd I (.methodLink own i ⟨"java/lang/Float", "floatToRawIntBits", "(F)I"⟩) = true) (hdg : decode cc pc = .ok (.invokestatic i, 3)) (hs : xf1 xf2i loc st h = some (.inl (t, loc', st', h'))) (hfr : 1 ≤ R.frames) (hlo : 100 ≤ R.locals) (hR : xRel b0 D tyC ad h s H locs) (hl : lv_has ls nL (xlc ad loc)) (kk : xCont p l e R s m args below meth c Q nL b0 D tyC ad h cells slots (t.getD (pc + 3)) loc' st' h') : W p l e R s m args below meth c H locs cells slots Q (F0 m pc ls (st.map (xcV ad))) := by
  obtain ⟨v, r, w, rfl, hf, hcat, ho⟩ := xf1_spec hs
  rw [← xsum ad] at hcat
  cases v <;> first | (cases hf; done) | skip
  cases hf
  cases ho
  exact vn_f2i hx hb (hml.trans hl.1.symm) hown (xenv_w hE hk args) (xfix_w hE 11 rfl args) (xfix_w hE 12 rfl args) (xfix_w hE 13 rfl args) hfr (by omega) hdg (xk0 kk hR hl)
theorem xo_oinit (hx : p.tables.exec = Jvm.exec) (hb : c.code = cc) (hml : c.maxLocals = nL) (hown : s.vm.findClass own = some m.cls) (hE : xEnv xs z b0 D tyC ad s) {i I : Nat} (hk : xwd I (.methodLink own i Lib.objectInit) = true) {a : Nat} {r : List Value} (hcat : (r.map fun v => v.category).sum ≤ 8) (hdg : decode cc pc = .ok (.invokespecial i, 3)) (hfr : 1 ≤ R.frames) (hlo : 100 ≤ R.locals) (hR : xRel b0 D tyC ad h s H locs) (hl : lv_has ls nL (xlc ad loc)) (kk : xCont p l e R s m args below meth c Q nL b0 D tyC ad h cells slots (pc + 3) loc r h) : W p l e R s m args below meth c H locs cells slots Q (F0 m pc ls ((.ref a :: r).map (xcV ad))) := by
  rw [← xsum ad] at hcat
  exact W.objInit hx hb hown (xenv_w hE hk args) (xfix_w hE 14 rfl args) (xfix_w hE 15 rfl args) rfl (hl.1.trans hml.symm) rfl hdg hfr (by show 2 * 0 + _ + _ ≤ _; omega) (xk0 kk hR hl)
end XV
end
section
/-! WHAT A METHOD'S TABLE MUST SAY, AND THAT IT DOES -/
def xnp (y : MethodName) (n : Nat) : Bool := decide ((parseMethodDescriptor y.desc).map (fun d => d.parameters.length) = some n)
def xmh (y : MethodName) : Bool := decide (y.cls ≠ "java/lang/invoke/MethodHandle") && decide (y.cls ≠ "java/lang/invoke/VarHandle")
def xcw0 (M : xMi) : Cond := match M.2.2.2.2.1 with
  | [] => .code M.1 M.2.1 M.2.2.1 M.2.2.2.1
  | h :: t => .codeWith M.1 M.2.1 M.2.2.1 M.2.2.2.1 (h :: t)
def xbeq (a b : ByteArray) : Bool := decide (a.data.toList = b.data.toList)
theorem xbeq_eq {a b : ByteArray} (h : xbeq a b = true) : a = b := by
  have h := of_decide_eq_true h
  cases a; cases b
  exact congrArg ByteArray.mk (Array.toList_inj.mp h)
/-- the word of a method's code -/
def xwc (k : Nat) (M : xMi) : Bool := match xWd k with
  | some (.code y b n r) => M.2.2.2.2.1.isEmpty && (decide (y = M.1) && (xbeq b M.2.1 && (decide (n = M.2.2.1) && decide (r = M.2.2.2.1))))
  | some (.codeWith y b n r hh) => !M.2.2.2.2.1.isEmpty && (decide (hh = M.2.2.2.2.1) && (decide (y = M.1) && (xbeq b M.2.1 && (decide (n = M.2.2.1) && decide (r = M.2.2.2.1)))))
  | _ => false
theorem xwc_wd {k : Nat} {M : xMi} (h : xwc k M = true) : xwd k (xcw0 M) = true := by
  obtain ⟨y, b, n, r, hh, E, cs⟩ := M
  unfold xwc at h
  unfold xwd
  rcases hh with _ | ⟨a, t⟩
  · split at h
    · rename_i h0
      simp only [Bool.and_eq_true, decide_eq_true_eq] at h
      obtain ⟨-, rfl, h2, rfl, rfl⟩ := h
      cases xbeq_eq h2
      rw [h0]
      exact (Bool.and_eq_true _ _).mpr ⟨decide_eq_true rfl, rfl⟩
    · cases h
    · cases h
  · split at h
    · cases h
    · rename_i h0
      simp only [Bool.and_eq_true, decide_eq_true_eq] at h
      obtain ⟨-, rfl, rfl, h2, rfl, rfl⟩ := h
      cases xbeq_eq h2
      rw [h0]
      exact (Bool.and_eq_true _ _).mpr ⟨decide_eq_true rfl, rfl⟩
    · cases h
/-- the class of a kind of receivers -/
def xrcn (rc : Nat) (C : String) : Bool := match decide (rc = 45) with
  | true => decide (C = "RiverReaches$Kind")
  | false => match vwCl[rc]? with
    | some (D, _, _) => decide (C = D)
    | none => false
def xUx (U : Nat) : String := match U with
  | 0 => "java/lang/AbstractStringBuilder"
  | _ => "RiverReaches$Kind"
def xUo (U : Nat) : String := match U with
  | 0 => "java/lang/AbstractStringBuilder"
  | _ => "java/lang/Enum"
def xUc (U : Nat) : String := match U with
  | 0 => "java/lang/StringBuilder"
  | _ => "RiverReaches$Kind"
def xP0 (P : List Nat) (i : Nat) : Nat := P.getD i 4999
def xbvirt (own : String) (i : Nat) (aux : List Nat) : Bool := match aux with
  | [] => true
  | k :: r => match decide (k = 9) with
    | true => match r with
      | I :: _ => xwd I (.methodLink own i ⟨"[B", "clone", "()Ljava/lang/Object;"⟩)
      | [] => false
    | false => match r with
      | mi :: n :: I :: r => match xMs[mi]?, xPs[mi]? with
        | some M, some P => decide (M.2.2.2.2.1 = []) && (decide (0 < n) && (xnp M.1 (n - 1) && (xwd (xP0 P 2) (.instanceMethod M.1) && match decide (k = 0) with
          | true => match r with
            | rc :: _ => xwd I (.methodLink own i M.1) && (xwd (xP0 P 4) (.selects M.1.cls M.1 M.1) && xrcn rc M.1.cls)
            | [] => false
          | false => match r with
            | U :: J :: S :: mo :: _ => match xMs[mo]?, xPs[mo]? with
              | some Mo, some Po => decide (k = 3) && (decide (Mo.1 = ⟨xUo U, M.1.name, M.1.desc⟩) && (decide (Mo.2.2.2.2.1 = []) && (xwd (xP0 Po 2) (.instanceMethod Mo.1) && (xwc (xP0 Po 0) Mo && (xwd I (.methodLink own i ⟨xUx U, M.1.name, M.1.desc⟩) && (xwd J (.sameMethod (xUx U) (xUo U) M.1.name M.1.desc) && (xwd S (.selects (xUc U) ⟨xUx U, M.1.name, M.1.desc⟩ M.1) && decide (U ≤ 1))))))))
              | _, _ => false
            | _ => false)))
        | none, none => true
        | _, _ => false
      | _ => true
def xbstat (own : String) (i : Nat) (aux : List Nat) : Bool := match aux with
  | [] => true
  | k :: r => match decide (k = 8) with
    | true => match r with
      | I :: _ => xwd I (.methodLink own i arraycopyName)
      | [] => false
    | false => match decide (k = 10) with
      | true => match r with
        | I :: _ => xwd I (.methodLink own i ⟨"java/lang/Double", "doubleToRawLongBits", "(D)J"⟩)
        | [] => false
      | false => match decide (k = 11) with
        | true => match r with
          | I :: _ => xwd I (.methodLink own i ⟨"java/lang/Float", "floatToRawIntBits", "(F)I"⟩)
          | [] => false
        | false => match r with
          | mi :: n :: r => match xMs[mi]?, xPs[mi]? with
            | some M, some P => xnp M.1 n && (xwd (xP0 P 3) (.static M.1) && match r with
              | I :: _ => match decide (k = 1) with
                | true => xwd I (.methodLink own i M.1)
                | false => decide (k = 6) && (decide (M.2.2.2.2.1 = []) && xwd I (.methodLinkNest own i M.1 "RiverReaches"))
              | [] => false)
            | none, none => true
            | _, _ => false
          | _ => true
def xbspec (own : String) (i : Nat) (aux : List Nat) : Bool := match aux with
  | [] => true
  | k :: r => match decide (k = 7) with
    | true => match r with
      | I :: _ => xwd I (.methodLink own i Lib.objectInit)
      | [] => false
    | false => match r with
      | mi :: n :: r => match xMs[mi]?, xPs[mi]? with
        | some M, some P => decide (0 < n) && (xnp M.1 (n - 1) && (decide (M.2.2.2.2.1 = []) && (xwd (xP0 P 2) (.instanceMethod M.1) && match r with
          | I :: r => match decide (k = 4) with
            | true => match r with
              | J :: S :: _ => xwd I (.methodLink own i M.1) && (xwd J (.sameMethod M.1.cls M.1.cls M.1.name M.1.desc) && (xwd S (.superclass own M.1.cls) && decide (M.1.name ≠ "<init>")))
              | _ => false
            | false => decide (M.1.name = "<init>") && (decide (M.2.2.2.1 = none) && match decide (k = 2) with
              | true => xwd I (.methodLink own i M.1)
              | false => decide (k = 5) && xwd I (.methodLinkNest own i M.1 "RiverReaches"))
          | [] => false)))
        | none, none => true
        | _, _ => false
      | _ => true
/-- 'new; dup; invokespecial; athrow' -/
def xbthr (own : String) (bytes : ByteArray) (e : xE) : Bool := match e.2.2.2 with
  | 1 :: E :: _ :: _ :: ic :: _ => decide ((own, ic, E) ∈ xThr) && (decide (decode bytes (e.1 + 3) = .ok (.dup, 1)) && (decide (decode bytes (e.1 + 4) = .ok (.invokespecial ic, 3)) && decide (decode bytes (e.1 + 7) = .ok (.athrow, 1))))
  | _ => true
def xisNew (e : xE) : Bool := match e.2.2.2 with
  | 1 :: _ => true
  | _ => false
/-- an instruction's entry; hh: has the method handlers -/
def xchk (y : MethodName) (bytes : ByteArray) (hh : Bool) (e : xE) : Bool := decide (decode bytes e.1 = .ok (e.2.1, e.2.2.1)) && (xlen e.2.1 e.2.2.1 && match e.2.1 with
  | .getfield i => xbfld y.cls i e.2.2.2
  | .putfield i => xbput y i e.2.2.2
  | .getstatic i => xbsta y.cls i e.2.2.2
  | .new i => xbnew y.cls i e.2.2.2 && (xbthr y.cls bytes e && (!hh || !xisNew e))
  | .anewarray i => xbarr y.cls i e.2.2.2
  | .ldc i => xbldc y.cls i e.2.2.2
  | .ldc_w i => xbldc y.cls i e.2.2.2
  | .ldc2_w i => xbld2 y.cls i e.2.2.2
  | .checkcast i => match e.2.2.2 with
    | I :: _ => xwd I (.classLink y.cls i "[B")
    | [] => true
  | .ifCond _ o => decide (0 ≤ (e.1 : Int) + o)
  | .if_icmp _ o => decide (0 ≤ (e.1 : Int) + o)
  | .invokevirtual i => xbvirt y.cls i e.2.2.2
  | .invokestatic i => xbstat y.cls i e.2.2.2
  | .invokespecial i => xbspec y.cls i e.2.2.2
  | _ => true)
/-- the instructions lie one behind another -/
def xchain : List xE → Bool
  | [] => true
  | [_] => true
  | e :: f :: r => decide (f.1 = e.1 + e.2.2.1) && xchain (f :: r)
/-- the handlers' words -/
def xbhs (own : String) : List (Nat × Nat × Nat × Nat) → List Nat → List Nat → Bool
  | [], [], _ => true
  | (_, _, _, ct) :: hh, E :: Es, I :: Is => (match xEx[E]? with
    | some X => decide (ct ≠ 0) && xwd I (.classLink own ct X)
    | none => false) && xbhs own hh Es Is
  | _, _, _ => false
def xbm (M : xMi) (P : List Nat) : Bool := xwc (xP0 P 0) M && (xwd (xP0 P 1) (.initialized M.1.cls) && (xmh M.1 && (plainFor M.1 && (decide (M.2.2.1 ≤ 21) && (xchain M.2.2.2.2.2.2 && (decide ((M.2.2.2.2.2.2.map fun e => e.1).head? = some 0) && (xbhs M.1.cls M.2.2.2.2.1 M.2.2.2.2.2.1 (P.drop 5) && M.2.2.2.2.2.2.all (xchk M.1 M.2.1 (!M.2.2.2.2.1.isEmpty)))))))))
theorem xPs_len : xMs.length = xPs.length := by decide +kernel
theorem xthr_ok : xThr.all (fun q => match xEx[q.2.2]? with
  | some X => Bundle.fit X && (vx_at0 q.1 q.2.1 X ["java/lang/RuntimeException", "java/lang/Exception"]).all (fun w => decide (w ∈ lw_tbl) && xgd w)
  | none => false) = true := by decide +kernel
theorem xcast_ok : xEx.all (fun X => decide (Cond.castable X X ∈ lw_tbl)) = true := by decide +kernel
/-- the law's own table -/
theorem xlaw_ok : (xcL_law.all (xchk yL_law code false) && xchain xcL_law) = true := by decide +kernel
end
section
/-! EVERY METHOD'S TABLE IS CHECKED, IN PIECES -/
theorem xall_split {α : Type} {l : List α} {f : α → Bool} (a n : Nat) (h1 : ((l.drop a).take n).all f = true) (h2 : (l.drop (a + n)).all f = true) : (l.drop a).all f = true := by
  rw [← List.drop_drop] at h2
  rw [← List.take_append_drop n (l.drop a), List.all_append, h1, h2]
  rfl
theorem xbm_0 : (((xMs.zip xPs).drop 0).take 9).all (fun q => xbm q.1 q.2) = true := by decide +kernel
theorem xbm_9 : (((xMs.zip xPs).drop 9).take 8).all (fun q => xbm q.1 q.2) = true := by decide +kernel
theorem xbm_17 : (((xMs.zip xPs).drop 17).take 4).all (fun q => xbm q.1 q.2) = true := by decide +kernel
theorem xbm_21 : (((xMs.zip xPs).drop 21).take 2).all (fun q => xbm q.1 q.2) = true := by decide +kernel
theorem xbm_23 : (((xMs.zip xPs).drop 23).take 3).all (fun q => xbm q.1 q.2) = true := by decide +kernel
theorem xbm_26 : (((xMs.zip xPs).drop 26).take 3).all (fun q => xbm q.1 q.2) = true := by decide +kernel
theorem xbm_29 : (((xMs.zip xPs).drop 29).take 3).all (fun q => xbm q.1 q.2) = true := by decide +kernel
theorem xbm_32 : (((xMs.zip xPs).drop 32).take 3).all (fun q => xbm q.1 q.2) = true := by decide +kernel
theorem xbm_35 : (((xMs.zip xPs).drop 35).take 1).all (fun q => xbm q.1 q.2) = true := by decide +kernel
theorem xbm_36 : (((xMs.zip xPs).drop 36).take 1).all (fun q => xbm q.1 q.2) = true := by decide +kernel
theorem xbm_37 : (((xMs.zip xPs).drop 37).take 3).all (fun q => xbm q.1 q.2) = true := by decide +kernel
theorem xbm_40 : (((xMs.zip xPs).drop 40).take 3).all (fun q => xbm q.1 q.2) = true := by decide +kernel
theorem xbm_43 : (((xMs.zip xPs).drop 43).take 3).all (fun q => xbm q.1 q.2) = true := by decide +kernel
theorem xbm_46 : (((xMs.zip xPs).drop 46).take 6).all (fun q => xbm q.1 q.2) = true := by decide +kernel
theorem xbm_52 : (((xMs.zip xPs).drop 52).take 2).all (fun q => xbm q.1 q.2) = true := by decide +kernel
theorem xbm_54 : (((xMs.zip xPs).drop 54).take 4).all (fun q => xbm q.1 q.2) = true := by decide +kernel
theorem xbm_58 : (((xMs.zip xPs).drop 58).take 3).all (fun q => xbm q.1 q.2) = true := by decide +kernel
theorem xbm_61 : (((xMs.zip xPs).drop 61).take 7).all (fun q => xbm q.1 q.2) = true := by decide +kernel
theorem xbm_68 : (((xMs.zip xPs).drop 68).take 11).all (fun q => xbm q.1 q.2) = true := by decide +kernel
theorem xbm_79 : (((xMs.zip xPs).drop 79).take 8).all (fun q => xbm q.1 q.2) = true := by decide +kernel
theorem xbm_87 : (((xMs.zip xPs).drop 87).take 5).all (fun q => xbm q.1 q.2) = true := by decide +kernel
theorem xbm_92 : (((xMs.zip xPs).drop 92).take 6).all (fun q => xbm q.1 q.2) = true := by decide +kernel
theorem xbm_98 : (((xMs.zip xPs).drop 98).take 2).all (fun q => xbm q.1 q.2) = true := by decide +kernel
theorem xbm_100 : (((xMs.zip xPs).drop 100).take 3).all (fun q => xbm q.1 q.2) = true := by decide +kernel
theorem xbm_103 : (((xMs.zip xPs).drop 103).take 7).all (fun q => xbm q.1 q.2) = true := by decide +kernel
theorem xbm_110 : (((xMs.zip xPs).drop 110).take 3).all (fun q => xbm q.1 q.2) = true := by decide +kernel
theorem xbm_113 : (((xMs.zip xPs).drop 113).take 8).all (fun q => xbm q.1 q.2) = true := by decide +kernel
theorem xbm_121 : (((xMs.zip xPs).drop 121).take 3).all (fun q => xbm q.1 q.2) = true := by decide +kernel
theorem xbm_124 : (((xMs.zip xPs).drop 124).take 3).all (fun q => xbm q.1 q.2) = true := by decide +kernel
theorem xbm_127 : (((xMs.zip xPs).drop 127).take 6).all (fun q => xbm q.1 q.2) = true := by decide +kernel
theorem xbm_133 : (((xMs.zip xPs).drop 133).take 7).all (fun q => xbm q.1 q.2) = true := by decide +kernel
theorem xbm_140 : (((xMs.zip xPs).drop 140).take 2).all (fun q => xbm q.1 q.2) = true := by decide +kernel
theorem xbm_142 : (((xMs.zip xPs).drop 142).take 6).all (fun q => xbm q.1 q.2) = true := by decide +kernel
theorem xbm_148 : (((xMs.zip xPs).drop 148).take 10).all (fun q => xbm q.1 q.2) = true := by decide +kernel
theorem xbm_158 : (((xMs.zip xPs).drop 158).take 11).all (fun q => xbm q.1 q.2) = true := by decide +kernel
theorem xbm_169 : (((xMs.zip xPs).drop 169).take 4).all (fun q => xbm q.1 q.2) = true := by decide +kernel
theorem xbm_173 : (((xMs.zip xPs).drop 173).take 5).all (fun q => xbm q.1 q.2) = true := by decide +kernel
theorem xbm_178 : (((xMs.zip xPs).drop 178).take 3).all (fun q => xbm q.1 q.2) = true := by decide +kernel
theorem xbm_181 : (((xMs.zip xPs).drop 181).take 4).all (fun q => xbm q.1 q.2) = true := by decide +kernel
theorem xbm_185 : (((xMs.zip xPs).drop 185).take 5).all (fun q => xbm q.1 q.2) = true := by decide +kernel
theorem xbm_190 : (((xMs.zip xPs).drop 190).take 5).all (fun q => xbm q.1 q.2) = true := by decide +kernel
theorem xbm_195 : (((xMs.zip xPs).drop 195).take 10).all (fun q => xbm q.1 q.2) = true := by decide +kernel
theorem xbm_205 : (((xMs.zip xPs).drop 205).take 11).all (fun q => xbm q.1 q.2) = true := by decide +kernel
theorem xbm_216 : (((xMs.zip xPs).drop 216).take 12).all (fun q => xbm q.1 q.2) = true := by decide +kernel
theorem xbm_228 : (((xMs.zip xPs).drop 228).take 11).all (fun q => xbm q.1 q.2) = true := by decide +kernel
theorem xbm_239 : (((xMs.zip xPs).drop 239).take 1).all (fun q => xbm q.1 q.2) = true := by decide +kernel
theorem xbm_240 : (((xMs.zip xPs).drop 240).take 1).all (fun q => xbm q.1 q.2) = true := by decide +kernel
theorem xbm_241 : (((xMs.zip xPs).drop 241).take 1).all (fun q => xbm q.1 q.2) = true := by decide +kernel
theorem xbm_242 : (((xMs.zip xPs).drop 242).take 1).all (fun q => xbm q.1 q.2) = true := by decide +kernel
def xM243 : xMi := (yL_thrown, cL_thrown, 8, (some .boolean), [], [], xcL_thrown)
theorem xbm_of {M : xMi} {P : List Nat} (h1 : xbm (M.1, M.2.1, M.2.2.1, M.2.2.2.1, M.2.2.2.2.1, M.2.2.2.2.2.1, [M.2.2.2.2.2.2.headD (0, .return_, 0, [])]) P = true) (h0 : xchain M.2.2.2.2.2.2 = true) (h3 : M.2.2.2.2.2.2.isEmpty = false) (h2 : M.2.2.2.2.2.2.all (xchk M.1 M.2.1 (!M.2.2.2.2.1.isEmpty)) = true) : xbm M P = true := by
  obtain ⟨y, c, n, r, hh, E, cs⟩ := M
  cases cs with
  | nil => cases h3
  | cons e cs =>
    unfold xbm at h1 ⊢
    simp only [Bool.and_eq_true] at h1 ⊢
    obtain ⟨a1, a2, a3, a4, a5, a6, a7, a8, a9⟩ := h1
    exact ⟨a1, a2, a3, a4, a5, h0, a7, a8, h2⟩
theorem xth_0 : ((xcL_thrown.drop 0).take 60).all (xchk yL_thrown cL_thrown false) = true := by decide +kernel
theorem xth_60 : ((xcL_thrown.drop 60).take 60).all (xchk yL_thrown cL_thrown false) = true := by decide +kernel
theorem xth_120 : ((xcL_thrown.drop 120).take 60).all (xchk yL_thrown cL_thrown false) = true := by decide +kernel
theorem xth_180 : ((xcL_thrown.drop 180).take 60).all (xchk yL_thrown cL_thrown false) = true := by decide +kernel
theorem xth_240 : ((xcL_thrown.drop 240).take 60).all (xchk yL_thrown cL_thrown false) = true := by decide +kernel
theorem xth_300 : ((xcL_thrown.drop 300).take 60).all (xchk yL_thrown cL_thrown false) = true := by decide +kernel
theorem xth_360 : ((xcL_thrown.drop 360).take 60).all (xchk yL_thrown cL_thrown false) = true := by decide +kernel
theorem xth_420 : ((xcL_thrown.drop 420).take 60).all (xchk yL_thrown cL_thrown false) = true := by decide +kernel
theorem xth_480 : ((xcL_thrown.drop 480).take 60).all (xchk yL_thrown cL_thrown false) = true := by decide +kernel
theorem xth_540 : ((xcL_thrown.drop 540).take 60).all (xchk yL_thrown cL_thrown false) = true := by decide +kernel
theorem xtz_600 : (xcL_thrown.drop 600).all (xchk yL_thrown cL_thrown false) = true := by decide +kernel
theorem xtz_540 : (xcL_thrown.drop 540).all (xchk yL_thrown cL_thrown false) = true := xall_split 540 60 xth_540 xtz_600
theorem xtz_480 : (xcL_thrown.drop 480).all (xchk yL_thrown cL_thrown false) = true := xall_split 480 60 xth_480 xtz_540
theorem xtz_420 : (xcL_thrown.drop 420).all (xchk yL_thrown cL_thrown false) = true := xall_split 420 60 xth_420 xtz_480
theorem xtz_360 : (xcL_thrown.drop 360).all (xchk yL_thrown cL_thrown false) = true := xall_split 360 60 xth_360 xtz_420
theorem xtz_300 : (xcL_thrown.drop 300).all (xchk yL_thrown cL_thrown false) = true := xall_split 300 60 xth_300 xtz_360
theorem xtz_240 : (xcL_thrown.drop 240).all (xchk yL_thrown cL_thrown false) = true := xall_split 240 60 xth_240 xtz_300
theorem xtz_180 : (xcL_thrown.drop 180).all (xchk yL_thrown cL_thrown false) = true := xall_split 180 60 xth_180 xtz_240
theorem xtz_120 : (xcL_thrown.drop 120).all (xchk yL_thrown cL_thrown false) = true := xall_split 120 60 xth_120 xtz_180
theorem xtz_60 : (xcL_thrown.drop 60).all (xchk yL_thrown cL_thrown false) = true := xall_split 60 60 xth_60 xtz_120
theorem xtz_0 : (xcL_thrown.drop 0).all (xchk yL_thrown cL_thrown false) = true := xall_split 0 60 xth_0 xtz_60
theorem xM243_c : xM243.2.2.2.2.2.2 = xcL_thrown := rfl
theorem xbm_243h : xM243.2.2.2.2.2.2.all (xchk xM243.1 xM243.2.1 (!xM243.2.2.2.2.1.isEmpty)) = true := by
  rw [xM243_c]
  have h := xtz_0
  rw [List.drop_zero] at h
  exact h
set_option maxHeartbeats 4000000 in
theorem xbm_243a : xbm xM243 [1407, 15, 0, 1406, 0] = true := by
  refine xbm_of ?_ ?_ ?_ xbm_243h
  · decide +kernel
  · decide +kernel
  · decide +kernel
theorem xbm_243z : ((xMs.zip xPs).drop 243).take 1 = [(xM243, [1407, 15, 0, 1406, 0])] := rfl
theorem xbm_243 : (((xMs.zip xPs).drop 243).take 1).all (fun q => xbm q.1 q.2) = true := by
  rw [xbm_243z, List.all_cons, xbm_243a]
  rfl
theorem xbz_244 : ((xMs.zip xPs).drop 244).all (fun q => xbm q.1 q.2) = true := by decide +kernel
theorem xbz_243 : ((xMs.zip xPs).drop 243).all (fun q => xbm q.1 q.2) = true := xall_split 243 1 xbm_243 xbz_244
theorem xbz_242 : ((xMs.zip xPs).drop 242).all (fun q => xbm q.1 q.2) = true := xall_split 242 1 xbm_242 xbz_243
theorem xbz_241 : ((xMs.zip xPs).drop 241).all (fun q => xbm q.1 q.2) = true := xall_split 241 1 xbm_241 xbz_242
theorem xbz_240 : ((xMs.zip xPs).drop 240).all (fun q => xbm q.1 q.2) = true := xall_split 240 1 xbm_240 xbz_241
theorem xbz_239 : ((xMs.zip xPs).drop 239).all (fun q => xbm q.1 q.2) = true := xall_split 239 1 xbm_239 xbz_240
theorem xbz_228 : ((xMs.zip xPs).drop 228).all (fun q => xbm q.1 q.2) = true := xall_split 228 11 xbm_228 xbz_239
theorem xbz_216 : ((xMs.zip xPs).drop 216).all (fun q => xbm q.1 q.2) = true := xall_split 216 12 xbm_216 xbz_228
theorem xbz_205 : ((xMs.zip xPs).drop 205).all (fun q => xbm q.1 q.2) = true := xall_split 205 11 xbm_205 xbz_216
theorem xbz_195 : ((xMs.zip xPs).drop 195).all (fun q => xbm q.1 q.2) = true := xall_split 195 10 xbm_195 xbz_205
theorem xbz_190 : ((xMs.zip xPs).drop 190).all (fun q => xbm q.1 q.2) = true := xall_split 190 5 xbm_190 xbz_195
theorem xbz_185 : ((xMs.zip xPs).drop 185).all (fun q => xbm q.1 q.2) = true := xall_split 185 5 xbm_185 xbz_190
theorem xbz_181 : ((xMs.zip xPs).drop 181).all (fun q => xbm q.1 q.2) = true := xall_split 181 4 xbm_181 xbz_185
theorem xbz_178 : ((xMs.zip xPs).drop 178).all (fun q => xbm q.1 q.2) = true := xall_split 178 3 xbm_178 xbz_181
theorem xbz_173 : ((xMs.zip xPs).drop 173).all (fun q => xbm q.1 q.2) = true := xall_split 173 5 xbm_173 xbz_178
theorem xbz_169 : ((xMs.zip xPs).drop 169).all (fun q => xbm q.1 q.2) = true := xall_split 169 4 xbm_169 xbz_173
theorem xbz_158 : ((xMs.zip xPs).drop 158).all (fun q => xbm q.1 q.2) = true := xall_split 158 11 xbm_158 xbz_169
theorem xbz_148 : ((xMs.zip xPs).drop 148).all (fun q => xbm q.1 q.2) = true := xall_split 148 10 xbm_148 xbz_158
theorem xbz_142 : ((xMs.zip xPs).drop 142).all (fun q => xbm q.1 q.2) = true := xall_split 142 6 xbm_142 xbz_148
theorem xbz_140 : ((xMs.zip xPs).drop 140).all (fun q => xbm q.1 q.2) = true := xall_split 140 2 xbm_140 xbz_142
theorem xbz_133 : ((xMs.zip xPs).drop 133).all (fun q => xbm q.1 q.2) = true := xall_split 133 7 xbm_133 xbz_140
theorem xbz_127 : ((xMs.zip xPs).drop 127).all (fun q => xbm q.1 q.2) = true := xall_split 127 6 xbm_127 xbz_133
theorem xbz_124 : ((xMs.zip xPs).drop 124).all (fun q => xbm q.1 q.2) = true := xall_split 124 3 xbm_124 xbz_127
theorem xbz_121 : ((xMs.zip xPs).drop 121).all (fun q => xbm q.1 q.2) = true := xall_split 121 3 xbm_121 xbz_124
theorem xbz_113 : ((xMs.zip xPs).drop 113).all (fun q => xbm q.1 q.2) = true := xall_split 113 8 xbm_113 xbz_121
theorem xbz_110 : ((xMs.zip xPs).drop 110).all (fun q => xbm q.1 q.2) = true := xall_split 110 3 xbm_110 xbz_113
theorem xbz_103 : ((xMs.zip xPs).drop 103).all (fun q => xbm q.1 q.2) = true := xall_split 103 7 xbm_103 xbz_110
theorem xbz_100 : ((xMs.zip xPs).drop 100).all (fun q => xbm q.1 q.2) = true := xall_split 100 3 xbm_100 xbz_103
theorem xbz_98 : ((xMs.zip xPs).drop 98).all (fun q => xbm q.1 q.2) = true := xall_split 98 2 xbm_98 xbz_100
theorem xbz_92 : ((xMs.zip xPs).drop 92).all (fun q => xbm q.1 q.2) = true := xall_split 92 6 xbm_92 xbz_98
theorem xbz_87 : ((xMs.zip xPs).drop 87).all (fun q => xbm q.1 q.2) = true := xall_split 87 5 xbm_87 xbz_92
theorem xbz_79 : ((xMs.zip xPs).drop 79).all (fun q => xbm q.1 q.2) = true := xall_split 79 8 xbm_79 xbz_87
theorem xbz_68 : ((xMs.zip xPs).drop 68).all (fun q => xbm q.1 q.2) = true := xall_split 68 11 xbm_68 xbz_79
theorem xbz_61 : ((xMs.zip xPs).drop 61).all (fun q => xbm q.1 q.2) = true := xall_split 61 7 xbm_61 xbz_68
theorem xbz_58 : ((xMs.zip xPs).drop 58).all (fun q => xbm q.1 q.2) = true := xall_split 58 3 xbm_58 xbz_61
theorem xbz_54 : ((xMs.zip xPs).drop 54).all (fun q => xbm q.1 q.2) = true := xall_split 54 4 xbm_54 xbz_58
theorem xbz_52 : ((xMs.zip xPs).drop 52).all (fun q => xbm q.1 q.2) = true := xall_split 52 2 xbm_52 xbz_54
theorem xbz_46 : ((xMs.zip xPs).drop 46).all (fun q => xbm q.1 q.2) = true := xall_split 46 6 xbm_46 xbz_52
theorem xbz_43 : ((xMs.zip xPs).drop 43).all (fun q => xbm q.1 q.2) = true := xall_split 43 3 xbm_43 xbz_46
theorem xbz_40 : ((xMs.zip xPs).drop 40).all (fun q => xbm q.1 q.2) = true := xall_split 40 3 xbm_40 xbz_43
theorem xbz_37 : ((xMs.zip xPs).drop 37).all (fun q => xbm q.1 q.2) = true := xall_split 37 3 xbm_37 xbz_40
theorem xbz_36 : ((xMs.zip xPs).drop 36).all (fun q => xbm q.1 q.2) = true := xall_split 36 1 xbm_36 xbz_37
theorem xbz_35 : ((xMs.zip xPs).drop 35).all (fun q => xbm q.1 q.2) = true := xall_split 35 1 xbm_35 xbz_36
theorem xbz_32 : ((xMs.zip xPs).drop 32).all (fun q => xbm q.1 q.2) = true := xall_split 32 3 xbm_32 xbz_35
theorem xbz_29 : ((xMs.zip xPs).drop 29).all (fun q => xbm q.1 q.2) = true := xall_split 29 3 xbm_29 xbz_32
theorem xbz_26 : ((xMs.zip xPs).drop 26).all (fun q => xbm q.1 q.2) = true := xall_split 26 3 xbm_26 xbz_29
theorem xbz_23 : ((xMs.zip xPs).drop 23).all (fun q => xbm q.1 q.2) = true := xall_split 23 3 xbm_23 xbz_26
theorem xbz_21 : ((xMs.zip xPs).drop 21).all (fun q => xbm q.1 q.2) = true := xall_split 21 2 xbm_21 xbz_23
theorem xbz_17 : ((xMs.zip xPs).drop 17).all (fun q => xbm q.1 q.2) = true := xall_split 17 4 xbm_17 xbz_21
theorem xbz_9 : ((xMs.zip xPs).drop 9).all (fun q => xbm q.1 q.2) = true := xall_split 9 8 xbm_9 xbz_17
theorem xbz_0 : ((xMs.zip xPs).drop 0).all (fun q => xbm q.1 q.2) = true := xall_split 0 9 xbm_0 xbz_9
end
section
/-! A RUN KEEPS TO PLACES THAT ARE THERE, AND ONLY GROWS -/
/-- what a run's end keeps to -/
def xgoodA (n : Nat × Nat) (r : xA) (h : xH) : Prop := match r with
  | .ok v => xok n h [] v.toList
  | .error (_, q) => q < 1000000 ∧ ∃ hb, h = hb ++ [(40, List.replicate 6 .null)] ∧ q = hb.length ∧ (n.1 ≤ hb.length ∧ xscH hb) ∧ xok n h [] [.ref q]
theorem xok_mono {n : Nat × Nat} {h h' : xH} {loc : xL} {st : List Value} (g : xok n h loc st) (k : (h.length ≤ h'.length ∧ xsz h ≤ xsz h') ∧ xscH h') {st' : List Value} (hst : ∀ v ∈ st', xsc h'.length v ∨ v ∈ st) : xok n h' loc st' :=
  ⟨⟨Nat.le_trans g.1.1 k.1.1, Nat.le_trans g.1.2 k.1.2⟩, k.2, fun q hq => xsc_mono k.1.1 (g.2.2.1 q hq), fun v hv => (hst v hv).elim id fun hv => xsc_mono k.1.1 (g.2.2.2 v hv)⟩
theorem xok_self {n : Nat × Nat} {h : xH} {loc : xL} {st : List Value} (g : xok n h loc st) : xok (h.length, xsz h) h loc st := ⟨⟨Nat.le_refl _, Nat.le_refl _⟩, g.2⟩
theorem xok_sub {n : Nat × Nat} {h : xH} {loc loc' : xL} {st st' : List Value} (g : xok n h loc st) (h1 : ∀ q ∈ loc', q ∈ loc) (h2 : ∀ v ∈ st', v ∈ st) : xok n h loc' st' := ⟨g.1, g.2.1, fun q hq => g.2.2.1 q (h1 q hq), fun v hv => g.2.2.2 v (h2 v hv)⟩
theorem xgoodA_ok {n : Nat × Nat} {r : xA} {h : xH} (g : xgoodA n r h) : (n.1 ≤ h.length ∧ n.2 ≤ xsz h) ∧ xscH h := by
  cases r with
  | ok v => exact ⟨g.1, g.2.1⟩
  | error q => obtain ⟨-, hb, -, -, -, g⟩ := g; exact ⟨g.1, g.2.1⟩
theorem xpush40_sc {hb : xH} (h : xscH hb) : xscH (hb ++ [(40, List.replicate 6 .null)]) := by
  intro e he v hv
  rw [List.length_append]
  rcases List.mem_append.mp he with he | he
  · exact xsc_mono (Nat.le_add_right _ _) (h e he v hv)
  · rw [List.mem_singleton] at he
    subst he
    rw [List.eq_of_mem_replicate hv]
    trivial
/-- THE METHODS, d calls deep, their arguments no more than their locals -/
def xgo (M : List xMi) (K : List (Nat × List Value)) (Z : List Value) : Nat → Nat → Nat → List Value → xH → Option (xA × xH)
  | 0, _, _, _, _ => none
  | d + 1, f, mi, args, h => match M[mi]? with
    | none => none
    | some m => match decide ((args.map fun v => v.category).sum ≤ m.2.2.1) with
      | false => none
      | true => match xev (xgo M K Z d f) m.2.2.1 K Z (xhs m) m.2.2.2.2.2.2 f m.2.2.2.2.2.2 (lv_args 0 args) [] h with
        | some (.ok v, h) => match xrfit m.2.2.2.1 v with
          | true => some (.ok v, h)
          | false => none
        | r => r
section XRG
variable {K : List (Nat × List Value)} {Z : List Value} {call : Nat → List Value → xH → Option (xA × xH)} {nL : Nat} {hs : List (Nat × Nat × Nat × Nat)} {code : List xE}
/-- a call's own goodness -/
def xcg (call : Nat → List Value → xH → Option (xA × xH)) : Prop := ∀ mi args h r h', call mi args h = some (r, h') → xscH h → (∀ v ∈ args, xsc h.length v) → xgoodA (h.length, xsz h) r h'
theorem xev_good (hK : xcon K Z) (hc : xcg call) : ∀ (n : Nat) (cs : List xE) (loc : xL) (st : List Value) (h : xH) (r : xA) (h' : xH) (b : Nat × Nat), xev call nL K Z hs code n cs loc st h = some (r, h') → xok b h loc st → xgoodA b r h' := by
  intro n
  induction n with
  | zero =>
    intro cs loc st h r h' b hr g
    cases hr
  | succ n ih =>
    intro cs loc st h r h' b hr g
    cases cs with
    | nil => cases hr
    | cons e cs =>
      rw [xev] at hr
      split at hr
      · cases hr
      · rename_i loc1 st1 h1 hs1
        exact ih _ _ _ _ _ _ _ hr (xstep_good hK hs1 g)
      · rename_i t loc1 st1 h1 hs1
        exact ih _ _ _ _ _ _ _ hr (xstep_good hK hs1 g)
      · rename_i mi args loc1 st1 h1 hs1
        have g1 : xok b h1 loc1 (args ++ st1) := xstep_good hK hs1 g
        split at hr
        · cases hr
        · rename_i v h2 hcl
          have k := hc _ _ _ _ _ hcl g1.2.1 (fun v hv => g1.2.2.2 v (List.mem_append_left _ hv))
          refine ih _ _ _ _ _ _ _ hr (xok_mono g1 ⟨k.1, k.2.1⟩ (fun w hw => ?_))
          rcases List.mem_append.mp hw with hw | hw
          · exact Or.inl (k.2.2.2 w hw)
          · exact Or.inr (List.mem_append_right _ hw)
        · rename_i E q h2 hcl
          have k := hc _ _ _ _ _ hcl g1.2.1 (fun v hv => g1.2.2.2 v (List.mem_append_left _ hv))
          obtain ⟨hq, hb, e1, e2, e3, k⟩ := k
          split at hr
          · split at hr
            · refine ih _ _ _ _ _ _ _ hr (xok_mono g1 ⟨k.1, k.2.1⟩ (fun w hw => Or.inl (k.2.2.2 w hw)))
            · cases hr
              exact ⟨hq, hb, e1, e2, ⟨Nat.le_trans g1.1.1 e3.1, e3.2⟩, ⟨⟨Nat.le_trans g1.1.1 k.1.1, Nat.le_trans g1.1.2 k.1.2⟩, k.2⟩⟩
          · cases hr
      · rename_i v h1 hs1
        have g1 : xok b h1 [] v.toList := xstep_good hK hs1 g
        cases hr
        exact g1
      · rename_i E h1 hs1
        have g1 : xok b h1 [] [] := xstep_good hK hs1 g
        split at hr
        · rename_i hlt
          cases hr
          refine ⟨of_decide_eq_true hlt, h1, rfl, rfl, ⟨g1.1.1, g1.2.1⟩, ⟨⟨?_, ?_⟩, xpush40_sc g1.2.1, fun q hq => absurd hq List.not_mem_nil, ?_⟩⟩
          · rw [List.length_append]; exact Nat.le_trans g1.1.1 (Nat.le_add_right _ _)
          · rw [xsz_push]; exact Nat.le_trans g1.1.2 (Nat.le_add_right _ _)
          · intro v hv
            rw [List.mem_singleton] at hv
            subst hv
            exact Or.inl (by rw [List.length_append]; exact Nat.lt_succ_self _)
        · cases hr
theorem lv_args_mem : ∀ (vs : List Value) (i : Nat), ∀ q ∈ lv_args i vs, q.2 ∈ vs := by
  intro vs
  induction vs with
  | nil => intro i q hq; exact absurd hq List.not_mem_nil
  | cons v vs ih =>
    intro i q hq
    rcases List.mem_cons.mp hq with rfl | hq
    · exact List.mem_cons_self
    · exact List.mem_cons_of_mem _ (ih _ q hq)
theorem xgo_good {M : List xMi} (hK : xcon K Z) : ∀ (d f : Nat), xcg (xgo M K Z d f) := by
  intro d
  induction d with
  | zero =>
    intro f mi args h r h' hr _ _
    cases hr
  | succ d ih =>
    intro f mi args h r h' hr g1 g2
    rw [xgo] at hr
    split at hr
    · cases hr
    · rename_i m hm
      have base : xok (h.length, xsz h) h (lv_args 0 args) [] := ⟨⟨Nat.le_refl _, Nat.le_refl _⟩, g1, fun q hq => g2 _ (lv_args_mem args 0 q hq), fun v hv => absurd hv List.not_mem_nil⟩
      split at hr
      · cases hr
      · split at hr
        · rename_i v h2 he
          split at hr
          · cases hr
            exact xev_good hK (ih f) _ _ _ _ _ _ _ _ he base
          · cases hr
        · rename_i r2 hne
          exact xev_good hK (ih f) _ _ _ _ _ _ _ _ hr base
end XRG
end
section
/-! A METHOD'S CONTRACT, READ OFF ITS ABSTRACT RUN; what a call needs and brings -/
section XENV
variable {xs : List Int32} {z : Value} {b0 : Nat} {D : va_G} {tyC : Nat → ClassId} {ad ad' : Nat → Nat} {s U : State} {H : Heap}
theorem xcK_ext (ha : ∀ i, 1000000 ≤ i → ad' i = ad i) {v : Value} (h : xsc 0 v) : xcV ad' v = xcV ad v := by
  cases v <;> first | rfl | exact congrArg Value.ref (ha _ (h.elim (fun h => absurd h (Nat.not_lt_zero _)) id))
theorem xcon_K (xs : List Int32) (z : Value) (hz : xsc 0 z) : xcon (xK xs) (xZ z) := by
  constructor
  · intro e he v hv
    have h1 : (xK xs).tail.all (fun e => e.2.all (fun v => match v with
      | .ref i => decide (1000000 ≤ i)
      | _ => true)) = true := by
      have h0 : (xK []).tail.all (fun e => e.2.all (fun v => match v with
        | .ref i => decide (1000000 ≤ i)
        | _ => true)) = true := by decide +kernel
      exact h0
    rcases List.mem_cons.mp (show e ∈ (58, xs.map Value.int) :: (xK xs).tail from he) with rfl | he
    · obtain ⟨x, -, rfl⟩ := List.mem_map.mp hv
      trivial
    · have h2 := List.all_eq_true.mp (List.all_eq_true.mp h1 e he) v hv
      cases v <;> first | trivial | exact Or.inr (of_decide_eq_true h2)
  · intro v hv
    have h1 : v = z ∨ v ∈ xZ .null := by
      simp only [xZ, List.mem_cons, List.not_mem_nil, or_false] at hv ⊢
      rcases hv with h | h | h | h | h | h | h | h | h | h <;> simp [h]
    rcases h1 with rfl | h1
    · exact hz
    · have h2 : (xZ .null).all (fun v => match v with
        | .ref i => decide (1000000 ≤ i)
        | _ => true) = true := by decide +kernel
      have h2 := List.all_eq_true.mp h2 v h1
      cases v <;> first | trivial | exact Or.inr (of_decide_eq_true h2)
/-- at a callee's start -/
theorem xEnv_moved {locs : List Loc} (hE : xEnv xs z b0 D tyC ad s) (hS : va_S (fun q => b0 ≤ q) s.heap H locs) (hU : U.heap = H) (hW : s.WarmedH U.vm) : xEnv xs z b0 D tyC ad U := by
  obtain ⟨e1, e2, e3, e4, e5, e6, e7, e8, e9, e10⟩ := hE
  have hvm := hW.alike
  have kq : ∀ a : Nat, a < s.heap.size → ¬ (fun q => b0 ≤ q) a → U.heap[a]? = s.heap[a]? := fun a h1 h2 => by rw [hU]; exact hS.2.1 a h1 h2
  refine ⟨fun w hw hg => xgd_warm hW hg (e1 w hw hg), va_K.moved hvm e2, fun j C n d v h1 h2 => va_Z.moved hvm ((e3 j C n d v h1 h2).kept kq), fun i k vs hi => ?_, fun j own i tx h => vk_R.warm hW (e5 j own i tx h), ⟨vx_Zq.moved hvm (e6.1.kept kq), vx_Zq.moved hvm (e6.2.kept kq)⟩, fun t C h1 h2 h3 => va_AO.moved hvm (e7 t C h1 h2 h3), ⟨word_at hW (Or.inr ⟨_, rfl⟩) e8.1, word_at hW (Or.inr ⟨_, rfl⟩) e8.2.1, word_at hW (Or.inr ⟨_, rfl⟩) e8.2.2⟩, fun E F h1 h2 h3 => va_Nc.moved hvm (e9 E F h1 h2 h3), ?_⟩
  · obtain ⟨c1, c2, c3⟩ := e4 i k vs hi
    exact ⟨fun j o n d v a1 a2 a3 => va_OF.moved hvm ((c1 j o n d v a1 a2 a3).kept kq), fun h => va_T.moved hvm ((c2 h).kept kq), fun E h => va_O.moved hvm ((c3 E h).kept kq)⟩
  · rw [hU]
    exact Nat.le_trans e10 hS.1
theorem xEnv_ext (hz : xsc 0 z) (ha : ∀ i, 1000000 ≤ i → ad' i = ad i) (hE : xEnv xs z b0 D tyC ad s) : xEnv xs z b0 D tyC ad' s := by
  obtain ⟨e1, e2, e3, e4, e5, e6, e7, e8, e9, e10⟩ := hE
  have hcon := xcon_K xs z hz
  refine ⟨e1, e2, fun j C n d v h1 h2 => ?_, fun i k vs hi => ?_, fun j own i tx h => ?_, e6, e7, e8, e9, e10⟩
  · rw [xcK_ext ha (hcon.2 v (List.mem_of_getElem? h2))]
    exact e3 j C n d v h1 h2
  · obtain ⟨c1, c2, c3⟩ := e4 i k vs hi
    have hsc := hcon.1 _ (List.mem_of_getElem? hi)
    have e0 : ad' (1000000 + i) = ad (1000000 + i) := ha _ (Nat.le_add_right _ _)
    refine ⟨fun j o n d v a1 a2 a3 => ?_, fun h => ?_, fun E h => ?_⟩
    · rw [e0, xcK_ext ha (hsc v (List.mem_of_getElem? a2))]
      exact c1 j o n d v a1 a2 a3
    · have c2 := c2 h
      rw [e0]
      have : (fun j => xcV ad' (vs.getD j .null)) = fun j => xcV ad (vs.getD j .null) := by
        funext j
        refine xcK_ext ha ?_
        rw [List.getD_eq_getElem?_getD]
        cases hj : vs[j]? with
        | none => trivial
        | some v => exact hsc v (List.mem_of_getElem? hj)
      rw [this]
      exact c2
    · rw [e0]
      exact c3 E h
  · rw [ha _ (by omega)]
    exact e5 j own i tx h
end XENV
def xrm (d mc ms : Nat) : Room := { frames := d + 8, cells := mc, slots := ms, locals := 40 * d + 200 }
/-- a method's start -/
def xPre (xs : List Int32) (z : Value) (b0 : Nat) (D : va_G) (tyC : Nat → ClassId) (ad : Nat → Nat) (h : xH) (args : List Value) : Array Value → State → Prop := va_Pc (args.map (xcV ad)) (fun U => xEnv xs z b0 D tyC ad U ∧ xRel b0 D tyC ad h U U.heap [])
def xQc (b0 : Nat) (D : va_G) (tyC : Nat → ClassId) (ad : Nat → Nat) (h : xH) (r : xA) (h' : xH) : Array Value → State → Outcome → State → Prop := fun _ st o t => ∃ v, r = .ok v ∧ ∃ ad' : Nat → Nat, (∀ i, (i < h.length ∨ 1000000 ≤ i) → ad' i = ad i) ∧ o = .returned (v.map (xcV ad')) ∧ xP D tyC ad' h' t.heap ∧ xinj ad' h' ∧ xbd b0 ad' h' ∧ va_F (fun q => b0 ≤ q) st t
/-- .. thrown: the heap without the exception's own cell -/
def xXC (b0 : Nat) (D : va_G) (tyC : Nat → ClassId) (ad : Nat → Nat) (h : xH) (r : xA) (h' : xH) : String → State → State → Prop := fun X st t => ∃ E q hb, r = .error (E, q) ∧ h' = hb ++ [(40, List.replicate 6 .null)] ∧ q = hb.length ∧ xEx[E]? = some X ∧ ∃ ad' : Nat → Nat, (∀ i, (i < h.length ∨ 1000000 ≤ i) → ad' i = ad i) ∧ xP D tyC ad' hb t.heap ∧ xinj ad' hb ∧ xbd b0 ad' hb ∧ va_F (fun q => b0 ≤ q) st t
/-- THE CONTRACT -/
def xMet (xs : List Int32) (z : Value) (l : Launch) (d : Nat) (M : xMi) (args : List Value) (h : xH) (r : xA) (h' : xH) : Prop :=
  ∀ (b0 : Nat) (D : va_G) (tyC : Nat → ClassId) (ad : Nat → Nat), vx_Met l M.1 [xcw0 M] (xrm d (h'.length - h.length) (xsz h' - xsz h)) (xPre xs z b0 D tyC ad h args) (xQc b0 D tyC ad h r h') (xXC b0 D tyC ad h r h') (h'.length - h.length) (xsz h' - xsz h) (fun q => b0 ≤ q)
theorem xPre_blind {xs : List Int32} {z : Value} {b0 : Nat} {D : va_G} {tyC : Nat → ClassId} {ad : Nat → Nat} {h : xH} {args : List Value} : FrameBlind (xPre xs z b0 D tyC ad h args) := by
  intro a U g mk hp
  obtain ⟨rfl, hE, hP, hI, hb, -⟩ := hp
  exact ⟨rfl, xEnv_moved (locs := []) hE va_S.rf rfl (State.WarmedH.refl U), hP, hI, hb, va_S.rf⟩
/-- a contract that never throws, as a plain one -/
theorem xMet_plain {l : Launch} {y : MethodName} {ws : List Cond} {rm : Room} {Pc : Array Value → State → Prop} {Qc : Array Value → State → Outcome → State → Prop} {XC : String → State → State → Prop} {mc ms : Nat} {free : Addr → Prop} (hM : vx_Met l y ws rm Pc Qc XC mc ms free) (hX : ∀ E st t, ¬ XC E st t) : Met l y ws rm Pc Qc mc ms free := by
  intro p e h1 h2 h3 s m args below h4 h5 h6 h7
  obtain ⟨n, o, a1, a2, a3, a4⟩ := hM p e h1 h2 h3 s m args below h4 h5 h6 h7
  refine ⟨n, o, a1, a2, a3, ?_⟩
  rcases a4 with a4 | ⟨q, -, E, ce, L, hx, -⟩
  · exact a4
  · exact absurd hx (hX E _ _)
section XCALL
variable {p : Program} {l : Launch} {e : Env} {R : Room} {s : State} {m : MethodId} {args : Array Value} {below : List Frame} {meth : Method} {c : Code} {H : Heap} {locs : List Loc} {cells slots : Nat} {Q : State → Prop}
variable {pc mc ms : Nat} {ls : Array Slot} {b0 : Nat} {D : va_G} {tyC : Nat → ClassId} {ad : Nat → Nat} {h h' : xH} {r : xA} {st0 rest : List Value} {a : Array Value}
/-- a plain run is a run that may throw -/
theorem xrun_of {Qa : State → Outcome → State → Prop} {XC : String → State → State → Prop} {free : Addr → Prop} {g : JFrame} (hr : va_Run p l e R s m args below meth c H locs cells slots mc ms g rest Qa free) : vx_Run p l e R s m args below meth c H locs cells slots mc ms g rest Qa XC free := by
  intro T hT X
  obtain ⟨v, st₀, t, T', L, h⟩ := hr T hT X
  exact Or.inl ⟨v, st₀, t, T', L, h⟩
/-- behind a call -/
theorem xgo_call (hr : vx_Run p l e R s m args below meth c H locs cells slots mc ms (F0 m pc ls st0) rest (xQc b0 D tyC ad h r h' a) (xXC b0 D tyC ad h r h') (fun q => b0 ≤ q)) (hS : va_S (fun q => b0 ≤ q) s.heap H locs)
    (kk : ∀ v, r = .ok v → ∀ (ad' : Nat → Nat) (H1 : Heap) (locs1 : List Loc), (∀ i, (i < h.length ∨ 1000000 ≤ i) → ad' i = ad i) → xRel b0 D tyC ad' h' s H1 locs1 → W p l e R s m args below meth c H1 locs1 (cells + mc) (slots + ms) Q (F0 m (pc + 3) ls ((v.map (xcV ad')).toList ++ rest)))
    (kx : ∀ E q hb X, r = .error (E, q) → h' = hb ++ [(40, List.replicate 6 .null)] → q = hb.length → xEx[E]? = some X → ∀ (ad' : Nat → Nat) (H1 : Heap) (locs1 : List Loc) (q9 : Addr) (ce : Cell), (∀ i, (i < h.length ∨ 1000000 ≤ i) → ad' i = ad i) → xRel b0 D tyC ad' hb s H1 locs1 → H1[q9]? = some ce → ce.vm = .none → s.vm.findClass X = some ce.cls → vx_W p l e R s m args below meth c H1 locs1 (cells + mc) (slots + ms) Q (F0 m pc ls rest) q9) : W p l e R s m args below meth c H locs cells slots Q (F0 m pc ls st0) := by
  intro T hT X
  rcases hr T hT X with ⟨v, st₀, t, T', L, h0, X', hL, e1, e2, ⟨v', rfl, ad', ha, ho, hP, hI, hb, hF⟩, st⟩ | ⟨q, st₀, t, T', L, E, ce, h0, X', hL, e1, e2, ⟨E', q', hb, rfl, rfl, rfl, hX, ad', ha, hP, hI, hbd, hF⟩, hce, hcv, hcl, st⟩
  · cases ho
    obtain ⟨k1, k2, k3⟩ := vx_keep (A0 := fun q => b0 ≤ q) (A1 := fun q => b0 ≤ q) h0 e1 hS (fun _ _ h => h) (fun _ h => h) hL hF
    obtain ⟨t2, a1, b1⟩ := kk v' rfl ad' T'.heap (locs ++ L) ha ⟨by rw [e1]; exact hP, hI, hb, k3⟩ T' rfl X'
    exact ⟨t2, st t2 a1, b1⟩
  · obtain ⟨k1, k2, k3⟩ := vx_keep (A0 := fun q => b0 ≤ q) (A1 := fun q => b0 ≤ q) h0 e1 hS (fun _ _ h => h) (fun _ h => h) hL hF
    obtain ⟨t2, a1, b1⟩ := kx E' _ hb E rfl rfl rfl hX ad' T'.heap (locs ++ L) q ce ha ⟨by rw [e1]; exact hP, hI, hbd, k3⟩ (by rw [e1]; exact hce) hcv hcl T' rfl X'
    exact ⟨t2, st.trans a1, b1⟩
end XCALL
end
section
/-! EVERY CALL, OUT OF THE CALLEE'S CONTRACT -/
theorem xbm_at {mi : Nat} {M : xMi} {P : List Nat} (h1 : xMs[mi]? = some M) (h2 : xPs[mi]? = some P) : xbm M P = true := by
  have hz : (xMs.zip xPs)[mi]? = some (M, P) := by
    rw [List.getElem?_zip_eq_some]
    exact ⟨h1, h2⟩
  exact List.all_eq_true.mp xbz_0 (M, P) (List.mem_of_getElem? hz)
theorem xbm_spec {M : xMi} {P : List Nat} (h : xbm M P = true) : xwd (xP0 P 0) (xcw0 M) = true ∧ xwd (xP0 P 1) (.initialized M.1.cls) = true ∧ (M.1.cls ≠ "java/lang/invoke/MethodHandle" ∧ M.1.cls ≠ "java/lang/invoke/VarHandle") ∧ plainFor M.1 = true ∧ M.2.2.1 ≤ 21 ∧ xchain M.2.2.2.2.2.2 = true ∧ (M.2.2.2.2.2.2.map fun e => e.1).head? = some 0 ∧ xbhs M.1.cls M.2.2.2.2.1 M.2.2.2.2.2.1 (P.drop 5) = true ∧ ∀ e ∈ M.2.2.2.2.2.2, xchk M.1 M.2.1 (!M.2.2.2.2.1.isEmpty) e = true := by
  unfold xbm xmh at h
  simp only [Bool.and_eq_true, decide_eq_true_eq, List.all_eq_true] at h
  exact ⟨xwc_wd h.1, h.2.1, h.2.2.1, h.2.2.2.1, h.2.2.2.2.1, h.2.2.2.2.2.1, h.2.2.2.2.2.2.1, h.2.2.2.2.2.2.2.1, h.2.2.2.2.2.2.2.2⟩
section XCK
variable {p : Program} {l : Launch} {e : Env} {R : Room} {s : State} {m : MethodId} {args : Array Value} {below : List Frame} {meth : Method} {c : Code} {H : Heap} {locs : List Loc} {cells slots : Nat}
variable {cc : ByteArray} {pc nL d : Nat} {ls : Array Slot} {b0 : Nat} {D : va_G} {tyC : Nat → ClassId} {ad : Nat → Nat} {h h' : xH} {loc : xL} {st : List Value} {r : xA}
variable {xs : List Int32} {z : Value} {own : String} {M : xMi} {mi : Nat} {P : List Nat}
theorem xcw0_code (hh : M.2.2.2.2.1 = []) : xcw0 M = .code M.1 M.2.1 M.2.2.1 M.2.2.2.1 := by
  unfold xcw0
  rw [hh]
theorem xcw0_with {h0 : Nat × Nat × Nat × Nat} {t0 : List (Nat × Nat × Nat × Nat)} (hh : M.2.2.2.2.1 = h0 :: t0) : xcw0 M = .codeWith M.1 M.2.1 M.2.2.1 M.2.2.2.1 M.2.2.2.2.1 := by
  unfold xcw0
  rw [hh]
theorem xcw0_good (M : xMi) : ((xcw0 M).onTables && (xcw0 M).keeps) = true := by
  unfold xcw0
  split <;> rfl
/-- the callee's words at every warmed state -/
theorem xws (hE : xEnv xs z b0 D tyC ad s) {k : Nat} (hw : xwd k (xcw0 M) = true) : ∀ w ∈ [xcw0 M], ∀ (a' : Array Value) (U : State), s.WarmedH U.vm → w.before a' U = true := by
  intro w hm a' U hW
  rw [List.mem_singleton] at hm
  subst hm
  exact word_at hW (Or.inl (xcw0_good M)) (xenv_w hE hw #[])
theorem xsig {y : MethodName} {n : Nat} (h : xnp y n = true) : ∀ sig, parseMethodDescriptor y.desc = some sig → n = sig.parameters.length := by
  intro sig hs
  have h := of_decide_eq_true h
  rw [hs] at h
  exact (Option.some.inj h).symm
/-- what is fixed at every call -/
theorem xcallB (hE : xEnv xs z b0 D tyC ad s) (hM1 : xMs[mi]? = some M) (hP1 : xPs[mi]? = some P) (hRf : d + 9 ≤ R.frames) (hRl : 40 * d + 240 ≤ R.locals) (hh : M.2.2.2.2.1 = []) {n i I : Nat} (hn : xnp M.1 n = true) (hlk : xwd I (.methodLink own i M.1) = true) (mc ms : Nat) : CallB R s args own i M.1 M.2.1 M.2.2.1 M.2.2.2.1 [xcw0 M] (xrm d mc ms) mc ms n := by
  obtain ⟨w1, w2, w3, w4, w5, -⟩ := xbm_spec (xbm_at hM1 hP1)
  refine ⟨rfl, rfl, ?_, ?_, xws hE w1, ?_, ?_, xenv_w hE w2 args, w3, xsig hn, xenv_w hE hlk args⟩
  · show d + 8 + 1 ≤ R.frames; omega
  · show 8 + (M.2.2.1 + 11) + (40 * d + 200) ≤ R.locals; omega
  · rw [xcw0_code hh]; exact List.mem_cons_self
  · rw [← xcw0_code hh]; exact xenv_w hE w1 args
theorem xst_split {n b : Nat} (h0 : 0 < n) (hn : n ≤ st.length) (hb : st[n - 1]? = some (.ref b)) : (st.take n).reverse = .ref b :: (st.take (n - 1)).reverse ∧ st = st.take (n - 1) ++ .ref b :: st.drop n ∧ (st.take (n - 1)).length = n - 1 := by
  have e1 : st.take n = st.take (n - 1) ++ [.ref b] := by
    obtain ⟨k, rfl⟩ : ∃ k, n = k + 1 := ⟨n - 1, by omega⟩
    rw [Nat.add_sub_cancel] at hb ⊢
    rw [List.take_add_one, hb]
    rfl
  refine ⟨by rw [e1, List.reverse_append]; rfl, ?_, by rw [List.length_take]; omega⟩
  have e2 := List.take_append_drop n st
  rw [e1] at e2
  rw [List.append_assoc] at e2
  exact e2.symm
theorem xst_map {n k b : Nat} (e2 : st = st.take k ++ .ref b :: st.drop n) : st.map (xcV ad) = ((st.take k).reverse.map (xcV ad)).reverse ++ .ref (ad b) :: (st.drop n).map (xcV ad) := by
  have h := congrArg (List.map (xcV ad)) e2
  rw [List.map_append] at h
  rw [← List.map_reverse, List.reverse_reverse]
  exact h
/-- the start of the callee -/
theorem xpre (hE : xEnv xs z b0 D tyC ad s) (hR : xRel b0 D tyC ad h s H locs) (as : List Value) : ∀ U : State, U.heap = H → s.WarmedH U.vm → xPre xs z b0 D tyC ad h as (as.map (xcV ad)).toArray U := by
  intro U hU hW
  exact ⟨rfl, xEnv_moved hE hR.2.2.2 hU hW, by rw [hU]; exact hR.1, hR.2.1, hR.2.2.1, va_S.rf⟩
theorem xrecv (hE : xEnv xs z b0 D tyC ad s) (hR : xRel b0 D tyC ad h s H locs) {b rc : Nat} {vs : List Value} {C : String} (hc : xcell (xK xs) h b = some (rc, vs)) (hn : xrcn rc C = true) : ∃ cell : Cell, H[ad b]? = some cell ∧ cell.vm.isStatics = false ∧ s.vm.findClass C = some cell.cls := by
  unfold xrcn at hn
  by_cases hb : b < 1000000
  · have hc := xcell_h hc hb
    split at hn
    · rename_i h45
      have h45 := of_decide_eq_true h45
      subst h45
      obtain ⟨q, hq, -⟩ := hR.1 b _ hc (by simp)
      exact absurd hq (by show ¬ vwCl[45]? = some q; simp)
    · split at hn
      · rename_i C' T N hcl
        have hn := of_decide_eq_true hn
        subst hn
        have hlt := xcls_lt hcl
        obtain ⟨k0, hk0⟩ := xcw_at (ad := ad) (tyC := tyC) hc (by show rc ≠ 40; omega)
        have hk1 : (xcw ad tyC h)[k0]? = some (ad b, .inr (rc, vs.map (xcV ad))) := by rw [hk0]; unfold xcE; rw [if_pos (show rc < 50 by omega)]
        exact va_recv hE.2.1 (xcw_P hR.1) hcl hk1
      · cases hn
  · obtain ⟨hc, haq⟩ := xcell_k hc hb
    have hcK := (hE.2.2.2.1 _ _ _ hc).2.2
    rw [haq] at hcK
    have key : ∀ E, xKC rc = some E → E = C → ∃ cell : Cell, H[ad b]? = some cell ∧ cell.vm.isStatics = false ∧ s.vm.findClass C = some cell.cls := by
      intro E h1 h2
      subst h2
      obtain ⟨cell, g1, g2, g3, g4⟩ := hcK E h1
      exact ⟨cell, by rw [hR.2.2.2.2.1 _ (Array.getElem?_eq_some_iff.mp g1).1 g4]; exact g1, g2, g3⟩
    split at hn
    · rename_i h45
      have h45 := of_decide_eq_true h45
      subst h45
      exact key _ rfl (of_decide_eq_true hn).symm
    · split at hn
      · rename_i C' T N hcl
        have hn := of_decide_eq_true hn
        have hlt := xcls_lt hcl
        have h0 : rc = 0 := by rcases xK_kind hc with q | q <;> omega
        subst h0
        cases hcl
        exact key "java/lang/String" rfl hn.symm
      · cases hn
theorem xrcv_spec {K : List (Nat × List Value)} {n rc : Nat} (h1 : xrcv K h st n rc = true) : ∃ b vs, st[n - 1]? = some (.ref b) ∧ xcell K h b = some (rc, vs) := by
  unfold xrcv at h1
  split at h1
  · rename_i a ha
    split at h1
    · rename_i c0 vs hc
      have h1 := of_decide_eq_true h1
      subst h1
      exact ⟨a, vs, ha, hc⟩
    · cases h1
  · cases h1
theorem xnoX {v : Option Value} : ∀ E st0 t, ¬ xXC b0 D tyC ad h (.ok v) h' E st0 t := by
  rintro E st0 t ⟨E', q, hb, h1, -⟩
  cases h1
/-- what all calls share -/
abbrev xShared (p : Program) (R : Room) (s : State) (m : MethodId) (c : Code) (cc : ByteArray) (nL d : Nat) (own : String) (ls : Array Slot) (xs : List Int32) (z : Value) (b0 : Nat) (D : va_G) (tyC : Nat → ClassId) (ad : Nat → Nat) (h : xH) (H : Heap) (locs : List Loc) (cells slots mc ms : Nat) : Prop :=
  p.tables.exec = Jvm.exec ∧ c.code = cc ∧ c.maxLocals = nL ∧ s.vm.findClass own = some m.cls ∧ xEnv xs z b0 D tyC ad s ∧ xRel b0 D tyC ad h s H locs ∧ ls.size = nL ∧ d + 9 ≤ R.frames ∧ 40 * d + 240 ≤ R.locals ∧ cells + mc ≤ R.cells ∧ slots + ms ≤ R.slots
theorem xc_virt0 {n : Nat} (S : xShared p R s m c cc nL d own ls xs z b0 D tyC ad h H locs cells slots (h'.length - h.length) (xsz h' - xsz h)) (hM1 : xMs[mi]? = some M) (hP1 : xPs[mi]? = some P) (hM : xMet xs z l d M (st.take n).reverse h r h') {i I rc : Nat} (hh : M.2.2.2.2.1 = []) (h0 : 0 < n) (hnp : xnp M.1 (n - 1) = true) (w1 : xwd (xP0 P 2) (.instanceMethod M.1) = true) (w2 : xwd I (.methodLink own i M.1) = true) (w3 : xwd (xP0 P 4) (.selects M.1.cls M.1 M.1) = true) (hrc : xrcn rc M.1.cls = true) (hn : n ≤ st.length) (hrv : xrcv (xK xs) h st n rc = true) (hcat : ((st.drop n).map fun v => v.category).sum ≤ 8) (hdg : decode cc pc = .ok (.invokevirtual i, 3)) :
    vx_Run p l e R s m args below meth c H locs cells slots (h'.length - h.length) (xsz h' - xsz h) (F0 m pc ls (st.map (xcV ad))) ((st.drop n).map (xcV ad)) (xQc b0 D tyC ad h r h' (((st.take n).reverse.map (xcV ad)).toArray)) (xXC b0 D tyC ad h r h') (fun q => b0 ≤ q) := by
  obtain ⟨hx, hb, hml, hown, hE, hR, hsz, hRf, hRl, hc1, hc2⟩ := S
  obtain ⟨b, vs, hb1, hb2⟩ := xrcv_spec hrv
  obtain ⟨e1, e2, e3⟩ := xst_split h0 hn hb1
  rw [e1] at hM ⊢
  rw [← xsum ad] at hcat
  have hp : PreV s H M.1.cls (ad b) (xPre xs z b0 D tyC ad h (.ref b :: (st.take (n - 1)).reverse)) ((st.take (n - 1)).reverse.map (xcV ad)) := ⟨xPre_blind, xrecv hE hR hb2 hrc, xpre hE hR _⟩
  exact vx_runV (Ts := []) (own := own) (n := n - 1) ⟨hx, hb, hml, hown, fun _ h => nomatch h⟩ (hM b0 D tyC ad) ⟨xcallB hE hM1 hP1 hRf hRl hh hnp w2 _ _, xenv_w hE w1 args, xenv_w hE w3 args⟩ hp rfl (by rw [List.length_map, List.length_reverse, e3]) hsz (xst_map e2) (by show 2 * 0 + _ ≤ 8; omega) hdg ⟨hc1, hc2⟩
theorem xc_virt3 {n : Nat} (S : xShared p R s m c cc nL d own ls xs z b0 D tyC ad h H locs cells slots (h'.length - h.length) (xsz h' - xsz h)) (hM1 : xMs[mi]? = some M) (hP1 : xPs[mi]? = some P) {v : Option Value} (hM : xMet xs z l d M (st.take n).reverse h (.ok v) h') {i I J S0 U mo : Nat} {Mo : xMi} {Po : List Nat} (hh : M.2.2.2.2.1 = []) (h0 : 0 < n) (hnp : xnp M.1 (n - 1) = true) (w1 : xwd (xP0 P 2) (.instanceMethod M.1) = true)
    (hMo : Mo.1 = ⟨xUo U, M.1.name, M.1.desc⟩) (hho : Mo.2.2.2.2.1 = []) (wo1 : xwd (xP0 Po 2) (.instanceMethod Mo.1) = true) (wo2 : xwd (xP0 Po 0) (xcw0 Mo) = true) (w2 : xwd I (.methodLink own i ⟨xUx U, M.1.name, M.1.desc⟩) = true) (w3 : xwd J (.sameMethod (xUx U) (xUo U) M.1.name M.1.desc) = true) (w4 : xwd S0 (.selects (xUc U) ⟨xUx U, M.1.name, M.1.desc⟩ M.1) = true) (hU : U ≤ 1) (hn : n ≤ st.length) (hrv : xrcv (xK xs) h st n (xrc 3 U) = true) (hcat : ((st.drop n).map fun v => v.category).sum ≤ 8) (hdg : decode cc pc = .ok (.invokevirtual i, 3)) :
    vx_Run p l e R s m args below meth c H locs cells slots (h'.length - h.length) (xsz h' - xsz h) (F0 m pc ls (st.map (xcV ad))) ((st.drop n).map (xcV ad)) (xQc b0 D tyC ad h (.ok v) h' (((st.take n).reverse.map (xcV ad)).toArray)) (xXC b0 D tyC ad h (.ok v) h') (fun q => b0 ≤ q) := by
  obtain ⟨hx, hb, hml, hown, hE, hR, hsz, hRf, hRl, hc1, hc2⟩ := S
  obtain ⟨b, vs, hb1, hb2⟩ := xrcv_spec hrv
  obtain ⟨e1, e2, e3⟩ := xst_split h0 hn hb1
  obtain ⟨v1, v2, v3, v4, v5, -⟩ := xbm_spec (xbm_at hM1 hP1)
  rw [e1] at hM ⊢
  rw [← xsum ad] at hcat
  have hrn : xrcn (xrc 3 U) (xUc U) = true := by
    rcases (show U = 0 ∨ U = 1 by omega) with rfl | rfl <;> rfl
  have hp : PreV s H (xUc U) (ad b) (xPre xs z b0 D tyC ad h (.ref b :: (st.take (n - 1)).reverse)) ((st.take (n - 1)).reverse.map (xcV ad)) := ⟨xPre_blind, xrecv hE hR hb2 hrn, xpre hE hR _⟩
  have hdecl : va_Decl s ⟨xUo U, M.1.name, M.1.desc⟩ := by
    rw [← hMo]
    exact va_Decl.of (args := args) (xenv_w hE wo1 args) (by rw [← xcw0_code hho]; exact xenv_w hE wo2 args)
  have hcd : (Cond.code M.1 M.2.1 M.2.2.1 M.2.2.2.1).before args s = true := by rw [← xcw0_code hh]; exact xenv_w hE v1 args
  refine xrun_of (va_runU (Ts := []) (own := own) (n := n - 1) (owner := xUo U) (x := ⟨xUx U, M.1.name, M.1.desc⟩) (bytes := M.2.1) (maxL := M.2.2.1) (ret := M.2.2.2.1) ⟨hx, hb, hml, hown, fun _ h => nomatch h⟩ (xMet_plain (hM b0 D tyC ad) xnoX) ⟨⟨rfl, rfl, ?_, ?_, xws hE v1, ?_⟩, hcd, xenv_w hE v2 args, ?_, xsig hnp, xenv_w hE w2 args, xenv_w hE w3 args, hdecl, xenv_w hE w4 args, xenv_w hE w1 args⟩ hp rfl (by rw [List.length_map, List.length_reverse, e3]) hsz (xst_map e2) (by show 2 * 0 + _ ≤ 8; omega) hdg ⟨hc1, hc2⟩)
  · show d + 8 + 1 ≤ R.frames; omega
  · show 8 + (M.2.2.1 + 11) + (40 * d + 200) ≤ R.locals; omega
  · rw [xcw0_code hh]; exact List.mem_cons_self
  · rcases (show U = 0 ∨ U = 1 by omega) with rfl | rfl <;> exact ⟨by decide, by decide⟩
theorem xst_take {n : Nat} : st.map (xcV ad) = ((st.take n).reverse.map (xcV ad)).reverse ++ (st.drop n).map (xcV ad) := by
  rw [← List.map_reverse, List.reverse_reverse, ← List.map_append, List.take_append_drop]
theorem xc_stat1 {n : Nat} (S : xShared p R s m c cc nL d own ls xs z b0 D tyC ad h H locs cells slots (h'.length - h.length) (xsz h' - xsz h)) (hM1 : xMs[mi]? = some M) (hP1 : xPs[mi]? = some P) (hM : xMet xs z l d M (st.take n).reverse h r h') {i I : Nat} (hnp : xnp M.1 n = true) (w1 : xwd (xP0 P 3) (.static M.1) = true) (w2 : xwd I (.methodLink own i M.1) = true) (hn : n ≤ st.length) (hcat : ((st.drop n).map fun v => v.category).sum ≤ 8) (hdg : decode cc pc = .ok (.invokestatic i, 3)) :
    vx_Run p l e R s m args below meth c H locs cells slots (h'.length - h.length) (xsz h' - xsz h) (F0 m pc ls (st.map (xcV ad))) ((st.drop n).map (xcV ad)) (xQc b0 D tyC ad h r h' (((st.take n).reverse.map (xcV ad)).toArray)) (xXC b0 D tyC ad h r h') (fun q => b0 ≤ q) := by
  obtain ⟨hx, hb, hml, hown, hE, hR, hsz, hRf, hRl, hc1, hc2⟩ := S
  obtain ⟨v1, v2, v3, v4, v5, -⟩ := xbm_spec (xbm_at hM1 hP1)
  rw [← xsum ad] at hcat
  have hlen : ((st.take n).reverse.map (xcV ad)).length = n := by rw [List.length_map, List.length_reverse, List.length_take]; omega
  have hp : PreS s H (xPre xs z b0 D tyC ad h (st.take n).reverse) ((st.take n).reverse.map (xcV ad)) := ⟨xPre_blind, xpre hE hR _⟩
  cases hh : M.2.2.2.2.1 with
  | nil =>
    exact vx_runS (Ts := []) (own := own) (n := n) ⟨hx, hb, hml, hown, fun _ h => nomatch h⟩ (hM b0 D tyC ad) ⟨xcallB hE hM1 hP1 hRf hRl hh hnp w2 _ _, xenv_w hE w1 args⟩ hp rfl hlen hsz xst_take (by show 2 * 0 + _ ≤ 8; omega) hdg ⟨hc1, hc2⟩
  | cons q0 t0 =>
    refine vx_runSX (Ts := []) (own := own) (n := n) (hh := M.2.2.2.2.1) (bytes := M.2.1) (maxL := M.2.2.1) (ret := M.2.2.2.1) ⟨hx, hb, hml, hown, fun _ h => nomatch h⟩ (hM b0 D tyC ad) ⟨⟨rfl, rfl, ?_, ?_, xws hE v1, ?_⟩, ?_, xenv_w hE v2 args, v3, xsig hnp, xenv_w hE w2 args, xenv_w hE w1 args⟩ hp rfl hlen hsz xst_take (by show 2 * 0 + _ ≤ 8; omega) hdg ⟨hc1, hc2⟩
    · show d + 8 + 1 ≤ R.frames; omega
    · show 8 + (M.2.2.1 + 11) + (40 * d + 200) ≤ R.locals; omega
    · rw [xcw0_with hh]; exact List.mem_cons_self
    · rw [← xcw0_with hh]; exact xenv_w hE v1 args
theorem xcN (hE : xEnv xs z b0 D tyC ad s) (hM1 : xMs[mi]? = some M) (hP1 : xPs[mi]? = some P) (hRf : d + 9 ≤ R.frames) (hRl : 40 * d + 240 ≤ R.locals) (hh : M.2.2.2.2.1 = []) {n i I : Nat} (hn : xnp M.1 n = true) (hlk : xwd I (.methodLinkNest own i M.1 "RiverReaches") = true) (mc ms : Nat) : va_CN R s args own i M.1 "RiverReaches" M.2.1 M.2.2.1 M.2.2.2.1 [xcw0 M] (xrm d mc ms) mc ms n := by
  obtain ⟨w1, w2, w3, w4, w5, -⟩ := xbm_spec (xbm_at hM1 hP1)
  refine ⟨⟨rfl, rfl, ?_, ?_, xws hE w1, ?_⟩, ?_, xenv_w hE w2 args, w3, xsig hn, xenv_w hE hlk args⟩
  · show d + 8 + 1 ≤ R.frames; omega
  · show 8 + (M.2.2.1 + 11) + (40 * d + 200) ≤ R.locals; omega
  · rw [xcw0_code hh]; exact List.mem_cons_self
  · rw [← xcw0_code hh]; exact xenv_w hE w1 args
theorem xc_stat6 {n : Nat} (S : xShared p R s m c cc nL d own ls xs z b0 D tyC ad h H locs cells slots (h'.length - h.length) (xsz h' - xsz h)) (hM1 : xMs[mi]? = some M) (hP1 : xPs[mi]? = some P) {v : Option Value} (hM : xMet xs z l d M (st.take n).reverse h (.ok v) h') {i I : Nat} (hh : M.2.2.2.2.1 = []) (hnp : xnp M.1 n = true) (w1 : xwd (xP0 P 3) (.static M.1) = true) (w2 : xwd I (.methodLinkNest own i M.1 "RiverReaches") = true) (hn : n ≤ st.length) (hcat : ((st.drop n).map fun v => v.category).sum ≤ 8) (hdg : decode cc pc = .ok (.invokestatic i, 3)) :
    vx_Run p l e R s m args below meth c H locs cells slots (h'.length - h.length) (xsz h' - xsz h) (F0 m pc ls (st.map (xcV ad))) ((st.drop n).map (xcV ad)) (xQc b0 D tyC ad h (.ok v) h' (((st.take n).reverse.map (xcV ad)).toArray)) (xXC b0 D tyC ad h (.ok v) h') (fun q => b0 ≤ q) := by
  obtain ⟨hx, hb, hml, hown, hE, hR, hsz, hRf, hRl, hc1, hc2⟩ := S
  rw [← xsum ad] at hcat
  have hlen : ((st.take n).reverse.map (xcV ad)).length = n := by rw [List.length_map, List.length_reverse, List.length_take]; omega
  have hp : PreS s H (xPre xs z b0 D tyC ad h (st.take n).reverse) ((st.take n).reverse.map (xcV ad)) := ⟨xPre_blind, xpre hE hR _⟩
  exact xrun_of (va_runSN (Ts := []) (own := own) (n := n) (host := "RiverReaches") ⟨hx, hb, hml, hown, fun _ h => nomatch h⟩ (xMet_plain (hM b0 D tyC ad) xnoX) ⟨xcN hE hM1 hP1 hRf hRl hh hnp w2 _ _, xenv_w hE w1 args, trivial⟩ hp rfl hlen hsz xst_take (by show 2 * 0 + _ ≤ 8; omega) hdg ⟨hc1, hc2⟩)
theorem xrf_spec {n : Nat} (h1 : xrf st n = true) : ∃ b, st[n - 1]? = some (.ref b) := by
  unfold xrf at h1
  split at h1
  · rename_i a ha
    exact ⟨a, ha⟩
  · cases h1
theorem xc_spec2 {n : Nat} (S : xShared p R s m c cc nL d own ls xs z b0 D tyC ad h H locs cells slots (h'.length - h.length) (xsz h' - xsz h)) (hM1 : xMs[mi]? = some M) (hP1 : xPs[mi]? = some P) {v : Option Value} (hM : xMet xs z l d M (st.take n).reverse h (.ok v) h') {i I : Nat} (hh : M.2.2.2.2.1 = []) (h0 : 0 < n) (hnp : xnp M.1 (n - 1) = true) (hin : M.1.name = "<init>") (hrt : M.2.2.2.1 = none) (w1 : xwd (xP0 P 2) (.instanceMethod M.1) = true) (w2 : xwd I (.methodLink own i M.1) = true) (hn : n ≤ st.length) (hrf : xrf st n = true) (hcat : ((st.drop n).map fun v => v.category).sum ≤ 8) (hdg : decode cc pc = .ok (.invokespecial i, 3)) :
    vx_Run p l e R s m args below meth c H locs cells slots (h'.length - h.length) (xsz h' - xsz h) (F0 m pc ls (st.map (xcV ad))) ((st.drop n).map (xcV ad)) (xQc b0 D tyC ad h (.ok v) h' (((st.take n).reverse.map (xcV ad)).toArray)) (xXC b0 D tyC ad h (.ok v) h') (fun q => b0 ≤ q) := by
  obtain ⟨hx, hb, hml, hown, hE, hR, hsz, hRf, hRl, hc1, hc2⟩ := S
  obtain ⟨b, hb1⟩ := xrf_spec hrf
  obtain ⟨e1, e2, e3⟩ := xst_split h0 hn hb1
  rw [e1] at hM ⊢
  rw [← xsum ad] at hcat
  have hp : PreS s H (xPre xs z b0 D tyC ad h (.ref b :: (st.take (n - 1)).reverse)) (.ref (ad b) :: (st.take (n - 1)).reverse.map (xcV ad)) := ⟨xPre_blind, xpre hE hR _⟩
  have cb := xcallB (args := args) (R := R) hE hM1 hP1 hRf hRl hh hnp w2 (h'.length - h.length) (xsz h' - xsz h)
  rw [hrt] at cb
  exact xrun_of (va_runI (Ts := []) (own := own) (n := n - 1) ⟨hx, hb, hml, hown, fun _ h => nomatch h⟩ (xMet_plain (hM b0 D tyC ad) xnoX) ⟨cb, hin, xenv_w hE w1 args⟩ hp rfl (by rw [List.length_map, List.length_reverse, e3]) hsz (xst_map e2) (by show 2 * 0 + _ ≤ 8; omega) hdg ⟨hc1, hc2⟩)
theorem xc_spec5 {n : Nat} (S : xShared p R s m c cc nL d own ls xs z b0 D tyC ad h H locs cells slots (h'.length - h.length) (xsz h' - xsz h)) (hM1 : xMs[mi]? = some M) (hP1 : xPs[mi]? = some P) {v : Option Value} (hM : xMet xs z l d M (st.take n).reverse h (.ok v) h') {i I : Nat} (hh : M.2.2.2.2.1 = []) (h0 : 0 < n) (hnp : xnp M.1 (n - 1) = true) (hin : M.1.name = "<init>") (hrt : M.2.2.2.1 = none) (w1 : xwd (xP0 P 2) (.instanceMethod M.1) = true) (w2 : xwd I (.methodLinkNest own i M.1 "RiverReaches") = true) (hn : n ≤ st.length) (hrf : xrf st n = true) (hcat : ((st.drop n).map fun v => v.category).sum ≤ 8) (hdg : decode cc pc = .ok (.invokespecial i, 3)) :
    vx_Run p l e R s m args below meth c H locs cells slots (h'.length - h.length) (xsz h' - xsz h) (F0 m pc ls (st.map (xcV ad))) ((st.drop n).map (xcV ad)) (xQc b0 D tyC ad h (.ok v) h' (((st.take n).reverse.map (xcV ad)).toArray)) (xXC b0 D tyC ad h (.ok v) h') (fun q => b0 ≤ q) := by
  obtain ⟨hx, hb, hml, hown, hE, hR, hsz, hRf, hRl, hc1, hc2⟩ := S
  obtain ⟨b, hb1⟩ := xrf_spec hrf
  obtain ⟨e1, e2, e3⟩ := xst_split h0 hn hb1
  rw [e1] at hM ⊢
  rw [← xsum ad] at hcat
  have hp : PreS s H (xPre xs z b0 D tyC ad h (.ref b :: (st.take (n - 1)).reverse)) (.ref (ad b) :: (st.take (n - 1)).reverse.map (xcV ad)) := ⟨xPre_blind, xpre hE hR _⟩
  have cb := xcN (args := args) (R := R) hE hM1 hP1 hRf hRl hh hnp w2 (h'.length - h.length) (xsz h' - xsz h)
  rw [hrt] at cb
  exact xrun_of (va_runIN (Ts := []) (own := own) (n := n - 1) (host := "RiverReaches") ⟨hx, hb, hml, hown, fun _ h => nomatch h⟩ (xMet_plain (hM b0 D tyC ad) xnoX) ⟨cb, hin, xenv_w hE w1 args⟩ hp rfl (by rw [List.length_map, List.length_reverse, e3]) hsz (xst_map e2) (by show 2 * 0 + _ ≤ 8; omega) hdg ⟨hc1, hc2⟩)
theorem xc_spec4 {n : Nat} (S : xShared p R s m c cc nL d own ls xs z b0 D tyC ad h H locs cells slots (h'.length - h.length) (xsz h' - xsz h)) (hM1 : xMs[mi]? = some M) (hP1 : xPs[mi]? = some P) {v : Option Value} (hM : xMet xs z l d M (st.take n).reverse h (.ok v) h') {i I J S0 : Nat} (hh : M.2.2.2.2.1 = []) (h0 : 0 < n) (hnp : xnp M.1 (n - 1) = true) (hin : M.1.name ≠ "<init>") (w1 : xwd (xP0 P 2) (.instanceMethod M.1) = true) (w2 : xwd I (.methodLink own i M.1) = true) (w3 : xwd J (.sameMethod M.1.cls M.1.cls M.1.name M.1.desc) = true) (w4 : xwd S0 (.superclass own M.1.cls) = true) (hn : n ≤ st.length) (hrv : xrcv (xK xs) h st n 1 = true) (hcat : ((st.drop n).map fun v => v.category).sum ≤ 8) (hdg : decode cc pc = .ok (.invokespecial i, 3)) :
    vx_Run p l e R s m args below meth c H locs cells slots (h'.length - h.length) (xsz h' - xsz h) (F0 m pc ls (st.map (xcV ad))) ((st.drop n).map (xcV ad)) (xQc b0 D tyC ad h (.ok v) h' (((st.take n).reverse.map (xcV ad)).toArray)) (xXC b0 D tyC ad h (.ok v) h') (fun q => b0 ≤ q) := by
  obtain ⟨hx, hb, hml, hown, hE, hR, hsz, hRf, hRl, hc1, hc2⟩ := S
  obtain ⟨b, vs, hb1, hb2⟩ := xrcv_spec hrv
  obtain ⟨e1, e2, e3⟩ := xst_split h0 hn hb1
  obtain ⟨v1, v2, v3, v4, v5, -⟩ := xbm_spec (xbm_at hM1 hP1)
  rw [e1] at hM ⊢
  rw [← xsum ad] at hcat
  have hp : PreV s H "java/lang/StringBuilder" (ad b) (xPre xs z b0 D tyC ad h (.ref b :: (st.take (n - 1)).reverse)) ((st.take (n - 1)).reverse.map (xcV ad)) := ⟨xPre_blind, xrecv hE hR hb2 rfl, xpre hE hR _⟩
  have hcd : (Cond.code M.1 M.2.1 M.2.2.1 M.2.2.2.1).before args s = true := by rw [← xcw0_code hh]; exact xenv_w hE v1 args
  have hcls : ClassAt s "java/lang/StringBuilder" (D.1 1) := (hE.2.1.1 1 _ rfl).2
  refine xrun_of (va_runSU (Ts := []) (own := own) (n := n - 1) (bytes := M.2.1) (maxL := M.2.2.1) (ret := M.2.2.2.1) hcls ⟨hx, hb, hml, hown, fun _ h => nomatch h⟩ (xMet_plain (hM b0 D tyC ad) xnoX) ⟨⟨rfl, rfl, ?_, ?_, xws hE v1, ?_⟩, xenv_w hE w2 args, xenv_w hE w3 args, xenv_w hE w4 args, xenv_w hE w1 args, xenv_w hE v2 args, hcd, hin, xsig hnp⟩ hp rfl (by rw [List.length_map, List.length_reverse, e3]) hsz (xst_map e2) (by show 2 * 0 + _ ≤ 8; omega) hdg ⟨hc1, hc2⟩)
  · show d + 8 + 1 ≤ R.frames; omega
  · show 8 + (M.2.2.1 + 11) + (40 * d + 200) ≤ R.locals; omega
  · rw [xcw0_code hh]; exact List.mem_cons_self
end XCK
end
section
/-! ONE INSTRUCTION THAT GOES ON -/
section XD
variable {p : Program} {l : Launch} {e : Env} {R : Room} {s : State} {m : MethodId} {args : Array Value} {below : List Frame} {meth : Method} {c : Code} {H : Heap} {locs : List Loc} {cells slots : Nat} {Q : State → Prop}
variable {cc : ByteArray} {nL : Nat} {n0 : Nat × Nat} {ls : Array Slot} {b0 : Nat} {D : va_G} {tyC : Nat → ClassId} {ad : Nat → Nat} {h h' : xH} {loc loc' : xL} {st st' : List Value} {t : Option Nat}
variable {xs : List Int32} {z : Value} {y : MethodName} {hh : Bool} {e0 : xE}
theorem xnat_eq {a n : Nat} (h : (a == n) = true) : a = n := by simpa using h
theorem xcall_ne {mi n : Nat} : ¬ xcall mi n loc st h = some (.inl (t, loc', st', h')) := by
  unfold xcall
  split <;> (intro h; cases h)
theorem xret_ne {q : Value → Bool} : ¬ xret q st h = some (.inl (t, loc', st', h')) := by
  unfold xret
  split
  · split <;> (intro h; cases h)
  · intro h; cases h
theorem xretv_ne : ¬ xretv st h = some (.inl (t, loc', st', h')) := by
  unfold xretv
  split <;> (intro h; cases h)
theorem xk_self {pc' : Nat} (kk : xCont p l e R s m args below meth c Q nL b0 D tyC ad h cells slots pc' loc st h) : xCont p l e R s m args below meth c Q nL b0 D tyC ad h cells slots pc' loc st h := kk
set_option maxHeartbeats 4000000 in
theorem xo_step (hx : p.tables.exec = Jvm.exec) (hb : c.code = cc) (hml : c.maxLocals = nL) (hown : s.vm.findClass y.cls = some m.cls) (hmn : meth.name = y.name) (hE : xEnv xs z b0 D tyC ad s) (hfr : 1 ≤ R.frames) (hlo : 100 ≤ R.locals) (hck : xchk y cc hh e0 = true) (hs : xstep nL (xK xs) (xZ z) e0 loc st h = some (.inl (t, loc', st', h'))) (hok : xok n0 h loc st) (hroom : cells + (h'.length - h.length) ≤ R.cells ∧ slots + (xsz h' - xsz h) ≤ R.slots) (hR : xRel b0 D tyC ad h s H locs) (hl : lv_has ls nL (xlc ad loc)) (kk : xCont p l e R s m args below meth c Q nL b0 D tyC ad h cells slots (t.getD (e0.1 + e0.2.2.1)) loc' st' h') : W p l e R s m args below meth c H locs cells slots Q (F0 m e0.1 ls (st.map (xcV ad))) := by
  obtain ⟨pc, i0, ln, aux⟩ := e0
  unfold xchk at hck
  obtain ⟨hd, hck⟩ := Bool.and_eq_true _ _ |>.mp hck
  obtain ⟨hlen, hk⟩ := Bool.and_eq_true _ _ |>.mp hck
  have hdg : decode cc pc = .ok (i0, ln) := of_decide_eq_true hd
  dsimp only at hlen hk hs kk ⊢
  cases i0 with
  | iadd =>
    cases xnat_eq (n := 1) hlen
    exact xo_iadd hx hb hdg hs hR hl kk
  | isub =>
    cases xnat_eq (n := 1) hlen
    exact xo_isub hx hb hdg hs hR hl kk
  | imul =>
    cases xnat_eq (n := 1) hlen
    exact xo_imul hx hb hdg hs hR hl kk
  | iand =>
    cases xnat_eq (n := 1) hlen
    exact xo_iand hx hb hdg hs hR hl kk
  | ior =>
    cases xnat_eq (n := 1) hlen
    exact xo_ior hx hb hdg hs hR hl kk
  | ixor =>
    cases xnat_eq (n := 1) hlen
    exact xo_ixor hx hb hdg hs hR hl kk
  | ishl =>
    cases xnat_eq (n := 1) hlen
    exact xo_ishl hx hb hdg hs hR hl kk
  | ishr =>
    cases xnat_eq (n := 1) hlen
    exact xo_ishr hx hb hdg hs hR hl kk
  | iushr =>
    cases xnat_eq (n := 1) hlen
    exact xo_iushr hx hb hdg hs hR hl kk
  | idiv =>
    cases xnat_eq (n := 1) hlen
    exact xo_idiv hx hb hdg hs hR hl kk
  | irem =>
    cases xnat_eq (n := 1) hlen
    exact xo_irem hx hb hdg hs hR hl kk
  | ineg =>
    cases xnat_eq (n := 1) hlen
    exact xo_ineg hx hb hdg hs hR hl kk
  | i2l =>
    cases xnat_eq (n := 1) hlen
    exact xo_i2l hx hb hdg hs hR hl kk
  | i2b =>
    cases xnat_eq (n := 1) hlen
    exact xo_i2b hx hb hdg hs hR hl kk
  | i2c =>
    cases xnat_eq (n := 1) hlen
    exact xo_i2c hx hb hdg hs hR hl kk
  | i2f =>
    cases xnat_eq (n := 1) hlen
    exact xo_i2f hx hb hdg hs hR hl kk
  | i2d =>
    cases xnat_eq (n := 1) hlen
    exact xo_i2d hx hb hdg hs hR hl kk
  | ladd =>
    cases xnat_eq (n := 1) hlen
    exact xo_ladd hx hb hdg hs hR hl kk
  | lmul =>
    cases xnat_eq (n := 1) hlen
    exact xo_lmul hx hb hdg hs hR hl kk
  | lcmp =>
    cases xnat_eq (n := 1) hlen
    exact xo_lcmp hx hb hdg hs hR hl kk
  | fdiv =>
    cases xnat_eq (n := 1) hlen
    exact xo_fdiv hx hb hdg hs hR hl kk
  | ddiv =>
    cases xnat_eq (n := 1) hlen
    exact xo_ddiv hx hb hdg hs hR hl kk
  | dup =>
    cases xnat_eq (n := 1) hlen
    exact xo_dup hx hb hdg hs hR hl kk
  | pop =>
    cases xnat_eq (n := 1) hlen
    exact xo_pop hx hb hdg hs hR hl kk
  | dup_x1 =>
    cases xnat_eq (n := 1) hlen
    exact xo_dup_x1 hx hb hdg hs hR hl kk
  | aconst_null =>
    cases xnat_eq (n := 1) hlen
    exact xo_null hx hb hdg hs hR hl kk
  | fcmp o =>
    cases xnat_eq (n := 1) hlen
    exact xo_fcmp hx hb hdg hs hR hl kk
  | dcmp o =>
    cases xnat_eq (n := 1) hlen
    exact xo_dcmp hx hb hdg hs hR hl kk
  | iconst n =>
    cases xnat_eq (n := 1) hlen
    exact xo_iconst hx hb hdg hs hR hl kk
  | iload_n k =>
    cases xnat_eq (n := 1) hlen
    exact xo_iloadn hx hb hdg hs hR hl kk
  | lload_n k =>
    cases xnat_eq (n := 1) hlen
    exact xo_lloadn hx hb hdg hs hR hl kk
  | fload_n k =>
    cases xnat_eq (n := 1) hlen
    exact xo_floadn hx hb hdg hs hR hl kk
  | dload_n k =>
    cases xnat_eq (n := 1) hlen
    exact xo_dloadn hx hb hdg hs hR hl kk
  | aload_n k =>
    cases xnat_eq (n := 1) hlen
    exact xo_aloadn hx hb hdg hs hR hl kk
  | istore_n k =>
    cases xnat_eq (n := 1) hlen
    exact xo_istoren hx hb hdg hs hR hl kk
  | lstore_n k =>
    cases xnat_eq (n := 1) hlen
    exact xo_lstoren hx hb hdg hs hR hl kk
  | astore_n k =>
    cases xnat_eq (n := 1) hlen
    exact xo_astoren hx hb hdg hs hR hl kk
  | bipush n =>
    cases xnat_eq (n := 2) hlen
    exact xo_bipush hx hb hdg hs hR hl kk
  | iload k =>
    cases xnat_eq (n := 2) hlen
    exact xo_iloadw hx hb hdg hs hR hl kk
  | lload k =>
    cases xnat_eq (n := 2) hlen
    exact xo_lloadw hx hb hdg hs hR hl kk
  | aload k =>
    cases xnat_eq (n := 2) hlen
    exact xo_aloadw hx hb hdg hs hR hl kk
  | istore k =>
    cases xnat_eq (n := 2) hlen
    exact xo_istorew hx hb hdg hs hR hl kk
  | lstore k =>
    cases xnat_eq (n := 2) hlen
    exact xo_lstorew hx hb hdg hs hR hl kk
  | astore k =>
    cases xnat_eq (n := 2) hlen
    exact xo_astorew hx hb hdg hs hR hl kk
  | sipush n =>
    cases xnat_eq (n := 3) hlen
    exact xo_sipush hx hb hdg hs hR hl kk
  | iinc i n =>
    cases xnat_eq (n := 3) hlen
    exact xo_iinc hx hb hdg hs hR hl kk
  | goto o =>
    cases xnat_eq (n := 3) hlen
    exact xo_goto hx hb hdg hs hR hl kk
  | ifnonnull o =>
    cases xnat_eq (n := 3) hlen
    exact xo_ifnonnull hx hb hdg hs hR hl kk
  | ifnull o =>
    cases xnat_eq (n := 3) hlen
    exact xo_ifnull hx hb hdg hs hR hl kk
  | iaload =>
    cases xnat_eq (n := 1) hlen
    exact xo_iaload hx hb hE hdg hs hR hl kk
  | baload =>
    cases xnat_eq (n := 1) hlen
    exact xo_baload hx hb hE hdg hs hR hl kk
  | caload =>
    cases xnat_eq (n := 1) hlen
    exact xo_caload hx hb hE hdg hs hR hl kk
  | laload =>
    cases xnat_eq (n := 1) hlen
    exact xo_laload hx hb hE hdg hs hR hl kk
  | aaload =>
    cases xnat_eq (n := 1) hlen
    exact xo_aaload hx hb hE hdg hs hR hl kk
  | bastore =>
    cases xnat_eq (n := 1) hlen
    exact xo_bastore hx hb hE hdg hs hR hl kk
  | castore =>
    cases xnat_eq (n := 1) hlen
    exact xo_castore hx hb hE hdg hs hR hl kk
  | lastore =>
    cases xnat_eq (n := 1) hlen
    exact xo_lastore hx hb hE hdg hs hR hl kk
  | aastore =>
    cases xnat_eq (n := 1) hlen
    exact xo_aastore hx hb hE hdg hs hR hl kk
  | arraylength =>
    cases xnat_eq (n := 1) hlen
    exact xo_alen hx hb hE hdg hs hR hl kk
  | tableswitch d lo hi offs =>
    exact xo_sw hx hb hdg hs hR hl kk
  | ifCond cd o =>
    cases xnat_eq (n := 3) hlen
    have ho : 0 ≤ (pc : Int) + o := of_decide_eq_true hk
    cases cd
    · exact xo_if1_eq hx hb ho hdg hs hR hl kk
    · exact xo_if1_ne hx hb ho hdg hs hR hl kk
    · exact xo_if1_lt hx hb ho hdg hs hR hl kk
    · exact xo_if1_ge hx hb ho hdg hs hR hl kk
    · exact xo_if1_gt hx hb ho hdg hs hR hl kk
    · exact xo_if1_le hx hb ho hdg hs hR hl kk
  | if_icmp cd o =>
    cases xnat_eq (n := 3) hlen
    have ho : 0 ≤ (pc : Int) + o := of_decide_eq_true hk
    cases cd
    · exact xo_if2_eq hx hb ho hdg hs hR hl kk
    · exact xo_if2_ne hx hb ho hdg hs hR hl kk
    · exact xo_if2_lt hx hb ho hdg hs hR hl kk
    · exact xo_if2_ge hx hb ho hdg hs hR hl kk
    · exact xo_if2_gt hx hb ho hdg hs hR hl kk
    · exact xo_if2_le hx hb ho hdg hs hR hl kk
  | getfield i =>
    cases xnat_eq (n := 3) hlen
    rcases aux with _ | ⟨a0, _ | ⟨a1, aux⟩⟩
    · cases hs
    · cases hs
    · exact xo_getfield hx hb hown hE hk hdg hs hR hl kk
  | putfield i =>
    cases xnat_eq (n := 3) hlen
    rcases aux with _ | ⟨a0, _ | ⟨a1, aux⟩⟩
    · cases hs
    · cases hs
    · exact xo_putfield hx hb hown hmn hE hk hdg hs hR hl kk
  | getstatic i =>
    cases xnat_eq (n := 3) hlen
    rcases aux with _ | ⟨a0, aux⟩
    · cases hs
    · exact xo_getstatic hx hb hown hE hk hdg hs hR hl kk
  | new i =>
    cases xnat_eq (n := 3) hlen
    rcases aux with _ | ⟨a0, _ | ⟨a1, aux⟩⟩
    · cases hs
    · cases hs
    · exact xo_new hx hb hown hE (Bool.and_eq_true _ _ |>.mp hk).1 hdg hs hok hroom hR hl kk
  | newarray at0 =>
    cases at0 <;> first | (cases hs; done) | skip
    · cases xnat_eq (n := 2) hlen; exact xo_newarray_c hx hb hE hdg hs hok hroom hR hl kk
    · cases xnat_eq (n := 2) hlen; exact xo_newarray_b hx hb hE hdg hs hok hroom hR hl kk
    · cases xnat_eq (n := 2) hlen; exact xo_newarray_l hx hb hE hdg hs hok hroom hR hl kk
  | anewarray i =>
    cases xnat_eq (n := 3) hlen
    rcases aux with _ | ⟨a0, aux⟩
    · cases hs
    · exact xo_anewarray hx hb hown hE hk hdg hs hok hroom hR hl kk
  | ldc i =>
    cases xnat_eq (n := 2) hlen
    rcases aux with _ | ⟨a0, _ | ⟨a1, aux⟩⟩
    · cases hs
    · cases hs
    · exact xo_ldc hx hb hown hE hk hdg hs hR hl kk
  | ldc_w i =>
    cases xnat_eq (n := 3) hlen
    rcases aux with _ | ⟨a0, _ | ⟨a1, aux⟩⟩
    · cases hs
    · cases hs
    · exact xo_ldcw hx hb hown hE hk hdg hs hR hl kk
  | ldc2_w i =>
    cases xnat_eq (n := 3) hlen
    rcases aux with _ | ⟨a0, _ | ⟨a1, aux⟩⟩
    · cases hs
    · cases hs
    · exact xo_ldc2 hx hb hown hE hk hdg hs hR hl kk
  | checkcast i =>
    cases xnat_eq (n := 3) hlen
    rcases aux with _ | ⟨a0, aux⟩
    · cases hs
    · exact xo_cast hx hb hown hE hk hdg hs hR hl kk
  | invokevirtual i =>
    cases xnat_eq (n := 3) hlen
    rcases aux with _ | ⟨a0, aux⟩
    · cases hs
    · replace hs : xvirt (xK xs) loc st h (a0 :: aux) = some (.inl (t, loc', st', h')) := hs
      replace hk : xbvirt y.cls i (a0 :: aux) = true := hk
      unfold xvirt at hs
      dsimp only at hs
      split at hs
      · rename_i h9
        cases of_decide_eq_true h9
        rcases aux with _ | ⟨I, aux⟩
        · cases hk
        · exact xo_clone hx hb hml hown hE hk hdg hs hok hfr hlo hroom hR hl kk
      · split at hs
        · split at hs
          · exact absurd hs xcall_ne
          · cases hs
        · cases hs
  | invokestatic i =>
    cases xnat_eq (n := 3) hlen
    rcases aux with _ | ⟨a0, aux⟩
    · cases hs
    · replace hs : xstat (xK xs) loc st h (a0 :: aux) = some (.inl (t, loc', st', h')) := hs
      replace hk : xbstat y.cls i (a0 :: aux) = true := hk
      unfold xstat at hs
      dsimp only at hs
      split at hs
      · rename_i h9
        cases of_decide_eq_true h9
        rcases aux with _ | ⟨I, aux⟩
        · cases hk
        · exact xo_copy hx hb hml hown hE hk hdg hs hfr hlo hR hl kk
      · split at hs
        · rename_i h9
          cases of_decide_eq_true h9
          rcases aux with _ | ⟨I, aux⟩
          · cases hk
          · exact xo_d2l hx hb hml hown hE hk hdg hs hfr hlo hR hl kk
        · split at hs
          · rename_i h9
            cases of_decide_eq_true h9
            rcases aux with _ | ⟨I, aux⟩
            · cases hk
            · exact xo_f2i hx hb hml hown hE hk hdg hs hfr hlo hR hl kk
          · rcases aux with _ | ⟨a1, _ | ⟨a2, aux⟩⟩
            · cases hs
            · cases hs
            · exact absurd hs xcall_ne
  | invokespecial i =>
    cases xnat_eq (n := 3) hlen
    rcases aux with _ | ⟨a0, aux⟩
    · cases hs
    · replace hs : xspec (xK xs) loc st h (a0 :: aux) = some (.inl (t, loc', st', h')) := hs
      replace hk : xbspec y.cls i (a0 :: aux) = true := hk
      unfold xspec at hs
      dsimp only at hs
      split at hs
      · rename_i h9
        cases of_decide_eq_true h9
        rcases aux with _ | ⟨I, aux⟩
        · cases hk
        · split at hs
          · split at hs
            · rename_i hroom0
              cases hs
              exact xo_oinit hx hb hml hown hE hk (of_decide_eq_true hroom0) hdg hfr hlo hR hl (xk_self kk)
            · cases hs
          · cases hs
      · rcases aux with _ | ⟨a1, _ | ⟨a2, aux⟩⟩
        · cases hs
        · cases hs
        · replace hs : (match xrf st a2 && (!decide (a0 = 4) || xrcv (xK xs) h st a2 1) with | true => xcall a1 a2 loc st h | false => none) = some (.inl (t, loc', st', h')) := hs
          split at hs
          · exact absurd hs xcall_ne
          · cases hs
  | ireturn =>
    exact absurd hs xret_ne
  | lreturn =>
    exact absurd hs xret_ne
  | freturn =>
    exact absurd hs xret_ne
  | dreturn =>
    exact absurd hs xret_ne
  | areturn =>
    exact absurd hs xret_ne
  | return_ =>
    exact absurd hs xretv_ne
  | _ => cases hs
end XD
end
section
/-! CALLS, RETURNS AND THROWS: what they are, and that calls are true to the machine -/
section XQ
variable {nL : Nat} {K : List (Nat × List Value)} {Z : List Value} {loc : xL} {st : List Value} {h : xH} {o : (Nat × List Value × xL × List Value × xH) ⊕ ((Option Value × xH) ⊕ (Nat × xH))}
theorem xq_ok {l' : xL} {s' : List Value} {h' : xH} : ¬ xnx l' s' h' = some (.inr o) := by intro q; cases q
theorem xq_jp {t : Option Nat} {l' : xL} {s' : List Value} {h' : xH} : ¬ xjp t l' s' h' = some (.inr o) := by
  intro q; unfold xjp at q; split at q <;> cases q
theorem xq_br {b : Bool} {pc : Nat} {off : Int} {l' : xL} {s' : List Value} {h' : xH} : ¬ xbr b pc off l' s' h' = some (.inr o) := by
  intro q; unfold xbr at q; split at q
  · exact xq_jp q
  · exact xq_ok q
theorem xq_ld {p : Value → Bool} {i : Nat} : ¬ xld p loc st h i = some (.inr o) := by
  intro q; unfold xld at q; (repeat' split at q) <;> first | exact xq_ok q | cases q
theorem xq_st1 {p : Value → Bool} {i : Nat} : ¬ xst1 p nL loc st h i = some (.inr o) := by
  intro q; unfold xst1 at q; (repeat' split at q) <;> first | exact xq_ok q | cases q
theorem xq_st2 {p : Value → Bool} {i : Nat} : ¬ xst2 p nL loc st h i = some (.inr o) := by
  intro q; unfold xst2 at q; (repeat' split at q) <;> first | exact xq_ok q | cases q
theorem xq_inc {i : Nat} {n : Int} : ¬ xinc nL loc st h i n = some (.inr o) := by
  intro q; unfold xinc at q; (repeat' split at q) <;> first | exact xq_ok q | cases q
theorem xq_ii {f : Int32 → Int32 → Int32} : ¬ xii f loc st h = some (.inr o) := by
  intro q; unfold xii at q; (repeat' split at q) <;> first | exact xq_ok q | cases q
theorem xq_iz {f : Int32 → Int32 → Int32} : ¬ xiz f loc st h = some (.inr o) := by
  intro q; unfold xiz at q; (repeat' split at q) <;> first | exact xq_ok q | cases q
theorem xq_i1 {f : Int32 → Value} : ¬ xi1 f loc st h = some (.inr o) := by
  intro q; unfold xi1 at q; (repeat' split at q) <;> first | exact xq_ok q | cases q
theorem xq_jj {f : Int64 → Int64 → Value} : ¬ xjj f loc st h = some (.inr o) := by
  intro q; unfold xjj at q; (repeat' split at q) <;> first | exact xq_ok q | cases q
theorem xq_if1 {c : ClassFile.Cond} {pc : Nat} {off : Int} : ¬ xif1 c pc off loc st h = some (.inr o) := by
  intro q; unfold xif1 at q; split at q
  · exact xq_br q
  · cases q
theorem xq_if2 {c : ClassFile.Cond} {pc : Nat} {off : Int} : ¬ xif2 c pc off loc st h = some (.inr o) := by
  intro q; unfold xif2 at q; split at q
  · exact xq_br q
  · cases q
theorem xq_ifn {b : Bool} {pc : Nat} {off : Int} : ¬ xifn b pc off loc st h = some (.inr o) := by
  intro q; unfold xifn at q; split at q
  · exact xq_br q
  · exact xq_br q
  · cases q
theorem xq_sw {pc : Nat} {d lo hi : Int} {offs : Array Int} : ¬ xsw pc d lo hi offs loc st h = some (.inr o) := by
  intro q; unfold xsw at q; (repeat' split at q) <;> first | exact xq_jp q | cases q
theorem xq_dx1 : ¬ xdx1 loc st h = some (.inr o) := by
  intro q; unfold xdx1 at q; (repeat' split at q) <;> first | exact xq_ok q | cases q
theorem xq_cat1 {f : Value → List Value → List Value} : ¬ xcat1 loc st h f = some (.inr o) := by
  intro q; unfold xcat1 at q; (repeat' split at q) <;> first | exact xq_ok q | cases q
theorem xq_getf {ci k : Nat} : ¬ xgetf K ci k loc st h = some (.inr o) := by
  intro q; unfold xgetf at q; (repeat' split at q) <;> first | exact xq_ok q | cases q
theorem xq_putf {ty : FieldType} {ci k : Nat} : ¬ xputf ty ci k loc st h = some (.inr o) := by
  intro q; unfold xputf at q; (repeat' split at q) <;> first | exact xq_ok q | cases q
theorem xq_gets {j : Nat} : ¬ xgets Z j loc st h = some (.inr o) := by
  intro q; unfold xgets at q; (repeat' split at q) <;> first | exact xq_ok q | cases q
theorem xq_ald {p : Value → Bool} {t : Nat → Nat → Bool} : ¬ xald K p t loc st h = some (.inr o) := by
  intro q; unfold xald at q; (repeat' split at q) <;> first | exact xq_ok q | cases q
theorem xq_ast {t : Nat} {f : Value → Option Value} : ¬ xast t f loc st h = some (.inr o) := by
  intro q; unfold xast at q; (repeat' split at q) <;> first | exact xq_ok q | cases q
theorem xq_asq : ¬ xasq loc st h = some (.inr o) := by
  intro q; unfold xasq at q; (repeat' split at q) <;> first | exact xq_ok q | cases q
theorem xq_alen : ¬ xalen K loc st h = some (.inr o) := by
  intro q; unfold xalen at q; (repeat' split at q) <;> first | exact xq_ok q | cases q
theorem xq_newa {t : Nat} {v : Value} : ¬ xnewa t v loc st h = some (.inr o) := by
  intro q; unfold xnewa at q; (repeat' split at q) <;> first | exact xq_ok q | cases q
theorem xq_ldc {k v : Nat} : ¬ xldc loc st h k v = some (.inr o) := by
  intro q; unfold xldc at q; (repeat' split at q) <;> first | exact xq_ok q | cases q
theorem xq_ldw {k v : Nat} : ¬ xldw loc st h k v = some (.inr o) := by
  intro q; unfold xldw at q; (repeat' split at q) <;> first | exact xq_ok q | cases q
theorem xq_ld2 {k v : Nat} : ¬ xld2 loc st h k v = some (.inr o) := by
  intro q; unfold xld2 at q; (repeat' split at q) <;> first | exact xq_ok q | cases q
theorem xq_cast : ¬ xcast loc st h = some (.inr o) := by
  intro q; unfold xcast at q; (repeat' split at q) <;> first | exact xq_ok q | cases q
theorem xq_f2 {f : Value → Value → Option Value} : ¬ xf2 f loc st h = some (.inr o) := by
  intro q; unfold xf2 at q; (repeat' split at q) <;> first | exact xq_ok q | cases q
theorem xq_f1 {f : Value → Option Value} : ¬ xf1 f loc st h = some (.inr o) := by
  intro q; unfold xf1 at q; (repeat' split at q) <;> first | exact xq_ok q | cases q
theorem xq_clone : ¬ xclone loc st h = some (.inr o) := by
  intro q; unfold xclone at q; (repeat' split at q) <;> first | exact xq_ok q | cases q
theorem xq_copy : ¬ xcopy K loc st h = some (.inr o) := by
  intro q; unfold xcopy at q; (repeat' split at q) <;> first | exact xq_ok q | cases q
theorem xq_a1 {aux : List Nat} {f : Nat → Option xO} (hf : ∀ a, ¬ f a = some (.inr o)) : ¬ xa1 aux f = some (.inr o) := by
  intro q; unfold xa1 at q; split at q
  · exact hf _ q
  · cases q
theorem xq_a2 {aux : List Nat} {f : Nat → Nat → Option xO} (hf : ∀ a b, ¬ f a b = some (.inr o)) : ¬ xa2 aux f = some (.inr o) := by
  intro q; unfold xa2 at q; split at q
  · exact hf _ _ q
  · cases q
set_option maxHeartbeats 4000000 in
/-- only these call, return, or throw -/
theorem xstep_inr {e : xE} (hs : xstep nL K Z e loc st h = some (.inr o)) :
    (∃ i, e.2.1 = .invokevirtual i ∧ xvirt K loc st h e.2.2.2 = some (.inr o)) ∨ (∃ i, e.2.1 = .invokestatic i ∧ xstat K loc st h e.2.2.2 = some (.inr o)) ∨ (∃ i, e.2.1 = .invokespecial i ∧ xspec K loc st h e.2.2.2 = some (.inr o)) ∨
    (∃ i, e.2.1 = .new i ∧ (xa2 e.2.2.2 fun k i => xnewx loc st h k i) = some (.inr o)) ∨ (e.2.1 = .ireturn ∧ xret xisI st h = some (.inr o)) ∨ (e.2.1 = .lreturn ∧ xret xisJ st h = some (.inr o)) ∨ (e.2.1 = .freturn ∧ xret xisF st h = some (.inr o)) ∨ (e.2.1 = .dreturn ∧ xret xisD st h = some (.inr o)) ∨ (e.2.1 = .areturn ∧ xret xisA st h = some (.inr o)) ∨ (e.2.1 = .return_ ∧ xretv st h = some (.inr o)) := by
  obtain ⟨pc, i0, ln, aux⟩ := e
  unfold xstep at hs
  dsimp only at hs ⊢
  split at hs
  all_goals first
    | exact absurd hs xq_ld
    | exact absurd hs xq_st1
    | exact absurd hs xq_st2
    | exact absurd hs xq_inc
    | exact absurd hs xq_ii
    | exact absurd hs xq_iz
    | exact absurd hs xq_i1
    | exact absurd hs xq_jj
    | exact absurd hs xq_jp
    | exact absurd hs xq_if1
    | exact absurd hs xq_if2
    | exact absurd hs xq_ifn
    | exact absurd hs xq_sw
    | exact absurd hs xq_dx1
    | exact absurd hs xq_cat1
    | exact absurd hs (xq_a2 fun _ _ => xq_getf)
    | exact absurd hs (xq_a2 fun _ _ => xq_putf)
    | exact absurd hs (xq_a1 fun _ => xq_gets)
    | exact absurd hs xq_ald
    | exact absurd hs xq_ast
    | exact absurd hs xq_asq
    | exact absurd hs xq_alen
    | exact absurd hs xq_newa
    | exact absurd hs (xq_a1 fun _ => xq_newa)
    | exact absurd hs (xq_a2 fun _ _ => xq_ldc)
    | exact absurd hs (xq_a2 fun _ _ => xq_ldw)
    | exact absurd hs (xq_a2 fun _ _ => xq_ld2)
    | exact absurd hs (xq_a1 fun _ => xq_cast)
    | exact absurd hs xq_f2
    | exact absurd hs xq_ok
    | exact Or.inl ⟨_, rfl, hs⟩
    | exact Or.inr (Or.inl ⟨_, rfl, hs⟩)
    | exact Or.inr (Or.inr (Or.inl ⟨_, rfl, hs⟩))
    | exact Or.inr (Or.inr (Or.inr (Or.inl ⟨_, rfl, hs⟩)))
    | exact Or.inr (Or.inr (Or.inr (Or.inr (Or.inl ⟨rfl, hs⟩))))
    | exact Or.inr (Or.inr (Or.inr (Or.inr (Or.inr (Or.inl ⟨rfl, hs⟩)))))
    | exact Or.inr (Or.inr (Or.inr (Or.inr (Or.inr (Or.inr (Or.inl ⟨rfl, hs⟩))))))
    | exact Or.inr (Or.inr (Or.inr (Or.inr (Or.inr (Or.inr (Or.inr (Or.inl ⟨rfl, hs⟩)))))))
    | exact Or.inr (Or.inr (Or.inr (Or.inr (Or.inr (Or.inr (Or.inr (Or.inr (Or.inl ⟨rfl, hs⟩))))))))
    | exact Or.inr (Or.inr (Or.inr (Or.inr (Or.inr (Or.inr (Or.inr (Or.inr (Or.inr ⟨rfl, hs⟩))))))))
    | cases hs
/-- a call, taken apart -/
theorem xcall_inr {mi n : Nat} (hs : xcall mi n loc st h = some (.inr o)) : n ≤ st.length ∧ ((st.drop n).map fun v => v.category).sum ≤ 8 ∧ o = .inl (mi, (st.take n).reverse, loc, st.drop n, h) := by
  unfold xcall at hs
  split at hs
  · rename_i q
    obtain ⟨q1, q2⟩ := Bool.and_eq_true _ _ |>.mp q
    cases hs
    exact ⟨of_decide_eq_true q1, of_decide_eq_true q2, rfl⟩
  · cases hs
theorem xvirt_inr {aux : List Nat} (hs : xvirt K loc st h aux = some (.inr o)) : ∃ k mi n I rc r, aux = k :: mi :: n :: I :: rc :: r ∧ k ≠ 9 ∧ xrcv K h st n (xrc k rc) = true ∧ xcall mi n loc st h = some (.inr o) := by
  unfold xvirt at hs
  split at hs
  · split at hs
    · exact absurd hs xq_clone
    · rename_i hk
      split at hs
      · split at hs
        · rename_i hr
          exact ⟨_, _, _, _, _, _, rfl, of_decide_eq_false hk, hr, hs⟩
        · cases hs
      · cases hs
  · cases hs
theorem xstat_inr {aux : List Nat} (hs : xstat K loc st h aux = some (.inr o)) : ∃ k mi n r, aux = k :: mi :: n :: r ∧ k ≠ 8 ∧ k ≠ 10 ∧ k ≠ 11 ∧ xcall mi n loc st h = some (.inr o) := by
  unfold xstat at hs
  split at hs
  · split at hs
    · exact absurd hs xq_copy
    · rename_i h1
      split at hs
      · exact absurd hs xq_f1
      · rename_i h2
        split at hs
        · exact absurd hs xq_f1
        · rename_i h3
          unfold xa2 at hs
          split at hs
          · exact ⟨_, _, _, _, rfl, of_decide_eq_false h1, of_decide_eq_false h2, of_decide_eq_false h3, hs⟩
          · cases hs
  · cases hs
theorem xspec_inr {aux : List Nat} (hs : xspec K loc st h aux = some (.inr o)) : ∃ k mi n r, aux = k :: mi :: n :: r ∧ k ≠ 7 ∧ xrf st n = true ∧ (k = 4 → xrcv K h st n 1 = true) ∧ xcall mi n loc st h = some (.inr o) := by
  unfold xspec at hs
  split at hs
  · split at hs
    · split at hs
      · split at hs
        · exact absurd hs xq_ok
        · cases hs
      · cases hs
    · rename_i h1
      unfold xa2 at hs
      split at hs
      · dsimp only at hs
        split at hs
        · rename_i hr
          obtain ⟨r1, r2⟩ := Bool.and_eq_true _ _ |>.mp hr
          refine ⟨_, _, _, _, rfl, of_decide_eq_false h1, r1, fun h4 => ?_, hs⟩
          rcases Bool.or_eq_true _ _ |>.mp r2 with r2 | r2
          · subst h4; cases r2
          · exact r2
        · cases hs
      · cases hs
  · cases hs
theorem xnewx_inr {aux : List Nat} (hs : (xa2 aux fun k i => xnewx loc st h k i) = some (.inr o)) : ∃ i r, aux = 1 :: i :: r ∧ xroom st = true ∧ o = .inr (.inr (i, h)) := by
  unfold xa2 at hs
  split at hs
  · dsimp only at hs
    unfold xnewx at hs
    split at hs
    · unfold xnew at hs
      split at hs
      · exact absurd hs xq_ok
      · cases hs
    · split at hs
      · rename_i q
        obtain ⟨q1, q2⟩ := Bool.and_eq_true _ _ |>.mp q
        cases of_decide_eq_true q1
        cases hs
        exact ⟨_, _, rfl, q2, rfl⟩
      · cases hs
  · cases hs
theorem xret_inr {p : Value → Bool} (hs : xret p st h = some (.inr o)) : ∃ v, st = [v] ∧ p v = true ∧ o = .inr (.inl (some v, h)) := by
  unfold xret at hs
  split at hs
  · split at hs
    · rename_i q
      cases hs
      exact ⟨_, rfl, q, rfl⟩
    · cases hs
  · cases hs
theorem xretv_inr (hs : xretv st h = some (.inr o)) : st = [] ∧ o = .inr (.inl (none, h)) := by
  unfold xretv at hs
  split at hs
  · cases hs
    exact ⟨rfl, rfl⟩
  · cases hs
end XQ
section XO2
variable {p : Program} {l : Launch} {e : Env} {R : Room} {s : State} {m : MethodId} {args : Array Value} {below : List Frame} {meth : Method} {c : Code} {H : Heap} {locs : List Loc} {cells slots : Nat}
variable {cc : ByteArray} {nL d : Nat} {ls : Array Slot} {b0 : Nat} {D : va_G} {tyC : Nat → ClassId} {ad : Nat → Nat} {h h' h1 : xH} {loc loc1 : xL} {st st1 : List Value} {r : xA}
variable {xs : List Int32} {z : Value} {y : MethodName} {hh : Bool} {e0 : xE} {mi : Nat} {as : List Value}
theorem xP_some {mi : Nat} {M : xMi} (h1 : xMs[mi]? = some M) : ∃ P, xPs[mi]? = some P := by
  have h2 := (List.getElem?_eq_some_iff.mp h1).1
  rw [xPs_len] at h2
  exact ⟨_, List.getElem?_eq_getElem h2⟩
theorem xmay_ok {aux : List Nat} {k : Nat} {ra : List Nat} {pc ln : Nat} {i0 : Instr} (hm : ∀ E q, r = .error (E, q) → xmay (pc, i0, ln, k :: ra) = true) (hk : 1 < k) : ∃ v, r = .ok v := by
  cases r with
  | ok v => exact ⟨v, rfl⟩
  | error q => exact absurd (of_decide_eq_true (hm q.1 q.2 rfl)) (by omega)
set_option maxHeartbeats 4000000 in
theorem xo_call (hck : xchk y cc hh e0 = true) (hs : xstep nL (xK xs) (xZ z) e0 loc st h = some (.inr (.inl (mi, as, loc1, st1, h1)))) (hM : ∃ M, xMs[mi]? = some M ∧ xMet xs z l d M as h1 r h') (hm : ∀ E q, r = .error (E, q) → xmay e0 = true)
    (S : xShared p R s m c cc nL d y.cls ls xs z b0 D tyC ad h H locs cells slots (h'.length - h.length) (xsz h' - xsz h)) :
    loc1 = loc ∧ h1 = h ∧ e0.2.2.1 = 3 ∧ vx_Run p l e R s m args below meth c H locs cells slots (h'.length - h.length) (xsz h' - xsz h) (F0 m e0.1 ls (st.map (xcV ad))) (st1.map (xcV ad)) (xQc b0 D tyC ad h r h' ((as.map (xcV ad)).toArray)) (xXC b0 D tyC ad h r h') (fun q => b0 ≤ q) := by
  obtain ⟨pc, i0, ln, aux⟩ := e0
  unfold xchk at hck
  obtain ⟨hd, hck⟩ := Bool.and_eq_true _ _ |>.mp hck
  obtain ⟨hlen, hk⟩ := Bool.and_eq_true _ _ |>.mp hck
  have hdg : decode cc pc = .ok (i0, ln) := of_decide_eq_true hd
  have hq := xstep_inr hs
  dsimp only at hlen hk hq hm ⊢
  clear hs hd hck
  obtain ⟨M, hM1, hM⟩ := hM
  rcases hq with ⟨i, rfl, hq⟩ | ⟨i, rfl, hq⟩ | ⟨i, rfl, hq⟩ | ⟨i, rfl, hq⟩ | ⟨rfl, hq⟩ | ⟨rfl, hq⟩ | ⟨rfl, hq⟩ | ⟨rfl, hq⟩ | ⟨rfl, hq⟩ | ⟨rfl, hq⟩
  · cases xnat_eq (n := 3) hlen
    obtain ⟨k, mi', n, I, rc, ra, rfl, hk9, hrv, hq⟩ := xvirt_inr hq
    obtain ⟨hn, hcat, ho⟩ := xcall_inr hq
    cases ho
    refine ⟨rfl, rfl, rfl, ?_⟩
    replace hk : xbvirt y.cls i (k :: mi :: n :: I :: rc :: ra) = true := hk
    obtain ⟨P, hP1⟩ := xP_some hM1
    unfold xbvirt at hk
    dsimp only at hk
    rw [decide_eq_false hk9] at hk
    dsimp only at hk
    rw [hM1, hP1] at hk
    dsimp only at hk
    simp only [Bool.and_eq_true, decide_eq_true_eq] at hk
    obtain ⟨k1, k2, k3, k4, k5⟩ := hk
    split at k5
    · rename_i hk0
      cases of_decide_eq_true hk0
      simp only [Bool.and_eq_true] at k5
      exact xc_virt0 S hM1 hP1 hM k1 k2 k3 k4 k5.1 k5.2.1 k5.2.2 hn hrv hcat hdg
    · split at k5
      · rename_i U J S0 mo ra' heq
        cases heq
        split at k5
        · rename_i Mo Po hMo hPo
          simp only [Bool.and_eq_true, decide_eq_true_eq] at k5
          obtain ⟨j0, j1, j2, j3, j4, j5, j6, j7, j8⟩ := k5
          subst j0
          obtain ⟨v, rfl⟩ := xmay_ok (aux := []) hm (by omega)
          exact xc_virt3 (mo := mo) (Mo := Mo) (Po := Po) S hM1 hP1 hM k1 k2 k3 k4 j1 j2 j3 (xwc_wd j4) j5 j6 j7 j8 hn hrv hcat hdg
        · cases k5
      · cases k5
  · cases xnat_eq (n := 3) hlen
    obtain ⟨k, mi', n, ra, rfl, hk8, hk10, hk11, hq⟩ := xstat_inr hq
    obtain ⟨hn, hcat, ho⟩ := xcall_inr hq
    cases ho
    refine ⟨rfl, rfl, rfl, ?_⟩
    replace hk : xbstat y.cls i (k :: mi :: n :: ra) = true := hk
    obtain ⟨P, hP1⟩ := xP_some hM1
    unfold xbstat at hk
    dsimp only at hk
    rw [decide_eq_false hk8, decide_eq_false hk10, decide_eq_false hk11] at hk
    dsimp only at hk
    rw [hM1, hP1] at hk
    dsimp only at hk
    simp only [Bool.and_eq_true] at hk
    obtain ⟨k1, k2, k3⟩ := hk
    split at k3
    · split at k3
      · exact xc_stat1 S hM1 hP1 hM k1 k2 k3 hn hcat hdg
      · simp only [Bool.and_eq_true, decide_eq_true_eq] at k3
        obtain ⟨j0, j1, j2⟩ := k3
        subst j0
        obtain ⟨v, rfl⟩ := xmay_ok (aux := []) hm (by omega)
        exact xc_stat6 S hM1 hP1 hM j1 k1 k2 j2 hn hcat hdg
    · cases k3
  · cases xnat_eq (n := 3) hlen
    obtain ⟨k, mi', n, ra, rfl, hk7, hrf, hr4, hq⟩ := xspec_inr hq
    obtain ⟨hn, hcat, ho⟩ := xcall_inr hq
    cases ho
    refine ⟨rfl, rfl, rfl, ?_⟩
    replace hk : xbspec y.cls i (k :: mi :: n :: ra) = true := hk
    obtain ⟨P, hP1⟩ := xP_some hM1
    unfold xbspec at hk
    dsimp only at hk
    rw [decide_eq_false hk7] at hk
    dsimp only at hk
    rw [hM1, hP1] at hk
    dsimp only at hk
    simp only [Bool.and_eq_true, decide_eq_true_eq] at hk
    obtain ⟨k1, k2, k3, k4, k5⟩ := hk
    split at k5
    · split at k5
      · rename_i h4
        cases of_decide_eq_true h4
        obtain ⟨v, rfl⟩ := xmay_ok (aux := []) hm (by omega)
        split at k5
        · simp only [Bool.and_eq_true, decide_eq_true_eq] at k5
          obtain ⟨j0, j1, j2, j3⟩ := k5
          exact xc_spec4 S hM1 hP1 hM k3 k1 k2 j3 k4 j0 j1 j2 hn (hr4 rfl) hcat hdg
        · cases k5
      · simp only [Bool.and_eq_true, decide_eq_true_eq] at k5
        obtain ⟨j0, j1, j2⟩ := k5
        split at j2
        · rename_i h2
          cases of_decide_eq_true h2
          obtain ⟨v, rfl⟩ := xmay_ok (aux := []) hm (by omega)
          exact xc_spec2 S hM1 hP1 hM k3 k1 k2 j0 j1 k4 j2 hn hrf hcat hdg
        · simp only [Bool.and_eq_true, decide_eq_true_eq] at j2
          obtain ⟨i0, i1⟩ := j2
          subst i0
          obtain ⟨v, rfl⟩ := xmay_ok (aux := []) hm (by omega)
          exact xc_spec5 S hM1 hP1 hM k3 k1 k2 j0 j1 k4 i1 hn hrf hcat hdg
    · cases k5
  · obtain ⟨i, ra, -, -, ho⟩ := xnewx_inr hq
    cases ho
  · obtain ⟨v, -, -, ho⟩ := xret_inr hq
    cases ho
  · obtain ⟨v, -, -, ho⟩ := xret_inr hq
    cases ho
  · obtain ⟨v, -, -, ho⟩ := xret_inr hq
    cases ho
  · obtain ⟨v, -, -, ho⟩ := xret_inr hq
    cases ho
  · obtain ⟨v, -, -, ho⟩ := xret_inr hq
    cases ho
  · obtain ⟨-, ho⟩ := xretv_inr hq
    cases ho
end XO2
end
section
/-! A BODY'S RUN IS TRUE TO THE MACHINE -/
section XH
variable {s : State} {own : String} {args : Array Value} {xs : List Int32} {z : Value} {b0 : Nat} {D : va_G} {tyC : Nat → ClassId} {ad ad' : Nat → Nat} {hb : xH} {H : Heap} {locs : List Loc}
def xhz (hhs : List (Nat × Nat × Nat × Nat)) (Es : List Nat) : List (Nat × Nat × Nat × Nat) := (hhs.zip Es).map fun q => (q.1.1, q.1.2.1, q.1.2.2.1, q.2)
def xpass (own : String) (X : String) (pc : Nat) (args : Array Value) (s : State) (w : ExceptionTableEntry) : Prop := covers w pc = false ∨ (w.catchType ≠ 0 ∧ ∃ nm : String, (Cond.classLink own w.catchType nm).before args s = true ∧ va_Nc X nm s)
theorem xhand_spec (hE : xEnv xs z b0 D tyC ad s) {E : Nat} {X : String} (hX : xEx[E]? = some X) (pc : Nat) : ∀ (hhs : List (Nat × Nat × Nat × Nat)) (Es Is : List Nat), xbhs own hhs Es Is = true →
    (xhand (xhz hhs Es) pc E = none → ∀ w ∈ tableOf hhs, xpass own X pc args s w) ∧
    (∀ t, xhand (xhz hhs Es) pc E = some t → ∃ pre x suf, tableOf hhs = pre ++ x :: suf ∧ (∀ w ∈ pre, xpass own X pc args s w) ∧ covers x pc = true ∧ x.catchType ≠ 0 ∧ (Cond.classLink own x.catchType X).before args s = true ∧ x.handlerPc = t) := by
  intro hhs
  induction hhs with
  | nil =>
    intro Es Is hb
    refine ⟨fun _ w hw => absurd hw List.not_mem_nil, fun t ht => ?_⟩
    cases ht
  | cons q hhs ih =>
    intro Es Is hb
    obtain ⟨a, b, t0, ct⟩ := q
    cases Es with
    | nil => cases Is <;> cases hb
    | cons E' Es =>
      cases Is with
      | nil => cases hb
      | cons I Is =>
        obtain ⟨h1, h2⟩ := Bool.and_eq_true _ _ |>.mp hb
        cases hX' : xEx[E']? with
        | none => rw [hX'] at h1; cases h1
        | some X' =>
          rw [hX'] at h1
          obtain ⟨h3, h4⟩ := Bool.and_eq_true _ _ |>.mp h1
          have h3 := of_decide_eq_true h3
          have h4 := xenv_w hE h4 args
          obtain ⟨i1, i2⟩ := ih Es Is h2
          have hunf : xhand (xhz ((a, b, t0, ct) :: hhs) (E' :: Es)) pc E = (match decide (a ≤ pc) && (decide (pc < b) && decide (E' = E)) with | true => some t0 | false => xhand (xhz hhs Es) pc E) := rfl
          cases hc : decide (a ≤ pc) && (decide (pc < b) && decide (E' = E)) with
          | true =>
            rw [hc] at hunf
            rw [hunf]
            obtain ⟨c1, c2⟩ := Bool.and_eq_true _ _ |>.mp hc
            obtain ⟨c2a, c3⟩ := Bool.and_eq_true _ _ |>.mp c2
            cases of_decide_eq_true c3
            cases Option.some.inj (hX.symm.trans hX')
            refine ⟨fun q => (nomatch q), fun t ht => ?_⟩
            cases ht
            exact ⟨[], ⟨a, b, t0, ct⟩, tableOf hhs, rfl, fun _ h => absurd h List.not_mem_nil, by show (decide (a ≤ pc) && decide (pc < b)) = true; rw [c1, c2a]; rfl, h3, h4, rfl⟩
          | false =>
            rw [hc] at hunf
            rw [hunf]
            have hp : xpass own X pc args s ⟨a, b, t0, ct⟩ := by
              by_cases hE' : E' = E
              · left
                subst hE'
                rw [decide_eq_true (show E' = E' from rfl), Bool.and_true] at hc
                exact hc
              · right
                refine ⟨h3, X', h4, ?_⟩
                refine hE.2.2.2.2.2.2.2.2.1 X X' (List.mem_of_getElem? hX) (List.mem_of_getElem? hX') ?_
                rintro rfl
                have nd : xEx.Nodup := by decide
                exact hE' ((List.getElem?_inj (i := E') (j := E) (List.getElem?_eq_some_iff.mp hX').1 nd).mp (hX'.trans hX.symm))
            refine ⟨fun q w hw => ?_, fun t ht => ?_⟩
            · rcases List.mem_cons.mp hw with rfl | hw
              · exact hp
              · exact i1 q w hw
            · obtain ⟨pre, x, suf, e1, e2, e3⟩ := i2 t ht
              refine ⟨⟨a, b, t0, ct⟩ :: pre, x, suf, ?_, ?_, e3⟩
              · show _ :: tableOf hhs = _
                rw [e1]; rfl
              · intro w hw
                rcases List.mem_cons.mp hw with rfl | hw
                · exact hp
                · exact e2 w hw
theorem xcast_X (hE : xEnv xs z b0 D tyC ad s) {E : Nat} {X : String} (hX : xEx[E]? = some X) : (Cond.castable X X).before args s = true := by
  have h1 := of_decide_eq_true (List.all_eq_true.mp xcast_ok X (List.mem_of_getElem? hX))
  have h2 : xgd (Cond.castable X X) = true := by
    unfold xgd
    rw [Bool.or_eq_true]
    exact Or.inr rfl
  exact va_Nw.use (xgd_tab h2) (hE.1 _ (Or.inl h1) h2)
/-- the exception's own cell -/
theorem xpush40 (hR : xRel b0 D tyC ad hb s H locs) (hsc : xscH hb) (ha : ∀ i, i < hb.length → ad' i = ad i) (hk : ∀ i, 1000000 ≤ i → ad' i = ad i) {vs : List Value} : xRel b0 D tyC ad' (hb ++ [(40, vs)]) s H locs := by
  have hs : ∀ (j : Nat) (f : Nat × List Value), (hb ++ [(40, vs)])[j]? = some f → f.1 ≠ 40 → j < hb.length ∧ hb[j]? = some f := by
    intro j f hj hf
    by_cases hl : j < hb.length
    · rw [List.getElem?_append_left hl] at hj
      exact ⟨hl, hj⟩
    · rw [List.getElem?_append_right (Nat.not_lt.mp hl)] at hj
      have hm := List.mem_of_getElem? hj
      rw [List.mem_singleton] at hm
      subst hm
      exact absurd rfl hf
  obtain ⟨hP, hI, hbd, hS⟩ := hR
  refine ⟨fun j f hj hf => ?_, fun i j f g hi hj hf hg hij => ?_, fun i f hi hf => ?_, hS⟩
  · obtain ⟨hl, hj⟩ := hs j f hj hf
    rw [ha j hl, xcE_ext (n := hb.length) (fun i hi => hi.elim (ha i) (hk i)) (hsc f (List.mem_of_getElem? hj))]
    exact hP j f hj hf
  · obtain ⟨hl, hi⟩ := hs i f hi hf
    obtain ⟨hl', hj⟩ := hs j g hj hg
    rw [ha i hl, ha j hl'] at hij
    exact hI i j f g hi hj hf hg hij
  · obtain ⟨hl, hi⟩ := hs i f hi hf
    rw [ha i hl]
    exact hbd i f hi hf
theorem xseek_spec (t : Nat) : ∀ code : List xE, (∀ e ∈ xseek code t, e ∈ code) ∧ (xchain code = true → xchain (xseek code t) = true) ∧ (∀ e r, xseek code t = e :: r → e.1 = t) := by
  intro code
  induction code with
  | nil => exact ⟨fun e h => h, fun h => h, fun e r h => (nomatch h)⟩
  | cons e r ih =>
    unfold xseek
    split
    · rename_i h
      exact ⟨fun e h => h, fun h => h, fun e' r' q => by cases q; exact of_decide_eq_true h⟩
    · refine ⟨fun e h => List.mem_cons_of_mem _ (ih.1 e h), fun h => ih.2.1 ?_, ih.2.2⟩
      cases r with
      | nil => rfl
      | cons f r => exact (Bool.and_eq_true _ _ |>.mp h).2
theorem xchain_tail {e : xE} {cs : List xE} (h : xchain (e :: cs) = true) : xchain cs = true ∧ ∀ f, cs.head? = some f → f.1 = e.1 + e.2.2.1 := by
  cases cs with
  | nil => exact ⟨rfl, fun f q => (nomatch q)⟩
  | cons f r =>
    obtain ⟨h1, h2⟩ := Bool.and_eq_true _ _ |>.mp h
    exact ⟨h2, fun g q => by cases q; exact of_decide_eq_true h1⟩
end XH
section XW
variable {p : Program} {l : Launch} {e : Env} {R : Room} {s : State} {m : MethodId} {args : Array Value} {below : List Frame} {meth : Method} {c : Code} {Q : State → Prop}
variable {cc : ByteArray} {nL d : Nat} {b0 : Nat} {D : va_G} {tyC : Nat → ClassId} {ad0 : Nat → Nat} {xs : List Int32} {z : Value} {y : MethodName} {hh : Bool} {code : List xE} {call : Nat → List Value → xH → Option (xA × xH)}
variable {hhs : List (Nat × Nat × Nat × Nat)} {Es Is : List Nat} {Cm Sm : Nat} {h0 hf : xH} {rr : xA}
set_option maxHeartbeats 4000000 in
theorem xdrive (hx : p.tables.exec = Jvm.exec) (hb : c.code = cc) (hml : c.maxLocals = nL) (hown : s.vm.findClass y.cls = some m.cls) (hmn : meth.name = y.name) (hE : xEnv xs z b0 D tyC ad0 s) (hz : xsc 0 z)
    (hRf : d + 9 ≤ R.frames) (hRl : 40 * d + 240 ≤ R.locals) (hRc : Cm ≤ R.cells) (hRs : Sm ≤ R.slots) (htab : hhs ≠ [] → c.exceptionTable.toList = tableOf hhs) (hbh : xbhs y.cls hhs Es Is = true)
    (hck : ∀ e ∈ code, xchk y cc hh e = true) (hch : xchain code = true) (hcg : xcg call) (hcall : ∀ mi as h r h', call mi as h = some (r, h') → xscH h → (∀ v ∈ as, xsc h.length v) → ∃ M, xMs[mi]? = some M ∧ xMet xs z l d M as h r h')
    (kret : ∀ (e0 : xE) (v : Option Value) (loc : xL) (st : List Value) (ad : Nat → Nat) (H : Heap) (locs : List Loc) (ls : Array Slot) (cells slots : Nat), xchk y cc hh e0 = true → xstep nL (xK xs) (xZ z) e0 loc st hf = some (.inr (.inr (.inl (v, hf)))) → rr = .ok v → (∀ i, (i < h0.length ∨ 1000000 ≤ i) → ad i = ad0 i) → xRel b0 D tyC ad hf s H locs → lv_has ls nL (xlc ad loc) → cells ≤ Cm → slots ≤ Sm → W p l e R s m args below meth c H locs cells slots Q (F0 m e0.1 ls (st.map (xcV ad))))
    (kout : ∀ (pc E : Nat) (X : String) (rest : List Value) (hb : xH) (ad : Nat → Nat) (H : Heap) (locs : List Loc) (ls : Array Slot) (cells slots : Nat) (q9 : Addr) (ce : Cell), rr = .error (E, hb.length) → hf = hb ++ [(40, List.replicate 6 .null)] → xEx[E]? = some X → (∀ w ∈ tableOf hhs, xpass y.cls X pc args s w) → (∀ i, (i < h0.length ∨ 1000000 ≤ i) → ad i = ad0 i) → xRel b0 D tyC ad hb s H locs → H[q9]? = some ce → ce.vm = .none → s.vm.findClass X = some ce.cls → cells ≤ Cm → slots ≤ Sm → vx_W p l e R s m args below meth c H locs cells slots Q (F0 m pc ls rest) q9)
    (knew : ∀ (e0 : xE) (E : Nat) (loc : xL) (st : List Value) (hb : xH) (ad : Nat → Nat) (H : Heap) (locs : List Loc) (ls : Array Slot) (cells slots : Nat), xchk y cc hh e0 = true → xstep nL (xK xs) (xZ z) e0 loc st hb = some (.inr (.inr (.inr (E, hb)))) → rr = .error (E, hb.length) → hf = hb ++ [(40, List.replicate 6 .null)] → (∀ i, (i < h0.length ∨ 1000000 ≤ i) → ad i = ad0 i) → xRel b0 D tyC ad hb s H locs → lv_has ls nL (xlc ad loc) → cells + 1 ≤ Cm → slots + 6 ≤ Sm → W p l e R s m args below meth c H locs cells slots Q (F0 m e0.1 ls (st.map (xcV ad)))) :
    ∀ (n : Nat) (cs : List xE) (loc : xL) (st : List Value) (h : xH) (ad : Nat → Nat) (H : Heap) (locs : List Loc) (ls : Array Slot) (cells slots : Nat), (∀ e ∈ cs, e ∈ code) → xchain cs = true → xev call nL (xK xs) (xZ z) (xhz hhs Es) code n cs loc st h = some (rr, hf) → xok (h0.length, xsz h0) h loc st → (∀ i, (i < h0.length ∨ 1000000 ≤ i) → ad i = ad0 i) → xRel b0 D tyC ad h s H locs → lv_has ls nL (xlc ad loc) → cells + (hf.length - h.length) ≤ Cm → slots + (xsz hf - xsz h) ≤ Sm →
      ∀ e0, cs.head? = some e0 → W p l e R s m args below meth c H locs cells slots Q (F0 m e0.1 ls (st.map (xcV ad))) := by
  have hcon := xcon_K xs z hz
  intro n
  induction n with
  | zero =>
    intro cs loc st h ad H locs ls cells slots _ _ hr
    cases hr
  | succ n ih =>
    intro cs loc st h ad H locs ls cells slots hcs hcc hr hok ha hR hl hc hs e0 he0
    cases cs with
    | nil => cases hr
    | cons e1 cs =>
      have he9 : e1 = e0 := Option.some.inj he0
      subst he9
      have hchk := hck e1 (hcs e1 List.mem_cons_self)
      obtain ⟨hcc', hpc⟩ := xchain_tail hcc
      have hcs' : ∀ e ∈ cs, e ∈ code := fun e h => hcs e (List.mem_cons_of_mem _ h)
      have hEa : xEnv xs z b0 D tyC ad s := xEnv_ext hz (fun i hi => ha i (Or.inr hi)) hE
      have hself := xok_self hok
      have hfin := (xgoodA_ok (xev_good hcon hcg _ _ _ _ _ _ _ _ hr hself)).1
      rw [xev] at hr
      split at hr
      · cases hr
      · rename_i loc1 st1 h1 hs1
        have g1 : xok (h0.length, xsz h0) h1 loc1 st1 := xstep_good hcon hs1 hok
        have g2 : xok (h.length, xsz h) h1 loc1 st1 := xstep_good hcon hs1 hself
        have hm1 := (xgoodA_ok (xev_good hcon hcg _ _ _ _ _ _ _ _ hr (xok_self g1))).1
        dsimp only at hm1 g2
        have k1 := g2.1
        dsimp only at k1
        cases cs with
        | nil => cases n <;> cases hr
        | cons e2 cs =>
          refine xo_step hx hb hml hown hmn hEa (by omega) (by omega) hchk hs1 hok ⟨by omega, by omega⟩ hR hl ?_
          intro ad' H' locs' ls' ha' hR' hl'
          have := ih (e2 :: cs) loc1 st1 h1 ad' H' locs' ls' (cells + (h1.length - h.length)) (slots + (xsz h1 - xsz h)) hcs' hcc' hr g1 (fun i hi => (ha' i (hi.imp_left fun q => Nat.lt_of_lt_of_le q hok.1.1)).trans (ha i hi)) hR' hl' (by omega) (by omega) e2 rfl
          rw [hpc e2 rfl] at this
          exact this
      · rename_i t loc1 st1 h1 hs1
        have g1 : xok (h0.length, xsz h0) h1 loc1 st1 := xstep_good hcon hs1 hok
        have g2 : xok (h.length, xsz h) h1 loc1 st1 := xstep_good hcon hs1 hself
        have hm1 := (xgoodA_ok (xev_good hcon hcg _ _ _ _ _ _ _ _ hr (xok_self g1))).1
        dsimp only at hm1
        have k1 := g2.1
        dsimp only at k1
        obtain ⟨s1, s2, s3⟩ := xseek_spec t code
        cases hsk : xseek code t with
        | nil => rw [hsk] at hr; cases n <;> cases hr
        | cons e2 cs2 =>
          refine xo_step hx hb hml hown hmn hEa (by omega) (by omega) hchk hs1 hok ⟨by omega, by omega⟩ hR hl ?_
          intro ad' H' locs' ls' ha' hR' hl'
          have := ih _ loc1 st1 h1 ad' H' locs' ls' (cells + (h1.length - h.length)) (slots + (xsz h1 - xsz h)) s1 (s2 hch) hr g1 (fun i hi => (ha' i (hi.imp_left fun q => Nat.lt_of_lt_of_le q hok.1.1)).trans (ha i hi)) hR' hl' (by omega) (by omega) e2 (by rw [hsk]; rfl)
          rw [s3 e2 cs2 hsk] at this
          exact this
      · rename_i mi as loc1 st1 h1 hs1
        have g1 : xok (h0.length, xsz h0) h1 loc1 (as ++ st1) := xstep_good hcon hs1 hok
        have hcl1 : ∀ r2 h2, call mi as h1 = some (r2, h2) → xgoodA (h1.length, xsz h1) r2 h2 := fun r2 h2 hq => hcg _ _ _ _ _ hq g1.2.1 (fun v hv => g1.2.2.2 v (List.mem_append_left _ hv))
        have hrun : ∀ r2 h2, call mi as h1 = some (r2, h2) → (∀ E q, r2 = .error (E, q) → xmay e1 = true) → cells + (h2.length - h.length) ≤ R.cells → slots + (xsz h2 - xsz h) ≤ R.slots → loc1 = loc ∧ h1 = h ∧ e1.2.2.1 = 3 ∧ vx_Run p l e R s m args below meth c H locs cells slots (h2.length - h.length) (xsz h2 - xsz h) (F0 m e1.1 ls (st.map (xcV ad))) (st1.map (xcV ad)) (xQc b0 D tyC ad h r2 h2 ((as.map (xcV ad)).toArray)) (xXC b0 D tyC ad h r2 h2) (fun q => b0 ≤ q) :=
          fun r2 h2 hq hm2 hc2 hs2 => xo_call hchk hs1 (hcall _ _ _ _ _ hq g1.2.1 (fun v hv => g1.2.2.2 v (List.mem_append_left _ hv))) hm2 ⟨hx, hb, hml, hown, hEa, hR, hl.1, hRf, hRl, hc2, hs2⟩
        split at hr
        · cases hr
        · rename_i v h2 hcl
          have k2 := hcl1 _ _ hcl
          have hg3 : xok (h0.length, xsz h0) h2 loc1 (v.toList ++ st1) := by
            refine xok_mono g1 ⟨k2.1, k2.2.1⟩ (fun w hw => ?_)
            rcases List.mem_append.mp hw with hw | hw
            · exact Or.inl (k2.2.2.2 w hw)
            · exact Or.inr (List.mem_append_right _ hw)
          have hm1 := (xgoodA_ok (xev_good hcon hcg _ _ _ _ _ _ _ _ hr (xok_self hg3))).1
          dsimp only at hm1
          have k3 := k2.1
          dsimp only at k3
          have k4 : h.length ≤ h1.length ∧ xsz h ≤ xsz h1 := (xstep_good hcon hs1 hself : xok (h.length, xsz h) h1 loc1 (as ++ st1)).1
          obtain ⟨rfl, rfl, hln, hvr⟩ := hrun _ _ hcl (fun E q hq => by cases hq) (by omega) (by omega)
          cases cs with
          | nil => cases n <;> cases hr
          | cons e2 cs =>
            refine xgo_call hvr hR.2.2.2 (fun v' hv' ad' H1 locs1 ha' hR' => ?_) (fun E q hb' X hq => by cases hq)
            cases hv'
            have hsub : ∀ w ∈ st1, xcV ad' w = xcV ad w := fun w hw => xcV_ext ha' (g1.2.2.2 w (List.mem_append_right _ hw))
            have hst : (v.map (xcV ad')).toList ++ st1.map (xcV ad) = (v.toList ++ st1).map (xcV ad') := by
              rw [List.map_append, List.map_congr_left hsub]
              cases v <;> rfl
            rw [hst]
            have := ih (e2 :: cs) loc1 (v.toList ++ st1) h2 ad' H1 locs1 ls (cells + (h2.length - h1.length)) (slots + (xsz h2 - xsz h1)) hcs' hcc' hr hg3 (fun i hi => (ha' i (hi.imp_left fun q => Nat.lt_of_lt_of_le q hok.1.1)).trans (ha i hi)) hR' (by rw [xlc_ext ha' hok.2.2.1]; exact hl) (by omega) (by omega) e2 rfl
            rw [hpc e2 rfl, hln] at this
            exact this
        · rename_i E q h2 hcl
          have k2 := hcl1 _ _ hcl
          obtain ⟨hq9, hb9, eh, eq9, ⟨hle9, hsc9⟩, kk9⟩ := k2
          have k3 := kk9.1
          dsimp only at k3
          have k4 : h.length ≤ h1.length ∧ xsz h ≤ xsz h1 := (xstep_good hcon hs1 hself : xok (h.length, xsz h) h1 loc1 (as ++ st1)).1
          split at hr
          · rename_i hmay
            have key : hf.length ≥ h2.length ∧ xsz hf ≥ xsz h2 := by
              split at hr
              · have hg3 : xok (h0.length, xsz h0) h2 loc1 [.ref q] := xok_mono g1 ⟨k3, kk9.2.1⟩ (fun w hw => Or.inl (kk9.2.2.2 w hw))
                have hm1 := (xgoodA_ok (xev_good hcon hcg _ _ _ _ _ _ _ _ hr (xok_self hg3))).1
                exact hm1
              · cases hr
                exact ⟨Nat.le_refl _, Nat.le_refl _⟩
            obtain ⟨rfl, rfl, hln, hvr⟩ := hrun _ _ hcl (fun _ _ _ => hmay) (by omega) (by omega)
            refine xgo_call hvr hR.2.2.2 (fun v' hv' => by cases hv') (fun E1 q1 hb1 X hq1 heq1 hql hX ad' H1 locs1 q2 ce ha' hR' hce hcv hcl1' => ?_)
            cases hq1
            have hbb : hb1 = hb9 := (List.append_inj' (heq1.symm.trans eh) rfl).1
            subst hbb
            obtain ⟨x1, x2⟩ := xhand_spec (args := args) hEa hX e1.1 hhs Es Is hbh
            split at hr
            · rename_i t ht
              obtain ⟨pre, x, suf, t1, t2, t3, t4, t5, t6⟩ := x2 t ht
              obtain ⟨s1, s2, s3⟩ := xseek_spec t code
              have hg3 : xok (h0.length, xsz h0) h2 loc1 [.ref q] := xok_mono g1 ⟨k3, kk9.2.1⟩ (fun w hw => Or.inl (kk9.2.2.2 w hw))
              have hlt : h1.length ≤ hb1.length := hle9
              cases hsk : xseek code t with
              | nil => rw [hsk] at hr; cases n <;> cases hr
              | cons e2 cs2 =>
                refine vx_catch (own := y.cls) (name := X) (E := X) (ce := ce) hown pre x suf ((htab (fun q => by rw [q] at t1; cases pre <;> cases t1)).trans t1) t2 t3 t4 t5 (xcast_X hEa hX) hce hcv hcl1' ?_
                rw [t6]
                have hk1 : ∀ i, i < hb1.length → (fun i => if i = hb1.length then q2 else ad' i) i = ad' i := fun i hi => if_neg (by omega)
                have hk2 : ∀ i, 1000000 ≤ i → (fun i => if i = hb1.length then q2 else ad' i) i = ad' i := fun i hi => if_neg (by omega)
                have hR2 : xRel b0 D tyC (fun i => if i = hb1.length then q2 else ad' i) h2 s H1 locs1 := by rw [eh]; exact xpush40 hR' hsc9 hk1 hk2
                have ha2 : ∀ i, (i < h1.length ∨ 1000000 ≤ i) → (fun i => if i = hb1.length then q2 else ad' i) i = ad i := fun i hi => by
                  rw [← ha' i hi]
                  exact hi.elim (fun q => hk1 i (by omega)) (hk2 i)
                have := ih _ loc1 [.ref q] h2 (fun i => if i = hb1.length then q2 else ad' i) H1 locs1 ls (cells + (h2.length - h1.length)) (slots + (xsz h2 - xsz h1)) s1 (s2 hch) hr hg3 (fun i hi => (ha2 i (hi.imp_left fun q => Nat.lt_of_lt_of_le q hok.1.1)).trans (ha i hi)) hR2 (by rw [xlc_ext ha2 hok.2.2.1]; exact hl) (by omega) (by omega) e2 (by rw [hsk]; rfl)
                rw [s3 e2 cs2 hsk] at this
                have he : ([Value.ref q] : List Value).map (xcV fun i => if i = hb1.length then q2 else ad' i) = [.ref q2] := by
                  rw [eq9]
                  show [Value.ref (if hb1.length = hb1.length then q2 else ad' hb1.length)] = _
                  rw [if_pos rfl]
                rw [he] at this
                exact this
            · rename_i hno
              cases hr
              exact kout e1.1 E X _ hb1 ad' H1 locs1 ls _ _ q2 ce (by rw [eq9]) eh hX (x1 hno) (fun i hi => (ha' i (hi.imp_left fun q => Nat.lt_of_lt_of_le q hok.1.1)).trans (ha i hi)) hR' hce hcv hcl1' (by omega) (by omega)
          · cases hr
      · rename_i v h1 hs1
        have he : h1 = h := by
          rcases xstep_inr hs1 with ⟨i, -, hq⟩ | ⟨i, -, hq⟩ | ⟨i, -, hq⟩ | ⟨i, -, hq⟩ | ⟨-, hq⟩ | ⟨-, hq⟩ | ⟨-, hq⟩ | ⟨-, hq⟩ | ⟨-, hq⟩ | ⟨-, hq⟩
          · obtain ⟨k, mi', n, I, rc, ra, -, -, -, hq⟩ := xvirt_inr hq
            cases (xcall_inr hq).2.2
          · obtain ⟨k, mi', n, ra, -, -, -, -, hq⟩ := xstat_inr hq
            cases (xcall_inr hq).2.2
          · obtain ⟨k, mi', n, ra, -, -, -, -, hq⟩ := xspec_inr hq
            cases (xcall_inr hq).2.2
          · obtain ⟨i, ra, -, -, ho⟩ := xnewx_inr hq
            cases ho
          · obtain ⟨w, -, -, ho⟩ := xret_inr hq
            cases ho; rfl
          · obtain ⟨w, -, -, ho⟩ := xret_inr hq
            cases ho; rfl
          · obtain ⟨w, -, -, ho⟩ := xret_inr hq
            cases ho; rfl
          · obtain ⟨w, -, -, ho⟩ := xret_inr hq
            cases ho; rfl
          · obtain ⟨w, -, -, ho⟩ := xret_inr hq
            cases ho; rfl
          · obtain ⟨-, ho⟩ := xretv_inr hq
            cases ho; rfl
        cases he
        cases hr
        exact kret e1 v loc st ad H locs ls cells slots hchk hs1 rfl ha hR hl (by omega) (by omega)
      · rename_i E h1 hs1
        have he : h1 = h := by
          rcases xstep_inr hs1 with ⟨i, -, hq⟩ | ⟨i, -, hq⟩ | ⟨i, -, hq⟩ | ⟨i, -, hq⟩ | ⟨-, hq⟩ | ⟨-, hq⟩ | ⟨-, hq⟩ | ⟨-, hq⟩ | ⟨-, hq⟩ | ⟨-, hq⟩
          · obtain ⟨k, mi', n, I, rc, ra, -, -, -, hq⟩ := xvirt_inr hq
            cases (xcall_inr hq).2.2
          · obtain ⟨k, mi', n, ra, -, -, -, -, hq⟩ := xstat_inr hq
            cases (xcall_inr hq).2.2
          · obtain ⟨k, mi', n, ra, -, -, -, -, hq⟩ := xspec_inr hq
            cases (xcall_inr hq).2.2
          · obtain ⟨i, ra, -, -, ho⟩ := xnewx_inr hq
            cases ho; rfl
          · obtain ⟨w, -, -, ho⟩ := xret_inr hq
            cases ho
          · obtain ⟨w, -, -, ho⟩ := xret_inr hq
            cases ho
          · obtain ⟨w, -, -, ho⟩ := xret_inr hq
            cases ho
          · obtain ⟨w, -, -, ho⟩ := xret_inr hq
            cases ho
          · obtain ⟨w, -, -, ho⟩ := xret_inr hq
            cases ho
          · obtain ⟨-, ho⟩ := xretv_inr hq
            cases ho
        cases he
        split at hr
        · cases hr
          rw [List.length_append] at hc
          rw [xsz_push] at hs
          have e6 : ([(40, List.replicate 6 Value.null)] : xH).length = 1 := rfl
          have e7 : ((40, List.replicate 6 Value.null) : Nat × List Value).2.length = 6 := rfl
          exact knew e1 E loc st _ ad H locs ls cells slots hchk hs1 rfl rfl ha hR hl (by omega) (by omega)
        · cases hr
end XW
end
section
/-! EVERY METHOD'S RUN IS TRUE TO THE MACHINE -/
section XSD
variable {l : Launch}
theorem xofW {y : MethodName} {ws ws' : List Cond} {rm : Room} {Pc : Array Value → State → Prop} {Qc : Array Value → State → Outcome → State → Prop} {XC : String → State → State → Prop} {mc ms : Nat} {free : Addr → Prop} {cc : ByteArray} {maxL : Nat} {ret : Option FieldType}
    (hy : plainFor y = true) (hw : ws = Cond.code y cc maxL ret :: ws')
    (body : ∀ p e s m args below meth c s₁, BodyLoose p l y (headSpec ws rm) cc maxL ret e s m args below meth c s₁ → c.maxLocals = maxL → c.exceptionTable.toList = [] → Pc args s →
      W p l e (headSpec ws rm).room s m args below meth c s.heap [] 0 0 (vx_MQ below Qc XC args s mc ms free) (entryFrame m args maxL)) : vx_Met l y ws rm Pc Qc XC mc ms free := by
  refine MetFree.of_bodySF (code := cc) (maxLocals := maxL) (ret := ret) hy ?_ ?_
  · intro args s m h hn
    obtain ⟨meth, c, h1, h2, h3, h4, h5, h6, -, -⟩ := Cond.code_spec hn (atoms_spec (ws := ws) h _ (by rw [hw]; exact List.mem_cons_self))
    exact ⟨meth, c, h1, h2, h3, h4, h5, h6⟩
  · intro p e s m args below meth c s₁ B hml hP _
    have hh0 : s₁.heap = s.heap := by rw [B.state]; rfl
    have ht : c.exceptionTable.toList = [] := by
      obtain ⟨meth9, c9, h1, h2, -, -, -, -, h7, -⟩ := Cond.code_spec B.named (atoms_spec (ws := ws) B.pre _ (by rw [hw]; exact List.mem_cons_self))
      cases Option.some.inj (h1.symm.trans B.method)
      cases Option.some.inj (h2.symm.trans (Stand.of_body B).code)
      rw [Array.isEmpty_iff.mp h7]
    obtain ⟨t, a1, o, b1, b2, b3⟩ := body p e s m args below meth c s₁ B hml ht hP s₁ hh0 (Stand.of_body B)
    exact ⟨t, o, a1, b1, b2, b3⟩
theorem xofWH {y : MethodName} {ws ws' : List Cond} {rm : Room} {Pc : Array Value → State → Prop} {Qc : Array Value → State → Outcome → State → Prop} {XC : String → State → State → Prop} {mc ms : Nat} {free : Addr → Prop} {cc : ByteArray} {maxL : Nat} {ret : Option FieldType} {hh : List (Nat × Nat × Nat × Nat)}
    (hy : plainFor y = true) (hw : ws = Cond.codeWith y cc maxL ret hh :: ws')
    (body : ∀ p e s m args below meth c s₁, BodyLoose p l y (headSpec ws rm) cc maxL ret e s m args below meth c s₁ → c.maxLocals = maxL → c.exceptionTable.toList = tableOf hh → Pc args s →
      W p l e (headSpec ws rm).room s m args below meth c s.heap [] 0 0 (vx_MQ below Qc XC args s mc ms free) (entryFrame m args maxL)) : vx_Met l y ws rm Pc Qc XC mc ms free := by
  refine MetFree.of_bodySF (code := cc) (maxLocals := maxL) (ret := ret) hy ?_ ?_
  · intro args s m h hn
    obtain ⟨m9, meth, c, hn9, h1, h2, h3, h4, -, h5, h6, -⟩ := Cond.codeWith_spec (atoms_spec (ws := ws) h _ (by rw [hw]; exact List.mem_cons_self))
    cases hn.symm.trans hn9
    exact ⟨meth, c, h1, h2, h3, h4, h5, h6⟩
  · intro p e s m args below meth c s₁ B hml hP _
    have hh0 : s₁.heap = s.heap := by rw [B.state]; rfl
    obtain ⟨t, a1, o, b1, b2, b3⟩ := body p e s m args below meth c s₁ B hml (vx_table (x := y) B (atoms_spec (ws := ws) B.pre _ (by rw [hw]; exact List.mem_cons_self))) hP s₁ hh0 (Stand.of_body B)
    exact ⟨t, o, a1, b1, b2, b3⟩
theorem lg_sl_len (vs : List Value) : (lg_sl vs).length = (vs.map fun v => v.category).sum := by
  induction vs with
  | nil => rfl
  | cons v vs ih =>
    have h1 : lg_sl (v :: vs) = (if v.category = 2 then [Slot.val v, .second] else [.val v]) ++ lg_sl vs := rfl
    rw [h1, List.length_append, ih, List.map_cons, List.sum_cons]
    cases v <;> rfl
theorem xargs_map (ad : Nat → Nat) : ∀ (vs : List Value) (i : Nat), lv_args i (vs.map (xcV ad)) = xlc ad (lv_args i vs) := by
  intro vs
  induction vs with
  | nil => intro i; rfl
  | cons v vs ih =>
    intro i
    show (i, xcV ad v) :: lv_args _ (vs.map (xcV ad)) = (i, xcV ad v) :: xlc ad _
    rw [ih, xcV_cat]
/-- the body of a method, whatever its handlers -/
theorem xbody {p : Program} {e : Env} {s : State} {m : MethodId} {args0 : Array Value} {below : List Frame} {meth : Method} {c : Code} {R : Room} {xs : List Int32} {z : Value} (hl : l.stackTraces = false) (hz : xsc 0 z) {d f : Nat} {M : xMi} {P : List Nat} {mi : Nat} (hM : xMs[mi]? = some M) (hP : xPs[mi]? = some P)
    (hcall : ∀ mi as h r h', xgo xMs (xK xs) (xZ z) d f mi as h = some (r, h') → xscH h → (∀ v ∈ as, xsc h.length v) → ∃ M, xMs[mi]? = some M ∧ xMet xs z l d M as h r h')
    {args : List Value} {h h' : xH} {r : xA} (hcat : (args.map fun v => v.category).sum ≤ M.2.2.1) (hr : xev (xgo xMs (xK xs) (xZ z) d f) M.2.2.1 (xK xs) (xZ z) (xhs M) M.2.2.2.2.2.2 f M.2.2.2.2.2.2 (lv_args 0 args) [] h = some (r, h')) (hfit : ∀ v, r = .ok v → xrfit M.2.2.2.1 v = true)
    (hsc : xscH h) (hargs : ∀ v ∈ args, xsc h.length v) {b0 : Nat} {D : va_G} {tyC : Nat → ClassId} {ad : Nat → Nat}
    (hx : p.tables.exec = Jvm.exec) (hb : c.code = M.2.1) (hml : c.maxLocals = M.2.2.1) (hown : s.vm.findClass M.1.cls = some m.cls) (hmn : meth.name = M.1.name) (hlocks : meth.locks = false) (hret : meth.sig.returnType = M.2.2.2.1) (htab : c.exceptionTable.toList = tableOf M.2.2.2.2.1)
    (hRf : d + 9 ≤ R.frames) (hRl : 40 * d + 240 ≤ R.locals) (hRc : h'.length - h.length ≤ R.cells) (hRs : xsz h' - xsz h ≤ R.slots) (hE : xEnv xs z b0 D tyC ad s) (hR : xRel b0 D tyC ad h s s.heap []) :
    W p l e R s m args0 below meth c s.heap [] 0 0 (vx_MQ below (xQc b0 D tyC ad h r h') (xXC b0 D tyC ad h r h') args0 s (h'.length - h.length) (xsz h' - xsz h) (fun q => b0 ≤ q)) (entryFrame m (args.map (xcV ad)).toArray M.2.2.1) := by
  obtain ⟨v1, v2, v3, v4, v5, v6, v7, v8, v9⟩ := xbm_spec (xbm_at hM hP)
  rw [lg_entry_eq]
  have hlen : (lg_sl (args.map (xcV ad))).length ≤ M.2.2.1 := by
    rw [lg_sl_len, List.map_map]
    have : (fun v : Value => v.category) ∘ xcV ad = fun v => v.category := funext fun v => xcV_cat ad v
    rw [this]
    exact hcat
  have hlv := lv_entry (args.map (xcV ad)) hlen
  rw [xargs_map] at hlv
  cases hcs : M.2.2.2.2.2.2 with
  | nil => rw [hcs] at hr; cases f <;> cases hr
  | cons e1 cs =>
    have he1 : e1.1 = 0 := by
      rw [hcs] at v7
      exact Option.some.inj v7
    have main := xdrive (p := p) (l := l) (e := e) (R := R) (s := s) (m := m) (args := args0) (below := below) (meth := meth) (c := c) (Q := vx_MQ below (xQc b0 D tyC ad h r h') (xXC b0 D tyC ad h r h') args0 s (h'.length - h.length) (xsz h' - xsz h) (fun q => b0 ≤ q)) (cc := M.2.1) (nL := M.2.2.1) (d := d) (ad0 := ad) (y := M.1) (hh := !M.2.2.2.2.1.isEmpty) (code := M.2.2.2.2.2.2) (call := xgo xMs (xK xs) (xZ z) d f) (hhs := M.2.2.2.2.1) (Es := M.2.2.2.2.2.1) (Is := P.drop 5) (Cm := h'.length - h.length) (Sm := xsz h' - xsz h) (h0 := h) (hf := h') (rr := r) (D := D) (tyC := tyC) (b0 := b0)
      hx hb hml hown hmn hE hz hRf hRl hRc hRs (fun _ => htab) v8 v9 v6 (xgo_good (xcon_K xs z hz) d f) hcall ?_ ?_ ?_ f M.2.2.2.2.2.2 (lv_args 0 args) [] h ad s.heap [] _ 0 0 (fun e h => h) v6 hr ⟨⟨Nat.le_refl _, Nat.le_refl _⟩, hsc, fun q hq => hargs _ (lv_args_mem args 0 q hq), fun v hv => absurd hv List.not_mem_nil⟩ (fun i _ => rfl) hR hlv (by omega) (by omega) e1 (by rw [hcs]; rfl)
    · rw [he1] at main
      exact main
    · -- returns
      intro e0 v loc st ad1 H locs ls cells slots hck hs hv ha hR1 hl1 hc hs1
      have hf := hfit v hv
      have hq : ∀ t : State, t.heap = H → s.WarmedH t.vm → ∀ w, v.map (xcV ad1) = w → xQc b0 D tyC ad h r h' args0 s (.returned w) t := fun t ht _ w hw => ⟨v, hv, ad1, ha, by rw [hw], by rw [ht]; exact hR1.1, hR1.2.1, hR1.2.2.1, hR1.2.2.2.F ht⟩
      have hfr : ∀ q ∈ locs, (fun q => b0 ≤ q) q.base := hR1.2.2.2.2.2
      obtain ⟨pc, i0, ln, aux⟩ := e0
      unfold xchk at hck
      obtain ⟨hd, hck⟩ := Bool.and_eq_true _ _ |>.mp hck
      obtain ⟨hlen9, -⟩ := Bool.and_eq_true _ _ |>.mp hck
      have hdg : decode M.2.1 pc = .ok (i0, ln) := of_decide_eq_true hd
      have hi := xstep_inr hs
      dsimp only at hlen9 hi ⊢
      refine vx_ret (W.widen hc hs1 ?_)
      rcases hi with ⟨i, -, hq9⟩ | ⟨i, -, hq9⟩ | ⟨i, -, hq9⟩ | ⟨i, -, hq9⟩ | ⟨rfl, hq9⟩ | ⟨rfl, hq9⟩ | ⟨rfl, hq9⟩ | ⟨rfl, hq9⟩ | ⟨rfl, hq9⟩ | ⟨rfl, hq9⟩
      · obtain ⟨k, mi', n, I, rc, ra, -, -, -, hq9⟩ := xvirt_inr hq9
        cases (xcall_inr hq9).2.2
      · obtain ⟨k, mi', n, ra, -, -, -, -, hq9⟩ := xstat_inr hq9
        cases (xcall_inr hq9).2.2
      · obtain ⟨k, mi', n, ra, -, -, -, -, hq9⟩ := xspec_inr hq9
        cases (xcall_inr hq9).2.2
      · obtain ⟨i, ra, -, -, ho⟩ := xnewx_inr hq9
        cases ho
      · obtain ⟨w, rfl, hw, ho⟩ := xret_inr hq9
        cases ho
        cases xnat_eq (n := 1) hlen9
        cases w <;> first | (cases hw; done) | skip
        cases hrt : M.2.2.2.1 with
        | none => rw [hrt] at hf; cases hf
        | some ty =>
          rw [hrt] at hf
          exact W.zret hx hb (hret.trans hrt) (narrow_of_fits (xfit_fits hf ad1)) (fun t ht hW => hq t ht hW _ rfl) hfr hdg hlocks
      · obtain ⟨w, rfl, hw, ho⟩ := xret_inr hq9
        cases ho
        cases xnat_eq (n := 1) hlen9
        cases w <;> first | (cases hw; done) | skip
        cases hrt : M.2.2.2.1 with
        | none => rw [hrt] at hf; cases hf
        | some ty =>
          rw [hrt] at hf
          cases ty <;> first | (cases hf; done) | skip
          exact W.lret hx hb (hret.trans hrt) (fun t ht hW => hq t ht hW _ rfl) hfr hdg hlocks
      · obtain ⟨w, rfl, hw, ho⟩ := xret_inr hq9
        cases ho
        cases xnat_eq (n := 1) hlen9
        cases w <;> first | (cases hw; done) | skip
        cases hrt : M.2.2.2.1 with
        | none => rw [hrt] at hf; cases hf
        | some ty =>
          rw [hrt] at hf
          cases ty <;> first | (cases hf; done) | skip
          exact W.fret hx hb (hret.trans hrt) (fun t ht hW => hq t ht hW _ rfl) hfr hdg hlocks
      · obtain ⟨w, rfl, hw, ho⟩ := xret_inr hq9
        cases ho
        cases xnat_eq (n := 1) hlen9
        cases w <;> first | (cases hw; done) | skip
        cases hrt : M.2.2.2.1 with
        | none => rw [hrt] at hf; cases hf
        | some ty =>
          rw [hrt] at hf
          cases ty <;> first | (cases hf; done) | skip
          exact W.dret hx hb (hret.trans hrt) (fun t ht hW => hq t ht hW _ rfl) hfr hdg hlocks
      · obtain ⟨w, rfl, hw, ho⟩ := xret_inr hq9
        cases ho
        cases xnat_eq (n := 1) hlen9
        have hv9 : xcV ad1 w = .null ∨ ∃ a, xcV ad1 w = .ref a := by
          cases w <;> first | (cases hw; done) | exact Or.inl rfl | exact Or.inr ⟨_, rfl⟩
        cases hrt : M.2.2.2.1 with
        | none => rw [hrt] at hf; cases hf
        | some ty =>
          rw [hrt] at hf
          refine W.aret hx hb (hret.trans hrt) ?_ hv9 (fun t ht hW => hq t ht hW _ rfl) hfr hdg hlocks
          cases ty <;> first | exact Or.inl ⟨_, rfl⟩ | exact Or.inr ⟨_, rfl⟩ | (exfalso; cases w <;> first | (cases hw; done) | (cases hf; done))
      · obtain ⟨rfl, ho⟩ := xretv_inr hq9
        cases ho
        cases xnat_eq (n := 1) hlen9
        cases hrt : M.2.2.2.1 with
        | some ty => rw [hrt] at hf; cases hf
        | none => exact W.vret hx hb (hret.trans hrt) (fun t ht hW => hq t ht hW _ rfl) hfr hdg hlocks
    · -- not caught
      intro pc E X rest hb1 ad1 H locs ls cells slots q9 ce hr1 hf1 hX hp ha hR1 hce hcv hcl hc hs1
      exact vx_outP (own := M.1.cls) hown hlocks (fun w hw => hp w (by rw [← htab]; exact hw)) hce hcv hcl (fun t ht _ => ⟨E, hb1.length, hb1, hr1, hf1, rfl, hX, ad1, ha, by rw [ht]; exact hR1.1, hR1.2.1, hR1.2.2.1, hR1.2.2.2.F ht⟩) hR1.2.2.2.2.2 hc hs1
    · -- thrown here
      intro e0 E loc st hb1 ad1 H locs ls cells slots hck hs hr1 hf1 ha hR1 hl1 hc hs1
      obtain ⟨pc, i0, ln, aux⟩ := e0
      unfold xchk at hck
      obtain ⟨hd, hck⟩ := Bool.and_eq_true _ _ |>.mp hck
      obtain ⟨hlen9, hk9⟩ := Bool.and_eq_true _ _ |>.mp hck
      have hdg : decode M.2.1 pc = .ok (i0, ln) := of_decide_eq_true hd
      have hi := xstep_inr hs
      dsimp only at hlen9 hk9 hi ⊢
      rcases hi with ⟨i, -, hq9⟩ | ⟨i, -, hq9⟩ | ⟨i, -, hq9⟩ | ⟨i, rfl, hq9⟩ | ⟨-, hq9⟩ | ⟨-, hq9⟩ | ⟨-, hq9⟩ | ⟨-, hq9⟩ | ⟨-, hq9⟩ | ⟨-, hq9⟩
      · obtain ⟨k, mi', n, I, rc, ra, -, -, -, hq9⟩ := xvirt_inr hq9
        cases (xcall_inr hq9).2.2
      · obtain ⟨k, mi', n, ra, -, -, -, -, hq9⟩ := xstat_inr hq9
        cases (xcall_inr hq9).2.2
      · obtain ⟨k, mi', n, ra, -, -, -, -, hq9⟩ := xspec_inr hq9
        cases (xcall_inr hq9).2.2
      · obtain ⟨E', ra, rfl, hroom, ho⟩ := xnewx_inr hq9
        cases ho
        cases xnat_eq (n := 3) hlen9
        obtain ⟨n1, n2⟩ := Bool.and_eq_true _ _ |>.mp hk9
        obtain ⟨n2, n3⟩ := Bool.and_eq_true _ _ |>.mp n2
        have hhz : M.2.2.2.2.1 = [] := by
          cases hM9 : M.2.2.2.2.1 with
          | nil => rfl
          | cons q t => rw [hM9] at n3; cases n3
        have htab0 : c.exceptionTable.toList = [] := by rw [htab, hhz]; rfl
        replace n1 : xbnew M.1.cls i (1 :: E :: ra) = true := n1
        rcases ra with _ | ⟨I, _ | ⟨I2, _ | ⟨ic, ra⟩⟩⟩
        · cases n1
        · cases n1
        · cases n1
        · replace n1 : (match xEx[E]? with | some X => xwd I (.classLink M.1.cls i X) && (xwd I2 (.initialized X) && decide (ic < 100000)) | none => false) = true := n1
          split at n1
          · rename_i X hX
            obtain ⟨w1, w2⟩ := Bool.and_eq_true _ _ |>.mp n1
            obtain ⟨w2, -⟩ := Bool.and_eq_true _ _ |>.mp w2
            replace n2 : (decide ((M.1.cls, ic, E) ∈ xThr) && (decide (decode M.2.1 (pc + 3) = .ok (.dup, 1)) && (decide (decode M.2.1 (pc + 4) = .ok (.invokespecial ic, 3)) && decide (decode M.2.1 (pc + 7) = .ok (.athrow, 1))))) = true := n2
            simp only [Bool.and_eq_true, decide_eq_true_eq] at n2
            obtain ⟨t1, t2, t3, t4⟩ := n2
            have ht := List.all_eq_true.mp xthr_ok _ t1
            dsimp only at ht
            rw [hX] at ht
            dsimp only at ht
            obtain ⟨ht1, ht2⟩ := Bool.and_eq_true _ _ |>.mp ht
            have ht2 : ∀ w ∈ vx_at0 M.1.cls ic X ["java/lang/RuntimeException", "java/lang/Exception"], w ∈ lw_tbl ∧ xgd w = true := fun w hw => by
              obtain ⟨a1, a2⟩ := Bool.and_eq_true _ _ |>.mp (List.all_eq_true.mp ht2 w hw)
              exact ⟨of_decide_eq_true a1, a2⟩
            have hat : ∀ w ∈ vx_at0 M.1.cls ic X ["java/lang/RuntimeException", "java/lang/Exception"], w.before args0 s = true := fun w hw => va_Nw.use (xgd_tab (ht2 w hw).2) (hE.1 w (Or.inl (ht2 w hw).1) (ht2 w hw).2)
            have hsz9 : (st.map fun v => v.category).sum ≤ 8 := of_decide_eq_true hroom
            rw [← xsum ad1] at hsz9
            refine vx_throw0 (cc := M.2.1) (own := M.1.cls) (cls := X) (names := ["java/lang/RuntimeException", "java/lang/Exception"]) (ik := i) (ic := ic) (A := fun q => b0 ≤ q) hx hb hl hown ht1 (by decide) (xenv_w hE w1 args0) (xenv_w hE w2 args0) hat ?_ hE.2.2.2.2.2.1.1 hE.2.2.2.2.2.1.2 hR1.2.2.2 (hl1.1.trans hml.symm) hdg t2 t3 t4 (fun x hx9 => by rw [htab0] at hx9; cases hx9) (by show 2 + 3 < R.frames; omega) (by show _ + (13 * (2 + 1) + 42) ≤ R.locals; omega) (by omega) (by omega) hlocks ?_ hR1.2.2.2.2.2 hc hs1
            · intro w hw
              unfold vx_ot
              rw [Bool.or_eq_true]
              rcases List.mem_cons.mp hw with rfl | hw
              · exact Or.inl rfl
              · rcases List.mem_cons.mp hw with rfl | hw
                · exact Or.inl rfl
                · exact Or.inl (xgd_tab (ht2 w hw).2)
            · intro t ht9 hsz1 hkp
              refine ⟨E, hb1.length, hb1, hr1, hf1, rfl, hX, ad1, ha, fun i e he hne => (hR1.1 i e he hne).kept (hkp _ (hR1.1 i e he hne).lt), hR1.2.1, hR1.2.2.1, Nat.le_trans hR1.2.2.2.1 hsz1, fun q hq1 hq2 => ?_⟩
              rw [hkp q (Nat.lt_of_lt_of_le hq1 hR1.2.2.2.1)]
              exact hR1.2.2.2.2.1 q hq1 hq2
          · cases n1
      · obtain ⟨w, -, -, ho⟩ := xret_inr hq9
        cases ho
      · obtain ⟨w, -, -, ho⟩ := xret_inr hq9
        cases ho
      · obtain ⟨w, -, -, ho⟩ := xret_inr hq9
        cases ho
      · obtain ⟨w, -, -, ho⟩ := xret_inr hq9
        cases ho
      · obtain ⟨w, -, -, ho⟩ := xret_inr hq9
        cases ho
      · obtain ⟨-, ho⟩ := xretv_inr hq9
        cases ho
theorem xsound (hl : l.stackTraces = false) (xs : List Int32) (z : Value) (hz : xsc 0 z) : ∀ (d f mi : Nat) (args : List Value) (h : xH) (r : xA) (h' : xH), xgo xMs (xK xs) (xZ z) d f mi args h = some (r, h') → xscH h → (∀ v ∈ args, xsc h.length v) → ∃ M, xMs[mi]? = some M ∧ xMet xs z l d M args h r h' := by
  intro d
  induction d with
  | zero =>
    intro f mi args h r h' hr
    cases hr
  | succ d ih =>
    intro f mi args h r h' hr hsc hargs
    rw [xgo] at hr
    split at hr
    · cases hr
    · rename_i M hM
      obtain ⟨P, hP⟩ := xP_some hM
      obtain ⟨v1, v2, v3, v4, -⟩ := xbm_spec (xbm_at hM hP)
      split at hr
      · cases hr
      · rename_i hcat
        have hcat := of_decide_eq_true hcat
        have key : xev (xgo xMs (xK xs) (xZ z) d f) M.2.2.1 (xK xs) (xZ z) (xhs M) M.2.2.2.2.2.2 f M.2.2.2.2.2.2 (lv_args 0 args) [] h = some (r, h') ∧ ∀ v, r = .ok v → xrfit M.2.2.2.1 v = true := by
          split at hr
          · rename_i v h2 he
            split at hr
            · rename_i hfit
              cases hr
              exact ⟨he, fun v q => by cases q; exact hfit⟩
            · cases hr
          · rename_i hne
            refine ⟨hr, fun v q => ?_⟩
            subst q
            exact absurd hr (hne v h')
        obtain ⟨he, hfit⟩ := key
        refine ⟨M, hM, fun b0 D tyC ad => ?_⟩
        cases hhs : M.2.2.2.2.1 with
        | nil =>
          refine xofW (cc := M.2.1) (maxL := M.2.2.1) (ret := M.2.2.2.1) (ws' := []) v4 (by rw [xcw0_code hhs]) ?_
          intro p e s m args0 below meth c s₁ B hml ht hPc
          obtain ⟨rfl, hE, hR⟩ := hPc
          exact xbody hl hz hM hP (fun mi as h r h' => ih f mi as h r h') hcat he hfit hsc hargs B.exec B.bytes hml (findClass_of_methodNamed B.named) (name_of_methodNamed B.named B.method).1 B.notSynchronized B.returns (by rw [ht, hhs]; rfl) (by show d + 9 ≤ d + 1 + 8; omega) (by show 40 * d + 240 ≤ 40 * (d + 1) + 200; omega) (Nat.le_refl _) (Nat.le_refl _) hE hR
        | cons q0 t0 =>
          refine xofWH (cc := M.2.1) (maxL := M.2.2.1) (ret := M.2.2.2.1) (hh := M.2.2.2.2.1) (ws' := []) v4 (by rw [xcw0_with hhs]) ?_
          intro p e s m args0 below meth c s₁ B hml ht hPc
          obtain ⟨rfl, hE, hR⟩ := hPc
          exact xbody hl hz hM hP (fun mi as h r h' => ih f mi as h r h') hcat he hfit hsc hargs B.exec B.bytes hml (findClass_of_methodNamed B.named) (name_of_methodNamed B.named B.method).1 B.notSynchronized B.returns ht (by show d + 9 ≤ d + 1 + 8; omega) (by show 40 * d + 240 ≤ 40 * (d + 1) + 200; omega) (Nat.le_refl _) (Nat.le_refl _) hE hR
end XSD
end
section
/-! THE CLAIM OUT OF ONE WALK OF THE LAW'S BODY. Your part is whole_start (and what it stands on); all else here is the same for every law, but numbers. -/
def R_law : String := "RiverReachesLaw"
def lw_P (b : Addr) (xs : List Int32) (args : Array Value) (s : State) : Prop := args = #[.ref b] ∧ s.IntsAt b xs ∧ xs.length ≤ 260 ∧ (Jvm.Cond.and given_1 narrow_1).before args s = true
/-- what a walk over the start with the record d0 says of its end, said of the start itself -/
theorem lw_closed {s t : State} {o : Outcome} {d0 : Drawn} {L : List Loc} {k n : Nat} (hd0 : s.drawn.sameBut d0 lw_cs) (hv : ∃ v, o = .returned v) (hW : (s.setDrawn d0).WarmedH t.vm) (hs : (s.setDrawn d0).sameButNew ({ t with vm := s.vm } : State) L k n) : State.butDraws s t lw_cs (fun t1 => Framed s o t1 L k n) := by
  have h2 : t.drawn = d0 := congrArg State.drawn hs.1
  refine ⟨⟨hv, hW, State.sameButNew.setDrawn hs s.drawn⟩, ?_, by decide⟩
  rw [h2]
  exact hd0
def lw_Q (_ : Array Value) (s : State) (o : Outcome) (t : State) : Prop := o = .returned (some (.int 1)) ∧ State.butDraws s t lw_cs (fun t1 => Framed s o t1 [] 600390 7290159)
def lw_Z (below : List Frame) (a : Array Value) (s : State) : State → Prop := fun t => ∃ o, t.status = .running ∧ Ended t below o ∧ lw_Q a s o t
/-- the law's own end, with 1 on the stack, nothing written that was there before, its room as the claim has it; d0: the record of draws at this point (at the entry s.drawn: begin with 'refine W.base ?_' and 'have hd0 := Drawn.sameBut.refl s.drawn lw_cs') -/
theorem lw_ret {p : Program} {l : Launch} {e : Env} {s : State} {m : MethodId} {below : List Frame} {meth : Method} {c : Code} {b : Nat} {d0 : Drawn} (hd0 : s.drawn.sameBut d0 lw_cs) (hx : p.tables.exec = Jvm.exec) (hb : c.code = code) (hr : meth.sig.returnType = ret) (hlocks : meth.locks = false) {pc : Nat} {H : Heap} {ls : Array Slot} (hdg : decode code pc = .ok (.ireturn, 1)) : W p l e room_1 (s.setDrawn d0) m #[Value.ref b] below meth c H [] 600390 7290159 (lw_Z below #[Value.ref b] s) (F0 m pc ls [.int 1]) := by
  intro T hT X
  obtain ⟨fs, hret, hrun, hended, hW, hframe⟩ := X.leave (v := some (.int 1)) (hlocks := hlocks) (fun h => by rw [hr] at h; cases h)
  have hmeth' : T.vm.method? m = some meth := X.method'
  refine ⟨T.setFrames fs, ?_, .returned (some (.int 1)), hrun, hended, rfl, lw_closed hd0 ⟨_, rfl⟩ hW hframe⟩
  jvm_step X.here [X.here.top, hx, hb, hdg, hmeth', hr, ret, narrow_b1]
  (try refine ⟨rfl, ?_⟩); (try refine ⟨rfl, ?_⟩)
  first | (intro acts; rw [hret _ acts rfl rfl rfl]) | rw [hret _ _ rfl rfl rfl]
  exact Steps.refl _
/-- what holds at the law's entry: the machine, the code, the tables' words (any of lw_tbl by 'hts w (by decide +kernel)'), the script of L ints xs at the cell b, what the Statement gives of the start (any of its parts by flat_of_before) -/
def lw_At (p : Program) (s : State) (m : MethodId) (meth : Method) (c : Code) (b L : Nat) (xs : Nat → Int32) : Prop :=
  p.tables.exec = Jvm.exec ∧ c.code = code ∧ meth.sig.returnType = ret ∧ c.maxLocals = 11 ∧ s.vm.findClass R_law = some m.cls ∧ (∀ w ∈ lw_tbl, w.before #[Value.ref b] s = true) ∧ va_X b L xs s s.heap ∧ b < s.heap.size ∧ meth.locks = false ∧ (Jvm.Cond.and given_1 narrow_1).before #[Value.ref b] s = true
end
section
/-! THE LAW'S OWN RUN IS TRUE TO THE MACHINE -/
theorem xchk_nm {y y' : MethodName} {b : ByteArray} {hh : Bool} {e : xE} (hc : y.cls = y'.cls) (hno : ∀ i, e.2.1 ≠ .putfield i) (h : xchk y b hh e = true) : xchk y' b hh e = true := by
  obtain ⟨pc, i0, ln, aux⟩ := e
  unfold xchk at h ⊢
  rw [hc] at h
  dsimp only at h hno ⊢
  cases i0 <;> first | exact h | exact absurd rfl (hno _)
theorem xlaw_noput : xcL_law.all (fun e => match e.2.1 with
  | .putfield _ => false
  | _ => true) = true := by decide +kernel
theorem xlaw_chk (nm : String) : ∀ e ∈ xcL_law, xchk ⟨"RiverReachesLaw", nm, ""⟩ code false e = true := by
  intro e he
  have h1 := List.all_eq_true.mp (Bool.and_eq_true _ _ |>.mp xlaw_ok).1 e he
  refine xchk_nm (y := yL_law) rfl (fun i hi => ?_) h1
  have h2 := List.all_eq_true.mp xlaw_noput e he
  rw [hi] at h2
  cases h2
theorem xlaw_chain : xchain xcL_law = true := (Bool.and_eq_true _ _ |>.mp xlaw_ok).2
/-- the law at its end: nothing but heaps of its own, 1 on the stack -/
theorem xlaw {p : Program} {e : Env} {s : State} {m : MethodId} {below : List Frame} {meth : Method} {c : Code} (l : Launch) (hl : l.stackTraces = false) {b L : Nat} {xf : Nat → Int32} (C0 : lw_At p s m meth c b L xf) {xs : List Int32} {z : Value} (hz : xsc 0 z) {D : va_G} {tyC : Nat → ClassId} {ad : Nat → Nat} (hb0 : ad 1000000 = b) (hE : xEnv xs z s.heap.size D tyC ad s)
    {d n : Nat} {hf : xH} (hd : d ≤ 2039) (hr : xev (xgo xMs (xK xs) (xZ z) d n) 11 (xK xs) (xZ z) [] xcL_law n xcL_law [(0, .ref 1000000)] [] [] = some (.ok (some (.int 1)), hf)) (hc : hf.length ≤ 600390) (hs : xsz hf ≤ 7290159) :
    W p l e room_1 s m #[Value.ref b] below meth c s.heap [] 0 0 (lw_Z below #[Value.ref b] s) (entryFrame m ([Value.ref b] : List Value).toArray 11) := by
  obtain ⟨hx, hb, hret, hml, hown, -, -, -, hlocks, -⟩ := C0
  refine W.base ?_
  have hd0 := Drawn.sameBut.refl s.drawn lw_cs
  rw [lg_entry_eq]
  have hlv := lv_entry ([Value.ref b] : List Value) (n := 11) (by show 1 ≤ 11; decide)
  have h9 : lv_args 0 [Value.ref b] = xlc ad [(0, .ref 1000000)] := by rw [← hb0]; rfl
  rw [h9] at hlv
  have hhd : ∀ e0, xcL_law.head? = some e0 → e0.1 = 0 := by decide +kernel
  obtain ⟨e0, he0⟩ : ∃ e0, xcL_law.head? = some e0 := by
    cases hq : xcL_law with
    | nil => rw [hq] at hr; cases n <;> cases hr
    | cons a t => exact ⟨a, rfl⟩
  have main := xdrive (p := p) (l := l) (e := e) (R := room_1) (s := s) (m := m) (args := #[Value.ref b]) (below := below) (meth := meth) (c := c) (Q := lw_Z below #[Value.ref b] s) (cc := code) (nL := 11) (d := d) (ad0 := ad) (y := ⟨"RiverReachesLaw", meth.name, ""⟩) (hh := false) (code := xcL_law) (call := xgo xMs (xK xs) (xZ z) d n) (hhs := []) (Es := []) (Is := []) (Cm := 600390) (Sm := 7290159) (h0 := []) (hf := hf) (rr := .ok (some (.int 1))) (D := D) (tyC := tyC) (b0 := s.heap.size)
    hx hb hml hown rfl hE hz (by show d + 9 ≤ 2048; omega) (by show 40 * d + 240 ≤ 94400; omega) (Nat.le_refl _) (Nat.le_refl _) (fun q => absurd rfl q) rfl (xlaw_chk meth.name) xlaw_chain (xgo_good (xcon_K xs z hz) d n) (fun mi as h r h' => xsound hl xs z hz d n mi as h r h') ?_ ?_ ?_ n xcL_law [(0, .ref 1000000)] [] [] ad s.heap [] ((lg_sl [Value.ref b] ++ List.replicate (11 - (lg_sl [Value.ref b]).length) Slot.unset).toArray) 0 0 (fun e h => h) xlaw_chain hr ⟨⟨Nat.le_refl _, Nat.le_refl _⟩, fun e he => absurd he List.not_mem_nil, fun q hq => by rw [List.mem_singleton] at hq; subst hq; exact Or.inr (Nat.le_refl _), fun v hv => absurd hv List.not_mem_nil⟩ (fun i _ => rfl) ⟨fun i e hi => (nomatch hi), fun i j e f hi => (nomatch hi), fun i e hi => (nomatch hi), va_S.rf⟩ hlv (by show 0 + (hf.length - 0) ≤ 600390; omega) (by show 0 + (xsz hf - 0) ≤ 7290159; omega) e0 he0
  · rw [hhd e0 he0] at main
    exact main
  · intro e1 v loc st ad1 H locs ls cells slots hck hs1 hv ha hR1 hl1 hc1 hs2
    cases hv
    obtain ⟨pc, i0, ln, aux⟩ := e1
    unfold xchk at hck
    obtain ⟨hd1, hck⟩ := Bool.and_eq_true _ _ |>.mp hck
    obtain ⟨hlen9, -⟩ := Bool.and_eq_true _ _ |>.mp hck
    have hdg : decode code pc = .ok (i0, ln) := of_decide_eq_true hd1
    have hi := xstep_inr hs1
    dsimp only at hlen9 hi ⊢
    refine W.widen hc1 hs2 ?_
    rcases hi with ⟨i, -, hq9⟩ | ⟨i, -, hq9⟩ | ⟨i, -, hq9⟩ | ⟨i, -, hq9⟩ | ⟨rfl, hq9⟩ | ⟨-, hq9⟩ | ⟨-, hq9⟩ | ⟨-, hq9⟩ | ⟨-, hq9⟩ | ⟨-, hq9⟩
    · obtain ⟨k, mi', n, I, rc, ra, -, -, -, hq9⟩ := xvirt_inr hq9
      cases (xcall_inr hq9).2.2
    · obtain ⟨k, mi', n, ra, -, -, -, -, hq9⟩ := xstat_inr hq9
      cases (xcall_inr hq9).2.2
    · obtain ⟨k, mi', n, ra, -, -, -, -, hq9⟩ := xspec_inr hq9
      cases (xcall_inr hq9).2.2
    · obtain ⟨i, ra, -, -, ho⟩ := xnewx_inr hq9
      cases ho
    · obtain ⟨w, rfl, hw, ho⟩ := xret_inr hq9
      cases ho
      cases xnat_eq (n := 1) hlen9
      have hfg : ∀ q ∈ locs, s.heap.size ≤ q.base := hR1.2.2.2.2.2
      have k := W.forget (s := s) (locs := []) (L := locs) hfg (lw_ret (p := p) (l := l) (e := e) (m := m) (below := below) (meth := meth) (c := c) (b := b) (H := H) (ls := ls) hd0 hx hb hret hlocks hdg)
      rw [List.nil_append] at k
      exact k
    · obtain ⟨w, rfl, hw, ho⟩ := xret_inr hq9
      cases ho; cases hw
    · obtain ⟨w, rfl, hw, ho⟩ := xret_inr hq9
      cases ho; cases hw
    · obtain ⟨w, rfl, hw, ho⟩ := xret_inr hq9
      cases ho; cases hw
    · obtain ⟨w, rfl, hw, ho⟩ := xret_inr hq9
      cases ho; cases hw
    · obtain ⟨-, ho⟩ := xretv_inr hq9
      cases ho
  · intro pc E X rest hb1 ad1 H locs ls cells slots q9 ce hr1
    cases hr1
  · intro e1 E loc st hb1 ad1 H locs ls cells slots hck hs1 hr1
    cases hr1
end
section
/-! WHAT HOLDS AT THE LAW'S START -/
def xN0 : List Cond := flatC (Jvm.Cond.and given_1 narrow_1)
def xN1 : List Cond := xN0.drop 16
def xN2 : List Cond := xN1.drop 16
def xN3 : List Cond := xN2.drop 16
def xN4 : List Cond := xN3.drop 16
def xN5 : List Cond := xN4.drop 16
def xN6 : List Cond := xN5.drop 16
def xN7 : List Cond := xN6.drop 16
def xN8 : List Cond := xN7.drop 16
def xN9 : List Cond := xN8.drop 16
def xN10 : List Cond := xN9.drop 16
def xN11 : List Cond := xN10.drop 16
def xN12 : List Cond := xN11.drop 16
def xN13 : List Cond := xN12.drop 16
def xN14 : List Cond := xN13.drop 16
def xN15 : List Cond := xN14.drop 16
def xN16 : List Cond := xN15.drop 16
def xN17 : List Cond := xN16.drop 16
def xN18 : List Cond := xN17.drop 16
def xN19 : List Cond := xN18.drop 16
def xN20 : List Cond := xN19.drop 16
def xN21 : List Cond := xN20.drop 16
def xN22 : List Cond := xN21.drop 16
def xN23 : List Cond := xN22.drop 16
def xN24 : List Cond := xN23.drop 16
def xN25 : List Cond := xN24.drop 16
def xN26 : List Cond := xN25.drop 16
def xN27 : List Cond := xN26.drop 16
def xN28 : List Cond := xN27.drop 16
def xN29 : List Cond := xN28.drop 16
def xN30 : List Cond := xN29.drop 16
def xN31 : List Cond := xN30.drop 16
def xN32 : List Cond := xN31.drop 16
def xN33 : List Cond := xN32.drop 16
def xN34 : List Cond := xN33.drop 16
def xN35 : List Cond := xN34.drop 16
def xN36 : List Cond := xN35.drop 16
def xN37 : List Cond := xN36.drop 16
def xN38 : List Cond := xN37.drop 16
def xN39 : List Cond := xN38.drop 16
def xN40 : List Cond := xN39.drop 16
def xN41 : List Cond := xN40.drop 16
def xN42 : List Cond := xN41.drop 16
def xN43 : List Cond := xN42.drop 16
def xN44 : List Cond := xN43.drop 16
def xN45 : List Cond := xN44.drop 16
def xN46 : List Cond := xN45.drop 16
def xN47 : List Cond := xN46.drop 16
def xN48 : List Cond := xN47.drop 16
def xN49 : List Cond := xN48.drop 16
def xN50 : List Cond := xN49.drop 16
def xN51 : List Cond := xN50.drop 16
def xN52 : List Cond := xN51.drop 16
def xN53 : List Cond := xN52.drop 16
def xN54 : List Cond := xN53.drop 16
def xNs : List (List (List Cond)) := [[xN0, xN1, xN2, xN3, xN4, xN5, xN6, xN7, xN8, xN9, xN10, xN11, xN12, xN13, xN14, xN15], [xN16, xN17, xN18, xN19, xN20, xN21, xN22, xN23, xN24, xN25, xN26, xN27, xN28, xN29, xN30, xN31], [xN32, xN33, xN34, xN35, xN36, xN37, xN38, xN39, xN40, xN41, xN42, xN43, xN44, xN45, xN46, xN47], [xN48, xN49, xN50, xN51, xN52, xN53, xN54]]
theorem xN0_in : ∀ w ∈ xN0, w ∈ flatC (Jvm.Cond.and given_1 narrow_1) := fun _ h => h
theorem xN1_in : ∀ w ∈ xN1, w ∈ flatC (Jvm.Cond.and given_1 narrow_1) := fun w h => xN0_in w (List.mem_of_mem_drop h)
theorem xN2_in : ∀ w ∈ xN2, w ∈ flatC (Jvm.Cond.and given_1 narrow_1) := fun w h => xN1_in w (List.mem_of_mem_drop h)
theorem xN3_in : ∀ w ∈ xN3, w ∈ flatC (Jvm.Cond.and given_1 narrow_1) := fun w h => xN2_in w (List.mem_of_mem_drop h)
theorem xN4_in : ∀ w ∈ xN4, w ∈ flatC (Jvm.Cond.and given_1 narrow_1) := fun w h => xN3_in w (List.mem_of_mem_drop h)
theorem xN5_in : ∀ w ∈ xN5, w ∈ flatC (Jvm.Cond.and given_1 narrow_1) := fun w h => xN4_in w (List.mem_of_mem_drop h)
theorem xN6_in : ∀ w ∈ xN6, w ∈ flatC (Jvm.Cond.and given_1 narrow_1) := fun w h => xN5_in w (List.mem_of_mem_drop h)
theorem xN7_in : ∀ w ∈ xN7, w ∈ flatC (Jvm.Cond.and given_1 narrow_1) := fun w h => xN6_in w (List.mem_of_mem_drop h)
theorem xN8_in : ∀ w ∈ xN8, w ∈ flatC (Jvm.Cond.and given_1 narrow_1) := fun w h => xN7_in w (List.mem_of_mem_drop h)
theorem xN9_in : ∀ w ∈ xN9, w ∈ flatC (Jvm.Cond.and given_1 narrow_1) := fun w h => xN8_in w (List.mem_of_mem_drop h)
theorem xN10_in : ∀ w ∈ xN10, w ∈ flatC (Jvm.Cond.and given_1 narrow_1) := fun w h => xN9_in w (List.mem_of_mem_drop h)
theorem xN11_in : ∀ w ∈ xN11, w ∈ flatC (Jvm.Cond.and given_1 narrow_1) := fun w h => xN10_in w (List.mem_of_mem_drop h)
theorem xN12_in : ∀ w ∈ xN12, w ∈ flatC (Jvm.Cond.and given_1 narrow_1) := fun w h => xN11_in w (List.mem_of_mem_drop h)
theorem xN13_in : ∀ w ∈ xN13, w ∈ flatC (Jvm.Cond.and given_1 narrow_1) := fun w h => xN12_in w (List.mem_of_mem_drop h)
theorem xN14_in : ∀ w ∈ xN14, w ∈ flatC (Jvm.Cond.and given_1 narrow_1) := fun w h => xN13_in w (List.mem_of_mem_drop h)
theorem xN15_in : ∀ w ∈ xN15, w ∈ flatC (Jvm.Cond.and given_1 narrow_1) := fun w h => xN14_in w (List.mem_of_mem_drop h)
theorem xN16_in : ∀ w ∈ xN16, w ∈ flatC (Jvm.Cond.and given_1 narrow_1) := fun w h => xN15_in w (List.mem_of_mem_drop h)
theorem xN17_in : ∀ w ∈ xN17, w ∈ flatC (Jvm.Cond.and given_1 narrow_1) := fun w h => xN16_in w (List.mem_of_mem_drop h)
theorem xN18_in : ∀ w ∈ xN18, w ∈ flatC (Jvm.Cond.and given_1 narrow_1) := fun w h => xN17_in w (List.mem_of_mem_drop h)
theorem xN19_in : ∀ w ∈ xN19, w ∈ flatC (Jvm.Cond.and given_1 narrow_1) := fun w h => xN18_in w (List.mem_of_mem_drop h)
theorem xN20_in : ∀ w ∈ xN20, w ∈ flatC (Jvm.Cond.and given_1 narrow_1) := fun w h => xN19_in w (List.mem_of_mem_drop h)
theorem xN21_in : ∀ w ∈ xN21, w ∈ flatC (Jvm.Cond.and given_1 narrow_1) := fun w h => xN20_in w (List.mem_of_mem_drop h)
theorem xN22_in : ∀ w ∈ xN22, w ∈ flatC (Jvm.Cond.and given_1 narrow_1) := fun w h => xN21_in w (List.mem_of_mem_drop h)
theorem xN23_in : ∀ w ∈ xN23, w ∈ flatC (Jvm.Cond.and given_1 narrow_1) := fun w h => xN22_in w (List.mem_of_mem_drop h)
theorem xN24_in : ∀ w ∈ xN24, w ∈ flatC (Jvm.Cond.and given_1 narrow_1) := fun w h => xN23_in w (List.mem_of_mem_drop h)
theorem xN25_in : ∀ w ∈ xN25, w ∈ flatC (Jvm.Cond.and given_1 narrow_1) := fun w h => xN24_in w (List.mem_of_mem_drop h)
theorem xN26_in : ∀ w ∈ xN26, w ∈ flatC (Jvm.Cond.and given_1 narrow_1) := fun w h => xN25_in w (List.mem_of_mem_drop h)
theorem xN27_in : ∀ w ∈ xN27, w ∈ flatC (Jvm.Cond.and given_1 narrow_1) := fun w h => xN26_in w (List.mem_of_mem_drop h)
theorem xN28_in : ∀ w ∈ xN28, w ∈ flatC (Jvm.Cond.and given_1 narrow_1) := fun w h => xN27_in w (List.mem_of_mem_drop h)
theorem xN29_in : ∀ w ∈ xN29, w ∈ flatC (Jvm.Cond.and given_1 narrow_1) := fun w h => xN28_in w (List.mem_of_mem_drop h)
theorem xN30_in : ∀ w ∈ xN30, w ∈ flatC (Jvm.Cond.and given_1 narrow_1) := fun w h => xN29_in w (List.mem_of_mem_drop h)
theorem xN31_in : ∀ w ∈ xN31, w ∈ flatC (Jvm.Cond.and given_1 narrow_1) := fun w h => xN30_in w (List.mem_of_mem_drop h)
theorem xN32_in : ∀ w ∈ xN32, w ∈ flatC (Jvm.Cond.and given_1 narrow_1) := fun w h => xN31_in w (List.mem_of_mem_drop h)
theorem xN33_in : ∀ w ∈ xN33, w ∈ flatC (Jvm.Cond.and given_1 narrow_1) := fun w h => xN32_in w (List.mem_of_mem_drop h)
theorem xN34_in : ∀ w ∈ xN34, w ∈ flatC (Jvm.Cond.and given_1 narrow_1) := fun w h => xN33_in w (List.mem_of_mem_drop h)
theorem xN35_in : ∀ w ∈ xN35, w ∈ flatC (Jvm.Cond.and given_1 narrow_1) := fun w h => xN34_in w (List.mem_of_mem_drop h)
theorem xN36_in : ∀ w ∈ xN36, w ∈ flatC (Jvm.Cond.and given_1 narrow_1) := fun w h => xN35_in w (List.mem_of_mem_drop h)
theorem xN37_in : ∀ w ∈ xN37, w ∈ flatC (Jvm.Cond.and given_1 narrow_1) := fun w h => xN36_in w (List.mem_of_mem_drop h)
theorem xN38_in : ∀ w ∈ xN38, w ∈ flatC (Jvm.Cond.and given_1 narrow_1) := fun w h => xN37_in w (List.mem_of_mem_drop h)
theorem xN39_in : ∀ w ∈ xN39, w ∈ flatC (Jvm.Cond.and given_1 narrow_1) := fun w h => xN38_in w (List.mem_of_mem_drop h)
theorem xN40_in : ∀ w ∈ xN40, w ∈ flatC (Jvm.Cond.and given_1 narrow_1) := fun w h => xN39_in w (List.mem_of_mem_drop h)
theorem xN41_in : ∀ w ∈ xN41, w ∈ flatC (Jvm.Cond.and given_1 narrow_1) := fun w h => xN40_in w (List.mem_of_mem_drop h)
theorem xN42_in : ∀ w ∈ xN42, w ∈ flatC (Jvm.Cond.and given_1 narrow_1) := fun w h => xN41_in w (List.mem_of_mem_drop h)
theorem xN43_in : ∀ w ∈ xN43, w ∈ flatC (Jvm.Cond.and given_1 narrow_1) := fun w h => xN42_in w (List.mem_of_mem_drop h)
theorem xN44_in : ∀ w ∈ xN44, w ∈ flatC (Jvm.Cond.and given_1 narrow_1) := fun w h => xN43_in w (List.mem_of_mem_drop h)
theorem xN45_in : ∀ w ∈ xN45, w ∈ flatC (Jvm.Cond.and given_1 narrow_1) := fun w h => xN44_in w (List.mem_of_mem_drop h)
theorem xN46_in : ∀ w ∈ xN46, w ∈ flatC (Jvm.Cond.and given_1 narrow_1) := fun w h => xN45_in w (List.mem_of_mem_drop h)
theorem xN47_in : ∀ w ∈ xN47, w ∈ flatC (Jvm.Cond.and given_1 narrow_1) := fun w h => xN46_in w (List.mem_of_mem_drop h)
theorem xN48_in : ∀ w ∈ xN48, w ∈ flatC (Jvm.Cond.and given_1 narrow_1) := fun w h => xN47_in w (List.mem_of_mem_drop h)
theorem xN49_in : ∀ w ∈ xN49, w ∈ flatC (Jvm.Cond.and given_1 narrow_1) := fun w h => xN48_in w (List.mem_of_mem_drop h)
theorem xN50_in : ∀ w ∈ xN50, w ∈ flatC (Jvm.Cond.and given_1 narrow_1) := fun w h => xN49_in w (List.mem_of_mem_drop h)
theorem xN51_in : ∀ w ∈ xN51, w ∈ flatC (Jvm.Cond.and given_1 narrow_1) := fun w h => xN50_in w (List.mem_of_mem_drop h)
theorem xN52_in : ∀ w ∈ xN52, w ∈ flatC (Jvm.Cond.and given_1 narrow_1) := fun w h => xN51_in w (List.mem_of_mem_drop h)
theorem xN53_in : ∀ w ∈ xN53, w ∈ flatC (Jvm.Cond.and given_1 narrow_1) := fun w h => xN52_in w (List.mem_of_mem_drop h)
theorem xN54_in : ∀ w ∈ xN54, w ∈ flatC (Jvm.Cond.and given_1 narrow_1) := fun w h => xN53_in w (List.mem_of_mem_drop h)
theorem xNu0_in : ∀ t ∈ ([xN0, xN1, xN2, xN3, xN4, xN5, xN6, xN7, xN8, xN9, xN10, xN11, xN12, xN13, xN14, xN15] : List (List Cond)), ∀ w ∈ t, w ∈ flatC (Jvm.Cond.and given_1 narrow_1) := List.forall_mem_cons.mpr ⟨xN0_in, List.forall_mem_cons.mpr ⟨xN1_in, List.forall_mem_cons.mpr ⟨xN2_in, List.forall_mem_cons.mpr ⟨xN3_in, List.forall_mem_cons.mpr ⟨xN4_in, List.forall_mem_cons.mpr ⟨xN5_in, List.forall_mem_cons.mpr ⟨xN6_in, List.forall_mem_cons.mpr ⟨xN7_in, List.forall_mem_cons.mpr ⟨xN8_in, List.forall_mem_cons.mpr ⟨xN9_in, List.forall_mem_cons.mpr ⟨xN10_in, List.forall_mem_cons.mpr ⟨xN11_in, List.forall_mem_cons.mpr ⟨xN12_in, List.forall_mem_cons.mpr ⟨xN13_in, List.forall_mem_cons.mpr ⟨xN14_in, List.forall_mem_cons.mpr ⟨xN15_in, fun _ h => absurd h List.not_mem_nil⟩⟩⟩⟩⟩⟩⟩⟩⟩⟩⟩⟩⟩⟩⟩⟩
theorem xNu1_in : ∀ t ∈ ([xN16, xN17, xN18, xN19, xN20, xN21, xN22, xN23, xN24, xN25, xN26, xN27, xN28, xN29, xN30, xN31] : List (List Cond)), ∀ w ∈ t, w ∈ flatC (Jvm.Cond.and given_1 narrow_1) := List.forall_mem_cons.mpr ⟨xN16_in, List.forall_mem_cons.mpr ⟨xN17_in, List.forall_mem_cons.mpr ⟨xN18_in, List.forall_mem_cons.mpr ⟨xN19_in, List.forall_mem_cons.mpr ⟨xN20_in, List.forall_mem_cons.mpr ⟨xN21_in, List.forall_mem_cons.mpr ⟨xN22_in, List.forall_mem_cons.mpr ⟨xN23_in, List.forall_mem_cons.mpr ⟨xN24_in, List.forall_mem_cons.mpr ⟨xN25_in, List.forall_mem_cons.mpr ⟨xN26_in, List.forall_mem_cons.mpr ⟨xN27_in, List.forall_mem_cons.mpr ⟨xN28_in, List.forall_mem_cons.mpr ⟨xN29_in, List.forall_mem_cons.mpr ⟨xN30_in, List.forall_mem_cons.mpr ⟨xN31_in, fun _ h => absurd h List.not_mem_nil⟩⟩⟩⟩⟩⟩⟩⟩⟩⟩⟩⟩⟩⟩⟩⟩
theorem xNu2_in : ∀ t ∈ ([xN32, xN33, xN34, xN35, xN36, xN37, xN38, xN39, xN40, xN41, xN42, xN43, xN44, xN45, xN46, xN47] : List (List Cond)), ∀ w ∈ t, w ∈ flatC (Jvm.Cond.and given_1 narrow_1) := List.forall_mem_cons.mpr ⟨xN32_in, List.forall_mem_cons.mpr ⟨xN33_in, List.forall_mem_cons.mpr ⟨xN34_in, List.forall_mem_cons.mpr ⟨xN35_in, List.forall_mem_cons.mpr ⟨xN36_in, List.forall_mem_cons.mpr ⟨xN37_in, List.forall_mem_cons.mpr ⟨xN38_in, List.forall_mem_cons.mpr ⟨xN39_in, List.forall_mem_cons.mpr ⟨xN40_in, List.forall_mem_cons.mpr ⟨xN41_in, List.forall_mem_cons.mpr ⟨xN42_in, List.forall_mem_cons.mpr ⟨xN43_in, List.forall_mem_cons.mpr ⟨xN44_in, List.forall_mem_cons.mpr ⟨xN45_in, List.forall_mem_cons.mpr ⟨xN46_in, List.forall_mem_cons.mpr ⟨xN47_in, fun _ h => absurd h List.not_mem_nil⟩⟩⟩⟩⟩⟩⟩⟩⟩⟩⟩⟩⟩⟩⟩⟩
theorem xNu3_in : ∀ t ∈ ([xN48, xN49, xN50, xN51, xN52, xN53, xN54] : List (List Cond)), ∀ w ∈ t, w ∈ flatC (Jvm.Cond.and given_1 narrow_1) := List.forall_mem_cons.mpr ⟨xN48_in, List.forall_mem_cons.mpr ⟨xN49_in, List.forall_mem_cons.mpr ⟨xN50_in, List.forall_mem_cons.mpr ⟨xN51_in, List.forall_mem_cons.mpr ⟨xN52_in, List.forall_mem_cons.mpr ⟨xN53_in, List.forall_mem_cons.mpr ⟨xN54_in, fun _ h => absurd h List.not_mem_nil⟩⟩⟩⟩⟩⟩⟩
theorem xNs_in : ∀ u ∈ xNs, ∀ t ∈ u, ∀ w ∈ t, w ∈ flatC (Jvm.Cond.and given_1 narrow_1) := List.forall_mem_cons.mpr ⟨xNu0_in, List.forall_mem_cons.mpr ⟨xNu1_in, List.forall_mem_cons.mpr ⟨xNu2_in, List.forall_mem_cons.mpr ⟨xNu3_in, fun _ h => absurd h List.not_mem_nil⟩⟩⟩⟩
def xNt (k : Nat) : Option Cond := match xNs[k / 256]? with
  | some u => match u[k / 16 % 16]? with
    | some t => t[k % 16]?
    | none => none
  | none => none
theorem xNt_in {k : Nat} {w : Cond} (h : xNt k = some w) : w ∈ flatC (Jvm.Cond.and given_1 narrow_1) := by
  unfold xNt at h
  split at h
  · rename_i u hu
    split at h
    · rename_i t ht
      exact xNs_in u (List.mem_of_getElem? hu) t (List.mem_of_getElem? ht) w (List.mem_of_getElem? h)
    · cases h
  · cases h
def xnb (k : Nat) (w : Cond) : Bool := decide (xNt k = some w)
def xTs (j : Nat) : Term := match xSt[j]? with
  | some (o, i, _) => .string o i
  | none => .arg 0
/-- the terms that name the constants -/
def xTk : List Term := [.arg 0, .static "RiverReaches$Kind" "REACH" "LRiverReaches$Kind;", .static "RiverReaches$Kind" "CUT" "LRiverReaches$Kind;", .static "RiverReaches$Kind" "LATERAL" "LRiverReaches$Kind;", .static "RiverReaches$Kind" "FILL" "LRiverReaches$Kind;", .static "RiverReaches$Kind" "STAGES" "LRiverReaches$Kind;", .static "RiverReaches$Kind" "GATE" "LRiverReaches$Kind;", .static "RiverReaches$Kind" "RULE" "LRiverReaches$Kind;", .static "RiverReaches$Kind" "PULSE" "LRiverReaches$Kind;", .static "RiverReaches$Kind" "PASS" "LRiverReaches$Kind;", .static "RiverReaches" "KINDS" "[LRiverReaches$Kind;", .static "RiverReaches$1" "$SwitchMap$RiverReaches$Kind" "[I", .static "java/lang/Integer" "DigitOnes" "[B", .static "java/lang/Integer" "DigitTens" "[B"]
def xTm (i : Nat) : Term := match decide (i < 14) with
  | true => xTk.getD i (.arg 0)
  | false => match decide (i = 999999) with
    | true => .static "jdk/internal/util/Preconditions" "SIOOBE_FORMATTER" "Ljava/util/function/BiFunction;"
    | false => match decide (i % 2 = 0) with
      | true => xTs ((i - 20) / 2)
      | false => .field (xTs ((i - 20) / 2)) "java/lang/String" "value" "[B"
def xNi : List Nat := [0, 247, 4, 252, 258, 265, 273, 282, 292, 303, 13, 30, 42, 145, 0, 0, 0, 0, 0, 0, 497, 499, 528, 530, 535, 537, 549, 551, 565, 567, 570, 572, 600, 602, 608, 610, 624, 626, 630, 632, 655, 657, 661, 663, 666, 668, 694, 696, 717, 719, 724, 726, 728, 730, 738, 740, 745, 747, 757, 759, 763, 765, 772, 774, 783, 785, 790, 792, 799, 801, 808, 810, 814, 816, 824, 826, 833, 835]
/-- a reference to a constant that has an address -/
def xvr (a : Nat) : Bool := decide (1000001 ≤ a) && match (xK [])[a - 1000000]? with
  | some q => decide (q.1 ≠ 40)
  | none => false
def xkel (i e j : Nat) (v : Option Value) : Bool := match v with
  | some (.int x) => xnb (e + j) (.eq (.elem (xTm i) (.int (Int32.ofNat j))) (.int x))
  | some (.ref a) => xvr a && xnb (e + j) (.eq (.elem (xTm i) (.int (Int32.ofNat j))) (xTm (a - 1000000)))
  | _ => false
def xkb (i e : Nat) (q : Nat × List Value) : Bool := match q.1 with
  | 0 => xnb e (.exactly (xTm i) "java/lang/String") && (xnb (e + 1) (.eq (.field (xTm i) "java/lang/String" "coder" "B") (.int 0)) && (decide (q.2 = [.ref (1000001 + i), .int 0, .retAddr 0, .retAddr 0]) && (xvr (1000001 + i) && decide (xTm (1 + i) = .field (xTm i) "java/lang/String" "value" "[B"))))
  | 40 => true
  | 45 => xnb e (.exactly (xTm i) "RiverReaches$Kind") && match q.2 with
    | [.ref w, .ref p, .int n] => xnb (e + 1) (.eq (.field (xTm i) "java/lang/Enum" "ordinal" "I") (.int n)) && (xvr w && (xvr p && (xnb (e + 2) (.eq (.field (xTm i) "RiverReaches$Kind" "word" "Ljava/lang/String;") (xTm (w - 1000000))) && xnb (e + 3) (.eq (.field (xTm i) "RiverReaches$Kind" "parameters" "Ljava/lang/String;") (xTm (p - 1000000))))))
    | _ => false
  | k => decide (50 ≤ k) && (decide (q.2.length < 2147483648) && (xnb e (.arrayOf (xTm i) (xTy (k - 50))) && (xnb (e + 1) (.eq (.length (xTm i)) (.int (Int32.ofNat q.2.length))) && (List.range q.2.length).all fun j => xkel i (if k = 57 then e + 3 else e + 2) j q.2[j]?)))
def xkc (i : Nat) : Bool := match (xK [])[i]?, xNi[i]? with
  | some q, some e => xkb i e q
  | _, _ => false
theorem xkc_1 : xkc 1 = true := by decide +kernel
theorem xkc_2 : xkc 2 = true := by decide +kernel
theorem xkc_3 : xkc 3 = true := by decide +kernel
theorem xkc_4 : xkc 4 = true := by decide +kernel
theorem xkc_5 : xkc 5 = true := by decide +kernel
theorem xkc_6 : xkc 6 = true := by decide +kernel
theorem xkc_7 : xkc 7 = true := by decide +kernel
theorem xkc_8 : xkc 8 = true := by decide +kernel
theorem xkc_9 : xkc 9 = true := by decide +kernel
theorem xkc_10 : xkc 10 = true := by decide +kernel
theorem xkc_11 : xkc 11 = true := by decide +kernel
theorem xkc_12 : xkc 12 = true := by decide +kernel
theorem xkc_13 : xkc 13 = true := by decide +kernel
theorem xkc_14 : xkc 14 = true := by decide +kernel
theorem xkc_15 : xkc 15 = true := by decide +kernel
theorem xkc_16 : xkc 16 = true := by decide +kernel
theorem xkc_17 : xkc 17 = true := by decide +kernel
theorem xkc_18 : xkc 18 = true := by decide +kernel
theorem xkc_19 : xkc 19 = true := by decide +kernel
theorem xkc_20 : xkc 20 = true := by decide +kernel
theorem xkc_21 : xkc 21 = true := by decide +kernel
theorem xkc_22 : xkc 22 = true := by decide +kernel
theorem xkc_23 : xkc 23 = true := by decide +kernel
theorem xkc_24 : xkc 24 = true := by decide +kernel
theorem xkc_25 : xkc 25 = true := by decide +kernel
theorem xkc_26 : xkc 26 = true := by decide +kernel
theorem xkc_27 : xkc 27 = true := by decide +kernel
theorem xkc_28 : xkc 28 = true := by decide +kernel
theorem xkc_29 : xkc 29 = true := by decide +kernel
theorem xkc_30 : xkc 30 = true := by decide +kernel
theorem xkc_31 : xkc 31 = true := by decide +kernel
theorem xkc_32 : xkc 32 = true := by decide +kernel
theorem xkc_33 : xkc 33 = true := by decide +kernel
theorem xkc_34 : xkc 34 = true := by decide +kernel
theorem xkc_35 : xkc 35 = true := by decide +kernel
theorem xkc_36 : xkc 36 = true := by decide +kernel
theorem xkc_37 : xkc 37 = true := by decide +kernel
theorem xkc_38 : xkc 38 = true := by decide +kernel
theorem xkc_39 : xkc 39 = true := by decide +kernel
theorem xkc_40 : xkc 40 = true := by decide +kernel
theorem xkc_41 : xkc 41 = true := by decide +kernel
theorem xkc_42 : xkc 42 = true := by decide +kernel
theorem xkc_43 : xkc 43 = true := by decide +kernel
theorem xkc_44 : xkc 44 = true := by decide +kernel
theorem xkc_45 : xkc 45 = true := by decide +kernel
theorem xkc_46 : xkc 46 = true := by decide +kernel
theorem xkc_47 : xkc 47 = true := by decide +kernel
theorem xkc_48 : xkc 48 = true := by decide +kernel
theorem xkc_49 : xkc 49 = true := by decide +kernel
theorem xkc_50 : xkc 50 = true := by decide +kernel
theorem xkc_51 : xkc 51 = true := by decide +kernel
theorem xkc_52 : xkc 52 = true := by decide +kernel
theorem xkc_53 : xkc 53 = true := by decide +kernel
theorem xkc_54 : xkc 54 = true := by decide +kernel
theorem xkc_55 : xkc 55 = true := by decide +kernel
theorem xkc_56 : xkc 56 = true := by decide +kernel
theorem xkc_57 : xkc 57 = true := by decide +kernel
theorem xkc_58 : xkc 58 = true := by decide +kernel
theorem xkc_59 : xkc 59 = true := by decide +kernel
theorem xkc_60 : xkc 60 = true := by decide +kernel
theorem xkc_61 : xkc 61 = true := by decide +kernel
theorem xkc_62 : xkc 62 = true := by decide +kernel
theorem xkc_63 : xkc 63 = true := by decide +kernel
theorem xkc_64 : xkc 64 = true := by decide +kernel
theorem xkc_65 : xkc 65 = true := by decide +kernel
theorem xkc_66 : xkc 66 = true := by decide +kernel
theorem xkc_67 : xkc 67 = true := by decide +kernel
theorem xkc_68 : xkc 68 = true := by decide +kernel
theorem xkc_69 : xkc 69 = true := by decide +kernel
theorem xkc_70 : xkc 70 = true := by decide +kernel
theorem xkc_71 : xkc 71 = true := by decide +kernel
theorem xkc_72 : xkc 72 = true := by decide +kernel
theorem xkc_73 : xkc 73 = true := by decide +kernel
theorem xkc_74 : xkc 74 = true := by decide +kernel
theorem xkc_75 : xkc 75 = true := by decide +kernel
theorem xkc_76 : xkc 76 = true := by decide +kernel
theorem xkc_77 : xkc 77 = true := by decide +kernel
theorem xkc_all : ∀ i ∈ [1, 2, 3, 4, 5, 6, 7, 8, 9, 10, 11, 12, 13, 14, 15, 16, 17, 18, 19, 20, 21, 22, 23, 24, 25, 26, 27, 28, 29, 30, 31, 32, 33, 34, 35, 36, 37, 38, 39, 40, 41, 42, 43, 44, 45, 46, 47, 48, 49, 50, 51, 52, 53, 54, 55, 56, 57, 58, 59, 60, 61, 62, 63, 64, 65, 66, 67, 68, 69, 70, 71, 72, 73, 74, 75, 76, 77], xkc i = true := List.forall_mem_cons.mpr ⟨xkc_1, List.forall_mem_cons.mpr ⟨xkc_2, List.forall_mem_cons.mpr ⟨xkc_3, List.forall_mem_cons.mpr ⟨xkc_4, List.forall_mem_cons.mpr ⟨xkc_5, List.forall_mem_cons.mpr ⟨xkc_6, List.forall_mem_cons.mpr ⟨xkc_7, List.forall_mem_cons.mpr ⟨xkc_8, List.forall_mem_cons.mpr ⟨xkc_9, List.forall_mem_cons.mpr ⟨xkc_10, List.forall_mem_cons.mpr ⟨xkc_11, List.forall_mem_cons.mpr ⟨xkc_12, List.forall_mem_cons.mpr ⟨xkc_13, List.forall_mem_cons.mpr ⟨xkc_14, List.forall_mem_cons.mpr ⟨xkc_15, List.forall_mem_cons.mpr ⟨xkc_16, List.forall_mem_cons.mpr ⟨xkc_17, List.forall_mem_cons.mpr ⟨xkc_18, List.forall_mem_cons.mpr ⟨xkc_19, List.forall_mem_cons.mpr ⟨xkc_20, List.forall_mem_cons.mpr ⟨xkc_21, List.forall_mem_cons.mpr ⟨xkc_22, List.forall_mem_cons.mpr ⟨xkc_23, List.forall_mem_cons.mpr ⟨xkc_24, List.forall_mem_cons.mpr ⟨xkc_25, List.forall_mem_cons.mpr ⟨xkc_26, List.forall_mem_cons.mpr ⟨xkc_27, List.forall_mem_cons.mpr ⟨xkc_28, List.forall_mem_cons.mpr ⟨xkc_29, List.forall_mem_cons.mpr ⟨xkc_30, List.forall_mem_cons.mpr ⟨xkc_31, List.forall_mem_cons.mpr ⟨xkc_32, List.forall_mem_cons.mpr ⟨xkc_33, List.forall_mem_cons.mpr ⟨xkc_34, List.forall_mem_cons.mpr ⟨xkc_35, List.forall_mem_cons.mpr ⟨xkc_36, List.forall_mem_cons.mpr ⟨xkc_37, List.forall_mem_cons.mpr ⟨xkc_38, List.forall_mem_cons.mpr ⟨xkc_39, List.forall_mem_cons.mpr ⟨xkc_40, List.forall_mem_cons.mpr ⟨xkc_41, List.forall_mem_cons.mpr ⟨xkc_42, List.forall_mem_cons.mpr ⟨xkc_43, List.forall_mem_cons.mpr ⟨xkc_44, List.forall_mem_cons.mpr ⟨xkc_45, List.forall_mem_cons.mpr ⟨xkc_46, List.forall_mem_cons.mpr ⟨xkc_47, List.forall_mem_cons.mpr ⟨xkc_48, List.forall_mem_cons.mpr ⟨xkc_49, List.forall_mem_cons.mpr ⟨xkc_50, List.forall_mem_cons.mpr ⟨xkc_51, List.forall_mem_cons.mpr ⟨xkc_52, List.forall_mem_cons.mpr ⟨xkc_53, List.forall_mem_cons.mpr ⟨xkc_54, List.forall_mem_cons.mpr ⟨xkc_55, List.forall_mem_cons.mpr ⟨xkc_56, List.forall_mem_cons.mpr ⟨xkc_57, List.forall_mem_cons.mpr ⟨xkc_58, List.forall_mem_cons.mpr ⟨xkc_59, List.forall_mem_cons.mpr ⟨xkc_60, List.forall_mem_cons.mpr ⟨xkc_61, List.forall_mem_cons.mpr ⟨xkc_62, List.forall_mem_cons.mpr ⟨xkc_63, List.forall_mem_cons.mpr ⟨xkc_64, List.forall_mem_cons.mpr ⟨xkc_65, List.forall_mem_cons.mpr ⟨xkc_66, List.forall_mem_cons.mpr ⟨xkc_67, List.forall_mem_cons.mpr ⟨xkc_68, List.forall_mem_cons.mpr ⟨xkc_69, List.forall_mem_cons.mpr ⟨xkc_70, List.forall_mem_cons.mpr ⟨xkc_71, List.forall_mem_cons.mpr ⟨xkc_72, List.forall_mem_cons.mpr ⟨xkc_73, List.forall_mem_cons.mpr ⟨xkc_74, List.forall_mem_cons.mpr ⟨xkc_75, List.forall_mem_cons.mpr ⟨xkc_76, List.forall_mem_cons.mpr ⟨xkc_77, fun _ h => absurd h List.not_mem_nil⟩⟩⟩⟩⟩⟩⟩⟩⟩⟩⟩⟩⟩⟩⟩⟩⟩⟩⟩⟩⟩⟩⟩⟩⟩⟩⟩⟩⟩⟩⟩⟩⟩⟩⟩⟩⟩⟩⟩⟩⟩⟩⟩⟩⟩⟩⟩⟩⟩⟩⟩⟩⟩⟩⟩⟩⟩⟩⟩⟩⟩⟩⟩⟩⟩⟩⟩⟩⟩⟩⟩⟩⟩⟩⟩⟩⟩
theorem xK_len : (xK []).length = 78 := by decide +kernel
theorem xkb_at {i k : Nat} {vs : List Value} (h0 : i ≠ 0) (h : (xK [])[i]? = some (k, vs)) : ∃ e, xkb i e (k, vs) = true := by
  have hl := (List.getElem?_eq_some_iff.mp h).1
  rw [xK_len] at hl
  have hm : i ∈ [1, 2, 3, 4, 5, 6, 7, 8, 9, 10, 11, 12, 13, 14, 15, 16, 17, 18, 19, 20, 21, 22, 23, 24, 25, 26, 27, 28, 29, 30, 31, 32, 33, 34, 35, 36, 37, 38, 39, 40, 41, 42, 43, 44, 45, 46, 47, 48, 49, 50, 51, 52, 53, 54, 55, 56, 57, 58, 59, 60, 61, 62, 63, 64, 65, 66, 67, 68, 69, 70, 71, 72, 73, 74, 75, 76, 77] := by
    have e : [1, 2, 3, 4, 5, 6, 7, 8, 9, 10, 11, 12, 13, 14, 15, 16, 17, 18, 19, 20, 21, 22, 23, 24, 25, 26, 27, 28, 29, 30, 31, 32, 33, 34, 35, 36, 37, 38, 39, 40, 41, 42, 43, 44, 45, 46, 47, 48, 49, 50, 51, 52, 53, 54, 55, 56, 57, 58, 59, 60, 61, 62, 63, 64, 65, 66, 67, 68, 69, 70, 71, 72, 73, 74, 75, 76, 77] = (List.range 77).map (· + 1) := by decide
    rw [e]
    exact List.mem_map.mpr ⟨i - 1, List.mem_range.mpr (by omega), by omega⟩
  have h1 := xkc_all i hm
  unfold xkc at h1
  rw [h] at h1
  split at h1
  · rename_i q e hq he
    cases hq
    exact ⟨e, h1⟩
  · cases h1
section XBG
variable {s : State} {b : Nat}
/-- the addresses of the constants -/
def xadv (b : Nat) (s : State) (i : Nat) : Nat := match (xTm i).eval #[Value.ref b] s none [] s with
  | some (.ref a) => a
  | _ => 0
def xadr (b : Nat) (s : State) (i : Nat) : Nat := xadv b s (i - 1000000)
def xAt (b : Nat) (s : State) : Prop := ∀ w ∈ flatC (Jvm.Cond.and given_1 narrow_1), w.before #[Value.ref b] s = true
theorem xnb_w (hA : xAt b s) {k : Nat} {w : Cond} (h : xnb k w = true) : w.before #[Value.ref b] s = true := hA w (xNt_in (of_decide_eq_true h))
theorem xadr_eq {n i a : Nat} (hn : n - 1000000 = i) (h : (xTm i).eval #[Value.ref b] s none [] s = some (.ref a)) : xadr b s n = a := by
  unfold xadr
  rw [hn]
  unfold xadv
  rw [h]
theorem xadr_of {n i a : Nat} (hn : n - 1000000 = i) (h : (xTm i).eval #[Value.ref b] s none [] s = some (.ref a)) : (xTm i).eval #[Value.ref b] s none [] s = some (.ref (xadr b s n)) := by
  rw [xadr_eq hn h]
  exact h
theorem xE_at (hA : xAt b s) {i k : Nat} {vs : List Value} (h0 : i ≠ 0) (h : (xK [])[i]? = some (k, vs)) (hk : k ≠ 40) : (xTm i).eval #[Value.ref b] s none [] s = some (.ref (xadr b s (1000000 + i))) := by
  obtain ⟨e, he⟩ := xkb_at h0 h
  unfold xkb at he
  dsimp only at he
  split at he
  · have he := (Bool.and_eq_true _ _ |>.mp he).1
    obtain ⟨a, c, cA, kA, q1, -⟩ := Cond.exactly_spec (xnb_w hA he)
    exact xadr_of (Nat.add_sub_cancel_left ..) q1
  · exact absurd rfl hk
  · have he := (Bool.and_eq_true _ _ |>.mp he).1
    obtain ⟨a, c, cA, kA, q1, -⟩ := Cond.exactly_spec (xnb_w hA he)
    exact xadr_of (Nat.add_sub_cancel_left ..) q1
  · simp only [Bool.and_eq_true] at he
    obtain ⟨t, cell, ht, -, -⟩ := Term.length_spec (va_eqt (xnb_w hA he.2.2.2.1))
    exact xadr_of (Nat.add_sub_cancel_left ..) ht
theorem xvr_at (hA : xAt b s) {a : Nat} (h : xvr a = true) : (xTm (a - 1000000)).eval #[Value.ref b] s none [] s = some (.ref (xadr b s a)) := by
  obtain ⟨h1, h2⟩ := Bool.and_eq_true _ _ |>.mp h
  have h1 := of_decide_eq_true h1
  split at h2
  · rename_i q hq
    have := xE_at hA (i := a - 1000000) (by omega) (show (xK [])[a - 1000000]? = some (q.1, q.2) from hq) (of_decide_eq_true h2)
    rw [show 1000000 + (a - 1000000) = a by omega] at this
    exact this
  · cases h2
theorem xeqr {t u : Term} {a : Nat} (h : (Cond.eq t u).before #[Value.ref b] s = true) (hu : u.eval #[Value.ref b] s none [] s = some (.ref a)) : t.eval #[Value.ref b] s none [] s = some (.ref a) := Cond.eq_refs h hu rfl
theorem xbA : ∀ a : Nat, a < s.heap.size → ¬ (fun q => s.heap.size ≤ q) a := fun a h q => absurd h (Nat.not_lt.mpr q)
theorem xcok1 (hA : xAt b s) {i k : Nat} {vs : List Value} (h0 : i ≠ 0) (h : (xK [])[i]? = some (k, vs)) : xCok s.heap.size (xadr b s) s i k vs := by
  obtain ⟨e, he⟩ := xkb_at h0 h
  by_cases hk : k = 40
  · subst hk
    exact ⟨fun j o n d v q => (nomatch q), fun q => absurd q (by decide), fun E q => (nomatch q)⟩
  have hE := xE_at hA h0 h hk
  unfold xkb at he
  dsimp only at he
  split at he
  · simp only [Bool.and_eq_true, decide_eq_true_eq] at he
    obtain ⟨e1, e2, e3, e4, e5⟩ := he
    subst e3
    have hv := xvr_at hA e4
    rw [show 1000001 + i - 1000000 = 1 + i by omega, e5] at hv
    refine ⟨fun j o n d v q1 q2 q3 => ?_, fun q => absurd q (by decide), fun E q => ?_⟩
    · rcases j with _ | _ | _ | _ | j
      · cases q1; cases q2
        exact vk_OFof hE hv xbA
      · cases q1; cases q2
        exact vk_OFof hE (va_eqt (xnb_w hA e2)) xbA
      · cases q1
      · cases q1
      · cases q1
    · cases q
      exact va_Oof (xnb_w hA e1) hE xbA
  · exact absurd rfl hk
  · obtain ⟨e1, he⟩ := Bool.and_eq_true _ _ |>.mp he
    split at he
    · rename_i w p n
      simp only [Bool.and_eq_true] at he
      obtain ⟨e2, e3, e4, e5, e6⟩ := he
      refine ⟨fun j o n d v q1 q2 q3 => ?_, fun q => absurd q (by decide), fun E q => ?_⟩
      · rcases j with _ | _ | _ | j
        · cases q1; cases q2
          exact vk_OFof hE (xeqr (xnb_w hA e5) (xvr_at hA e3)) xbA
        · cases q1; cases q2
          exact vk_OFof hE (xeqr (xnb_w hA e6) (xvr_at hA e4)) xbA
        · cases q1; cases q2
          exact vk_OFof hE (va_eqt (xnb_w hA e2)) xbA
        · cases q1
      · cases q
        exact va_Oof (xnb_w hA e1) hE xbA
    · cases he
  · rename_i n1 n2 n3
    simp only [Bool.and_eq_true, decide_eq_true_eq] at he
    obtain ⟨e1, e2, e3, e4, e5⟩ := he
    refine ⟨fun j o n d v q1 => ?_, fun _ => ?_, fun E q => ?_⟩
    · unfold xKF at q1
      split at q1 <;> first | (exact absurd rfl n1) | (exact absurd rfl n3) | (cases q1; done) | omega
    · obtain ⟨t, ht, hT⟩ := va_Tof (f := fun j => xcV (xadr b s) (vs.getD j .null)) (A := fun q => s.heap.size ≤ q) e2 (xnb_w hA e3) (va_eqt (xnb_w hA e4)) (fun j hj => by
        have h5 := List.all_eq_true.mp e5 j (List.mem_range.mpr hj)
        rw [List.getD_eq_getElem?_getD]
        unfold xkel at h5
        split at h5
        · rename_i x hx
          rw [hx]
          exact va_eqt (xnb_w hA h5)
        · rename_i a hx
          rw [hx]
          obtain ⟨h6, h7⟩ := Bool.and_eq_true _ _ |>.mp h5
          exact xeqr (xnb_w hA h7) (xvr_at hA h6)
        · cases h5) xbA
      have ha : xadr b s (1000000 + i) = t := Value.ref.inj (Option.some.inj (hE.symm.trans ht))
      rw [ha]
      exact hT
    · unfold xKC at q
      split at q <;> first | (exact absurd rfl n1) | (exact absurd rfl n3) | (cases q; done) | omega
end XBG
end
section
/-! THE ENVIRONMENT AT THE LAW'S START -/
theorem xsel_of {y : MethodName} {s : State} {args : Array Value} {x0 : MethodName} (hy : y.cls = "java/lang/AbstractStringBuilder") (hx0 : x0.cls = "java/lang/AbstractStringBuilder") (h0 : (Cond.selects "java/lang/StringBuilder" x0 x0).before args s = true) (hpriv : (Cond.privateMethod y).before args s = true) (hinst : (Cond.instanceMethod y).before args s = true) :
    (Cond.selects "java/lang/StringBuilder" y y).before args s = true := by
  obtain ⟨c, r, m0, hc, -, hm0, -, k, hk, hni⟩ := Cond.selects_spec h0
  obtain ⟨mk, methM, hnamed, hmethM, -, -⟩ := Cond.instanceMethod_spec hinst
  have hfound : s.methodFound? y.cls y.name y.desc = some mk := State.methodFound?_of_named hnamed (by rw [hy]; exact ⟨by decide, by decide⟩)
  have hcls : mk.cls = m0.cls := by
    have h1 := findClass_of_methodNamed hnamed
    have h2 := findClass_of_methodNamed hm0
    rw [hy] at h1
    rw [hx0] at h2
    exact Option.some.inj (h1.symm.trans h2)
  have hsel : selectMethod {} s.vm c mk = .method mk := selectMethod_private hmethM (Cond.privateMethod_at hpriv mk methM hnamed hmethM)
  simp only [Cond.before, Cond.holds, Cond.value, hc, hfound, hnamed, hsel, hcls, hk]
  simp; exact hni
def xwi (k : Nat) (w : Cond) : Bool := decide (lw_tbl[k]? = some w)
theorem xwi_in {k : Nat} {w : Cond} (h : xwi k w = true) : w ∈ lw_tbl := List.mem_of_getElem? (of_decide_eq_true h)
def xin0 (xs : List Nat) (j : Nat) : Nat := xs.getD j 0
theorem xsel_ok : (List.range 6).all (fun j => match xSel[j]? with
  | some y => decide (y.cls = "java/lang/AbstractStringBuilder") && (xwi (xin0 [1135, 1131, 1127, 1183, 1192, 1187] j) (.privateMethod y) && xwi (xin0 [1136, 1132, 1128, 1184, 1193, 1188] j) (.instanceMethod y))
  | none => false) = true := by decide +kernel
theorem xsel_len : xSel.length = 6 := by decide +kernel
theorem xsel_w0 : ∃ x0 : MethodName, x0.cls = "java/lang/AbstractStringBuilder" ∧ Cond.selects "java/lang/StringBuilder" x0 x0 ∈ lw_tbl := by
  have h : (match (lw_tbl[1164]? : Option Cond) with
    | some (Cond.selects C x y) => decide (C = "java/lang/StringBuilder") && (decide (x = y) && decide (x.cls = "java/lang/AbstractStringBuilder"))
    | _ => false) = true := by decide +kernel
  split at h
  · rename_i C x y hq
    simp only [Bool.and_eq_true, decide_eq_true_eq] at h
    obtain ⟨rfl, rfl, h⟩ := h
    exact ⟨x, h, List.mem_of_getElem? hq⟩
  · cases h
theorem xstr_ok : (List.range 29).all (fun j => match xSt[j]?, (xK [])[20 + 2 * j]? with
  | some (o, i, t), some q => xwi (xin0 [1118, 1280, 1321, 1322, 1323, 1330, 1390, 1394, 1397, 1399, 1400, 1475, 1476, 1480, 1520, 1521, 1531, 1532, 1533, 1534, 1535, 1536, 1537, 1538, 1539, 1540, 1541, 1542, 1543] j) (.stringRef o i t) && (decide (q.1 = 0) && decide (xTm (20 + 2 * j) = .string o i))
  | _, _ => false) = true := by decide +kernel
theorem xstr_len : xSt.length = 29 := by decide +kernel
theorem xins_ok : (List.range 12).all (fun j => match vwCl[j]? with
  | some (C, _, n) => xwi (xin0 [563, 267, 537, 1112, 199, 244, 172, 122, 70, 61, 192, 53] j) (.instantiable C n)
  | none => false) = true := by decide +kernel
theorem xcl_len : vwCl.length = 12 := by decide +kernel
theorem xncs_ok : (List.range 6).all (fun a => (List.range 6).all fun c => decide (a = c) || xnb (xin0 [0, 326, 344, 396, 377, 414, 362, 0, 345, 397, 378, 415, 363, 327, 0, 398, 379, 416, 364, 328, 346, 0, 380, 417, 361, 325, 343, 395, 0, 413, 365, 330, 348, 400, 382, 0] (6 * a + c)) (.not (.castable (xEx.getD a "") (xEx.getD c "")))) = true := by decide +kernel
theorem xsta_ok : (List.range 10).all (fun j => match xZn[j]? with
  | some (C, n, d) => xwi (xin0 [276, 205, 703, 798, 1230, 1232, 736, 754, 756, 758] j) (.laysStatic C n d) && xwi (xin0 [28, 24, 16, 41, 51, 51, 40, 29, 29, 29] j) (.initialized C)
  | none => false) = true := by decide +kernel
theorem xpick {p : Nat → Bool} {n j : Nat} (h : (List.range n).all p = true) (hj : j < n) : p j = true := List.all_eq_true.mp h j (List.mem_range.mpr hj)
theorem arrOfT_kind {s : State} {cA : ClassId} {ty : FieldType} {k : Class} {comp : ClassId} (hk : s.vm.classes[cA]? = some k) (hkind : k.kind = .array comp ty) : ArrOfT s cA ty := fun n z => ⟨fun k q => (nomatch q), k, hk, comp, hkind⟩
section XBE
variable {p : Program} {s : State} {m : MethodId} {meth : Method} {c : Code} {b L : Nat} {xf : Nat → Int32}
theorem xK_succ (xs : List Int32) (i : Nat) : (xK xs)[i + 1]? = (xK [])[i + 1]? := rfl
theorem xenv0_cok (hA : xAt b s) (hX : va_X b L xf s s.heap) (hL : L ≤ 260) (hb : b < s.heap.size) {i k : Nat} {vs : List Value} (h : (xK ((List.range L).map xf))[i]? = some (k, vs)) : xCok s.heap.size (xadr b s) s i k vs := by
  cases i with
  | succ i =>
    rw [xK_succ] at h
    exact xcok1 hA (Nat.succ_ne_zero i) h
  | zero =>
    cases h
    obtain ⟨cell, h1, h2, h3, h4, h5⟩ := hX
    have hab : xadr b s (1000000 + 0) = b := xadr_eq (i := 0) rfl rfl
    refine ⟨fun j o n d v q1 => ?_, fun _ => ?_, fun E q => ?_⟩
    · cases q1
    · rw [hab]
      have hl : (((List.range L).map xf).map Value.int).length = L := by rw [List.length_map, List.length_map, List.length_range]
      rw [hl]
      refine ⟨cell, h1, h2, h3, Nat.le_of_eq h4.symm, (congrArg Nat.toInt32 h4).trans rfl, fun j hj => ?_, Nat.not_le.mpr hb⟩
      show cell.slots[j]? = some (xcV (xadr b s) ((((List.range L).map xf).map Value.int).getD j .null))
      rw [h5 j hj, List.getD_eq_getElem?_getD, List.getElem?_map, List.getElem?_map, List.getElem?_range hj]
      rfl
    · cases q
theorem xbegin (C0 : lw_At p s m meth c b L xf) (hL : L ≤ 260) : ∃ (z : Value) (D : va_G) (tyC : Nat → ClassId), (xsc 0 z ∧ z.category = 1) ∧ xadr b s 1000000 = b ∧ xEnv ((List.range L).map xf) z s.heap.size D tyC (xadr b s) s := by
  obtain ⟨-, -, -, -, -, hw0, hX, hb, -, hgv⟩ := C0
  have hA : xAt b s := flat_of_before _ hgv
  -- z
  obtain ⟨v6, hv6, hr6⟩ : ∃ v, (Term.static "jdk/internal/util/Preconditions" "SIOOBE_FORMATTER" "Ljava/util/function/BiFunction;").eval #[Value.ref b] s none [] s = some v ∧ v.isRef = true := Cond.isRef_spec (xnb_w hA (k := 25) (by decide +kernel))
  obtain ⟨z, hz, hzv⟩ : ∃ z : Value, (xsc 0 z ∧ z.category = 1) ∧ xcV (xadr b s) z = v6 := by
    cases v6 <;> first | (cases hr6; done) | skip
    · exact ⟨.null, ⟨trivial, rfl⟩, rfl⟩
    · rename_i a
      refine ⟨.ref 1999999, ⟨Or.inr (by decide), rfl⟩, ?_⟩
      show Value.ref (xadr b s 1999999) = _
      rw [xadr_eq (n := 1999999) (i := 999999) rfl hv6]
  -- classes
  have hk0 : ∀ ci : Nat, ∃ r : ClassId × (Nat → Nat), ∀ q, vwCl[ci]? = some q → u_Kn s q.1 q.2.1 q.2.2 r.1 r.2 := by
    intro ci
    cases hq : vwCl[ci]? with
    | none => exact ⟨(0, fun _ => 0), fun q h => (nomatch h)⟩
    | some q =>
      have hlt := (List.getElem?_eq_some_iff.mp hq).1
      rw [xcl_len] at hlt
      have h1 := xpick xins_ok hlt
      rw [hq] at h1
      obtain ⟨C, T, N⟩ := q
      obtain ⟨cC, iS, hu⟩ := u_known (ws := lw_tbl) (T := T) (N := N) hw0 (fun w hw => by
        have h2 := List.all_eq_true.mp (List.all_eq_true.mp xcls_words _ (List.mem_of_getElem? hq)) w hw
        exact of_decide_eq_true (Bool.and_eq_true _ _ |>.mp h2).1) (hw0 _ (xwi_in h1))
      exact ⟨(cC, iS), fun q h => by cases h; exact hu⟩
  obtain ⟨fD, hfD⟩ := Classical.axiomOfChoice hk0
  -- arrays
  have hac : ∀ {ty : FieldType}, Cond.arrayClass ty ∈ lw_tbl → (∀ C, ty ≠ .object C) → ∃ cA : ClassId, ArrOfT s cA ty ∧ va_RA s cA ty := by
    intro ty hm hno
    obtain ⟨cA, k, comp, a1, a2, a3⟩ := Cond.arrayClass_spec (hw0 _ hm)
    refine ⟨cA, arrOfT_kind a2 a3, ?_⟩
    cases ty <;> first | exact a1 | exact absurd rfl (hno _)
  have hao : ∀ {C : String}, Cond.arrayOver (.object C) ∈ lw_tbl → ∃ cA : ClassId, ArrOfT s cA (.object C) ∧ va_RA s cA (.object C) := by
    intro C hm
    obtain ⟨comp, cA, k, a1, -, a2, a3, a4⟩ := Cond.arrayOver_spec (hw0 _ hm)
    exact ⟨cA, arrOfT_kind a2 a3, k, comp, a2, a3, a1, a4⟩
  have m0 : Cond.arrayClass .byte ∈ lw_tbl := List.mem_of_getElem? (i := 298) (by decide +kernel)
  have m1 : Cond.arrayClass .char ∈ lw_tbl := List.mem_of_getElem? (i := 225) (by decide +kernel)
  have m2 : Cond.arrayClass .long ∈ lw_tbl := List.mem_of_getElem? (i := 1481) (by decide +kernel)
  have m3 : Cond.arrayOver (.object "RiverReaches$Command") ∈ lw_tbl := List.mem_of_getElem? (i := 198) (by decide +kernel)
  have m4 : Cond.arrayOver (.object "RiverReaches$Pulse") ∈ lw_tbl := List.mem_of_getElem? (i := 69) (by decide +kernel)
  have m5 : Cond.arrayOver (.object "RiverReaches$Reach") ∈ lw_tbl := List.mem_of_getElem? (i := 67) (by decide +kernel)
  have m6 : Cond.arrayOver (.object "RiverReaches$River") ∈ lw_tbl := List.mem_of_getElem? (i := 178) (by decide +kernel)
  have ht0 : ∀ t : Nat, ∃ cA : ClassId, t < 7 → ArrOfT s cA (xTy t) ∧ va_RA s cA (xTy t) := by
    intro t
    rcases t with _ | _ | _ | _ | _ | _ | _ | t
    · obtain ⟨cA, h⟩ := hac m0 (fun C q => (nomatch q)); exact ⟨cA, fun _ => h⟩
    · obtain ⟨cA, h⟩ := hac m1 (fun C q => (nomatch q)); exact ⟨cA, fun _ => h⟩
    · obtain ⟨cA, h⟩ := hac m2 (fun C q => (nomatch q)); exact ⟨cA, fun _ => h⟩
    · obtain ⟨cA, h⟩ := hao m3; exact ⟨cA, fun _ => h⟩
    · obtain ⟨cA, h⟩ := hao m4; exact ⟨cA, fun _ => h⟩
    · obtain ⟨cA, h⟩ := hao m5; exact ⟨cA, fun _ => h⟩
    · obtain ⟨cA, h⟩ := hao m6; exact ⟨cA, fun _ => h⟩
    · exact ⟨0, fun h => absurd h (by omega)⟩
  obtain ⟨tyC, htyC⟩ := Classical.axiomOfChoice ht0
  refine ⟨z, (fun ci => (fD ci).1, fun ci => (fD ci).2), tyC, hz, xadr_eq (n := 1000000) (i := 0) rfl rfl, ?_, ⟨fun ci q hq => hfD ci q hq, fun k q hq => ?_⟩, ?_, fun i k vs h => xenv0_cok hA hX hL hb h, ?_, ⟨?_, ?_⟩, ?_, ⟨hw0 _ m0, hw0 _ m1, hw0 _ m2⟩, ?_, Nat.le_refl _⟩
  · -- words
    intro w hw hg
    rcases hw with hw | hw
    · exact va_Nw.of (xgd_tab hg) (hw0 w hw)
    · refine va_Nw.of (xgd_tab hg) (A := #[Value.ref b]) ?_
      obtain ⟨y, hy, rfl⟩ := List.mem_map.mp hw
      obtain ⟨j, hj⟩ := List.mem_iff_getElem?.mp hy
      have hlt := (List.getElem?_eq_some_iff.mp hj).1
      rw [xsel_len] at hlt
      have h1 := xpick xsel_ok hlt
      rw [hj] at h1
      simp only [Bool.and_eq_true, decide_eq_true_eq] at h1
      obtain ⟨x0, hx0, hx1⟩ := xsel_w0
      exact xsel_of h1.1 hx0 (hw0 _ hx1) (hw0 _ (xwi_in h1.2.1)) (hw0 _ (xwi_in h1.2.2))
  · -- types
    unfold xtys at hq
    rw [List.getElem?_map] at hq
    obtain ⟨t, ht, rfl⟩ := Option.map_eq_some_iff.mp hq
    have hk7 : k < 7 := by
      have := (List.getElem?_eq_some_iff.mp ht).1
      rwa [List.length_range] at this
    rw [List.getElem?_range hk7] at ht
    cases ht
    exact htyC k hk7
  · -- statics
    intro j C n d v h1 h2
    have hj : j < 10 := (List.getElem?_eq_some_iff.mp h1).1
    have hs := xpick xsta_ok hj
    rw [h1] at hs
    obtain ⟨w1, w2⟩ := Bool.and_eq_true _ _ |>.mp hs
    refine va_Zof (hw0 _ (xwi_in w1)) (hw0 _ (xwi_in w2)) ?_ xbA
    rcases j with _ | _ | _ | _ | _ | _ | _ | _ | _ | _ | j
    · cases h1; cases h2
      exact va_eqt (xnb_w hA (k := 8) (by decide +kernel))
    · cases h1; cases h2
      exact xE_at hA (i := 2) (by decide) rfl (by decide)
    · cases h1; cases h2
      exact xE_at hA (i := 10) (by decide) rfl (by decide)
    · cases h1; cases h2
      exact xE_at hA (i := 11) (by decide) rfl (by decide)
    · cases h1; cases h2
      exact xE_at hA (i := 12) (by decide) rfl (by decide)
    · cases h1; cases h2
      exact xE_at hA (i := 13) (by decide) rfl (by decide)
    · cases h1; cases h2
      rw [hzv]; exact hv6
    · cases h1; cases h2
      exact va_eqt (xnb_w hA (k := 26) (by decide +kernel))
    · cases h1; cases h2
      exact va_eqt (xnb_w hA (k := 27) (by decide +kernel))
    · cases h1; cases h2
      exact va_eqt (xnb_w hA (k := 28) (by decide +kernel))
    · omega
  · -- strings
    intro j own i tx hj
    have hlt := (List.getElem?_eq_some_iff.mp hj).1
    rw [xstr_len] at hlt
    have h1 := xpick xstr_ok hlt
    rw [hj] at h1
    split at h1
    · rename_i o i' t q e1 e2
      cases e1
      simp only [Bool.and_eq_true, decide_eq_true_eq] at h1
      have hE := xE_at hA (i := 20 + 2 * j) (k := q.1) (vs := q.2) (by omega) e2 (by rw [h1.2.1]; decide)
      rw [h1.2.2] at hE
      rw [show 1000020 + 2 * j = 1000000 + (20 + 2 * j) by omega]
      exact vk_R.of (hw0 _ (xwi_in h1.1)) hE
    · cases h1
  · exact vx_Zqof (args := #[Value.ref b]) (hw0 _ (List.mem_of_getElem? (i := 431) (by decide +kernel))) (hw0 _ (List.mem_of_getElem? (i := 30) (by decide +kernel))) (xnb_w hA (k := 9) (by decide +kernel)) xbA
  · exact vx_Zqof (args := #[Value.ref b]) (hw0 _ (List.mem_of_getElem? (i := 433) (by decide +kernel))) (hw0 _ (List.mem_of_getElem? (i := 30) (by decide +kernel))) (xnb_w hA (k := 10) (by decide +kernel)) xbA
  · intro t C h3 h6 hC
    rcases (show t = 3 ∨ t = 4 ∨ t = 5 ∨ t = 6 by omega) with rfl | rfl | rfl | rfl
    · cases hC; exact va_AO.of (hw0 _ m3)
    · cases hC; exact va_AO.of (hw0 _ m4)
    · cases hC; exact va_AO.of (hw0 _ m5)
    · cases hC; exact va_AO.of (hw0 _ m6)
  · intro E F hE hF hne
    obtain ⟨a, ha⟩ := List.mem_iff_getElem?.mp hE
    obtain ⟨c9, hc9⟩ := List.mem_iff_getElem?.mp hF
    have la : a < 6 := (List.getElem?_eq_some_iff.mp ha).1
    have lc : c9 < 6 := (List.getElem?_eq_some_iff.mp hc9).1
    have h1 := xpick (xpick xncs_ok la) lc
    rcases Bool.or_eq_true _ _ |>.mp h1 with h1 | h1
    · have := of_decide_eq_true h1
      subst this
      exact absurd (Option.some.inj (ha.symm.trans hc9)) hne
    · rw [List.getD_eq_getElem?_getD, List.getD_eq_getElem?_getD, ha, hc9] at h1
      exact va_Nc.of (xnb_w hA h1)
end XBE
/-- FROM THE ENTRY: what remains is a run of the abstract law alone -/
theorem xstart {p : Program} {e : Env} {s : State} {m : MethodId} {below : List Frame} {meth : Method} {c : Code} (l : Launch) (hflags : l.flags = flags0) {b L : Nat} {xf : Nat → Int32} (hL : L ≤ 260) (C0 : lw_At p s m meth c b L xf)
    (pure : ∀ z : Value, xsc 0 z → z.category = 1 → ∃ (d n : Nat) (hf : xH), d ≤ 2039 ∧ xev (xgo xMs (xK ((List.range L).map xf)) (xZ z) d n) 11 (xK ((List.range L).map xf)) (xZ z) [] xcL_law n xcL_law [(0, .ref 1000000)] [] [] = some (.ok (some (.int 1)), hf) ∧ hf.length ≤ 600390 ∧ xsz hf ≤ 7290159) :
    W p l e room_1 s m #[Value.ref b] below meth c s.heap [] 0 0 (lw_Z below #[Value.ref b] s) (entryFrame m ([Value.ref b] : List Value).toArray 11) := by
  obtain ⟨z, D, tyC, hz, hb0, hE⟩ := xbegin C0 hL
  obtain ⟨d, n, hf, h1, h2, h3, h4⟩ := pure z hz.1 hz.2
  exact xlaw l (by
    unfold Launch.stackTraces
    rw [hflags]
    decide +kernel) C0 hz.1 hb0 hE h1 h2 h3 h4
end
section
/-! A CALCULUS OF ABSTRACT RUNS: enough fuel, whatever it is -/
def xBd (K : List (Nat × List Value)) (Z : List Value) (d nL : Nat) (hs : List (Nat × Nat × Nat × Nat)) (code cs : List xE) (loc : xL) (st : List Value) (h : xH) (r : xA) (h' : xH) : Prop :=
  ∃ n0, ∀ f k, n0 ≤ f → n0 ≤ k → xev (xgo xMs K Z d f) nL K Z hs code k cs loc st h = some (r, h')
def xRn (K : List (Nat × List Value)) (Z : List Value) (d mi : Nat) (args : List Value) (h : xH) (r : xA) (h' : xH) : Prop :=
  ∃ n0, ∀ f, n0 ≤ f → xgo xMs K Z d f mi args h = some (r, h')
section XBC
variable {K : List (Nat × List Value)} {Z : List Value} {d nL : Nat} {hs : List (Nat × Nat × Nat × Nat)} {code cs : List xE} {e : xE} {loc loc1 : xL} {st st1 : List Value} {h h1 h2 h' : xH} {r : xA} {mi : Nat} {args : List Value} {v : Option Value}
theorem xB_step (hs1 : xstep nL K Z e loc st h = some (.inl (none, loc1, st1, h1))) (hb : xBd K Z d nL hs code cs loc1 st1 h1 r h') : xBd K Z d nL hs code (e :: cs) loc st h r h' := by
  obtain ⟨n0, hn⟩ := hb
  refine ⟨n0 + 1, fun f k hf hk => ?_⟩
  obtain ⟨k, rfl⟩ : ∃ j, k = j + 1 := ⟨k - 1, by omega⟩
  rw [xev, hs1]
  exact hn f k (by omega) (by omega)
theorem xB_jump {t : Nat} (hs1 : xstep nL K Z e loc st h = some (.inl (some t, loc1, st1, h1))) (hb : xBd K Z d nL hs code (xseek code t) loc1 st1 h1 r h') : xBd K Z d nL hs code (e :: cs) loc st h r h' := by
  obtain ⟨n0, hn⟩ := hb
  refine ⟨n0 + 1, fun f k hf hk => ?_⟩
  obtain ⟨k, rfl⟩ : ∃ j, k = j + 1 := ⟨k - 1, by omega⟩
  rw [xev, hs1]
  exact hn f k (by omega) (by omega)
theorem xB_call (hs1 : xstep nL K Z e loc st h = some (.inr (.inl (mi, args, loc1, st1, h1)))) (hc : xRn K Z d mi args h1 (.ok v) h2) (hb : xBd K Z d nL hs code cs loc1 (v.toList ++ st1) h2 r h') : xBd K Z d nL hs code (e :: cs) loc st h r h' := by
  obtain ⟨n0, hn⟩ := hb
  obtain ⟨n1, hn1⟩ := hc
  refine ⟨n0 + n1 + 1, fun f k hf hk => ?_⟩
  obtain ⟨k, rfl⟩ : ∃ j, k = j + 1 := ⟨k - 1, by omega⟩
  rw [xev, hs1]
  dsimp only
  rw [hn1 f (by omega)]
  exact hn f k (by omega) (by omega)
theorem xB_catch {E q t : Nat} (hs1 : xstep nL K Z e loc st h = some (.inr (.inl (mi, args, loc1, st1, h1)))) (hc : xRn K Z d mi args h1 (.error (E, q)) h2) (hm : xmay e = true) (hh : xhand hs e.1 E = some t) (hb : xBd K Z d nL hs code (xseek code t) loc1 [.ref q] h2 r h') : xBd K Z d nL hs code (e :: cs) loc st h r h' := by
  obtain ⟨n0, hn⟩ := hb
  obtain ⟨n1, hn1⟩ := hc
  refine ⟨n0 + n1 + 1, fun f k hf hk => ?_⟩
  obtain ⟨k, rfl⟩ : ∃ j, k = j + 1 := ⟨k - 1, by omega⟩
  rw [xev, hs1]
  dsimp only
  rw [hn1 f (by omega)]
  dsimp only
  rw [hm]
  dsimp only
  rw [hh]
  exact hn f k (by omega) (by omega)
theorem xB_pass {E q : Nat} (hs1 : xstep nL K Z e loc st h = some (.inr (.inl (mi, args, loc1, st1, h1)))) (hc : xRn K Z d mi args h1 (.error (E, q)) h2) (hm : xmay e = true) (hh : xhand hs e.1 E = none) : xBd K Z d nL hs code (e :: cs) loc st h (.error (E, q)) h2 := by
  obtain ⟨n1, hn1⟩ := hc
  refine ⟨n1 + 1, fun f k hf hk => ?_⟩
  obtain ⟨k, rfl⟩ : ∃ j, k = j + 1 := ⟨k - 1, by omega⟩
  rw [xev, hs1]
  dsimp only
  rw [hn1 f (by omega)]
  dsimp only
  rw [hm]
  dsimp only
  rw [hh]
theorem xB_ret (hs1 : xstep nL K Z e loc st h = some (.inr (.inr (.inl (v, h1))))) : xBd K Z d nL hs code (e :: cs) loc st h (.ok v) h1 := by
  refine ⟨1, fun f k hf hk => ?_⟩
  obtain ⟨k, rfl⟩ : ∃ j, k = j + 1 := ⟨k - 1, by omega⟩
  rw [xev, hs1]
theorem xB_new {E : Nat} (hs1 : xstep nL K Z e loc st h = some (.inr (.inr (.inr (E, h1))))) (hl : h1.length < 1000000) : xBd K Z d nL hs code (e :: cs) loc st h (.error (E, h1.length)) (h1 ++ [(40, List.replicate 6 .null)]) := by
  refine ⟨1, fun f k hf hk => ?_⟩
  obtain ⟨k, rfl⟩ : ∃ j, k = j + 1 := ⟨k - 1, by omega⟩
  rw [xev, hs1]
  dsimp only
  rw [decide_eq_true hl]
/-- a method out of its body -/
theorem xR_of {m : xMi} (hm : xMs[mi]? = some m) (ha : (args.map fun v => v.category).sum ≤ m.2.2.1) (hb : xBd K Z d m.2.2.1 (xhs m) m.2.2.2.2.2.2 m.2.2.2.2.2.2 (lv_args 0 args) [] h r h') (hr : ∀ v, r = .ok v → xrfit m.2.2.2.1 v = true) : xRn K Z (d + 1) mi args h r h' := by
  obtain ⟨n0, hn⟩ := hb
  refine ⟨n0, fun f hf => ?_⟩
  rw [xgo, hm]
  dsimp only
  rw [decide_eq_true ha]
  dsimp only
  rw [hn f f hf hf]
  cases r with
  | error q => rfl
  | ok v =>
    dsimp only
    rw [hr v rfl]
theorem xev_mono {c1 c2 : Nat → List Value → xH → Option (xA × xH)} (hc : ∀ mi as h x, c1 mi as h = some x → c2 mi as h = some x) : ∀ (k : Nat) (cs : List xE) (loc : xL) (st : List Value) (h : xH) (x : xA × xH), xev c1 nL K Z hs code k cs loc st h = some x → xev c2 nL K Z hs code k cs loc st h = some x := by
  intro k
  induction k with
  | zero => intro cs loc st h x hx; cases hx
  | succ k ih =>
    intro cs loc st h x hx
    cases cs with
    | nil => cases hx
    | cons e cs =>
      rw [xev] at hx ⊢
      split at hx
      · cases hx
      · exact ih _ _ _ _ _ hx
      · exact ih _ _ _ _ _ hx
      · rename_i mi as loc1 st1 h1 hs1
        cases hq : c1 mi as h1 with
        | none => rw [hq] at hx; cases hx
        | some y =>
          rw [hq] at hx
          rw [hc _ _ _ _ hq]
          obtain ⟨ya, yh⟩ := y
          cases ya with
          | ok v => exact ih _ _ _ _ _ hx
          | error q =>
            obtain ⟨E, q⟩ := q
            dsimp only at hx ⊢
            cases hm : xmay e with
            | false => rw [hm] at hx; cases hx
            | true =>
              rw [hm] at hx
              dsimp only at hx ⊢
              cases hh : xhand hs e.1 E with
              | none => rw [hh] at hx; exact hx
              | some t => rw [hh] at hx; exact ih _ _ _ _ _ hx
      · exact hx
      · exact hx
theorem xgo_mono : ∀ (d f mi : Nat) (args : List Value) (h : xH) (x : xA × xH), xgo xMs K Z d f mi args h = some x → xgo xMs K Z (d + 1) f mi args h = some x := by
  intro d
  induction d with
  | zero => intro f mi args h x hx; cases hx
  | succ d ih =>
    intro f mi args h x hx
    rw [xgo] at hx ⊢
    split at hx
    · cases hx
    · rename_i m hm
      split at hx
      · cases hx
      · rename_i hd
        cases hq : xev (xgo xMs K Z d f) m.2.2.1 K Z (xhs m) m.2.2.2.2.2.2 f m.2.2.2.2.2.2 (lv_args 0 args) [] h with
        | none => rw [hq] at hx; cases hx
        | some y =>
          rw [hq] at hx
          rw [xev_mono (fun mi as h x hx => ih f mi as h x hx) _ _ _ _ _ _ hq]
          exact hx
theorem xR_up {d' : Nat} (hd : d ≤ d') (hr : xRn K Z d mi args h r h') : xRn K Z d' mi args h r h' := by
  induction hd with
  | refl => exact hr
  | step _ ih =>
    obtain ⟨n0, hn⟩ := ih
    exact ⟨n0, fun f hf => xgo_mono _ f mi args h _ (hn f hf)⟩
end XBC
/-- THE LAW'S CLAIM, out of a run in the calculus -/
theorem xpure_of {xs : List Int32} {z : Value} {d : Nat} {hf : xH} (hd : d ≤ 2039) (hb : xBd (xK xs) (xZ z) d 11 [] xcL_law xcL_law [(0, .ref 1000000)] [] [] (.ok (some (.int 1))) hf) (h1 : hf.length ≤ 600390) (h2 : xsz hf ≤ 7290159) :
    ∃ (d n : Nat) (hf : xH), d ≤ 2039 ∧ xev (xgo xMs (xK xs) (xZ z) d n) 11 (xK xs) (xZ z) [] xcL_law n xcL_law [(0, .ref 1000000)] [] [] = some (.ok (some (.int 1)), hf) ∧ hf.length ≤ 600390 ∧ xsz hf ≤ 7290159 := by
  obtain ⟨n0, hn⟩ := hb
  exact ⟨d, n0, hf, hd, hn n0 n0 (Nat.le_refl _) (Nat.le_refl _), h1, h2⟩
end
section
/-! THE OBJECT'S OWN CELLS AS ONE FLAT MEMORY: 253 cells behind one another, of known kinds and sizes; a river is 19 cells (itself, its two rows of references, 8 reaches, 8 pulses): the river at 1, the forecast at 20, the snapshot at 39, the history at 58 with its nine rivers from 60 on, the text at 231, its commands from 234 on, the denial at 250, the line at 251 -/
def xKdR (j : Nat) : Nat × Nat := if j = 0 then (9, 8) else if j = 1 then (55, 8) else if j = 2 then (54, 8) else if j < 11 then (8, 11) else (7, 3)
def xKd (i : Nat) : Nat × Nat := if i = 0 then (11, 9) else if i < 58 then xKdR ((i - 1) % 19) else if i = 58 then (6, 3) else if i = 59 then (56, 9) else if i < 231 then xKdR ((i - 60) % 19) else if i = 231 then (10, 5) else if i = 232 then (51, 60) else if i = 233 then (53, 16) else if i < 250 then (4, 4) else if i = 250 then (5, 4) else if i = 251 then (1, 4) else (50, 16)
abbrev xM : Type := Nat → Nat → Value
def xLay (m : xM) : xH := (List.range 253).map fun i => ((xKd i).1, (List.range (xKd i).2).map (m i))
/-- the heap: what was there before, the object's own cells, what was made later -/
def xHp (pre : xH) (m : xM) (g : xH) : xH := pre ++ (xLay m ++ g)
def xup (m : xM) (i k : Nat) (v : Value) : xM := fun a b => if a = i ∧ b = k then v else m a b
theorem xLay_len (m : xM) : (xLay m).length = 253 := by rw [xLay, List.length_map, List.length_range]
theorem xHp_get {pre g : xH} {m : xM} {B i : Nat} (hB : pre.length = B) (hi : i < 253) : (xHp pre m g)[B + i]? = some ((xKd i).1, (List.range (xKd i).2).map (m i)) := by
  unfold xHp
  rw [List.getElem?_append_right (by omega), List.getElem?_append_left (by rw [xLay_len]; omega)]
  rw [show B + i - pre.length = i by omega]
  unfold xLay
  rw [List.getElem?_map, List.getElem?_range hi]
  rfl
theorem xLay_set {m : xM} {i k : Nat} {v : Value} (hi : i < 253) : (xLay m).set i ((xKd i).1, ((List.range (xKd i).2).map (m i)).set k v) = xLay (xup m i k v) := by
  apply List.ext_getElem?
  intro a
  by_cases ha : a < 253
  · by_cases hai : a = i
    · subst hai
      rw [List.getElem?_set_self (by rw [xLay_len]; exact ha)]
      unfold xLay
      rw [List.getElem?_map, List.getElem?_range ha]
      simp only [Option.map_some]
      congr 2
      apply List.ext_getElem?
      intro b
      by_cases hb : b < (xKd a).2
      · by_cases hbk : b = k
        · subst hbk
          rw [List.getElem?_set_self (by rw [List.length_map, List.length_range]; exact hb), List.getElem?_map, List.getElem?_range hb]
          simp [xup]
        · rw [List.getElem?_set_ne (fun q => hbk q.symm), List.getElem?_map, List.getElem?_map, List.getElem?_range hb]
          simp [xup, hbk]
      · rw [List.getElem?_eq_none (by rw [List.length_set, List.length_map, List.length_range]; omega), List.getElem?_eq_none (by rw [List.length_map, List.length_range]; omega)]
    · rw [List.getElem?_set_ne (fun q => hai q.symm)]
      unfold xLay
      rw [List.getElem?_map, List.getElem?_map, List.getElem?_range ha]
      simp only [Option.map_some]
      congr 2
      apply List.map_congr_left
      intro b _
      simp [xup, hai]
  · rw [List.getElem?_eq_none (by rw [List.length_set, xLay_len]; omega), List.getElem?_eq_none (by rw [xLay_len]; omega)]
theorem xHp_set {pre g : xH} {m : xM} {B i k : Nat} {v : Value} (hB : pre.length = B) (hi : i < 253) : (xHp pre m g).set (B + i) ((xKd i).1, ((List.range (xKd i).2).map (m i)).set k v) = xHp pre (xup m i k v) g := by
  unfold xHp
  rw [List.set_append_right _ _ (by omega), show B + i - pre.length = i by omega, List.set_append_left _ _ (by rw [xLay_len]; exact hi), xLay_set hi]
section XMM
variable {K : List (Nat × List Value)} {loc : xL} {st : List Value} {pre g : xH} {m : xM} {B i j k ci t : Nat} {v : Value} {ty : FieldType}
theorem xm_cell (hB : pre.length = B) (hB1 : B + 253 ≤ 1000000) (hi : i < 253) : xcell K (xHp pre m g) (B + i) = some ((xKd i).1, (List.range (xKd i).2).map (m i)) := by
  unfold xcell
  rw [decide_eq_true (show B + i < 1000000 by omega)]
  exact xHp_get hB hi
theorem xm_getf (hB : pre.length = B) (hB1 : B + 253 ≤ 1000000) (hi : i < 253) (hk : xKd i = (ci, t)) (hkt : k < t) (hv : xknown (m i k) = true) : xgetf K ci k loc (.ref (B + i) :: st) (xHp pre m g) = some (.inl (none, loc, m i k :: st, xHp pre m g)) := by
  unfold xgetf
  dsimp only
  rw [xm_cell hB hB1 hi]
  dsimp only
  rw [hk, decide_eq_true rfl]
  dsimp only
  rw [List.getElem?_map, List.getElem?_range hkt]
  dsimp only [Option.map_some]
  rw [hv]
  rfl
theorem xm_putf (hB : pre.length = B) (hB1 : B + 253 ≤ 1000000) (hi : i < 253) (hk : xKd i = (ci, t)) (hkt : k < t) (hv : xfit ty v = true) : xputf ty ci k loc (v :: .ref (B + i) :: st) (xHp pre m g) = some (.inl (none, loc, st, xHp pre (xup m i k v) g)) := by
  unfold xputf
  dsimp only
  rw [decide_eq_true (show B + i < 1000000 by omega)]
  dsimp only
  rw [xHp_get hB hi]
  dsimp only
  have h2 := xHp_set (m := m) (g := g) (k := k) (v := v) hB hi
  rw [hk] at h2 ⊢
  try dsimp only at h2 ⊢
  rw [decide_eq_true rfl, List.length_map, List.length_range, decide_eq_true hkt, hv]
  exact congrArg (fun q => (some (.inl (none, loc, st, q)) : Option xO)) h2
theorem xm_ald {p : Value → Bool} {q : Nat → Nat → Bool} {x : Int32} (hB : pre.length = B) (hB1 : B + 253 ≤ 1000000) (hi : i < 253) (hk : xKd i = (50 + ci, t)) (hq : q (B + i) ci = true) (hx : xin x t = true) (hp : p (m i x.toNatClampNeg) = true) : xald K p q loc (.int x :: .ref (B + i) :: st) (xHp pre m g) = some (.inl (none, loc, m i x.toNatClampNeg :: st, xHp pre m g)) := by
  unfold xald
  dsimp only
  rw [xm_cell hB hB1 hi]
  dsimp only
  rw [hk]
  try dsimp only
  have hxl : x.toNatClampNeg < t := of_decide_eq_true (Bool.and_eq_true _ _ |>.mp hx).2
  rw [List.length_map, List.length_range, decide_eq_true (show 50 ≤ 50 + ci by omega), show 50 + ci - 50 = ci by omega, hq, hx]
  show (match ((List.range t).map (m i))[x.toNatClampNeg]? with | some v => (match p v with | true => xnx loc (v :: st) (xHp pre m g) | false => none) | none => none) = _
  rw [List.getElem?_map, List.getElem?_range hxl]
  dsimp only [Option.map_some]
  rw [hp]
  rfl
theorem xm_ast {f : Value → Option Value} {w : Value} {x : Int32} (hB : pre.length = B) (hB1 : B + 253 ≤ 1000000) (hi : i < 253) (hk : xKd i = (50 + ci, t)) (hx : xin x t = true) (hf : f v = some w) : xast ci f loc (v :: .int x :: .ref (B + i) :: st) (xHp pre m g) = some (.inl (none, loc, st, xHp pre (xup m i x.toNatClampNeg w) g)) := by
  unfold xast
  dsimp only
  rw [decide_eq_true (show B + i < 1000000 by omega)]
  dsimp only
  rw [xHp_get hB hi]
  dsimp only
  have h2 := xHp_set (m := m) (g := g) (k := x.toNatClampNeg) (v := w) hB hi
  rw [hk] at h2 ⊢
  try dsimp only at h2 ⊢
  rw [List.length_map, List.length_range, decide_eq_true rfl, hx]
  show (match f v with | some w => xnx loc st ((xHp pre m g).set (B + i) (50 + ci, ((List.range t).map (m i)).set x.toNatClampNeg w)) | none => none) = _
  rw [hf]
  exact congrArg (fun q => (some (.inl (none, loc, st, q)) : Option xO)) h2
end XMM
end
section
/-! THE FLAT MEMORY BY NUMBERS: references stand where they stood at the object's making (but the line's bytes, at L, and the commands' kinds, C); all else is numbers -/
def xRbs : List Nat := [1, 20, 39, 60, 79, 98, 117, 136, 155, 174, 193, 212]
def xrfR (w j k : Nat) : Option Nat := if j = 0 then (if k = 0 then some (w + 1) else if k = 1 then some (w + 2) else none) else if j = 1 then some (w + 3 + k) else if j = 2 then some (w + 11 + k) else none
/-- the fixed references -/
def xrf0 (i k : Nat) : Option Nat := if i = 0 then [1, 20, 39, 58, 231, 250, 251][k]? else if i < 58 then xrfR (i - (i - 1) % 19) ((i - 1) % 19) k else if i = 58 then (if k = 0 then some 59 else none) else if i = 59 then some (60 + 19 * k) else if i < 231 then xrfR (i - (i - 60) % 19) ((i - 60) % 19) k else if i = 231 then (if k = 0 then some 232 else if k = 1 then some 233 else none) else if i = 233 then some (234 + k) else none
def xMv (B : Nat) (N : Nat → Nat → Int32) (C : Nat → Nat) (L : Nat) : xM := fun i k => match xrf0 i k with
  | some r => .ref (B + r)
  | none => if i = 251 ∧ k = 0 then .ref L else if 234 ≤ i ∧ i < 250 ∧ k = 0 then .ref (1000000 + C i) else .int (N i k)
/-- a number stands there -/
def xnu (i k : Nat) : Bool := decide (xrf0 i k = none) && (!decide (i = 251 ∧ k = 0) && !decide (234 ≤ i ∧ i < 250 ∧ k = 0))
def xupN (N : Nat → Nat → Int32) (i k : Nat) (x : Int32) : Nat → Nat → Int32 := fun a b => if a = i ∧ b = k then x else N a b
section XTY
variable {B L i k : Nat} {N : Nat → Nat → Int32} {C : Nat → Nat} {x : Int32}
theorem xMv_nu (h : xnu i k = true) : xMv B N C L i k = .int (N i k) := by
  unfold xnu at h
  simp only [Bool.and_eq_true, Bool.not_eq_true', decide_eq_true_eq, decide_eq_false_iff_not] at h
  unfold xMv
  rw [h.1]
  dsimp only
  rw [if_neg h.2.1, if_neg h.2.2]
theorem xMv_rf {r : Nat} (h : xrf0 i k = some r) : xMv B N C L i k = .ref (B + r) := by
  unfold xMv
  rw [h]
theorem xMv_up (h : xnu i k = true) : xup (xMv B N C L) i k (.int x) = xMv B (xupN N i k x) C L := by
  funext a b
  unfold xup
  split
  · rename_i q
    obtain ⟨rfl, rfl⟩ := q
    rw [xMv_nu h]
    simp [xupN]
  · rename_i q
    unfold xMv xupN
    rw [if_neg q]
/-- reaches of rivers -/
theorem xrb_reach : ∀ w ∈ xRbs, ∀ r, r < 8 → xKd (w + 3 + r) = (8, 11) ∧ (w + 3 + r < 253 ∧ ∀ k, k < 11 → xnu (w + 3 + r) k = true) := by
  intro w hw r hr
  have h : xRbs.all (fun w => (List.range 8).all fun r => decide (xKd (w + 3 + r) = (8, 11)) && (decide (w + 3 + r < 253) && (List.range 11).all fun k => xnu (w + 3 + r) k)) = true := by decide +kernel
  have h := List.all_eq_true.mp (List.all_eq_true.mp h w hw) r (List.mem_range.mpr hr)
  simp only [Bool.and_eq_true, decide_eq_true_eq] at h
  exact ⟨h.1, h.2.1, fun k hk => List.all_eq_true.mp h.2.2 k (List.mem_range.mpr hk)⟩
theorem xrb_pulse : ∀ w ∈ xRbs, ∀ r, r < 8 → xKd (w + 11 + r) = (7, 3) ∧ (w + 11 + r < 253 ∧ ∀ k, k < 3 → xnu (w + 11 + r) k = true) := by
  intro w hw r hr
  have h : xRbs.all (fun w => (List.range 8).all fun r => decide (xKd (w + 11 + r) = (7, 3)) && (decide (w + 11 + r < 253) && (List.range 3).all fun k => xnu (w + 11 + r) k)) = true := by decide +kernel
  have h := List.all_eq_true.mp (List.all_eq_true.mp h w hw) r (List.mem_range.mpr hr)
  simp only [Bool.and_eq_true, decide_eq_true_eq] at h
  exact ⟨h.1, h.2.1, fun k hk => List.all_eq_true.mp h.2.2 k (List.mem_range.mpr hk)⟩
/-- a river's own cells -/
theorem xrb_river : ∀ w ∈ xRbs, xKd w = (9, 8) ∧ xKd (w + 1) = (55, 8) ∧ xKd (w + 2) = (54, 8) ∧ w + 19 ≤ 253 ∧ xrf0 w 0 = some (w + 1) ∧ xrf0 w 1 = some (w + 2) ∧ (∀ k, k < 8 → 2 ≤ k → xnu w k = true) ∧ (∀ k, k < 8 → xrf0 (w + 1) k = some (w + 3 + k)) ∧ (∀ k, k < 8 → xrf0 (w + 2) k = some (w + 11 + k)) := by
  intro w hw
  have h : xRbs.all (fun w => decide (xKd w = (9, 8)) && (decide (xKd (w + 1) = (55, 8)) && (decide (xKd (w + 2) = (54, 8)) && (decide (w + 19 ≤ 253) && (decide (xrf0 w 0 = some (w + 1)) && (decide (xrf0 w 1 = some (w + 2)) && ((List.range 8).all (fun k => decide (k < 2) || xnu w k) && ((List.range 8).all (fun k => decide (xrf0 (w + 1) k = some (w + 3 + k))) && (List.range 8).all (fun k => decide (xrf0 (w + 2) k = some (w + 11 + k))))))))))) = true := by decide +kernel
  have h := List.all_eq_true.mp h w hw
  simp only [Bool.and_eq_true, decide_eq_true_eq] at h
  obtain ⟨h1, h2, h3, h4, h5, h6, h7, h8, h9⟩ := h
  refine ⟨h1, h2, h3, h4, h5, h6, fun k hk hk2 => ?_, fun k hk => of_decide_eq_true (List.all_eq_true.mp h8 k (List.mem_range.mpr hk)), fun k hk => of_decide_eq_true (List.all_eq_true.mp h9 k (List.mem_range.mpr hk))⟩
  rcases Bool.or_eq_true _ _ |>.mp (List.all_eq_true.mp h7 k (List.mem_range.mpr hk)) with q | q
  · exact absurd (of_decide_eq_true q) (by omega)
  · exact q
end XTY
/-- the heap by numbers -/
def xHn (pre : xH) (B : Nat) (N : Nat → Nat → Int32) (C : Nat → Nat) (L : Nat) (g : xH) : xH := xHp pre (xMv B N C L) g
def xBok (pre : xH) (B : Nat) : Prop := pre.length = B ∧ B + 253 ≤ 1000000
section XCN
variable {K : List (Nat × List Value)} {Z : List Value} {d nL : Nat} {hs : List (Nat × Nat × Nat × Nat)} {code cs : List xE} {loc : xL} {st : List Value} {h' : xH} {r : xA}
variable {pre g : xH} {B L i k : Nat} {N : Nat → Nat → Int32} {C : Nat → Nat} {x : Int32}
/-- getfield of a number -/
theorem xn_get {pc j ln ci t : Nat} {aux : List Nat} (hB : xBok pre B) (hi : i < 253) (hk : xKd i = (ci, t)) (hkt : k < t) (hn : xnu i k = true) (hb : xBd K Z d nL hs code cs loc (.int (N i k) :: st) (xHn pre B N C L g) r h') : xBd K Z d nL hs code ((pc, .getfield j, ln, ci :: k :: aux) :: cs) loc (.ref (B + i) :: st) (xHn pre B N C L g) r h' := by
  refine xB_step (st1 := .int (N i k) :: st) ?_ hb
  have e := xm_getf (K := K) (loc := loc) (st := st) (g := g) (m := xMv B N C L) (k := k) hB.1 hB.2 hi hk hkt (by rw [xMv_nu hn]; rfl)
  rw [xMv_nu hn] at e
  exact e
/-- getfield of a fixed reference -/
theorem xn_ref {pc j ln ci t q : Nat} {aux : List Nat} (hB : xBok pre B) (hi : i < 253) (hk : xKd i = (ci, t)) (hkt : k < t) (hn : xrf0 i k = some q) (hb : xBd K Z d nL hs code cs loc (.ref (B + q) :: st) (xHn pre B N C L g) r h') : xBd K Z d nL hs code ((pc, .getfield j, ln, ci :: k :: aux) :: cs) loc (.ref (B + i) :: st) (xHn pre B N C L g) r h' := by
  refine xB_step (st1 := .ref (B + q) :: st) ?_ hb
  have e := xm_getf (K := K) (loc := loc) (st := st) (g := g) (m := xMv B N C L) (k := k) hB.1 hB.2 hi hk hkt (by rw [xMv_rf hn]; rfl)
  rw [xMv_rf hn] at e
  exact e
/-- putfield of a number -/
theorem xn_put {pc j ln ci t : Nat} {aux : List Nat} (hB : xBok pre B) (hi : i < 253) (hk : xKd i = (ci, t)) (hkt : k < t) (hn : xnu i k = true) (hf : xfit (xFt ci k) (.int x) = true) (hb : xBd K Z d nL hs code cs loc st (xHn pre B (xupN N i k x) C L g) r h') : xBd K Z d nL hs code ((pc, .putfield j, ln, ci :: k :: aux) :: cs) loc (.int x :: .ref (B + i) :: st) (xHn pre B N C L g) r h' := by
  refine xB_step (h1 := xHn pre B (xupN N i k x) C L g) ?_ hb
  have e := xm_putf (loc := loc) (st := st) (g := g) (m := xMv B N C L) (ty := xFt ci k) hB.1 hB.2 hi hk hkt hf
  rw [xMv_up hn] at e
  exact e
/-- aaload of a fixed reference -/
theorem xn_aald {pc ln ci t q : Nat} {aux : List Nat} {y : Int32} (hB : xBok pre B) (hi : i < 253) (hk : xKd i = (50 + ci, t)) (hci : 3 ≤ ci ∧ ci ≤ 6) (hy : xin y t = true) (hn : xrf0 i y.toNatClampNeg = some q) (hb : xBd K Z d nL hs code cs loc (.ref (B + q) :: st) (xHn pre B N C L g) r h') : xBd K Z d nL hs code ((pc, .aaload, ln, aux) :: cs) loc (.int y :: .ref (B + i) :: st) (xHn pre B N C L g) r h' := by
  refine xB_step (st1 := .ref (B + q) :: st) ?_ hb
  have e := xm_ald (K := K) (loc := loc) (st := st) (g := g) (m := xMv B N C L) (p := xisA) (q := fun a t => (decide (a < 1000000) && (decide (3 ≤ t) && decide (t ≤ 6))) || (decide (1000000 ≤ a) && decide (t = 7))) hB.1 hB.2 hi hk (by
    have := hB.2
    rw [decide_eq_true (show B + i < 1000000 by omega), decide_eq_true hci.1, decide_eq_true hci.2]
    rfl) hy (by rw [xMv_rf hn]; rfl)
  rw [xMv_rf hn] at e
  exact e
theorem xB_if1 {pc ln t : Nat} {o : Int} {c : ClassFile.Cond} {aux : List Nat} {x : Int32} {h : xH} (ht : xtgt pc o = some t) (h1 : xic c x 0 = true → xBd K Z d nL hs code (xseek code t) loc st h r h') (h2 : xic c x 0 = false → xBd K Z d nL hs code cs loc st h r h') : xBd K Z d nL hs code ((pc, .ifCond c o, ln, aux) :: cs) loc (.int x :: st) h r h' := by
  cases hx : xic c x 0 with
  | true => exact xB_jump (show xbr (xic c x 0) pc o loc st h = _ by rw [hx]; unfold xbr; dsimp only; rw [ht]; rfl) (h1 hx)
  | false => exact xB_step (show xbr (xic c x 0) pc o loc st h = _ by rw [hx]; rfl) (h2 hx)
theorem xB_if2 {pc ln t : Nat} {o : Int} {c : ClassFile.Cond} {aux : List Nat} {x y : Int32} {h : xH} (ht : xtgt pc o = some t) (h1 : xic c x y = true → xBd K Z d nL hs code (xseek code t) loc st h r h') (h2 : xic c x y = false → xBd K Z d nL hs code cs loc st h r h') : xBd K Z d nL hs code ((pc, .if_icmp c o, ln, aux) :: cs) loc (.int y :: .int x :: st) h r h' := by
  cases hx : xic c x y with
  | true => exact xB_jump (show xbr (xic c x y) pc o loc st h = _ by rw [hx]; unfold xbr; dsimp only; rw [ht]; rfl) (h1 hx)
  | false => exact xB_step (show xbr (xic c x y) pc o loc st h = _ by rw [hx]; rfl) (h2 hx)
theorem xB_div {pc ln : Nat} {aux : List Nat} {x y : Int32} {h : xH} (hy : y ≠ 0) (hb : xBd K Z d nL hs code cs loc (.int (x / y) :: st) h r h') : xBd K Z d nL hs code ((pc, .idiv, ln, aux) :: cs) loc (.int y :: .int x :: st) h r h' :=
  xB_step (show xiz (fun x y => x / y) loc (.int y :: .int x :: st) h = _ by unfold xiz; dsimp only; rw [decide_eq_false hy]; rfl) hb
end XCN
/-! the first methods: a reach's level and status -/
def xlvl (s v : Int32) : Int32 := if s < 1 then 0 else v / s
def xsta (N : Nat → Nat → Int32) (i : Nat) : Int32 := if N i 4 < N i 6 * N i 0 then (if N i 4 < N i 5 * N i 0 then 0 else 1) else 2
section XRM
variable {K : List (Nat × List Value)} {Z : List Value} {pre g : xH} {B L : Nat} {N : Nat → Nat → Int32} {C : Nat → Nat}
theorem xs_level (hB : xBok pre B) {w r : Nat} (hw : w ∈ xRbs) (hr : r < 8) : xRn K Z 1 18 [.ref (B + (w + 3 + r))] (xHn pre B N C L g) (.ok (some (.int (xlvl (N (w + 3 + r) 0) (N (w + 3 + r) 4))))) (xHn pre B N C L g) := by
  obtain ⟨k1, k2, k3⟩ := xrb_reach w hw r hr
  generalize w + 3 + r = i at k1 k2 k3
  refine xR_of (m := (yX6_levelNow, cX6_levelNow, 1, some .int, [], [], xcX6_levelNow)) rfl (Nat.le_refl _) ?_ (fun v q => by cases q; rfl)
  show xBd K Z 0 1 [] xcX6_levelNow xcX6_levelNow [(0, .ref (B + i))] [] _ _ _
  refine xB_step rfl ?_
  refine xn_get hB k2 k1 (by decide) (k3 0 (by decide)) ?_
  refine xB_step rfl ?_
  refine xB_if2 rfl (fun q => ?_) (fun q => ?_)
  · have q9 : ¬ N i 0 < 1 := Int32.not_lt.mpr (of_decide_eq_true q)
    have q8 : N i 0 ≠ 0 := fun z => q9 (by rw [z]; decide)
    refine xB_step rfl ?_
    refine xn_get hB k2 k1 (by decide) (k3 4 (by decide)) ?_
    refine xB_step rfl ?_
    refine xn_get hB k2 k1 (by decide) (k3 0 (by decide)) ?_
    refine xB_div q8 ?_
    rw [show xlvl (N i 0) (N i 4) = N i 4 / N i 0 from if_neg q9]
    exact xB_ret rfl
  · have q9 : N i 0 < 1 := Int32.not_le.mp (of_decide_eq_false q)
    refine xB_step rfl ?_
    refine xB_jump rfl ?_
    rw [show xlvl (N i 0) (N i 4) = 0 from if_pos q9]
    exact xB_ret rfl
end XRM
end
section
/-! THE CALCULUS WITH A POSTCONDITION -/
def xBp (K : List (Nat × List Value)) (Z : List Value) (d nL : Nat) (hs : List (Nat × Nat × Nat × Nat)) (code cs : List xE) (loc : xL) (st : List Value) (h : xH) (P : xA → xH → Prop) : Prop := ∃ r h', xBd K Z d nL hs code cs loc st h r h' ∧ P r h'
def xRp (K : List (Nat × List Value)) (Z : List Value) (d mi : Nat) (args : List Value) (h : xH) (P : xA → xH → Prop) : Prop := ∃ r h', xRn K Z d mi args h r h' ∧ P r h'
section XPC
variable {K : List (Nat × List Value)} {Z : List Value} {d nL : Nat} {hs : List (Nat × Nat × Nat × Nat)} {code cs : List xE} {e : xE} {loc loc1 : xL} {st st1 : List Value} {h h1 : xH} {P Q : xA → xH → Prop} {mi : Nat} {args : List Value} {v : Option Value}
theorem xp_step (hs1 : xstep nL K Z e loc st h = some (.inl (none, loc1, st1, h1))) (hb : xBp K Z d nL hs code cs loc1 st1 h1 P) : xBp K Z d nL hs code (e :: cs) loc st h P := by
  obtain ⟨r, h', hb, hp⟩ := hb
  exact ⟨r, h', xB_step hs1 hb, hp⟩
theorem xp_jump {t : Nat} (hs1 : xstep nL K Z e loc st h = some (.inl (some t, loc1, st1, h1))) (hb : xBp K Z d nL hs code (xseek code t) loc1 st1 h1 P) : xBp K Z d nL hs code (e :: cs) loc st h P := by
  obtain ⟨r, h', hb, hp⟩ := hb
  exact ⟨r, h', xB_jump hs1 hb, hp⟩
theorem xp_ret (hs1 : xstep nL K Z e loc st h = some (.inr (.inr (.inl (v, h1))))) (hp : P (.ok v) h1) : xBp K Z d nL hs code (e :: cs) loc st h P := ⟨_, _, xB_ret hs1, hp⟩
theorem xp_new {E : Nat} (hs1 : xstep nL K Z e loc st h = some (.inr (.inr (.inr (E, h1))))) (hl : h1.length < 1000000) (hp : P (.error (E, h1.length)) (h1 ++ [(40, List.replicate 6 .null)])) : xBp K Z d nL hs code (e :: cs) loc st h P := ⟨_, _, xB_new hs1 hl, hp⟩
/-- a call, by what is known of its end: it returns, or throws, here caught or not -/
theorem xp_call (hs1 : xstep nL K Z e loc st h = some (.inr (.inl (mi, args, loc1, st1, h1)))) (hc : xRp K Z d mi args h1 Q) (hm : ∀ E q h2, Q (.error (E, q)) h2 → xmay e = true)
    (k1 : ∀ v h2, Q (.ok v) h2 → xBp K Z d nL hs code cs loc1 (v.toList ++ st1) h2 P) (k2 : ∀ E q t h2, Q (.error (E, q)) h2 → xhand hs e.1 E = some t → xBp K Z d nL hs code (xseek code t) loc1 [.ref q] h2 P) (k3 : ∀ E q h2, Q (.error (E, q)) h2 → xhand hs e.1 E = none → P (.error (E, q)) h2) : xBp K Z d nL hs code (e :: cs) loc st h P := by
  obtain ⟨r, h2, hc, hq⟩ := hc
  cases r with
  | ok v =>
    obtain ⟨r, h', hb, hp⟩ := k1 v h2 hq
    exact ⟨r, h', xB_call hs1 hc hb, hp⟩
  | error x =>
    obtain ⟨E, q⟩ := x
    cases hh : xhand hs e.1 E with
    | some t =>
      obtain ⟨r, h', hb, hp⟩ := k2 E q t h2 hq hh
      exact ⟨r, h', xB_catch hs1 hc (hm E q h2 hq) hh hb, hp⟩
    | none => exact ⟨_, _, xB_pass hs1 hc (hm E q h2 hq) hh, k3 E q h2 hq hh⟩
/-- .. of a callee that only returns -/
theorem xp_callR {v : Option Value} {h2 : xH} (hs1 : xstep nL K Z e loc st h = some (.inr (.inl (mi, args, loc1, st1, h1)))) (hc : xRn K Z d mi args h1 (.ok v) h2) (hb : xBp K Z d nL hs code cs loc1 (v.toList ++ st1) h2 P) : xBp K Z d nL hs code (e :: cs) loc st h P := by
  obtain ⟨r, h', hb, hp⟩ := hb
  exact ⟨r, h', xB_call hs1 hc hb, hp⟩
theorem xp_if1 {pc ln t : Nat} {o : Int} {c : ClassFile.Cond} {aux : List Nat} {x : Int32} (ht : xtgt pc o = some t) (k1 : xic c x 0 = true → xBp K Z d nL hs code (xseek code t) loc st h P) (k2 : xic c x 0 = false → xBp K Z d nL hs code cs loc st h P) : xBp K Z d nL hs code ((pc, .ifCond c o, ln, aux) :: cs) loc (.int x :: st) h P := by
  cases hx : xic c x 0 with
  | true => exact xp_jump (show xbr (xic c x 0) pc o loc st h = _ by rw [hx]; unfold xbr; dsimp only; rw [ht]; rfl) (k1 hx)
  | false => exact xp_step (show xbr (xic c x 0) pc o loc st h = _ by rw [hx]; rfl) (k2 hx)
theorem xp_if2 {pc ln t : Nat} {o : Int} {c : ClassFile.Cond} {aux : List Nat} {x y : Int32} (ht : xtgt pc o = some t) (k1 : xic c x y = true → xBp K Z d nL hs code (xseek code t) loc st h P) (k2 : xic c x y = false → xBp K Z d nL hs code cs loc st h P) : xBp K Z d nL hs code ((pc, .if_icmp c o, ln, aux) :: cs) loc (.int y :: .int x :: st) h P := by
  cases hx : xic c x y with
  | true => exact xp_jump (show xbr (xic c x y) pc o loc st h = _ by rw [hx]; unfold xbr; dsimp only; rw [ht]; rfl) (k1 hx)
  | false => exact xp_step (show xbr (xic c x y) pc o loc st h = _ by rw [hx]; rfl) (k2 hx)
theorem xp_div {pc ln : Nat} {aux : List Nat} {x y : Int32} (hy : y ≠ 0) (hb : xBp K Z d nL hs code cs loc (.int (x / y) :: st) h P) : xBp K Z d nL hs code ((pc, .idiv, ln, aux) :: cs) loc (.int y :: .int x :: st) h P :=
  xp_step (show xiz (fun x y => x / y) loc (.int y :: .int x :: st) h = _ by unfold xiz; dsimp only; rw [decide_eq_false hy]; rfl) hb
theorem xRp_of {m : xMi} (hm : xMs[mi]? = some m) (ha : (args.map fun v => v.category).sum ≤ m.2.2.1) (hb : xBp K Z d m.2.2.1 (xhs m) m.2.2.2.2.2.2 m.2.2.2.2.2.2 (lv_args 0 args) [] h (fun r h' => (∀ v, r = .ok v → xrfit m.2.2.2.1 v = true) ∧ P r h')) : xRp K Z (d + 1) mi args h P := by
  obtain ⟨r, h', hb, hr, hp⟩ := hb
  exact ⟨r, h', xR_of hm ha hb hr, hp⟩
theorem xRp_eq {r : xA} {h' : xH} (hb : xRp K Z d mi args h (fun r1 h1 => r1 = r ∧ h1 = h')) : xRn K Z d mi args h r h' := by
  obtain ⟨r1, h1, hb, rfl, rfl⟩ := hb
  exact hb
end XPC
section XPN
variable {K : List (Nat × List Value)} {Z : List Value} {d nL : Nat} {hs : List (Nat × Nat × Nat × Nat)} {code cs : List xE} {loc : xL} {st : List Value} {P : xA → xH → Prop}
variable {pre g : xH} {B L i k : Nat} {N : Nat → Nat → Int32} {C : Nat → Nat} {x : Int32}
theorem xp_get {pc j ln ci t : Nat} {aux : List Nat} (hB : xBok pre B) (hi : i < 253) (hk : xKd i = (ci, t)) (hkt : k < t) (hn : xnu i k = true) (hb : xBp K Z d nL hs code cs loc (.int (N i k) :: st) (xHn pre B N C L g) P) : xBp K Z d nL hs code ((pc, .getfield j, ln, ci :: k :: aux) :: cs) loc (.ref (B + i) :: st) (xHn pre B N C L g) P := by
  obtain ⟨r, h', hb, hp⟩ := hb
  exact ⟨r, h', xn_get hB hi hk hkt hn hb, hp⟩
theorem xp_ref {pc j ln ci t q : Nat} {aux : List Nat} (hB : xBok pre B) (hi : i < 253) (hk : xKd i = (ci, t)) (hkt : k < t) (hn : xrf0 i k = some q) (hb : xBp K Z d nL hs code cs loc (.ref (B + q) :: st) (xHn pre B N C L g) P) : xBp K Z d nL hs code ((pc, .getfield j, ln, ci :: k :: aux) :: cs) loc (.ref (B + i) :: st) (xHn pre B N C L g) P := by
  obtain ⟨r, h', hb, hp⟩ := hb
  exact ⟨r, h', xn_ref hB hi hk hkt hn hb, hp⟩
theorem xp_put {pc j ln ci t : Nat} {aux : List Nat} (hB : xBok pre B) (hi : i < 253) (hk : xKd i = (ci, t)) (hkt : k < t) (hn : xnu i k = true) (hf : xfit (xFt ci k) (.int x) = true) (hb : xBp K Z d nL hs code cs loc st (xHn pre B (xupN N i k x) C L g) P) : xBp K Z d nL hs code ((pc, .putfield j, ln, ci :: k :: aux) :: cs) loc (.int x :: .ref (B + i) :: st) (xHn pre B N C L g) P := by
  obtain ⟨r, h', hb, hp⟩ := hb
  exact ⟨r, h', xn_put hB hi hk hkt hn hf hb, hp⟩
theorem xp_aald {pc ln ci t q : Nat} {aux : List Nat} {y : Int32} (hB : xBok pre B) (hi : i < 253) (hk : xKd i = (50 + ci, t)) (hci : 3 ≤ ci ∧ ci ≤ 6) (hy : xin y t = true) (hn : xrf0 i y.toNatClampNeg = some q) (hb : xBp K Z d nL hs code cs loc (.ref (B + q) :: st) (xHn pre B N C L g) P) : xBp K Z d nL hs code ((pc, .aaload, ln, aux) :: cs) loc (.int y :: .ref (B + i) :: st) (xHn pre B N C L g) P := by
  obtain ⟨r, h', hb, hp⟩ := hb
  exact ⟨r, h', xn_aald hB hi hk hci hy hn hb, hp⟩
end XPN
/-! reaches: status, and what begins and copies them -/
section XRM2
variable {K : List (Nat × List Value)} {Z : List Value} {pre g : xH} {B L : Nat} {N : Nat → Nat → Int32} {C : Nat → Nat}
theorem xs_status (hB : xBok pre B) {w r : Nat} (hw : w ∈ xRbs) (hr : r < 8) : xRn K Z 1 19 [.ref (B + (w + 3 + r))] (xHn pre B N C L g) (.ok (some (.int (xsta N (w + 3 + r))))) (xHn pre B N C L g) := by
  obtain ⟨k1, k2, k3⟩ := xrb_reach w hw r hr
  generalize w + 3 + r = i at k1 k2 k3
  refine xRp_eq (xRp_of (m := (yX6_statusNow, cX6_statusNow, 1, some .int, [], [], xcX6_statusNow)) rfl (Nat.le_refl _) ?_)
  show xBp K Z 0 1 [] xcX6_statusNow xcX6_statusNow [(0, .ref (B + i))] [] _ _
  repeat' (first
    | refine xp_get hB k2 k1 (by decide) (k3 _ (by decide)) ?_
    | refine xp_if2 rfl (fun _ => ?_) (fun _ => ?_)
    | refine xp_ret rfl ?_
    | refine xp_step rfl ?_
    | refine xp_jump rfl ?_)
  all_goals refine ⟨fun v q => by cases q; rfl, congrArg (fun x => Except.ok (some (Value.int x))) ?_, rfl⟩
  all_goals simp_all [xic, xsta]
  all_goals first | rfl | (intro q; exact absurd q (Int32.not_lt.mpr (by assumption)))
end XRM2
end
section
/-! WHAT THE METHODS OF A REACH AND OF A PULSE DO -/
def xNbeg (N : Nat → Nat → Int32) (i : Nat) (s p c : Int32) : Nat → Nat → Int32 := fun a b => if a = i then (match b with
  | 0 => s
  | 1 => p
  | 2 => c
  | 3 => 0
  | 4 => 0
  | 5 => 20
  | 6 => 40
  | 7 => 100
  | 8 => 102
  | _ => N a b) else N a b
/-- the first n numbers of the cell i out of the cell j -/
def xNcp (N : Nat → Nat → Int32) (n i j : Nat) : Nat → Nat → Int32 := fun a b => if a = i ∧ b < n then N j b else N a b
def xNpu (N : Nat → Nat → Int32) (i : Nat) (x y z : Int32) : Nat → Nat → Int32 := fun a b => if a = i then (match b with
  | 0 => x
  | 1 => y
  | 2 => z
  | _ => N a b) else N a b
def xrate (N : Nat → Nat → Int32) (i : Nat) (t : Int32) : Int32 := if N i 0 ≤ t ∧ t < N i 0 + N i 1 then N i 2 else 0
section XPV
variable {K : List (Nat × List Value)} {Z : List Value} {d nL : Nat} {hs : List (Nat × Nat × Nat × Nat)} {code cs : List xE} {loc : xL} {st : List Value} {P : xA → xH → Prop}
variable {pre g h2 : xH} {B L i : Nat} {N : Nat → Nat → Int32} {C : Nat → Nat} {v : Option Value}
/-- a virtual call on one of the object's own cells, that returns -/
theorem xp_virt {pc j ln mi n I rc t : Nat} {aux : List Nat} (hB : xBok pre B) (hi : i < 253) (hk : xKd i = (rc, t)) (hst : st[n - 1]? = some (.ref (B + i))) (hn : n ≤ st.length) (hcat : decide (((st.drop n).map fun v => v.category).sum ≤ 8) = true) (hc : xRn K Z d mi (st.take n).reverse (xHn pre B N C L g) (.ok v) h2) (hb : xBp K Z d nL hs code cs loc (v.toList ++ st.drop n) h2 P) : xBp K Z d nL hs code ((pc, .invokevirtual j, ln, 0 :: mi :: n :: I :: rc :: aux) :: cs) loc st (xHn pre B N C L g) P := by
  refine xp_callR (loc1 := loc) (st1 := st.drop n) (args := (st.take n).reverse) (h1 := xHn pre B N C L g) (mi := mi) (v := v) ?_ hc hb
  have e : xrcv K (xHn pre B N C L g) st n rc = true := by
    unfold xrcv
    rw [hst]
    dsimp only
    rw [show xcell K (xHn pre B N C L g) (B + i) = _ from xm_cell hB.1 hB.2 hi, hk]
    exact decide_eq_true rfl
  have f : xcall mi n loc st (xHn pre B N C L g) = some (.inr (.inl (mi, (st.take n).reverse, loc, st.drop n, xHn pre B N C L g))) := by
    unfold xcall
    rw [decide_eq_true hn, hcat]
    rfl
  show (match xrcv K (xHn pre B N C L g) st n rc with | true => xcall mi n loc st (xHn pre B N C L g) | false => none) = _
  rw [e]
  exact f
end XPV
section XRM3
variable {K : List (Nat × List Value)} {Z : List Value} {pre g : xH} {B L : Nat} {N : Nat → Nat → Int32} {C : Nat → Nat}
theorem xs_begin (hB : xBok pre B) {w r : Nat} (hw : w ∈ xRbs) (hr : r < 8) (s p c : Int32) : xRn K Z 1 16 [.ref (B + (w + 3 + r)), .int s, .int p, .int c] (xHn pre B N C L g) (.ok none) (xHn pre B (xNbeg N (w + 3 + r) s p c) C L g) := by
  obtain ⟨k1, k2, k3⟩ := xrb_reach w hw r hr
  generalize w + 3 + r = i at k1 k2 k3
  refine xRp_eq (xRp_of (m := (yX6_begin, cX6_begin, 4, none, [], [], xcX6_begin)) rfl (Nat.le_refl _) ?_)
  show xBp K Z 0 4 [] xcX6_begin xcX6_begin [(0, .ref (B + i)), (1, .int s), (2, .int p), (3, .int c)] [] _ _
  repeat' (first
    | refine xp_put hB k2 k1 (by decide) (k3 _ (by decide)) rfl ?_
    | refine xp_ret rfl ?_
    | refine xp_step rfl ?_)
  refine ⟨fun v q => by cases q; rfl, rfl, congrArg (fun n => xHn pre B n C L g) ?_⟩
  funext a b
  by_cases ha : a = i
  · subst ha
    rcases b with _ | _ | _ | _ | _ | _ | _ | _ | _ | b <;> simp [xupN, xNbeg] <;> rfl
  · simp [xupN, xNbeg, ha]
theorem xs_rcopy (hB : xBok pre B) {w r w' : Nat} (hw : w ∈ xRbs) (hw' : w' ∈ xRbs) (hr : r < 8) (hne : w ≠ w') (hch : 0 ≤ N (w' + 3 + r) 8 ∧ N (w' + 3 + r) 8 ≤ 65535) : xRn K Z 1 17 [.ref (B + (w + 3 + r)), .ref (B + (w' + 3 + r))] (xHn pre B N C L g) (.ok none) (xHn pre B (xNcp N 9 (w + 3 + r) (w' + 3 + r)) C L g) := by
  obtain ⟨k1, k2, k3⟩ := xrb_reach w hw r hr
  obtain ⟨l1, l2, l3⟩ := xrb_reach w' hw' r hr
  have hij : w' + 3 + r ≠ w + 3 + r := by omega
  generalize w + 3 + r = i at k1 k2 k3 hij ⊢
  generalize w' + 3 + r = j at l1 l2 l3 hij hch ⊢
  refine xRp_eq (xRp_of (m := (yX6_copyFrom, cX6_copyFrom, 2, none, [], [], xcX6_copyFrom)) rfl (Nat.le_refl _) ?_)
  show xBp K Z 0 2 [] xcX6_copyFrom xcX6_copyFrom [(0, .ref (B + i)), (1, .ref (B + j))] [] _ _
  have hf : ∀ M : Nat → Nat → Int32, M j 8 = N j 8 → xfit (xFt 8 8) (.int (M j 8)) = true := fun M hM => by
    rw [hM]
    show (decide (0 ≤ N j 8) && decide (N j 8 ≤ 65535)) = true
    rw [decide_eq_true hch.1, decide_eq_true hch.2]
    rfl
  repeat' (first
    | refine xp_put hB k2 k1 (by decide) (k3 _ (by decide)) rfl ?_
    | refine xp_put hB k2 k1 (by decide) (k3 _ (by decide)) (hf _ (by simp [xupN, hij])) ?_
    | refine xp_get hB l2 l1 (by decide) (l3 _ (by decide)) ?_
    | refine xp_ret rfl ?_
    | refine xp_step rfl ?_)
  refine ⟨fun v q => by cases q; rfl, rfl, congrArg (fun n => xHn pre B n C L g) ?_⟩
  funext a b
  by_cases ha : a = i
  · subst ha
    rcases b with _ | _ | _ | _ | _ | _ | _ | _ | _ | b <;> simp [xupN, xNcp, hij]
    intro q
    omega
  · simp [xupN, xNcp, ha]
theorem xs_pbegin (hB : xBok pre B) {w r : Nat} (hw : w ∈ xRbs) (hr : r < 8) (x y z : Int32) : xRn K Z 1 12 [.ref (B + (w + 11 + r)), .int x, .int y, .int z] (xHn pre B N C L g) (.ok none) (xHn pre B (xNpu N (w + 11 + r) x y z) C L g) := by
  obtain ⟨k1, k2, k3⟩ := xrb_pulse w hw r hr
  generalize w + 11 + r = i at k1 k2 k3
  refine xRp_eq (xRp_of (m := (yX5_begin, cX5_begin, 4, none, [], [], xcX5_begin)) rfl (Nat.le_refl _) ?_)
  show xBp K Z 0 4 [] xcX5_begin xcX5_begin [(0, .ref (B + i)), (1, .int x), (2, .int y), (3, .int z)] [] _ _
  repeat' (first
    | refine xp_put hB k2 k1 (by decide) (k3 _ (by decide)) rfl ?_
    | refine xp_ret rfl ?_
    | refine xp_step rfl ?_)
  refine ⟨fun v q => by cases q; rfl, rfl, congrArg (fun n => xHn pre B n C L g) ?_⟩
  funext a b
  by_cases ha : a = i
  · subst ha
    rcases b with _ | _ | _ | b <;> simp [xupN, xNpu]
  · simp [xupN, xNpu, ha]
theorem xs_pend (hB : xBok pre B) {w r : Nat} (hw : w ∈ xRbs) (hr : r < 8) : xRn K Z 1 13 [.ref (B + (w + 11 + r))] (xHn pre B N C L g) (.ok (some (.int (N (w + 11 + r) 0 + N (w + 11 + r) 1)))) (xHn pre B N C L g) := by
  obtain ⟨k1, k2, k3⟩ := xrb_pulse w hw r hr
  generalize w + 11 + r = i at k1 k2 k3
  refine xRp_eq (xRp_of (m := (yX5_end, cX5_end, 1, some .int, [], [], xcX5_end)) rfl (Nat.le_refl _) ?_)
  show xBp K Z 0 1 [] xcX5_end xcX5_end [(0, .ref (B + i))] [] _ _
  repeat' (first
    | refine xp_get hB k2 k1 (by decide) (k3 _ (by decide)) ?_
    | refine xp_ret rfl ?_
    | refine xp_step rfl ?_)
  exact ⟨fun v q => by cases q; rfl, rfl, rfl⟩
theorem xs_prate (hB : xBok pre B) {w r : Nat} (hw : w ∈ xRbs) (hr : r < 8) (t : Int32) : xRn K Z 2 14 [.ref (B + (w + 11 + r)), .int t] (xHn pre B N C L g) (.ok (some (.int (xrate N (w + 11 + r) t)))) (xHn pre B N C L g) := by
  obtain ⟨k1, k2, k3⟩ := xrb_pulse w hw r hr
  have hend := xs_pend (K := K) (Z := Z) (N := N) (C := C) (L := L) (g := g) hB hw hr
  generalize w + 11 + r = i at k1 k2 k3 hend
  refine xRp_eq (xRp_of (m := (yX5_rateIn, cX5_rateIn, 2, some .int, [], [], xcX5_rateIn)) rfl (Nat.le_refl _) ?_)
  show xBp K Z 1 2 [] xcX5_rateIn xcX5_rateIn [(0, .ref (B + i)), (1, .int t)] [] _ _
  repeat' (first
    | refine xp_get hB k2 k1 (by decide) (k3 _ (by decide)) ?_
    | refine xp_if2 rfl (fun _ => ?_) (fun _ => ?_)
    | refine xp_ret rfl ?_
    | refine xp_step rfl ?_
    | refine xp_jump rfl ?_
    | refine xp_virt hB k2 k1 rfl (Nat.le_of_ble_eq_true rfl) rfl hend ?_)
  all_goals refine ⟨fun v q => by cases q; rfl, congrArg (fun x => Except.ok (some (Value.int x))) ?_, rfl⟩
  all_goals simp_all [xic, xrate]
  all_goals first | rfl | (intro q; exact absurd q (Int32.not_le.mpr (by assumption))) | (intro q; exact absurd q (Int32.not_lt.mpr (by assumption)))
end XRM3
end
section
/-! A RIVER: whether it has a reach, and the reach's row -/
def xhas (N : Nat → Nat → Int32) (w : Nat) (x : Int32) : Bool := decide (0 ≤ x) && (decide (x < N w 2) && decide (x < 8))
theorem xin8 {x : Int32} (h0 : 0 ≤ x) (h8 : x < 8) : xin x 8 = true ∧ x.toNatClampNeg < 8 := by
  have h1 : x.toNatClampNeg < 8 := by
    have a := Int32.le_iff_toInt_le.mp h0
    have b := Int32.lt_iff_toInt_lt.mp h8
    have c : (0 : Int32).toInt = 0 := rfl
    have d : (8 : Int32).toInt = 8 := rfl
    rw [c] at a
    rw [d] at b
    show x.toInt.toNat < 8
    omega
  refine ⟨?_, h1⟩
  unfold xin
  rw [decide_eq_true h0, decide_eq_true h1]
  rfl
theorem xHn_app {pre g : xH} {B L : Nat} {N : Nat → Nat → Int32} {C : Nat → Nat} {q : Nat × List Value} : xHn pre B N C L g ++ [q] = xHn pre B N C L (g ++ [q]) := by
  unfold xHn xHp
  rw [List.append_assoc, List.append_assoc]
theorem xHn_len {pre g : xH} {B L : Nat} {N : Nat → Nat → Int32} {C : Nat → Nat} (hB : xBok pre B) : (xHn pre B N C L g).length = B + 253 + g.length := by
  unfold xHn xHp
  rw [List.length_append, List.length_append, xLay_len, hB.1]
  omega
/-- an exception's cell -/
def xgx (g : xH) : xH := g ++ [(40, List.replicate 6 .null)]
section XRW
variable {K : List (Nat × List Value)} {Z : List Value} {pre g : xH} {B L : Nat} {N : Nat → Nat → Int32} {C : Nat → Nat}
theorem xs_has (hB : xBok pre B) {w : Nat} (hw : w ∈ xRbs) (x : Int32) : xRn K Z 1 23 [.ref (B + w), .int x] (xHn pre B N C L g) (.ok (some (.int (if xhas N w x = true then 1 else 0)))) (xHn pre B N C L g) := by
  obtain ⟨k1, -, -, k2, -, -, k3, -, -⟩ := xrb_river w hw
  have k4 : w < 253 := by omega
  refine xRp_eq (xRp_of (m := (yX7_hasReach, cX7_hasReach, 2, some .boolean, [], [], xcX7_hasReach)) rfl (Nat.le_refl _) ?_)
  show xBp K Z 0 2 [] xcX7_hasReach xcX7_hasReach [(0, .ref (B + w)), (1, .int x)] [] _ _
  repeat' (first
    | refine xp_get hB k4 k1 (by decide) (k3 _ (by decide) (by decide)) ?_
    | refine xp_if2 rfl (fun _ => ?_) (fun _ => ?_)
    | refine xp_if1 rfl (fun _ => ?_) (fun _ => ?_)
    | refine xp_ret rfl ?_
    | refine xp_step rfl ?_
    | refine xp_jump rfl ?_)
  all_goals refine ⟨fun v q => by cases q; rfl, congrArg (fun x => Except.ok (some (Value.int x))) ?_, rfl⟩
  all_goals unfold xhas
  all_goals simp_all [xic]
  all_goals simp only [Int32.le_iff_toInt_le, Int32.lt_iff_toInt_lt] at *
  all_goals omega
/-- the row of a reach, or the exception -/
theorem xs_row (hB : xBok pre B) {w : Nat} (hw : w ∈ xRbs) (x : Int32) (hg : B + 253 + g.length < 1000000) : xRn K Z 1 24 [.ref (B + w), .int x] (xHn pre B N C L g) (if xhas N w x = true then .ok (some (.ref (B + (w + 3 + x.toNatClampNeg)))) else .error (0, B + 253 + g.length)) (xHn pre B N C L (if xhas N w x = true then g else xgx g)) := by
  obtain ⟨k1, k1a, -, k2, k5, -, k3, k6, -⟩ := xrb_river w hw
  have k4 : w < 253 := by omega
  have k4a : w + 1 < 253 := by omega
  refine xRp_eq (xRp_of (m := (yX7_row, cX7_row, 2, some (.object "RiverReaches$Reach"), [], [], xcX7_row)) rfl (Nat.le_refl _) ?_)
  show xBp K Z 0 2 [] xcX7_row xcX7_row [(0, .ref (B + w)), (1, .int x)] [] _ _
  have bad : xhas N w x = false → xBp K Z 0 2 [] xcX7_row (xseek xcX7_row 18) [(0, .ref (B + w)), (1, .int x)] [] (xHn pre B N C L g) (fun r h' => (∀ v, r = .ok v → xrfit (some (.object "RiverReaches$Reach")) v = true) ∧ r = (if xhas N w x = true then .ok (some (.ref (B + (w + 3 + x.toNatClampNeg)))) else .error (0, B + 253 + g.length)) ∧ h' = xHn pre B N C L (if xhas N w x = true then g else xgx g)) := by
    intro hno
    refine xp_new (E := 0) (h1 := xHn pre B N C L g) rfl (by rw [xHn_len hB]; exact hg) ⟨fun v q => (nomatch q), ?_, ?_⟩
    · rw [hno, xHn_len hB]
      rfl
    · rw [hno, xHn_app]
      rfl
  have good : xhas N w x = true → xBp K Z 0 2 [] xcX7_row (xseek xcX7_row 26) [(0, .ref (B + w)), (1, .int x)] [] (xHn pre B N C L g) (fun r h' => (∀ v, r = .ok v → xrfit (some (.object "RiverReaches$Reach")) v = true) ∧ r = (if xhas N w x = true then .ok (some (.ref (B + (w + 3 + x.toNatClampNeg)))) else .error (0, B + 253 + g.length)) ∧ h' = xHn pre B N C L (if xhas N w x = true then g else xgx g)) := by
    intro hyes
    have hyes' := hyes
    unfold xhas at hyes'
    simp only [Bool.and_eq_true, decide_eq_true_eq] at hyes'
    obtain ⟨i1, i2⟩ := xin8 hyes'.1 hyes'.2.2
    refine xp_step rfl ?_
    refine xp_ref hB k4 k1 (by decide) k5 ?_
    refine xp_step rfl ?_
    refine xp_aald hB k4a (show xKd (w + 1) = (50 + 5, 8) from k1a) (by decide) i1 (k6 _ i2) ?_
    refine xp_ret rfl ⟨fun v q => by cases q; rfl, ?_, ?_⟩
    · rw [if_pos hyes]
    · rw [if_pos hyes]
  refine xp_step rfl ?_
  refine xp_if1 rfl (fun q => bad ?_) (fun q => ?_)
  · unfold xhas
    simp_all [xic]
    simp only [Int32.le_iff_toInt_le, Int32.lt_iff_toInt_lt] at *
    omega
  refine xp_step rfl ?_
  refine xp_step rfl ?_
  refine xp_get hB k4 k1 (by decide) (k3 _ (by decide) (by decide)) ?_
  refine xp_if2 rfl (fun q2 => bad ?_) (fun q2 => ?_)
  · unfold xhas
    simp_all [xic]
    simp only [Int32.le_iff_toInt_le, Int32.lt_iff_toInt_lt] at *
    omega
  refine xp_step rfl ?_
  refine xp_step rfl ?_
  refine xp_if2 rfl (fun q3 => good ?_) (fun q3 => bad ?_)
  · unfold xhas
    simp_all [xic]
  · unfold xhas
    simp_all [xic]
end XRW
end
section
/-! A RIVER IS COPIED -/
theorem xrb_apart : ∀ w ∈ xRbs, ∀ w' ∈ xRbs, w ≠ w' → w + 19 ≤ w' ∨ w' + 19 ≤ w := by decide
/-- the first n reaches copied -/
def xNcr (N : Nat → Nat → Int32) (w w' n : Nat) : Nat → Nat → Int32 := fun a b => if (w + 3 ≤ a ∧ a < w + 3 + n) ∧ b < 9 then N (a - w + w') b else N a b
/-- the first n pulses copied -/
def xNcq (N : Nat → Nat → Int32) (w w' n : Nat) : Nat → Nat → Int32 := fun a b => if (w + 11 ≤ a ∧ a < w + 11 + n) ∧ b < 3 then N (a - w + w') b else N a b
/-- a river copied: its reaches' first nine numbers, its pulses, its own numbers -/
def xNcopy (N : Nat → Nat → Int32) (w w' : Nat) : Nat → Nat → Int32 := fun a b => if (a = w ∧ 2 ≤ b ∧ b < 8) ∨ ((w + 3 ≤ a ∧ a < w + 11) ∧ b < 9) ∨ ((w + 11 ≤ a ∧ a < w + 19) ∧ b < 3) then N (a - w + w') b else N a b
theorem xloop8 : ∀ n, n < 8 → xin (Int32.ofNat n) 8 = true ∧ (Int32.ofNat n).toNatClampNeg = n ∧ xic .ge (Int32.ofNat n) (Int8.ofInt 8).toInt32 = false ∧ Int32.ofNat n + Int32.ofInt 1 = Int32.ofNat (n + 1) := by decide
theorem xNcr_succ {N : Nat → Nat → Int32} {w w' n : Nat} (hw : w ∈ xRbs) (hw' : w' ∈ xRbs) (hne : w ≠ w') (hn : n < 8) : xNcp (xNcr N w w' n) 9 (w + 3 + n) (w' + 3 + n) = xNcr N w w' (n + 1) := by
  have hap := xrb_apart w hw w' hw' hne
  funext a b
  unfold xNcp xNcr
  by_cases ha : a = w + 3 + n ∧ b < 9
  · rw [if_pos ha, if_neg (by omega), if_pos (by omega)]
    congr 1
    omega
  · rw [if_neg ha]
    by_cases h2 : (w + 3 ≤ a ∧ a < w + 3 + n) ∧ b < 9
    · rw [if_pos h2, if_pos (by omega)]
    · rw [if_neg h2, if_neg (by omega)]
theorem xNcq_succ {N : Nat → Nat → Int32} {w w' n : Nat} (hw : w ∈ xRbs) (hw' : w' ∈ xRbs) (hne : w ≠ w') (hn : n < 8) : xNpu (xNcq N w w' n) (w + 11 + n) (xNcq N w w' n (w' + 11 + n) 0) (xNcq N w w' n (w' + 11 + n) 1) (xNcq N w w' n (w' + 11 + n) 2) = xNcq N w w' (n + 1) := by
  have hap := xrb_apart w hw w' hw' hne
  have hz : ∀ b, xNcq N w w' n (w' + 11 + n) b = N (w' + 11 + n) b := fun b => by unfold xNcq; rw [if_neg (by omega)]
  rw [hz, hz, hz]
  funext a b
  unfold xNpu xNcq
  by_cases ha : a = w + 11 + n
  · subst ha
    rw [if_pos rfl]
    have e : w + 11 + n - w + w' = w' + 11 + n := by omega
    rw [e]
    rcases b with _ | _ | _ | b
    · exact (if_pos ⟨⟨by omega, by omega⟩, by decide⟩).symm
    · exact (if_pos ⟨⟨by omega, by omega⟩, by decide⟩).symm
    · exact (if_pos ⟨⟨by omega, by omega⟩, by decide⟩).symm
    · exact (if_neg (by omega)).trans (if_neg (by omega)).symm
  · rw [if_neg ha]
    by_cases h2 : (w + 11 ≤ a ∧ a < w + 11 + n) ∧ b < 3
    · rw [if_pos h2, if_pos (by omega)]
    · rw [if_neg h2, if_neg (by omega)]
section XCP
variable {K : List (Nat × List Value)} {Z : List Value} {pre g : xH} {B L : Nat} {N : Nat → Nat → Int32} {C : Nat → Nat} {P : xA → xH → Prop}
theorem xs_copy1 (hB : xBok pre B) {w w' : Nat} (hw : w ∈ xRbs) (hw' : w' ∈ xRbs) (hne : w ≠ w') (hch : ∀ r, r < 8 → 0 ≤ N (w' + 3 + r) 8 ∧ N (w' + 3 + r) 8 ≤ 65535)
    (kk : xBp K Z 1 4 [] xcX7_copyFrom (xseek xcX7_copyFrom 29) [(2, .int 8), (0, .ref (B + w)), (1, .ref (B + w'))] [] (xHn pre B (xNcr N w w' 8) C L g) P) :
    ∀ k n, n + k = 8 → xBp K Z 1 4 [] xcX7_copyFrom (xseek xcX7_copyFrom 2) [(2, .int (Int32.ofNat n)), (0, .ref (B + w)), (1, .ref (B + w'))] [] (xHn pre B (xNcr N w w' n) C L g) P := by
  obtain ⟨k1, k1a, -, k2, k5, -, -, k6, -⟩ := xrb_river w hw
  obtain ⟨l1, l1a, -, l2, l5, -, -, l6, -⟩ := xrb_river w' hw'
  have hap := xrb_apart w hw w' hw' hne
  intro k
  induction k with
  | zero =>
    intro n hn
    obtain rfl : n = 8 := by omega
    refine xp_step rfl ?_
    refine xp_step rfl ?_
    refine xp_if2 rfl (fun q => ?_) (fun q => ?_)
    · exact kk
    · exact absurd q (by decide)
  | succ k ih =>
    intro n hn
    obtain ⟨f1, f2, f3, f4⟩ := xloop8 n (by omega)
    have ih := ih (n + 1) (by omega)
    refine xp_step rfl ?_
    refine xp_step rfl ?_
    refine xp_if2 rfl (fun q => absurd (q.symm.trans f3) (by decide)) (fun q => ?_)
    refine xp_step rfl ?_
    refine xp_ref hB (by omega) k1 (by decide) k5 ?_
    refine xp_step rfl ?_
    refine xp_aald hB (by omega) (show xKd (w + 1) = (50 + 5, 8) from k1a) (by decide) f1 (by rw [f2]; exact k6 n (by omega)) ?_
    refine xp_step rfl ?_
    refine xp_ref hB (by omega) l1 (by decide) l5 ?_
    refine xp_step rfl ?_
    refine xp_aald hB (by omega) (show xKd (w' + 1) = (50 + 5, 8) from l1a) (by decide) f1 (by rw [f2]; exact l6 n (by omega)) ?_
    have hcp := xs_rcopy (K := K) (Z := Z) (L := L) (C := C) (g := g) (N := xNcr N w w' n) hB hw hw' (show n < 8 by omega) hne (by
      have e : xNcr N w w' n (w' + 3 + n) 8 = N (w' + 3 + n) 8 := by unfold xNcr; rw [if_neg (by omega)]
      rw [e]
      exact hch n (by omega))
    rw [xNcr_succ hw hw' hne (by omega)] at hcp
    refine xp_virt (i := w + 3 + n) hB (by omega) (xrb_reach w hw n (by omega)).1 rfl (Nat.le_of_ble_eq_true rfl) rfl hcp ?_
    refine xp_step (st1 := []) (loc1 := [(2, .int (Int32.ofNat n + Int32.ofInt 1)), (0, .ref (B + w)), (1, .ref (B + w'))]) rfl ?_
    refine xp_jump rfl ?_
    rw [f4]
    exact ih
theorem xs_copy2 (hB : xBok pre B) {w w' : Nat} (hw : w ∈ xRbs) (hw' : w' ∈ xRbs) (hne : w ≠ w')
    (kk : ∀ l3 : xL, (l3 = [] ∨ ∃ q, l3 = [(3, .ref q)]) → xBp K Z 1 4 [] xcX7_copyFrom (xseek xcX7_copyFrom 71) ((2, .int 8) :: (l3 ++ [(0, .ref (B + w)), (1, .ref (B + w'))])) [] (xHn pre B (xNcq N w w' 8) C L g) P) :
    ∀ k n (l3 : xL), n + k = 8 → (l3 = [] ∨ ∃ q, l3 = [(3, .ref q)]) → xBp K Z 1 4 [] xcX7_copyFrom (xseek xcX7_copyFrom 31) ((2, .int (Int32.ofNat n)) :: (l3 ++ [(0, .ref (B + w)), (1, .ref (B + w'))])) [] (xHn pre B (xNcq N w w' n) C L g) P := by
  obtain ⟨k1, -, k1a, k2, -, k5, -, -, k6⟩ := xrb_river w hw
  obtain ⟨l1, -, l1a, l2, -, l5, -, -, l6⟩ := xrb_river w' hw'
  have hap := xrb_apart w hw w' hw' hne
  intro k
  induction k with
  | zero =>
    intro n l3 hn hl3
    obtain rfl : n = 8 := by omega
    refine xp_step rfl ?_
    refine xp_step rfl ?_
    refine xp_if2 rfl (fun q => ?_) (fun q => ?_)
    · exact kk l3 hl3
    · exact absurd q (by decide)
  | succ k ih =>
    intro n l3 hn hl3
    obtain ⟨f1, f2, f3, f4⟩ := xloop8 n (by omega)
    have ih := ih (n + 1) [(3, .ref (B + (w' + 11 + n)))] (by omega) (Or.inr ⟨_, rfl⟩)
    obtain ⟨p1, p2, p3⟩ := xrb_pulse w' hw' n (by omega)
    have hcp := xs_pbegin (K := K) (Z := Z) (L := L) (C := C) (g := g) (N := xNcq N w w' n) hB hw (show n < 8 by omega) (xNcq N w w' n (w' + 11 + n) 0) (xNcq N w w' n (w' + 11 + n) 1) (xNcq N w w' n (w' + 11 + n) 2)
    rw [xNcq_succ hw hw' hne (by omega)] at hcp
    rcases hl3 with rfl | ⟨q0, rfl⟩
    all_goals
      refine xp_step rfl ?_
      refine xp_step rfl ?_
      refine xp_if2 rfl (fun q => absurd (q.symm.trans f3) (by decide)) (fun q => ?_)
      refine xp_step rfl ?_
      refine xp_ref hB (by omega) l1 (by decide) l5 ?_
      refine xp_step rfl ?_
      refine xp_aald hB (by omega) (show xKd (w' + 2) = (50 + 4, 8) from l1a) (by decide) f1 (by rw [f2]; exact l6 n (by omega)) ?_
      refine xp_step rfl ?_
      refine xp_step rfl ?_
      refine xp_ref hB (by omega) k1 (by decide) k5 ?_
      refine xp_step rfl ?_
      refine xp_aald hB (by omega) (show xKd (w + 2) = (50 + 4, 8) from k1a) (by decide) f1 (by rw [f2]; exact k6 n (by omega)) ?_
      refine xp_step rfl ?_
      refine xp_get hB p2 p1 (by decide) (p3 _ (by decide)) ?_
      refine xp_step rfl ?_
      refine xp_get hB p2 p1 (by decide) (p3 _ (by decide)) ?_
      refine xp_step rfl ?_
      refine xp_get hB p2 p1 (by decide) (p3 _ (by decide)) ?_
      refine xp_virt (i := w + 11 + n) hB (by omega) (xrb_pulse w hw n (by omega)).1 rfl (Nat.le_of_ble_eq_true rfl) rfl hcp ?_
      refine xp_step (st1 := []) (loc1 := (2, .int (Int32.ofNat n + Int32.ofInt 1)) :: ([(3, .ref (B + (w' + 11 + n)))] ++ [(0, .ref (B + w)), (1, .ref (B + w'))])) rfl ?_
      refine xp_jump rfl ?_
      rw [f4]
      exact ih
/-- copyFrom -/
theorem xs_copy (hB : xBok pre B) {w w' : Nat} (hw : w ∈ xRbs) (hw' : w' ∈ xRbs) (hne : w ≠ w') (hch : ∀ r, r < 8 → 0 ≤ N (w' + 3 + r) 8 ∧ N (w' + 3 + r) 8 ≤ 65535) : xRn K Z 2 22 [.ref (B + w), .ref (B + w')] (xHn pre B N C L g) (.ok none) (xHn pre B (xNcopy N w w') C L g) := by
  obtain ⟨k1, -, -, k2, -, -, k3, -, -⟩ := xrb_river w hw
  obtain ⟨l1, -, -, l2, -, -, l3, -, -⟩ := xrb_river w' hw'
  have hap := xrb_apart w hw w' hw' hne
  have hk : w < 253 := by omega
  have hl : w' < 253 := by omega
  refine xRp_eq (xRp_of (m := (yX7_copyFrom, cX7_copyFrom, 4, none, [], [], xcX7_copyFrom)) rfl (by show 2 ≤ 4; decide) ?_)
  show xBp K Z 1 4 [] xcX7_copyFrom xcX7_copyFrom [(0, .ref (B + w)), (1, .ref (B + w'))] [] _ _
  refine xp_step rfl ?_
  refine xp_step rfl ?_
  have z0 : xNcr N w w' 0 = N := by
    funext a b
    unfold xNcr
    rw [if_neg (by omega)]
  have key := xs_copy1 (K := K) (Z := Z) (L := L) (C := C) (g := g) (N := N) (P := fun r h' => (∀ v, r = .ok v → xrfit none v = true) ∧ r = .ok none ∧ h' = xHn pre B (xNcopy N w w') C L g) hB hw hw' hne hch ?_ 8 0 rfl
  · rw [z0] at key
    exact key
  refine xp_step rfl ?_
  refine xp_step rfl ?_
  have z1 : xNcq (xNcr N w w' 8) w w' 0 = xNcr N w w' 8 := by
    funext a b
    unfold xNcq
    rw [if_neg (by omega)]
  have key := xs_copy2 (K := K) (Z := Z) (L := L) (C := C) (g := g) (N := xNcr N w w' 8) (P := fun r h' => (∀ v, r = .ok v → xrfit none v = true) ∧ r = .ok none ∧ h' = xHn pre B (xNcopy N w w') C L g) hB hw hw' hne ?_ 8 0 [] rfl (Or.inl rfl)
  · rw [z1] at key
    exact key
  have hww : w - w + w' = w' := by omega
  have hv : ∀ b, xNcq (xNcr N w w' 8) w w' 8 w' b = N w' b := fun b => by
    unfold xNcq
    rw [if_neg (by omega)]
    unfold xNcr
    rw [if_neg (by omega)]
  have hv2 : ∀ b, xNcq (xNcr N w w' 8) w w' 8 w b = N w b := fun b => by
    unfold xNcq
    rw [if_neg (by omega)]
    unfold xNcr
    rw [if_neg (by omega)]
  intro l3' hl3'
  rcases hl3' with rfl | ⟨q0, rfl⟩
  all_goals
    repeat' (first
      | refine xp_put hB hk k1 (by decide) (k3 _ (by decide) (by decide)) rfl ?_
      | refine xp_get hB hl l1 (by decide) (l3 _ (by decide) (by decide)) ?_
      | refine xp_ret rfl ?_
      | refine xp_step rfl ?_)
    refine ⟨fun v q => by cases q; rfl, rfl, congrArg (fun n => xHn pre B n C L g) ?_⟩
    funext a b
    unfold xNcopy
    by_cases ha : a = w
    · rw [ha]
      rcases b with _ | _ | _ | _ | _ | _ | _ | _ | b
      all_goals first
        | (rw [if_pos (by omega), hww]; simp [xupN, hv, hv2, hne, hne.symm]; done)
        | (rw [if_neg (by omega)]; simp [xupN, hv, hv2])
    · simp only [xupN, ha, false_and, if_false, false_or]
      unfold xNcq xNcr
      by_cases h1 : (w + 11 ≤ a ∧ a < w + 11 + 8) ∧ b < 3
      · rw [if_pos h1, if_neg (by omega), if_pos (by omega)]
      · rw [if_neg h1]
        by_cases h2 : (w + 3 ≤ a ∧ a < w + 3 + 8) ∧ b < 9
        · rw [if_pos h2, if_pos (by omega)]
        · rw [if_neg h2, if_neg (by omega)]
end XCP
end
section
/-! CHANGES OF A RIVER, first: within, the lateral inflow -/
def xwin (v a b : Int32) : Bool := decide (a ≤ v) && decide (v ≤ b)
section XCH
variable {K : List (Nat × List Value)} {Z : List Value} {pre g : xH} {B L : Nat} {N : Nat → Nat → Int32} {C : Nat → Nat}
theorem xs_within (h : xH) (v a b : Int32) : xRn K Z 1 116 [.int v, .int a, .int b] h (.ok (some (.int (if xwin v a b = true then 1 else 0)))) h := by
  refine xRp_eq (xRp_of (m := (yX9_within, cX9_within, 3, some .boolean, [], [], xcX9_within)) rfl (by show 3 ≤ 3; decide) ?_)
  show xBp K Z 0 3 [] xcX9_within xcX9_within [(0, .int v), (1, .int a), (2, .int b)] [] _ _
  repeat' (first
    | refine xp_if2 rfl (fun _ => ?_) (fun _ => ?_)
    | refine xp_ret rfl ?_
    | refine xp_step rfl ?_
    | refine xp_jump rfl ?_)
  all_goals refine ⟨fun v q => by cases q; rfl, congrArg (fun x => Except.ok (some (Value.int x))) ?_, rfl⟩
  all_goals unfold xwin
  all_goals simp_all [xic]
  all_goals simp only [Int32.le_iff_toInt_le, Int32.lt_iff_toInt_lt] at *
  all_goals omega
/-- setLateral's change: the answer (or the refusal), the numbers afterwards -/
def xfLat (N : Nat → Nat → Int32) (w : Nat) (x f : Int32) : Int32 × (Nat → Nat → Int32) :=
  if xhas N w x = false then (-11, N) else if xwin f 0 50 = false then (-12, N) else if N (w + 3 + x.toNatClampNeg) 3 = f then (-4, N) else (N (w + 3 + x.toNatClampNeg) 3, xupN N (w + 3 + x.toNatClampNeg) 3 f)
theorem xs_lat (hB : xBok pre B) {w : Nat} (hw : w ∈ xRbs) (x f : Int32) : xRn K Z 2 29 [.ref (B + w), .int x, .int f] (xHn pre B N C L g) (.ok (some (.int (xfLat N w x f).1))) (xHn pre B (xfLat N w x f).2 C L g) := by
  obtain ⟨k1, k1a, -, k2, k5, -, k3, k6, -⟩ := xrb_river w hw
  have k4 : w < 253 := by omega
  have k4a : w + 1 < 253 := by omega
  have h1 := xs_has (K := K) (Z := Z) (N := N) (L := L) (C := C) (g := g) hB hw x
  have h2 := xs_within (K := K) (Z := Z) (xHn pre B N C L g) f 0 50
  refine xRp_eq (xRp_of (m := (yX7_changeLateral, cX7_changeLateral, 5, some .int, [], [], xcX7_changeLateral)) rfl (by show 3 ≤ 5; decide) ?_)
  show xBp K Z 1 5 [] xcX7_changeLateral xcX7_changeLateral [(0, .ref (B + w)), (1, .int x), (2, .int f)] [] _ _
  refine xp_step rfl ?_
  refine xp_step rfl ?_
  refine xp_virt (i := w) hB k4 k1 rfl (Nat.le_of_ble_eq_true rfl) rfl h1 ?_
  cases hh : xhas N w x with
  | false =>
    refine xp_step rfl ?_
    refine xp_step rfl ?_
    refine xp_ret rfl ⟨fun v q => by cases q; rfl, ?_, ?_⟩
    · unfold xfLat; rw [if_pos hh]; rfl
    · unfold xfLat; rw [if_pos hh]
  | true =>
    have hne : ¬ xhas N w x = false := by rw [hh]; decide
    refine xp_jump rfl ?_
    refine xp_step rfl ?_
    refine xp_step rfl ?_
    refine xp_step rfl ?_
    refine xp_callR rfl h2 ?_
    cases hf : xwin f 0 50 with
    | false =>
      refine xp_step rfl ?_
      refine xp_step rfl ?_
      refine xp_ret rfl ⟨fun v q => by cases q; rfl, ?_, ?_⟩
      · unfold xfLat; rw [if_neg hne, if_pos hf]; rfl
      · unfold xfLat; rw [if_neg hne, if_pos hf]
    | true =>
      have hnf : ¬ xwin f 0 50 = false := by rw [hf]; decide
      have hyes' := hh
      unfold xhas at hyes'
      simp only [Bool.and_eq_true, decide_eq_true_eq] at hyes'
      obtain ⟨i1, i2⟩ := xin8 hyes'.1 hyes'.2.2
      obtain ⟨r1, r2, r3⟩ := xrb_reach w hw x.toNatClampNeg i2
      refine xp_jump rfl ?_
      refine xp_step rfl ?_
      refine xp_ref hB k4 k1 (by decide) k5 ?_
      refine xp_step rfl ?_
      refine xp_aald hB k4a (show xKd (w + 1) = (50 + 5, 8) from k1a) (by decide) i1 (k6 _ i2) ?_
      refine xp_step rfl ?_
      refine xp_step rfl ?_
      refine xp_get hB r2 r1 (by decide) (r3 _ (by decide)) ?_
      refine xp_step rfl ?_
      refine xp_step rfl ?_
      refine xp_step rfl ?_
      refine xp_if2 rfl (fun q => ?_) (fun q => ?_)
      · have q9 : ¬ N (w + 3 + x.toNatClampNeg) 3 = f := by simpa [xic] using q
        refine xp_step rfl ?_
        refine xp_step rfl ?_
        refine xp_put hB r2 r1 (by decide) (r3 _ (by decide)) rfl ?_
        refine xp_step rfl ?_
        refine xp_ret rfl ⟨fun v q => by cases q; rfl, ?_, ?_⟩
        · unfold xfLat; rw [if_neg hne, if_neg hnf, if_neg q9]
        · unfold xfLat; rw [if_neg hne, if_neg hnf, if_neg q9]
      · have q9 : N (w + 3 + x.toNatClampNeg) 3 = f := by simpa [xic] using q
        refine xp_step rfl ?_
        refine xp_ret rfl ⟨fun v q => by cases q; rfl, ?_, ?_⟩
        · unfold xfLat; rw [if_neg hne, if_neg hnf, if_pos q9]; rfl
        · unfold xfLat; rw [if_neg hne, if_neg hnf, if_pos q9]
end XCH
end
section
/-! MORE CHANGES OF A RIVER -/
section XCH2
variable {K : List (Nat × List Value)} {Z : List Value} {pre g : xH} {B L : Nat} {N : Nat → Nat → Int32} {C : Nat → Nat}
/-- setGate's change: the answer (or the refusal), the numbers afterwards -/
def xfSet (N : Nat → Nat → Int32) (w : Nat) (x f : Int32) : Int32 × (Nat → Nat → Int32) :=
  if xhas N w x = false then (-11, N) else if xwin f 0 100 = false then (-12, N) else if N (w + 3 + x.toNatClampNeg) 7 = f then (-4, N) else (N (w + 3 + x.toNatClampNeg) 7, xupN N (w + 3 + x.toNatClampNeg) 7 f)
theorem xs_setting (hB : xBok pre B) {w : Nat} (hw : w ∈ xRbs) (x f : Int32) : xRn K Z 2 32 [.ref (B + w), .int x, .int f] (xHn pre B N C L g) (.ok (some (.int (xfSet N w x f).1))) (xHn pre B (xfSet N w x f).2 C L g) := by
  obtain ⟨k1, k1a, -, k2, k5, -, k3, k6, -⟩ := xrb_river w hw
  have k4 : w < 253 := by omega
  have k4a : w + 1 < 253 := by omega
  have h1 := xs_has (K := K) (Z := Z) (N := N) (L := L) (C := C) (g := g) hB hw x
  have h2 := xs_within (K := K) (Z := Z) (xHn pre B N C L g) f 0 100
  refine xRp_eq (xRp_of (m := (yX7_changeSetting, cX7_changeSetting, 5, some .int, [], [], xcX7_changeSetting)) rfl (by show 3 ≤ 5; decide) ?_)
  show xBp K Z 1 5 [] xcX7_changeSetting xcX7_changeSetting [(0, .ref (B + w)), (1, .int x), (2, .int f)] [] _ _
  refine xp_step rfl ?_
  refine xp_step rfl ?_
  refine xp_virt (i := w) hB k4 k1 rfl (Nat.le_of_ble_eq_true rfl) rfl h1 ?_
  cases hh : xhas N w x with
  | false =>
    refine xp_step rfl ?_
    refine xp_step rfl ?_
    refine xp_ret rfl ⟨fun v q => by cases q; rfl, ?_, ?_⟩
    · unfold xfSet; rw [if_pos hh]; rfl
    · unfold xfSet; rw [if_pos hh]
  | true =>
    have hne : ¬ xhas N w x = false := by rw [hh]; decide
    refine xp_jump rfl ?_
    refine xp_step rfl ?_
    refine xp_step rfl ?_
    refine xp_step rfl ?_
    refine xp_callR rfl h2 ?_
    cases hf : xwin f 0 100 with
    | false =>
      refine xp_step rfl ?_
      refine xp_step rfl ?_
      refine xp_ret rfl ⟨fun v q => by cases q; rfl, ?_, ?_⟩
      · unfold xfSet; rw [if_neg hne, if_pos hf]; rfl
      · unfold xfSet; rw [if_neg hne, if_pos hf]
    | true =>
      have hnf : ¬ xwin f 0 100 = false := by rw [hf]; decide
      have hyes' := hh
      unfold xhas at hyes'
      simp only [Bool.and_eq_true, decide_eq_true_eq] at hyes'
      obtain ⟨i1, i2⟩ := xin8 hyes'.1 hyes'.2.2
      obtain ⟨r1, r2, r3⟩ := xrb_reach w hw x.toNatClampNeg i2
      refine xp_jump rfl ?_
      refine xp_step rfl ?_
      refine xp_ref hB k4 k1 (by decide) k5 ?_
      refine xp_step rfl ?_
      refine xp_aald hB k4a (show xKd (w + 1) = (50 + 5, 8) from k1a) (by decide) i1 (k6 _ i2) ?_
      refine xp_step rfl ?_
      refine xp_step rfl ?_
      refine xp_get hB r2 r1 (by decide) (r3 _ (by decide)) ?_
      refine xp_step rfl ?_
      refine xp_step rfl ?_
      refine xp_step rfl ?_
      refine xp_if2 rfl (fun q => ?_) (fun q => ?_)
      · have q9 : ¬ N (w + 3 + x.toNatClampNeg) 7 = f := by simpa [xic] using q
        refine xp_step rfl ?_
        refine xp_step rfl ?_
        refine xp_put hB r2 r1 (by decide) (r3 _ (by decide)) rfl ?_
        refine xp_step rfl ?_
        refine xp_ret rfl ⟨fun v q => by cases q; rfl, ?_, ?_⟩
        · unfold xfSet; rw [if_neg hne, if_neg hnf, if_neg q9]
        · unfold xfSet; rw [if_neg hne, if_neg hnf, if_neg q9]
      · have q9 : N (w + 3 + x.toNatClampNeg) 7 = f := by simpa [xic] using q
        refine xp_step rfl ?_
        refine xp_ret rfl ⟨fun v q => by cases q; rfl, ?_, ?_⟩
        · unfold xfSet; rw [if_neg hne, if_neg hnf, if_pos q9]; rfl
        · unfold xfSet; rw [if_neg hne, if_neg hnf, if_pos q9]
/-- fill's change -/
def xNpour (N : Nat → Nat → Int32) (w i : Nat) (f : Int32) : Nat → Nat → Int32 := xupN (xupN N i 4 (N i 4 + f)) w 5 (N w 5 + f)
def xfPour (N : Nat → Nat → Int32) (w : Nat) (x f : Int32) : Int32 × (Nat → Nat → Int32) :=
  if xhas N w x = false then (-11, N) else if xwin f 1 999 = false then (-12, N) else (xlvl (N (w + 3 + x.toNatClampNeg) 0) (N (w + 3 + x.toNatClampNeg) 4 + f), xNpour N w (w + 3 + x.toNatClampNeg) f)
theorem xs_pour (hB : xBok pre B) {w : Nat} (hw : w ∈ xRbs) (x f : Int32) : xRn K Z 2 30 [.ref (B + w), .int x, .int f] (xHn pre B N C L g) (.ok (some (.int (xfPour N w x f).1))) (xHn pre B (xfPour N w x f).2 C L g) := by
  obtain ⟨k1, k1a, -, k2, k5, -, k3, k6, -⟩ := xrb_river w hw
  have k4 : w < 253 := by omega
  have k4a : w + 1 < 253 := by omega
  have h1 := xs_has (K := K) (Z := Z) (N := N) (L := L) (C := C) (g := g) hB hw x
  have h2 := xs_within (K := K) (Z := Z) (xHn pre B N C L g) f 1 999
  refine xRp_eq (xRp_of (m := (yX7_pourInto, cX7_pourInto, 4, some .int, [], [], xcX7_pourInto)) rfl (by show 3 ≤ 4; decide) ?_)
  show xBp K Z 1 4 [] xcX7_pourInto xcX7_pourInto [(0, .ref (B + w)), (1, .int x), (2, .int f)] [] _ _
  refine xp_step rfl ?_
  refine xp_step rfl ?_
  refine xp_virt (i := w) hB k4 k1 rfl (Nat.le_of_ble_eq_true rfl) rfl h1 ?_
  cases hh : xhas N w x with
  | false =>
    refine xp_step rfl ?_
    refine xp_step rfl ?_
    refine xp_ret rfl ⟨fun v q => by cases q; rfl, ?_, ?_⟩
    · unfold xfPour; rw [if_pos hh]; rfl
    · unfold xfPour; rw [if_pos hh]
  | true =>
    have hne : ¬ xhas N w x = false := by rw [hh]; decide
    refine xp_jump rfl ?_
    refine xp_step rfl ?_
    refine xp_step rfl ?_
    refine xp_step rfl ?_
    refine xp_callR rfl h2 ?_
    cases hf : xwin f 1 999 with
    | false =>
      refine xp_step rfl ?_
      refine xp_step rfl ?_
      refine xp_ret rfl ⟨fun v q => by cases q; rfl, ?_, ?_⟩
      · unfold xfPour; rw [if_neg hne, if_pos hf]; rfl
      · unfold xfPour; rw [if_neg hne, if_pos hf]
    | true =>
      have hnf : ¬ xwin f 1 999 = false := by rw [hf]; decide
      have hyes' := hh
      unfold xhas at hyes'
      simp only [Bool.and_eq_true, decide_eq_true_eq] at hyes'
      obtain ⟨i1, i2⟩ := xin8 hyes'.1 hyes'.2.2
      obtain ⟨r1, r2, r3⟩ := xrb_reach w hw x.toNatClampNeg i2
      have hl := xs_level (K := K) (Z := Z) (N := xNpour N w (w + 3 + x.toNatClampNeg) f) (L := L) (C := C) (g := g) hB hw i2
      have e0 : xNpour N w (w + 3 + x.toNatClampNeg) f (w + 3 + x.toNatClampNeg) 0 = N (w + 3 + x.toNatClampNeg) 0 := by simp [xNpour, xupN]
      have e4 : xNpour N w (w + 3 + x.toNatClampNeg) f (w + 3 + x.toNatClampNeg) 4 = N (w + 3 + x.toNatClampNeg) 4 + f := by
        have : ¬ w + 3 + x.toNatClampNeg = w := by omega
        simp [xNpour, xupN]
      rw [e0, e4] at hl
      have e5 : xupN N (w + 3 + x.toNatClampNeg) 4 (N (w + 3 + x.toNatClampNeg) 4 + f) w 5 = N w 5 := by simp [xupN]
      refine xp_jump rfl ?_
      refine xp_step rfl ?_
      refine xp_ref hB k4 k1 (by decide) k5 ?_
      refine xp_step rfl ?_
      refine xp_aald hB k4a (show xKd (w + 1) = (50 + 5, 8) from k1a) (by decide) i1 (k6 _ i2) ?_
      refine xp_step rfl ?_
      refine xp_step rfl ?_
      refine xp_step rfl ?_
      refine xp_get hB r2 r1 (by decide) (r3 _ (by decide)) ?_
      refine xp_step rfl ?_
      refine xp_step rfl ?_
      refine xp_put hB r2 r1 (by decide) (r3 _ (by decide)) rfl ?_
      refine xp_step rfl ?_
      refine xp_step rfl ?_
      refine xp_get hB k4 k1 (by decide) (k3 _ (by decide) (by decide)) ?_
      refine xp_step rfl ?_
      refine xp_step rfl ?_
      refine xp_put hB k4 k1 (by decide) (k3 _ (by decide) (by decide)) rfl ?_
      rw [e5]
      refine xp_step rfl ?_
      refine xp_virt (i := w + 3 + x.toNatClampNeg) hB r2 r1 rfl (Nat.le_of_ble_eq_true rfl) rfl hl ?_
      refine xp_ret rfl ⟨fun v q => by cases q; rfl, ?_, ?_⟩
      · unfold xfPour; rw [if_neg hne, if_neg hnf]
      · unfold xfPour; rw [if_neg hne, if_neg hnf]
/-- removeLastReach's change -/
def xNcut (N : Nat → Nat → Int32) (w : Nat) (v : Int32) : Nat → Nat → Int32 := xupN (xupN N w 2 (N w 2 - 1)) w 6 (N w 6 + v)
def xfCut (N : Nat → Nat → Int32) (w : Nat) : Int32 × (Nat → Nat → Int32) :=
  if xhas N w (N w 2 - 1) = false then (-3, N) else (N (w + 3 + (N w 2 - 1).toNatClampNeg) 4, xNcut N w (N (w + 3 + (N w 2 - 1).toNatClampNeg) 4))
theorem xs_cut (hB : xBok pre B) {w : Nat} (hw : w ∈ xRbs) : xRn K Z 2 28 [.ref (B + w)] (xHn pre B N C L g) (.ok (some (.int (xfCut N w).1))) (xHn pre B (xfCut N w).2 C L g) := by
  obtain ⟨k1, k1a, -, k2, k5, -, k3, k6, -⟩ := xrb_river w hw
  have k4 : w < 253 := by omega
  have k4a : w + 1 < 253 := by omega
  have h1 := xs_has (K := K) (Z := Z) (N := N) (L := L) (C := C) (g := g) hB hw (N w 2 - 1)
  refine xRp_eq (xRp_of (m := (yX7_cutReach, cX7_cutReach, 2, some .int, [], [], xcX7_cutReach)) rfl (by show 1 ≤ 2; decide) ?_)
  show xBp K Z 1 2 [] xcX7_cutReach xcX7_cutReach [(0, .ref (B + w))] [] _ _
  refine xp_step rfl ?_
  refine xp_step rfl ?_
  refine xp_get hB k4 k1 (by decide) (k3 _ (by decide) (by decide)) ?_
  refine xp_step rfl ?_
  refine xp_step rfl ?_
  refine xp_virt (i := w) hB k4 k1 rfl (Nat.le_of_ble_eq_true rfl) rfl h1 ?_
  cases hh : xhas N w (N w 2 - 1) with
  | false =>
    refine xp_step rfl ?_
    refine xp_step rfl ?_
    refine xp_ret rfl ⟨fun v q => by cases q; rfl, ?_, ?_⟩
    · unfold xfCut; rw [if_pos hh]; rfl
    · unfold xfCut; rw [if_pos hh]
  | true =>
    have hne : ¬ xhas N w (N w 2 - 1) = false := by rw [hh]; decide
    have hyes' := hh
    unfold xhas at hyes'
    simp only [Bool.and_eq_true, decide_eq_true_eq] at hyes'
    obtain ⟨i1, i2⟩ := xin8 hyes'.1 hyes'.2.2
    obtain ⟨r1, r2, r3⟩ := xrb_reach w hw (N w 2 - 1).toNatClampNeg i2
    have e6 : xupN N w 2 (N w 2 - 1) w 6 = N w 6 := by simp [xupN]
    refine xp_jump rfl ?_
    refine xp_step rfl ?_
    refine xp_ref hB k4 k1 (by decide) k5 ?_
    refine xp_step rfl ?_
    refine xp_get hB k4 k1 (by decide) (k3 _ (by decide) (by decide)) ?_
    refine xp_step rfl ?_
    refine xp_step rfl ?_
    refine xp_aald (y := N w 2 - 1) hB k4a (show xKd (w + 1) = (50 + 5, 8) from k1a) (by decide) i1 (k6 _ i2) ?_
    refine xp_get hB r2 r1 (by decide) (r3 _ (by decide)) ?_
    refine xp_step rfl ?_
    refine xp_step rfl ?_
    refine xp_step rfl ?_
    refine xp_get hB k4 k1 (by decide) (k3 _ (by decide) (by decide)) ?_
    refine xp_step rfl ?_
    refine xp_step rfl ?_
    refine xp_put (x := N w 2 - 1) hB k4 k1 (by decide) (k3 _ (by decide) (by decide)) rfl ?_
    refine xp_step rfl ?_
    refine xp_step rfl ?_
    refine xp_get hB k4 k1 (by decide) (k3 _ (by decide) (by decide)) ?_
    refine xp_step rfl ?_
    refine xp_step rfl ?_
    refine xp_put hB k4 k1 (by decide) (k3 _ (by decide) (by decide)) rfl ?_
    rw [e6]
    refine xp_step rfl ?_
    refine xp_ret rfl ⟨fun v q => by cases q; rfl, ?_, ?_⟩
    · unfold xfCut; rw [if_neg hne]
    · unfold xfCut; rw [if_neg hne]; rfl
end XCH2
end
section
/-! MORE CHANGES OF A RIVER: stages, a new reach -/
section XCH3
variable {K : List (Nat × List Value)} {Z : List Value} {pre g : xH} {B L : Nat} {N : Nat → Nat → Int32} {C : Nat → Nat}
def xstOk (a f : Int32) : Bool := xwin a 1 998 && (xwin f 2 999 && decide (a < f))
def xNst (N : Nat → Nat → Int32) (i : Nat) (a f : Int32) : Nat → Nat → Int32 := xupN (xupN N i 5 a) i 6 f
/-- setStages' change -/
def xfStages (N : Nat → Nat → Int32) (w : Nat) (x a f : Int32) : Int32 × (Nat → Nat → Int32) :=
  if xhas N w x = false then (-11, N) else if xstOk a f = false then (-12, N) else (xsta (xNst N (w + 3 + x.toNatClampNeg) a f) (w + 3 + x.toNatClampNeg), xNst N (w + 3 + x.toNatClampNeg) a f)
theorem xs_stages (hB : xBok pre B) {w : Nat} (hw : w ∈ xRbs) (x a f : Int32) : xRn K Z 2 31 [.ref (B + w), .int x, .int a, .int f] (xHn pre B N C L g) (.ok (some (.int (xfStages N w x a f).1))) (xHn pre B (xfStages N w x a f).2 C L g) := by
  obtain ⟨k1, k1a, -, k2, k5, -, k3, k6, -⟩ := xrb_river w hw
  have k4 : w < 253 := by omega
  have k4a : w + 1 < 253 := by omega
  have h1 := xs_has (K := K) (Z := Z) (N := N) (L := L) (C := C) (g := g) hB hw x
  have h2 := xs_within (K := K) (Z := Z) (xHn pre B N C L g) a 1 998
  have h3 := xs_within (K := K) (Z := Z) (xHn pre B N C L g) f 2 999
  refine xRp_eq (xRp_of (m := (yX7_changeStages, cX7_changeStages, 5, some .int, [], [], xcX7_changeStages)) rfl (by show 4 ≤ 5; decide) ?_)
  show xBp K Z 1 5 [] xcX7_changeStages xcX7_changeStages [(0, .ref (B + w)), (1, .int x), (2, .int a), (3, .int f)] [] _ _
  refine xp_step rfl ?_
  refine xp_step rfl ?_
  refine xp_virt (i := w) hB k4 k1 rfl (Nat.le_of_ble_eq_true rfl) rfl h1 ?_
  cases hh : xhas N w x with
  | false =>
    refine xp_step rfl ?_
    refine xp_step rfl ?_
    refine xp_ret rfl ⟨fun v q => by cases q; rfl, ?_, ?_⟩
    · unfold xfStages; rw [if_pos hh]; rfl
    · unfold xfStages; rw [if_pos hh]
  | true =>
    have hne : ¬ xhas N w x = false := by rw [hh]; decide
    have bad : xstOk a f = false → xBp K Z 1 5 [] xcX7_changeStages (xseek xcX7_changeStages 38) [(0, .ref (B + w)), (1, .int x), (2, .int a), (3, .int f)] [] (xHn pre B N C L g) (fun r h' => (∀ v, r = .ok v → xrfit (some .int) v = true) ∧ r = .ok (some (.int (xfStages N w x a f).1)) ∧ h' = xHn pre B (xfStages N w x a f).2 C L g) := by
      intro hf
      refine xp_step rfl ?_
      refine xp_ret rfl ⟨fun v q => by cases q; rfl, ?_, ?_⟩
      · unfold xfStages; rw [if_neg hne, if_pos hf]; rfl
      · unfold xfStages; rw [if_neg hne, if_pos hf]
    refine xp_jump rfl ?_
    refine xp_step rfl ?_
    refine xp_step rfl ?_
    refine xp_step rfl ?_
    refine xp_callR rfl h2 ?_
    cases e1 : xwin a 1 998 with
    | false =>
      refine xp_jump rfl (bad ?_)
      unfold xstOk; rw [e1]; rfl
    | true =>
      refine xp_step rfl ?_
      refine xp_step rfl ?_
      refine xp_step rfl ?_
      refine xp_step rfl ?_
      refine xp_callR rfl h3 ?_
      cases e2 : xwin f 2 999 with
      | false =>
        refine xp_jump rfl (bad ?_)
        unfold xstOk; rw [e1, e2]; rfl
      | true =>
        refine xp_step rfl ?_
        refine xp_step rfl ?_
        refine xp_step rfl ?_
        refine xp_if2 rfl (fun q => ?_) (fun q => bad ?_)
        · have q9 : decide (a < f) = true := q
          have hnf : ¬ xstOk a f = false := by unfold xstOk; rw [e1, e2, q9]; decide
          have hyes' := hh
          unfold xhas at hyes'
          simp only [Bool.and_eq_true, decide_eq_true_eq] at hyes'
          obtain ⟨i1, i2⟩ := xin8 hyes'.1 hyes'.2.2
          obtain ⟨r1, r2, r3⟩ := xrb_reach w hw x.toNatClampNeg i2
          have hs := xs_status (K := K) (Z := Z) (N := xNst N (w + 3 + x.toNatClampNeg) a f) (L := L) (C := C) (g := g) hB hw i2
          refine xp_step rfl ?_
          refine xp_ref hB k4 k1 (by decide) k5 ?_
          refine xp_step rfl ?_
          refine xp_aald hB k4a (show xKd (w + 1) = (50 + 5, 8) from k1a) (by decide) i1 (k6 _ i2) ?_
          refine xp_step rfl ?_
          refine xp_step rfl ?_
          refine xp_step rfl ?_
          refine xp_put hB r2 r1 (by decide) (r3 _ (by decide)) rfl ?_
          refine xp_step rfl ?_
          refine xp_step rfl ?_
          refine xp_put hB r2 r1 (by decide) (r3 _ (by decide)) rfl ?_
          refine xp_step rfl ?_
          refine xp_virt (i := w + 3 + x.toNatClampNeg) hB r2 r1 rfl (Nat.le_of_ble_eq_true rfl) rfl hs ?_
          refine xp_ret rfl ⟨fun v q => by cases q; rfl, ?_, ?_⟩
          · unfold xfStages; rw [if_neg hne, if_neg hnf]
          · unfold xfStages; rw [if_neg hne, if_neg hnf]
        · have q9 : decide (a < f) = false := q
          unfold xstOk; rw [e1, e2, q9]; rfl
def xapOk (s p c : Int32) : Bool := xwin s 1 50 && (xwin p 5 60 && xwin c 1 500)
def xNap (N : Nat → Nat → Int32) (w : Nat) (s p c : Int32) : Nat → Nat → Int32 := xupN (xNbeg N (w + 3 + (N w 2).toNatClampNeg) s p c) w 2 (N w 2 + 1)
/-- addReach's change -/
def xfAppend (N : Nat → Nat → Int32) (w : Nat) (s p c : Int32) : Int32 × (Nat → Nat → Int32) :=
  if xapOk s p c = false then (-12, N) else if xwin (N w 2) 0 7 = false then (-1, N) else (N w 2 + 1 - 1, xNap N w s p c)
theorem xs_append (hB : xBok pre B) {w : Nat} (hw : w ∈ xRbs) (s p c : Int32) : xRn K Z 2 27 [.ref (B + w), .int s, .int p, .int c] (xHn pre B N C L g) (.ok (some (.int (xfAppend N w s p c).1))) (xHn pre B (xfAppend N w s p c).2 C L g) := by
  obtain ⟨k1, k1a, -, k2, k5, -, k3, k6, -⟩ := xrb_river w hw
  have k4 : w < 253 := by omega
  have k4a : w + 1 < 253 := by omega
  have h1 := xs_within (K := K) (Z := Z) (xHn pre B N C L g) s 1 50
  have h2 := xs_within (K := K) (Z := Z) (xHn pre B N C L g) p 5 60
  have h3 := xs_within (K := K) (Z := Z) (xHn pre B N C L g) c 1 500
  have h4 := xs_within (K := K) (Z := Z) (xHn pre B N C L g) (N w 2) 0 7
  refine xRp_eq (xRp_of (m := (yX7_appendReach, cX7_appendReach, 4, some .int, [], [], xcX7_appendReach)) rfl (by show 4 ≤ 4; decide) ?_)
  show xBp K Z 1 4 [] xcX7_appendReach xcX7_appendReach [(0, .ref (B + w)), (1, .int s), (2, .int p), (3, .int c)] [] _ _
  have bad : xapOk s p c = false → xBp K Z 1 4 [] xcX7_appendReach (xseek xcX7_appendReach 31) [(0, .ref (B + w)), (1, .int s), (2, .int p), (3, .int c)] [] (xHn pre B N C L g) (fun r h' => (∀ v, r = .ok v → xrfit (some .int) v = true) ∧ r = .ok (some (.int (xfAppend N w s p c).1)) ∧ h' = xHn pre B (xfAppend N w s p c).2 C L g) := by
    intro hf
    refine xp_step rfl ?_
    refine xp_ret rfl ⟨fun v q => by cases q; rfl, ?_, ?_⟩
    · unfold xfAppend; rw [if_pos hf]; rfl
    · unfold xfAppend; rw [if_pos hf]
  refine xp_step rfl ?_
  refine xp_step rfl ?_
  refine xp_step rfl ?_
  refine xp_callR rfl h1 ?_
  cases e1 : xwin s 1 50 with
  | false =>
    refine xp_jump rfl (bad ?_)
    unfold xapOk; rw [e1]; rfl
  | true =>
    refine xp_step rfl ?_
    refine xp_step rfl ?_
    refine xp_step rfl ?_
    refine xp_step rfl ?_
    refine xp_callR rfl h2 ?_
    cases e2 : xwin p 5 60 with
    | false =>
      refine xp_jump rfl (bad ?_)
      unfold xapOk; rw [e1, e2]; rfl
    | true =>
      refine xp_step rfl ?_
      refine xp_step rfl ?_
      refine xp_step rfl ?_
      refine xp_step rfl ?_
      refine xp_callR rfl h3 ?_
      cases e3 : xwin c 1 500 with
      | false =>
        refine xp_step rfl ?_
        refine bad ?_
        unfold xapOk; rw [e1, e2, e3]; rfl
      | true =>
        have hok : ¬ xapOk s p c = false := by unfold xapOk; rw [e1, e2, e3]; decide
        refine xp_jump rfl ?_
        refine xp_step rfl ?_
        refine xp_get hB k4 k1 (by decide) (k3 _ (by decide) (by decide)) ?_
        refine xp_step rfl ?_
        refine xp_step rfl ?_
        refine xp_callR rfl h4 ?_
        cases e4 : xwin (N w 2) 0 7 with
        | false =>
          refine xp_step rfl ?_
          refine xp_step rfl ?_
          refine xp_ret rfl ⟨fun v q => by cases q; rfl, ?_, ?_⟩
          · unfold xfAppend; rw [if_neg hok, if_pos e4]; rfl
          · unfold xfAppend; rw [if_neg hok, if_pos e4]
        | true =>
          have hn4 : ¬ xwin (N w 2) 0 7 = false := by rw [e4]; decide
          have hyes' := e4
          unfold xwin at hyes'
          simp only [Bool.and_eq_true, decide_eq_true_eq] at hyes'
          have h78 : N w 2 < 8 := by
            have a := hyes'.2
            rw [Int32.le_iff_toInt_le] at a
            rw [Int32.lt_iff_toInt_lt]
            have c7 : (7 : Int32).toInt = 7 := rfl
            have c8 : (8 : Int32).toInt = 8 := rfl
            rw [c7] at a
            rw [c8]
            omega
          obtain ⟨i1, i2⟩ := xin8 hyes'.1 h78
          obtain ⟨r1, r2, r3⟩ := xrb_reach w hw (N w 2).toNatClampNeg i2
          have hb := xs_begin (K := K) (Z := Z) (N := N) (L := L) (C := C) (g := g) hB hw i2 s p c
          have ew : xNbeg N (w + 3 + (N w 2).toNatClampNeg) s p c w 2 = N w 2 := by unfold xNbeg; rw [if_neg (by omega)]
          have ew2 : xNap N w s p c w 2 = N w 2 + 1 := by simp [xNap, xupN]
          refine xp_jump rfl ?_
          refine xp_step rfl ?_
          refine xp_ref hB k4 k1 (by decide) k5 ?_
          refine xp_step rfl ?_
          refine xp_get hB k4 k1 (by decide) (k3 _ (by decide) (by decide)) ?_
          refine xp_aald hB k4a (show xKd (w + 1) = (50 + 5, 8) from k1a) (by decide) i1 (k6 _ i2) ?_
          refine xp_step rfl ?_
          refine xp_step rfl ?_
          refine xp_step rfl ?_
          refine xp_virt (i := w + 3 + (N w 2).toNatClampNeg) hB r2 r1 rfl (Nat.le_of_ble_eq_true rfl) rfl (xR_up (by decide) hb) ?_
          refine xp_step rfl ?_
          refine xp_step rfl ?_
          refine xp_get hB k4 k1 (by decide) (k3 _ (by decide) (by decide)) ?_
          rw [ew]
          refine xp_step rfl ?_
          refine xp_step rfl ?_
          refine xp_put (x := N w 2 + 1) hB k4 k1 (by decide) (k3 _ (by decide) (by decide)) rfl ?_
          refine xp_step rfl ?_
          refine xp_get hB k4 k1 (by decide) (k3 _ (by decide) (by decide)) ?_
          rw [show xupN (xNbeg N (w + 3 + (N w 2).toNatClampNeg) s p c) w 2 (N w 2 + 1) w 2 = N w 2 + 1 from ew2]
          refine xp_step rfl ?_
          refine xp_step rfl ?_
          refine xp_ret rfl ⟨fun v q => by cases q; rfl, ?_, ?_⟩
          · unfold xfAppend; rw [if_neg hok, if_neg hn4]; rfl
          · unfold xfAppend; rw [if_neg hok, if_neg hn4]; rfl
end XCH3
end
section
/-! RULES AND OPENINGS -/
def xrule (x : Int32) : Bool := decide (x = 102) || (decide (x = 104) || decide (x = 114))
/-- the opening of a reach that is there -/
def xfOpen (N : Nat → Nat → Int32) (w : Nat) (x : Int32) : Int32 :=
  if N (w + 3 + x.toNatClampNeg) 8 = 114 ∧ xsta N (w + 3 + x.toNatClampNeg) = 2 then 100 else if N (w + 3 + x.toNatClampNeg) 8 = 104 ∧ (xhas N w (x + 1) = true ∧ xsta N (w + 3 + (x + 1).toNatClampNeg) = 2) then N (w + 3 + x.toNatClampNeg) 7 / 2 else N (w + 3 + x.toNatClampNeg) 7
section XOP
variable {K : List (Nat × List Value)} {Z : List Value} {pre g : xH} {B L : Nat} {N : Nat → Nat → Int32} {C : Nat → Nat}
theorem xs_isRule (h : xH) (x : Int32) : xRn K Z 1 117 [.int x] h (.ok (some (.int (if xrule x = true then 1 else 0)))) h := by
  refine xRp_eq (xRp_of (m := (yX9_isRule, cX9_isRule, 1, some .boolean, [], [], xcX9_isRule)) rfl (by show 1 ≤ 1; decide) ?_)
  show xBp K Z 0 1 [] xcX9_isRule xcX9_isRule [(0, .int x)] [] _ _
  repeat' (first
    | refine xp_if2 rfl (fun _ => ?_) (fun _ => ?_)
    | refine xp_ret rfl ?_
    | refine xp_step rfl ?_
    | refine xp_jump rfl ?_)
  all_goals refine ⟨fun v q => by cases q; rfl, congrArg (fun x => Except.ok (some (Value.int x))) ?_, rfl⟩
  all_goals unfold xrule
  all_goals rename_i q
  all_goals simp_all [xic]
  all_goals first | rfl | (intros; rfl) | skip
theorem xs_open (hB : xBok pre B) {w : Nat} (hw : w ∈ xRbs) (x : Int32) (hh : xhas N w x = true) (hg : B + 253 + g.length < 1000000) : xRn K Z 2 40 [.ref (B + w), .int x] (xHn pre B N C L g) (.ok (some (.int (xfOpen N w x)))) (xHn pre B N C L g) := by
  obtain ⟨k1, k1a, -, k2, k5, -, k3, k6, -⟩ := xrb_river w hw
  have k4 : w < 253 := by omega
  have k4a : w + 1 < 253 := by omega
  have hrow := xs_row (K := K) (Z := Z) (N := N) (L := L) (C := C) (g := g) hB hw x hg
  rw [if_pos hh, if_pos hh] at hrow
  have h1 := xs_has (K := K) (Z := Z) (N := N) (L := L) (C := C) (g := g) hB hw (x + 1)
  have hyes' := hh
  unfold xhas at hyes'
  simp only [Bool.and_eq_true, decide_eq_true_eq] at hyes'
  obtain ⟨-, i2⟩ := xin8 hyes'.1 hyes'.2.2
  obtain ⟨r1, r2, r3⟩ := xrb_reach w hw x.toNatClampNeg i2
  have hs := xs_status (K := K) (Z := Z) (N := N) (L := L) (C := C) (g := g) hB hw i2
  refine xRp_eq (xRp_of (m := (yX7_openingOf, cX7_openingOf, 3, some .int, [], [], xcX7_openingOf)) rfl (by show 2 ≤ 3; decide) ?_)
  show xBp K Z 1 3 [] xcX7_openingOf xcX7_openingOf [(0, .ref (B + w)), (1, .int x)] [] _ _
  have last : ¬ (N (w + 3 + x.toNatClampNeg) 8 = 114 ∧ xsta N (w + 3 + x.toNatClampNeg) = 2) → ¬ (N (w + 3 + x.toNatClampNeg) 8 = 104 ∧ (xhas N w (x + 1) = true ∧ xsta N (w + 3 + (x + 1).toNatClampNeg) = 2)) → xBp K Z 1 3 [] xcX7_openingOf (xseek xcX7_openingOf 67) [(2, .ref (B + (w + 3 + x.toNatClampNeg))), (0, .ref (B + w)), (1, .int x)] [] (xHn pre B N C L g) (fun r h' => (∀ v, r = .ok v → xrfit (some .int) v = true) ∧ r = .ok (some (.int (xfOpen N w x))) ∧ h' = xHn pre B N C L g) := by
    intro n1 n2
    refine xp_step rfl ?_
    refine xp_get hB r2 r1 (by decide) (r3 _ (by decide)) ?_
    refine xp_ret rfl ⟨fun v q => by cases q; rfl, ?_, rfl⟩
    unfold xfOpen; rw [if_neg n1, if_neg n2]
  have mid : ¬ (N (w + 3 + x.toNatClampNeg) 8 = 114 ∧ xsta N (w + 3 + x.toNatClampNeg) = 2) → xBp K Z 1 3 [] xcX7_openingOf (xseek xcX7_openingOf 26) [(2, .ref (B + (w + 3 + x.toNatClampNeg))), (0, .ref (B + w)), (1, .int x)] [] (xHn pre B N C L g) (fun r h' => (∀ v, r = .ok v → xrfit (some .int) v = true) ∧ r = .ok (some (.int (xfOpen N w x))) ∧ h' = xHn pre B N C L g) := by
    intro n1
    refine xp_step rfl ?_
    refine xp_get hB r2 r1 (by decide) (r3 _ (by decide)) ?_
    refine xp_step rfl ?_
    refine xp_if2 rfl (fun q => last n1 (fun z => ?_)) (fun q => ?_)
    · have q9 : ¬ N (w + 3 + x.toNatClampNeg) 8 = 104 := by simpa [xic] using q
      exact q9 z.1
    have q9 : N (w + 3 + x.toNatClampNeg) 8 = 104 := by simpa [xic] using q
    refine xp_step rfl ?_
    refine xp_step rfl ?_
    refine xp_step rfl ?_
    refine xp_step rfl ?_
    refine xp_virt (i := w) hB k4 k1 rfl (Nat.le_of_ble_eq_true rfl) rfl h1 ?_
    cases e1 : xhas N w (x + 1) with
    | false => exact xp_jump rfl (last n1 (fun z => by rw [e1] at z; cases z.2.1))
    | true =>
      have hy2 := e1
      unfold xhas at hy2
      simp only [Bool.and_eq_true, decide_eq_true_eq] at hy2
      obtain ⟨j1, j2⟩ := xin8 hy2.1 hy2.2.2
      have hs2 := xs_status (K := K) (Z := Z) (N := N) (L := L) (C := C) (g := g) hB hw j2
      refine xp_step rfl ?_
      refine xp_step rfl ?_
      refine xp_ref hB k4 k1 (by decide) k5 ?_
      refine xp_step rfl ?_
      refine xp_step rfl ?_
      refine xp_step rfl ?_
      refine xp_aald (y := x + 1) hB k4a (show xKd (w + 1) = (50 + 5, 8) from k1a) (by decide) j1 (k6 _ j2) ?_
      refine xp_virt hB (xrb_reach w hw _ j2).2.1 (xrb_reach w hw _ j2).1 rfl (Nat.le_of_ble_eq_true rfl) rfl hs2 ?_
      refine xp_step rfl ?_
      refine xp_if2 rfl (fun q2 => last n1 (fun z => ?_)) (fun q2 => ?_)
      · have q8 : ¬ xsta N (w + 3 + (x + 1).toNatClampNeg) = 2 := by simpa [xic] using q2
        exact q8 z.2.2
      have q8 : xsta N (w + 3 + (x + 1).toNatClampNeg) = 2 := by simpa [xic] using q2
      refine xp_step rfl ?_
      refine xp_get hB r2 r1 (by decide) (r3 _ (by decide)) ?_
      refine xp_step rfl ?_
      refine xp_div (by decide) ?_
      refine xp_ret rfl ⟨fun v q => by cases q; rfl, ?_, rfl⟩
      unfold xfOpen; rw [if_neg n1, if_pos ⟨q9, e1, q8⟩]; rfl
  refine xp_step rfl ?_
  refine xp_step rfl ?_
  refine xp_virt (i := w) hB k4 k1 rfl (Nat.le_of_ble_eq_true rfl) rfl hrow ?_
  refine xp_step rfl ?_
  refine xp_step rfl ?_
  refine xp_get hB r2 r1 (by decide) (r3 _ (by decide)) ?_
  refine xp_step rfl ?_
  refine xp_if2 rfl (fun q => mid (fun z => ?_)) (fun q => ?_)
  · have q9 : ¬ N (w + 3 + x.toNatClampNeg) 8 = 114 := by simpa [xic] using q
    exact q9 z.1
  have q9 : N (w + 3 + x.toNatClampNeg) 8 = 114 := by simpa [xic] using q
  refine xp_step rfl ?_
  refine xp_virt hB r2 r1 rfl (Nat.le_of_ble_eq_true rfl) rfl hs ?_
  refine xp_step rfl ?_
  refine xp_if2 rfl (fun q2 => mid (fun z => ?_)) (fun q2 => ?_)
  · have q8 : ¬ xsta N (w + 3 + x.toNatClampNeg) = 2 := by simpa [xic] using q2
    exact q8 z.2
  have q8 : xsta N (w + 3 + x.toNatClampNeg) = 2 := by simpa [xic] using q2
  refine xp_step rfl ?_
  refine xp_ret rfl ⟨fun v q => by cases q; rfl, ?_, rfl⟩
  unfold xfOpen; rw [if_pos ⟨q9, q8⟩]; rfl
end XOP
end
section
/-! THE RULE'S CHANGE -/
section XRU
variable {K : List (Nat × List Value)} {Z : List Value} {pre g : xH} {B L : Nat} {N : Nat → Nat → Int32} {C : Nat → Nat}
/-- setRule's change (the sign a char): the answer (or the refusal), the numbers afterwards -/
def xfRule (N : Nat → Nat → Int32) (w : Nat) (x f : Int32) : Int32 × (Nat → Nat → Int32) :=
  if xhas N w x = false then (-11, N) else if xrule f = false then (-12, N) else if N (w + 3 + x.toNatClampNeg) 8 = f then (-4, N) else (xfOpen (xupN N (w + 3 + x.toNatClampNeg) 8 f) w x, xupN N (w + 3 + x.toNatClampNeg) 8 f)
theorem xs_setrule (hB : xBok pre B) {w : Nat} (hw : w ∈ xRbs) (x f : Int32) (hg : B + 253 + g.length < 1000000) : xRn K Z 3 33 [.ref (B + w), .int x, .int f] (xHn pre B N C L g) (.ok (some (.int (xfRule N w x f).1))) (xHn pre B (xfRule N w x f).2 C L g) := by
  obtain ⟨k1, k1a, -, k2, k5, -, k3, k6, -⟩ := xrb_river w hw
  have k4 : w < 253 := by omega
  have k4a : w + 1 < 253 := by omega
  have h1 := xs_has (K := K) (Z := Z) (N := N) (L := L) (C := C) (g := g) hB hw x
  have h2 := xs_isRule (K := K) (Z := Z) (xHn pre B N C L g) f
  refine xRp_eq (xRp_of (m := (yX7_changeRule, cX7_changeRule, 4, some .int, [], [], xcX7_changeRule)) rfl (by show 3 ≤ 4; decide) ?_)
  show xBp K Z 2 4 [] xcX7_changeRule xcX7_changeRule [(0, .ref (B + w)), (1, .int x), (2, .int f)] [] _ _
  refine xp_step rfl ?_
  refine xp_step rfl ?_
  refine xp_virt (i := w) hB k4 k1 rfl (Nat.le_of_ble_eq_true rfl) rfl (xR_up (show 1 ≤ 2 by decide) h1) ?_
  cases hh : xhas N w x with
  | false =>
    refine xp_step rfl ?_
    refine xp_step rfl ?_
    refine xp_ret rfl ⟨fun v q => by cases q; rfl, ?_, ?_⟩
    · unfold xfRule; rw [if_pos hh]; rfl
    · unfold xfRule; rw [if_pos hh]
  | true =>
    have hne : ¬ xhas N w x = false := by rw [hh]; decide
    refine xp_jump rfl ?_
    refine xp_step rfl ?_
    refine xp_callR rfl (xR_up (show 1 ≤ 2 by decide) h2) ?_
    cases hf : xrule f with
    | false =>
      refine xp_step rfl ?_
      refine xp_step rfl ?_
      refine xp_ret rfl ⟨fun v q => by cases q; rfl, ?_, ?_⟩
      · unfold xfRule; rw [if_neg hne, if_pos hf]; rfl
      · unfold xfRule; rw [if_neg hne, if_pos hf]
    | true =>
      have hnf : ¬ xrule f = false := by rw [hf]; decide
      have hyes' := hh
      unfold xhas at hyes'
      simp only [Bool.and_eq_true, decide_eq_true_eq] at hyes'
      obtain ⟨i1, i2⟩ := xin8 hyes'.1 hyes'.2.2
      obtain ⟨r1, r2, r3⟩ := xrb_reach w hw x.toNatClampNeg i2
      have hh2 : xhas (xupN N (w + 3 + x.toNatClampNeg) 8 f) w x = true := by
        have e : xupN N (w + 3 + x.toNatClampNeg) 8 f w 2 = N w 2 := by simp [xupN]
        unfold xhas at hh ⊢
        rw [e]
        exact hh
      have ho := xs_open (K := K) (Z := Z) (N := xupN N (w + 3 + x.toNatClampNeg) 8 f) (L := L) (C := C) (g := g) hB hw x hh2 hg
      have hfc : xfit (xFt 8 8) (.int f) = true := by
        have q : f = 102 ∨ (f = 104 ∨ f = 114) := by
          have q := hf
          unfold xrule at q
          simpa using q
        rcases q with rfl | rfl | rfl <;> decide
      refine xp_jump rfl ?_
      refine xp_step rfl ?_
      refine xp_ref hB k4 k1 (by decide) k5 ?_
      refine xp_step rfl ?_
      refine xp_aald hB k4a (show xKd (w + 1) = (50 + 5, 8) from k1a) (by decide) i1 (k6 _ i2) ?_
      refine xp_step rfl ?_
      refine xp_step rfl ?_
      refine xp_get hB r2 r1 (by decide) (r3 _ (by decide)) ?_
      refine xp_step rfl ?_
      refine xp_if2 rfl (fun q => ?_) (fun q => ?_)
      · have q9 : ¬ N (w + 3 + x.toNatClampNeg) 8 = f := by simpa [xic] using q
        refine xp_step rfl ?_
        refine xp_step rfl ?_
        refine xp_put hB r2 r1 (by decide) (r3 _ (by decide)) hfc ?_
        refine xp_step rfl ?_
        refine xp_step rfl ?_
        refine xp_virt (i := w) hB k4 k1 rfl (Nat.le_of_ble_eq_true rfl) rfl ho ?_
        refine xp_ret rfl ⟨fun v q => by cases q; rfl, ?_, ?_⟩
        · unfold xfRule; rw [if_neg hne, if_neg hnf, if_neg q9]
        · unfold xfRule; rw [if_neg hne, if_neg hnf, if_neg q9]
      · have q9 : N (w + 3 + x.toNatClampNeg) 8 = f := by simpa [xic] using q
        refine xp_step rfl ?_
        refine xp_ret rfl ⟨fun v q => by cases q; rfl, ?_, ?_⟩
        · unfold xfRule; rw [if_neg hne, if_neg hnf, if_pos q9]; rfl
        · unfold xfRule; rw [if_neg hne, if_neg hnf, if_pos q9]
end XRU
end
section
/-! FLOWS: the lesser of two, a reach's outflow, the head's inflow of an hour -/
def xmin (a b : Int32) : Int32 := if b < a then b else a
def xmax (a b : Int32) : Int32 := if a < b then b else a
/-- the outflow of a reach that is there -/
def xfOut (N : Nat → Nat → Int32) (w : Nat) (x : Int32) : Int32 := xmin (N (w + 3 + x.toNatClampNeg) 4 * N (w + 3 + x.toNatClampNeg) 1 / 100) (N (w + 3 + x.toNatClampNeg) 2 * xfOpen N w x / 100)
/-- what the first n pulses bring in the hour t -/
def xfHeadN (N : Nat → Nat → Int32) (w : Nat) (t : Int32) : Nat → Int32
  | 0 => 0
  | n + 1 => xfHeadN N w t n + xrate N (w + 11 + n) t
/-- how many rows a loop 'i < count and i < 8' passes -/
def xcnt (c : Int32) : Nat := if c < 0 then 0 else if 8 ≤ c then 8 else c.toNatClampNeg
def xfHead (N : Nat → Nat → Int32) (w : Nat) (t : Int32) : Int32 := xfHeadN N w t (xcnt (N w 3))
theorem xcnt_lt : ∀ n, n < 8 → ∀ c : Int32, (n < xcnt c ↔ Int32.ofNat n < c) := by
  intro n hn c
  have e : (Int32.ofNat n).toInt = n := Int32.toInt_ofNat_small (by omega)
  have z0 : (0 : Int32).toInt = 0 := rfl
  have z8 : (8 : Int32).toInt = 8 := rfl
  have zc : c.toNatClampNeg = c.toInt.toNat := rfl
  have key : Int32.ofNat n < c ↔ (n : Int) < c.toInt := by rw [Int32.lt_iff_toInt_lt, e]
  rw [key]
  unfold xcnt
  split
  · rename_i h
    rw [Int32.lt_iff_toInt_lt, z0] at h
    omega
  · rename_i h
    rw [Int32.lt_iff_toInt_lt, z0] at h
    split
    · rename_i h2
      rw [Int32.le_iff_toInt_le, z8] at h2
      omega
    · rw [zc]
      omega
theorem xcnt_le (c : Int32) : xcnt c ≤ 8 := by
  have z8 : (8 : Int32).toInt = 8 := rfl
  have zc : c.toNatClampNeg = c.toInt.toNat := rfl
  unfold xcnt
  split
  · omega
  · split
    · omega
    · rename_i h2
      rw [Int32.le_iff_toInt_le, z8] at h2
      rw [zc]
      omega
section XFL
variable {K : List (Nat × List Value)} {Z : List Value} {pre g : xH} {B L : Nat} {N : Nat → Nat → Int32} {C : Nat → Nat}
theorem xs_min (h : xH) (a b : Int32) : xRn K Z 1 143 [.int a, .int b] h (.ok (some (.int (xmin a b)))) h := by
  refine xRp_eq (xRp_of (m := (yJ9_min_7cf53, cJ9_min_7cf53, 2, some .int, [], [], xcJ9_min_7cf53)) rfl (by show 2 ≤ 2; decide) ?_)
  show xBp K Z 0 2 [] xcJ9_min_7cf53 xcJ9_min_7cf53 [(0, .int a), (1, .int b)] [] _ _
  refine xp_step rfl ?_
  refine xp_step rfl ?_
  refine xp_if2 rfl (fun q => ?_) (fun q => ?_)
  · refine xp_step rfl ?_
    refine xp_ret rfl ⟨fun v q => by cases q; rfl, ?_, rfl⟩
    unfold xmin; rw [if_pos (of_decide_eq_true q)]
  · refine xp_step rfl ?_
    refine xp_jump rfl ?_
    refine xp_ret rfl ⟨fun v q => by cases q; rfl, ?_, rfl⟩
    unfold xmin; rw [if_neg (of_decide_eq_false q)]
theorem xs_max (h : xH) (a b : Int32) : xRn K Z 1 142 [.int a, .int b] h (.ok (some (.int (xmax a b)))) h := by
  refine xRp_eq (xRp_of (m := (yJ9_max_7cf53, cJ9_max_7cf53, 2, some .int, [], [], xcJ9_max_7cf53)) rfl (by show 2 ≤ 2; decide) ?_)
  show xBp K Z 0 2 [] xcJ9_max_7cf53 xcJ9_max_7cf53 [(0, .int a), (1, .int b)] [] _ _
  refine xp_step rfl ?_
  refine xp_step rfl ?_
  refine xp_if2 rfl (fun q => ?_) (fun q => ?_)
  · refine xp_step rfl ?_
    refine xp_ret rfl ⟨fun v q => by cases q; rfl, ?_, rfl⟩
    unfold xmax; rw [if_pos (of_decide_eq_true q)]
  · refine xp_step rfl ?_
    refine xp_jump rfl ?_
    refine xp_ret rfl ⟨fun v q => by cases q; rfl, ?_, rfl⟩
    unfold xmax; rw [if_neg (of_decide_eq_false q)]
theorem xs_out (hB : xBok pre B) {w : Nat} (hw : w ∈ xRbs) (x : Int32) (hh : xhas N w x = true) (hg : B + 253 + g.length < 1000000) : xRn K Z 3 39 [.ref (B + w), .int x] (xHn pre B N C L g) (.ok (some (.int (xfOut N w x)))) (xHn pre B N C L g) := by
  obtain ⟨k1, -, -, k2, -, -, -, -, -⟩ := xrb_river w hw
  have k4 : w < 253 := by omega
  have hrow := xs_row (K := K) (Z := Z) (N := N) (L := L) (C := C) (g := g) hB hw x hg
  rw [if_pos hh, if_pos hh] at hrow
  have ho := xs_open (K := K) (Z := Z) (N := N) (L := L) (C := C) (g := g) hB hw x hh hg
  have hyes' := hh
  unfold xhas at hyes'
  simp only [Bool.and_eq_true, decide_eq_true_eq] at hyes'
  obtain ⟨-, i2⟩ := xin8 hyes'.1 hyes'.2.2
  obtain ⟨r1, r2, r3⟩ := xrb_reach w hw x.toNatClampNeg i2
  have hm := xs_min (K := K) (Z := Z) (xHn pre B N C L g) (N (w + 3 + x.toNatClampNeg) 4 * N (w + 3 + x.toNatClampNeg) 1 / 100) (N (w + 3 + x.toNatClampNeg) 2 * xfOpen N w x / 100)
  refine xRp_eq (xRp_of (m := (yX7_outflowOf, cX7_outflowOf, 5, some .int, [], [], xcX7_outflowOf)) rfl (by show 2 ≤ 5; decide) ?_)
  show xBp K Z 2 5 [] xcX7_outflowOf xcX7_outflowOf [(0, .ref (B + w)), (1, .int x)] [] _ _
  refine xp_step rfl ?_
  refine xp_step rfl ?_
  refine xp_virt (i := w) hB k4 k1 rfl (Nat.le_of_ble_eq_true rfl) rfl (xR_up (show 1 ≤ 2 by decide) hrow) ?_
  refine xp_step rfl ?_
  refine xp_step rfl ?_
  refine xp_get hB r2 r1 (by decide) (r3 _ (by decide)) ?_
  refine xp_step rfl ?_
  refine xp_get hB r2 r1 (by decide) (r3 _ (by decide)) ?_
  refine xp_step rfl ?_
  refine xp_step rfl ?_
  refine xp_div (by decide) ?_
  refine xp_step rfl ?_
  refine xp_step rfl ?_
  refine xp_get hB r2 r1 (by decide) (r3 _ (by decide)) ?_
  refine xp_step rfl ?_
  refine xp_step rfl ?_
  refine xp_virt (i := w) hB k4 k1 rfl (Nat.le_of_ble_eq_true rfl) rfl ho ?_
  refine xp_step rfl ?_
  refine xp_step rfl ?_
  refine xp_div (by decide) ?_
  refine xp_step rfl ?_
  refine xp_step rfl ?_
  refine xp_step rfl ?_
  refine xp_callR rfl (xR_up (show 1 ≤ 2 by decide) hm) ?_
  refine xp_ret rfl ⟨fun v q => by cases q; rfl, rfl, rfl⟩
end XFL
end
section
/-! THE HEAD'S INFLOW OF AN HOUR -/
theorem xloop9 : ∀ n, n ≤ 8 → (xic .ge (Int32.ofNat n) (Int8.ofInt 8).toInt32 = decide (8 ≤ n)) ∧ Int32.ofNat n + Int32.ofInt 1 = Int32.ofNat (n + 1) := by decide
section XHD
variable {K : List (Nat × List Value)} {Z : List Value} {pre g : xH} {B L : Nat} {N : Nat → Nat → Int32} {C : Nat → Nat}
theorem xs_head0 (hB : xBok pre B) {w : Nat} (hw : w ∈ xRbs) (t : Int32) : ∀ k n, n + k = xcnt (N w 3) → xBp K Z 2 4 [] xcX7_headInflowIn (xseek xcX7_headInflowIn 4) [(3, .int (Int32.ofNat n)), (2, .int (xfHeadN N w t n)), (0, .ref (B + w)), (1, .int t)] [] (xHn pre B N C L g) (fun r h' => (∀ v, r = .ok v → xrfit (some .int) v = true) ∧ r = .ok (some (.int (xfHead N w t))) ∧ h' = xHn pre B N C L g) := by
  obtain ⟨k1, -, k1a, k2, -, k5, k3, -, k6⟩ := xrb_river w hw
  have k4 : w < 253 := by omega
  have k4a : w + 2 < 253 := by omega
  have hc8 := xcnt_le (N w 3)
  intro k
  induction k with
  | zero =>
    intro n hn
    have fin : xBp K Z 2 4 [] xcX7_headInflowIn (xseek xcX7_headInflowIn 37) [(3, .int (Int32.ofNat n)), (2, .int (xfHeadN N w t n)), (0, .ref (B + w)), (1, .int t)] [] (xHn pre B N C L g) (fun r h' => (∀ v, r = .ok v → xrfit (some .int) v = true) ∧ r = .ok (some (.int (xfHead N w t))) ∧ h' = xHn pre B N C L g) := by
      refine xp_step rfl ?_
      refine xp_ret rfl ⟨fun v q => by cases q; rfl, ?_, rfl⟩
      unfold xfHead
      rw [show xcnt (N w 3) = n by omega]
    refine xp_step rfl ?_
    refine xp_step rfl ?_
    refine xp_get hB k4 k1 (by decide) (k3 _ (by decide) (by decide)) ?_
    refine xp_if2 rfl (fun _ => fin) (fun q => ?_)
    have q9 : Int32.ofNat n < N w 3 := Int32.not_le.mp (of_decide_eq_false q)
    have h8 : n = 8 := by
      by_cases h : n < 8
      · have := (xcnt_lt n h (N w 3)).mpr q9
        omega
      · omega
    refine xp_step rfl ?_
    refine xp_step rfl ?_
    refine xp_if2 rfl (fun _ => fin) (fun q => ?_)
    rw [(xloop9 n (by omega)).1, h8] at q
    cases q
  | succ k ih =>
    intro n hn
    have hn8 : n < 8 := by omega
    obtain ⟨f1, f2, f3, f4⟩ := xloop8 n hn8
    have hlt := (xcnt_lt n hn8 (N w 3)).mp (by omega)
    have ih := ih (n + 1) (by omega)
    have hr := xs_prate (K := K) (Z := Z) (N := N) (L := L) (C := C) (g := g) hB hw hn8 t
    refine xp_step rfl ?_
    refine xp_step rfl ?_
    refine xp_get hB k4 k1 (by decide) (k3 _ (by decide) (by decide)) ?_
    refine xp_if2 rfl (fun q => absurd hlt (Int32.not_lt.mpr (of_decide_eq_true q))) (fun _ => ?_)
    refine xp_step rfl ?_
    refine xp_step rfl ?_
    refine xp_if2 rfl (fun q => absurd (q.symm.trans f3) (by decide)) (fun _ => ?_)
    refine xp_step rfl ?_
    refine xp_step rfl ?_
    refine xp_ref hB k4 k1 (by decide) k5 ?_
    refine xp_step rfl ?_
    refine xp_aald hB k4a (show xKd (w + 2) = (50 + 4, 8) from k1a) (by decide) f1 (by rw [f2]; exact k6 n hn8) ?_
    refine xp_step rfl ?_
    refine xp_virt (i := w + 11 + n) hB (by omega) (xrb_pulse w hw n hn8).1 rfl (Nat.le_of_ble_eq_true rfl) rfl hr ?_
    refine xp_step rfl ?_
    refine xp_step rfl ?_
    refine xp_step (st1 := []) (loc1 := [(3, .int (Int32.ofNat n + Int32.ofInt 1)), (2, .int (xfHeadN N w t n + xrate N (w + 11 + n) t)), (0, .ref (B + w)), (1, .int t)]) rfl ?_
    refine xp_jump rfl ?_
    rw [f4]
    exact ih
theorem xs_head (hB : xBok pre B) {w : Nat} (hw : w ∈ xRbs) (t : Int32) : xRn K Z 3 41 [.ref (B + w), .int t] (xHn pre B N C L g) (.ok (some (.int (xfHead N w t)))) (xHn pre B N C L g) := by
  refine xRp_eq (xRp_of (m := (yX7_headInflowIn, cX7_headInflowIn, 4, some .int, [], [], xcX7_headInflowIn)) rfl (by show 2 ≤ 4; decide) ?_)
  show xBp K Z 2 4 [] xcX7_headInflowIn xcX7_headInflowIn [(0, .ref (B + w)), (1, .int t)] [] _ _
  refine xp_step rfl ?_
  refine xp_step rfl ?_
  refine xp_step rfl ?_
  refine xp_step rfl ?_
  exact xs_head0 hB hw t (xcnt (N w 3)) 0 (by omega)
end XHD
end
section
/-! A REACH'S INFLOW, AND A NEW PULSE -/
theorem xhas_pred {N : Nat → Nat → Int32} {w : Nat} {x : Int32} (h : xhas N w x = true) (h0 : x ≠ 0) : xhas N w (x - 1) = true := by
  unfold xhas at h ⊢
  simp only [Bool.and_eq_true, decide_eq_true_eq] at h ⊢
  obtain ⟨a, b, c⟩ := h
  have z0 : (0 : Int32).toInt = 0 := rfl
  have z8 : (8 : Int32).toInt = 8 := rfl
  have z1 : (1 : Int32).toInt = 1 := rfl
  rw [Int32.le_iff_toInt_le, z0] at a ⊢
  rw [Int32.lt_iff_toInt_lt] at b ⊢
  rw [Int32.lt_iff_toInt_lt, z8] at c ⊢
  have h1 : x.toInt ≠ 0 := fun q => h0 (Int32.toInt_inj.mp (by rw [q, z0]))
  have e : (x - 1).toInt = x.toInt - 1 := by
    rw [Int32.toInt_sub, z1]
    exact Int.bmod_eq_of_le (by omega) (by omega)
  rw [e]
  omega
def xfIn (N : Nat → Nat → Int32) (w : Nat) (x : Int32) : Int32 := N (w + 3 + x.toNatClampNeg) 3 + (if x = 0 then xfHead N w (N w 4) else xfOut N w (x - 1))
section XIN
variable {K : List (Nat × List Value)} {Z : List Value} {pre g : xH} {B L : Nat} {N : Nat → Nat → Int32} {C : Nat → Nat}
theorem xs_in (hB : xBok pre B) {w : Nat} (hw : w ∈ xRbs) (x : Int32) (hh : xhas N w x = true) (hg : B + 253 + g.length < 1000000) : xRn K Z 4 38 [.ref (B + w), .int x] (xHn pre B N C L g) (.ok (some (.int (xfIn N w x)))) (xHn pre B N C L g) := by
  obtain ⟨k1, -, -, k2, -, -, k3, -, -⟩ := xrb_river w hw
  have k4 : w < 253 := by omega
  have hrow := xs_row (K := K) (Z := Z) (N := N) (L := L) (C := C) (g := g) hB hw x hg
  rw [if_pos hh, if_pos hh] at hrow
  have hyes' := hh
  unfold xhas at hyes'
  simp only [Bool.and_eq_true, decide_eq_true_eq] at hyes'
  obtain ⟨-, i2⟩ := xin8 hyes'.1 hyes'.2.2
  obtain ⟨r1, r2, r3⟩ := xrb_reach w hw x.toNatClampNeg i2
  have hhd := xs_head (K := K) (Z := Z) (N := N) (L := L) (C := C) (g := g) hB hw (N w 4)
  refine xRp_eq (xRp_of (m := (yX7_inflowOf, cX7_inflowOf, 3, some .int, [], [], xcX7_inflowOf)) rfl (by show 2 ≤ 3; decide) ?_)
  show xBp K Z 3 3 [] xcX7_inflowOf xcX7_inflowOf [(0, .ref (B + w)), (1, .int x)] [] _ _
  refine xp_step rfl ?_
  refine xp_step rfl ?_
  refine xp_virt (i := w) hB k4 k1 rfl (Nat.le_of_ble_eq_true rfl) rfl (xR_up (show 1 ≤ 3 by decide) hrow) ?_
  refine xp_get hB r2 r1 (by decide) (r3 _ (by decide)) ?_
  refine xp_step rfl ?_
  refine xp_step rfl ?_
  refine xp_step rfl ?_
  refine xp_if1 rfl (fun q => ?_) (fun q => ?_)
  · have q9 : ¬ x = 0 := by simpa [xic] using q
    have ho := xs_out (K := K) (Z := Z) (N := N) (L := L) (C := C) (g := g) hB hw (x - 1) (xhas_pred hh q9) hg
    refine xp_step rfl ?_
    refine xp_step rfl ?_
    refine xp_step rfl ?_
    refine xp_step rfl ?_
    refine xp_virt (i := w) hB k4 k1 rfl (Nat.le_of_ble_eq_true rfl) rfl ho ?_
    refine xp_step rfl ?_
    refine xp_ret rfl ⟨fun v q => by cases q; rfl, ?_, rfl⟩
    unfold xfIn; rw [if_neg q9]
  · have q9 : x = 0 := by simpa [xic] using q
    refine xp_step rfl ?_
    refine xp_step rfl ?_
    refine xp_get hB k4 k1 (by decide) (k3 _ (by decide) (by decide)) ?_
    refine xp_virt (i := w) hB k4 k1 rfl (Nat.le_of_ble_eq_true rfl) rfl hhd ?_
    refine xp_jump rfl ?_
    refine xp_step rfl ?_
    refine xp_ret rfl ⟨fun v q => by cases q; rfl, ?_, rfl⟩
    unfold xfIn; rw [if_pos q9]
end XIN
end
section
/-! A NEW PULSE -/
section XPU
variable {K : List (Nat × List Value)} {Z : List Value} {pre g : xH} {B L : Nat} {N : Nat → Nat → Int32} {C : Nat → Nat}
def xpuOk (s p c : Int32) : Bool := xwin s 0 999 && (xwin p 1 24 && xwin c 1 200)
def xNpz (N : Nat → Nat → Int32) (w : Nat) (s p c : Int32) : Nat → Nat → Int32 := xupN (xNpu N (w + 11 + (N w 3).toNatClampNeg) s p c) w 3 (N w 3 + 1)
/-- addPulse's change -/
def xfPulse (N : Nat → Nat → Int32) (w : Nat) (s p c : Int32) : Int32 × (Nat → Nat → Int32) :=
  if xpuOk s p c = false then (-12, N) else if s < N w 4 then (-2, N) else if xwin (N w 3) 0 7 = false then (-1, N) else (N w 3 + 1, xNpz N w s p c)
theorem xs_pulse (hB : xBok pre B) {w : Nat} (hw : w ∈ xRbs) (s p c : Int32) : xRn K Z 2 34 [.ref (B + w), .int s, .int p, .int c] (xHn pre B N C L g) (.ok (some (.int (xfPulse N w s p c).1))) (xHn pre B (xfPulse N w s p c).2 C L g) := by
  obtain ⟨k1, -, k1a, k2, -, k5, k3, -, k6⟩ := xrb_river w hw
  have k4 : w < 253 := by omega
  have k4a : w + 2 < 253 := by omega
  have h1 := xs_within (K := K) (Z := Z) (xHn pre B N C L g) s 0 999
  have h2 := xs_within (K := K) (Z := Z) (xHn pre B N C L g) p 1 24
  have h3 := xs_within (K := K) (Z := Z) (xHn pre B N C L g) c 1 200
  have h4 := xs_within (K := K) (Z := Z) (xHn pre B N C L g) (N w 3) 0 7
  refine xRp_eq (xRp_of (m := (yX7_appendPulse, cX7_appendPulse, 4, some .int, [], [], xcX7_appendPulse)) rfl (by show 4 ≤ 4; decide) ?_)
  show xBp K Z 1 4 [] xcX7_appendPulse xcX7_appendPulse [(0, .ref (B + w)), (1, .int s), (2, .int p), (3, .int c)] [] _ _
  have bad : xpuOk s p c = false → xBp K Z 1 4 [] xcX7_appendPulse (xseek xcX7_appendPulse 32) [(0, .ref (B + w)), (1, .int s), (2, .int p), (3, .int c)] [] (xHn pre B N C L g) (fun r h' => (∀ v, r = .ok v → xrfit (some .int) v = true) ∧ r = .ok (some (.int (xfPulse N w s p c).1)) ∧ h' = xHn pre B (xfPulse N w s p c).2 C L g) := by
    intro hf
    refine xp_step rfl ?_
    refine xp_ret rfl ⟨fun v q => by cases q; rfl, ?_, ?_⟩
    · unfold xfPulse; rw [if_pos hf]; rfl
    · unfold xfPulse; rw [if_pos hf]
  refine xp_step rfl ?_
  refine xp_step rfl ?_
  refine xp_step rfl ?_
  refine xp_callR rfl h1 ?_
  cases e1 : xwin s 0 999 with
  | false =>
    refine xp_jump rfl (bad ?_)
    unfold xpuOk; rw [e1]; rfl
  | true =>
    refine xp_step rfl ?_
    refine xp_step rfl ?_
    refine xp_step rfl ?_
    refine xp_step rfl ?_
    refine xp_callR rfl h2 ?_
    cases e2 : xwin p 1 24 with
    | false =>
      refine xp_jump rfl (bad ?_)
      unfold xpuOk; rw [e1, e2]; rfl
    | true =>
      refine xp_step rfl ?_
      refine xp_step rfl ?_
      refine xp_step rfl ?_
      refine xp_step rfl ?_
      refine xp_callR rfl h3 ?_
      cases e3 : xwin c 1 200 with
      | false =>
        refine xp_step rfl ?_
        refine bad ?_
        unfold xpuOk; rw [e1, e2, e3]; rfl
      | true =>
        have hok : ¬ xpuOk s p c = false := by unfold xpuOk; rw [e1, e2, e3]; decide
        refine xp_jump rfl ?_
        refine xp_step rfl ?_
        refine xp_step rfl ?_
        refine xp_get hB k4 k1 (by decide) (k3 _ (by decide) (by decide)) ?_
        refine xp_if2 rfl (fun qh => ?_) (fun qh => ?_)
        rotate_left
        · have qh9 : s < N w 4 := Int32.not_le.mp (of_decide_eq_false qh)
          refine xp_step rfl ?_
          refine xp_ret rfl ⟨fun v q => by cases q; rfl, ?_, ?_⟩
          · unfold xfPulse; rw [if_neg hok, if_pos qh9]; rfl
          · unfold xfPulse; rw [if_neg hok, if_pos qh9]
        have qh9 : ¬ s < N w 4 := Int32.not_lt.mpr (of_decide_eq_true qh)
        refine xp_step rfl ?_
        refine xp_get hB k4 k1 (by decide) (k3 _ (by decide) (by decide)) ?_
        refine xp_step rfl ?_
        refine xp_step rfl ?_
        refine xp_callR rfl h4 ?_
        cases e4 : xwin (N w 3) 0 7 with
        | false =>
          refine xp_step rfl ?_
          refine xp_step rfl ?_
          refine xp_ret rfl ⟨fun v q => by cases q; rfl, ?_, ?_⟩
          · unfold xfPulse; rw [if_neg hok, if_neg qh9, if_pos e4]; rfl
          · unfold xfPulse; rw [if_neg hok, if_neg qh9, if_pos e4]
        | true =>
          have hn4 : ¬ xwin (N w 3) 0 7 = false := by rw [e4]; decide
          have hyes' := e4
          unfold xwin at hyes'
          simp only [Bool.and_eq_true, decide_eq_true_eq] at hyes'
          have h78 : N w 3 < 8 := by
            have a := hyes'.2
            rw [Int32.le_iff_toInt_le] at a
            rw [Int32.lt_iff_toInt_lt]
            have c7 : (7 : Int32).toInt = 7 := rfl
            have c8 : (8 : Int32).toInt = 8 := rfl
            rw [c7] at a
            rw [c8]
            omega
          obtain ⟨i1, i2⟩ := xin8 hyes'.1 h78
          obtain ⟨r1, r2, r3⟩ := xrb_pulse w hw (N w 3).toNatClampNeg i2
          have hb := xs_pbegin (K := K) (Z := Z) (N := N) (L := L) (C := C) (g := g) hB hw i2 s p c
          have ew : xNpu N (w + 11 + (N w 3).toNatClampNeg) s p c w 3 = N w 3 := by unfold xNpu; rw [if_neg (by omega)]
          have ew2 : xNpz N w s p c w 3 = N w 3 + 1 := by simp [xNpz, xupN]
          refine xp_jump rfl ?_
          refine xp_step rfl ?_
          refine xp_ref hB k4 k1 (by decide) k5 ?_
          refine xp_step rfl ?_
          refine xp_get hB k4 k1 (by decide) (k3 _ (by decide) (by decide)) ?_
          refine xp_aald hB k4a (show xKd (w + 2) = (50 + 4, 8) from k1a) (by decide) i1 (k6 _ i2) ?_
          refine xp_step rfl ?_
          refine xp_step rfl ?_
          refine xp_step rfl ?_
          refine xp_virt (i := w + 11 + (N w 3).toNatClampNeg) hB r2 r1 rfl (Nat.le_of_ble_eq_true rfl) rfl (xR_up (by decide) hb) ?_
          refine xp_step rfl ?_
          refine xp_step rfl ?_
          refine xp_get hB k4 k1 (by decide) (k3 _ (by decide) (by decide)) ?_
          rw [ew]
          refine xp_step rfl ?_
          refine xp_step rfl ?_
          refine xp_put (x := N w 3 + 1) hB k4 k1 (by decide) (k3 _ (by decide) (by decide)) rfl ?_
          refine xp_step rfl ?_
          refine xp_get hB k4 k1 (by decide) (k3 _ (by decide) (by decide)) ?_
          rw [show xupN (xNpu N (w + 11 + (N w 3).toNatClampNeg) s p c) w 3 (N w 3 + 1) w 3 = N w 3 + 1 from ew2]
          refine xp_ret rfl ⟨fun v q => by cases q; rfl, ?_, ?_⟩
          · unfold xfPulse; rw [if_neg hok, if_neg qh9, if_neg hn4]
          · unfold xfPulse; rw [if_neg hok, if_neg qh9, if_neg hn4]; rfl
end XPU
end
section
/-! WHAT A RIVER ADDS UP; the denial, a command, the history's own numbers -/
def xfSumN (f : Nat → Int32) : Nat → Int32
  | 0 => 0
  | n + 1 => xfSumN f n + f n
/-- how many of the first n reaches are flooded -/
def xfFlN (N : Nat → Nat → Int32) (w : Nat) : Nat → Int32
  | 0 => 0
  | n + 1 => if xsta N (w + 3 + n) = 2 then xfFlN N w n + 1 else xfFlN N w n
def xfVol (N : Nat → Nat → Int32) (w : Nat) : Int32 := xfSumN (fun r => N (w + 3 + r) 4) (xcnt (N w 2))
def xfLvs (N : Nat → Nat → Int32) (w : Nat) : Int32 := xfSumN (fun r => xlvl (N (w + 3 + r) 0) (N (w + 3 + r) 4)) (xcnt (N w 2))
def xfFl (N : Nat → Nat → Int32) (w : Nat) : Int32 := xfFlN N w (xcnt (N w 2))
section XSU
variable {K : List (Nat × List Value)} {Z : List Value} {pre g : xH} {B L : Nat} {N : Nat → Nat → Int32} {C : Nat → Nat}
theorem xs_vol0 (hB : xBok pre B) {w : Nat} (hw : w ∈ xRbs) : ∀ k n, n + k = xcnt (N w 2) → xBp K Z 1 3 [] xcX7_volumeOfAll (xseek xcX7_volumeOfAll 4) [(2, .int (Int32.ofNat n)), (1, .int (xfSumN (fun r => N (w + 3 + r) 4) n)), (0, .ref (B + w))] [] (xHn pre B (N) C L g) (fun r h' => (∀ v, r = .ok v → xrfit (some .int) v = true) ∧ r = .ok (some (.int (xfVol N w))) ∧ h' = xHn pre B N C L g) := by
  have hrv := xrb_river w hw
  have hwl := hrv.2.2.2.1
  have hc8 := xcnt_le (N w 2)
  intro k
  induction k with
  | zero =>
    intro n hn
    have hn0 : xcnt (N w 2) = n := by omega
    have fin : xBp K Z 1 3 [] xcX7_volumeOfAll (xseek xcX7_volumeOfAll 36) [(2, .int (Int32.ofNat n)), (1, .int (xfSumN (fun r => N (w + 3 + r) 4) n)), (0, .ref (B + w))] [] (xHn pre B (N) C L g) (fun r h' => (∀ v, r = .ok v → xrfit (some .int) v = true) ∧ r = .ok (some (.int (xfVol N w))) ∧ h' = xHn pre B N C L g) := by
      refine xp_step rfl ?_
      refine xp_ret rfl ⟨fun v q => by cases q; rfl, ?_, rfl⟩
      unfold xfVol; rw [hn0]
    refine xp_step rfl ?_
    refine xp_step rfl ?_
    refine xp_get hB (by omega) hrv.1 (by decide) (hrv.2.2.2.2.2.2.1 _ (by decide) (by decide)) ?_
    refine xp_if2 rfl (fun _ => fin) (fun q => ?_)
    have q9 : Int32.ofNat n < N w 2 := Int32.not_le.mp (of_decide_eq_false q)
    have h8 : n = 8 := by
      by_cases h : n < 8
      · have := (xcnt_lt n h (N w 2)).mpr q9
        omega
      · omega
    refine xp_step rfl ?_
    refine xp_step rfl ?_
    refine xp_if2 rfl (fun _ => fin) (fun q => ?_)
    rw [(xloop9 n (by omega)).1, h8] at q
    cases q
  | succ k ih =>
    intro n hn
    have hn8 : n < 8 := by omega
    obtain ⟨f1, f2, f3, f4⟩ := xloop8 n hn8
    have hlt := (xcnt_lt n hn8 (N w 2)).mp (by omega)
    have ih := ih (n + 1) (by omega)
    refine xp_step rfl ?_
    refine xp_step rfl ?_
    refine xp_get hB (by omega) hrv.1 (by decide) (hrv.2.2.2.2.2.2.1 _ (by decide) (by decide)) ?_
    refine xp_if2 rfl (fun q => absurd hlt (Int32.not_lt.mpr (of_decide_eq_true q))) (fun _ => ?_)
    refine xp_step rfl ?_
    refine xp_step rfl ?_
    refine xp_if2 rfl (fun q => absurd (q.symm.trans f3) (by decide)) (fun _ => ?_)
    refine xp_step rfl ?_
    refine xp_step rfl ?_
    refine xp_ref hB (by omega) hrv.1 (by decide) hrv.2.2.2.2.1 ?_
    refine xp_step rfl ?_
    refine xp_aald hB (by omega) (show xKd (w + 1) = (50 + 5, 8) from hrv.2.1) (by decide) f1 (by rw [f2]; exact hrv.2.2.2.2.2.2.2.1 _ hn8) ?_
    refine xp_get hB (xrb_reach w hw n hn8).2.1 (xrb_reach w hw n hn8).1 (by decide) ((xrb_reach w hw n hn8).2.2 _ (by decide)) ?_
    refine xp_step rfl ?_
    refine xp_step rfl ?_
    refine xp_step rfl ?_
    refine xp_jump rfl ?_
    rw [f4]
    exact ih
theorem xs_vol (hB : xBok pre B) {w : Nat} (hw : w ∈ xRbs) : xRn K Z 2 44 [.ref (B + w)] (xHn pre B N C L g) (.ok (some (.int (xfVol N w)))) (xHn pre B N C L g) := by
  refine xRp_eq (xRp_of (m := (yX7_volumeOfAll, cX7_volumeOfAll, 3, (some .int), [], [], xcX7_volumeOfAll)) rfl (by show 1 ≤ 3; decide) ?_)
  show xBp K Z 1 3 [] xcX7_volumeOfAll xcX7_volumeOfAll [(0, .ref (B + w))] [] _ _
  refine xp_step rfl ?_
  refine xp_step rfl ?_
  refine xp_step rfl ?_
  refine xp_step rfl ?_
  exact xs_vol0 hB hw (xcnt (N w 2)) 0 (by omega)
theorem xs_lvs0 (hB : xBok pre B) {w : Nat} (hw : w ∈ xRbs) : ∀ k n, n + k = xcnt (N w 2) → xBp K Z 2 3 [] xcX7_sumOfLevels (xseek xcX7_sumOfLevels 4) [(2, .int (Int32.ofNat n)), (1, .int (xfSumN (fun r => xlvl (N (w + 3 + r) 0) (N (w + 3 + r) 4)) n)), (0, .ref (B + w))] [] (xHn pre B (N) C L g) (fun r h' => (∀ v, r = .ok v → xrfit (some .int) v = true) ∧ r = .ok (some (.int (xfLvs N w))) ∧ h' = xHn pre B N C L g) := by
  have hrv := xrb_river w hw
  have hwl := hrv.2.2.2.1
  have hc8 := xcnt_le (N w 2)
  intro k
  induction k with
  | zero =>
    intro n hn
    have hn0 : xcnt (N w 2) = n := by omega
    have fin : xBp K Z 2 3 [] xcX7_sumOfLevels (xseek xcX7_sumOfLevels 36) [(2, .int (Int32.ofNat n)), (1, .int (xfSumN (fun r => xlvl (N (w + 3 + r) 0) (N (w + 3 + r) 4)) n)), (0, .ref (B + w))] [] (xHn pre B (N) C L g) (fun r h' => (∀ v, r = .ok v → xrfit (some .int) v = true) ∧ r = .ok (some (.int (xfLvs N w))) ∧ h' = xHn pre B N C L g) := by
      refine xp_step rfl ?_
      refine xp_ret rfl ⟨fun v q => by cases q; rfl, ?_, rfl⟩
      unfold xfLvs; rw [hn0]
    refine xp_step rfl ?_
    refine xp_step rfl ?_
    refine xp_get hB (by omega) hrv.1 (by decide) (hrv.2.2.2.2.2.2.1 _ (by decide) (by decide)) ?_
    refine xp_if2 rfl (fun _ => fin) (fun q => ?_)
    have q9 : Int32.ofNat n < N w 2 := Int32.not_le.mp (of_decide_eq_false q)
    have h8 : n = 8 := by
      by_cases h : n < 8
      · have := (xcnt_lt n h (N w 2)).mpr q9
        omega
      · omega
    refine xp_step rfl ?_
    refine xp_step rfl ?_
    refine xp_if2 rfl (fun _ => fin) (fun q => ?_)
    rw [(xloop9 n (by omega)).1, h8] at q
    cases q
  | succ k ih =>
    intro n hn
    have hn8 : n < 8 := by omega
    obtain ⟨f1, f2, f3, f4⟩ := xloop8 n hn8
    have hlt := (xcnt_lt n hn8 (N w 2)).mp (by omega)
    have ih := ih (n + 1) (by omega)
    refine xp_step rfl ?_
    refine xp_step rfl ?_
    refine xp_get hB (by omega) hrv.1 (by decide) (hrv.2.2.2.2.2.2.1 _ (by decide) (by decide)) ?_
    refine xp_if2 rfl (fun q => absurd hlt (Int32.not_lt.mpr (of_decide_eq_true q))) (fun _ => ?_)
    refine xp_step rfl ?_
    refine xp_step rfl ?_
    refine xp_if2 rfl (fun q => absurd (q.symm.trans f3) (by decide)) (fun _ => ?_)
    refine xp_step rfl ?_
    refine xp_step rfl ?_
    refine xp_ref hB (by omega) hrv.1 (by decide) hrv.2.2.2.2.1 ?_
    refine xp_step rfl ?_
    refine xp_aald hB (by omega) (show xKd (w + 1) = (50 + 5, 8) from hrv.2.1) (by decide) f1 (by rw [f2]; exact hrv.2.2.2.2.2.2.2.1 _ hn8) ?_
    refine xp_virt (i := w + 3 + n) hB (by omega) (xrb_reach w hw n hn8).1 rfl (Nat.le_of_ble_eq_true rfl) rfl (xR_up (by decide) (xs_level hB hw hn8)) ?_
    refine xp_step rfl ?_
    refine xp_step rfl ?_
    refine xp_step rfl ?_
    refine xp_jump rfl ?_
    rw [f4]
    exact ih
theorem xs_lvs (hB : xBok pre B) {w : Nat} (hw : w ∈ xRbs) : xRn K Z 3 45 [.ref (B + w)] (xHn pre B N C L g) (.ok (some (.int (xfLvs N w)))) (xHn pre B N C L g) := by
  refine xRp_eq (xRp_of (m := (yX7_sumOfLevels, cX7_sumOfLevels, 3, (some .int), [], [], xcX7_sumOfLevels)) rfl (by show 1 ≤ 3; decide) ?_)
  show xBp K Z 2 3 [] xcX7_sumOfLevels xcX7_sumOfLevels [(0, .ref (B + w))] [] _ _
  refine xp_step rfl ?_
  refine xp_step rfl ?_
  refine xp_step rfl ?_
  refine xp_step rfl ?_
  exact xs_lvs0 hB hw (xcnt (N w 2)) 0 (by omega)
theorem xs_fl0 (hB : xBok pre B) {w : Nat} (hw : w ∈ xRbs) : ∀ k n, n + k = xcnt (N w 2) → xBp K Z 2 3 [] xcX7_countFlooded (xseek xcX7_countFlooded 4) [(2, .int (Int32.ofNat n)), (1, .int (xfFlN N w n)), (0, .ref (B + w))] [] (xHn pre B (N) C L g) (fun r h' => (∀ v, r = .ok v → xrfit (some .int) v = true) ∧ r = .ok (some (.int (xfFl N w))) ∧ h' = xHn pre B N C L g) := by
  have hrv := xrb_river w hw
  have hwl := hrv.2.2.2.1
  have hc8 := xcnt_le (N w 2)
  intro k
  induction k with
  | zero =>
    intro n hn
    have hn0 : xcnt (N w 2) = n := by omega
    have fin : xBp K Z 2 3 [] xcX7_countFlooded (xseek xcX7_countFlooded 40) [(2, .int (Int32.ofNat n)), (1, .int (xfFlN N w n)), (0, .ref (B + w))] [] (xHn pre B (N) C L g) (fun r h' => (∀ v, r = .ok v → xrfit (some .int) v = true) ∧ r = .ok (some (.int (xfFl N w))) ∧ h' = xHn pre B N C L g) := by
      refine xp_step rfl ?_
      refine xp_ret rfl ⟨fun v q => by cases q; rfl, ?_, rfl⟩
      unfold xfFl; rw [hn0]
    refine xp_step rfl ?_
    refine xp_step rfl ?_
    refine xp_get hB (by omega) hrv.1 (by decide) (hrv.2.2.2.2.2.2.1 _ (by decide) (by decide)) ?_
    refine xp_if2 rfl (fun _ => fin) (fun q => ?_)
    have q9 : Int32.ofNat n < N w 2 := Int32.not_le.mp (of_decide_eq_false q)
    have h8 : n = 8 := by
      by_cases h : n < 8
      · have := (xcnt_lt n h (N w 2)).mpr q9
        omega
      · omega
    refine xp_step rfl ?_
    refine xp_step rfl ?_
    refine xp_if2 rfl (fun _ => fin) (fun q => ?_)
    rw [(xloop9 n (by omega)).1, h8] at q
    cases q
  | succ k ih =>
    intro n hn
    have hn8 : n < 8 := by omega
    obtain ⟨f1, f2, f3, f4⟩ := xloop8 n hn8
    have hlt := (xcnt_lt n hn8 (N w 2)).mp (by omega)
    have ih := ih (n + 1) (by omega)
    refine xp_step rfl ?_
    refine xp_step rfl ?_
    refine xp_get hB (by omega) hrv.1 (by decide) (hrv.2.2.2.2.2.2.1 _ (by decide) (by decide)) ?_
    refine xp_if2 rfl (fun q => absurd hlt (Int32.not_lt.mpr (of_decide_eq_true q))) (fun _ => ?_)
    refine xp_step rfl ?_
    refine xp_step rfl ?_
    refine xp_if2 rfl (fun q => absurd (q.symm.trans f3) (by decide)) (fun _ => ?_)
    refine xp_step rfl ?_
    refine xp_ref hB (by omega) hrv.1 (by decide) hrv.2.2.2.2.1 ?_
    refine xp_step rfl ?_
    refine xp_aald hB (by omega) (show xKd (w + 1) = (50 + 5, 8) from hrv.2.1) (by decide) f1 (by rw [f2]; exact hrv.2.2.2.2.2.2.2.1 _ hn8) ?_
    refine xp_virt (i := w + 3 + n) hB (by omega) (xrb_reach w hw n hn8).1 rfl (Nat.le_of_ble_eq_true rfl) rfl (xR_up (by decide) (xs_status hB hw hn8)) ?_
    refine xp_step rfl ?_
    refine xp_if2 rfl (fun q1 => ?_) (fun q1 => ?_)
    · skip
      refine xp_step rfl ?_
      refine xp_jump rfl ?_
      have e9 : xfFlN N w (n + 1) = xfFlN N w n := by
        show (if xsta N (w + 3 + n) = 2 then xfFlN N w n + 1 else xfFlN N w n) = _
        exact if_neg (by simpa [xic] using q1)
      rw [e9] at ih
      rw [f4]
      exact ih
    · skip
      refine xp_step rfl ?_
      refine xp_step rfl ?_
      refine xp_jump rfl ?_
      have e9 : xfFlN N w (n + 1) = xfFlN N w n + 1 := by
        show (if xsta N (w + 3 + n) = 2 then xfFlN N w n + 1 else xfFlN N w n) = _
        exact if_pos (by simpa [xic] using q1)
      rw [e9] at ih
      rw [f4]
      exact ih
theorem xs_fl (hB : xBok pre B) {w : Nat} (hw : w ∈ xRbs) : xRn K Z 3 46 [.ref (B + w)] (xHn pre B N C L g) (.ok (some (.int (xfFl N w)))) (xHn pre B N C L g) := by
  refine xRp_eq (xRp_of (m := (yX7_countFlooded, cX7_countFlooded, 3, (some .int), [], [], xcX7_countFlooded)) rfl (by show 1 ≤ 3; decide) ?_)
  show xBp K Z 2 3 [] xcX7_countFlooded xcX7_countFlooded [(0, .ref (B + w))] [] _ _
  refine xp_step rfl ?_
  refine xp_step rfl ?_
  refine xp_step rfl ?_
  refine xp_step rfl ?_
  exact xs_fl0 hB hw (xcnt (N w 2)) 0 (by omega)
/-- does the reach at i come before the one at j -/
def xbef (N : Nat → Nat → Int32) (i j : Nat) : Bool := decide (xlvl (N j 0) (N j 4) < xlvl (N i 0) (N i 4)) || (decide (xlvl (N i 0) (N i 4) = xlvl (N j 0) (N j 4)) && decide (N j 4 < N i 4))
theorem xs_before (hB : xBok pre B) {w a b : Nat} (hw : w ∈ xRbs) (ha : a < 8) (hb : b < 8) : xRn K Z 2 20 [.ref (B + (w + 3 + a)), .ref (B + (w + 3 + b))] (xHn pre B N C L g) (.ok (some (.int (if xbef N (w + 3 + a) (w + 3 + b) = true then 1 else 0)))) (xHn pre B N C L g) := by
  have hrv := xrb_river w hw
  have hwl := hrv.2.2.2.1
  refine xRp_eq (xRp_of (m := (yX6_comesBefore, cX6_comesBefore, 4, (some .boolean), [], [], xcX6_comesBefore)) rfl (by show 2 ≤ 4; decide) ?_)
  show xBp K Z 1 4 [] xcX6_comesBefore xcX6_comesBefore [(0, .ref (B + (w + 3 + a))), (1, .ref (B + (w + 3 + b)))] [] _ _
  refine xp_step rfl ?_
  refine xp_virt (i := w + 3 + a) hB (by omega) (xrb_reach w hw a ha).1 rfl (Nat.le_of_ble_eq_true rfl) rfl (xR_up (by decide) (xs_level hB hw ha)) ?_
  refine xp_step rfl ?_
  refine xp_step rfl ?_
  refine xp_virt (i := w + 3 + b) hB (by omega) (xrb_reach w hw b hb).1 rfl (Nat.le_of_ble_eq_true rfl) rfl (xR_up (by decide) (xs_level hB hw hb)) ?_
  refine xp_step rfl ?_
  refine xp_step rfl ?_
  refine xp_step rfl ?_
  refine xp_if2 rfl (fun q1 => ?_) (fun q1 => ?_)
  · skip
    refine xp_step rfl ?_
    refine xp_jump rfl ?_
    refine xp_ret rfl ⟨fun v q => by cases q; rfl, congrArg (fun x => Except.ok (some (Value.int x))) ?_, rfl⟩
    unfold xbef; simp_all [xic]
    all_goals simp only [Int32.le_iff_toInt_le, Int32.lt_iff_toInt_lt] at *
    all_goals omega
  · skip
    refine xp_step rfl ?_
    refine xp_step rfl ?_
    refine xp_if2 rfl (fun q2 => ?_) (fun q2 => ?_)
    · skip
      refine xp_step rfl ?_
      refine xp_ret rfl ⟨fun v q => by cases q; rfl, congrArg (fun x => Except.ok (some (Value.int x))) ?_, rfl⟩
      unfold xbef; simp_all [xic]
      all_goals simp only [Int32.le_iff_toInt_le, Int32.lt_iff_toInt_lt] at *
      all_goals omega
    · skip
      refine xp_step rfl ?_
      refine xp_get hB (xrb_reach w hw a ha).2.1 (xrb_reach w hw a ha).1 (by decide) ((xrb_reach w hw a ha).2.2 _ (by decide)) ?_
      refine xp_step rfl ?_
      refine xp_get hB (xrb_reach w hw b hb).2.1 (xrb_reach w hw b hb).1 (by decide) ((xrb_reach w hw b hb).2.2 _ (by decide)) ?_
      refine xp_if2 rfl (fun q3 => ?_) (fun q3 => ?_)
      · skip
        refine xp_step rfl ?_
        refine xp_ret rfl ⟨fun v q => by cases q; rfl, congrArg (fun x => Except.ok (some (Value.int x))) ?_, rfl⟩
        unfold xbef; simp_all [xic]
        all_goals simp only [Int32.le_iff_toInt_le, Int32.lt_iff_toInt_lt] at *
        all_goals omega
      · skip
        refine xp_step rfl ?_
        refine xp_jump rfl ?_
        refine xp_ret rfl ⟨fun v q => by cases q; rfl, congrArg (fun x => Except.ok (some (Value.int x))) ?_, rfl⟩
        unfold xbef; simp_all [xic]
        all_goals simp only [Int32.le_iff_toInt_le, Int32.lt_iff_toInt_lt] at *
        all_goals omega
def xfDet (N : Nat → Nat → Int32) (w : Nat) (a v : Int32) : Int32 := if a = 4 then v else if a = 1 then 8 else N w 4
theorem xs_detail (hB : xBok pre B) {w : Nat} (hw : w ∈ xRbs) (a v : Int32) : xRn K Z 1 26 [.ref (B + w), .int a, .int v] (xHn pre B N C L g) (.ok (some (.int (xfDet N w a v)))) (xHn pre B N C L g) := by
  have hrv := xrb_river w hw
  have hwl := hrv.2.2.2.1
  refine xRp_eq (xRp_of (m := (yX7_detailOf, cX7_detailOf, 3, (some .int), [], [], xcX7_detailOf)) rfl (by show 3 ≤ 3; decide) ?_)
  show xBp K Z 0 3 [] xcX7_detailOf xcX7_detailOf [(0, .ref (B + w)), (1, .int a), (2, .int v)] [] _ _
  refine xp_step rfl ?_
  refine xp_step rfl ?_
  refine xp_if2 rfl (fun q1 => ?_) (fun q1 => ?_)
  · skip
    refine xp_step rfl ?_
    refine xp_step rfl ?_
    refine xp_if2 rfl (fun q2 => ?_) (fun q2 => ?_)
    · skip
      refine xp_step rfl ?_
      refine xp_get hB (by omega) hrv.1 (by decide) (hrv.2.2.2.2.2.2.1 _ (by decide) (by decide)) ?_
      refine xp_ret rfl ⟨fun v q => by cases q; rfl, congrArg (fun x => Except.ok (some (Value.int x))) ?_, rfl⟩
      unfold xfDet; simp_all [xic]
      try rfl
    · skip
      refine xp_step rfl ?_
      refine xp_ret rfl ⟨fun v q => by cases q; rfl, congrArg (fun x => Except.ok (some (Value.int x))) ?_, rfl⟩
      unfold xfDet; simp_all [xic]
      try rfl
  · skip
    refine xp_step rfl ?_
    refine xp_ret rfl ⟨fun v q => by cases q; rfl, congrArg (fun x => Except.ok (some (Value.int x))) ?_, rfl⟩
    unfold xfDet; simp_all [xic]
    try rfl
def xNden (N : Nat → Nat → Int32) (a b c e : Int32) : Nat → Nat → Int32 := xupN (xupN (xupN (xupN N 250 0 a) 250 1 b) 250 2 c) 250 3 e
theorem xs_keep (hB : xBok pre B) (a b c e : Int32) : xRn K Z 1 3 [.ref (B + 250), .int a, .int b, .int c, .int e] (xHn pre B N C L g) (.ok none) (xHn pre B (xNden N a b c e) C L g) := by
  refine xRp_eq (xRp_of (m := (yX2_keep, cX2_keep, 5, none, [], [], xcX2_keep)) rfl (by show 5 ≤ 5; decide) ?_)
  show xBp K Z 0 5 [] xcX2_keep xcX2_keep [(0, .ref (B + 250)), (1, .int a), (2, .int b), (3, .int c), (4, .int e)] [] _ _
  refine xp_step rfl ?_
  refine xp_step rfl ?_
  refine xp_put hB (i := 250) (k := 0) (by decide) rfl (by decide) (by decide) rfl ?_
  refine xp_step rfl ?_
  refine xp_step rfl ?_
  refine xp_put hB (i := 250) (k := 1) (by decide) rfl (by decide) (by decide) rfl ?_
  refine xp_step rfl ?_
  refine xp_step rfl ?_
  refine xp_put hB (i := 250) (k := 2) (by decide) rfl (by decide) (by decide) rfl ?_
  refine xp_step rfl ?_
  refine xp_step rfl ?_
  refine xp_put hB (i := 250) (k := 3) (by decide) rfl (by decide) (by decide) rfl ?_
  exact xp_ret rfl ⟨fun v q => by cases q; rfl, rfl, rfl⟩
def xNcmd (N : Nat → Nat → Int32) (i : Nat) (p v : Int32) : Nat → Nat → Int32 := if p = 0 then xupN N i 1 v else if p = 1 then xupN N i 2 v else xupN N i 3 v
theorem xcm_cell : ∀ j, j < 16 → xKd (234 + j) = (4, 4) ∧ (234 + j < 253 ∧ ∀ k, k < 4 → 1 ≤ k → xnu (234 + j) k = true) := by
  intro j hj
  have h : (List.range 16).all (fun j => decide (xKd (234 + j) = (4, 4)) && (decide (234 + j < 253) && (List.range 4).all fun k => decide (k < 1) || xnu (234 + j) k)) = true := by decide +kernel
  have h := List.all_eq_true.mp h j (List.mem_range.mpr hj)
  simp only [Bool.and_eq_true, decide_eq_true_eq] at h
  refine ⟨h.1, h.2.1, fun k hk hk1 => ?_⟩
  rcases Bool.or_eq_true _ _ |>.mp (List.all_eq_true.mp h.2.2 k (List.mem_range.mpr hk)) with q | q
  · exact absurd (of_decide_eq_true q) (by omega)
  · exact q
theorem xs_put (hB : xBok pre B) {j : Nat} (hj : j < 16) (p v : Int32) : xRn K Z 1 1 [.ref (B + (234 + j)), .int p, .int v] (xHn pre B N C L g) (.ok none) (xHn pre B (xNcmd N (234 + j) p v) C L g) := by
  obtain ⟨c1, c2, c3⟩ := xcm_cell j hj
  refine xRp_eq (xRp_of (m := (yX1_put, cX1_put, 3, none, [], [], xcX1_put)) rfl (by show 3 ≤ 3; decide) ?_)
  show xBp K Z 0 3 [] xcX1_put xcX1_put [(0, .ref (B + (234 + j))), (1, .int p), (2, .int v)] [] _ _
  repeat' (first
    | refine xp_put hB c2 c1 (by decide) (c3 _ (by decide) (by decide)) rfl ?_
    | refine xp_if2 rfl (fun _ => ?_) (fun _ => ?_)
    | refine xp_if1 rfl (fun _ => ?_) (fun _ => ?_)
    | refine xp_ret rfl ?_
    | refine xp_step rfl ?_
    | refine xp_jump rfl ?_)
  all_goals refine ⟨fun v q => by cases q; rfl, rfl, congrArg (fun n => xHn pre B n C L g) ?_⟩
  all_goals unfold xNcmd; simp_all [xic]
  all_goals (try rfl)
end XSU
end
section
/-! THE HISTORY -/
theorem xp_rem {K : List (Nat × List Value)} {Z : List Value} {d nL : Nat} {hs : List (Nat × Nat × Nat × Nat)} {code cs : List xE} {loc : xL} {st : List Value} {P : xA → xH → Prop} {pc ln : Nat} {aux : List Nat} {x y : Int32} {h : xH} (hy : y ≠ 0) (hb : xBp K Z d nL hs code cs loc (.int (x - x / y * y) :: st) h P) : xBp K Z d nL hs code ((pc, .irem, ln, aux) :: cs) loc (.int y :: .int x :: st) h P :=
  xp_step (show xiz (fun x y => x - x / y * y) loc (.int y :: .int x :: st) h = _ by unfold xiz; dsimp only; rw [decide_eq_false hy]; rfl) hb
def xNx (N : Nat → Nat → Int32) : Nat := (N 58 1).toNatClampNeg
theorem xrow_in : ∀ k, k < 9 → 60 + 19 * k ∈ xRbs ∧ (1 : Nat) ≠ 60 + 19 * k := by decide
theorem xwin9 {x : Int32} (h : xwin x 0 8 = true) : xin x 9 = true ∧ x.toNatClampNeg < 9 := by
  unfold xwin at h
  simp only [Bool.and_eq_true, decide_eq_true_eq] at h
  have h1 : x.toNatClampNeg < 9 := by
    have a := Int32.le_iff_toInt_le.mp h.1
    have b := Int32.le_iff_toInt_le.mp h.2
    have c : (0 : Int32).toInt = 0 := rfl
    have d : (8 : Int32).toInt = 8 := rfl
    rw [c] at a
    rw [d] at b
    show x.toInt.toNat < 9
    omega
  refine ⟨?_, h1⟩
  unfold xin
  rw [decide_eq_true h.1, decide_eq_true h1]
  rfl
/-- the rule's sign of a river's reaches is a char -/
def xrul (N : Nat → Nat → Int32) (w : Nat) : Prop := ∀ r, r < 8 → 0 ≤ N (w + 3 + r) 8 ∧ N (w + 3 + r) 8 ≤ 65535
def xinc9 (x : Int32) : Int32 := x + 1 - (x + 1) / 9 * 9
def xdec9 (x : Int32) : Int32 := x + 9 - 1 - (x + 9 - 1) / 9 * 9
def xNconf (N : Nat → Nat → Int32) : Nat → Nat → Int32 := xupN (xupN N 58 1 (xinc9 (N 58 1))) 58 2 (xmin (N 58 2 + 1) 8)
def xNtake (N : Nat → Nat → Int32) : Nat → Nat → Int32 := xupN (xupN N 58 1 (xdec9 (N 58 1))) 58 2 (N 58 2 - 1)
section XHI
variable {K : List (Nat × List Value)} {Z : List Value} {pre g : xH} {B L : Nat} {N : Nat → Nat → Int32} {C : Nat → Nat}
theorem xs_nextRow (hB : xBok pre B) (hx : xwin (N 58 1) 0 8 = true) : xRn K Z 2 5 [.ref (B + 58)] (xHn pre B N C L g) (.ok (some (.ref (B + (60 + 19 * xNx N))))) (xHn pre B N C L g) := by
  have hx9 := xwin9 hx
  refine xRp_eq (xRp_of (m := (yX3_nextRow, cX3_nextRow, 1, (some (.object "RiverReaches$River")), [], [], xcX3_nextRow)) rfl (by show 1 ≤ 1; decide) ?_)
  show xBp K Z 1 1 [] xcX3_nextRow xcX3_nextRow [(0, .ref (B + 58))] [] _ _
  refine xp_step rfl ?_
  refine xp_ref hB (i := 58) (k := 0) (q := 59) (by decide) rfl (by decide) rfl ?_
  refine xp_step rfl ?_
  refine xp_get hB (i := 58) (k := 1) (by decide) rfl (by decide) (by decide) ?_
  refine xp_step rfl ?_
  refine xp_step rfl ?_
  refine xp_callR rfl (xR_up (by decide) (xs_within _ (N 58 1) 0 8)) ?_
  rw [hx]
  refine xp_if1 rfl (fun q1 => absurd q1 (by decide)) (fun _ => ?_)
  refine xp_step rfl ?_
  refine xp_get hB (i := 58) (k := 1) (by decide) rfl (by decide) (by decide) ?_
  refine xp_jump rfl ?_
  refine xp_aald hB (i := 59) (by decide) (show xKd 59 = (50 + 6, 9) from rfl) (by decide) hx9.1 rfl ?_
  exact xp_ret rfl ⟨fun v q => by cases q; rfl, rfl, rfl⟩
theorem xs_note (hB : xBok pre B) (hx : xwin (N 58 1) 0 8 = true) (hr : xrul N 1) : xRn K Z 3 6 [.ref (B + 58), .ref (B + 1)] (xHn pre B N C L g) (.ok none) (xHn pre B (xNcopy N (60 + 19 * xNx N) 1) C L g) := by
  have hrm := xrow_in (xNx N) (xwin9 hx).2
  have hm1 : 1 ∈ xRbs := by decide
  have hwl := (xrb_river _ hrm.1).2.2.2.1
  refine xRp_eq (xRp_of (m := (yX3_note, cX3_note, 2, none, [], [], xcX3_note)) rfl (by show 2 ≤ 2; decide) ?_)
  show xBp K Z 2 2 [] xcX3_note xcX3_note [(0, .ref (B + 58)), (1, .ref (B + 1))] [] _ _
  refine xp_step rfl ?_
  refine xp_virt (i := 58) hB (by first | decide | omega) rfl rfl (Nat.le_of_ble_eq_true rfl) rfl (xR_up (by decide) (xs_nextRow hB hx)) ?_
  refine xp_step rfl ?_
  refine xp_virt (i := 60 + 19 * xNx N) hB (by first | decide | omega) (xrb_river _ hrm.1).1 rfl (Nat.le_of_ble_eq_true rfl) rfl (xR_up (by decide) (xs_copy hB hrm.1 hm1 hrm.2.symm hr)) ?_
  exact xp_ret rfl ⟨fun v q => by cases q; rfl, rfl, rfl⟩
theorem xs_putBack (hB : xBok pre B) (hx : xwin (N 58 1) 0 8 = true) (hr : xrul N (60 + 19 * xNx N)) : xRn K Z 3 8 [.ref (B + 58), .ref (B + 1)] (xHn pre B N C L g) (.ok none) (xHn pre B (xNcopy N 1 (60 + 19 * xNx N)) C L g) := by
  have hrm := xrow_in (xNx N) (xwin9 hx).2
  have hm1 : 1 ∈ xRbs := by decide
  refine xRp_eq (xRp_of (m := (yX3_putBack, cX3_putBack, 2, none, [], [], xcX3_putBack)) rfl (by show 2 ≤ 2; decide) ?_)
  show xBp K Z 2 2 [] xcX3_putBack xcX3_putBack [(0, .ref (B + 58)), (1, .ref (B + 1))] [] _ _
  refine xp_step rfl ?_
  refine xp_step rfl ?_
  refine xp_virt (i := 58) hB (by first | decide | omega) rfl rfl (Nat.le_of_ble_eq_true rfl) rfl (xR_up (by decide) (xs_nextRow hB hx)) ?_
  refine xp_virt (i := 1) hB (by first | decide | omega) (xrb_river _ hm1).1 rfl (Nat.le_of_ble_eq_true rfl) rfl (xR_up (by decide) (xs_copy hB hm1 hrm.1 hrm.2 hr)) ?_
  exact xp_ret rfl ⟨fun v q => by cases q; rfl, rfl, rfl⟩
theorem xs_forget (hB : xBok pre B) : xRn K Z 1 10 [.ref (B + 58)] (xHn pre B N C L g) (.ok none) (xHn pre B (xupN N 58 2 0) C L g) := by
  refine xRp_eq (xRp_of (m := (yX3_forgetAll, cX3_forgetAll, 1, none, [], [], xcX3_forgetAll)) rfl (by show 1 ≤ 1; decide) ?_)
  show xBp K Z 0 1 [] xcX3_forgetAll xcX3_forgetAll [(0, .ref (B + 58))] [] _ _
  refine xp_step rfl ?_
  refine xp_step rfl ?_
  refine xp_put hB (i := 58) (k := 2) (by decide) rfl (by decide) (by decide) rfl ?_
  exact xp_ret rfl ⟨fun v q => by cases q; rfl, rfl, rfl⟩
theorem xs_confirm (hB : xBok pre B) : xRn K Z 2 7 [.ref (B + 58)] (xHn pre B N C L g) (.ok none) (xHn pre B (xNconf N) C L g) := by
  have e2 : xupN N 58 1 (xinc9 (N 58 1)) 58 2 = N 58 2 := by simp [xupN]
  refine xRp_eq (xRp_of (m := (yX3_confirm, cX3_confirm, 1, none, [], [], xcX3_confirm)) rfl (by show 1 ≤ 1; decide) ?_)
  show xBp K Z 1 1 [] xcX3_confirm xcX3_confirm [(0, .ref (B + 58))] [] _ _
  refine xp_step rfl ?_
  refine xp_step rfl ?_
  refine xp_get hB (i := 58) (k := 1) (by decide) rfl (by decide) (by decide) ?_
  refine xp_step rfl ?_
  refine xp_step rfl ?_
  refine xp_step rfl ?_
  refine xp_rem (by decide) ?_
  refine xp_put (x := xinc9 (N 58 1)) hB (i := 58) (k := 1) (by decide) rfl (by decide) (by decide) rfl ?_
  refine xp_step rfl ?_
  refine xp_step rfl ?_
  refine xp_get hB (i := 58) (k := 2) (by decide) rfl (by decide) (by decide) ?_
  rw [e2]
  refine xp_step rfl ?_
  refine xp_step rfl ?_
  refine xp_step rfl ?_
  refine xp_callR rfl (xs_min _ (N 58 2 + 1) 8) ?_
  refine xp_put hB (i := 58) (k := 2) (by decide) rfl (by decide) (by decide) rfl ?_
  exact xp_ret rfl ⟨fun v q => by cases q; rfl, rfl, rfl⟩
theorem xs_takeBack (hB : xBok pre B) (hx : xwin (xNtake N 58 1) 0 8 = true) (hr : xrul (xNtake N) (60 + 19 * xNx (xNtake N))) : xRn K Z 3 9 [.ref (B + 58), .ref (B + 1)] (xHn pre B N C L g) (.ok none) (xHn pre B (xNcopy (xNtake N) 1 (60 + 19 * xNx (xNtake N))) C L g) := by
  have e2 : xupN N 58 1 (xdec9 (N 58 1)) 58 2 = N 58 2 := by simp [xupN]
  have hrm := xrow_in (xNx (xNtake N)) (xwin9 hx).2
  have hm1 : 1 ∈ xRbs := by decide
  refine xRp_eq (xRp_of (m := (yX3_takeBack, cX3_takeBack, 2, none, [], [], xcX3_takeBack)) rfl (by show 2 ≤ 2; decide) ?_)
  show xBp K Z 2 2 [] xcX3_takeBack xcX3_takeBack [(0, .ref (B + 58)), (1, .ref (B + 1))] [] _ _
  refine xp_step rfl ?_
  refine xp_step rfl ?_
  refine xp_get hB (i := 58) (k := 1) (by decide) rfl (by decide) (by decide) ?_
  refine xp_step rfl ?_
  refine xp_step rfl ?_
  refine xp_step rfl ?_
  refine xp_step rfl ?_
  refine xp_step rfl ?_
  refine xp_rem (by decide) ?_
  refine xp_put (x := xdec9 (N 58 1)) hB (i := 58) (k := 1) (by decide) rfl (by decide) (by decide) rfl ?_
  refine xp_step rfl ?_
  refine xp_step rfl ?_
  refine xp_get hB (i := 58) (k := 2) (by decide) rfl (by decide) (by decide) ?_
  rw [e2]
  refine xp_step rfl ?_
  refine xp_step rfl ?_
  refine xp_put (x := N 58 2 - 1) hB (i := 58) (k := 2) (by decide) rfl (by decide) (by decide) rfl ?_
  change xBp K Z 2 2 [] xcX3_takeBack _ _ _ (xHn pre B (xNtake N) C L g) _
  refine xp_step rfl ?_
  refine xp_step rfl ?_
  refine xp_virt (i := 58) hB (by decide) rfl rfl (Nat.le_of_ble_eq_true rfl) rfl (xs_nextRow hB hx) ?_
  refine xp_virt (i := 1) hB (by decide) rfl rfl (Nat.le_of_ble_eq_true rfl) rfl (xs_copy hB hm1 hrm.1 hrm.2 hr) ?_
  exact xp_ret rfl ⟨fun v q => by cases q; rfl, rfl, rfl⟩
end XHI
end
section
/-! LOCALS MAY BE FORGOTTEN AND CHANGE THEIR ORDER: what runs with some locals runs with more -/
def xLe (loc loc' : xL) : Prop := ∀ q ∈ loc, xget loc' q.1 = some q.2
def xrl (loc : xL) : xO → xO
  | .inl (t, _, s, h) => .inl (t, loc, s, h)
  | .inr (.inl (mi, a, _, s, h)) => .inr (.inl (mi, a, loc, s, h))
  | .inr (.inr x) => .inr (.inr x)
/-- the locals are only handed on -/
def xNa (f : xL → Option xO) : Prop := ∀ loc, f loc = (f []).map (xrl loc)
section XNA
variable {K : List (Nat × List Value)} {Z : List Value} {st : List Value} {h : xH}
theorem xna_none : xNa (fun _ => none) := fun _ => rfl
theorem xna_nx {st : List Value} {h : xH} : xNa (fun loc => xnx loc st h) := fun _ => rfl
theorem xna_jp {t : Option Nat} {st : List Value} {h : xH} : xNa (fun loc => xjp t loc st h) := by
  intro loc; cases t <;> rfl
theorem xna_br {b : Bool} {pc : Nat} {off : Int} {st : List Value} {h : xH} : xNa (fun loc => xbr b pc off loc st h) := by
  intro loc; cases b
  · rfl
  · exact xna_jp loc
theorem xna_ii {f : Int32 → Int32 → Int32} : xNa (fun loc => xii f loc st h) := by
  intro loc; unfold xii; dsimp only; split <;> rfl
theorem xna_iz {f : Int32 → Int32 → Int32} : xNa (fun loc => xiz f loc st h) := by
  intro loc; unfold xiz; dsimp only; repeat' split
  all_goals rfl
theorem xna_i1 {f : Int32 → Value} : xNa (fun loc => xi1 f loc st h) := by
  intro loc; unfold xi1; dsimp only; split <;> rfl
theorem xna_jj {f : Int64 → Int64 → Value} : xNa (fun loc => xjj f loc st h) := by
  intro loc; unfold xjj; dsimp only; split <;> rfl
theorem xna_getf {ci k : Nat} : xNa (fun loc => xgetf K ci k loc st h) := by
  intro loc; unfold xgetf; dsimp only; repeat' split
  all_goals rfl
theorem xna_putf {ty : FieldType} {ci k : Nat} : xNa (fun loc => xputf ty ci k loc st h) := by
  intro loc; unfold xputf; dsimp only; repeat' split
  all_goals rfl
theorem xna_ald {p : Value → Bool} {t : Nat → Nat → Bool} : xNa (fun loc => xald K p t loc st h) := by
  intro loc; unfold xald; dsimp only; repeat' split
  all_goals rfl
theorem xna_ast {t : Nat} {f : Value → Option Value} : xNa (fun loc => xast t f loc st h) := by
  intro loc; unfold xast; dsimp only; repeat' split
  all_goals rfl
theorem xna_asq : xNa (fun loc => xasq loc st h) := by
  intro loc; unfold xasq; dsimp only; repeat' split
  all_goals rfl
theorem xna_alen : xNa (fun loc => xalen K loc st h) := by
  intro loc; unfold xalen; dsimp only; repeat' split
  all_goals rfl
theorem xna_new {ci : Nat} : xNa (fun loc => xnew ci loc st h) := by
  intro loc; unfold xnew; dsimp only; split <;> rfl
theorem xna_newa {t : Nat} {v : Value} : xNa (fun loc => xnewa t v loc st h) := by
  intro loc; unfold xnewa; dsimp only; repeat' split
  all_goals rfl
theorem xna_clone : xNa (fun loc => xclone loc st h) := by
  intro loc; unfold xclone; dsimp only; repeat' split
  all_goals rfl
theorem xna_copy : xNa (fun loc => xcopy K loc st h) := by
  intro loc; unfold xcopy; dsimp only; repeat' split
  all_goals rfl
theorem xna_cast : xNa (fun loc => xcast loc st h) := by
  intro loc; unfold xcast; dsimp only; repeat' split
  all_goals rfl
theorem xna_call {mi n : Nat} : xNa (fun loc => xcall mi n loc st h) := by
  intro loc; unfold xcall; dsimp only; split <;> rfl
theorem xna_sw {pc : Nat} {d lo hi : Int} {offs : Array Int} : xNa (fun loc => xsw pc d lo hi offs loc st h) := by
  intro loc; unfold xsw xjp; dsimp only; repeat' split
  all_goals rfl
theorem xna_gets {j : Nat} : xNa (fun loc => xgets Z j loc st h) := by
  intro loc; unfold xgets; dsimp only; split <;> rfl
theorem xna_f1 {f : Value → Option Value} : xNa (fun loc => xf1 f loc st h) := by
  intro loc; unfold xf1; dsimp only; repeat' split
  all_goals rfl
theorem xna_f2 {f : Value → Value → Option Value} : xNa (fun loc => xf2 f loc st h) := by
  intro loc; unfold xf2; dsimp only; repeat' split
  all_goals rfl
theorem xna_cat1 {f : Value → List Value → List Value} : xNa (fun loc => xcat1 loc st h f) := by
  intro loc; unfold xcat1; dsimp only; repeat' split
  all_goals rfl
theorem xna_dx1 : xNa (fun loc => xdx1 loc st h) := by
  intro loc; unfold xdx1; dsimp only; repeat' split
  all_goals rfl
theorem xna_a1 {aux : List Nat} {f : Nat → xL → Option xO} (hf : ∀ a, xNa (f a)) : xNa (fun loc => xa1 aux fun a => f a loc) := by
  intro loc; unfold xa1; dsimp only; split
  · exact hf _ loc
  · rfl
theorem xna_a2 {aux : List Nat} {f : Nat → Nat → xL → Option xO} (hf : ∀ a b, xNa (f a b)) : xNa (fun loc => xa2 aux fun a b => f a b loc) := by
  intro loc; unfold xa2; dsimp only; split
  · exact hf _ _ loc
  · rfl
theorem xna_newx {k i : Nat} : xNa (fun loc => xnewx loc st h k i) := by
  intro loc; unfold xnewx; dsimp only; split
  · exact xna_new loc
  · split <;> rfl
theorem xna_ldc {k v : Nat} : xNa (fun loc => xldc loc st h k v) := by
  intro loc; unfold xldc; dsimp only; split <;> rfl
theorem xna_ldw {k v : Nat} : xNa (fun loc => xldw loc st h k v) := by
  intro loc; unfold xldw; dsimp only; split <;> rfl
theorem xna_ld2 {k v : Nat} : xNa (fun loc => xld2 loc st h k v) := by
  intro loc; unfold xld2; dsimp only; split <;> rfl
theorem xna_virt {aux : List Nat} : xNa (fun loc => xvirt K loc st h aux) := by
  intro loc; unfold xvirt; dsimp only; split
  · split
    · exact xna_clone loc
    · split
      · split
        · exact xna_call loc
        · rfl
      · rfl
  · rfl
theorem xna_stat {aux : List Nat} : xNa (fun loc => xstat K loc st h aux) := by
  intro loc; unfold xstat; dsimp only; split
  · split
    · exact xna_copy loc
    · split
      · exact xna_f1 loc
      · split
        · exact xna_f1 loc
        · exact xna_a2 (f := fun mi n loc => xcall mi n loc st h) (fun _ _ => xna_call) loc
  · rfl
theorem xna_spec {aux : List Nat} : xNa (fun loc => xspec K loc st h aux) := by
  intro loc; unfold xspec; dsimp only; split
  · split
    · repeat' split
      all_goals rfl
    · rename_i k r _ _
      refine xna_a2 (f := fun mi n loc => match xrf st n && (!decide (k = 4) || xrcv K h st n 1) with
        | true => xcall mi n loc st h
        | false => none) (fun mi n loc => ?_) loc
      dsimp only
      split
      · exact xna_call loc
      · rfl
  · rfl
theorem xna_if1 {c : ClassFile.Cond} {pc : Nat} {o : Int} : xNa (fun loc => xif1 c pc o loc st h) := by
  intro loc; unfold xif1; dsimp only; split
  · exact xna_br loc
  · rfl
theorem xna_if2 {c : ClassFile.Cond} {pc : Nat} {o : Int} : xNa (fun loc => xif2 c pc o loc st h) := by
  intro loc; unfold xif2; dsimp only; split
  · exact xna_br loc
  · rfl
theorem xna_ifn {b : Bool} {pc : Nat} {o : Int} : xNa (fun loc => xifn b pc o loc st h) := by
  intro loc; unfold xifn; dsimp only; split
  · exact xna_br loc
  · exact xna_br loc
  · rfl
theorem xna_ret {p : Value → Bool} : xNa (fun _ => xret p st h) := by
  intro loc; unfold xret; dsimp only; repeat' split
  all_goals rfl
theorem xna_retv : xNa (fun _ => xretv st h) := by
  intro loc; unfold xretv; dsimp only; split <;> rfl
end XNA
/-- the relation of two outcomes -/
def xRo (o o' : xO) : Prop := match o with
  | .inl (t, l, s, h) => ∃ l', o' = .inl (t, l', s, h) ∧ xLe l l'
  | .inr (.inl (mi, a, l, s, h)) => ∃ l', o' = .inr (.inl (mi, a, l', s, h)) ∧ xLe l l'
  | .inr (.inr x) => o' = .inr (.inr x)
def xWk (f : xL → Option xO) : Prop := ∀ loc loc' o, xLe loc loc' → f loc = some o → ∃ o', f loc' = some o' ∧ xRo o o'
theorem xwk_na {f : xL → Option xO} (hf : xNa f) : xWk f := by
  intro loc loc' o hR hs
  rw [hf loc] at hs
  cases hq : f [] with
  | none => rw [hq] at hs; cases hs
  | some p =>
    rw [hq] at hs
    cases hs
    refine ⟨xrl loc' p, by rw [hf loc', hq]; rfl, ?_⟩
    rcases p with ⟨t, l, s, h⟩ | ⟨mi, a, l, s, h⟩ | x
    · exact ⟨loc', rfl, hR⟩
    · exact ⟨loc', rfl, hR⟩
    · rfl
theorem xLe_get {loc loc' : xL} (hR : xLe loc loc') {i : Nat} {v : Value} (hv : xget loc i = some v) : xget loc' i = some v := by
  unfold xget at hv
  obtain ⟨q, hq, rfl⟩ := Option.map_eq_some_iff.mp hv
  have h1 := List.find?_some hq
  have h2 := hR q (List.mem_of_find?_eq_some hq)
  rw [← h2, show q.1 = i from by simpa using h1]
theorem xget_filter {f : Nat × Value → Bool} : ∀ {l : xL} {i : Nat} {v : Value}, xget l i = some v → f (i, v) = true → (∀ q ∈ l, q.1 = i → True) → xget (l.filter f) i = some v := by
  intro l
  induction l with
  | nil => intro i v hv; cases hv
  | cons p l ih =>
    intro i v hv hf hh
    unfold xget at hv ⊢
    rw [List.find?_cons] at hv
    by_cases hp : p.1 = i
    · rw [show (p.1 == i) = true by simpa using hp] at hv
      have hv' : p.2 = v := by simpa using hv
      obtain ⟨a, b⟩ := p
      dsimp only at hp hv'
      subst hp hv'
      rw [List.filter_cons_of_pos hf, List.find?_cons]
      simp
    · rw [show (p.1 == i) = false by simpa using hp] at hv
      have k := ih (i := i) (v := v) hv hf (fun _ _ _ => trivial)
      by_cases hfp : f p = true
      · rw [List.filter_cons_of_pos hfp, List.find?_cons, show (p.1 == i) = false by simpa using hp]
        exact k
      · rw [List.filter_cons_of_neg hfp]
        exact k
theorem xLe_s1 {loc loc' : xL} (hR : xLe loc loc') (i : Nat) (v : Value) : xLe (xs1 loc i v) (xs1 loc' i v) := by
  intro q hq
  unfold xs1 at hq ⊢
  rcases List.mem_cons.mp hq with rfl | hq
  · unfold xget; simp
  · obtain ⟨hq, hf⟩ := List.mem_filter.mp hq
    have h1 := hR q hq
    have hne : ¬ i = q.1 := by
      intro e
      rw [e] at hf
      simp at hf
    unfold xget
    rw [List.find?_cons, show (i == q.1) = false by simpa using hne]
    exact xget_filter (f := fun q => !(q.1 == i) && !(q.1 + 1 == i && q.2.category == 2)) h1 hf (fun _ _ _ => trivial)
theorem xLe_s2 {loc loc' : xL} (hR : xLe loc loc') (i : Nat) (v : Value) : xLe (xs2 loc i v) (xs2 loc' i v) := by
  intro q hq
  unfold xs2 at hq ⊢
  rcases List.mem_cons.mp hq with rfl | hq
  · unfold xget; simp
  · obtain ⟨hq, hf⟩ := List.mem_filter.mp hq
    have h1 := hR q hq
    have hne : ¬ i = q.1 := by
      intro e
      rw [e] at hf
      simp at hf
    unfold xget
    rw [List.find?_cons, show (i == q.1) = false by simpa using hne]
    exact xget_filter (f := fun q => !(q.1 == i) && (!(q.1 == i + 1) && !(q.1 + 1 == i && q.2.category == 2))) h1 hf (fun _ _ _ => trivial)
section XWK
variable {nL : Nat} {K : List (Nat × List Value)} {Z : List Value} {st : List Value} {h : xH}
theorem xwk_ld {p : Value → Bool} {i : Nat} : xWk (fun loc => xld p loc st h i) := by
  intro loc loc' o hR hs
  dsimp only at hs ⊢
  unfold xld at hs ⊢
  split at hs
  · rename_i v hv
    rw [xLe_get hR hv]
    dsimp only
    split at hs
    · rename_i hp
      try rw [hp]
      cases hs
      exact ⟨_, rfl, _, rfl, hR⟩
    · cases hs
  · cases hs
theorem xwk_st1 {p : Value → Bool} {i : Nat} : xWk (fun loc => xst1 p nL loc st h i) := by
  intro loc loc' o hR hs
  dsimp only at hs ⊢
  unfold xst1 at hs ⊢
  split at hs
  · split at hs
    · rename_i hp
      try dsimp only
      try rw [hp]
      cases hs
      exact ⟨_, rfl, _, rfl, xLe_s1 hR _ _⟩
    · cases hs
  · cases hs
theorem xwk_st2 {p : Value → Bool} {i : Nat} : xWk (fun loc => xst2 p nL loc st h i) := by
  intro loc loc' o hR hs
  dsimp only at hs ⊢
  unfold xst2 at hs ⊢
  split at hs
  · split at hs
    · rename_i hp
      try dsimp only
      try rw [hp]
      cases hs
      exact ⟨_, rfl, _, rfl, xLe_s2 hR _ _⟩
    · cases hs
  · cases hs
theorem xwk_inc {i : Nat} {n : Int} : xWk (fun loc => xinc nL loc st h i n) := by
  intro loc loc' o hR hs
  dsimp only at hs ⊢
  unfold xinc at hs ⊢
  split at hs
  · rename_i x hx
    rw [xLe_get hR hx]
    dsimp only
    split at hs
    · rename_i hp
      try rw [hp]
      cases hs
      exact ⟨_, rfl, _, rfl, xLe_s1 hR _ _⟩
    · cases hs
  · cases hs
theorem xstep_weak (e : xE) : xWk (fun loc => xstep nL K Z e loc st h) := by
  obtain ⟨pc, i, ln, aux⟩ := e
  cases i
  case newarray t0 => cases t0 <;> first | exact xwk_na xna_newa | exact xwk_na xna_none
  all_goals first
    | exact xwk_ld
    | exact xwk_st1
    | exact xwk_st2
    | exact xwk_inc
    | exact xwk_na xna_nx
    | exact xwk_na xna_ii
    | exact xwk_na xna_iz
    | exact xwk_na xna_i1
    | exact xwk_na xna_jj
    | exact xwk_na xna_f2
    | exact xwk_na xna_cat1
    | exact xwk_na xna_dx1
    | exact xwk_na xna_jp
    | exact xwk_na xna_if1
    | exact xwk_na xna_if2
    | exact xwk_na xna_ifn
    | exact xwk_na xna_sw
    | exact xwk_na (xna_a2 fun _ _ => xna_getf)
    | exact xwk_na (xna_a2 fun _ _ => xna_putf)
    | exact xwk_na (xna_a1 fun _ => xna_gets)
    | exact xwk_na xna_ald
    | exact xwk_na xna_ast
    | exact xwk_na xna_asq
    | exact xwk_na xna_alen
    | exact xwk_na (xna_a2 fun _ _ => xna_newx)
    | exact xwk_na (xna_a1 fun _ => xna_newa)
    | exact xwk_na (xna_a2 fun _ _ => xna_ldc)
    | exact xwk_na (xna_a2 fun _ _ => xna_ldw)
    | exact xwk_na (xna_a2 fun _ _ => xna_ld2)
    | exact xwk_na (xna_a1 fun _ => xna_cast)
    | exact xwk_na xna_virt
    | exact xwk_na xna_stat
    | exact xwk_na xna_spec
    | exact xwk_na xna_ret
    | exact xwk_na xna_retv
    | (unfold xstep; dsimp only; exact xwk_na xna_ald)
    | exact xwk_na xna_none
end XWK
theorem xev_weak {call : Nat → List Value → xH → Option (xA × xH)} {nL : Nat} {K : List (Nat × List Value)} {Z : List Value} {hs : List (Nat × Nat × Nat × Nat)} {code : List xE} : ∀ (n : Nat) (cs : List xE) (loc loc' : xL) (st : List Value) (h : xH) (x : xA × xH), xLe loc loc' → xev call nL K Z hs code n cs loc st h = some x → xev call nL K Z hs code n cs loc' st h = some x := by
  intro n
  induction n with
  | zero => intro cs loc loc' st h x _ hx; cases hx
  | succ n ih =>
    intro cs loc loc' st h x hR hx
    cases cs with
    | nil => cases hx
    | cons e cs =>
      rw [xev] at hx ⊢
      cases hq : xstep nL K Z e loc st h with
      | none => rw [hq] at hx; cases hx
      | some o =>
        obtain ⟨o', h1, h2⟩ := xstep_weak e loc loc' o hR hq
        rw [hq] at hx
        rw [show xstep nL K Z e loc' st h = some o' from h1]
        rcases o with ⟨t, l, s, hh⟩ | ⟨mi, a, l, s, hh⟩ | x0
        · obtain ⟨l', rfl, hl⟩ := h2
          cases t with
          | none => exact ih _ _ _ _ _ _ hl hx
          | some t => exact ih _ _ _ _ _ _ hl hx
        · obtain ⟨l', rfl, hl⟩ := h2
          dsimp only at hx ⊢
          split at hx
          · cases hx
          · exact ih _ _ _ _ _ _ hl hx
          · split at hx
            · rename_i hm
              try rw [hm]
              try dsimp only
              split at hx
              · exact ih _ _ _ _ _ _ hl hx
              · exact hx
            · cases hx
        · cases h2
          exact hx
theorem xp_weak {K : List (Nat × List Value)} {Z : List Value} {d nL : Nat} {hs : List (Nat × Nat × Nat × Nat)} {code cs : List xE} {loc loc' : xL} {st : List Value} {h : xH} {P : xA → xH → Prop} (hR : xLe loc loc') (hb : xBp K Z d nL hs code cs loc st h P) : xBp K Z d nL hs code cs loc' st h P := by
  obtain ⟨r, h', ⟨n0, hn⟩, hp⟩ := hb
  exact ⟨r, h', ⟨n0, fun f k hf hk => xev_weak _ _ _ _ _ _ _ hR (hn f k hf hk)⟩, hp⟩
theorem xLe_nil {l : xL} : xLe [] l := fun q hq => absurd hq List.not_mem_nil
theorem xLe_cons {l l' : xL} {i : Nat} {v : Value} (h1 : xget l' i = some v) (h2 : xLe l l') : xLe ((i, v) :: l) l' := by
  intro q hq
  rcases List.mem_cons.mp hq with rfl | hq
  · exact h1
  · exact h2 q hq
end
