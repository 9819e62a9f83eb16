/-! A METHOD'S CONTRACT, READ OFF ITS ABSTRACT RUN; what a call needs and brings -/
section XENV
variable {xs : List Int32} {z : Value} {b0 : Nat} {D : va_G} {tyC : Nat → ClassId} {ad ad' : Nat → Nat} {s U : State} {H : Heap}
theorem xcK_ext (ha : ∀ i, 1000000 ≤ i → ad' i = ad i) {v : Value} (h : xsc 0 v) : xcV ad' v = xcV ad v := by
  cases v <;> first | rfl | exact congrArg Value.ref (ha _ (h.elim (fun h => absurd h (Nat.not_lt_zero _)) id))
theorem xcon_K (xs : List Int32) (z : Value) (hz : xsc 0 z) : xcon (xK xs) (xZ z) := by
  constructor
  · intro e he v hv
    have h1 : (xK xs).tail.all (fun e => e.2.all (fun v => match v with
      | .ref i => decide (1000000 ≤ i)
      | _ => true)) = true := by
      have h0 : (xK []).tail.all (fun e => e.2.all (fun v => match v with
        | .ref i => decide (1000000 ≤ i)
        | _ => true)) = true := by decide +kernel
      exact h0
    rcases List.mem_cons.mp (show e ∈ (58, xs.map Value.int) :: (xK xs).tail from he) with rfl | he
    · obtain ⟨x, -, rfl⟩ := List.mem_map.mp hv
      trivial
    · have h2 := List.all_eq_true.mp (List.all_eq_true.mp h1 e he) v hv
      cases v <;> first | trivial | exact Or.inr (of_decide_eq_true h2)
  · intro v hv
    have h1 : v = z ∨ v ∈ xZ .null := by
      simp only [xZ, List.mem_cons, List.not_mem_nil, or_false] at hv ⊢
      rcases hv with h | h | h | h | h | h | h | h | h | h <;> simp [h]
    rcases h1 with rfl | h1
    · exact hz
    · have h2 : (xZ .null).all (fun v => match v with
        | .ref i => decide (1000000 ≤ i)
        | _ => true) = true := by decide +kernel
      have h2 := List.all_eq_true.mp h2 v h1
      cases v <;> first | trivial | exact Or.inr (of_decide_eq_true h2)
/-- at a callee's start -/
theorem xEnv_moved {locs : List Loc} (hE : xEnv xs z b0 D tyC ad s) (hS : va_S (fun q => b0 ≤ q) s.heap H locs) (hU : U.heap = H) (hW : s.WarmedH U.vm) : xEnv xs z b0 D tyC ad U := by
  obtain ⟨e1, e2, e3, e4, e5, e6, e7, e8, e9, e10⟩ := hE
  have hvm := hW.alike
  have kq : ∀ a : Nat, a < s.heap.size → ¬ (fun q => b0 ≤ q) a → U.heap[a]? = s.heap[a]? := fun a h1 h2 => by rw [hU]; exact hS.2.1 a h1 h2
  refine ⟨fun w hw hg => xgd_warm hW hg (e1 w hw hg), va_K.moved hvm e2, fun j C n d v h1 h2 => va_Z.moved hvm ((e3 j C n d v h1 h2).kept kq), fun i k vs hi => ?_, fun j own i tx h => vk_R.warm hW (e5 j own i tx h), ⟨vx_Zq.moved hvm (e6.1.kept kq), vx_Zq.moved hvm (e6.2.kept kq)⟩, fun t C h1 h2 h3 => va_AO.moved hvm (e7 t C h1 h2 h3), ⟨word_at hW (Or.inr ⟨_, rfl⟩) e8.1, word_at hW (Or.inr ⟨_, rfl⟩) e8.2.1, word_at hW (Or.inr ⟨_, rfl⟩) e8.2.2⟩, fun E F h1 h2 h3 => va_Nc.moved hvm (e9 E F h1 h2 h3), ?_⟩
  · obtain ⟨c1, c2, c3⟩ := e4 i k vs hi
    exact ⟨fun j o n d v a1 a2 a3 => va_OF.moved hvm ((c1 j o n d v a1 a2 a3).kept kq), fun h => va_T.moved hvm ((c2 h).kept kq), fun E h => va_O.moved hvm ((c3 E h).kept kq)⟩
  · rw [hU]
    exact Nat.le_trans e10 hS.1
theorem xEnv_ext (hz : xsc 0 z) (ha : ∀ i, 1000000 ≤ i → ad' i = ad i) (hE : xEnv xs z b0 D tyC ad s) : xEnv xs z b0 D tyC ad' s := by
  obtain ⟨e1, e2, e3, e4, e5, e6, e7, e8, e9, e10⟩ := hE
  have hcon := xcon_K xs z hz
  refine ⟨e1, e2, fun j C n d v h1 h2 => ?_, fun i k vs hi => ?_, fun j own i tx h => ?_, e6, e7, e8, e9, e10⟩
  · rw [xcK_ext ha (hcon.2 v (List.mem_of_getElem? h2))]
    exact e3 j C n d v h1 h2
  · obtain ⟨c1, c2, c3⟩ := e4 i k vs hi
    have hsc := hcon.1 _ (List.mem_of_getElem? hi)
    have e0 : ad' (1000000 + i) = ad (1000000 + i) := ha _ (Nat.le_add_right _ _)
    refine ⟨fun j o n d v a1 a2 a3 => ?_, fun h => ?_, fun E h => ?_⟩
    · rw [e0, xcK_ext ha (hsc v (List.mem_of_getElem? a2))]
      exact c1 j o n d v a1 a2 a3
    · have c2 := c2 h
      rw [e0]
      have : (fun j => xcV ad' (vs.getD j .null)) = fun j => xcV ad (vs.getD j .null) := by
        funext j
        refine xcK_ext ha ?_
        rw [List.getD_eq_getElem?_getD]
        cases hj : vs[j]? with
        | none => trivial
        | some v => exact hsc v (List.mem_of_getElem? hj)
      rw [this]
      exact c2
    · rw [e0]
      exact c3 E h
  · rw [ha _ (by omega)]
    exact e5 j own i tx h
end XENV
def xrm (d mc ms : Nat) : Room := { frames := d + 8, cells := mc, slots := ms, locals := 40 * d + 200 }
/-- a method's start -/
def xPre (xs : List Int32) (z : Value) (b0 : Nat) (D : va_G) (tyC : Nat → ClassId) (ad : Nat → Nat) (h : xH) (args : List Value) : Array Value → State → Prop := va_Pc (args.map (xcV ad)) (fun U => xEnv xs z b0 D tyC ad U ∧ xRel b0 D tyC ad h U U.heap [])
def xQc (b0 : Nat) (D : va_G) (tyC : Nat → ClassId) (ad : Nat → Nat) (h : xH) (r : xA) (h' : xH) : Array Value → State → Outcome → State → Prop := fun _ st o t => ∃ v, r = .ok v ∧ ∃ ad' : Nat → Nat, (∀ i, (i < h.length ∨ 1000000 ≤ i) → ad' i = ad i) ∧ o = .returned (v.map (xcV ad')) ∧ xP D tyC ad' h' t.heap ∧ xinj ad' h' ∧ xbd b0 ad' h' ∧ va_F (fun q => b0 ≤ q) st t
/-- .. thrown: the heap without the exception's own cell -/
def xXC (b0 : Nat) (D : va_G) (tyC : Nat → ClassId) (ad : Nat → Nat) (h : xH) (r : xA) (h' : xH) : String → State → State → Prop := fun X st t => ∃ E q hb, r = .error (E, q) ∧ h' = hb ++ [(40, List.replicate 6 .null)] ∧ q = hb.length ∧ xEx[E]? = some X ∧ ∃ ad' : Nat → Nat, (∀ i, (i < h.length ∨ 1000000 ≤ i) → ad' i = ad i) ∧ xP D tyC ad' hb t.heap ∧ xinj ad' hb ∧ xbd b0 ad' hb ∧ va_F (fun q => b0 ≤ q) st t
/-- THE CONTRACT -/
def xMet (xs : List Int32) (z : Value) (l : Launch) (d : Nat) (M : xMi) (args : List Value) (h : xH) (r : xA) (h' : xH) : Prop :=
  ∀ (b0 : Nat) (D : va_G) (tyC : Nat → ClassId) (ad : Nat → Nat), vx_Met l M.1 [xcw0 M] (xrm d (h'.length - h.length) (xsz h' - xsz h)) (xPre xs z b0 D tyC ad h args) (xQc b0 D tyC ad h r h') (xXC b0 D tyC ad h r h') (h'.length - h.length) (xsz h' - xsz h) (fun q => b0 ≤ q)
theorem xPre_blind {xs : List Int32} {z : Value} {b0 : Nat} {D : va_G} {tyC : Nat → ClassId} {ad : Nat → Nat} {h : xH} {args : List Value} : FrameBlind (xPre xs z b0 D tyC ad h args) := by
  intro a U g mk hp
  obtain ⟨rfl, hE, hP, hI, hb, -⟩ := hp
  exact ⟨rfl, xEnv_moved (locs := []) hE va_S.rf rfl (State.WarmedH.refl U), hP, hI, hb, va_S.rf⟩
/-- a contract that never throws, as a plain one -/
theorem xMet_plain {l : Launch} {y : MethodName} {ws : List Cond} {rm : Room} {Pc : Array Value → State → Prop} {Qc : Array Value → State → Outcome → State → Prop} {XC : String → State → State → Prop} {mc ms : Nat} {free : Addr → Prop} (hM : vx_Met l y ws rm Pc Qc XC mc ms free) (hX : ∀ E st t, ¬ XC E st t) : Met l y ws rm Pc Qc mc ms free := by
  intro p e h1 h2 h3 s m args below h4 h5 h6 h7
  obtain ⟨n, o, a1, a2, a3, a4⟩ := hM p e h1 h2 h3 s m args below h4 h5 h6 h7
  refine ⟨n, o, a1, a2, a3, ?_⟩
  rcases a4 with a4 | ⟨q, -, E, ce, L, hx, -⟩
  · exact a4
  · exact absurd hx (hX E _ _)
section XCALL
variable {p : Program} {l : Launch} {e : Env} {R : Room} {s : State} {m : MethodId} {args : Array Value} {below : List Frame} {meth : Method} {c : Code} {H : Heap} {locs : List Loc} {cells slots : Nat} {Q : State → Prop}
variable {pc mc ms : Nat} {ls : Array Slot} {b0 : Nat} {D : va_G} {tyC : Nat → ClassId} {ad : Nat → Nat} {h h' : xH} {r : xA} {st0 rest : List Value} {a : Array Value}
/-- a plain run is a run that may throw -/
theorem xrun_of {Qa : State → Outcome → State → Prop} {XC : String → State → State → Prop} {free : Addr → Prop} {g : JFrame} (hr : va_Run p l e R s m args below meth c H locs cells slots mc ms g rest Qa free) : vx_Run p l e R s m args below meth c H locs cells slots mc ms g rest Qa XC free := by
  intro T hT X
  obtain ⟨v, st₀, t, T', L, h⟩ := hr T hT X
  exact Or.inl ⟨v, st₀, t, T', L, h⟩
/-- behind a call -/
theorem xgo_call (hr : vx_Run p l e R s m args below meth c H locs cells slots mc ms (F0 m pc ls st0) rest (xQc b0 D tyC ad h r h' a) (xXC b0 D tyC ad h r h') (fun q => b0 ≤ q)) (hS : va_S (fun q => b0 ≤ q) s.heap H locs)
    (kk : ∀ v, r = .ok v → ∀ (ad' : Nat → Nat) (H1 : Heap) (locs1 : List Loc), (∀ i, (i < h.length ∨ 1000000 ≤ i) → ad' i = ad i) → xRel b0 D tyC ad' h' s H1 locs1 → W p l e R s m args below meth c H1 locs1 (cells + mc) (slots + ms) Q (F0 m (pc + 3) ls ((v.map (xcV ad')).toList ++ rest)))
    (kx : ∀ E q hb X, r = .error (E, q) → h' = hb ++ [(40, List.replicate 6 .null)] → q = hb.length → xEx[E]? = some X → ∀ (ad' : Nat → Nat) (H1 : Heap) (locs1 : List Loc) (q9 : Addr) (ce : Cell), (∀ i, (i < h.length ∨ 1000000 ≤ i) → ad' i = ad i) → xRel b0 D tyC ad' hb s H1 locs1 → H1[q9]? = some ce → ce.vm = .none → s.vm.findClass X = some ce.cls → vx_W p l e R s m args below meth c H1 locs1 (cells + mc) (slots + ms) Q (F0 m pc ls rest) q9) : W p l e R s m args below meth c H locs cells slots Q (F0 m pc ls st0) := by
  intro T hT X
  rcases hr T hT X with ⟨v, st₀, t, T', L, h0, X', hL, e1, e2, ⟨v', rfl, ad', ha, ho, hP, hI, hb, hF⟩, st⟩ | ⟨q, st₀, t, T', L, E, ce, h0, X', hL, e1, e2, ⟨E', q', hb, rfl, rfl, rfl, hX, ad', ha, hP, hI, hbd, hF⟩, hce, hcv, hcl, st⟩
  · cases ho
    obtain ⟨k1, k2, k3⟩ := vx_keep (A0 := fun q => b0 ≤ q) (A1 := fun q => b0 ≤ q) h0 e1 hS (fun _ _ h => h) (fun _ h => h) hL hF
    obtain ⟨t2, a1, b1⟩ := kk v' rfl ad' T'.heap (locs ++ L) ha ⟨by rw [e1]; exact hP, hI, hb, k3⟩ T' rfl X'
    exact ⟨t2, st t2 a1, b1⟩
  · obtain ⟨k1, k2, k3⟩ := vx_keep (A0 := fun q => b0 ≤ q) (A1 := fun q => b0 ≤ q) h0 e1 hS (fun _ _ h => h) (fun _ h => h) hL hF
    obtain ⟨t2, a1, b1⟩ := kx E' _ hb E rfl rfl rfl hX ad' T'.heap (locs ++ L) q ce ha ⟨by rw [e1]; exact hP, hI, hbd, k3⟩ (by rw [e1]; exact hce) hcv hcl T' rfl X'
    exact ⟨t2, st.trans a1, b1⟩
end XCALL
