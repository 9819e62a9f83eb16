/-! CHANGES BY THE LAW'S WRAPPERS, with their exact answers and memories -/
section XEX
variable {K : List (Nat × List Value)} {Z : List Value} {pre g : xH} {B L : Nat} {N : Nat → Nat → Int32} {C : Nat → Nat} {V H : Nat}
theorem xConN_nn {M : Nat → Nat → Int32} {a v : Int32} (ha : 0 ≤ a) : xConN M a v = xNconf M ∧ xConG g a = g := by
  have n1 : ¬ a = -11 := fun e => by rw [e] at ha; exact absurd ha (by decide)
  have n2 : ¬ a = -12 := fun e => by rw [e] at ha; exact absurd ha (by decide)
  have n3 : ¬ a < 0 := Int32.not_lt.mpr ha
  refine ⟨?_, ?_⟩
  · unfold xConN; rw [if_neg n1, if_neg n2, if_neg n3]
  · unfold xConG; rw [if_neg n1, if_neg n2, if_neg n3]
theorem xAns_nn {c0 c1 c2 a : Int32} (ha : 0 ≤ a) : xAns c0 c1 c2 a = a := by
  have n1 : ¬ a = -11 := fun e => by rw [e] at ha; exact absurd ha (by decide)
  have n2 : ¬ a = -12 := fun e => by rw [e] at ha; exact absurd ha (by decide)
  have n3 : ¬ a < 0 := Int32.not_lt.mpr ha
  unfold xAns
  rw [if_neg n1, if_neg n2, if_neg n3]
theorem xe_addReach (hB : xBok pre B) (h : xOb N V H) (hV : V ≤ 1000000) (s p c : Int32) (hg : B + 253 + g.length < 1000000) : xRn K Z 8 198 [.ref (B + 0), .int s, .int p, .int c] (xHn pre B N C L g) (.ok (some (.int (xAns (-1) (-1001) (-1002) (xfAppend (xNn N) 1 s p c).1)))) (xHn pre B (xConN (xfAppend (xNn N) 1 s p c).2 (xfAppend (xNn N) 1 s p c).1 0) C L (xConG g (xfAppend (xNn N) 1 s p c).1)) := by
  have ho := xo_addReach_ (K := K) (Z := Z) (L := L) (C := C) (g := g) hB h.2.2.1 (h.2.1 1 (by decide)) s p c hg
  have hn := xNn_ob h
  have hcs := xgc_append (w := 1) (s := s) (p := p) (c := c) hn.1
  rcases xConR_cases (B + 253 + g.length) (xfAppend (xNn N) 1 s p c).1 with ⟨e, e2⟩ | ⟨e11, e, e2⟩ | ⟨e11, e12, e, e2⟩ | ⟨e11, e12, e, e2⟩
  · have hc := xcg_of hcs (by rw [e]; decide)
    rw [e] at hc
    exact absurd hc (by decide)
  · rw [e2] at ho
    refine xw_addReach hB ho ?_
    unfold xAns
    rw [if_neg e11, if_pos e]
    exact Or.inr (Or.inl ⟨_, rfl, rfl⟩)
  · rw [e2] at ho
    refine xw_addReach hB ho ?_
    unfold xAns
    rw [if_neg e11, if_neg e12, if_pos e]
    exact Or.inr (Or.inr ⟨_, rfl, rfl⟩)
  · rw [e2] at ho
    refine xw_addReach hB ho (Or.inl ?_)
    unfold xAns
    rw [if_neg e11, if_neg e12, if_neg e]
theorem xe_removeLast (hB : xBok pre B) (h : xOb N V H) (hV : V ≤ 1000000) (hg : B + 253 + g.length < 1000000) : xRn K Z 8 199 [.ref (B + 0)] (xHn pre B N C L g) (.ok (some (.int (xAns (-1) (-1) (-1001) (xfCut (xNn N) 1).1)))) (xHn pre B (xConN (xfCut (xNn N) 1).2 (xfCut (xNn N) 1).1 0) C L (xConG g (xfCut (xNn N) 1).1)) := by
  have ho := xo_removeLastReach_ (K := K) (Z := Z) (L := L) (C := C) (g := g) hB h.2.2.1 (h.2.1 1 (by decide))  hg
  have hn := xNn_ob h
  have hcs := xgc_cut (w := 1)  hn.1 hV
  rcases xConR_cases (B + 253 + g.length) (xfCut (xNn N) 1).1 with ⟨e, e2⟩ | ⟨e11, e, e2⟩ | ⟨e11, e12, e, e2⟩ | ⟨e11, e12, e, e2⟩
  · have hc := xcg_of hcs (by rw [e]; decide)
    rw [e] at hc
    exact absurd hc (by decide)
  · have hc := xcg_of hcs (by rw [e]; decide)
    rw [e] at hc
    exact absurd hc (by decide)
  · rw [e2] at ho
    refine xw_removeLast hB ho ?_
    unfold xAns
    rw [if_neg e11, if_neg e12, if_pos e]
    exact Or.inr ⟨_, rfl, rfl⟩
  · rw [e2] at ho
    refine xw_removeLast hB ho (Or.inl ?_)
    unfold xAns
    rw [if_neg e11, if_neg e12, if_neg e]
theorem xe_setLateral (hB : xBok pre B) (h : xOb N V H) (hV : V ≤ 1000000) (x f : Int32) (hg : B + 253 + g.length < 1000000) : xRn K Z 8 200 [.ref (B + 0), .int x, .int f] (xHn pre B N C L g) (.ok (some (.int (xAns (-1001) (-1002) (-1003) (xfLat (xNn N) 1 x f).1)))) (xHn pre B (xConN (xfLat (xNn N) 1 x f).2 (xfLat (xNn N) 1 x f).1 f) C L (xConG g (xfLat (xNn N) 1 x f).1)) := by
  have ho := xo_setLateral_ (K := K) (Z := Z) (L := L) (C := C) (g := g) hB h.2.2.1 (h.2.1 1 (by decide)) x f hg
  have hn := xNn_ob h
  rcases xConR_cases (B + 253 + g.length) (xfLat (xNn N) 1 x f).1 with ⟨e, e2⟩ | ⟨e11, e, e2⟩ | ⟨e11, e12, e, e2⟩ | ⟨e11, e12, e, e2⟩
  · rw [e2] at ho
    refine xw_setLateral hB ho ?_
    unfold xAns
    rw [if_pos e]
    exact Or.inr (Or.inl ⟨_, rfl, rfl⟩)
  · rw [e2] at ho
    refine xw_setLateral hB ho ?_
    unfold xAns
    rw [if_neg e11, if_pos e]
    exact Or.inr (Or.inr (Or.inl ⟨_, rfl, rfl⟩))
  · rw [e2] at ho
    refine xw_setLateral hB ho ?_
    unfold xAns
    rw [if_neg e11, if_neg e12, if_pos e]
    exact Or.inr (Or.inr (Or.inr ⟨_, rfl, rfl⟩))
  · rw [e2] at ho
    refine xw_setLateral hB ho (Or.inl ?_)
    unfold xAns
    rw [if_neg e11, if_neg e12, if_neg e]
theorem xe_fill (hB : xBok pre B) (h : xOb N V H) (hV : V ≤ 1000000) (x f : Int32) (hg : B + 253 + g.length < 1000000) : xRn K Z 8 201 [.ref (B + 0), .int x, .int f] (xHn pre B N C L g) (.ok (some (.int (xAns (-1001) (-1002) (-1) (xfPour (xNn N) 1 x f).1)))) (xHn pre B (xConN (xfPour (xNn N) 1 x f).2 (xfPour (xNn N) 1 x f).1 0) C L (xConG g (xfPour (xNn N) 1 x f).1)) := by
  have ho := xo_fill_ (K := K) (Z := Z) (L := L) (C := C) (g := g) hB h.2.2.1 (h.2.1 1 (by decide)) x f hg
  have hn := xNn_ob h
  have hcs := xgc_pour (w := 1) (x := x) (f := f) hn.1 hV
  rcases xConR_cases (B + 253 + g.length) (xfPour (xNn N) 1 x f).1 with ⟨e, e2⟩ | ⟨e11, e, e2⟩ | ⟨e11, e12, e, e2⟩ | ⟨e11, e12, e, e2⟩
  · rw [e2] at ho
    refine xw_fill hB ho ?_
    unfold xAns
    rw [if_pos e]
    exact Or.inr (Or.inl ⟨_, rfl, rfl⟩)
  · rw [e2] at ho
    refine xw_fill hB ho ?_
    unfold xAns
    rw [if_neg e11, if_pos e]
    exact Or.inr (Or.inr ⟨_, rfl, rfl⟩)
  · have hc := xcg_of hcs e
    simp only [List.mem_cons, List.not_mem_nil, or_false] at hc
    rcases hc with q | q
    · exact absurd q e11
    · exact absurd q e12
  · rw [e2] at ho
    refine xw_fill hB ho (Or.inl ?_)
    unfold xAns
    rw [if_neg e11, if_neg e12, if_neg e]
theorem xe_setStages (hB : xBok pre B) (h : xOb N V H) (hV : V ≤ 1000000) (x y f : Int32) (hg : B + 253 + g.length < 1000000) : xRn K Z 8 206 [.ref (B + 0), .int x, .int y, .int f] (xHn pre B N C L g) (.ok (some (.int (xAns (-1001) (-1002) (-1) (xfStages (xNn N) 1 x y f).1)))) (xHn pre B (xConN (xfStages (xNn N) 1 x y f).2 (xfStages (xNn N) 1 x y f).1 0) C L (xConG g (xfStages (xNn N) 1 x y f).1)) := by
  have ho := xo_setStages_ (K := K) (Z := Z) (L := L) (C := C) (g := g) hB h.2.2.1 (h.2.1 1 (by decide)) x y f hg
  have hn := xNn_ob h
  have hcs := xgc_stages (w := 1) (x := x) (y := y) (f := f) hn.1
  rcases xConR_cases (B + 253 + g.length) (xfStages (xNn N) 1 x y f).1 with ⟨e, e2⟩ | ⟨e11, e, e2⟩ | ⟨e11, e12, e, e2⟩ | ⟨e11, e12, e, e2⟩
  · rw [e2] at ho
    refine xw_setStages hB ho ?_
    unfold xAns
    rw [if_pos e]
    exact Or.inr (Or.inl ⟨_, rfl, rfl⟩)
  · rw [e2] at ho
    refine xw_setStages hB ho ?_
    unfold xAns
    rw [if_neg e11, if_pos e]
    exact Or.inr (Or.inr ⟨_, rfl, rfl⟩)
  · have hc := xcg_of hcs e
    simp only [List.mem_cons, List.not_mem_nil, or_false] at hc
    rcases hc with q | q
    · exact absurd q e11
    · exact absurd q e12
  · rw [e2] at ho
    refine xw_setStages hB ho (Or.inl ?_)
    unfold xAns
    rw [if_neg e11, if_neg e12, if_neg e]
theorem xe_setGate (hB : xBok pre B) (h : xOb N V H) (hV : V ≤ 1000000) (x f : Int32) (hg : B + 253 + g.length < 1000000) : xRn K Z 8 207 [.ref (B + 0), .int x, .int f] (xHn pre B N C L g) (.ok (some (.int (xAns (-1001) (-1002) (-1003) (xfSet (xNn N) 1 x f).1)))) (xHn pre B (xConN (xfSet (xNn N) 1 x f).2 (xfSet (xNn N) 1 x f).1 f) C L (xConG g (xfSet (xNn N) 1 x f).1)) := by
  have ho := xo_setGate_ (K := K) (Z := Z) (L := L) (C := C) (g := g) hB h.2.2.1 (h.2.1 1 (by decide)) x f hg
  have hn := xNn_ob h
  rcases xConR_cases (B + 253 + g.length) (xfSet (xNn N) 1 x f).1 with ⟨e, e2⟩ | ⟨e11, e, e2⟩ | ⟨e11, e12, e, e2⟩ | ⟨e11, e12, e, e2⟩
  · rw [e2] at ho
    refine xw_setGate hB ho ?_
    unfold xAns
    rw [if_pos e]
    exact Or.inr (Or.inl ⟨_, rfl, rfl⟩)
  · rw [e2] at ho
    refine xw_setGate hB ho ?_
    unfold xAns
    rw [if_neg e11, if_pos e]
    exact Or.inr (Or.inr (Or.inl ⟨_, rfl, rfl⟩))
  · rw [e2] at ho
    refine xw_setGate hB ho ?_
    unfold xAns
    rw [if_neg e11, if_neg e12, if_pos e]
    exact Or.inr (Or.inr (Or.inr ⟨_, rfl, rfl⟩))
  · rw [e2] at ho
    refine xw_setGate hB ho (Or.inl ?_)
    unfold xAns
    rw [if_neg e11, if_neg e12, if_neg e]
theorem xe_setRule (hB : xBok pre B) (h : xOb N V H) (hV : V ≤ 1000000) (x f : Int32) (hg : B + 253 + g.length < 1000000) : xRn K Z 8 208 [.ref (B + 0), .int x, .int f] (xHn pre B N C L g) (.ok (some (.int (xAns (-1001) (-1002) (-1003) (xfRule (xNn N) 1 x f).1)))) (xHn pre B (xConN (xfRule (xNn N) 1 x f).2 (xfRule (xNn N) 1 x f).1 f) C L (xConG g (xfRule (xNn N) 1 x f).1)) := by
  have ho := xo_setRule_ (K := K) (Z := Z) (L := L) (C := C) (g := g) hB h.2.2.1 (h.2.1 1 (by decide)) x f hg
  have hn := xNn_ob h
  rcases xConR_cases (B + 253 + g.length) (xfRule (xNn N) 1 x f).1 with ⟨e, e2⟩ | ⟨e11, e, e2⟩ | ⟨e11, e12, e, e2⟩ | ⟨e11, e12, e, e2⟩
  · rw [e2] at ho
    refine xw_setRule hB ho ?_
    unfold xAns
    rw [if_pos e]
    exact Or.inr (Or.inl ⟨_, rfl, rfl⟩)
  · rw [e2] at ho
    refine xw_setRule hB ho ?_
    unfold xAns
    rw [if_neg e11, if_pos e]
    exact Or.inr (Or.inr (Or.inl ⟨_, rfl, rfl⟩))
  · rw [e2] at ho
    refine xw_setRule hB ho ?_
    unfold xAns
    rw [if_neg e11, if_neg e12, if_pos e]
    exact Or.inr (Or.inr (Or.inr ⟨_, rfl, rfl⟩))
  · rw [e2] at ho
    refine xw_setRule hB ho (Or.inl ?_)
    unfold xAns
    rw [if_neg e11, if_neg e12, if_neg e]
theorem xe_addPulse (hB : xBok pre B) (h : xOb N V H) (hV : V ≤ 1000000) (s p c : Int32) (hg : B + 253 + g.length < 1000000) : xRn K Z 8 216 [.ref (B + 0), .int s, .int p, .int c] (xHn pre B N C L g) (.ok (some (.int (xAns (-1) (-1001) (-1002) (xfPulse (xNn N) 1 s p c).1)))) (xHn pre B (xConN (xfPulse (xNn N) 1 s p c).2 (xfPulse (xNn N) 1 s p c).1 0) C L (xConG g (xfPulse (xNn N) 1 s p c).1)) := by
  have ho := xo_addPulse_ (K := K) (Z := Z) (L := L) (C := C) (g := g) hB h.2.2.1 (h.2.1 1 (by decide)) s p c hg
  have hn := xNn_ob h
  have hcs := xgc_pulse (w := 1) (s := s) (p := p) (c := c) hn.1
  rcases xConR_cases (B + 253 + g.length) (xfPulse (xNn N) 1 s p c).1 with ⟨e, e2⟩ | ⟨e11, e, e2⟩ | ⟨e11, e12, e, e2⟩ | ⟨e11, e12, e, e2⟩
  · have hc := xcg_of hcs (by rw [e]; decide)
    rw [e] at hc
    exact absurd hc (by decide)
  · rw [e2] at ho
    refine xw_addPulse hB ho ?_
    unfold xAns
    rw [if_neg e11, if_pos e]
    exact Or.inr (Or.inl ⟨_, rfl, rfl⟩)
  · rw [e2] at ho
    refine xw_addPulse hB ho ?_
    unfold xAns
    rw [if_neg e11, if_neg e12, if_pos e]
    exact Or.inr (Or.inr ⟨_, rfl, rfl⟩)
  · rw [e2] at ho
    refine xw_addPulse hB ho (Or.inl ?_)
    unfold xAns
    rw [if_neg e11, if_neg e12, if_neg e]
theorem xe_pass (hB : xBok pre B) (h : xOb N V H) (hV : V ≤ 1000000) (x : Int32) (hg : B + 253 + g.length < 1000000) : xRn K Z 8 217 [.ref (B + 0), .int x] (xHn pre B N C L g) (.ok (some (.int (xAns (-1) (-1001) (-1002) (xfLet (xNn N) 1 x).1)))) (xHn pre B (xConN (xfLet (xNn N) 1 x).2 (xfLet (xNn N) 1 x).1 0) C L (xConG g (xfLet (xNn N) 1 x).1)) := by
  have ho := xo_pass_ (K := K) (Z := Z) (L := L) (C := C) (g := g) hB h.2.2.1 (h.2.1 1 (by decide)) x hg
  have hn := xNn_ob h
  have hcs := xgc_let (w := 1) (x := x) hn.1 hV
  rcases xConR_cases (B + 253 + g.length) (xfLet (xNn N) 1 x).1 with ⟨e, e2⟩ | ⟨e11, e, e2⟩ | ⟨e11, e12, e, e2⟩ | ⟨e11, e12, e, e2⟩
  · have hc := xcg_of hcs (by rw [e]; decide)
    rw [e] at hc
    exact absurd hc (by decide)
  · rw [e2] at ho
    refine xw_pass hB ho ?_
    unfold xAns
    rw [if_neg e11, if_pos e]
    exact Or.inr (Or.inl ⟨_, rfl, rfl⟩)
  · rw [e2] at ho
    refine xw_pass hB ho ?_
    unfold xAns
    rw [if_neg e11, if_neg e12, if_pos e]
    exact Or.inr (Or.inr ⟨_, rfl, rfl⟩)
  · rw [e2] at ho
    refine xw_pass hB ho (Or.inl ?_)
    unfold xAns
    rw [if_neg e11, if_neg e12, if_neg e]
end XEX
