/-! THE ABSTRACT HEAP AND THE MACHINE'S: ad gives the address of each place -/
def xcV (ad : Nat → Nat) : Value → Value
  | .ref i => .ref (ad i)
  | v => v
def xI : Value → Int32
  | .int v => v
  | _ => 0
def xJ : Value → Int64
  | .long v => v
  | _ => 0
def xR (ad : Nat → Nat) : Value → Option Nat
  | .ref i => some (ad i)
  | _ => none
def xcA (ad : Nat → Nat) (t : Nat) (vs : List Value) : (Nat → Int32) ⊕ (Nat → Int64) ⊕ (Nat → UInt32) ⊕ (Nat → UInt64) ⊕ (Nat → Option Nat) :=
  if t = 2 then .inr (.inl fun k => xJ (vs.getD k .null)) else if t < 2 then .inl (fun k => xI (vs.getD k .null)) else .inr (.inr (.inr (.inr fun k => xR ad (vs.getD k .null))))
def xcE (ad : Nat → Nat) (tyC : Nat → ClassId) (q : Nat × List Value) : va_E := if q.1 < 50 then .inr (q.1, q.2.map (xcV ad)) else .inl (tyC (q.1 - 50), q.2.length, xcA ad (q.1 - 50) q.2)
def xcw (ad : Nat → Nat) (tyC : Nat → ClassId) (h : xH) : va_W := (h.zipIdx.filter (fun x => !(x.1.1 == 40))).map (fun x => (ad x.2, xcE ad tyC x.1))
def xlc (ad : Nat → Nat) (loc : xL) : xL := loc.map (fun q => (q.1, xcV ad q.2))
def xsz (h : xH) : Nat := (h.map (fun q => q.2.length)).sum
def xtys (tyC : Nat → ClassId) : List (ClassId × FieldType) := (List.range 7).map (fun t => (tyC t, xTy t))
theorem xcV_cat (ad : Nat → Nat) (v : Value) : (xcV ad v).category = v.category := by cases v <;> rfl
def xP (D : va_G) (tyC : Nat → ClassId) (ad : Nat → Nat) (h : xH) (H : Heap) : Prop := ∀ (i : Nat) (e : Nat × List Value), h[i]? = some e → e.1 ≠ 40 → va_at D vwCl (ad i, xcE ad tyC e) H
def xinj (ad : Nat → Nat) (h : xH) : Prop := ∀ (i j : Nat) (e f : Nat × List Value), h[i]? = some e → h[j]? = some f → e.1 ≠ 40 → f.1 ≠ 40 → ad i = ad j → i = j
def xbd (b0 : Nat) (ad : Nat → Nat) (h : xH) : Prop := ∀ (i : Nat) (e : Nat × List Value), h[i]? = some e → e.1 ≠ 40 → b0 ≤ ad i
/-- the abstract heap h stands in H -/
def xRel (b0 : Nat) (D : va_G) (tyC : Nat → ClassId) (ad : Nat → Nat) (h : xH) (s : State) (H : Heap) (locs : List Loc) : Prop :=
  xP D tyC ad h H ∧ xinj ad h ∧ xbd b0 ad h ∧ va_S (fun q => b0 ≤ q) s.heap H locs
theorem xcw_mem {ad : Nat → Nat} {tyC : Nat → ClassId} {h : xH} {q : Nat × va_E} : q ∈ xcw ad tyC h ↔ ∃ (i : Nat) (e : Nat × List Value), h[i]? = some e ∧ e.1 ≠ 40 ∧ q = (ad i, xcE ad tyC e) := by
  unfold xcw
  constructor
  · intro hq
    obtain ⟨x, hx, rfl⟩ := List.mem_map.mp hq
    obtain ⟨h1, h2⟩ := List.mem_filter.mp hx
    refine ⟨x.2, x.1, ?_, ?_, rfl⟩
    · exact List.mem_zipIdx_iff_getElem?.mp h1
    · simpa using h2
  · rintro ⟨i, e, h1, h2, rfl⟩
    refine List.mem_map.mpr ⟨(e, i), List.mem_filter.mpr ⟨List.mem_zipIdx_iff_getElem?.mpr h1, ?_⟩, rfl⟩
    simpa using h2
theorem xcw_at {ad : Nat → Nat} {tyC : Nat → ClassId} {h : xH} {i : Nat} {e : Nat × List Value} (h1 : h[i]? = some e) (h2 : e.1 ≠ 40) : ∃ k : Nat, (xcw ad tyC h)[k]? = some (ad i, xcE ad tyC e) :=
  List.mem_iff_getElem?.mp (xcw_mem.mpr ⟨i, e, h1, h2, rfl⟩)
theorem xcw_P {D : va_G} {tyC : Nat → ClassId} {ad : Nat → Nat} {h : xH} {H : Heap} (hP : xP D tyC ad h H) : va_P D vwCl (xcw ad tyC h) H := by
  intro k q hq
  obtain ⟨i, e, h1, h2, rfl⟩ := xcw_mem.mp (List.mem_of_getElem? hq)
  exact hP i e h1 h2
theorem xcw_D {b0 : Nat} {tyC : Nat → ClassId} {ad : Nat → Nat} {h : xH} (hI : xinj ad h) (hb : xbd b0 ad h) : va_D (fun q => b0 ≤ q) (xcw ad tyC h) := by
  constructor
  · intro i j p q hi hj hpq
    unfold xcw at hi hj
    rw [List.getElem?_map] at hi hj
    obtain ⟨x, hx, rfl⟩ := Option.map_eq_some_iff.mp hi
    obtain ⟨y, hy, rfl⟩ := Option.map_eq_some_iff.mp hj
    obtain ⟨m1, n1⟩ := List.mem_filter.mp (List.mem_of_getElem? hx)
    obtain ⟨m2, n2⟩ := List.mem_filter.mp (List.mem_of_getElem? hy)
    have e : x.2 = y.2 := hI x.2 y.2 x.1 y.1 (List.mem_zipIdx_iff_getElem?.mp m1) (List.mem_zipIdx_iff_getElem?.mp m2) (by simpa using n1) (by simpa using n2) hpq
    have nd : ((h.zipIdx.filter (fun x => !(x.1.1 == 40))).map (fun x => x.2)).Nodup := by
      refine List.Nodup.sublist (List.Sublist.map _ List.filter_sublist) ?_
      have := List.zipIdx_map_snd 0 h
      rw [show (fun x : (Nat × List Value) × Nat => x.2) = Prod.snd from rfl, this]
      exact List.nodup_range'
    refine (List.getElem?_inj (i := i) (j := j) ?_ nd).mp ?_
    · rw [List.length_map]
      exact (List.getElem?_eq_some_iff.mp hx).1
    · rw [List.getElem?_map, List.getElem?_map, hx, hy]
      show some x.2 = some y.2
      rw [e]
  · intro k q hq
    obtain ⟨i, e, h1, h2, rfl⟩ := xcw_mem.mp (List.mem_of_getElem? hq)
    exact hb i e h1 h2
theorem xset {D : va_G} {tyC : Nat → ClassId} {ad : Nat → Nat} {h : xH} {H1 : Heap} {i k : Nat} {e e' : Nat × List Value} (hI : xinj ad h) (hi : h[i]? = some e) (he : e.1 ≠ 40) (hk : (xcw ad tyC h)[k]? = some (ad i, xcE ad tyC e)) (hP' : va_P D vwCl ((xcw ad tyC h).set k (ad i, xcE ad tyC e')) H1) : xP D tyC ad (h.set i e') H1 := by
  intro j f hj hf
  have hkl : k < (xcw ad tyC h).length := (List.getElem?_eq_some_iff.mp hk).1
  by_cases hij : i = j
  · subst hij
    rw [List.getElem?_set_self (List.getElem?_eq_some_iff.mp hi).1] at hj
    cases hj
    exact hP' k _ (List.getElem?_set_self hkl)
  · rw [List.getElem?_set_ne hij] at hj
    obtain ⟨k2, hk2⟩ := xcw_at (ad := ad) (tyC := tyC) hj hf
    have hne : k ≠ k2 := by
      intro hkk
      subst hkk
      have := Option.some.inj (hk.symm.trans hk2)
      exact hij (hI i j e f hi hj he hf (congrArg Prod.fst this))
    exact hP' k2 _ (by rw [List.getElem?_set_ne hne]; exact hk2)
theorem xinj_set {ad : Nat → Nat} {h : xH} {i : Nat} {e e' : Nat × List Value} (hI : xinj ad h) (hi : h[i]? = some e) (he : e.1 ≠ 40) : xinj ad (h.set i e') := by
  have key : ∀ (j : Nat) (f : Nat × List Value), (h.set i e')[j]? = some f → f.1 ≠ 40 → ∃ g, h[j]? = some g ∧ g.1 ≠ 40 := by
    intro j f hj hf
    by_cases hij : i = j
    · subst hij
      exact ⟨e, hi, he⟩
    · rw [List.getElem?_set_ne hij] at hj
      exact ⟨f, hj, hf⟩
  intro j k f g hj hk hf hg hjk
  obtain ⟨f', a1, a2⟩ := key j f hj hf
  obtain ⟨g', b1, b2⟩ := key k g hk hg
  exact hI j k f' g' a1 b1 a2 b2 hjk
/-! what refers only to places that are there -/
def xsc (n : Nat) (v : Value) : Prop := match v with
  | .ref i => i < n ∨ 1000000 ≤ i
  | _ => True
def xscL (n : Nat) (vs : List Value) : Prop := ∀ v ∈ vs, xsc n v
def xscH (h : xH) : Prop := ∀ e ∈ h, xscL h.length e.2
theorem xsc_mono {n m : Nat} (hnm : n ≤ m) {v : Value} (h : xsc n v) : xsc m v := by
  cases v <;> first | trivial | exact h.elim (fun q => Or.inl (Nat.lt_of_lt_of_le q hnm)) Or.inr
theorem xcV_ext {ad ad' : Nat → Nat} {n : Nat} (ha : ∀ i, (i < n ∨ 1000000 ≤ i) → ad' i = ad i) {v : Value} (h : xsc n v) : xcV ad' v = xcV ad v := by
  cases v <;> first | rfl | exact congrArg Value.ref (ha _ h)
theorem xcVs_ext {ad ad' : Nat → Nat} {n : Nat} (ha : ∀ i, (i < n ∨ 1000000 ≤ i) → ad' i = ad i) {vs : List Value} (h : xscL n vs) : vs.map (xcV ad') = vs.map (xcV ad) :=
  List.map_congr_left fun v hv => xcV_ext ha (h v hv)
theorem xR_ext {ad ad' : Nat → Nat} {n : Nat} (ha : ∀ i, (i < n ∨ 1000000 ≤ i) → ad' i = ad i) {v : Value} (h : xsc n v) : xR ad' v = xR ad v := by
  cases v <;> first | rfl | exact congrArg some (ha _ h)
theorem xcE_ext {ad ad' : Nat → Nat} {tyC : Nat → ClassId} {n : Nat} (ha : ∀ i, (i < n ∨ 1000000 ≤ i) → ad' i = ad i) {q : Nat × List Value} (h : xscL n q.2) : xcE ad' tyC q = xcE ad tyC q := by
  have key : ∀ k, xR ad' (q.2.getD k .null) = xR ad (q.2.getD k .null) := by
    intro k
    by_cases hk : k < q.2.length
    · refine xR_ext ha (h _ ?_)
      rw [List.getD_eq_getElem?_getD, List.getElem?_eq_getElem hk]
      exact List.getElem_mem hk
    · rw [List.getD_eq_getElem?_getD, List.getElem?_eq_none (Nat.not_lt.mp hk)]
      rfl
  unfold xcE xcA
  rw [xcVs_ext ha h]
  simp only [key]
/-- a new cell -/
theorem xpush {b0 : Nat} {D : va_G} {tyC : Nat → ClassId} {ad ad' : Nat → Nat} {h : xH} {s : State} {H H1 : Heap} {locs locs1 : List Loc} {q : Nat} {e : Nat × List Value} (hR : xRel b0 D tyC ad h s H locs) (hsc : xscH h) (hes : xscL h.length e.2) (he : e.1 ≠ 40) (ha : ∀ i, (i < h.length ∨ 1000000 ≤ i) → ad' i = ad i) (hq : ad' h.length = q)
    (hP' : va_P D vwCl (xcw ad tyC h ++ [(q, xcE ad tyC e)]) H1) (hD' : va_D (fun q => b0 ≤ q) (xcw ad tyC h ++ [(q, xcE ad tyC e)])) (hS' : va_S (fun q => b0 ≤ q) s.heap H1 locs1) : xRel b0 D tyC ad' (h ++ [e]) s H1 locs1 := by
  obtain ⟨hP, hI, hb, hS⟩ := hR
  have hlast : (xcw ad tyC h ++ [(q, xcE ad tyC e)])[(xcw ad tyC h).length]? = some (q, xcE ad tyC e) := by simp
  have hsplit : ∀ (j : Nat) (f : Nat × List Value), (h ++ [e])[j]? = some f → (j < h.length ∧ h[j]? = some f) ∨ (j = h.length ∧ f = e) := by
    intro j f hj
    by_cases hjl : j < h.length
    · rw [List.getElem?_append_left hjl] at hj
      exact Or.inl ⟨hjl, hj⟩
    · rw [List.getElem?_append_right (Nat.not_lt.mp hjl)] at hj
      have hz : j - h.length < 1 := (List.getElem?_eq_some_iff.mp hj).1
      have hz0 : j - h.length = 0 := by omega
      rw [hz0] at hj
      exact Or.inr ⟨by omega, (Option.some.inj hj).symm⟩
  have hnew : ∀ (j : Nat) (f : Nat × List Value), h[j]? = some f → f.1 ≠ 40 → ad j ≠ q := by
    intro j f hj hf hjq
    obtain ⟨k, hk⟩ := xcw_at (ad := ad) (tyC := tyC) hj hf
    have hkl : k < (xcw ad tyC h).length := (List.getElem?_eq_some_iff.mp hk).1
    have := hD'.1 k (xcw ad tyC h).length _ _ (by rw [List.getElem?_append_left hkl]; exact hk) hlast hjq
    omega
  refine ⟨fun j f hj hf => ?_, fun i j f g hi hj hf hg hij => ?_, fun i f hi hf => ?_, hS'⟩
  · rcases hsplit j f hj with ⟨hl, hj⟩ | ⟨rfl, rfl⟩
    · obtain ⟨k, hk⟩ := xcw_at (ad := ad) (tyC := tyC) hj hf
      have hkl : k < (xcw ad tyC h).length := (List.getElem?_eq_some_iff.mp hk).1
      rw [ha j (Or.inl hl), xcE_ext ha (hsc f (List.mem_of_getElem? hj))]
      exact hP' k _ (by rw [List.getElem?_append_left hkl]; exact hk)
    · rw [hq, xcE_ext ha hes]
      exact hP' _ _ hlast
  · rcases hsplit i f hi with ⟨hl, hi2⟩ | ⟨e1, e2⟩
    · rcases hsplit j g hj with ⟨hl2, hj2⟩ | ⟨e3, e4⟩
      · rw [ha i (Or.inl hl), ha j (Or.inl hl2)] at hij
        exact hI i j f g hi2 hj2 hf hg hij
      · rw [ha i (Or.inl hl), e3, hq] at hij
        exact absurd hij (hnew i f hi2 hf)
    · rcases hsplit j g hj with ⟨hl2, hj2⟩ | ⟨e3, e4⟩
      · rw [ha j (Or.inl hl2), e1, hq] at hij
        exact absurd hij.symm (hnew j g hj2 hg)
      · rw [e1, e3]
  · rcases hsplit i f hi with ⟨hl, hi2⟩ | ⟨e1, e2⟩
    · rw [ha i (Or.inl hl)]
      exact hb i f hi2 hf
    · rw [e1, hq]
      exact hD'.2 _ _ hlast
theorem xbd_set {b0 : Nat} {ad : Nat → Nat} {h : xH} {i : Nat} {e e' : Nat × List Value} (hb : xbd b0 ad h) (hi : h[i]? = some e) (he : e.1 ≠ 40) : xbd b0 ad (h.set i e') := by
  intro j f hj hf
  by_cases hij : i = j
  · subst hij
    exact hb i e hi he
  · rw [List.getElem?_set_ne hij] at hj
    exact hb j f hj hf
theorem xsz_push (h : xH) (e : Nat × List Value) : xsz (h ++ [e]) = xsz h + e.2.length := by
  simp [xsz]
theorem xsz_set {h : xH} {i c : Nat} {vs : List Value} (hi : h[i]? = some (c, vs)) {ws : List Value} (hw : ws.length = vs.length) : xsz (h.set i (c, ws)) = xsz h := by
  induction h generalizing i with
  | nil => simp at hi
  | cons a t ih =>
    cases i with
    | zero =>
      simp only [List.getElem?_cons_zero, Option.some.injEq] at hi
      subst hi
      simp [xsz, hw]
    | succ j =>
      simp only [List.getElem?_cons_succ] at hi
      have := ih hi
      simp only [xsz, List.set_cons_succ, List.map_cons, List.sum_cons] at this ⊢
      omega
