/-! CHANGES BY THE LAW'S WRAPPERS: setGate, setRule -/
section XWD
variable {K : List (Nat × List Value)} {Z : List Value} {pre g : xH} {B L : Nat} {N : Nat → Nat → Int32} {C : Nat → Nat} {V H : Nat}
theorem xl_setGate (hB : xBok pre B) (h : xOb N V H) (x f : Int32) (hg : B + 253 + g.length < 1000000) : xAny pre B N C L g V H V H (fun c h' => xRn K Z 8 207 [.ref (B + 0), .int x, .int f] (xHn pre B N C L g) (.ok (some (.int c))) h') := by
  have ho := xo_setGate_ (K := K) (Z := Z) (L := L) (C := C) (g := g) hB h.2.2.1 (h.2.1 1 (by decide)) x f hg
  have hn := xNn_ob h
  refine xany_of (F := xfSet (xNn N) 1 x f) (v := f) h (xgd_set hn.1) (fun a b hab => xoff_set (by omega)) (xrul_set (hn.2 1 (by decide))) (fun hneg => ?_) (fun hpos => ?_)
  · rcases xConR_cases (B + 253 + g.length) (xfSet (xNn N) 1 x f).1 with ⟨-, e⟩ | ⟨-, -, e⟩ | ⟨-, -, -, e⟩ | ⟨-, -, e, -⟩
    · rw [e] at ho
      exact ⟨-1001, by decide, xw_setGate hB ho (Or.inr (Or.inl ⟨_, rfl, rfl⟩))⟩
    · rw [e] at ho
      exact ⟨-1002, by decide, xw_setGate hB ho (Or.inr (Or.inr (Or.inl ⟨_, rfl, rfl⟩)))⟩
    · rw [e] at ho
      exact ⟨-1003, by decide, xw_setGate hB ho (Or.inr (Or.inr (Or.inr ⟨_, rfl, rfl⟩)))⟩
    · exact absurd hneg e
  · rcases xConR_cases (B + 253 + g.length) (xfSet (xNn N) 1 x f).1 with ⟨e, -⟩ | ⟨-, e, -⟩ | ⟨-, -, e, -⟩ | ⟨-, -, -, e⟩
    · rw [e] at hpos; exact absurd hpos (by decide)
    · rw [e] at hpos; exact absurd hpos (by decide)
    · exact absurd e (Int32.not_lt.mpr hpos)
    · rw [e] at ho
      exact xw_setGate hB ho (Or.inl rfl)
theorem xl_setRule (hB : xBok pre B) (h : xOb N V H) (x f : Int32) (hg : B + 253 + g.length < 1000000) : xAny pre B N C L g V H V H (fun c h' => xRn K Z 8 208 [.ref (B + 0), .int x, .int f] (xHn pre B N C L g) (.ok (some (.int c))) h') := by
  have ho := xo_setRule_ (K := K) (Z := Z) (L := L) (C := C) (g := g) hB h.2.2.1 (h.2.1 1 (by decide)) x f hg
  have hn := xNn_ob h
  refine xany_of (F := xfRule (xNn N) 1 x f) (v := f) h (xgd_rule hn.1) (fun a b hab => xoff_rule (by omega)) (xrul_rule (hn.2 1 (by decide))) (fun hneg => ?_) (fun hpos => ?_)
  · rcases xConR_cases (B + 253 + g.length) (xfRule (xNn N) 1 x f).1 with ⟨-, e⟩ | ⟨-, -, e⟩ | ⟨-, -, -, e⟩ | ⟨-, -, e, -⟩
    · rw [e] at ho
      exact ⟨-1001, by decide, xw_setRule hB ho (Or.inr (Or.inl ⟨_, rfl, rfl⟩))⟩
    · rw [e] at ho
      exact ⟨-1002, by decide, xw_setRule hB ho (Or.inr (Or.inr (Or.inl ⟨_, rfl, rfl⟩)))⟩
    · rw [e] at ho
      exact ⟨-1003, by decide, xw_setRule hB ho (Or.inr (Or.inr (Or.inr ⟨_, rfl, rfl⟩)))⟩
    · exact absurd hneg e
  · rcases xConR_cases (B + 253 + g.length) (xfRule (xNn N) 1 x f).1 with ⟨e, -⟩ | ⟨-, e, -⟩ | ⟨-, -, e, -⟩ | ⟨-, -, -, e⟩
    · rw [e] at hpos; exact absurd hpos (by decide)
    · rw [e] at hpos; exact absurd hpos (by decide)
    · exact absurd e (Int32.not_lt.mpr hpos)
    · rw [e] at ho
      exact xw_setRule hB ho (Or.inl rfl)
end XWD
