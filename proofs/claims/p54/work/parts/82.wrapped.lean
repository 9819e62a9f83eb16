/-! CHANGES BY THE LAW'S WRAPPERS -/
section XWC
variable {K : List (Nat × List Value)} {Z : List Value} {pre g : xH} {B L : Nat} {N : Nat → Nat → Int32} {C : Nat → Nat} {V H V' H' : Nat}
theorem xConN_250 {M : Nat → Nat → Int32} {a v : Int32} (ha : a < 0) {i k : Nat} (hi : i ≠ 250) : xConN M a v i k = M i k := by
  unfold xConN
  split
  · rfl
  · split
    · rfl
    · try rw [if_pos ha]
      unfold xNden xupN
      rw [if_neg (by omega), if_neg (by omega), if_neg (by omega), if_neg (by omega)]
theorem xConG_neg {a : Int32} (ha : a < 0) : xConG g a = xgx g := by
  unfold xConG
  split
  · rfl
  · split
    · rfl
    · try rw [if_pos ha]
      try rfl
theorem xConN_pos {M : Nat → Nat → Int32} {a : Nat} {v : Int32} (ha : a < 1000000000) : xConN M (Int32.ofNat a) v = xNconf M ∧ (xConG g (Int32.ofNat a) = g ∧ ∀ q, xConR q (Int32.ofNat a) = .ok (some (.int (Int32.ofNat a)))) := by
  have h0 := (xi_ofNat (n := a) (by omega)).1
  have n1 : ¬ Int32.ofNat a = -11 := fun e => by
    have := congrArg Int32.toInt e
    rw [h0, show (-11 : Int32).toInt = -11 from rfl] at this
    omega
  have n2 : ¬ Int32.ofNat a = -12 := fun e => by
    have := congrArg Int32.toInt e
    rw [h0, show (-12 : Int32).toInt = -12 from rfl] at this
    omega
  have n3 : ¬ Int32.ofNat a < 0 := Int32.not_lt.mpr (xi_ofNat (n := a) (by omega)).2.2
  refine ⟨?_, ?_, fun q => ?_⟩
  · unfold xConN; rw [if_neg n1, if_neg n2, if_neg n3]
  · unfold xConG; rw [if_neg n1, if_neg n2, if_neg n3]
  · unfold xConR; rw [if_neg n1, if_neg n2, if_neg n3]
/-- any change by its wrapper: refused (a negative number) or accepted -/
def xAny (pre : xH) (B : Nat) (N : Nat → Nat → Int32) (C : Nat → Nat) (L : Nat) (g : xH) (V H V' H' : Nat) (run : Int32 → xH → Prop) : Prop := ∃ c N' g', run c (xHn pre B N' C L g') ∧ ((c < 0 ∧ (xRefd N N' ∧ (xOb N' V H ∧ g' = xgx g))) ∨ (0 ≤ c ∧ (xAccd N N' ∧ (xOb N' V' H' ∧ g' = g))))
theorem xany_of {F : Int32 × (Nat → Nat → Int32)} {v : Int32} {run : Int32 → xH → Prop} (h : xOb N V H) (hch : xCh (xNn N) 1 V' H' F) (hoff : ∀ a b, (a < 1 ∨ 20 ≤ a) → F.2 a b = xNn N a b) (hru : xrul F.2 1) (href : F.1 < 0 → ∃ c, c < 0 ∧ run c (xHn pre B (xConN F.2 F.1 v) C L (xConG g F.1))) (hacc : 0 ≤ F.1 → run F.1 (xHn pre B (xConN F.2 F.1 v) C L (xConG g F.1))) : xAny pre B N C L g V H V' H' run := by
  rcases hch with ⟨hcode, hF⟩ | ⟨a, ea, ha, hg2⟩
  · have hneg : F.1 < 0 := by
      rcases hcode with e | e | e | e | e | e <;> rw [e] <;> decide
    obtain ⟨c, hc, hr⟩ := href hneg
    obtain ⟨k1, k2⟩ := xrefd (M := xConN F.2 F.1 v) h (fun a b hab => by rw [xConN_250 hneg hab, hF])
    exact ⟨c, _, _, hr, Or.inl ⟨hc, k1, k2, xConG_neg hneg⟩⟩
  · have h0 : (0 : Int32) ≤ F.1 := by rw [ea]; exact (xi_ofNat (n := a) (by omega)).2.2
    have hr := hacc h0
    obtain ⟨p1, p2, -⟩ := xConN_pos (M := F.2) (g := g) (v := v) ha
    obtain ⟨k1, k2⟩ := xaccd (Q := F.2) h hoff hru hg2
    refine ⟨F.1, xConN F.2 F.1 v, xConG g F.1, hr, Or.inr ⟨h0, ?_, ?_, ?_⟩⟩
    · rw [ea, p1]; exact k1
    · rw [ea, p1]; exact k2
    · rw [ea]; exact p2
theorem xl_setLateral (hB : xBok pre B) (h : xOb N V H) (x f : Int32) (hg : B + 253 + g.length < 1000000) : xAny pre B N C L g V H V H (fun c h' => xRn K Z 8 200 [.ref (B + 0), .int x, .int f] (xHn pre B N C L g) (.ok (some (.int c))) h') := by
  have ho := xo_setLateral_ (K := K) (Z := Z) (L := L) (C := C) (g := g) hB h.2.2.1 (h.2.1 1 (by decide)) x f hg
  have hn := xNn_ob h
  refine xany_of (F := xfLat (xNn N) 1 x f) (v := f) h (xgd_lat hn.1) (fun a b hab => xoff_lat (by omega)) (xrul_lat (hn.2 1 (by decide))) (fun hneg => ?_) (fun hpos => ?_)
  · rcases xConR_cases (B + 253 + g.length) (xfLat (xNn N) 1 x f).1 with ⟨-, e⟩ | ⟨-, -, e⟩ | ⟨-, -, -, e⟩ | ⟨-, -, e, -⟩
    · rw [e] at ho
      exact ⟨-1001, by decide, xw_setLateral hB ho (Or.inr (Or.inl ⟨_, rfl, rfl⟩))⟩
    · rw [e] at ho
      exact ⟨-1002, by decide, xw_setLateral hB ho (Or.inr (Or.inr (Or.inl ⟨_, rfl, rfl⟩)))⟩
    · rw [e] at ho
      exact ⟨-1003, by decide, xw_setLateral hB ho (Or.inr (Or.inr (Or.inr ⟨_, rfl, rfl⟩)))⟩
    · exact absurd hneg e
  · rcases xConR_cases (B + 253 + g.length) (xfLat (xNn N) 1 x f).1 with ⟨e, -⟩ | ⟨-, e, -⟩ | ⟨-, -, e, -⟩ | ⟨-, -, -, e⟩
    · rw [e] at hpos; exact absurd hpos (by decide)
    · rw [e] at hpos; exact absurd hpos (by decide)
    · exact absurd e (Int32.not_lt.mpr hpos)
    · rw [e] at ho
      exact xw_setLateral hB ho (Or.inl rfl)
end XWC
