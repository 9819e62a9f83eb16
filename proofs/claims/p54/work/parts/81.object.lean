/-! THE OBJECT BETWEEN CALLS: what a refused change leaves, what an accepted one -/
def xOb (N : Nat → Nat → Int32) (V H : Nat) : Prop := xGd N 1 V H ∧ (xRul N ∧ (xwin (N 58 1) 0 8 = true ∧ N 231 2 = 0))
/-- the row that the next change is noted in -/
def xRow (N : Nat → Nat → Int32) : Nat := 60 + 19 * xNx N
/-- refused: the river as it was, rows but the noted one too -/
def xRefd (N N' : Nat → Nat → Int32) : Prop := xSm N' N 1 1 ∧ ((∀ w ∈ xRbs, w ≠ 20 → w ≠ xRow N → xSm N' N w w) ∧ (N' 58 1 = N 58 1 ∧ (N' 58 2 = N 58 2 ∧ (N' 0 7 = N 0 7 ∧ (N' 231 2 = N 231 2 ∧ ∀ b, N' 251 b = N 251 b ∧ N' 252 b = N 252 b)))))
/-- accepted: the river as it was stands in its row -/
def xAccd (N N' : Nat → Nat → Int32) : Prop := xSm N' N (xRow N) 1 ∧ ((∀ w ∈ xRbs, w ≠ 20 → w ≠ 1 → w ≠ xRow N → xSm N' N w w) ∧ (N' 58 1 = xinc9 (N 58 1) ∧ (N' 58 2 = xmin (N 58 2 + 1) 8 ∧ (N' 0 7 = N 0 7 ∧ (N' 231 2 = N 231 2 ∧ ∀ b, N' 251 b = N 251 b ∧ N' 252 b = N 252 b)))))
section XOBJ
variable {N M : Nat → Nat → Int32} {V H V' H' : Nat} {a v : Int32}
theorem xinc9_win : ∀ n, n ≤ 8 → xwin (xinc9 (Int32.ofNat n)) 0 8 = true ∧ (xinc9 (Int32.ofNat n)).toNatClampNeg = (n + 1) % 9 := by decide
theorem xwin8_n {x : Int32} (h : xwin x 0 8 = true) : ∃ n, x = Int32.ofNat n ∧ n ≤ 8 := by
  obtain ⟨n, e, -, h2⟩ := xBnd_win (lo := 0) (hi := 8) h rfl rfl
  exact ⟨n, e, h2⟩
theorem xRow_in (h : xwin (N 58 1) 0 8 = true) : xRow N ∈ xRbs ∧ (1 ≠ xRow N ∧ (60 ≤ xRow N ∧ xRow N + 19 ≤ 231)) := by
  have h9 := (xwin9 h).2
  have k := xrow_in (xNx N) h9
  have : xNx N < 9 := h9
  refine ⟨k.1, k.2, ?_, ?_⟩
  · unfold xRow; omega
  · unfold xRow; omega
theorem xNn_off (h : xwin (N 58 1) 0 8 = true) {a b : Nat} (hab : a < xRow N ∨ xRow N + 19 ≤ a) : xNn N a b = N a b := xNcopy_off hab
theorem xNn_ob (h : xOb N V H) : xGd (xNn N) 1 V H ∧ xRul (xNn N) := by
  obtain ⟨h1, h2, h3, h4⟩ := h
  have hr := xRow_in h3
  refine ⟨xGd_sm (xSm_of (fun a b ha hb => ?_)) h1, xRul_copy h2 hr.1 (by decide)⟩
  exact (xNn_off h3 (by omega)).symm
/-- the denial and the history's numbers are no river's -/
theorem xRbs_lt {w : Nat} (hw : w ∈ xRbs) : 1 ≤ w ∧ (w + 19 ≤ 58 ∨ 60 ≤ w) ∧ w + 19 ≤ 231 := by
  have := (show ∀ w ∈ xRbs, 1 ≤ w ∧ (w + 19 ≤ 58 ∨ 60 ≤ w) ∧ w + 19 ≤ 231 by decide) w hw
  exact this
/-- a refused change: nothing but the note and perhaps the denial -/
theorem xrefd (h : xOb N V H) (hM : ∀ a b, a ≠ 250 → M a b = xNn N a b) : xRefd N M ∧ xOb M V H := by
  obtain ⟨h1, h2, h3, h4⟩ := h
  have hr := xRow_in h3
  have hn := xNn_ob ⟨h1, h2, h3, h4⟩
  have hk : ∀ a b, a ≠ 250 → (a < xRow N ∨ xRow N + 19 ≤ a) → M a b = N a b := fun a b q1 q2 => (hM a b q1).trans (xNn_off h3 q2)
  have hs : xSm M N 1 1 := xSm_of (fun a b q1 q2 => hk a b (by omega) (by omega))
  refine ⟨⟨hs, fun w hw _ hw2 => ?_, hk _ _ (by decide) (by omega), hk _ _ (by decide) (by omega), hk _ _ (by decide) (by omega), hk _ _ (by decide) (by omega), fun b => ⟨hk _ _ (by decide) (by omega), hk _ _ (by decide) (by omega)⟩⟩, xGd_sm (xSm_symm hs) h1, fun w hw => ?_, ?_, ?_⟩
  · have q := xrb_apart w hw (xRow N) hr.1 hw2
    have q2 := xRbs_lt hw
    exact xSm_of (fun a b q3 q4 => hk a b (by omega) (by omega))
  · have q2 := xRbs_lt hw
    exact xrul_off (fun r hr8 => hM _ _ (by omega)) (hn.2 w hw)
  · rw [hk 58 1 (by decide) (by omega)]; exact h3
  · rw [hk 231 2 (by decide) (by omega)]; exact h4
/-- an accepted change -/
theorem xaccd {Q : Nat → Nat → Int32} (h : xOb N V H) (hoff : ∀ a b, (a < 1 ∨ 20 ≤ a) → Q a b = xNn N a b) (hru : xrul Q 1) (hg : xGd Q 1 V' H') : xAccd N (xNconf Q) ∧ xOb (xNconf Q) V' H' := by
  obtain ⟨h1, h2, h3, h4⟩ := h
  have hr := xRow_in h3
  have hn := xNn_ob ⟨h1, h2, h3, h4⟩
  have hc : ∀ a b, a ≠ 58 → xNconf Q a b = Q a b := by
    intro a b q
    unfold xNconf xupN
    rw [if_neg (by omega), if_neg (by omega)]
  have hk : ∀ a b, a ≠ 58 → (a < 1 ∨ 20 ≤ a) → (a < xRow N ∨ xRow N + 19 ≤ a) → xNconf Q a b = N a b := fun a b q1 q2 q3 => (hc a b q1).trans ((hoff a b q2).trans (xNn_off h3 q3))
  have e1 : xNconf Q 58 1 = xinc9 (N 58 1) := by
    unfold xNconf xupN
    rw [if_neg (by omega), if_pos ⟨rfl, rfl⟩, hoff 58 1 (by omega), xNn_off h3 (by omega)]
  have e2 : xNconf Q 58 2 = xmin (N 58 2 + 1) 8 := by
    unfold xNconf xupN
    rw [if_pos ⟨rfl, rfl⟩, hoff 58 2 (by omega), xNn_off h3 (by omega)]
  refine ⟨⟨?_, fun w hw _ hw1 hw2 => ?_, e1, e2, hk _ _ (by decide) (by omega) (by omega), hk _ _ (by decide) (by omega) (by omega), fun b => ⟨hk _ _ (by decide) (by omega) (by omega), hk _ _ (by decide) (by omega) (by omega)⟩⟩, ?_, ?_, ?_, ?_⟩
  · have s1 : xSm (xNconf Q) (xNn N) (xRow N) (xRow N) := xSm_of (fun a b q1 q2 => (hc a b (by omega)).trans (hoff a b (by omega)))
    exact xSm_trans s1 (xSm_copy (N := N) (w := xRow N) (v := 1))
  · have q := xrb_apart w hw (xRow N) hr.1 hw2
    have q1 := xrb_apart w hw 1 (by decide) hw1
    have q2 := xRbs_lt hw
    exact xSm_of (fun a b q3 q4 => hk a b (by omega) (by omega) (by omega))
  · exact xGd_sm (xSm_of (fun a b q1 q2 => (hc a b (by omega)).symm)) hg
  · have hQ : xRul Q := xRul_off (u := 1) hn.2 (by decide) (fun a b q => hoff a b (by omega)) hru
    exact fun w hw => xrul_off (fun r hr8 => hc _ _ (by have := xRbs_lt hw; omega)) (hQ w hw)
  · rw [e1]
    obtain ⟨n, en, hn8⟩ := xwin8_n h3
    rw [en]
    exact (xinc9_win n hn8).1
  · rw [hk 231 2 (by decide) (by omega) (by omega)]; exact h4
end XOBJ
