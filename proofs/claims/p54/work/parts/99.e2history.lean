/-! THE LAW'S LAST PART: what the history and the snapshot hold -/
theorem xinc9_n : ∀ n, n < 9 → xinc9 (Int32.ofNat n) = Int32.ofNat ((n + 1) % 9) ∧ xdec9 (Int32.ofNat n) = Int32.ofNat ((n + 8) % 9) := by decide +kernel
theorem xminc_n : ∀ n, n < 8 → xmin (Int32.ofNat n + 1) 8 = Int32.ofNat (n + 1) := by decide +kernel
theorem xwin08 : ∀ n, n < 9 → xwin (Int32.ofNat n) 0 8 = true := by decide +kernel
theorem xrow_rb : ∀ n, n < 9 → 60 + 19 * n ∈ xRbs := by decide +kernel
/-- the snapshot at 39; the history: d states behind one another from the row nx on -/
def xHs (NS : Nat → Nat → Int32) (Vw : Nat → Nat → Nat → Int32) (nx d : Nat) (N : Nat → Nat → Int32) : Prop := N 58 2 = Int32.ofNat d ∧ (N 58 1 = Int32.ofNat ((nx + d) % 9) ∧ (N 0 7 = 1 ∧ (xSm N NS 39 1 ∧ ∀ j, j < d → xSm N (Vw j) (60 + 19 * ((nx + j) % 9)) 1)))
section XHIS
variable {NS N M : Nat → Nat → Int32} {Vw : Nat → Nat → Nat → Int32} {nx d V H : Nat}
theorem xHs_qy (h : xHs NS Vw nx d N) (q : xQy N M) : xHs NS Vw nx d M := by
  obtain ⟨h1, h2, h3, h4, h5⟩ := h
  refine ⟨(q.1 58 2 (by decide) (by decide) (by decide)).trans h1, (q.1 58 1 (by decide) (by decide) (by decide)).trans h2, (q.1 0 7 (by decide) (by decide) (by decide)).trans h3, xSm_trans (xQy_sm q (by decide) (by decide)) h4, fun j hj => ?_⟩
  exact xSm_trans (xQy_sm q (xrow_rb _ (Nat.mod_lt _ (by decide))) (by omega)) (h5 j hj)
theorem xHs_row (h : xHs NS Vw nx d N) : xRow N = 60 + 19 * ((nx + d) % 9) := by
  unfold xRow xNx
  rw [h.2.1, (xi_ofNat (n := (nx + d) % 9) (by omega)).2.1]
theorem xHs_refd (h : xHs NS Vw nx d N) (hd : d ≤ 8) (q : xRefd N M) : xHs NS Vw nx d M := by
  have hrow := xHs_row h
  obtain ⟨h1, h2, h3, h4, h5⟩ := h
  obtain ⟨-, k2, k3, k4, k5, -, -⟩ := q
  refine ⟨k4.trans h1, k3.trans h2, k5.trans h3, xSm_trans (k2 39 (by decide) (by decide) (by omega)) h4, fun j hj => ?_⟩
  exact xSm_trans (k2 _ (xrow_rb _ (Nat.mod_lt _ (by decide))) (by omega) (by omega)) (h5 j hj)
theorem xHs_accd (h : xHs NS Vw nx d N) (hd : d < 8) (q : xAccd N M) : xHs NS (fun j => if j = d then N else Vw j) nx (d + 1) M := by
  have hrow := xHs_row h
  obtain ⟨h1, h2, h3, h4, h5⟩ := h
  obtain ⟨k1, k2, k3, k4, k5, -, -⟩ := q
  refine ⟨?_, ?_, k5.trans h3, xSm_trans (k2 39 (by decide) (by decide) (by decide) (by omega)) h4, fun j hj => ?_⟩
  · rw [k4, h1, xminc_n d hd]
  · rw [k3, h2, (xinc9_n _ (Nat.mod_lt _ (by decide))).1]
    congr 1
    omega
  · by_cases hj2 : j = d
    · subst hj2
      dsimp only
      rw [if_pos rfl, ← hrow]
      exact k1
    · dsimp only
      rw [if_neg hj2]
      exact xSm_trans (k2 _ (xrow_rb _ (Nat.mod_lt _ (by decide))) (by omega) (by omega) (by omega)) (h5 j (by omega))
/-- undo: the state before the latest change comes back -/
theorem xHs_undo (h : xHs NS Vw nx (d + 1) N) (hd : d < 8) (hO : xOb N V H) (hG : xGd (Vw d) 1 V H) :
    ¬ N 58 2 = 0 ∧ (xwin (xNtake N 58 1) 0 8 = true ∧ (xrul (xNtake N) (60 + 19 * xNx (xNtake N)) ∧ (N 58 2 - 1 = Int32.ofNat d ∧ (xHs NS Vw nx d (xNcopy (xNtake N) 1 (60 + 19 * xNx (xNtake N))) ∧ (xSm (xNcopy (xNtake N) 1 (60 + 19 * xNx (xNtake N))) (Vw d) 1 1 ∧ (xOb (xNcopy (xNtake N) 1 (60 + 19 * xNx (xNtake N))) V H ∧ ∀ b, xNcopy (xNtake N) 1 (60 + 19 * xNx (xNtake N)) 251 b = N 251 b ∧ xNcopy (xNtake N) 1 (60 + 19 * xNx (xNtake N)) 252 b = N 252 b)))))) := by
  obtain ⟨h1, h2, h3, h4, h5⟩ := h
  have ht : ∀ a b, a ≠ 58 → xNtake N a b = N a b := by
    intro a b q
    unfold xNtake xupN
    rw [if_neg (by omega), if_neg (by omega)]
  have e1 : xNtake N 58 1 = Int32.ofNat ((nx + d) % 9) := by
    unfold xNtake xupN
    rw [if_neg (by omega), if_pos ⟨rfl, rfl⟩, h2, (xinc9_n _ (Nat.mod_lt _ (by decide))).2]
    congr 1
    omega
  have e2 : N 58 2 - 1 = Int32.ofNat d := by
    rw [h1]
    exact xi_subN (a := d + 1) (b := 1) (by omega) (by omega)
  have e3 : xNtake N 58 2 = Int32.ofNat d := by
    unfold xNtake xupN
    rw [if_pos ⟨rfl, rfl⟩]
    exact e2
  have enx : xNx (xNtake N) = (nx + d) % 9 := by
    unfold xNx
    rw [e1, (xi_ofNat (n := (nx + d) % 9) (by omega)).2.1]
  rw [enx]
  have hlt9 : (nx + d) % 9 < 9 := Nat.mod_lt _ (by decide)
  have hrb := xrow_rb _ hlt9
  have hoff : ∀ a b, a < 1 ∨ 20 ≤ a → xNcopy (xNtake N) 1 (60 + 19 * ((nx + d) % 9)) a b = xNtake N a b := fun a b q => xNcopy_off (by omega)
  have hs1 : xSm (xNcopy (xNtake N) 1 (60 + 19 * ((nx + d) % 9))) (Vw d) 1 1 := xSm_trans (xSm_copy (N := xNtake N) (w := 1) (v := 60 + 19 * ((nx + d) % 9))) (xSm_trans (M := N) (v := 60 + 19 * ((nx + d) % 9)) (xSm_of (fun a b q1 q2 => ht a b (by omega))) (h5 d (by omega)))
  have hru : xRul (xNtake N) := fun w hw => by
    have q := xRbs_lt hw
    exact xrul_off (fun r hr => ht _ _ (by omega)) (hO.2.1 w hw)
  have hsmw : ∀ w ∈ xRbs, w ≠ 1 → xSm (xNcopy (xNtake N) 1 (60 + 19 * ((nx + d) % 9))) N w w := by
    intro w hw q
    have q2 := xRbs_lt hw
    have q3 := xrb_apart w hw 1 (by decide) q
    exact xSm_of (fun a b q4 q5 => (hoff a b (by omega)).trans (ht a b (by omega)))
  refine ⟨?_, ?_, hru _ hrb, e2, ⟨?_, ?_, ?_, ?_, fun j hj => ?_⟩, hs1, ⟨xGd_sm (xSm_symm hs1) hG, xRul_copy hru (by decide) hrb, ?_, ?_⟩, fun b => ⟨?_, ?_⟩⟩
  · rw [h1]
    exact xi_ne (b := 0) (by omega) (by omega) (by omega)
  · rw [e1]
    exact xwin08 _ hlt9
  · exact (hoff 58 2 (by omega)).trans e3
  · exact (hoff 58 1 (by omega)).trans e1
  · exact (hoff 0 7 (by omega)).trans ((ht 0 7 (by decide)).trans h3)
  · exact xSm_trans (hsmw 39 (by decide) (by decide)) h4
  · exact xSm_trans (hsmw _ (xrow_rb _ (Nat.mod_lt _ (by decide))) (by omega)) (h5 j (by omega))
  · rw [hoff 58 1 (by omega), e1]
    exact xwin08 _ hlt9
  · exact (hoff 231 2 (by omega)).trans ((ht 231 2 (by decide)).trans hO.2.2.2)
  · exact (hoff 251 b (by omega)).trans (ht 251 b (by decide))
  · exact (hoff 252 b (by omega)).trans (ht 252 b (by decide))
/-- a snapshot is taken -/
theorem xHs_save (hO : xOb N V H) : xSm (xupN (xNcopy N 39 1) 0 7 1) N 1 1 ∧ (xSm (xupN (xNcopy N 39 1) 0 7 1) N 39 1 ∧ (xOb (xupN (xNcopy N 39 1) 0 7 1) V H ∧ (xupN (xNcopy N 39 1) 0 7 1 0 7 = 1 ∧ ∀ b, xupN (xNcopy N 39 1) 0 7 1 251 b = N 251 b ∧ xupN (xNcopy N 39 1) 0 7 1 252 b = N 252 b))) := by
  have hoff : ∀ a b, (a < 39 ∨ 58 ≤ a) → ¬ (a = 0 ∧ b = 7) → xupN (xNcopy N 39 1) 0 7 1 a b = N a b := by
    intro a b q1 q2
    unfold xupN
    rw [if_neg q2]
    exact xNcopy_off (by omega)
  have hu : ∀ a b, 1 ≤ a → xupN (xNcopy N 39 1) 0 7 1 a b = xNcopy N 39 1 a b := by
    intro a b q
    unfold xupN
    rw [if_neg (by omega)]
  have hs : xSm (xupN (xNcopy N 39 1) 0 7 1) N 1 1 := xSm_of (fun a b q1 q2 => hoff a b (by omega) (by omega))
  have hru := xRul_copy hO.2.1 (u := 39) (v := 1) (by decide) (by decide)
  refine ⟨hs, ?_, ⟨xGd_sm (xSm_symm hs) hO.1, fun w hw => ?_, ?_, ?_⟩, ?_, fun b => ⟨hoff 251 b (by omega) (by omega), hoff 252 b (by omega) (by omega)⟩⟩
  · exact xSm_trans (xSm_of (fun a b q1 q2 => hu a b (by omega))) xSm_copy
  · have q := xRbs_lt hw
    exact xrul_off (fun r hr => hu _ _ (by omega)) (hru w hw)
  · rw [hoff 58 1 (by omega) (by omega)]; exact hO.2.2.1
  · rw [hoff 231 2 (by omega) (by omega)]; exact hO.2.2.2
  · unfold xupN
    rw [if_pos ⟨rfl, rfl⟩]
/-- the snapshot comes back -/
theorem xHs_rest (hO : xOb N V H) (hS : xSm N NS 39 1) (hG : xGd NS 1 V H) (h7 : N 0 7 = 1) : xSm (xupN (xNcopy N 1 39) 58 2 0) NS 1 1 ∧ (xSm (xupN (xNcopy N 1 39) 58 2 0) NS 39 1 ∧ (xOb (xupN (xNcopy N 1 39) 58 2 0) V H ∧ ((xupN (xNcopy N 1 39) 58 2 0 0 7 = 1 ∧ (xupN (xNcopy N 1 39) 58 2 0 58 2 = 0 ∧ xupN (xNcopy N 1 39) 58 2 0 58 1 = N 58 1)) ∧ ∀ b, xupN (xNcopy N 1 39) 58 2 0 251 b = N 251 b ∧ xupN (xNcopy N 1 39) 58 2 0 252 b = N 252 b))) := by
  have hoff : ∀ a b, (a < 1 ∨ 20 ≤ a) → ¬ (a = 58 ∧ b = 2) → xupN (xNcopy N 1 39) 58 2 0 a b = N a b := by
    intro a b q1 q2
    unfold xupN
    rw [if_neg q2]
    exact xNcopy_off (by omega)
  have hu : ∀ a b, a ≠ 58 → xupN (xNcopy N 1 39) 58 2 0 a b = xNcopy N 1 39 a b := by
    intro a b q
    unfold xupN
    rw [if_neg (by omega)]
  have hs : xSm (xupN (xNcopy N 1 39) 58 2 0) NS 1 1 := xSm_trans (xSm_of (fun a b q1 q2 => hu a b (by omega))) (xSm_trans (xSm_copy (N := N) (w := 1) (v := 39)) hS)
  have hru := xRul_copy hO.2.1 (u := 1) (v := 39) (by decide) (by decide)
  refine ⟨hs, xSm_trans (xSm_of (fun a b q1 q2 => hoff a b (by omega) (by omega))) hS, ⟨xGd_sm (xSm_symm hs) hG, fun w hw => ?_, ?_, ?_⟩, ⟨(hoff 0 7 (by omega) (by omega)).trans h7, ?_, hoff 58 1 (by omega) (by omega)⟩, fun b => ⟨hoff 251 b (by omega) (by omega), hoff 252 b (by omega) (by omega)⟩⟩
  · have q := xRbs_lt hw
    exact xrul_off (fun r hr => hu _ _ (by omega)) (hru w hw)
  · rw [hoff 58 1 (by omega) (by omega)]; exact hO.2.2.1
  · rw [hoff 231 2 (by omega) (by omega)]; exact hO.2.2.2
  · unfold xupN
    rw [if_pos ⟨rfl, rfl⟩]
end XHIS
/-! an array of longs among what was made later -/
section XLGA
variable {K : List (Nat × List Value)} {Z : List Value} {pre g : xH} {B L q : Nat} {N : Nat → Nat → Int32} {C : Nat → Nat} {vs ws : List Value} {V H : Nat}
theorem xHn_g (hB : xBok pre B) : (xHn pre B N C L g)[B + 253 + q]? = g[q]? := by
  have e := hB.1
  unfold xHn xHp
  rw [List.getElem?_append_right (by omega), List.getElem?_append_right (by rw [xLay_len]; omega), xLay_len, show B + 253 + q - pre.length - 253 = q by omega]
theorem xHn_setg (hB : xBok pre B) {x : Nat × List Value} : (xHn pre B N C L g).set (B + 253 + q) x = xHn pre B N C L (g.set q x) := by
  have e := hB.1
  unfold xHn xHp
  rw [List.set_append_right _ _ (by omega), List.set_append_right _ _ (by rw [xLay_len]; omega), xLay_len, show B + 253 + q - pre.length - 253 = q by omega]
theorem xln_setg (hB : xBok pre B) (h : xLn pre B N C L g) (hg : g[q]? = some (52, vs)) : xLn pre B N C L (g.set q (52, ws)) := by
  obtain ⟨cnt, bs, hc, hS, hL⟩ := h
  refine ⟨cnt, bs, hc, ?_, hL⟩
  obtain ⟨p1, p2, p3, p4, p5⟩ := hS
  have hne : L ≠ B + 253 + q := by
    intro e
    rw [e, xHn_g hB, hg] at p3
    cases p3
  refine ⟨p1, ?_, ?_, p4, p5⟩
  · rw [← xHn_setg hB, List.getElem?_set_ne (by omega)]
    exact p2
  · rw [← xHn_setg hB, List.getElem?_set_ne (by omega)]
    exact p3
theorem xgr_setg {g0 : xH} {m : Nat} (h : xGr g0 g m) (hg : g[q]? = some (52, vs)) (hw : ws.length = vs.length) : xGr g0 (g.set q (52, ws)) m := by
  refine ⟨?_, ?_, ?_⟩
  · rw [List.length_set]; exact h.1
  · rw [List.length_set]; exact h.2.1
  · rw [xsz_set hg hw]; exact h.2.2
end XLGA
