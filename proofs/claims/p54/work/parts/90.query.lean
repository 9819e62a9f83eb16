/-! WHAT A QUERY MAY CHANGE: the forecast and the line, no more -/
def xQy (N N' : Nat → Nat → Int32) : Prop := (∀ a b, (a < 20 ∨ 39 ≤ a) → a ≠ 251 → a ≠ 252 → N' a b = N a b) ∧ (xRul N → xRul N')
section XQY
variable {N M O : Nat → Nat → Int32} {V H w n : Nat}
theorem xQy_refl (N : Nat → Nat → Int32) : xQy N N := ⟨fun _ _ _ _ _ => rfl, fun h => h⟩
theorem xQy_trans (h : xQy N M) (k : xQy M O) : xQy N O := ⟨fun a b h1 h2 h3 => (k.1 a b h1 h2 h3).trans (h.1 a b h1 h2 h3), fun q => k.2 (h.2 q)⟩
theorem xQy_ne (h : xNe N M) : xQy N M := ⟨fun a b _ h2 h3 => h a b h2 h3, fun q w hw => xrul_off (fun r hr => by have := xRbs_lt hw; exact h _ _ (by omega) (by omega)) (q w hw)⟩
theorem xQy_fc (N : Nat → Nat → Int32) (n : Nat) : xQy N (xFc N n) := by
  refine ⟨fun a b h1 _ _ => xoff_fc h1, fun q => ?_⟩
  have k := xRul_copy q (u := 20) (v := 1) (by decide) (by decide)
  unfold xFc
  exact xRul_off (u := 20) k (by decide) (fun a b hab => xoff_letN (by omega) n) (xrul_letN (k 20 (by decide)) n)
theorem xQy_sm (h : xQy N M) (hw : w ∈ xRbs) (h20 : w ≠ 20) : xSm M N w w := by
  have q := xrb_apart w hw 20 (by decide) h20
  have q2 := xRbs_lt hw
  exact xSm_of (fun a b q3 q4 => h.1 a b (by omega) (by omega) (by omega))
theorem xQy_1 (h : xQy N M) : xSm M N 1 1 := xQy_sm h (by decide) (by decide)
theorem xQy_ob (h : xQy N M) (hN : xOb N V H) : xOb M V H := by
  refine ⟨xGd_sm (xSm_symm (xQy_1 h)) hN.1, h.2 hN.2.1, ?_, ?_⟩
  · rw [h.1 58 1 (by decide) (by decide) (by decide)]; exact hN.2.2.1
  · rw [h.1 231 2 (by decide) (by decide) (by decide)]; exact hN.2.2.2
end XQY
/-- the line in its memory, whatever stands in it -/
def xLn (pre : xH) (B : Nat) (N : Nat → Nat → Int32) (C : Nat → Nat) (L : Nat) (g : xH) : Prop := ∃ cnt bs, cnt ≤ 60 ∧ xLin pre B N C L g cnt bs
section XLNK
variable {pre g : xH} {B L cnt : Nat} {N : Nat → Nat → Int32} {C : Nat → Nat} {bs : List Int32}
theorem xHn_apq (e : xH) : xHn pre B N C L (g ++ e) = xHn pre B N C L g ++ e := by
  unfold xHn xHp
  rw [List.append_assoc, List.append_assoc]
theorem xlin_keep (hB : xBok pre B) (h : xLin pre B N C L g cnt bs) {N' : Nat → Nat → Int32} {C' : Nat → Nat} (e : xH) (h1 : ∀ b, N' 251 b = N 251 b) (h2 : ∀ b, N' 252 b = N 252 b) : xLin pre B N' C' L (g ++ e) cnt bs := by
  obtain ⟨hS, hL⟩ := h
  have hlt := xSb_lt hS
  obtain ⟨p1, p2, p3, p4, p5⟩ := hS
  have hM1 : xMv B N' C' L 251 = xMv B N C L 251 := by
    funext k
    unfold xMv
    cases xrf0 251 k with
    | some r => rfl
    | none =>
      dsimp only
      split
      · rfl
      · rw [if_neg (by omega), if_neg (by omega), h1]
  have hM2 : xMv B N' C' L 252 = xMv B N C L 252 := by
    funext k
    unfold xMv
    cases xrf0 252 k with
    | some r => rfl
    | none =>
      dsimp only
      rw [if_neg (by omega), if_neg (by omega), if_neg (by omega), if_neg (by omega), h2]
  have hl1 : (xHn pre B N' C' L g).length = (xHn pre B N C L g).length := by
    rw [xHn_len hB, xHn_len hB]
  have e1 : (xHn pre B N' C' L g)[B + 251]? = (xHn pre B N C L g)[B + 251]? := by
    rw [xHn_at hB (by decide), xHn_at hB (by decide), hM1]
  have e2 : (xHn pre B N' C' L g)[L]? = (xHn pre B N C L g)[L]? := by
    by_cases hq : L = B + 252
    · have k : ∀ i, i = 252 → (xHn pre B N' C' L g)[B + i]? = (xHn pre B N C L g)[B + i]? := by
        intro i hi
        subst hi
        rw [xHn_at hB (by decide), xHn_at hB (by decide), hM2]
      have := k 252 rfl
      rw [← hq] at this
      exact this
    · exact xHn_behind hB (by omega)
  refine ⟨⟨p1, ?_, ?_, p4, p5⟩, hL⟩
  · rw [xHn_apq, List.getElem?_append_left (by rw [hl1]; exact hlt.1), e1, h1]
    exact p2
  · rw [xHn_apq, List.getElem?_append_left (by rw [hl1]; exact hlt.2), e2]
    exact p3
theorem xln_keep (hB : xBok pre B) (h : xLn pre B N C L g) {N' : Nat → Nat → Int32} {C' : Nat → Nat} (e : xH) (h1 : ∀ b, N' 251 b = N 251 b) (h2 : ∀ b, N' 252 b = N 252 b) : xLn pre B N' C' L (g ++ e) := by
  obtain ⟨cnt, bs, hc, h⟩ := h
  exact ⟨cnt, bs, hc, xlin_keep hB h e h1 h2⟩
theorem xln_keep0 (hB : xBok pre B) (h : xLn pre B N C L g) {N' : Nat → Nat → Int32} {C' : Nat → Nat} (h1 : ∀ b, N' 251 b = N 251 b) (h2 : ∀ b, N' 252 b = N 252 b) : xLn pre B N' C' L g := by
  have k := xln_keep (C' := C') hB h [] h1 h2
  rw [List.append_nil] at k
  exact k
theorem xln_gx (hB : xBok pre B) (h : xLn pre B N C L g) {N' : Nat → Nat → Int32} {C' : Nat → Nat} (h1 : ∀ b, N' 251 b = N 251 b) (h2 : ∀ b, N' 252 b = N 252 b) : xLn pre B N' C' L (xgx g) := xln_keep hB h _ h1 h2
theorem xln_fc (hB : xBok pre B) (h : xLn pre B N C L g) {n : Nat} : xLn pre B (xFc N n) C L g := xln_keep0 hB h (fun _ => xoff_fc (by omega)) (fun _ => xoff_fc (by omega))
theorem xGr_refl (g : xH) : xGr g g 0 := ⟨Nat.le_refl _, by omega, by omega⟩
theorem xGr_mono {g g' : xH} {m m' : Nat} (h : xGr g g' m) (hm : m ≤ m') : xGr g g' m' := ⟨h.1, by have := h.2.1; omega, by have := h.2.2; omega⟩
theorem xGr_gx (g : xH) : xGr g (xgx g) 1 := by
  unfold xgx
  refine ⟨?_, ?_, ?_⟩
  · rw [List.length_append]; omega
  · rw [List.length_append]; exact Nat.le_refl _
  · rw [xsz_app]
    show xsz g + 6 ≤ _
    omega
end XLNK
