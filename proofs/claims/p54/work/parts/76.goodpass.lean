/-! AN HOUR KEEPS A RIVER GOOD -/
section XGP
variable {N : Nat → Nat → Int32} {w V H : Nat}
theorem xp1_out : ∀ n, n ≤ 8 → ∀ r, r < n → xP1 N w n (w + 3 + r) 10 = xfOut N w (Int32.ofNat r) := by
  intro n
  induction n with
  | zero => intro _ r hr; exact absurd hr (Nat.not_lt_zero _)
  | succ n ih =>
    intro hn r hr
    show xP1s (xP1 N w n) w n (w + 3 + r) 10 = _
    by_cases hq : r = n
    · subst hq
      unfold xP1s
      show (if w + 3 + r = w + 3 + r ∧ 10 = 10 then xfOut (xupN (xP1 N w r) (w + 3 + r) 9 (xsta (xP1 N w r) (w + 3 + r))) w (Int32.ofNat r) else _) = _
      rw [if_pos ⟨rfl, rfl⟩]
      refine xsm_out ?_ (by rw [(xi_ofNat (n := r) (by omega)).2.1]; omega)
      refine ⟨fun b h1 h2 => ?_, fun r' b h1 h2 => ?_, fun r' b h1 h2 => ?_⟩
      · unfold xupN
        rw [if_neg (by omega)]
        exact xP1_off _ (by omega)
      · unfold xupN
        rw [if_neg (by omega)]
        exact xP1_off _ (by omega)
      · unfold xupN
        rw [if_neg (by omega)]
        exact xP1_off _ (by omega)
    · unfold xP1s xupN
      rw [if_neg (by omega), if_neg (by omega)]
      exact ih (by omega) r (by omega)
theorem xp2_arr {a : Int32} {M : Nat → Nat → Int32} : ∀ n, (xP2 w a M n).1 = if n = 0 then a else M (w + 3 + (n - 1)) 10 := by
  intro n
  cases n with
  | zero => rfl
  | succ n =>
    show xP2s (xP2 w a M n).2 w (w + 3 + n) (xP2 w a M n).1 (w + 3 + n) 10 = _
    rw [if_neg (by omega), xP2s_off (by omega) (by omega) (by omega)]
    exact xP2_off n (Or.inl (by decide)) (Or.inl (by omega))
theorem xp2_vol {a : Int32} {M : Nat → Nat → Int32} : ∀ n, ∀ r, r < n → (xP2 w a M n).2 (w + 3 + r) 4 = M (w + 3 + r) 4 + ((if r = 0 then a else M (w + 3 + (r - 1)) 10) + M (w + 3 + r) 3 - M (w + 3 + r) 10) := by
  intro n
  induction n with
  | zero => intro r hr; exact absurd hr (Nat.not_lt_zero _)
  | succ n ih =>
    intro r hr
    show xP2s (xP2 w a M n).2 w (w + 3 + n) (xP2 w a M n).1 (w + 3 + r) 4 = _
    by_cases hq : r = n
    · subst hq
      have e : ∀ (Q : Nat → Nat → Int32) (x : Int32), xP2s Q w (w + 3 + r) x (w + 3 + r) 4 = Q (w + 3 + r) 4 + (x + Q (w + 3 + r) 3 - Q (w + 3 + r) 10) := by
        intro Q x
        have e1 : xP2b (xP2a Q w (w + 3 + r) x) w (w + 3 + r) (w + 3 + r) 4 = Q (w + 3 + r) 4 + (x + Q (w + 3 + r) 3 - Q (w + 3 + r) 10) := by
          unfold xP2b xP2a xupN
          rw [if_neg (by omega), if_pos ⟨rfl, rfl⟩]
        unfold xP2s xP2c
        split
        · unfold xupN
          rw [if_neg (by omega)]
          exact e1
        · exact e1
      rw [e, xp2_arr, xP2_off r (Or.inr (Or.inr (by omega))) (Or.inl (by omega)), xP2_off r (Or.inr (Or.inr (by omega))) (Or.inl (by omega)), xP2_off r (Or.inr (Or.inr (by omega))) (Or.inl (by omega))]
    · rw [xP2s_off (by omega) (by omega) (by omega)]
      exact ih r (by omega)
theorem xpls_drop {t : Int32} {p : Nat} : ∀ n, n ≤ p → (∀ r, r < p → xPls N (w + 11 + r)) → ∀ j, j < (xDrop N w t n).1 → xPls (xDrop N w t n).2 (w + 11 + j) := by
  intro n
  induction n with
  | zero => intro _ _ j hj; exact absurd hj (Nat.not_lt_zero _)
  | succ n ih =>
    intro hn h j hj
    have ih := ih (by omega) h
    have hle := xDrop_le (N := N) (w := w) (t := t) n
    have hlast : xPls (xDrop N w t n).2 (w + 11 + n) := by
      have k := h n (by omega)
      unfold xPls at k ⊢
      rw [xDrop_off n (by omega), xDrop_off n (by omega), xDrop_off n (by omega)]
      exact k
    rw [xDrop] at hj ⊢
    split at hj
    · rename_i hc
      rw [if_pos hc]
      show xPls (xNpu (xDrop N w t n).2 (w + 11 + (xDrop N w t n).1) ((xDrop N w t n).2 (w + 11 + n) 0) ((xDrop N w t n).2 (w + 11 + n) 1) ((xDrop N w t n).2 (w + 11 + n) 2)) (w + 11 + j)
      have hj : j < (xDrop N w t n).1 + 1 := hj
      by_cases hq : j = (xDrop N w t n).1
      · rw [hq]
        unfold xPls xNpu at *
        simp only [if_true]
        exact hlast
      · have k := ih j (by omega)
        unfold xPls xNpu at *
        rw [if_neg (by omega), if_neg (by omega), if_neg (by omega)]
        exact k
    · rename_i hc
      rw [if_neg hc]
      exact ih j hj
/-- a river's numbers after an hour that stay -/
theorem xpass_row {r b : Nat} (hr : r < 8) (hb : b < 9) (h4 : b ≠ 4) : (xPass N w).2 (w + 3 + r) b = N (w + 3 + r) b := by
  show xDropN (xPe N w) w (w + 3 + r) b = _
  unfold xDropN xupN
  rw [if_neg (by omega), xDrop_off _ (Or.inl (by omega))]
  unfold xPe xupN
  rw [if_neg (by omega)]
  unfold xPd xupN
  rw [if_neg (by omega)]
  unfold xPc
  rw [xP2_off _ (Or.inl h4) (Or.inl (by omega))]
  unfold xPb xupN
  rw [if_neg (by omega)]
  unfold xPa
  exact xP1_off _ (Or.inl hb)
theorem xpass_cnt : (xPass N w).2 w 2 = N w 2 := by
  show xDropN (xPe N w) w w 2 = _
  unfold xDropN xupN
  rw [if_neg (by omega), xDrop_off _ (Or.inl (by omega))]
  unfold xPe xupN
  rw [if_neg (by omega)]
  unfold xPd xupN
  rw [if_neg (by omega)]
  unfold xPc
  rw [xP2_off _ (Or.inl (by decide)) (Or.inr (by omega))]
  unfold xPb xupN
  rw [if_neg (by omega)]
  unfold xPa
  exact xP1_off _ (Or.inl (by decide))
theorem xpe_keep {b : Nat} (hb : b = 3 ∨ b = 4) : xPd N w w b = N w b := by
  unfold xPd xupN
  rw [if_neg (by omega)]
  unfold xPc
  rw [xP2_off _ (Or.inr (Or.inl (by omega))) (Or.inr (by omega))]
  unfold xPb xupN
  rw [if_neg (by omega)]
  unfold xPa
  exact xP1_off _ (Or.inl (by omega))
theorem xpe_pls {r b : Nat} (hb : b < 3) : xPe N w (w + 11 + r) b = N (w + 11 + r) b := by
  have c2 := xcnt_le (N w 2)
  unfold xPe xupN
  rw [if_neg (by omega)]
  unfold xPd xupN
  rw [if_neg (by omega)]
  unfold xPc
  rw [xP2_off _ (Or.inl (by omega)) (Or.inl (by omega))]
  unfold xPb xupN
  rw [if_neg (by omega)]
  unfold xPa
  exact xP1_off _ (Or.inl (by omega))
theorem xgd_pass (hg : xGd N w V H) (hV : V ≤ 10000000) : xGd (xPass N w).2 w (V + 1650) (H + 1) ∧ xBnd (xPass N w).1 0 1600 := by
  have hhd : ∀ t, xBnd (xfHead N w t) 0 1600 := fun t => xgd_head hg
  obtain ⟨n, p, t, ⟨e2, e3, e4⟩, ⟨h2, h3, h4⟩, hR, hP⟩ := hg
  have hcn : xcnt (N w 2) = n := by rw [e2]; exact xcnt_n h2
  have hpa : ∀ b, b < 9 → ∀ a, xPa N w a b = N a b := fun b hb a => by unfold xPa; exact xP1_off _ (Or.inl hb)
  have hph : xPh N w = xfHead N w (N w 4) := by
    unfold xPh
    rw [hpa 4 (by decide) w]
    refine xsm_head ⟨fun b _ _ => hpa b (by omega) _, fun r b _ _ => hpa b (by omega) _, fun r b _ _ => hpa b (by omega) _⟩
  obtain ⟨hd, ehd, -, hhd2⟩ := hhd (N w 4)
  have hout : ∀ r, r < n → ∃ o v, xPb N w (w + 3 + r) 10 = Int32.ofNat o ∧ (N (w + 3 + r) 4 = Int32.ofNat v ∧ (v ≤ V ∧ (o ≤ v ∧ o ≤ 500))) := by
    intro r hr
    obtain ⟨o, v, h5⟩ := xgd_out (hR r hr) hV (by omega)
    refine ⟨o, v, ?_, h5.2⟩
    rw [← h5.1]
    unfold xPb xupN
    rw [if_neg (by omega)]
    unfold xPa
    rw [hcn]
    exact xp1_out n h2 r hr
  have harr : ∀ r, r < n → ∃ a, (if r = 0 then xPh N w else xPb N w (w + 3 + (r - 1)) 10) = Int32.ofNat a ∧ a ≤ 1600 := by
    intro r hr
    by_cases hr0 : r = 0
    · rw [if_pos hr0, hph]
      exact ⟨hd, ehd, hhd2⟩
    · rw [if_neg hr0]
      obtain ⟨o, v, h5, -, -, -, h6⟩ := hout (r - 1) (by omega)
      exact ⟨o, h5, by omega⟩
  have hvol : ∀ r, r < n → xBnd ((xPass N w).2 (w + 3 + r) 4) 0 (V + 1650) := by
    intro r hr
    obtain ⟨o, v, ho, hv, hvV, hov, -⟩ := hout r hr
    obtain ⟨a, ha, ha2⟩ := harr r hr
    obtain ⟨-, -, -, ⟨l, el, -, hl⟩, -⟩ := hR r hr
    have hb : ∀ b, b < 9 → xPb N w (w + 3 + r) b = N (w + 3 + r) b := by
      intro b hb
      unfold xPb xupN
      rw [if_neg (by omega)]
      exact hpa b hb _
    have e : (xPass N w).2 (w + 3 + r) 4 = Int32.ofNat (v + a + l - o) := by
      show xDropN (xPe N w) w (w + 3 + r) 4 = _
      unfold xDropN xupN
      rw [if_neg (by omega), xDrop_off _ (Or.inl (by omega))]
      unfold xPe xupN
      rw [if_neg (by omega)]
      unfold xPd xupN
      rw [if_neg (by omega)]
      unfold xPc
      rw [hcn, xp2_vol n r hr, ha, ho, hb 4 (by decide), hb 3 (by decide), hv, el]
      exact xi_flow (by omega) (by omega) (by omega) hov
    exact ⟨v + a + l - o, e, Nat.zero_le _, by omega⟩
  have hdl := xDrop_le (N := xPe N w) (w := w) (t := xPe N w w 4) (xcnt (xPe N w w 3))
  have hc3 := xcnt_le (xPe N w w 3)
  have e33 : xPe N w w 3 = N w 3 := by
    unfold xPe xupN
    rw [if_neg (by omega)]
    exact xpe_keep (Or.inl rfl)
  have hcp : xcnt (xPe N w w 3) = p := by rw [e33, e3]; exact xcnt_n h3
  refine ⟨⟨n, (xDrop (xPe N w) w (xPe N w w 4) (xcnt (xPe N w w 3))).1, t + 1, ⟨?_, ?_, ?_⟩, ⟨h2, by omega, by omega⟩, fun r hr => ?_, fun r hr => ?_⟩, ?_⟩
  · rw [xpass_cnt]; exact e2
  · show xDropN (xPe N w) w w 3 = _
    unfold xDropN xupN
    rw [if_pos ⟨rfl, rfl⟩]
  · show xDropN (xPe N w) w w 4 = _
    unfold xDropN xupN
    rw [if_neg (by omega), xDrop_off _ (Or.inl (by omega))]
    unfold xPe xupN
    rw [if_pos ⟨rfl, rfl⟩, xpe_keep (Or.inr rfl), e4, Int32.ofNat_add]
    rfl
  · obtain ⟨k0, k1, k2, k3, -, k5, k6, k7, k8⟩ := hR r hr
    have hr8 : r < 8 := by omega
    refine ⟨?_, ?_, ?_, ?_, hvol r hr, ?_, ?_, ?_, ?_⟩
    · rw [xpass_row hr8 (by decide) (by decide)]; exact k0
    · rw [xpass_row hr8 (by decide) (by decide)]; exact k1
    · rw [xpass_row hr8 (by decide) (by decide)]; exact k2
    · rw [xpass_row hr8 (by decide) (by decide)]; exact k3
    · rw [xpass_row hr8 (by decide) (by decide)]; exact k5
    · rw [xpass_row hr8 (by decide) (by decide)]; exact k6
    · rw [xpass_row hr8 (by decide) (by decide)]; exact k7
    · rw [xpass_row hr8 (by decide) (by decide)]; exact k8
  · have k := xpls_drop (N := xPe N w) (w := w) (t := xPe N w w 4) (p := p) p (Nat.le_refl _) (fun r hr => by
      have k := hP r hr
      unfold xPls at k ⊢
      rw [xpe_pls (by decide), xpe_pls (by decide), xpe_pls (by decide)]
      exact k)
    rw [hcp] at hr
    have k := k r hr
    unfold xPls at k ⊢
    have e : ∀ b, (xPass N w).2 (w + 11 + r) b = (xDrop (xPe N w) w (xPe N w w 4) p).2 (w + 11 + r) b := by
      intro b
      show xDropN (xPe N w) w (w + 11 + r) b = _
      unfold xDropN xupN
      rw [if_neg (by omega), hcp]
    rw [e, e, e]
    exact k
  · show xBnd (xP2 w (xPh N w) (xPb N w) (xcnt (N w 2))).1 0 1600
    rw [hcn, xp2_arr]
    by_cases hn0 : n = 0
    · rw [if_pos hn0, hph]
      exact ⟨hd, ehd, Nat.zero_le _, hhd2⟩
    · rw [if_neg hn0]
      obtain ⟨o, v, h5, -, -, -, h6⟩ := hout (n - 1) (by omega)
      exact ⟨o, h5, Nat.zero_le _, by omega⟩
theorem xgd_letN (hg : xGd N w V H) : ∀ n, V + 1650 * n ≤ 10000000 → xGd (xLet N w n).2 w (V + 1650 * n) (H + n) ∧ xBnd (xLet N w n).1 0 (1600 * n) := by
  intro n
  induction n with
  | zero => intro _; exact ⟨hg, 0, rfl, Nat.le_refl _, Nat.le_refl _⟩
  | succ n ih =>
    intro hn
    obtain ⟨g1, ⟨a, ea, -, ha⟩⟩ := ih (by omega)
    obtain ⟨g2, ⟨b, eb, -, hb⟩⟩ := xgd_pass g1 (by omega)
    refine ⟨?_, ?_⟩
    · show xGd (xPass (xLet N w n).2 w).2 w _ _
      exact xGd_mono g2 (Nat.le_of_eq (by rw [Nat.mul_succ, Nat.add_assoc])) (Nat.le_refl _)
    · show xBnd ((xLet N w n).1 + (xPass (xLet N w n).2 w).1) 0 _
      rw [ea, eb]
      refine ⟨a + b, (Int32.ofNat_add a b).symm, Nat.zero_le _, ?_⟩
      rw [Nat.mul_succ]
      exact Nat.add_le_add ha hb
end XGP
