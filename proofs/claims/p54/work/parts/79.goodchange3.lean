/-! THE LAST CHANGES, every command; the rules' signs stay signs -/
section XGF
variable {N M : Nat → Nat → Int32} {w V V' H : Nat} {x y z f s p c : Int32}
theorem xgd_cut (hg : xGd N w V H) (hV : V ≤ 1000000) : xCh N w V H (xfCut N w) := by
  unfold xfCut
  split
  · exact Or.inl ⟨Or.inr (Or.inr (Or.inl rfl)), rfl⟩
  · rename_i hh
    have hh2 : xhas N w (N w 2 - 1) = true := by simpa using hh
    obtain ⟨n, e2, h8, hlt, k⟩ := xgd_has hg hh2
    obtain ⟨n', q, t, ⟨e2', e3, e4⟩, ⟨a2, a3, a4⟩, hR, hP⟩ := hg
    have hnn : n' = n := by
      have h1 := congrArg Int32.toInt (e2.symm.trans e2')
      rw [(xi_ofNat (n := n) (by omega)).1, (xi_ofNat (n := n') (by omega)).1] at h1
      omega
    subst hnn
    obtain ⟨-, -, -, -, ⟨v, ev, -, hv⟩, -⟩ := k
    have hn0 : 0 < n' := by omega
    have em : N w 2 - 1 = Int32.ofNat (n' - 1) := by
      rw [e2]
      exact xi_subN (a := n') (b := 1) (by omega) (by omega)
    have hoff : ∀ a b, ¬ (a = w ∧ b = 6) → ¬ (a = w ∧ b = 2) → xNcut N w (N (w + 3 + (N w 2 - 1).toNatClampNeg) 4) a b = N a b := by
      intro a b h1 h2
      unfold xNcut xupN
      rw [if_neg h1, if_neg h2]
    refine Or.inr ⟨v, ev, by omega, n' - 1, q, t, ⟨?_, ?_, ?_⟩, ⟨by omega, a3, a4⟩, fun r hr => ?_, fun r hr => ?_⟩
    · show xNcut N w _ w 2 = _
      unfold xNcut xupN
      rw [if_neg (by omega), if_pos ⟨rfl, rfl⟩, em]
    · show xNcut N w _ w 3 = _
      rw [hoff _ _ (by omega) (by omega)]
      exact e3
    · show xNcut N w _ w 4 = _
      rw [hoff _ _ (by omega) (by omega)]
      exact e4
    · have k := hR r (by omega)
      show xRch (xNcut N w _) (w + 3 + r) V
      unfold xRch at k ⊢
      have e : ∀ b, xNcut N w (N (w + 3 + (N w 2 - 1).toNatClampNeg) 4) (w + 3 + r) b = N (w + 3 + r) b := fun b => hoff _ _ (by omega) (by omega)
      rw [e, e, e, e, e, e, e, e, e]
      exact k
    · have k := hP r hr
      show xPls (xNcut N w _) (w + 11 + r)
      unfold xPls at k ⊢
      have e : ∀ b, xNcut N w (N (w + 3 + (N w 2 - 1).toNatClampNeg) 4) (w + 11 + r) b = N (w + 11 + r) b := fun b => hoff _ _ (by omega) (by omega)
      rw [e, e, e]
      exact k
theorem xgd_pulse (hg : xGd N w V H) : xCh N w V H (xfPulse N w s p c) := by
  unfold xfPulse
  split
  · exact Or.inl ⟨Or.inr (Or.inr (Or.inr (Or.inr (Or.inr rfl)))), rfl⟩
  · rename_i hok
    split
    · exact Or.inl ⟨Or.inr (Or.inl rfl), rfl⟩
    · split
      · exact Or.inl ⟨Or.inl rfl, rfl⟩
      · rename_i hc
        obtain ⟨n, q, t, ⟨e2, e3, e4⟩, ⟨a2, a3, a4⟩, hR, hP⟩ := hg
        have hok2 : xpuOk s p c = true := by simpa using hok
        unfold xpuOk at hok2
        simp only [Bool.and_eq_true] at hok2
        have b1 : xBnd s 0 999 := xBnd_win hok2.1 rfl rfl
        have b2 : xBnd p 1 24 := xBnd_win hok2.2.1 rfl rfl
        have b3 : xBnd c 1 200 := xBnd_win hok2.2.2 rfl rfl
        have hn7 := xwin7_lt (x := N w 3) (by simpa using hc)
        have hrow : (N w 3).toNatClampNeg = q := by rw [e3]; exact (xi_ofNat (n := q) (by omega)).2.1
        rw [hrow] at hn7
        have hin : xNpz N w s p c (w + 11 + q) 0 = s ∧ (xNpz N w s p c (w + 11 + q) 1 = p ∧ xNpz N w s p c (w + 11 + q) 2 = c) := by
          unfold xNpz xupN
          rw [if_neg (by omega), if_neg (by omega), if_neg (by omega)]
          unfold xNpu
          rw [hrow, if_pos rfl, if_pos rfl, if_pos rfl]
          exact ⟨rfl, rfl, rfl⟩
        have hoff : ∀ a b, a ≠ w + 11 + q → ¬ (a = w ∧ b = 3) → xNpz N w s p c a b = N a b := by
          intro a b h1 h2
          unfold xNpz xupN
          rw [if_neg h2]
          unfold xNpu
          rw [hrow, if_neg h1]
        have e31 : N w 3 + 1 = Int32.ofNat (q + 1) := by
          rw [e3, Int32.ofNat_add]
          rfl
        refine Or.inr ⟨q + 1, e31, by omega, n, q + 1, t, ⟨?_, ?_, ?_⟩, ⟨a2, by omega, a4⟩, fun r hr => ?_, fun r hr => ?_⟩
        · show xNpz N w s p c w 2 = _
          rw [hoff _ _ (by omega) (by omega)]
          exact e2
        · show xNpz N w s p c w 3 = _
          unfold xNpz xupN
          rw [if_pos ⟨rfl, rfl⟩]
          exact e31
        · show xNpz N w s p c w 4 = _
          rw [hoff _ _ (by omega) (by omega)]
          exact e4
        · have k := hR r hr
          show xRch (xNpz N w s p c) (w + 3 + r) V
          unfold xRch at k ⊢
          have e : ∀ b, xNpz N w s p c (w + 3 + r) b = N (w + 3 + r) b := fun b => hoff _ _ (by omega) (by omega)
          rw [e, e, e, e, e, e, e, e, e]
          exact k
        · show xPls (xNpz N w s p c) (w + 11 + r)
          by_cases hq : r = q
          · rw [hq]
            unfold xPls
            rw [hin.1, hin.2.1, hin.2.2]
            exact ⟨b1, b2, b3⟩
          · have k := hP r (by omega)
            unfold xPls at k ⊢
            have e : ∀ b, xNpz N w s p c (w + 11 + r) b = N (w + 11 + r) b := fun b => hoff _ _ (by omega) (by omega)
            rw [e, e, e]
            exact k
theorem xCh_mono {r : Int32 × (Nat → Nat → Int32)} (h : xCh N w V H r) (hV : V ≤ V') {H' : Nat} (hH : H ≤ H') : xCh N w V' H' r := by
  rcases h with h | ⟨a, e, h1, h2⟩
  · exact Or.inl h
  · exact Or.inr ⟨a, e, h1, xGd_mono h2 hV hH⟩
theorem xgd_per {k : Nat} (hg : xGd N w V H) (hV : V ≤ 1000000) : xCh N w (V + 79200) (H + 48) (xfPer N w k x y z) := by
  unfold xfPer
  split
  · exact xCh_mono (xgd_append hg) (by omega) (by omega)
  · exact xCh_mono (xgd_cut hg hV) (by omega) (by omega)
  · exact xCh_mono (xgd_lat hg) (by omega) (by omega)
  · exact xCh_mono (xgd_pour hg hV) (by omega) (by omega)
  · exact xCh_mono (xgd_stages hg) (by omega) (by omega)
  · exact xCh_mono (xgd_set hg) (by omega) (by omega)
  · exact xCh_mono (xgd_rule hg) (by omega) (by omega)
  · exact xCh_mono (xgd_pulse hg) (by omega) (by omega)
  · exact xgd_let hg hV
end XGF
