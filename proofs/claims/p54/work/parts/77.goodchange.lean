/-! A CHANGE KEEPS A RIVER GOOD, or is refused and changes nothing -/
def xCh (N : Nat → Nat → Int32) (w V H : Nat) (r : Int32 × (Nat → Nat → Int32)) : Prop := ((r.1 = -1 ∨ (r.1 = -2 ∨ (r.1 = -3 ∨ (r.1 = -4 ∨ (r.1 = -11 ∨ r.1 = -12))))) ∧ r.2 = N) ∨ ∃ a, r.1 = Int32.ofNat a ∧ (a < 1000000000 ∧ xGd r.2 w V H)
section XGC
variable {N M : Nat → Nat → Int32} {w V V' H : Nat} {x f s p c : Int32}
theorem xGd_mk {r : Nat} (hg : xGd N w V H) (h2 : M w 2 = N w 2) (h3 : M w 3 = N w 3) (h4 : M w 4 = N w 4) (hV : V ≤ V') (hrows : ∀ r', r' < 8 → r' ≠ r → ∀ b, b < 9 → M (w + 3 + r') b = N (w + 3 + r') b) (hpul : ∀ r', r' < 8 → ∀ b, b < 3 → M (w + 11 + r') b = N (w + 11 + r') b) (hr : xRch M (w + 3 + r) V') : xGd M w V' H := by
  obtain ⟨n, p, t, ⟨e2, e3, e4⟩, ⟨a2, a3, a4⟩, hR, hP⟩ := hg
  refine ⟨n, p, t, ⟨h2.trans e2, h3.trans e3, h4.trans e4⟩, ⟨a2, a3, a4⟩, fun r' hr' => ?_, fun r' hr' => ?_⟩
  · by_cases hq : r' = r
    · rw [hq]; exact hr
    · have k := xRch_mono (hR r' hr') hV
      have e := hrows r' (by omega) hq
      unfold xRch at k ⊢
      rw [e 0 (by decide), e 1 (by decide), e 2 (by decide), e 3 (by decide), e 4 (by decide), e 5 (by decide), e 6 (by decide), e 7 (by decide), e 8 (by decide)]
      exact k
  · have k := hP r' hr'
    have e := hpul r' (by omega)
    unfold xPls at k ⊢
    rw [e 0 (by decide), e 1 (by decide), e 2 (by decide)]
    exact k
/-- the reach asked for is there, and good -/
theorem xgd_has (hg : xGd N w V H) (hx : xhas N w x = true) : ∃ n, N w 2 = Int32.ofNat n ∧ (n ≤ 8 ∧ (x.toNatClampNeg < n ∧ xRch N (w + 3 + x.toNatClampNeg) V)) := by
  obtain ⟨n, p, t, ⟨e2, e3, e4⟩, ⟨a2, a3, a4⟩, hR, hP⟩ := hg
  have h8 := xhas_lt hx
  unfold xhas at hx
  simp only [Bool.and_eq_true, decide_eq_true_eq] at hx
  obtain ⟨k1, k2, -⟩ := hx
  rw [e2, Int32.lt_iff_toInt_lt, (xi_ofNat (n := n) (by omega)).1] at k2
  rw [Int32.le_iff_toInt_le, show (0 : Int32).toInt = 0 from rfl] at k1
  have hlt : x.toNatClampNeg < n := by
    have := (xlp_max x).2
    omega
  exact ⟨n, e2, a2, hlt, hR _ hlt⟩
theorem xgd_lat (hg : xGd N w V H) : xCh N w V H (xfLat N w x f) := by
  unfold xfLat
  split
  · exact Or.inl ⟨Or.inr (Or.inr (Or.inr (Or.inr (Or.inl rfl)))), rfl⟩
  · rename_i hh
    split
    · exact Or.inl ⟨Or.inr (Or.inr (Or.inr (Or.inr (Or.inr rfl)))), rfl⟩
    · rename_i hf
      split
      · exact Or.inl ⟨Or.inr (Or.inr (Or.inr (Or.inl rfl))), rfl⟩
      · obtain ⟨n, -, h8, hlt, k0, k1, k2, ⟨l, el, h3⟩, k4, k5, k6, k7, k8⟩ := xgd_has hg (by simpa using hh)
        have hfb : xBnd f 0 50 := xBnd_win (by simpa using hf) rfl rfl
        generalize x.toNatClampNeg = r at *
        refine Or.inr ⟨l, el, by omega, ?_⟩
        refine xGd_mk (r := r) hg ?_ ?_ ?_ (Nat.le_refl _) (fun r' h1 h2 b h3 => ?_) (fun r' h1 b h3 => ?_) ?_
        · show xupN N _ 3 f w 2 = _; unfold xupN; rw [if_neg (by omega)]
        · show xupN N _ 3 f w 3 = _; unfold xupN; rw [if_neg (by omega)]
        · show xupN N _ 3 f w 4 = _; unfold xupN; rw [if_neg (by omega)]
        · show xupN N _ 3 f _ b = _; unfold xupN; rw [if_neg (by omega)]
        · show xupN N _ 3 f _ b = _; unfold xupN; rw [if_neg (by omega)]
        · show xRch (xupN N (w + 3 + r) 3 f) (w + 3 + r) V
          unfold xRch xupN
          simp
          exact ⟨k0, k1, k2, hfb, k4, k5, k6, k7, k8⟩
theorem xgd_set (hg : xGd N w V H) : xCh N w V H (xfSet N w x f) := by
  unfold xfSet
  split
  · exact Or.inl ⟨Or.inr (Or.inr (Or.inr (Or.inr (Or.inl rfl)))), rfl⟩
  · rename_i hh
    split
    · exact Or.inl ⟨Or.inr (Or.inr (Or.inr (Or.inr (Or.inr rfl)))), rfl⟩
    · rename_i hf
      split
      · exact Or.inl ⟨Or.inr (Or.inr (Or.inr (Or.inl rfl))), rfl⟩
      · obtain ⟨n, -, h8, hlt, k0, k1, k2, k3, k4, k5, k6, ⟨l, el, h7⟩, k8⟩ := xgd_has hg (by simpa using hh)
        have hfb : xBnd f 0 100 := xBnd_win (by simpa using hf) rfl rfl
        generalize x.toNatClampNeg = r at *
        refine Or.inr ⟨l, el, by omega, ?_⟩
        refine xGd_mk (r := r) hg ?_ ?_ ?_ (Nat.le_refl _) (fun r' h1 h2 b h3 => ?_) (fun r' h1 b h3 => ?_) ?_
        · show xupN N _ 7 f w 2 = _; unfold xupN; rw [if_neg (by omega)]
        · show xupN N _ 7 f w 3 = _; unfold xupN; rw [if_neg (by omega)]
        · show xupN N _ 7 f w 4 = _; unfold xupN; rw [if_neg (by omega)]
        · show xupN N _ 7 f _ b = _; unfold xupN; rw [if_neg (by omega)]
        · show xupN N _ 7 f _ b = _; unfold xupN; rw [if_neg (by omega)]
        · show xRch (xupN N (w + 3 + r) 7 f) (w + 3 + r) V
          unfold xRch xupN
          simp
          exact ⟨k0, k1, k2, k3, k4, k5, k6, hfb, k8⟩
theorem xgd_let (hg : xGd N w V H) (hV : V ≤ 1000000) : xCh N w (V + 79200) (H + 48) (xfLet N w x) := by
  unfold xfLet
  split
  · exact Or.inl ⟨Or.inr (Or.inr (Or.inr (Or.inr (Or.inr rfl)))), rfl⟩
  · rename_i hx
    split
    · exact Or.inl ⟨Or.inr (Or.inr (Or.inl rfl)), rfl⟩
    · obtain ⟨n, en, h1, h2⟩ := xBnd_win (lo := 1) (hi := 48) (show xwin x 1 48 = true by simpa using hx) rfl rfl
      rw [en, (xi_ofNat (n := n) (by omega)).2.1]
      obtain ⟨g1, ⟨a, ea, -, ha⟩⟩ := xgd_letN hg n (by omega)
      exact Or.inr ⟨a, ea, by omega, xGd_mono g1 (by omega) (by omega)⟩
end XGC
