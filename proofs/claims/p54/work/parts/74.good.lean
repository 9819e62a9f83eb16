/-! GOOD RIVERS: their numbers keep to bounds -/
def xBnd (x : Int32) (lo hi : Nat) : Prop := ∃ n, x = Int32.ofNat n ∧ (lo ≤ n ∧ n ≤ hi)
theorem xBnd_mono {x : Int32} {lo hi hi' : Nat} (h : xBnd x lo hi) (hh : hi ≤ hi') : xBnd x lo hi' := by
  obtain ⟨n, e, h1, h2⟩ := h
  exact ⟨n, e, h1, by omega⟩
theorem xBnd_win {x a b : Int32} {lo hi : Nat} (h : xwin x a b = true) (ha : a.toInt = lo) (hb : b.toInt = hi) : xBnd x lo hi := by
  unfold xwin at h
  simp only [Bool.and_eq_true, decide_eq_true_eq] at h
  obtain ⟨h1, h2⟩ := h
  rw [Int32.le_iff_toInt_le, ha] at h1
  rw [Int32.le_iff_toInt_le, hb] at h2
  have hlt := x.toInt_lt
  refine ⟨x.toInt.toNat, ?_, by omega, by omega⟩
  apply Int32.toInt_inj.mp
  rw [(xi_ofNat (n := x.toInt.toNat) (by omega)).1]
  omega
theorem xwin_of {n lo hi : Nat} {a b : Int32} (h1 : lo ≤ n) (h2 : n ≤ hi) (hn : n < 2147483648) (ha : a.toInt = lo) (hb : b.toInt = hi) : xwin (Int32.ofNat n) a b = true := by
  unfold xwin
  rw [decide_eq_true, decide_eq_true]
  · rfl
  · rw [Int32.le_iff_toInt_le, (xi_ofNat hn).1, hb]
    omega
  · rw [Int32.le_iff_toInt_le, (xi_ofNat hn).1, ha]
    omega
theorem xi_mul (m n : Nat) : Int32.ofNat m * Int32.ofNat n = Int32.ofNat (m * n) := (Int32.ofNat_mul m n).symm
theorem xi_div {m n : Nat} (hm : m < 2147483648) (hn : n < 2147483648) (h0 : n ≠ 0) : Int32.ofNat m / Int32.ofNat n = Int32.ofNat (m / n) := by
  have hd : m / n ≤ m := Nat.div_le_self _ _
  apply Int32.toInt_inj.mp
  have hne : Int32.ofNat n ≠ -1 := by
    intro e
    have := congrArg Int32.toInt e
    rw [(xi_ofNat hn).1, show (-1 : Int32).toInt = -1 from rfl] at this
    omega
  rw [Int32.toInt_div_of_ne_right _ _ hne, (xi_ofNat hm).1, (xi_ofNat hn).1, (xi_ofNat (n := m / n) (by omega)).1]
  rfl
/-- a volume after an hour -/
theorem xi_flow {v a l o : Nat} (hv : v < 1000000000) (ha : a < 1000000) (hl : l < 1000000) (ho : o ≤ v) : Int32.ofNat v + (Int32.ofNat a + Int32.ofNat l - Int32.ofNat o) = Int32.ofNat (v + a + l - o) := by
  apply Int32.toInt_inj.mp
  have e1 : (Int32.ofNat a + Int32.ofNat l).toInt = (a : Int) + l := by
    rw [Int32.toInt_add, (xi_ofNat (n := a) (by omega)).1, (xi_ofNat (n := l) (by omega)).1]
    exact Int.bmod_eq_of_le (by omega) (by omega)
  have e2 : (Int32.ofNat a + Int32.ofNat l - Int32.ofNat o).toInt = (a : Int) + l - o := by
    rw [Int32.toInt_sub, e1, (xi_ofNat (n := o) (by omega)).1]
    exact Int.bmod_eq_of_le (by omega) (by omega)
  rw [Int32.toInt_add, e2, (xi_ofNat (n := v) (by omega)).1, (xi_ofNat (n := v + a + l - o) (by omega)).1, Int.bmod_eq_of_le (by omega) (by omega)]
  omega
/-- the numbers of a reach -/
def xRch (N : Nat → Nat → Int32) (i V : Nat) : Prop := xBnd (N i 0) 1 50 ∧ (xBnd (N i 1) 5 60 ∧ (xBnd (N i 2) 1 500 ∧ (xBnd (N i 3) 0 50 ∧ (xBnd (N i 4) 0 V ∧ (xBnd (N i 5) 1 998 ∧ (xBnd (N i 6) 2 999 ∧ (xBnd (N i 7) 0 100 ∧ (N i 8 = 102 ∨ (N i 8 = 104 ∨ N i 8 = 114)))))))))
def xPls (N : Nat → Nat → Int32) (i : Nat) : Prop := xBnd (N i 0) 0 999 ∧ (xBnd (N i 1) 1 24 ∧ xBnd (N i 2) 1 200)
def xGd (N : Nat → Nat → Int32) (w V H : Nat) : Prop := ∃ n p h, (N w 2 = Int32.ofNat n ∧ (N w 3 = Int32.ofNat p ∧ N w 4 = Int32.ofNat h)) ∧ ((n ≤ 8 ∧ (p ≤ 8 ∧ h ≤ H)) ∧ ((∀ r, r < n → xRch N (w + 3 + r) V) ∧ ∀ r, r < p → xPls N (w + 11 + r)))
theorem xGd_sm {N M : Nat → Nat → Int32} {w v V H : Nat} (h : xSm N M w v) (hg : xGd N w V H) : xGd M v V H := by
  obtain ⟨n, p, t, ⟨h1, h2, h3⟩, ⟨h4, h5, h6⟩, h7, h8⟩ := hg
  refine ⟨n, p, t, ⟨?_, ?_, ?_⟩, ⟨h4, h5, h6⟩, fun r hr => ?_, fun r hr => ?_⟩
  · rw [← h.1 2 (by decide) (by decide)]; exact h1
  · rw [← h.1 3 (by decide) (by decide)]; exact h2
  · rw [← h.1 4 (by decide) (by decide)]; exact h3
  · have k := h7 r hr
    unfold xRch at k ⊢
    rw [← h.2.1 r 0 (by omega) (by decide), ← h.2.1 r 1 (by omega) (by decide), ← h.2.1 r 2 (by omega) (by decide), ← h.2.1 r 3 (by omega) (by decide), ← h.2.1 r 4 (by omega) (by decide), ← h.2.1 r 5 (by omega) (by decide), ← h.2.1 r 6 (by omega) (by decide), ← h.2.1 r 7 (by omega) (by decide), ← h.2.1 r 8 (by omega) (by decide)]
    exact k
  · have k := h8 r hr
    unfold xPls at k ⊢
    rw [← h.2.2 r 0 (by omega) (by decide), ← h.2.2 r 1 (by omega) (by decide), ← h.2.2 r 2 (by omega) (by decide)]
    exact k
theorem xRch_mono {N : Nat → Nat → Int32} {i V V' : Nat} (h : xRch N i V) (hV : V ≤ V') : xRch N i V' := by
  obtain ⟨h0, h1, h2, h3, h4, h5⟩ := h
  exact ⟨h0, h1, h2, h3, xBnd_mono h4 hV, h5⟩
theorem xGd_mono {N : Nat → Nat → Int32} {w V V' H H' : Nat} (h : xGd N w V H) (hV : V ≤ V') (hH : H ≤ H') : xGd N w V' H' := by
  obtain ⟨n, p, t, h1, ⟨h4, h5, h6⟩, h7, h8⟩ := h
  exact ⟨n, p, t, h1, ⟨h4, h5, by omega⟩, fun r hr => xRch_mono (h7 r hr) hV, h8⟩
section XGO
variable {N : Nat → Nat → Int32} {w V H : Nat}
theorem xi_min (a b : Nat) (ha : a < 2147483648) (hb : b < 2147483648) : xmin (Int32.ofNat a) (Int32.ofNat b) = Int32.ofNat (min a b) := by
  unfold xmin
  by_cases h : b < a
  · rw [if_pos ((xi_lt hb ha).mpr h)]
    congr 1
    omega
  · rw [if_neg (fun q => h ((xi_lt hb ha).mp q))]
    congr 1
    omega
theorem xi_max (a b : Nat) (ha : a < 2147483648) (hb : b < 2147483648) : xmax (Int32.ofNat a) (Int32.ofNat b) = Int32.ofNat (max a b) := by
  unfold xmax
  by_cases h : a < b
  · rw [if_pos ((xi_lt ha hb).mpr h)]
    congr 1
    omega
  · rw [if_neg (fun q => h ((xi_lt ha hb).mp q))]
    congr 1
    omega
theorem xgd_open {r V : Nat} (hR : xRch N (w + 3 + r) V) (hr : r < 8) : xBnd (xfOpen N w (Int32.ofNat r)) 0 100 := by
  obtain ⟨-, -, -, -, -, -, -, ⟨s, e7, h7⟩, -⟩ := hR
  unfold xfOpen
  rw [(xi_ofNat (n := r) (by omega)).2.1]
  split
  · exact ⟨100, rfl, by omega, by omega⟩
  · split
    · refine ⟨s / 2, ?_, by omega, by omega⟩
      rw [e7]
      exact xi_div (n := 2) (by omega) (by decide) (by decide)
    · exact ⟨s, e7, h7.1, h7.2⟩
/-- the outflow: at most the volume, at most 500 -/
theorem xgd_out {r V : Nat} (hR : xRch N (w + 3 + r) V) (hV : V ≤ 10000000) (hr : r < 8) : ∃ o v, xfOut N w (Int32.ofNat r) = Int32.ofNat o ∧ (N (w + 3 + r) 4 = Int32.ofNat v ∧ (v ≤ V ∧ (o ≤ v ∧ o ≤ 500))) := by
  obtain ⟨oo, eo, -, ho⟩ := xgd_open (N := N) (w := w) hR hr
  obtain ⟨-, ⟨p, e1, h1⟩, ⟨c, e2, h2⟩, -, ⟨v, e4, h4⟩, -⟩ := hR
  have hvp : v * p ≤ 10000000 * 60 := Nat.mul_le_mul (by omega) (by omega)
  have hco : c * oo ≤ 500 * 100 := Nat.mul_le_mul (by omega) (by omega)
  refine ⟨min (v * p / 100) (c * oo / 100), v, ?_, e4, h4.2, ?_, ?_⟩
  · unfold xfOut
    rw [(xi_ofNat (n := r) (by omega)).2.1, eo, e1, e2, e4, xi_mul, xi_mul]
    rw [show (100 : Int32) = Int32.ofNat 100 from rfl, xi_div (by omega) (by decide) (by decide), xi_div (by omega) (by decide) (by decide)]
    exact xi_min _ _ (by omega) (by omega)
  · have : v * p ≤ v * 60 := Nat.mul_le_mul (Nat.le_refl _) (by omega)
    omega
  · omega
theorem xgd_headN {p : Nat} {t : Int32} (h : ∀ r, r < p → xPls N (w + 11 + r)) : ∀ n, n ≤ p → xBnd (xfHeadN N w t n) 0 (200 * n) := by
  intro n
  induction n with
  | zero => intro _; exact ⟨0, rfl, Nat.le_refl _, Nat.zero_le _⟩
  | succ n ih =>
    intro hn
    obtain ⟨a, ea, h1⟩ := ih (by omega)
    obtain ⟨-, -, ⟨q, eq, h2⟩⟩ := h n (by omega)
    rw [xfHeadN, ea]
    unfold xrate
    split
    · rw [eq]
      exact ⟨a + q, (Int32.ofNat_add a q).symm, by omega, by omega⟩
    · exact ⟨a, Int32.add_zero _, by omega, by omega⟩
theorem xcnt_n {n : Nat} (hn : n ≤ 8) : xcnt (Int32.ofNat n) = n := by
  have := (show ∀ n, n ≤ 8 → xcnt (Int32.ofNat n) = n by decide) n hn
  exact this
theorem xgd_head {t : Int32} (hg : xGd N w V H) : xBnd (xfHead N w t) 0 1600 := by
  obtain ⟨n, p, h, ⟨h1, h2, h3⟩, ⟨h4, h5, h6⟩, h7, h8⟩ := hg
  unfold xfHead
  rw [h2, xcnt_n h5]
  exact xBnd_mono (xgd_headN h8 p (Nat.le_refl _)) (by omega)
theorem xgd_level {r V : Nat} (hR : xRch N (w + 3 + r) V) (hV : V ≤ 10000000) : xBnd (xlvl (N (w + 3 + r) 0) (N (w + 3 + r) 4)) 0 V := by
  obtain ⟨⟨s, e0, h0⟩, -, -, -, ⟨v, e4, h4⟩, -⟩ := hR
  unfold xlvl
  rw [e0, e4, if_neg (fun q => ?_)]
  · refine ⟨v / s, xi_div (by omega) (by omega) (by omega), Nat.zero_le _, ?_⟩
    exact Nat.le_trans (Nat.div_le_self _ _) h4.2
  · have q : Int32.ofNat s < Int32.ofNat 1 := q
    rw [xi_lt (by omega) (by decide)] at q
    omega
end XGO
