/-! RIVERS ALIKE: what is asked of a river, and what becomes of it, depends on its numbers alone -/
def xSm (N M : Nat → Nat → Int32) (w v : Nat) : Prop := (∀ b, 2 ≤ b → b < 8 → N w b = M v b) ∧ (∀ r b, r < 8 → b < 9 → N (w + 3 + r) b = M (v + 3 + r) b) ∧ (∀ r b, r < 8 → b < 3 → N (w + 11 + r) b = M (v + 11 + r) b)
theorem xSm_refl (N : Nat → Nat → Int32) (w : Nat) : xSm N N w w := ⟨fun _ _ _ => rfl, fun _ _ _ _ => rfl, fun _ _ _ _ => rfl⟩
theorem xSm_symm {N M : Nat → Nat → Int32} {w v : Nat} (h : xSm N M w v) : xSm M N v w := ⟨fun b h1 h2 => (h.1 b h1 h2).symm, fun r b h1 h2 => (h.2.1 r b h1 h2).symm, fun r b h1 h2 => (h.2.2 r b h1 h2).symm⟩
theorem xSm_trans {N M O : Nat → Nat → Int32} {w v u : Nat} (h : xSm N M w v) (k : xSm M O v u) : xSm N O w u := ⟨fun b h1 h2 => (h.1 b h1 h2).trans (k.1 b h1 h2), fun r b h1 h2 => (h.2.1 r b h1 h2).trans (k.2.1 r b h1 h2), fun r b h1 h2 => (h.2.2 r b h1 h2).trans (k.2.2 r b h1 h2)⟩
/-- two memories that agree on a river's cells -/
theorem xSm_of {N M : Nat → Nat → Int32} {w : Nat} (h : ∀ a b, w ≤ a → a < w + 19 → N a b = M a b) : xSm N M w w := ⟨fun b _ _ => h w b (by omega) (by omega), fun r b hr _ => h _ b (by omega) (by omega), fun r b hr _ => h _ b (by omega) (by omega)⟩
theorem xSm_copy {N : Nat → Nat → Int32} {w v : Nat} : xSm (xNcopy N w v) N w v := by
  refine ⟨fun b h1 h2 => ?_, fun r b h1 h2 => ?_, fun r b h1 h2 => ?_⟩
  · unfold xNcopy
    rw [if_pos (by omega), show w - w + v = v from by omega]
  · unfold xNcopy
    rw [if_pos (by omega), show w + 3 + r - w + v = v + 3 + r from by omega]
  · unfold xNcopy
    rw [if_pos (by omega), show w + 11 + r - w + v = v + 11 + r from by omega]
theorem xNcopy_off {N : Nat → Nat → Int32} {w v a b : Nat} (h : a < w ∨ w + 19 ≤ a) : xNcopy N w v a b = N a b := by
  unfold xNcopy
  rw [if_neg (by omega)]
section XSM
variable {N M : Nat → Nat → Int32} {w v r : Nat} {x y z t : Int32}
theorem xsm_sta (h : xSm N M w v) (hr : r < 8) : xsta N (w + 3 + r) = xsta M (v + 3 + r) := by
  unfold xsta
  rw [h.2.1 r 4 hr (by decide), h.2.1 r 5 hr (by decide), h.2.1 r 6 hr (by decide), h.2.1 r 0 hr (by decide)]
theorem xsm_lvl (h : xSm N M w v) (hr : r < 8) : xlvl (N (w + 3 + r) 0) (N (w + 3 + r) 4) = xlvl (M (v + 3 + r) 0) (M (v + 3 + r) 4) := by
  rw [h.2.1 r 4 hr (by decide), h.2.1 r 0 hr (by decide)]
theorem xsm_has (h : xSm N M w v) : xhas N w x = xhas M v x := by
  unfold xhas
  rw [h.1 2 (by decide) (by decide)]
theorem xhas_lt (h : xhas N w x = true) : x.toNatClampNeg < 8 := by
  unfold xhas at h
  simp only [Bool.and_eq_true, decide_eq_true_eq] at h
  exact (xin8 h.1 h.2.2).2
theorem xsm_open (h : xSm N M w v) (hx : x.toNatClampNeg < 8) : xfOpen N w x = xfOpen M v x := by
  unfold xfOpen
  rw [xsm_has h, xsm_sta h hx, h.2.1 _ 8 hx (by decide), h.2.1 _ 7 hx (by decide)]
  cases hb : xhas M v (x + 1) with
  | false => simp
  | true => rw [xsm_sta h (xhas_lt hb)]
theorem xsm_out (h : xSm N M w v) (hx : x.toNatClampNeg < 8) : xfOut N w x = xfOut M v x := by
  unfold xfOut
  rw [xsm_open h hx, h.2.1 _ 4 hx (by decide), h.2.1 _ 1 hx (by decide), h.2.1 _ 2 hx (by decide)]
theorem xsm_rate (h : xSm N M w v) (hr : r < 8) : xrate N (w + 11 + r) t = xrate M (v + 11 + r) t := by
  unfold xrate
  rw [h.2.2 r 0 hr (by decide), h.2.2 r 1 hr (by decide), h.2.2 r 2 hr (by decide)]
theorem xsm_headN (h : xSm N M w v) : ∀ n, n ≤ 8 → xfHeadN N w t n = xfHeadN M v t n := by
  intro n
  induction n with
  | zero => intro _; rfl
  | succ n ih =>
    intro hn
    rw [xfHeadN, xfHeadN, ih (by omega), xsm_rate h (by omega)]
theorem xsm_head (h : xSm N M w v) : xfHead N w t = xfHead M v t := by
  unfold xfHead
  rw [h.1 3 (by decide) (by decide)]
  exact xsm_headN h _ (xcnt_le _)
theorem xsm_sumN {f g : Nat → Int32} : ∀ n, (∀ r, r < n → f r = g r) → xfSumN f n = xfSumN g n := by
  intro n
  induction n with
  | zero => intro _; rfl
  | succ n ih =>
    intro hn
    rw [xfSumN, xfSumN, ih (fun r hr => hn r (by omega)), hn n (by omega)]
theorem xsm_vol (h : xSm N M w v) : xfVol N w = xfVol M v := by
  unfold xfVol
  rw [h.1 2 (by decide) (by decide)]
  have := xcnt_le (M v 2)
  exact xsm_sumN _ (fun r hr => h.2.1 r 4 (by omega) (by decide))
theorem xsm_lvs (h : xSm N M w v) : xfLvs N w = xfLvs M v := by
  unfold xfLvs
  rw [h.1 2 (by decide) (by decide)]
  have := xcnt_le (M v 2)
  exact xsm_sumN _ (fun r hr => xsm_lvl h (by omega))
theorem xsm_flN (h : xSm N M w v) : ∀ n, n ≤ 8 → xfFlN N w n = xfFlN M v n := by
  intro n
  induction n with
  | zero => intro _; rfl
  | succ n ih =>
    intro hn
    rw [xfFlN, xfFlN, ih (by omega), xsm_sta h (by omega)]
theorem xsm_fl (h : xSm N M w v) : xfFl N w = xfFl M v := by
  unfold xfFl
  rw [h.1 2 (by decide) (by decide)]
  exact xsm_flN h _ (xcnt_le _)
theorem xsm_enN (h : xSm N M w v) : ∀ n, n ≤ 8 → xEnN N w n = xEnN M v n := by
  intro n
  induction n with
  | zero => intro _; exact h.1 4 (by decide) (by decide)
  | succ n ih =>
    intro hn
    rw [xEnN, xEnN, ih (by omega), h.2.2 n 0 (by omega) (by decide), h.2.2 n 1 (by omega) (by decide)]
theorem xsm_end (h : xSm N M w v) : xEnd N w = xEnd M v := by
  unfold xEnd
  rw [h.1 3 (by decide) (by decide)]
  exact xsm_enN h _ (xcnt_le _)
theorem xsm_coN (h : xSm N M w v) : ∀ n, xCoN N w n = xCoN M v n := by
  intro n
  induction n with
  | zero => rfl
  | succ n ih => rw [xCoN, xCoN, ih, h.1 4 (by decide) (by decide), xsm_head h]
theorem xsm_com (h : xSm N M w v) : xfCom N w = xfCom M v := by
  unfold xfCom xComs
  rw [xsm_end h, h.1 4 (by decide) (by decide)]
  exact xsm_coN h _
theorem xsm_bef (h : xSm N M w v) {a b : Nat} (ha : a < 8) (hb : b < 8) : xbef N (w + 3 + a) (w + 3 + b) = xbef M (v + 3 + a) (v + 3 + b) := by
  unfold xbef
  rw [h.2.1 a 0 ha (by decide), h.2.1 a 4 ha (by decide), h.2.1 b 0 hb (by decide), h.2.1 b 4 hb (by decide)]
theorem xsm_ahN (h : xSm N M w v) (hx : x.toNatClampNeg < 8) : ∀ n, n ≤ 8 → xAhN N w x n = xAhN M v x n := by
  intro n
  induction n with
  | zero => intro _; rfl
  | succ n ih =>
    intro hn
    have e : xAhS N w x n = xAhS M v x n := by
      unfold xAhS
      rw [xsm_bef h (by omega) hx, xsm_bef h hx (by omega)]
    rw [xAhN, xAhN, ih (by omega), e]
theorem xsm_ah (h : xSm N M w v) (hx : x.toNatClampNeg < 8) : xfAh N w x = xfAh M v x := by
  unfold xfAh
  rw [h.1 2 (by decide) (by decide)]
  exact xsm_ahN h hx _ (xcnt_le _)
theorem xsm_by (h : xSm N M 1 1) : ∀ k n, n + k ≤ 8 → xBy N x k n = xBy M x k n := by
  intro k
  induction k with
  | zero => intro n _; rfl
  | succ k ih =>
    intro n hn
    rw [xBy, xBy, ih (n + 1) (by omega), xsm_ah h (by rw [(xi_ofNat (n := n) (by omega)).2.1]; omega)]
/-! updates alike -/
theorem xsm_upr {k : Nat} (h : xSm N M w v) (hr : r < 8) : xSm (xupN N (w + 3 + r) k x) (xupN M (v + 3 + r) k x) w v := by
  refine ⟨fun b h1 h2 => ?_, fun r' b h1 h2 => ?_, fun r' b h1 h2 => ?_⟩
  · unfold xupN
    rw [if_neg (by omega), if_neg (by omega)]
    exact h.1 b h1 h2
  · unfold xupN
    by_cases hq : r' = r ∧ b = k
    · rw [if_pos (by omega), if_pos (by omega)]
    · rw [if_neg (by omega), if_neg (by omega)]
      exact h.2.1 r' b h1 h2
  · unfold xupN
    rw [if_neg (by omega), if_neg (by omega)]
    exact h.2.2 r' b h1 h2
theorem xsm_uph {k : Nat} (h : xSm N M w v) : xSm (xupN N w k x) (xupN M v k x) w v := by
  refine ⟨fun b h1 h2 => ?_, fun r' b h1 h2 => ?_, fun r' b h1 h2 => ?_⟩
  · unfold xupN
    by_cases hq : b = k
    · rw [if_pos (by omega), if_pos (by omega)]
    · rw [if_neg (by omega), if_neg (by omega)]
      exact h.1 b h1 h2
  · unfold xupN
    rw [if_neg (by omega), if_neg (by omega)]
    exact h.2.1 r' b h1 h2
  · unfold xupN
    rw [if_neg (by omega), if_neg (by omega)]
    exact h.2.2 r' b h1 h2
theorem xsm_pu (h : xSm N M w v) (hr : r < 8) : xSm (xNpu N (w + 11 + r) x y z) (xNpu M (v + 11 + r) x y z) w v := by
  refine ⟨fun b h1 h2 => ?_, fun r' b h1 h2 => ?_, fun r' b h1 h2 => ?_⟩
  · unfold xNpu
    rw [if_neg (by omega), if_neg (by omega)]
    exact h.1 b h1 h2
  · unfold xNpu
    rw [if_neg (by omega), if_neg (by omega)]
    exact h.2.1 r' b h1 h2
  · unfold xNpu
    by_cases hq : r' = r
    · subst hq
      rw [if_pos rfl, if_pos rfl]
      rcases b with _ | _ | _ | b
      · rfl
      · rfl
      · rfl
      · omega
    · rw [if_neg (by omega), if_neg (by omega)]
      exact h.2.2 r' b h1 h2
theorem xsm_p1 (h : xSm N M w v) : ∀ n, n ≤ 8 → xSm (xP1 N w n) (xP1 M v n) w v ∧ ∀ r, r < n → (xP1 N w n (w + 3 + r) 9 = xP1 M v n (v + 3 + r) 9 ∧ xP1 N w n (w + 3 + r) 10 = xP1 M v n (v + 3 + r) 10) := by
  intro n
  induction n with
  | zero => intro _; exact ⟨h, fun r hr => absurd hr (Nat.not_lt_zero _)⟩
  | succ n ih =>
    intro hn
    obtain ⟨i1, i2⟩ := ih (by omega)
    have e1 := xsm_sta i1 (r := n) (by omega)
    have j1 : xSm (xupN (xP1 N w n) (w + 3 + n) 9 (xsta (xP1 N w n) (w + 3 + n))) (xupN (xP1 M v n) (v + 3 + n) 9 (xsta (xP1 M v n) (v + 3 + n))) w v := by
      rw [e1]
      exact xsm_upr i1 (by omega)
    have e2 := xsm_out j1 (x := Int32.ofNat n) (by rw [(xi_ofNat (n := n) (by omega)).2.1]; omega)
    refine ⟨?_, fun r hr => ?_⟩
    · show xSm (xP1s (xP1 N w n) w n) (xP1s (xP1 M v n) v n) w v
      unfold xP1s
      rw [e2]
      exact xsm_upr j1 (by omega)
    · show xP1s (xP1 N w n) w n (w + 3 + r) 9 = xP1s (xP1 M v n) v n (v + 3 + r) 9 ∧ xP1s (xP1 N w n) w n (w + 3 + r) 10 = xP1s (xP1 M v n) v n (v + 3 + r) 10
      unfold xP1s
      rw [e2]
      by_cases hq : r = n
      · subst hq
        constructor
        · show (if w + 3 + r = w + 3 + r ∧ 9 = 10 then _ else _) = (if v + 3 + r = v + 3 + r ∧ 9 = 10 then _ else _)
          rw [if_neg (by omega), if_neg (by omega)]
          unfold xupN
          rw [if_pos ⟨rfl, rfl⟩, if_pos ⟨rfl, rfl⟩]
          exact e1
        · show (if w + 3 + r = w + 3 + r ∧ 10 = 10 then _ else _) = (if v + 3 + r = v + 3 + r ∧ 10 = 10 then _ else _)
          rw [if_pos ⟨rfl, rfl⟩, if_pos ⟨rfl, rfl⟩]
      · have i3 := i2 r (by omega)
        unfold xupN
        constructor
        · rw [if_neg (by omega), if_neg (by omega), if_neg (by omega), if_neg (by omega)]
          exact i3.1
        · rw [if_neg (by omega), if_neg (by omega), if_neg (by omega), if_neg (by omega)]
          exact i3.2
/-- the second loop, its steps' marks alike -/
theorem xsm_p2s {a : Int32} (h : xSm N M w v) (hr : r < 8) (h9 : N (w + 3 + r) 9 = M (v + 3 + r) 9) (h10 : N (w + 3 + r) 10 = M (v + 3 + r) 10) : xSm (xP2s N w (w + 3 + r) a) (xP2s M v (v + 3 + r) a) w v := by
  have ja : xSm (xP2a N w (w + 3 + r) a) (xP2a M v (v + 3 + r) a) w v := by
    unfold xP2a
    rw [h.2.1 r 4 hr (by decide), h.2.1 r 3 hr (by decide), h10]
    exact xsm_upr h hr
  have jb : xSm (xP2b (xP2a N w (w + 3 + r) a) w (w + 3 + r)) (xP2b (xP2a M v (v + 3 + r) a) v (v + 3 + r)) w v := by
    unfold xP2b
    rw [ja.1 5 (by decide) (by decide), ja.2.1 r 3 hr (by decide)]
    exact xsm_uph ja
  have k9 : ∀ (N : Nat → Nat → Int32) (w : Nat), xP2b (xP2a N w (w + 3 + r) a) w (w + 3 + r) (w + 3 + r) 9 = N (w + 3 + r) 9 := by
    intro N w
    unfold xP2b xP2a xupN
    rw [if_neg (by omega), if_neg (by omega)]
  unfold xP2s xP2c
  rw [k9, k9, h9, xsm_sta jb hr]
  split
  · rw [jb.1 7 (by decide) (by decide)]
    exact xsm_uph jb
  · exact jb
theorem xsm_p2 {a : Int32} : ∀ n, n ≤ 8 → xSm N M w v → (∀ r, r < n → (N (w + 3 + r) 9 = M (v + 3 + r) 9 ∧ N (w + 3 + r) 10 = M (v + 3 + r) 10)) → xSm (xP2 w a N n).2 (xP2 v a M n).2 w v ∧ (xP2 w a N n).1 = (xP2 v a M n).1 := by
  intro n
  induction n with
  | zero => intro _ h _; exact ⟨h, rfl⟩
  | succ n ih =>
    intro hn h h2
    obtain ⟨i1, i2⟩ := ih (by omega) h (fun r hr => h2 r (by omega))
    have k9 : ∀ (N : Nat → Nat → Int32) (w b : Nat), b ≠ 4 → (xP2 w a N n).2 (w + 3 + n) b = N (w + 3 + n) b := fun N w b hb => xP2_off n (Or.inl hb) (Or.inl (by omega))
    have j := xsm_p2s (a := (xP2 w a N n).1) i1 (r := n) (by omega) (by rw [k9 _ _ _ (by decide), k9 _ _ _ (by decide)]; exact (h2 n (by omega)).1) (by rw [k9 _ _ _ (by decide), k9 _ _ _ (by decide)]; exact (h2 n (by omega)).2)
    have k10 : ∀ (N : Nat → Nat → Int32) (w : Nat), xP2s (xP2 w a N n).2 w (w + 3 + n) (xP2 w a N n).1 (w + 3 + n) 10 = N (w + 3 + n) 10 := by
      intro N w
      rw [xP2s_off (by omega) (by omega) (by omega)]
      exact k9 _ _ _ (by decide)
    refine ⟨?_, ?_⟩
    · show xSm (xP2s _ w _ _) (xP2s _ v _ _) w v
      rw [← i2]
      exact j
    · show xP2s (xP2 w a N n).2 w (w + 3 + n) (xP2 w a N n).1 (w + 3 + n) 10 = xP2s (xP2 v a M n).2 v (v + 3 + n) (xP2 v a M n).1 (v + 3 + n) 10
      rw [k10, k10]
      exact (h2 n (by omega)).2
theorem xsm_drop (h : xSm N M w v) : ∀ n, n ≤ 8 → xSm (xDrop N w t n).2 (xDrop M v t n).2 w v ∧ (xDrop N w t n).1 = (xDrop M v t n).1 := by
  intro n
  induction n with
  | zero => intro _; exact ⟨h, rfl⟩
  | succ n ih =>
    intro hn
    obtain ⟨i1, i2⟩ := ih (by omega)
    have hle := xDrop_le (N := M) (w := v) (t := t) n
    rw [xDrop, xDrop, i1.2.2 n 0 (by omega) (by decide), i1.2.2 n 1 (by omega) (by decide), i1.2.2 n 2 (by omega) (by decide)]
    split
    · refine ⟨?_, ?_⟩
      · show xSm (xNpu _ _ _ _ _) (xNpu _ _ _ _ _) w v
        rw [i2]
        exact xsm_pu i1 (by omega)
      · show (xDrop N w t n).1 + 1 = (xDrop M v t n).1 + 1
        rw [i2]
    · exact ⟨i1, i2⟩
theorem xsm_pass (h : xSm N M w v) : xSm (xPass N w).2 (xPass M v).2 w v ∧ (xPass N w).1 = (xPass M v).1 := by
  have e2 := h.1 2 (by decide) (by decide)
  have c8 := xcnt_le (M v 2)
  obtain ⟨a1, a2⟩ := xsm_p1 h (xcnt (M v 2)) c8
  have ha : xSm (xPa N w) (xPa M v) w v := by unfold xPa; rw [e2]; exact a1
  have ha2 : ∀ r, r < xcnt (M v 2) → (xPa N w (w + 3 + r) 9 = xPa M v (v + 3 + r) 9 ∧ xPa N w (w + 3 + r) 10 = xPa M v (v + 3 + r) 10) := by
    intro r hr
    unfold xPa
    rw [e2]
    exact a2 r hr
  have hh : xPh N w = xPh M v := by
    unfold xPh
    rw [ha.1 4 (by decide) (by decide)]
    exact xsm_head ha
  have hb : xSm (xPb N w) (xPb M v) w v := by
    unfold xPb
    rw [hh, ha.1 5 (by decide) (by decide)]
    exact xsm_uph ha
  have hb2 : ∀ r, r < xcnt (M v 2) → (xPb N w (w + 3 + r) 9 = xPb M v (v + 3 + r) 9 ∧ xPb N w (w + 3 + r) 10 = xPb M v (v + 3 + r) 10) := by
    intro r hr
    have k : ∀ (N : Nat → Nat → Int32) (w b : Nat), xPb N w (w + 3 + r) b = xPa N w (w + 3 + r) b := by
      intro N w b
      unfold xPb xupN
      rw [if_neg (by omega)]
    rw [k, k, k, k]
    exact ha2 r hr
  obtain ⟨c1, c2⟩ := xsm_p2 (a := xPh M v) (xcnt (M v 2)) c8 hb hb2
  have hc : xSm (xPc N w).2 (xPc M v).2 w v ∧ (xPc N w).1 = (xPc M v).1 := by
    unfold xPc
    rw [e2, hh]
    exact ⟨c1, c2⟩
  have hd : xSm (xPd N w) (xPd M v) w v := by
    unfold xPd
    rw [hc.2, hc.1.1 6 (by decide) (by decide)]
    exact xsm_uph hc.1
  have he : xSm (xPe N w) (xPe M v) w v := by
    unfold xPe
    rw [hd.1 4 (by decide) (by decide)]
    exact xsm_uph hd
  refine ⟨?_, hc.2⟩
  show xSm (xDropN (xPe N w) w) (xDropN (xPe M v) v) w v
  unfold xDropN
  rw [he.1 4 (by decide) (by decide), he.1 3 (by decide) (by decide)]
  obtain ⟨d1, d2⟩ := xsm_drop (t := xPe M v v 4) he (xcnt (xPe M v v 3)) (xcnt_le _)
  rw [d2]
  exact xsm_uph d1
theorem xsm_let (h : xSm N M w v) : ∀ n, xSm (xLet N w n).2 (xLet M v n).2 w v ∧ (xLet N w n).1 = (xLet M v n).1 := by
  intro n
  induction n with
  | zero => exact ⟨h, rfl⟩
  | succ n ih =>
    obtain ⟨j1, j2⟩ := xsm_pass ih.1
    refine ⟨j1, ?_⟩
    show (xLet N w n).1 + (xPass (xLet N w n).2 w).1 = (xLet M v n).1 + (xPass (xLet M v n).2 v).1
    rw [ih.2, j2]
theorem xsm_fc (h : xSm N M 1 1) (n : Nat) : xSm (xFc N n) (xFc M n) 20 20 := (xsm_let (xSm_trans xSm_copy (xSm_trans h (xSm_symm xSm_copy))) n).1
theorem xsm_pk (h : xSm N M 1 1) (hx : x.toNatClampNeg < 8) : ∀ n, xPkN N x n = xPkN M x n := by
  intro n
  induction n with
  | zero =>
    show xlvl _ _ = xlvl _ _
    exact xsm_lvl (xsm_fc h 0) hx
  | succ n ih =>
    rw [xPkN, xPkN, ih, xsm_lvl (xsm_fc h (n + 1)) hx]
end XSM
