/-! MAKES -/
section XMKB
variable {xs : List Int32} {z : Value} {pre g : xH} {B L : Nat} {N N0 M : Nat → Nat → Int32} {C : Nat → Nat} {V H n : Nat} {P : xA → xH → Prop}
/-- a row as it was made -/
def xMkP (pre : xH) (B : Nat) (N0 : Nat → Nat → Int32) (C : Nat → Nat) (L : Nat) (g : xH) : xA → xH → Prop := fun r h' => (∀ v, r = .ok v → xrfit (some .boolean) v = true) ∧ (r = .ok (some (.int 1)) ∧ ∃ M n, h' = xHn pre B M C L g ∧ ((xOb M 90000 48 ∧ (M 1 2 = Int32.ofNat n ∧ (1 ≤ n ∧ n ≤ 6))) ∧ (M 0 7 = N0 0 7 ∧ ∀ b, M 251 b = N0 251 b ∧ M 252 b = N0 252 b)))
theorem xs_mkE (hB : xBok pre B) (hl : xs.length ≤ 260) (h : xMk N0 N 6000 n 3) (hn : 1 ≤ n ∧ n ≤ 6) (hg : B + 253 + g.length < 1000000) : xBp (xK xs) (xZ z) 8 5 [] xcL_makes (xseek xcL_makes 231) [(0, .ref (B + 0)), (1, .ref 1000000)] [] (xHn pre B N C L g) (xMkP pre B N0 C L g) := by
  have ha := xs_at (xs := xs) (Z := xZ z) (h := xHn pre B N C L g) (k := 12) (by decide) hl
  generalize xs.getD 12 0 = v at ha
  obtain ⟨k1, e1, b1⟩ := xsom_bd (v := v >>> (Int32.ofInt 2 &&& 31)) (m := 6) (by decide) (by decide)
  have s1 := xs_some (K := xK xs) (Z := xZ z) (h := xHn pre B N C L g) (v >>> (Int32.ofInt 2 &&& 31)) (n := Int32.ofNat 6) (by decide)
  rw [e1] at s1
  have hn0 : N 1 2 ≠ 0 := by
    rw [h.2.1.1]
    exact xi_ne (b := 0) (by omega) (by omega) (by omega)
  obtain ⟨a, M, run, ha0, hacc, hob, em⟩ := xm_pass (K := xK xs) (Z := xZ z) (C := C) (L := L) (g := g) (x := Int32.ofNat (1 + k1)) hB h.1 (by omega) hn0 (xwin_of (lo := 1) (hi := 48) (by omega) (by omega) (by omega) rfl rfl) hg
  have k7 := hacc.2.2.2.2
  refine xp_step rfl ?_
  refine xp_step rfl ?_
  refine xp_callR rfl (xR_up (by decide) ha) ?_
  refine xp_step rfl ?_
  refine xp_step rfl ?_
  refine xp_if1 rfl (fun _ => ?_) (fun _ => ?_)
  · refine xp_step rfl ?_
    refine xp_jump rfl ?_
    exact xp_ret rfl ⟨fun v q => by cases q; rfl, rfl, N, n, rfl, ⟨⟨xGd_mono h.1.1 (by decide) (by decide), h.1.2⟩, h.2.1.1, hn⟩, h.2.2⟩
  refine xp_step rfl ?_
  refine xp_step rfl ?_
  refine xp_step rfl ?_
  refine xp_step rfl ?_
  refine xp_callR rfl (xR_up (by decide) ha) ?_
  refine xp_step rfl ?_
  refine xp_step rfl ?_
  refine xp_step rfl ?_
  refine xp_callR rfl (xR_up (by decide) s1) ?_
  refine xp_addE (w := Int32.ofNat (1 + k1)) (by rw [Int32.ofNat_add]; rfl) ?_
  refine xp_callR rfl (xR_up (by decide) (run)) ?_
  refine xp_if1 rfl (fun q => absurd (of_decide_eq_true q) (Int32.not_lt.mpr ha0)) (fun _ => ?_)
  refine xp_step rfl ?_
  refine xp_jump rfl ?_
  exact xp_ret rfl ⟨fun v q => by cases q; rfl, rfl, M, n, rfl, ⟨⟨xGd_mono hob.1 (by decide) (by decide), hob.2⟩, em.trans h.2.1.1, hn⟩, k7.1.trans h.2.2.1, fun b => ⟨(k7.2.2 b).1.trans (h.2.2.2 b).1, (k7.2.2 b).2.trans (h.2.2.2 b).2⟩⟩
theorem xs_mkP (hB : xBok pre B) (hl : xs.length ≤ 260) (hn : 1 ≤ n ∧ n ≤ 6) (hg : B + 253 + g.length < 1000000) :
    ∀ k p (N : Nat → Nat → Int32), p + k = 3 → xMk N0 N 6000 n p → xBp (xK xs) (xZ z) 8 5 [] xcL_makes (xseek xcL_makes 167) [(3, .int (Int32.ofNat p)), (0, .ref (B + 0)), (1, .ref 1000000)] [] (xHn pre B N C L g) (xMkP pre B N0 C L g) := by
  intro k
  induction k with
  | zero =>
    intro p N hp h
    obtain rfl : p = 3 := by omega
    refine xp_step rfl ?_
    refine xp_step rfl ?_
    refine xp_if2 rfl (fun _ => ?_) (fun q => absurd (show (3 : Int32) ≤ 3 from Int32.le_refl _) (of_decide_eq_false q))
    refine xp_weak ?_ (xs_mkE hB hl h hn hg)
    exact xLe_cons rfl (xLe_cons rfl xLe_nil)
  | succ k ih =>
    intro p N hp h
    have ha := xs_at (xs := xs) (Z := xZ z) (h := xHn pre B N C L g) (k := 8 + p) (by omega) hl
    generalize xs.getD (8 + p) 0 = v at ha
    obtain ⟨k1, e1, b1⟩ := xsom_bd (v := v) (m := 12) (by decide) (by decide)
    have s1 := xs_some (K := xK xs) (Z := xZ z) (h := xHn pre B N C L g) (v) (n := Int32.ofNat 12) (by decide)
    rw [e1] at s1
    obtain ⟨k2, e2, b2⟩ := xsom_bd (v := v >>> (Int32.ofInt 4 &&& 31)) (m := 24) (by decide) (by decide)
    have s2 := xs_some (K := xK xs) (Z := xZ z) (h := xHn pre B N C L g) (v >>> (Int32.ofInt 4 &&& 31)) (n := Int32.ofNat 24) (by decide)
    rw [e2] at s2
    obtain ⟨k3, e3, b3⟩ := xsom_bd (v := v >>> ((Int8.ofInt 9).toInt32 &&& 31)) (m := 200) (by decide) (by decide)
    have s3 := xs_some (K := xK xs) (Z := xZ z) (h := xHn pre B N C L g) (v >>> ((Int8.ofInt 9).toInt32 &&& 31)) (n := Int32.ofNat 200) (by decide)
    rw [e3] at s3
    obtain ⟨M, run, hM⟩ := xm_pulse (K := xK xs) (Z := xZ z) (C := C) (L := L) (g := g) (s := Int32.ofNat k1) (q := Int32.ofNat (1 + k2)) (c := Int32.ofNat (1 + k3)) hB h (by omega) (by omega) (by
      unfold xpuOk
      rw [xwin_of (lo := 0) (hi := 999) (by omega) (by omega) (by omega) rfl rfl, xwin_of (lo := 1) (hi := 24) (by omega) (by omega) (by omega) rfl rfl, xwin_of (lo := 1) (hi := 200) (by omega) (by omega) (by omega) rfl rfl]
      rfl) (xi_ofNat (n := k1) (by omega)).2.2 hg
    refine xp_step rfl ?_
    refine xp_step rfl ?_
    refine xp_if2 rfl (fun q => ?_) (fun _ => ?_)
    · have q : Int32.ofNat 3 ≤ Int32.ofNat p := of_decide_eq_true q
      rw [xi_le (by omega) (by omega)] at q
      omega
    refine xp_step rfl ?_
    refine xp_step rfl ?_
    refine xp_step rfl ?_
    refine xp_addE (w := Int32.ofNat (8 + p)) (by rw [Int32.ofNat_add]; rfl) ?_
    refine xp_callR rfl (xR_up (by decide) ha) ?_
    refine xp_step rfl ?_
    refine xp_step rfl ?_
    refine xp_step rfl ?_
    refine xp_step rfl ?_
    refine xp_callR rfl (xR_up (by decide) s1) ?_
    refine xp_step rfl ?_
    refine xp_step rfl ?_
    refine xp_step rfl ?_
    refine xp_step rfl ?_
    refine xp_step rfl ?_
    refine xp_callR rfl (xR_up (by decide) s2) ?_
    refine xp_addE (w := Int32.ofNat (1 + k2)) (by rw [Int32.ofNat_add]; rfl) ?_
    refine xp_step rfl ?_
    refine xp_step rfl ?_
    refine xp_step rfl ?_
    refine xp_step rfl ?_
    refine xp_step rfl ?_
    refine xp_callR rfl (xR_up (by decide) s3) ?_
    refine xp_addE (w := Int32.ofNat (1 + k3)) (by rw [Int32.ofNat_add]; rfl) ?_
    refine xp_callR rfl (xR_up (by decide) (run)) ?_
    refine xp_step rfl ?_
    refine xp_step rfl ?_
    refine xp_addE (w := Int32.ofNat (p + 1)) (by rw [Int32.ofNat_add]; rfl) ?_
    refine xp_if2 rfl (fun _ => ?_) (fun q => absurd rfl (of_decide_eq_false q))
    refine xp_step rfl ?_
    refine xp_jump rfl ?_
    rw [show Int32.ofNat p + Int32.ofInt 1 = Int32.ofNat (p + 1) from by rw [Int32.ofNat_add]; rfl]
    refine xp_weak ?_ (ih (p + 1) M (by omega) hM)
    exact xLe_cons rfl (xLe_cons rfl (xLe_cons rfl xLe_nil))
theorem xs_mkR (hB : xBok pre B) (hl : xs.length ≤ 260) (hn : 1 ≤ n ∧ n ≤ 6) (hg : B + 253 + g.length < 1000000) :
    ∀ k r (N : Nat → Nat → Int32), r + k = n → xMk N0 N (1000 * r) r 0 → xBp (xK xs) (xZ z) 8 5 [] xcL_makes (xseek xcL_makes 15) [(3, .int (Int32.ofNat r)), (0, .ref (B + 0)), (1, .ref 1000000), (2, .int (Int32.ofNat n))] [] (xHn pre B N C L g) (xMkP pre B N0 C L g) := by
  intro k
  induction k with
  | zero =>
    intro r N hr h
    obtain rfl : r = n := by omega
    refine xp_step rfl ?_
    refine xp_step rfl ?_
    refine xp_if2 rfl (fun _ => ?_) (fun q => absurd (Int32.le_refl _) (of_decide_eq_false q))
    refine xp_step rfl ?_
    refine xp_step rfl ?_
    refine xp_weak ?_ (xs_mkP hB hl hn hg 3 0 N (by decide) ⟨⟨xGd_mono h.1.1 (by omega) (Nat.le_refl _), h.1.2⟩, h.2⟩)
    exact xLe_cons rfl (xLe_cons rfl (xLe_cons rfl xLe_nil))
  | succ k ih =>
    intro r N hr h
    have ha := xs_at (xs := xs) (Z := xZ z) (h := xHn pre B N C L g) (k := 1 + r) (by omega) hl
    generalize xs.getD (1 + r) 0 = v at ha
    obtain ⟨k1, e1, b1⟩ := xsom_bd (v := v) (m := 30) (by decide) (by decide)
    have s1 := xs_some (K := xK xs) (Z := xZ z) (h := xHn pre B N C L g) (v) (n := Int32.ofNat 30) (by decide)
    rw [e1] at s1
    obtain ⟨k2, e2, b2⟩ := xsom_bd (v := v >>> (Int32.ofInt 5 &&& 31)) (m := 56) (by decide) (by decide)
    have s2 := xs_some (K := xK xs) (Z := xZ z) (h := xHn pre B N C L g) (v >>> (Int32.ofInt 5 &&& 31)) (n := Int32.ofNat 56) (by decide)
    rw [e2] at s2
    obtain ⟨k3, e3, b3⟩ := xsom_bd (v := v >>> ((Int8.ofInt 11).toInt32 &&& 31)) (m := 200) (by decide) (by decide)
    have s3 := xs_some (K := xK xs) (Z := xZ z) (h := xHn pre B N C L g) (v >>> ((Int8.ofInt 11).toInt32 &&& 31)) (n := Int32.ofNat 200) (by decide)
    rw [e3] at s3
    obtain ⟨N1, run1, h1, r3, r7, r8⟩ := xm_add (K := xK xs) (Z := xZ z) (C := C) (L := L) (g := g) (s := Int32.ofNat (1 + k1)) (q := Int32.ofNat (5 + k2)) (c := Int32.ofNat (1 + k3)) hB h (by omega) (by omega) (by
      unfold xapOk
      rw [xwin_of (lo := 1) (hi := 50) (by omega) (by omega) (by omega) rfl rfl, xwin_of (lo := 5) (hi := 60) (by omega) (by omega) (by omega) rfl rfl, xwin_of (lo := 1) (hi := 500) (by omega) (by omega) (by omega) rfl rfl]
      rfl) hg
    obtain ⟨k4, e4, b4⟩ := xsom_bd (v := v >>> ((Int8.ofInt 6).toInt32 &&& 31)) (m := 900) (by decide) (by decide)
    have s4 := xs_some (K := xK xs) (Z := xZ z) (h := xHn pre B N1 C L g) (v >>> ((Int8.ofInt 6).toInt32 &&& 31)) (n := Int32.ofNat 900) (by decide)
    rw [e4] at s4
    obtain ⟨a2, N2, run2, ha2, h2, o2⟩ := xm_fill (K := xK xs) (Z := xZ z) (C := C) (L := L) (g := g) (r := r) (f := Int32.ofNat (1 + k4)) hB h1 (by omega) (by omega) (by omega) (xwin_of (lo := 1) (hi := 999) (by omega) (by omega) (by omega) rfl rfl) (xi_ne (b := 0) (by omega) (by omega) (by omega)) hg
    rw [← o2 3 (by decide)] at r3
    rw [← o2 7 (by decide)] at r7
    rw [← o2 8 (by decide)] at r8
    refine xp_step rfl ?_
    refine xp_step rfl ?_
    refine xp_if2 rfl (fun q => ?_) (fun _ => ?_)
    · have q : Int32.ofNat n ≤ Int32.ofNat r := of_decide_eq_true q
      rw [xi_le (by omega) (by omega)] at q
      omega
    refine xp_step rfl ?_
    refine xp_step rfl ?_
    refine xp_step rfl ?_
    refine xp_addE (w := Int32.ofNat (1 + r)) (by rw [Int32.ofNat_add]; rfl) ?_
    refine xp_callR rfl (xR_up (by decide) ha) ?_
    refine xp_step rfl ?_
    refine xp_step rfl ?_
    refine xp_step rfl ?_
    refine xp_step rfl ?_
    refine xp_step rfl ?_
    refine xp_callR rfl (xR_up (by decide) s1) ?_
    refine xp_addE (w := Int32.ofNat (1 + k1)) (by rw [Int32.ofNat_add]; rfl) ?_
    refine xp_step rfl ?_
    refine xp_step rfl ?_
    refine xp_step rfl ?_
    refine xp_step rfl ?_
    refine xp_step rfl ?_
    refine xp_callR rfl (xR_up (by decide) s2) ?_
    refine xp_addE (w := Int32.ofNat (5 + k2)) (by rw [Int32.ofNat_add]; rfl) ?_
    refine xp_step rfl ?_
    refine xp_step rfl ?_
    refine xp_step rfl ?_
    refine xp_step rfl ?_
    refine xp_step rfl ?_
    refine xp_callR rfl (xR_up (by decide) s3) ?_
    refine xp_addE (w := Int32.ofNat (1 + k3)) (by rw [Int32.ofNat_add]; rfl) ?_
    refine xp_callR rfl (xR_up (by decide) (run1)) ?_
    refine xp_step rfl ?_
    refine xp_if2 rfl (fun q => absurd rfl (show ¬ Int32.ofNat r = Int32.ofNat r by simpa [xic] using q)) (fun _ => ?_)
    refine xp_step rfl ?_
    refine xp_step rfl ?_
    refine xp_step rfl ?_
    refine xp_step rfl ?_
    refine xp_step rfl ?_
    refine xp_step rfl ?_
    refine xp_step rfl ?_
    refine xp_callR rfl (xR_up (by decide) s4) ?_
    refine xp_addE (w := Int32.ofNat (1 + k4)) (by rw [Int32.ofNat_add]; rfl) ?_
    refine xp_callR rfl (xR_up (by decide) (run2)) ?_
    refine xp_if1 rfl (fun _ => ?_) (fun q => absurd ha2 (of_decide_eq_false q))
    have cont : ∀ f : Int32, (f = 104 ∨ f = 114) → xBp (xK xs) (xZ z) 8 5 [] xcL_makes (xseek xcL_makes 109) [(4, .int v), (3, .int (Int32.ofNat r)), (0, .ref (B + 0)), (1, .ref 1000000), (2, .int (Int32.ofNat n))] [.int f, .int (Int32.ofNat r), .ref (B + 0)] (xHn pre B N2 C L g) (xMkP pre B N0 C L g) := by
      intro f hf
      obtain ⟨a3, N3, run3, ha3, h3, o3⟩ := xm_rule (K := xK xs) (Z := xZ z) (C := C) (L := L) (g := g) (r := r) (f := f) hB h2 (by omega) (by omega) (by omega) (by rcases hf with rfl | rfl <;> rfl) (by rw [r8]; rcases hf with rfl | rfl <;> decide) hg
      rw [← o3 3 (by decide)] at r3
      rw [← o3 7 (by decide)] at r7
      obtain ⟨k5, e5, b5⟩ := xsom_bd (v := v >>> ((Int8.ofInt 9).toInt32 &&& 31)) (m := 100) (by decide) (by decide)
      have s5 := xs_some (K := xK xs) (Z := xZ z) (h := xHn pre B N3 C L g) (v >>> ((Int8.ofInt 9).toInt32 &&& 31)) (n := Int32.ofNat 100) (by decide)
      rw [e5] at s5
      obtain ⟨N4, run4, h4, o4⟩ := xm_gate (K := xK xs) (Z := xZ z) (C := C) (L := L) (g := g) (r := r) (f := Int32.ofNat k5) hB h3 (by omega) (by omega) (by omega) (xwin_of (lo := 0) (hi := 100) (by omega) (by omega) (by omega) rfl rfl) (by rw [r7]; exact (xi_ne (a := 100) (by omega) (by omega) (by omega))) hg
      rw [← o4 3 (by decide)] at r3
      rw [r7] at run4
      obtain ⟨k6, e6, b6⟩ := xsom_bd (v := v >>> ((Int8.ofInt 13).toInt32 &&& 31)) (m := 50) (by decide) (by decide)
      have s6 := xs_some (K := xK xs) (Z := xZ z) (h := xHn pre B N4 C L g) (v >>> ((Int8.ofInt 13).toInt32 &&& 31)) (n := Int32.ofNat 50) (by decide)
      rw [e6] at s6
      obtain ⟨N5, run5, h5, -⟩ := xm_lat (K := xK xs) (Z := xZ z) (C := C) (L := L) (g := g) (r := r) (f := Int32.ofNat (1 + k6)) hB h4 (by omega) (by omega) (by omega) (xwin_of (lo := 0) (hi := 50) (by omega) (by omega) (by omega) rfl rfl) (by rw [r3]; exact (xi_ne (a := 0) (by omega) (by omega) (by omega))) hg
      rw [r3] at run5
      refine xp_callR rfl (xR_up (by decide) (run3)) ?_
      refine xp_if1 rfl (fun q => absurd (of_decide_eq_true q) (Int32.not_lt.mpr ha3)) (fun _ => ?_)
      refine xp_step rfl ?_
      refine xp_step rfl ?_
      refine xp_step rfl ?_
      refine xp_step rfl ?_
      refine xp_step rfl ?_
      refine xp_step rfl ?_
      refine xp_callR rfl (xR_up (by decide) s5) ?_
      refine xp_callR rfl (xR_up (by decide) (run4)) ?_
      refine xp_step rfl ?_
      refine xp_if2 rfl (fun _ => ?_) (fun q => absurd q (by decide))
      refine xp_step rfl ?_
      refine xp_step rfl ?_
      refine xp_step rfl ?_
      refine xp_step rfl ?_
      refine xp_step rfl ?_
      refine xp_step rfl ?_
      refine xp_step rfl ?_
      refine xp_callR rfl (xR_up (by decide) s6) ?_
      refine xp_addE (w := Int32.ofNat (1 + k6)) (by rw [Int32.ofNat_add]; rfl) ?_
      refine xp_callR rfl (xR_up (by decide) (run5)) ?_
      refine xp_if1 rfl (fun _ => ?_) (fun q => absurd q (by decide))
      refine xp_step rfl ?_
      refine xp_jump rfl ?_
      rw [show Int32.ofNat r + Int32.ofInt 1 = Int32.ofNat (r + 1) from by rw [Int32.ofNat_add]; rfl]
      refine xp_weak ?_ (ih (r + 1) N5 (by omega) h5)
      exact xLe_cons rfl (xLe_cons rfl (xLe_cons rfl (xLe_cons rfl xLe_nil)))
    refine xp_step rfl ?_
    refine xp_step rfl ?_
    refine xp_step rfl ?_
    refine xp_step rfl ?_
    refine xp_step rfl ?_
    refine xp_if1 rfl (fun _ => ?_) (fun _ => ?_)
    · refine xp_step rfl ?_
      refine xp_weak ?_ (cont _ (Or.inr rfl))
      exact xLe_cons rfl (xLe_cons rfl (xLe_cons rfl (xLe_cons rfl (xLe_cons rfl xLe_nil))))
    · refine xp_step rfl ?_
      refine xp_jump rfl ?_
      refine xp_weak ?_ (cont _ (Or.inl rfl))
      exact xLe_cons rfl (xLe_cons rfl (xLe_cons rfl (xLe_cons rfl (xLe_cons rfl xLe_nil))))
/-- MAKES answers true; what it leaves -/
theorem xl_makes (hB : xBok pre B) (hl : xs.length ≤ 260) (h : xMk N N 0 0 0) (hg : B + 253 + g.length < 1000000) : ∃ M n, xRn (xK xs) (xZ z) 9 240 [.ref (B + 0), .ref 1000000] (xHn pre B N C L g) (.ok (some (.int 1))) (xHn pre B M C L g) ∧ ((xOb M 90000 48 ∧ (M 1 2 = Int32.ofNat n ∧ (1 ≤ n ∧ n ≤ 6))) ∧ (M 0 7 = N 0 7 ∧ ∀ b, M 251 b = N 251 b ∧ M 252 b = N 252 b)) := by
  have ha := xs_at (xs := xs) (Z := xZ z) (h := xHn pre B N C L g) (k := 0) (by decide) hl
  obtain ⟨k1, e1, b1⟩ := xsom_bd (v := xs.getD 0 0) (m := 6) (by decide) (by decide)
  have s1 := xs_some (K := xK xs) (Z := xZ z) (h := xHn pre B N C L g) (xs.getD 0 0) (n := Int32.ofNat 6) (by decide)
  rw [e1] at s1
  have goal : xRp (xK xs) (xZ z) 9 240 [.ref (B + 0), .ref 1000000] (xHn pre B N C L g) (fun r h' => r = .ok (some (.int 1)) ∧ ∃ M n, h' = xHn pre B M C L g ∧ ((xOb M 90000 48 ∧ (M 1 2 = Int32.ofNat n ∧ (1 ≤ n ∧ n ≤ 6))) ∧ (M 0 7 = N 0 7 ∧ ∀ b, M 251 b = N 251 b ∧ M 252 b = N 252 b))) := by
    refine xRp_of (m := (yL_makes, cL_makes, 5, (some .boolean), [], [], xcL_makes)) rfl (by show 2 ≤ 5; decide) ?_
    show xBp (xK xs) (xZ z) 8 5 [] xcL_makes xcL_makes [(0, .ref (B + 0)), (1, .ref 1000000)] [] _ (xMkP pre B N C L g)
    refine xp_step rfl ?_
    refine xp_step rfl ?_
    refine xp_step rfl ?_
    refine xp_callR rfl (xR_up (by decide) ha) ?_
    refine xp_step rfl ?_
    refine xp_callR rfl (xR_up (by decide) s1) ?_
    refine xp_addE (w := Int32.ofNat (1 + k1)) (by rw [Int32.ofNat_add]; rfl) ?_
    refine xp_step rfl ?_
    refine xp_step rfl ?_
    refine xp_step rfl ?_
    refine xp_weak ?_ (xs_mkR (n := 1 + k1) hB hl (by omega) hg (1 + k1) 0 N (by omega) h)
    exact xLe_cons rfl (xLe_cons rfl (xLe_cons rfl (xLe_cons rfl xLe_nil)))
  obtain ⟨r, h', hrun, rfl, M, n, rfl, hh⟩ := goal
  exact ⟨M, n, hrun, hh⟩
end XMKB
