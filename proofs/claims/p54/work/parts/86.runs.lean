/-! RUNS: A TEXT IS FED CHARACTER BY CHARACTER -/
section XRN
variable {xs : List Int32} {z : Value} {pre g : xH} {B L : Nat} {N : Nat → Nat → Int32} {C : Nat → Nat} {P : xA → xH → Prop}
theorem xs_runsL (hB : xBok pre B) (hz : z.category = 1) {sa : Nat} {s : List Nat} (hS : ∀ M, xStr (xK xs) (xHn pre B M C L g) sa s) (h60 : s.length ≤ 60) (h0 : N 231 2 = 0) (kk : xBp (xK xs) (xZ z) 10 3 [] xcL_runs (xseek xcL_runs 35) [(0, .ref (B + 0))] [] (xHn pre B (xFd N s s.length) C L g) P) :
    ∀ k n, n + k = s.length → xBp (xK xs) (xZ z) 10 3 [] xcL_runs (xseek xcL_runs 2) [(2, .int (Int32.ofNat n)), (0, .ref (B + 0)), (1, .ref sa)] [] (xHn pre B (xFd N s n) C L g) P := by
  intro k
  induction k with
  | zero =>
    intro n hn
    have hs := hS (xFd N s n)
    have hs2 := hs
    obtain ⟨b, v2, v3, h1, -⟩ := hs2
    refine xp_step rfl ?_
    refine xp_step rfl ?_
    refine xp_virtK h1 rfl (Nat.le_of_ble_eq_true rfl) rfl (xR_up (by decide) (xs_slen hs)) ?_
    obtain rfl : n = s.length := by omega
    refine xp_if2 rfl (fun _ => ?_) (fun q => absurd (Int32.le_refl _) (of_decide_eq_false q))
    refine xp_weak ?_ kk
    exact xLe_cons rfl xLe_nil
  | succ k ih =>
    intro n hn
    have hs := hS (xFd N s n)
    have hs2 := hs
    obtain ⟨b, v2, v3, h1, -⟩ := hs2
    have hl := xFd_len (N := N) (s := s) h0 n
    have hf : xwin (xFd N s n 231 2) 0 59 = true := by
      rw [hl]
      exact xwin_of (lo := 0) (hi := 59) (by omega) (by omega) (by omega) rfl rfl
    have hfd := xw_feed (K := xK xs) hB (xo_feed_ (K := xK xs) (Z := xZ z) (N := xFd N s n) (C := C) (L := L) (g := g) hB (Int32.ofNat (s.getD n 0)) hf) (Or.inl rfl)
    refine xp_step rfl ?_
    refine xp_step rfl ?_
    refine xp_virtK h1 rfl (Nat.le_of_ble_eq_true rfl) rfl (xR_up (by decide) (xs_slen hs)) ?_
    refine xp_if2 rfl (fun q => ?_) (fun _ => ?_)
    · have q : Int32.ofNat s.length ≤ Int32.ofNat n := of_decide_eq_true q
      rw [xi_le (by omega) (by omega)] at q
      omega
    refine xp_step rfl ?_
    refine xp_step rfl ?_
    refine xp_step rfl ?_
    refine xp_virtK h1 rfl (Nat.le_of_ble_eq_true rfl) rfl (xR_up (by decide) (xs_char hs (n := n) (by omega) hz)) ?_
    refine xp_callR rfl (xR_up (by decide) hfd) ?_
    refine xp_step rfl ?_
    refine xp_step rfl ?_
    refine xp_step rfl ?_
    rw [hl]
    refine xp_if2 rfl (fun _ => ?_) (fun q => absurd rfl (of_decide_eq_false q))
    refine xp_step rfl ?_
    refine xp_jump rfl ?_
    rw [show Int32.ofNat n + Int32.ofInt 1 = Int32.ofNat (n + 1) from by rw [Int32.ofNat_add]; rfl]
    refine xp_weak ?_ (ih (n + 1) (by omega))
    exact xLe_cons rfl (xLe_cons rfl (xLe_cons rfl xLe_nil))
/-- runs, once its text was executed by the wrapper -/
theorem xl_runs (hB : xBok pre B) (hz : z.category = 1) {sa : Nat} {s : List Nat} (hS : ∀ M, xStr (xK xs) (xHn pre B M C L g) sa s) (h60 : s.length ≤ 60) (h0 : N 231 2 = 0) {c : Int32} {h2 : xH} (hx : xRn (xK xs) (xZ z) 10 227 [.ref (B + 0)] (xHn pre B (xFd N s s.length) C L g) (.ok (some (.int c))) h2) : xRn (xK xs) (xZ z) 11 237 [.ref (B + 0), .ref sa] (xHn pre B N C L g) (.ok (some (.int c))) h2 := by
  refine xRp_eq (xRp_of (m := (yL_runs, cL_runs, 3, (some .int), [], [], xcL_runs)) rfl (by show 2 ≤ 3; decide) ?_)
  show xBp (xK xs) (xZ z) 10 3 [] xcL_runs xcL_runs [(0, .ref (B + 0)), (1, .ref sa)] [] _ _
  refine xp_step rfl ?_
  refine xp_step rfl ?_
  refine xp_weak ?_ (xs_runsL (N := N) (L := L) (g := g) hB hz hS h60 h0 ?_ s.length 0 (by omega))
  · exact xLe_cons rfl (xLe_cons rfl (xLe_cons rfl xLe_nil))
  refine xp_step rfl ?_
  refine xp_callR rfl hx ?_
  exact xp_ret rfl ⟨fun v q => by cases q; rfl, rfl, rfl⟩
end XRN
