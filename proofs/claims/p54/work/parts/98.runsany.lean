/-! A TEXT THAT PARSES, RUN BY THE LAW: refused or accepted as a whole -/
section XRNA
variable {xs : List Int32} {z : Value} {pre g : xH} {B L : Nat} {N : Nat → Nat → Int32} {C : Nat → Nat} {V H : Nat}
theorem xl_runsAny (hB : xBok pre B) (hz : z.category = 1) (h : xOb N V H) {sa : Nat} {s : List Nat} (hS : ∀ M, xStr (xK xs) (xHn pre B M C L g) sa s) (hs : ∀ c ∈ s, c < 128) (h60 : s.length ≤ 60) {p : Int32} {Vv : Nat → Nat → Option Int32} {C' : Nat → Nat} (hpar : xPar (xsgl s) (Int32.ofNat s.length) 16 0 0 (fun _ _ => none) C = (-1, p, Vv, C')) (hVv : xVok Vv) {cnt : Nat} (hcnt : cnt ≤ 16) (hC : ∀ n, n < cnt → 1 ≤ C' (234 + n) ∧ C' (234 + n) ≤ 9) (h4 : Vv 231 4 = some (Int32.ofNat cnt)) (hV : V + xBud C' cnt 0 ≤ 1000000) (hg : B + 253 + g.length < 1000000) :
    ∃ c N' g', xRn (xK xs) (xZ z) 11 237 [.ref (B + 0), .ref sa] (xHn pre B N C L g) (.ok (some (.int c))) (xHn pre B N' C' L g') ∧ ((c < 0 ∧ (xRefd N N' ∧ (xOb N' V H ∧ g' = xgx g))) ∨ (0 ≤ c ∧ (xAccd N N' ∧ (xOb N' (V + xBud C' cnt 0) (H + 48 * cnt) ∧ g' = g)))) := by
  have h0 := h.2.2.2
  have hM := xM0_ob (s := s) (p := p) hVv h
  have hnM := xNn_ob hM
  have hr := xRow_in hM.2.2.1
  have h4M : xNn (xM0 N s p Vv) 231 4 = Int32.ofNat cnt := (xNn_off hM.2.2.1 (by omega)).trans (xM0_V (Or.inr rfl) h4)
  obtain ⟨r, M2, he⟩ : ∃ r M2, xExc C' cnt 0 (xNn (xM0 N s p Vv)) = (r, M2) := ⟨_, _, rfl⟩
  obtain ⟨hoff, hru, v', H', hgd, hv', hH'⟩ := xexc_gd cnt 0 (xNn (xM0 N s p Vv)) V H r M2 (fun j hj => by rw [show 0 + j = j by omega]; exact hC j hj) hnM.1 (hnM.2 1 (by decide)) hV he
  cases r with
  | none =>
    have run := xl_run1 (L := L) (g := g) hB hz hS hs h60 h0 hpar hM.2.2.1 (hM.2.1 1 (by decide)) hg hcnt hC h4M he
    have acc := xaccd hM hoff hru (xGd_mono hgd hv' hH')
    rw [hoff 231 4 (by omega), h4M] at run
    exact ⟨_, _, _, run, Or.inr ⟨(xi_ofNat (n := cnt) (by omega)).2.2, xAccd_pre hVv h0 acc.1, acc.2, rfl⟩⟩
  | some q =>
    obtain ⟨i, ans⟩ := q
    have hnf : ∀ a b, a ≠ 250 → xNfail M2 (Int32.ofNat i) (M2 (234 + i) 2) ans a b = M2 a b := by
      intro a b q
      unfold xNfail
      split
      · unfold xNden xupN
        rw [if_neg (by omega), if_neg (by omega), if_neg (by omega), if_neg (by omega)]
      · unfold xNden xupN
        rw [if_neg (by omega), if_neg (by omega), if_neg (by omega), if_neg (by omega)]
    have e58 : xNfail M2 (Int32.ofNat i) (M2 (234 + i) 2) ans 58 1 = xM0 N s p Vv 58 1 := by rw [hnf 58 1 (by decide), hoff 58 1 (by omega), xNn_off hM.2.2.1 (by omega)]
    have erow : 60 + 19 * xNx (xNfail M2 (Int32.ofNat i) (M2 (234 + i) 2) ans) = xRow (xM0 N s p Vv) := by
      unfold xRow xNx
      rw [e58]
    have run := xl_run2 (L := L) (g := g) hB hz hS hs h60 h0 hpar hM.2.2.1 (hM.2.1 1 (by decide)) hg hcnt hC h4M (by rw [e58]; exact hM.2.2.1) (by
      rw [erow]
      exact xrul_off (fun r hr8 => (hnf _ _ (by omega)).trans (hoff _ _ (by omega))) (hnM.2 _ hr.1)) he
    have ref := xrefd_fail (x := Int32.ofNat i) (y := M2 (234 + i) 2) (z := ans) hM hoff
    exact ⟨_, _, _, run, Or.inl ⟨by decide, xRefd_pre hVv h0 ref.1, ref.2, rfl⟩⟩
/-! the two texts of changes -/
def xtxA (k : Nat) : List Nat := [] ++ [112, 97, 115, 115, 32, 50, 59, 114, 117, 108, 101, 32] ++ xDg k ++ [32, 114]
def xtxB (k : Nat) : List Nat := [] ++ [102, 105, 108, 108, 32, 48, 32, 53, 59, 99, 117, 116, 59, 108, 97, 116, 101, 114, 97, 108, 32] ++ xDg k ++ [32, 51]
theorem xtxA_f : ∀ k, k < 8 → ((xTkW (xsgl (xtxA k)) 0 9 0 0 = (some 8, 5) ∧ xTkP (xsgl (xtxA k)) 110 5 = (2, 6)) ∧ (xsgl (xtxA k) 6 = 59 ∧ (6 : Int32) ≠ Int32.ofNat (xtxA k).length)) ∧ ((xTkW (xsgl (xtxA k)) (6 + 1) 9 0 0 = (some 6, 12) ∧ xTkP (xsgl (xtxA k)) 100 12 = (Int32.ofNat k, 13)) ∧ (xsgl (xtxA k) 13 = 32 ∧ (xTkP (xsgl (xtxA k)) 108 (13 + 1) = (114, 15) ∧ ((15 : Int32) = Int32.ofNat (xtxA k).length ∧ Int32.ofNat k ≠ -1)))) := by decide +kernel
theorem xtxB_f : ∀ k, k < 8 → ((xTkW (xsgl (xtxB k)) 0 9 0 0 = (some 3, 5) ∧ xTkP (xsgl (xtxB k)) 100 5 = (0, 6)) ∧ (xsgl (xtxB k) 6 = 32 ∧ (xTkP (xsgl (xtxB k)) 110 (6 + 1) = (5, 8) ∧ (xsgl (xtxB k) 8 = 59 ∧ (8 : Int32) ≠ Int32.ofNat (xtxB k).length)))) ∧ (((xTkW (xsgl (xtxB k)) (8 + 1) 9 0 0 = (some 1, 12) ∧ xsgl (xtxB k) 12 = 59) ∧ (12 : Int32) ≠ Int32.ofNat (xtxB k).length) ∧ ((xTkW (xsgl (xtxB k)) (12 + 1) 9 0 0 = (some 2, 21) ∧ xTkP (xsgl (xtxB k)) 100 21 = (Int32.ofNat k, 22)) ∧ (xsgl (xtxB k) 22 = 32 ∧ (xTkP (xsgl (xtxB k)) 110 (22 + 1) = (3, 24) ∧ ((24 : Int32) = Int32.ofNat (xtxB k).length ∧ Int32.ofNat k ≠ -1))))) := by decide +kernel
theorem xtx_lt : ∀ k, k < 8 → ((∀ c ∈ xtxA k, c < 128) ∧ (xtxA k).length ≤ 60) ∧ ((∀ c ∈ xtxB k, c < 128) ∧ (xtxB k).length ≤ 60) := by decide +kernel
/-- what parsing a text gives: so many commands, of these kinds -/
def xPok (C : Nat → Nat) (s : List Nat) (cnt bud : Nat) : Prop := ∃ p V C', xPar (xsgl s) (Int32.ofNat s.length) 16 0 0 (fun _ _ => none) C = (-1, p, V, C') ∧ (xVok V ∧ (V 231 4 = some (Int32.ofNat cnt) ∧ ((∀ n, n < cnt → 1 ≤ C' (234 + n) ∧ C' (234 + n) ≤ 9) ∧ xBud C' cnt 0 ≤ bud)))
theorem xPok_A (C : Nat → Nat) {k : Nat} (hk : k < 8) : xPok C (xtxA k) 2 80200 := by
  obtain ⟨⟨⟨a1, a2⟩, a3, a4⟩, ⟨b1, b2⟩, b3, b4, b5, b6⟩ := xtxA_f k hk
  have c1 := xTkC_1 (i := 234 + 0) (V := fun _ _ => none) (C := C) a1 rfl a2 (by decide)
  have c2 := fun V C => xTkC_2 (i := 234 + 1) (V := V) (C := C) b1 rfl b2 b6 b3 b4 (by decide)
  refine ⟨_, _, _, (xPar_next (n := 0) c1 a4 a3).trans (xPar_end (n := 1) (c2 _ _) b5), ?_, ?_, ?_, ?_⟩
  · intro a b q
    dsimp only [xVct] at q
    by_cases h1 : a = 231 ∧ b = 4
    · exact Or.inr h1
    · refine Or.inl ?_
      rw [if_neg h1] at q
      by_cases h2 : a = 234 + 1
      · omega
      · rw [if_neg (by omega), if_neg (by omega), if_neg h1] at q
        by_cases h3 : a = 234 + 0
        · omega
        · rw [if_neg (by omega)] at q
          exact absurd q (by decide)
  · unfold xVct
    rw [if_pos ⟨rfl, rfl⟩]
    rfl
  · intro n hn
    rcases n with _ | _ | n
    · exact (show 1 ≤ 1 + 8 ∧ 1 + 8 ≤ 9 by decide)
    · exact (show 1 ≤ 1 + 6 ∧ 1 + 6 ≤ 9 by decide)
    · omega
  · exact Nat.le_of_eq rfl
theorem xPok_B (C : Nat → Nat) {k : Nat} (hk : k < 8) : xPok C (xtxB k) 3 80200 := by
  obtain ⟨⟨⟨a1, a2⟩, a3, a4, a5, a6⟩, ⟨⟨b1, b2⟩, b3⟩, ⟨d1, d2⟩, d3, d4, d5, d6⟩ := xtxB_f k hk
  have c1 := xTkC_2 (i := 234 + 0) (V := fun _ _ => none) (C := C) a1 rfl a2 (by decide) a3 a4 (by decide)
  have c2 := fun V C => xTkC_0 (i := 234 + 1) (V := V) (C := C) b1 rfl
  have c3 := fun V C => xTkC_2 (i := 234 + 2) (V := V) (C := C) d1 rfl d2 d6 d3 d4 (by decide)
  refine ⟨_, _, _, (xPar_next (n := 0) c1 a6 a5).trans ((xPar_next (n := 1) (c2 _ _) b3 b2).trans (xPar_end (n := 2) (c3 _ _) d5)), ?_, ?_, ?_, ?_⟩
  · intro a b q
    dsimp only [xVct] at q
    by_cases h1 : a = 231 ∧ b = 4
    · exact Or.inr h1
    · refine Or.inl ?_
      rw [if_neg h1] at q
      by_cases h2 : a = 234 + 2
      · omega
      · rw [if_neg (by omega), if_neg (by omega), if_neg h1, if_neg h1] at q
        by_cases h3 : a = 234 + 0
        · omega
        · rw [if_neg (by omega), if_neg (by omega)] at q
          exact absurd q (by decide)
  · unfold xVct
    rw [if_pos ⟨rfl, rfl⟩]
    rfl
  · intro n hn
    rcases n with _ | _ | _ | n
    · exact (show 1 ≤ 1 + 3 ∧ 1 + 3 ≤ 9 by decide)
    · exact (show 1 ≤ 1 + 1 ∧ 1 + 1 ≤ 9 by decide)
    · exact (show 1 ≤ 1 + 2 ∧ 1 + 2 ≤ 9 by decide)
    · omega
  · show (1000 + (1000 + (1000 + 0)) : Nat) ≤ 80200
    decide
end XRNA
