/-! THROWN: the texts that fail -/
def xtxQ : List Nat := [113]
def xtxG : List Nat := [112, 97, 115, 115, 32, 51, 59, 102, 105, 108, 108, 32, 48, 32, 49, 59, 103, 97, 116, 101, 32, 57, 32, 53]
def xtxC (k : Nat) : List Nat := [] ++ [102, 105, 108, 108, 32, 48, 32, 57, 59, 108, 97, 116, 101, 114, 97, 108, 32, 48, 32] ++ xDg k
theorem xtxQ_f : xTkW (xsgl xtxQ) 0 9 0 0 = (none, 0) := by decide +kernel
theorem xtxG_f : ((xTkW (xsgl xtxG) 0 9 0 0 = (some 8, 5) ∧ xTkP (xsgl xtxG) 110 5 = (3, 6)) ∧ (xsgl xtxG 6 = 59 ∧ (6 : Int32) ≠ Int32.ofNat xtxG.length)) ∧ (((xTkW (xsgl xtxG) (6 + 1) 9 0 0 = (some 3, 12) ∧ xTkP (xsgl xtxG) 100 12 = (0, 13)) ∧ (xsgl xtxG 13 = 32 ∧ (xTkP (xsgl xtxG) 110 (13 + 1) = (1, 15) ∧ (xsgl xtxG 15 = 59 ∧ (15 : Int32) ≠ Int32.ofNat xtxG.length)))) ∧ ((xTkW (xsgl xtxG) (15 + 1) 9 0 0 = (some 5, 21) ∧ xTkP (xsgl xtxG) 100 21 = (9, 22)) ∧ (xsgl xtxG 22 = 32 ∧ (xTkP (xsgl xtxG) 110 (22 + 1) = (5, 24) ∧ (24 : Int32) = Int32.ofNat xtxG.length)))) := by decide +kernel
theorem xtxC_f : ∀ k, k < 51 → ((xTkW (xsgl (xtxC k)) 0 9 0 0 = (some 3, 5) ∧ xTkP (xsgl (xtxC k)) 100 5 = (0, 6)) ∧ (xsgl (xtxC k) 6 = 32 ∧ (xTkP (xsgl (xtxC k)) 110 (6 + 1) = (9, 8) ∧ (xsgl (xtxC k) 8 = 59 ∧ (8 : Int32) ≠ Int32.ofNat (xtxC k).length)))) ∧ ((xTkW (xsgl (xtxC k)) (8 + 1) 9 0 0 = (some 2, 17) ∧ xTkP (xsgl (xtxC k)) 100 17 = (0, 18)) ∧ (xsgl (xtxC k) 18 = 32 ∧ (xTkP (xsgl (xtxC k)) 110 (18 + 1) = (Int32.ofNat k, Int32.ofNat (xtxC k).length) ∧ Int32.ofNat k ≠ -1))) := by decide +kernel
theorem xtxt_lt : ((∀ c ∈ xtxQ, c < 128) ∧ (∀ c ∈ xtxG, c < 128)) ∧ ∀ k, k < 51 → ((∀ c ∈ xtxC k, c < 128) ∧ (xtxC k).length ≤ 60) := by decide +kernel
theorem xPk_G (C : Nat → Nat) : ∃ p V C', xPar (xsgl xtxG) (Int32.ofNat xtxG.length) 16 0 0 (fun _ _ => none) C = (-1, p, V, C') ∧ (xVok V ∧ (V 231 4 = some (Int32.ofNat 3) ∧ ((V 234 1 = some 3 ∧ ((V 235 1 = some 0 ∧ V 235 2 = some 1) ∧ (V 236 1 = some 9 ∧ V 236 2 = some 5))) ∧ (C' 234 = 9 ∧ (C' 235 = 4 ∧ C' 236 = 6))))) := by
  obtain ⟨⟨⟨a1, a2⟩, a3, a4⟩, ⟨⟨b1, b2⟩, b3, b4, b5, b6⟩, ⟨d1, d2⟩, d3, d4, d5⟩ := xtxG_f
  have c1 := xTkC_1 (i := 234 + 0) (V := fun _ _ => none) (C := C) a1 rfl a2 (by decide)
  have c2 := fun V C => xTkC_2 (i := 234 + 1) (V := V) (C := C) b1 rfl b2 (by decide) b3 b4 (by decide)
  have c3 := fun V C => xTkC_2 (i := 234 + 2) (V := V) (C := C) d1 rfl d2 (by decide) d3 d4 (by decide)
  refine ⟨_, _, _, (xPar_next (n := 0) c1 a4 a3).trans ((xPar_next (n := 1) (c2 _ _) b6 b5).trans (xPar_end (n := 2) (c3 _ _) d5)), ?_, rfl, ⟨rfl, ⟨rfl, rfl⟩, rfl, rfl⟩, rfl, rfl, rfl⟩
  intro a b q
  dsimp only [xVct] at q
  by_cases h1 : a = 231 ∧ b = 4
  · exact Or.inr h1
  · refine Or.inl ?_
    rw [if_neg h1] at q
    by_cases h2 : a = 234 + 2
    · omega
    · rw [if_neg (by omega), if_neg (by omega), if_neg h1] at q
      by_cases h3 : a = 234 + 1
      · omega
      · rw [if_neg (by omega), if_neg (by omega), if_neg h1] at q
        by_cases h4 : a = 234 + 0
        · omega
        · rw [if_neg (by omega)] at q
          exact absurd q (by decide)
theorem xPk_C (C : Nat → Nat) {k : Nat} (hk : k < 51) : ∃ p V C', xPar (xsgl (xtxC k)) (Int32.ofNat (xtxC k).length) 16 0 0 (fun _ _ => none) C = (-1, p, V, C') ∧ (xVok V ∧ (V 231 4 = some (Int32.ofNat 2) ∧ (((V 234 1 = some 0 ∧ V 234 2 = some 9) ∧ (V 235 1 = some 0 ∧ V 235 2 = some (Int32.ofNat k))) ∧ (C' 234 = 4 ∧ C' 235 = 3)))) := by
  obtain ⟨⟨⟨a1, a2⟩, a3, a4, a5, a6⟩, ⟨d1, d2⟩, d3, d4, d6⟩ := xtxC_f k hk
  have c1 := xTkC_2 (i := 234 + 0) (V := fun _ _ => none) (C := C) a1 rfl a2 (by decide) a3 a4 (by decide)
  have c3 := fun V C => xTkC_2 (i := 234 + 1) (V := V) (C := C) d1 rfl d2 (by decide) d3 d4 d6
  refine ⟨_, _, _, (xPar_next (n := 0) c1 a6 a5).trans (xPar_end (n := 1) (c3 _ _) rfl), ?_, rfl, ⟨⟨rfl, rfl⟩, rfl, rfl⟩, rfl, rfl⟩
  intro a b q
  dsimp only [xVct] at q
  by_cases h1 : a = 231 ∧ b = 4
  · exact Or.inr h1
  · refine Or.inl ?_
    rw [if_neg h1] at q
    by_cases h2 : a = 234 + 1
    · omega
    · rw [if_neg (by omega), if_neg (by omega), if_neg h1] at q
      by_cases h4 : a = 234 + 0
      · omega
      · rw [if_neg (by omega), if_neg (by omega)] at q
        exact absurd q (by decide)
section XTHX
variable {xs : List Int32} {z : Value} {K : List (Nat × List Value)} {Z : List Value} {pre g g0 : xH} {B L : Nat} {N N0 M : Nat → Nat → Int32} {C : Nat → Nat} {V H m n0 p0 h0 : Nat}
/-- a text that fails, run by the law -/
theorem xl_runsFail (hB : xBok pre B) (hz : z.category = 1) (h : xOb N V H) {sa : Nat} {s : List Nat} (hS : ∀ M, xStr (xK xs) (xHn pre B M C L g) sa s) (hs : ∀ c ∈ s, c < 128) (h60 : s.length ≤ 60) {p : Int32} {Vv : Nat → Nat → Option Int32} {C' : Nat → Nat} (hpar : xPar (xsgl s) (Int32.ofNat s.length) 16 0 0 (fun _ _ => none) C = (-1, p, Vv, C')) (hVv : xVok Vv) {cnt : Nat} (hcnt : cnt ≤ 16) (hC : ∀ n, n < cnt → 1 ≤ C' (234 + n) ∧ C' (234 + n) ≤ 9) (h4 : Vv 231 4 = some (Int32.ofNat cnt)) (hV : V + xBud C' cnt 0 ≤ 1000000) (hg : B + 253 + g.length < 1000000) {i : Nat} {ans : Int32} {M2 : Nat → Nat → Int32} (he : xExc C' cnt 0 (xNn (xM0 N s p Vv)) = (some (i, ans), M2)) :
    ∃ N', xRn (xK xs) (xZ z) 11 237 [.ref (B + 0), .ref sa] (xHn pre B N C L g) (.ok (some (.int (-1002)))) (xHn pre B N' C' L (xgx g)) ∧ (xRefd N N' ∧ (xOb N' V H ∧ (N' 0 8 = N 0 8 ∧ ∀ b, N' 250 b = xNfail M2 (Int32.ofNat i) (M2 (234 + i) 2) ans 250 b))) := by
  have h0 := h.2.2.2
  have hM := xM0_ob (s := s) (p := p) hVv h
  have hnM := xNn_ob hM
  have hr := xRow_in hM.2.2.1
  have h4M : xNn (xM0 N s p Vv) 231 4 = Int32.ofNat cnt := (xNn_off hM.2.2.1 (by omega)).trans (xM0_V (Or.inr rfl) h4)
  obtain ⟨hoff, hru, v', H', hgd, hv', hH'⟩ := xexc_gd cnt 0 (xNn (xM0 N s p Vv)) V H _ M2 (fun j hj => by rw [show 0 + j = j by omega]; exact hC j hj) hnM.1 (hnM.2 1 (by decide)) hV he
  have hnf : ∀ a b, a ≠ 250 → xNfail M2 (Int32.ofNat i) (M2 (234 + i) 2) ans a b = M2 a b := by
    intro a b q
    unfold xNfail
    split
    · unfold xNden xupN
      rw [if_neg (by omega), if_neg (by omega), if_neg (by omega), if_neg (by omega)]
    · unfold xNden xupN
      rw [if_neg (by omega), if_neg (by omega), if_neg (by omega), if_neg (by omega)]
  have e58 : xNfail M2 (Int32.ofNat i) (M2 (234 + i) 2) ans 58 1 = xM0 N s p Vv 58 1 := by rw [hnf 58 1 (by decide), hoff 58 1 (by omega), xNn_off hM.2.2.1 (by omega)]
  have erow : 60 + 19 * xNx (xNfail M2 (Int32.ofNat i) (M2 (234 + i) 2) ans) = xRow (xM0 N s p Vv) := by
    unfold xRow xNx
    rw [e58]
  have run := xl_run2 (L := L) (g := g) hB hz hS hs h60 h0 hpar hM.2.2.1 (hM.2.1 1 (by decide)) hg hcnt hC h4M (by rw [e58]; exact hM.2.2.1) (by
    rw [erow]
    exact xrul_off (fun r hr8 => (hnf _ _ (by omega)).trans (hoff _ _ (by omega))) (hnM.2 _ hr.1)) he
  have ref := xrefd_fail (x := Int32.ofNat i) (y := M2 (234 + i) 2) (z := ans) hM hoff
  refine ⟨_, run, xRefd_pre hVv h0 ref.1, ref.2, ?_, fun b => ?_⟩
  · rw [xNcopy_off (by omega), hnf 0 8 (by decide), hoff 0 8 (by omega), xNn_off hM.2.2.1 (by omega), xM0_off hVv (by decide) (by decide) (by decide)]
  · exact xNcopy_off (by omega)
/-- pouring into a reach that is there -/
theorem xpour_ok {v : Nat} {x f : Int32} (hg : xGd M 1 v H) (hv : v ≤ 1000000) (hh : xhas M 1 x = true) (hf : xwin f 1 999 = true) (hf0 : f ≠ 0) : ¬ (xfPour M 1 x f).1 < 0 ∧ ((xfPour M 1 x f).2 = xNpour M 1 (1 + 3 + x.toNatClampNeg) f ∧ xGd (xfPour M 1 x f).2 1 (v + 1000) H) := by
  have e : (xfPour M 1 x f).2 = xNpour M 1 (1 + 3 + x.toNatClampNeg) f := by
    unfold xfPour
    rw [if_neg (by rw [hh]; decide), if_neg (by rw [hf]; decide)]
  rcases xgd_pour (x := x) (f := f) hg hv with ⟨-, k⟩ | ⟨a, ea, ha, k⟩
  · exfalso
    have k5 := congrFun (congrFun (e.symm.trans k) 1) 5
    unfold xNpour xupN at k5
    rw [if_pos ⟨rfl, rfl⟩] at k5
    exact xi_addne hf0 k5
  · exact ⟨by rw [ea]; exact Int32.not_lt.mpr (xi_ofNat (n := a) (by omega)).2.2, e, k⟩
/-- "pass 3;fill 0 1;gate 9 5" -/
theorem xexc_G {C' : Nat → Nat} (hg : xGd M 1 V H) (hV : V ≤ 900000) (hn : M 1 2 = Int32.ofNat n0) (hn1 : 1 ≤ n0 ∧ n0 ≤ 8) (hv : M 234 1 = 3 ∧ ((M 235 1 = 0 ∧ M 235 2 = 1) ∧ (M 236 1 = 9 ∧ M 236 2 = 5))) (hC : C' 234 = 9 ∧ (C' 235 = 4 ∧ C' 236 = 6)) : ∃ M2, xExc C' 3 0 M = (some (2, -11), M2) := by
  have e0 : xfPer M 1 (C' (234 + 0)) (M (234 + 0) 1) (M (234 + 0) 2) (M (234 + 0) 3) = xLet M 1 3 := by
    rw [show C' (234 + 0) = 9 from hC.1, show M (234 + 0) 1 = 3 from hv.1]
    show xfLet M 1 3 = _
    unfold xfLet
    rw [if_neg (by decide), if_neg (by rw [hn]; exact xi_ne (b := 0) (by omega) (by omega) (by omega))]
    rfl
  obtain ⟨hgl, a, ea, -, ha⟩ := xgd_letN hg 3 (by omega)
  have hpos : ¬ (xLet M 1 3).1 < 0 := by rw [ea]; exact Int32.not_lt.mpr (xi_ofNat (n := a) (by omega)).2.2
  have hoff : ∀ a b, 20 ≤ a → (xLet M 1 3).2 a b = M a b := fun a b hab => xoff_letN (by omega) 3
  have hn2 : (xLet M 1 3).2 1 2 = Int32.ofNat n0 := (xlet_cnt 3).trans hn
  generalize xLet M 1 3 = F0 at e0 hgl hpos hoff hn2
  have hh : xhas F0.2 1 0 = true := xhas_n (n := 0) (by decide) (by rw [hn2]; exact (xi_lt (by decide) (by omega)).mpr (by omega))
  have e1 : xfPer F0.2 1 (C' (234 + (0 + 1))) (F0.2 (234 + (0 + 1)) 1) (F0.2 (234 + (0 + 1)) 2) (F0.2 (234 + (0 + 1)) 3) = xfPour F0.2 1 0 1 := by
    rw [show C' (234 + (0 + 1)) = 4 from hC.2.1, show F0.2 (234 + (0 + 1)) 1 = 0 from (hoff 235 1 (by decide)).trans hv.2.1.1, show F0.2 (234 + (0 + 1)) 2 = 1 from (hoff 235 2 (by decide)).trans hv.2.1.2]
    rfl
  obtain ⟨p1, p2, -⟩ := xpour_ok (x := 0) (f := 1) hgl (by omega) hh (by decide) (by decide)
  have hoff2 : ∀ a b, 20 ≤ a → (xfPour F0.2 1 0 1).2 a b = M a b := fun a b hab => (xoff_pour (by omega)).trans (hoff a b hab)
  generalize xfPour F0.2 1 0 1 = F1 at e1 p1 p2 hoff2
  have e2 : xfPer F1.2 1 (C' (234 + (0 + 1 + 1))) (F1.2 (234 + (0 + 1 + 1)) 1) (F1.2 (234 + (0 + 1 + 1)) 2) (F1.2 (234 + (0 + 1 + 1)) 3) = (-11, F1.2) := by
    rw [show C' (234 + (0 + 1 + 1)) = 6 from hC.2.2, show F1.2 (234 + (0 + 1 + 1)) 1 = 9 from (hoff2 236 1 (by decide)).trans hv.2.2.1]
    show xfSet F1.2 1 9 _ = _
    exact xf_set11 (by unfold xhas; rw [decide_eq_false (show ¬ (9 : Int32) < 8 by decide)]; simp)
  refine ⟨F1.2, ?_⟩
  rw [xExc, e0, if_neg hpos, xExc, e1, if_neg p1, xExc, e2, if_pos (show (-11 : Int32) < 0 by decide)]
/-- "fill 0 9;lateral 0 " and the lateral inflow as it is -/
theorem xexc_C {C' : Nat → Nat} {k : Nat} (hg : xGd M 1 V H) (hV : V ≤ 900000) (hn : M 1 2 = Int32.ofNat n0) (hn1 : 1 ≤ n0 ∧ n0 ≤ 8) (hk : k < 51) (h3 : M 4 3 = Int32.ofNat k) (hv : (M 234 1 = 0 ∧ M 234 2 = 9) ∧ (M 235 1 = 0 ∧ M 235 2 = Int32.ofNat k)) (hC : C' 234 = 4 ∧ C' 235 = 3) : ∃ M2, xExc C' 2 0 M = (some (1, -4), M2) ∧ M2 235 2 = Int32.ofNat k := by
  have hh : xhas M 1 0 = true := xhas_n (n := 0) (by decide) (by rw [hn]; exact (xi_lt (by decide) (by omega)).mpr (by omega))
  have e1 : xfPer M 1 (C' (234 + 0)) (M (234 + 0) 1) (M (234 + 0) 2) (M (234 + 0) 3) = xfPour M 1 0 9 := by
    rw [show C' (234 + 0) = 4 from hC.1, show M (234 + 0) 1 = 0 from hv.1.1, show M (234 + 0) 2 = 9 from hv.1.2]
    rfl
  obtain ⟨p1, p2, -⟩ := xpour_ok (x := 0) (f := 9) hg (by omega) hh (by decide) (by decide)
  have hoff2 : ∀ a b, 20 ≤ a → (xfPour M 1 0 9).2 a b = M a b := fun a b hab => xoff_pour (by omega)
  generalize xfPour M 1 0 9 = F1 at e1 p1 p2 hoff2
  have hh2 : xhas F1.2 1 0 = true := by
    unfold xhas at hh ⊢
    rw [p2]
    unfold xNpour xupN
    rw [if_neg (by omega), if_neg (by omega)]
    exact hh
  have h32 : F1.2 (1 + 3 + (0 : Int32).toNatClampNeg) 3 = Int32.ofNat k := by
    rw [p2]
    unfold xNpour xupN
    rw [if_neg (by omega), if_neg (by omega)]
    exact h3
  have e2 : xfPer F1.2 1 (C' (234 + (0 + 1))) (F1.2 (234 + (0 + 1)) 1) (F1.2 (234 + (0 + 1)) 2) (F1.2 (234 + (0 + 1)) 3) = (-4, F1.2) := by
    rw [show C' (234 + (0 + 1)) = 3 from hC.2, show F1.2 (234 + (0 + 1)) 1 = 0 from (hoff2 235 1 (by decide)).trans hv.2.1, show F1.2 (234 + (0 + 1)) 2 = Int32.ofNat k from (hoff2 235 2 (by decide)).trans hv.2.2]
    show xfLat F1.2 1 0 (Int32.ofNat k) = _
    exact xf_lat4 hh2 (xwin_of (lo := 0) (hi := 50) (by omega) (by omega) (by omega) rfl rfl) h32
  refine ⟨F1.2, ?_, (hoff2 235 2 (by decide)).trans hv.2.2⟩
  rw [xExc, e1, if_neg p1, xExc, e2, if_pos (show (-4 : Int32) < 0 by decide)]
end XTHX
