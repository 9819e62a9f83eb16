/-! THE OBJECT'S LINE -/
/-- the line in the object's memory -/
def xLin (pre : xH) (B : Nat) (N : Nat → Nat → Int32) (C : Nat → Nat) (L : Nat) (g : xH) (cnt : Nat) (bs : List Int32) : Prop := xSb (xHn pre B N C L g) (B + 251) L (N 251 2) cnt bs ∧ B + 252 ≤ L
/-- two memories differ in the line alone -/
def xNe (N N' : Nat → Nat → Int32) : Prop := ∀ a b, a ≠ 251 → a ≠ 252 → N' a b = N a b
def xGr (g g' : xH) (m : Nat) : Prop := g.length ≤ g'.length ∧ (g'.length ≤ g.length + m ∧ xsz g' ≤ xsz g + 300 * m)
theorem xNe_refl (N : Nat → Nat → Int32) : xNe N N := fun _ _ _ _ => rfl
theorem xNe_trans {N N1 N2 : Nat → Nat → Int32} (h1 : xNe N N1) (h2 : xNe N1 N2) : xNe N N2 := fun a b h3 h4 => (h2 a b h3 h4).trans (h1 a b h3 h4)
theorem xGr_trans {g g1 g2 : xH} {m1 m2 : Nat} (h1 : xGr g g1 m1) (h2 : xGr g1 g2 m2) : xGr g g2 (m1 + m2) := by
  obtain ⟨a1, a2, a3⟩ := h1
  obtain ⟨b1, b2, b3⟩ := h2
  exact ⟨by omega, by omega, by omega⟩
theorem xsz_app (h1 h2 : xH) : xsz (h1 ++ h2) = xsz h1 + xsz h2 := by
  simp [xsz]
theorem xLay_sz (m m' : xM) : xsz (xLay m) = xsz (xLay m') := by
  have e : ∀ m : xM, xsz (xLay m) = ((List.range 253).map fun i => (xKd i).2).sum := by
    intro m
    unfold xsz xLay
    rw [List.map_map]
    refine congrArg List.sum (List.map_congr_left (fun i _ => ?_))
    show ((List.range (xKd i).2).map (m i)).length = _
    rw [List.length_map, List.length_range]
  rw [e, e]
theorem xHn_at {pre g : xH} {B L i : Nat} {N : Nat → Nat → Int32} {C : Nat → Nat} (hB : xBok pre B) (hi : i < 253) : (xHn pre B N C L g)[B + i]? = some ((xKd i).1, (List.range (xKd i).2).map (xMv B N C L i)) := xHp_get hB.1 hi
theorem xlin_back {pre g h' : xH} {B L L' m cnt' : Nat} {N : Nat → Nat → Int32} {C : Nat → Nat} {ml' : Int32} {bs' : List Int32} (hB : xBok pre B) (hL : B + 252 ≤ L) (hF : xFr m (xHn pre B N C L g) h' (B + 251) L L') (hS : xSb h' (B + 251) L' ml' cnt' bs') : ∃ N' g', h' = xHn pre B N' C L' g' ∧ (xNe N N' ∧ (xLin pre B N' C L' g' cnt' bs' ∧ xGr g g' m)) := by
  obtain ⟨⟨f1, f2, f3⟩, f4, f5, f6⟩ := hF
  have hlen := xHn_len (g := g) (N := N) (C := C) (L := L) hB
  have h252 : (xHn pre B N C L g)[B + 252]? = some (50, ((List.range 16).map (N 252)).map .int) := by
    rw [xHn_at hB (by decide)]
    rfl
  obtain ⟨b2, hb2, hl2⟩ : ∃ b2 : List Int32, h'[B + 252]? = some (50, b2.map .int) ∧ b2.length = 16 := by
    by_cases hq : L = B + 252
    · obtain ⟨b2, h1, h2⟩ := f6 ((List.range 16).map (N 252)) (by rw [← hq] at h252; exact h252)
      rw [hq] at h1
      exact ⟨b2, h1, by rw [h2]; rfl⟩
    · refine ⟨(List.range 16).map (N 252), ?_, rfl⟩
      rw [f4 _ (by omega) (by omega) (fun e => hq e.symm)]
      exact h252
  generalize hN : (fun (a b : Nat) => if a = 251 then (if b = 1 then (0 : Int32) else if b = 2 then ml' else if b = 3 then Int32.ofNat cnt' else N a b) else if a = 252 then b2.getD b 0 else N a b) = N'
  have hne : xNe N N' := by
    intro a b h1 h2
    rw [← hN]
    dsimp only
    rw [if_neg h1, if_neg h2]
  have hml : N' 251 2 = ml' := by rw [← hN]; rfl
  have htake : h'.take (B + 253) = pre ++ xLay (xMv B N' C L') := by
    apply List.ext_getElem?
    intro q
    by_cases hq : q < B + 253
    · rw [List.getElem?_take_of_lt hq]
      by_cases hq2 : q < B
      · rw [f4 q (by omega) (by omega) (by omega), List.getElem?_append_left (by rw [hB.1]; exact hq2)]
        unfold xHn xHp
        rw [List.getElem?_append_left (by rw [hB.1]; exact hq2)]
      · obtain ⟨i, rfl⟩ : ∃ i, q = B + i := ⟨q - B, by omega⟩
        have hi : i < 253 := by omega
        have hr : (pre ++ xLay (xMv B N' C L'))[B + i]? = some ((xKd i).1, (List.range (xKd i).2).map (xMv B N' C L' i)) := by
          have := xHp_get (pre := pre) (g := []) (m := xMv B N' C L') hB.1 hi
          unfold xHp at this
          rw [List.append_nil] at this
          exact this
        rw [hr]
        by_cases h1 : i = 251
        · subst h1
          rw [hS.2.1, ← hN]
          rfl
        · by_cases h2 : i = 252
          · subst h2
            rw [hb2, ← hN]
            have hm : b2.map Value.int = (List.range 16).map fun k => Value.int (b2.getD k 0) := by
              apply List.ext_getElem?
              intro k
              by_cases hk : k < 16
              · rw [List.getElem?_map, List.getElem?_map, List.getElem?_range hk]
                dsimp only [Option.map_some]
                rw [List.getD_eq_getElem?_getD, List.getElem?_eq_getElem (by omega)]
                rfl
              · rw [List.getElem?_eq_none (by rw [List.length_map]; omega), List.getElem?_eq_none (by rw [List.length_map, List.length_range]; omega)]
            rw [hm]
            rfl
          · rw [f4 _ (by omega) (by omega) (by omega), xHn_at hB hi]
            congr 2
            apply List.map_congr_left
            intro k _
            unfold xMv
            cases xrf0 i k with
            | some r => rfl
            | none =>
              dsimp only
              have h9 : ¬ (i = 251 ∧ k = 0) := fun e => h1 e.1
              simp only [if_neg h9]
              by_cases h3 : 234 ≤ i ∧ i < 250 ∧ k = 0
              · simp only [if_pos h3]
              · simp only [if_neg h3]
                rw [hne i k h1 h2]
    · rw [List.getElem?_eq_none (by rw [List.length_take]; omega), List.getElem?_eq_none (by rw [List.length_append, xLay_len, hB.1]; omega)]
  have heq : h' = xHn pre B N' C L' (h'.drop (B + 253)) := by
    unfold xHn xHp
    rw [← List.append_assoc, ← htake, List.take_append_drop]
  have hszs : xsz h' = xsz pre + (xsz (xLay (xMv B N C L)) + xsz (h'.drop (B + 253))) := by
    have e := congrArg xsz heq
    unfold xHn xHp at e
    rw [xsz_app, xsz_app, xLay_sz _ (xMv B N C L)] at e
    exact e
  have hsz0 : xsz (xHn pre B N C L g) = xsz pre + (xsz (xLay (xMv B N C L)) + xsz g) := by
    unfold xHn xHp
    rw [xsz_app, xsz_app]
  refine ⟨N', h'.drop (B + 253), heq, hne, ⟨?_, by omega⟩, ⟨?_, ?_, ?_⟩⟩
  · rw [← heq, hml]
    exact hS
  · rw [List.length_drop]
    omega
  · rw [List.length_drop]
    omega
  · omega
section XLI
variable {xs : List Int32} {z : Value} {pre g : xH} {B L cnt : Nat} {N : Nat → Nat → Int32} {C : Nat → Nat} {bs : List Int32} {P : xA → xH → Prop}
/-- after a call of the line's: more signs s -/
def xLiP (pre : xH) (B : Nat) (N : Nat → Nat → Int32) (C : Nat → Nat) (g : xH) (cnt : Nat) (bs : List Int32) (s : List Int32) (h' : xH) : Prop := ∃ N' L' g' bs', h' = xHn pre B N' C L' g' ∧ (xNe N N' ∧ (xLin pre B N' C L' g' (cnt + s.length) bs' ∧ (xGr g g' 1 ∧ bs'.take (cnt + s.length) = bs.take cnt ++ s)))
theorem xli_of (hB : xBok pre B) (hl : xLin pre B N C L g cnt bs) {s : List Int32} {h' : xH} (hp : xSbP (xHn pre B N C L g) (B + 251) L (N 251 2) cnt bs 1 s h') : xLiP pre B N C g cnt bs s h' := by
  obtain ⟨v', bs', hS, ht, hf⟩ := hp
  obtain ⟨N', g', e, h1, h2, h3⟩ := xlin_back hB hl.2 hf hS
  exact ⟨N', v', g', bs', e, h1, h2, h3, ht⟩
theorem xli_char (hB : xBok pre B) (hl : xLin pre B N C L g cnt bs) {n : Nat} (hn : n < 128) (hm : cnt + 1 ≤ 100) (hg : B + 253 + g.length < 999990) : ∃ h', xRn (xK xs) (xZ z) 6 156 [.ref (B + 251), .int (Int32.ofNat n)] (xHn pre B N C L g) (.ok (some (.ref (B + 251)))) h' ∧ xLiP pre B N C g cnt bs [Int32.ofNat n] h' := by
  obtain ⟨r, h', hrun, rfl, hp⟩ := xo_bchar (K := xK xs) (z := z) hl.1 hn hm (by rw [xHn_len hB]; exact hg)
  exact ⟨h', hrun, xli_of hB hl hp⟩
theorem xli_int (hB : xBok pre B) (hl : xLin pre B N C L g cnt bs) {n : Nat} (hn : n < 10000000) (hm : cnt + (xDg n).length ≤ 100) (hg : B + 253 + g.length < 999990) : ∃ h', xRn (xK xs) (xZ z) 6 157 [.ref (B + 251), .int (Int32.ofNat n)] (xHn pre B N C L g) (.ok (some (.ref (B + 251)))) h' ∧ xLiP pre B N C g cnt bs ((xDg n).map Int32.ofNat) h' := by
  obtain ⟨r, h', hrun, rfl, hp⟩ := xo_bint (xs := xs) (z := z) hl.1 hn hm (by rw [xHn_len hB]; exact hg)
  exact ⟨h', hrun, xli_of hB hl hp⟩
theorem xli_cell (hl : xLin pre B N C L g cnt bs) : xcell (xK xs) (xHn pre B N C L g) (B + 251) = some (1, [.ref L, .int 0, .int (N 251 2), .int (Int32.ofNat cnt)]) := (xSb_cell (K := xK xs) hl.1).1
/-- a step of a method: the line takes a sign -/
theorem xp_lchar {d nL pc j ln pc2 ln2 I : Nat} {aux2 : List Nat} {hs : List (Nat × Nat × Nat × Nat)} {code cs : List xE} {loc : xL} {n : Nat} (hd : 6 ≤ d) (hB : xBok pre B) (hl : xLin pre B N C L g cnt bs) (hn : n < 128) (hm : cnt + 1 ≤ 100) (hg : B + 253 + g.length < 999990) (hb : ∀ N' L' g' bs', xNe N N' → xLin pre B N' C L' g' (cnt + 1) bs' → xGr g g' 1 → bs'.take (cnt + 1) = bs.take cnt ++ [Int32.ofNat n] → xBp (xK xs) (xZ z) d nL hs code cs loc [] (xHn pre B N' C L' g') P) : xBp (xK xs) (xZ z) d nL hs code ((pc, .invokevirtual j, ln, [0, 156, 2, I, 1]) :: (pc2, .pop, ln2, aux2) :: cs) loc [.int (Int32.ofNat n), .ref (B + 251)] (xHn pre B N C L g) P := by
  obtain ⟨h', hrun, N', L', g', bs', rfl, h1, h2, h3, h4⟩ := xli_char (xs := xs) (z := z) hB hl hn hm hg
  refine xp_virtK (xli_cell hl) rfl (Nat.le_of_ble_eq_true rfl) rfl (xR_up hd hrun) ?_
  refine xp_step rfl ?_
  exact hb N' L' g' bs' h1 h2 h3 h4
theorem xp_lint {d nL pc j ln pc2 ln2 I : Nat} {aux2 : List Nat} {hs : List (Nat × Nat × Nat × Nat)} {code cs : List xE} {loc : xL} {n : Nat} (hd : 6 ≤ d) (hB : xBok pre B) (hl : xLin pre B N C L g cnt bs) (hn : n < 10000000) (hm : cnt + (xDg n).length ≤ 100) (hg : B + 253 + g.length < 999990) (hb : ∀ N' L' g' bs', xNe N N' → xLin pre B N' C L' g' (cnt + (xDg n).length) bs' → xGr g g' 1 → bs'.take (cnt + (xDg n).length) = bs.take cnt ++ (xDg n).map Int32.ofNat → xBp (xK xs) (xZ z) d nL hs code cs loc [] (xHn pre B N' C L' g') P) : xBp (xK xs) (xZ z) d nL hs code ((pc, .invokevirtual j, ln, [0, 157, 2, I, 1]) :: (pc2, .pop, ln2, aux2) :: cs) loc [.int (Int32.ofNat n), .ref (B + 251)] (xHn pre B N C L g) P := by
  obtain ⟨h', hrun, N', L', g', bs', rfl, h1, h2, h3, h4⟩ := xli_int (xs := xs) (z := z) hB hl hn hm hg
  rw [List.length_map] at h2 h4
  refine xp_virtK (xli_cell hl) rfl (Nat.le_of_ble_eq_true rfl) rfl (xR_up hd hrun) ?_
  refine xp_step rfl ?_
  exact hb N' L' g' bs' h1 h2 h3 h4
theorem xp_lzero {d nL pc j ln I : Nat} {hs : List (Nat × Nat × Nat × Nat)} {code cs : List xE} {loc : xL} (hd : 6 ≤ d) (hB : xBok pre B) (hl : xLin pre B N C L g cnt bs) (hg : B + 253 + g.length < 999990) (hb : ∀ N' L' g' bs', xNe N N' → xLin pre B N' C L' g' 0 bs' → xGr g g' 1 → xBp (xK xs) (xZ z) d nL hs code cs loc [] (xHn pre B N' C L' g') P) : xBp (xK xs) (xZ z) d nL hs code ((pc, .invokevirtual j, ln, [0, 160, 2, I, 1]) :: cs) loc [.int 0, .ref (B + 251)] (xHn pre B N C L g) P := by
  obtain ⟨r, h', hrun, rfl, v', ml', bs', hS, hf⟩ := xo_bzero (K := xK xs) (z := z) hl.1 (by rw [xHn_len hB]; exact hg)
  obtain ⟨N', g', rfl, h1, h2, h3⟩ := xlin_back hB hl.2 hf hS
  refine xp_virtK (xli_cell hl) rfl (Nat.le_of_ble_eq_true rfl) rfl (xR_up hd hrun) ?_
  exact hb N' v' g' bs' h1 h2 h3
/-- lineCharacter -/
theorem xo_lineChar_ (hB : xBok pre B) (hl : xLin pre B N C L g cnt bs) (hz : z.category = 1) {n c : Nat} (hn : n < cnt) (hc9 : c < 128) (hbn : bs[n]? = some (Int32.ofNat c)) : xRn (xK xs) (xZ z) 5 101 [.ref (B + 0), .int (Int32.ofNat n)] (xHn pre B N C L g) (.ok (some (.int (Int32.ofNat c)))) (xHn pre B N C L g) := by
  have hb300 := hl.1.2.2.2.1
  refine xRp_eq ?_
  refine xRp_of (m := (yX9_lineCharacter, cX9_lineCharacter, 2, (some .char), [], [], xcX9_lineCharacter)) rfl (by show 2 ≤ 2; decide) ?_
  show xBp (xK xs) (xZ z) 4 2 [] xcX9_lineCharacter xcX9_lineCharacter [(0, .ref (B + 0)), (1, .int (Int32.ofNat n))] [] _ _
  refine xp_step rfl ?_
  refine xp_if1 rfl (fun q => absurd (of_decide_eq_true q) (Int32.not_lt.mpr (xi_ofNat (by omega)).2.2)) (fun _ => ?_)
  refine xp_step rfl ?_
  refine xp_step rfl ?_
  refine xp_ref hB (i := 0) (k := 6) (q := 251) (by decide) rfl (by decide) rfl ?_
  refine xp_virtK (xli_cell hl) rfl (Nat.le_of_ble_eq_true rfl) rfl (xR_up (by decide) (xo_blen hl.1)) ?_
  refine xp_if2 rfl (fun _ => ?_) (fun q => ?_)
  · refine xp_step rfl ?_
    refine xp_ref hB (i := 0) (k := 6) (q := 251) (by decide) rfl (by decide) rfl ?_
    refine xp_step rfl ?_
    refine xp_virtK (xli_cell hl) rfl (Nat.le_of_ble_eq_true rfl) rfl (xo_bchr hl.1 hn hc9 hbn hz) ?_
    refine xp_ret rfl ⟨fun v q => ?_, rfl, rfl⟩
    cases q
    exact (show ∀ n, n < 128 → xfit .char (.int (Int32.ofNat n)) = true by decide +kernel) _ hc9
  · have q : ¬ Int32.ofNat n < Int32.ofNat cnt := of_decide_eq_false q
    rw [xi_lt (by omega) (by omega)] at q
    omega
theorem xo_lineCharE_ (hB : xBok pre B) (hl : xLin pre B N C L g cnt bs) {x : Int32} (hx : x < 0 ∨ Int32.ofNat cnt ≤ x) (hg : B + 253 + g.length < 1000000) : xRn (xK xs) (xZ z) 5 101 [.ref (B + 0), .int x] (xHn pre B N C L g) (.error (0, B + 253 + g.length)) (xHn pre B N C L (xgx g)) := by
  refine xRp_eq ?_
  refine xRp_of (m := (yX9_lineCharacter, cX9_lineCharacter, 2, (some .char), [], [], xcX9_lineCharacter)) rfl (by show 2 ≤ 2; decide) ?_
  show xBp (xK xs) (xZ z) 4 2 [] xcX9_lineCharacter xcX9_lineCharacter [(0, .ref (B + 0)), (1, .int x)] [] _ _
  have bad : xBp (xK xs) (xZ z) 4 2 [] xcX9_lineCharacter (xseek xcX9_lineCharacter 15) [(0, .ref (B + 0)), (1, .int x)] [] (xHn pre B N C L g) (fun r h' => (∀ v, r = .ok v → xrfit (some .char) v = true) ∧ r = .error (0, B + 253 + g.length) ∧ h' = xHn pre B N C L (xgx g)) := by
    refine xp_new (E := 0) (h1 := xHn pre B N C L g) rfl (by rw [xHn_len hB]; exact hg) ⟨fun v q => (nomatch q), ?_, ?_⟩
    · rw [xHn_len hB]
    · rw [xHn_app]; rfl
  refine xp_step rfl ?_
  refine xp_if1 rfl (fun q => bad) (fun q => ?_)
  have q : ¬ x < 0 := of_decide_eq_false q
  refine xp_step rfl ?_
  refine xp_step rfl ?_
  refine xp_ref hB (i := 0) (k := 6) (q := 251) (by decide) rfl (by decide) rfl ?_
  refine xp_virtK (xli_cell hl) rfl (Nat.le_of_ble_eq_true rfl) rfl (xR_up (by decide) (xo_blen hl.1)) ?_
  refine xp_if2 rfl (fun q2 => ?_) (fun q2 => bad)
  have q2 : x < Int32.ofNat cnt := of_decide_eq_true q2
  rcases hx with hx | hx
  · exact absurd hx q
  · exact absurd q2 (Int32.not_lt.mpr hx)
end XLI
