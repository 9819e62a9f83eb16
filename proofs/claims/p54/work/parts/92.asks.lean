/-! ASKS: the sum of all answers, as a function of the river's numbers -/
def xj (s : Int64) (x : Int32) : Int64 := Int64.ofNat 31 * s + x.toInt64
def xjL (T : List Nat) (s : Int64) : Int64 := T.foldl (fun s c => xj s (Int32.ofNat c)) s
/-- the text of a reach -/
def xTx (N : Nat → Nat → Int32) (r : Nat) : List Nat := xTxt r (N (1 + 3 + r) 4).toNatClampNeg (N (1 + 3 + r) 0).toNatClampNeg (xlvl (N (1 + 3 + r) 0) (N (1 + 3 + r) 4)).toNatClampNeg (xsta N (1 + 3 + r)).toNatClampNeg (N (1 + 3 + r) 8).toNatClampNeg (xfOpen N 1 (Int32.ofNat r)).toNatClampNeg
def xAsR (N : Nat → Nat → Int32) (r : Nat) (s : Int64) : Int64 := xjL (xTx N r) (xj (xj (xj (xj (xj s (N (1 + 3 + r) 3)) (xfOut N 1 (Int32.ofNat r))) (xRoom N (Int32.ofNat r))) (xByV (xBy N (Int32.ofNat r) (N 1 2).toNatClampNeg 0))) (xPkN N (Int32.ofNat r) 12))
def xAsL (N : Nat → Nat → Int32) : Nat → Nat → Int64 → Int64
  | 0, _, s => s
  | k + 1, r, s => xAsL N k (r + 1) (xAsR N r s)
def xAsH (N : Nat → Nat → Int32) : Nat → Nat → Int64 → Int64
  | 0, _, s => s
  | k + 1, h, s => xAsH N k (h + 1) (xj s (xfHead N 1 (N 1 4 + Int32.ofNat h)))
def xAsA (N : Nat → Nat → Int32) : Int64 := xj (xj (xj (xj (xj (xj (xj (xj (Int64.ofNat 31 * xDB (xMnV N) + (xFB (xShV N)).toInt64) (N 1 2)) (N 1 4)) (N 1 5)) (N 1 6)) (N 1 7)) (N 1 3)) (xfCom N 1)) (xfVol (xFc N (xFcH N 9)) 20)
def xAsk (N : Nat → Nat → Int32) : Int64 := xAsH N 30 0 (xAsL N (N 1 2).toNatClampNeg 0 (xAsA N))
section XAC
variable {N M : Nat → Nat → Int32} {x : Int32}
theorem xsm_room (h : xSm N M 1 1) (hx : x.toNatClampNeg < 8) : xRoom N x = xRoom M x := by
  unfold xRoom
  rw [xsm_sta h hx, h.2.1 _ 6 hx (by decide), h.2.1 _ 0 hx (by decide), h.2.1 _ 4 hx (by decide)]
theorem xsm_tx (h : xSm N M 1 1) {r : Nat} (hr : r < 8) : xTx N r = xTx M r := by
  unfold xTx
  rw [xsm_sta h hr, xsm_lvl h hr, h.2.1 r 4 hr (by decide), h.2.1 r 0 hr (by decide), h.2.1 r 8 hr (by decide), xsm_open h (by rw [(xi_ofNat (n := r) (by omega)).2.1]; exact hr)]
theorem xsm_asR (h : xSm N M 1 1) {r : Nat} (hr : r < 8) (hn : (M 1 2).toNatClampNeg ≤ 8) (s : Int64) : xAsR N r s = xAsR M r s := by
  have hx : (Int32.ofNat r).toNatClampNeg < 8 := by rw [(xi_ofNat (n := r) (by omega)).2.1]; exact hr
  unfold xAsR
  rw [xsm_tx h hr, h.2.1 r 3 hr (by decide), xsm_out h hx, xsm_room h hx, h.1 2 (by decide) (by decide), xsm_by h _ _ (by omega), xsm_pk h hx]
theorem xsm_asL (h : xSm N M 1 1) (hn : (M 1 2).toNatClampNeg ≤ 8) : ∀ k r s, r + k ≤ 8 → xAsL N k r s = xAsL M k r s := by
  intro k
  induction k with
  | zero => intro r s _; rfl
  | succ k ih =>
    intro r s hr
    rw [xAsL, xAsL, xsm_asR h (by omega) hn, ih _ _ (by omega)]
theorem xsm_asH (h : xSm N M 1 1) : ∀ k r s, xAsH N k r s = xAsH M k r s := by
  intro k
  induction k with
  | zero => intro r s; rfl
  | succ k ih =>
    intro r s
    rw [xAsH, xAsH, h.1 4 (by decide) (by decide), xsm_head h, ih]
theorem xsm_asA (h : xSm N M 1 1) : xAsA N = xAsA M := by
  have e2 := h.1 2 (by decide) (by decide)
  have ef : xFcH N 9 = xFcH M 9 := by unfold xFcH; rw [e2]
  have em : xMnV N = xMnV M := by unfold xMnV xMean; rw [e2, xsm_lvs h]
  have es : xShV N = xShV M := by unfold xShV xShare; rw [e2, xsm_fl h]
  unfold xAsA
  rw [em, es, ef, xsm_vol (xsm_fc h (xFcH M 9)), xsm_com h, e2, h.1 3 (by decide) (by decide), h.1 4 (by decide) (by decide), h.1 5 (by decide) (by decide), h.1 6 (by decide) (by decide), h.1 7 (by decide) (by decide)]
/-- rivers alike are asked alike -/
theorem xsm_ask (h : xSm N M 1 1) (hn : (M 1 2).toNatClampNeg ≤ 8) : xAsk N = xAsk M := by
  unfold xAsk
  rw [h.1 2 (by decide) (by decide), xsm_asA h, xsm_asL h hn _ _ _ (by omega), xsm_asH h]
theorem xgd_n8 {V H : Nat} (h : xGd N 1 V H) : ∃ n, N 1 2 = Int32.ofNat n ∧ (n ≤ 8 ∧ ((N 1 2).toNatClampNeg = n ∧ ∀ r, r < n → (xhas N 1 (Int32.ofNat r) = true ∧ xRch N (1 + 3 + r) V))) := by
  obtain ⟨n, p, t, ⟨e2, -, -⟩, ⟨h8, -, -⟩, hR, -⟩ := h
  refine ⟨n, e2, h8, by rw [e2]; exact (xi_ofNat (n := n) (by omega)).2.1, fun r hr => ⟨?_, hR r hr⟩⟩
  refine xhas_n (by omega) ?_
  rw [e2]
  exact (xi_lt (by omega) (by omega)).mpr hr
end XAC
section XASK
variable {xs : List Int32} {z : Value} {pre g : xH} {B L : Nat} {N : Nat → Nat → Int32} {C : Nat → Nat} {V H : Nat} {P : xA → xH → Prop}
theorem xs_askC (hB : xBok pre B) (hz : z.category = 1) {T : List Nat} {bs : List Int32} {a1 a4 : Int32} {S : Int64} (hl : xLin pre B N C L g T.length bs) (hT : bs.take T.length = T.map Int32.ofNat) (hc : ∀ c ∈ T, c < 128) (hlen : T.length ≤ 60) (hg : B + 253 + g.length < 999990) (kk : xBp (xK xs) (xZ z) 9 7 [] xcL_asks (xseek xcL_asks 222) [(0, .ref (B + 0)), (1, .int a1), (2, .long S), (4, .int a4)] [] (xHn pre B N C L g) P) :
    ∀ k n s, n + k = T.length → xjL (T.drop n) s = S → xBp (xK xs) (xZ z) 9 7 [] xcL_asks (xseek xcL_asks 195) [(6, .int (Int32.ofNat n)), (0, .ref (B + 0)), (1, .int a1), (2, .long s), (4, .int a4), (5, .int (Int32.ofNat T.length))] [] (xHn pre B N C L g) P := by
  intro k
  induction k with
  | zero =>
    intro n s hn hs
    obtain rfl : n = T.length := by omega
    rw [List.drop_length] at hs
    obtain rfl : s = S := hs
    refine xp_step rfl ?_
    refine xp_step rfl ?_
    refine xp_if2 rfl (fun _ => ?_) (fun q => absurd (Int32.le_refl _) (of_decide_eq_false q))
    refine xp_weak ?_ kk
    exact xLe_cons rfl (xLe_cons rfl (xLe_cons rfl (xLe_cons rfl xLe_nil)))
  | succ k ih =>
    intro n s hn hs
    have hnl : n < T.length := by omega
    have hbn : bs[n]? = some (Int32.ofNat T[n]) := by
      have e := congrArg (fun l : List Int32 => l[n]?) hT
      rw [List.getElem?_take_of_lt hnl, List.getElem?_map, List.getElem?_eq_getElem hnl] at e
      exact e
    rw [List.drop_eq_getElem_cons hnl] at hs
    refine xp_step rfl ?_
    refine xp_step rfl ?_
    refine xp_if2 rfl (fun q => ?_) (fun _ => ?_)
    · have q : Int32.ofNat T.length ≤ Int32.ofNat n := of_decide_eq_true q
      rw [xi_le (by omega) (by omega)] at q
      omega
    refine xp_step rfl ?_
    refine xp_step rfl ?_
    refine xp_step rfl ?_
    refine xp_step rfl ?_
    refine xp_step rfl ?_
    refine xp_callR rfl (xR_up (by decide) (xl_lineChar (xs := xs) hB hl hz hnl (hc _ (List.getElem_mem hnl)) hbn)) ?_
    refine xp_step rfl ?_
    refine xp_step rfl ?_
    refine xp_step rfl ?_
    refine xp_step rfl ?_
    refine xp_jump rfl ?_
    rw [show Int32.ofNat n + Int32.ofInt 1 = Int32.ofNat (n + 1) from by rw [Int32.ofNat_add]; rfl]
    refine xp_weak ?_ (ih (n + 1) (xj s (Int32.ofNat T[n])) (by omega) hs)
    exact xLe_cons rfl (xLe_cons rfl (xLe_cons rfl (xLe_cons rfl (xLe_cons rfl (xLe_cons rfl xLe_nil)))))
/-- a reach written, by its numbers -/
theorem xl_write (hB : xBok pre B) (hg2 : xGd N 1 V H) (hV : V ≤ 1000000) {r : Nat} (hr : r < 8) (hh : xhas N 1 (Int32.ofNat r) = true) (hl : xLn pre B N C L g) (hg : B + 253 + g.length < 999900) :
    ∃ N' L' g' bs', xRn (xK xs) (xZ z) 9 229 [.ref (B + 0), .int (Int32.ofNat r)] (xHn pre B N C L g) (.ok (some (.int (Int32.ofNat (xTx N r).length)))) (xHn pre B N' C L' g') ∧ (xNe N N' ∧ (xLin pre B N' C L' g' (xTx N r).length bs' ∧ (xGr g g' 13 ∧ (bs'.take (xTx N r).length = (xTx N r).map Int32.ofNat ∧ ((∀ c ∈ xTx N r, c < 128) ∧ (xTx N r).length ≤ 60))))) := by
  obtain ⟨cnt, bs, -, hl⟩ := hl
  obtain ⟨n, e2, h8, hlt, hR⟩ := xgd_has hg2 hh
  rw [(xi_ofNat (n := r) (by omega)).2.1] at hlt hR
  have hlv := xgd_level (w := 1) hR (by omega)
  have hop := xgd_open (w := 1) hR hr
  have hR2 := hR
  obtain ⟨⟨ss, es, -, hs⟩, -, -, -, ⟨vv, ev, -, hv⟩, -, -, -, h8c⟩ := hR2
  obtain ⟨ll, el, -, hll⟩ := hlv
  obtain ⟨oo, eo, -, ho⟩ := hop
  obtain ⟨st, est, hst⟩ : ∃ st, xsta N (1 + 3 + r) = Int32.ofNat st ∧ st < 3 := by
    unfold xsta
    split
    · split
      · exact ⟨0, rfl, by decide⟩
      · exact ⟨1, rfl, by decide⟩
    · exact ⟨2, rfl, by decide⟩
  obtain ⟨cc, ecc, hcc⟩ : ∃ cc, N (1 + 3 + r) 8 = Int32.ofNat cc ∧ cc < 128 := by
    rcases h8c with e | e | e
    · exact ⟨102, e, by decide⟩
    · exact ⟨104, e, by decide⟩
    · exact ⟨114, e, by decide⟩
  have eT : xTx N r = xTxt r vv ss ll st cc oo := by
    unfold xTx
    rw [el, ev, es, est, ecc, eo, (xi_ofNat (n := vv) (by omega)).2.1, (xi_ofNat (n := ss) (by omega)).2.1, (xi_ofNat (n := ll) (by omega)).2.1, (xi_ofNat (n := st) (by omega)).2.1, (xi_ofNat (n := cc) (by omega)).2.1, (xi_ofNat (n := oo) (by omega)).2.1]
  have hw := xo_write_ (xs := xs) (z := z) (C := C) hB hl hr hh ⟨ev, by omega⟩ ⟨es, by omega⟩ ⟨el, by omega⟩ ⟨est, hst⟩ ⟨ecc, hcc⟩ ⟨eo, by omega⟩ hg
  obtain ⟨rr, h', hrun, e, N', L', g', bs', eh, hne, hl', hgr, ht⟩ := hw
  rw [e, eh] at hrun
  rw [eT]
  have hdl : ∀ m, ∀ c ∈ xDg m, c < 128 := fun m c hc => by have := (xDig_lt _ _ c hc).2; omega
  refine ⟨N', L', g', bs', xw_write hB hrun (Or.inl rfl), hne, hl', hgr, ht, ?_, ?_⟩
  · intro c hc
    unfold xTxt at hc
    simp only [List.mem_append, List.mem_cons, List.mem_replicate] at hc
    rcases hc with hc | rfl | hc | rfl | hc | rfl | hc | hc | rfl | rfl | hc
    · exact hdl _ _ hc
    · decide
    · exact hdl _ _ hc
    · decide
    · exact hdl _ _ hc
    · decide
    · exact hdl _ _ hc
    · omega
    · decide
    · exact hcc
    · exact hdl _ _ hc
  · have d1 := xDg_le (n := r) (by omega)
    have d2 := xDg_le (n := vv) (by omega)
    have d3 := xDg_le (n := ss) (by omega)
    have d4 := xDg_le (n := ll) (by omega)
    have d5 := xDg_le (n := oo) (by omega)
    unfold xTxt
    simp only [List.length_append, List.length_cons, List.length_replicate]
    omega
end XASK
