/-! A TEXT MADE -/
theorem xset_same {h : xH} {p : Nat} {c : Nat × List Value} (hc : h[p]? = some c) : h.set p c = h := by
  have hl := (List.getElem?_eq_some_iff.mp hc).1
  apply List.ext_getElem?
  intro q
  by_cases hq : q = p
  · subst hq
    rw [List.getElem?_set_self hl, hc]
  · rw [List.getElem?_set_ne (fun e => hq e.symm)]
theorem xSb_app {h t : xH} {a v cnt : Nat} {ml : Int32} {bs : List Int32} (hS : xSb h a v ml cnt bs) : xSb (h ++ t) a v ml cnt bs := by
  have hlt := xSb_lt hS
  refine ⟨hS.1, ?_, ?_, hS.2.2.2⟩
  · rw [List.getElem?_append_left hlt.1]
    exact hS.2.1
  · rw [List.getElem?_append_left hlt.2]
    exact hS.2.2.1
theorem xcpy_take {bs : List Int32} {n : Nat} (hn : n ≤ bs.length) : xcpy (bs.map .int) (List.replicate n (.int 0)) 0 0 n = (bs.take n).map Value.int := by
  apply List.ext_getElem?
  intro k
  unfold xcpy
  rw [List.length_replicate]
  by_cases hk : k < n
  · rw [List.getElem?_map, List.getElem?_range hk, List.getElem?_map, List.getElem?_take_of_lt hk]
    dsimp only [Option.map_some]
    rw [if_pos (by omega), Nat.zero_add, Nat.sub_zero, List.getD_eq_getElem?_getD, List.getElem?_map, List.getElem?_eq_getElem (by omega)]
    rfl
  · rw [List.getElem?_eq_none (by rw [List.length_map, List.length_range]; omega), List.getElem?_eq_none (by rw [List.length_map, List.length_take]; omega)]
section XTS
variable {z : Value} {K : List (Nat × List Value)} {Z : List Value} {d nL : Nat} {P : xA → xH → Prop} {h h0 h2 : xH} {a v cnt m : Nat} {ml : Int32} {bs : List Int32} {s t : List Nat} {hs : List (Nat × Nat × Nat × Nat)} {code cs : List xE} {loc : xL} {st : List Value}
theorem xs_getVal (hS : xSb h a v ml cnt bs) : xRn K (xZ z) 1 129 [.ref a] h (.ok (some (.ref v))) h := by
  obtain ⟨hc, hv⟩ := xSb_cell (K := K) hS
  refine xRp_eq ?_
  refine xRp_of (m := (yJ5_getValue_6d5f1, cJ5_getValue_6d5f1, 1, (some (.array .byte)), [], [], xcJ5_getValue_6d5f1)) rfl (by show 1 ≤ 1; decide) ?_
  show xBp K (xZ z) 0 1 [] xcJ5_getValue_6d5f1 xcJ5_getValue_6d5f1 [(0, .ref a)] [] _ _
  refine xp_step rfl ?_
  refine xp_getK hc rfl rfl ?_
  exact xp_ret rfl ⟨fun v q => by cases q; rfl, rfl, rfl⟩
/-- the first n bytes copied -/
theorem xs_range (hS : xSb h a v ml cnt bs) (hl : h.length < 999990) : xRn K (xZ z) 4 189 [.ref v, .int 0, .int (Int32.ofNat cnt)] h (.ok (some (.ref h.length))) (h ++ [(50, (bs.take cnt).map .int)]) := by
  obtain ⟨hc, hv⟩ := xSb_cell (K := K) hS
  have hb300 := hS.2.2.2.1
  have hlt := xSb_lt hS
  have hall : (bs.map Value.int).all (fun v => xfit .byte v) = true := by
    rw [List.all_eq_true]
    intro x hx
    obtain ⟨y, hy, rfl⟩ := List.mem_map.mp hx
    exact hS.2.2.2.2 y hy
  refine xRp_eq ?_
  refine xRp_of (m := (yJ7_copyOfRange_39247, cJ7_copyOfRange_39247, 3, (some (.array .byte)), [], [], xcJ7_copyOfRange_39247)) rfl (by show 3 ≤ 3; decide) ?_
  show xBp K (xZ z) 3 3 [] xcJ7_copyOfRange_39247 xcJ7_copyOfRange_39247 [(0, .ref v), (1, .int 0), (2, .int (Int32.ofNat cnt))] [] _ _
  refine xp_step rfl ?_
  refine xp_step rfl ?_
  refine xp_step rfl ?_
  refine xp_step rfl ?_
  refine xp_alen hv (by simp) ?_
  rw [List.length_map]
  refine xp_if2 rfl (fun q => ?_) (fun q => ?_)
  · have q : Int32.ofNat cnt = Int32.ofNat bs.length := of_decide_eq_true q
    have q2 := congrArg Int32.toInt q
    rw [(xi_ofNat (n := cnt) (by omega)).1, (xi_ofNat (n := bs.length) (by omega)).1] at q2
    have q3 : cnt = bs.length := by omega
    refine xp_step rfl ?_
    refine xp_step (loc1 := [(0, .ref v), (1, .int 0), (2, .int (Int32.ofNat cnt))]) (st1 := [.ref h.length]) (h1 := h ++ [(50, bs.map .int)]) ?_ ?_
    · show xclone _ [.ref v] h = _
      unfold xclone
      dsimp only
      rw [decide_eq_true hS.1.2.1, decide_eq_true (show h.length < 1000000 by omega)]
      rw [show (true && (true && decide ((([] : List Value).map fun v => v.category).sum ≤ 8))) = true from rfl]
      dsimp only
      rw [hS.2.2.1]
      dsimp only
      rw [hall]
      rfl
    refine xp_step (loc1 := [(0, .ref v), (1, .int 0), (2, .int (Int32.ofNat cnt))]) (st1 := [.ref h.length]) (h1 := h ++ [(50, bs.map .int)]) ?_ ?_
    · show xcast _ [.ref h.length] (h ++ [(50, bs.map .int)]) = _
      unfold xcast
      dsimp only
      rw [decide_eq_true (show h.length < 1000000 by omega)]
      dsimp only
      rw [List.getElem?_append_right (Nat.le_refl _), Nat.sub_self]
      rfl
    refine xp_ret rfl ⟨fun v q => by cases q; rfl, rfl, ?_⟩
    rw [q3, List.take_length]
  · have q : ¬ Int32.ofNat cnt = Int32.ofNat bs.length := of_decide_eq_false q
    have q3 : cnt < bs.length := by
      rcases Nat.lt_or_ge cnt bs.length with h1 | h1
      · exact h1
      · exact absurd (congrArg Int32.ofNat (show cnt = bs.length by omega)) q
    have hbl : xcell K (h ++ [(50, List.replicate cnt (Value.int 0))]) v = some (50, bs.map .int) := by
      rw [xc_heap hS.1.2.1, List.getElem?_append_left hlt.2]
      exact hS.2.2.1
    have hrb : xRn K (xZ z) 2 190 [.ref v, .int 0, .int (Int32.ofNat cnt)] h (.ok (some (.ref h.length))) (h ++ [(50, (bs.take cnt).map .int)]) := by
      have hchk : xRn K (xZ z) 1 188 [.int 0, .int (Int32.ofNat cnt)] h (.ok none) h := by
        refine xRp_eq ?_
        refine xRp_of (m := (yJ7_checkLength_df160, cJ7_checkLength_df160, 2, none, [], [], xcJ7_checkLength_df160)) rfl (by show 2 ≤ 2; decide) ?_
        show xBp K (xZ z) 0 2 [] xcJ7_checkLength_df160 xcJ7_checkLength_df160 [(0, .int 0), (1, .int (Int32.ofNat cnt))] [] _ _
        refine xp_step rfl ?_
        refine xp_step rfl ?_
        refine xp_if2 rfl (fun _ => ?_) (fun q => absurd (xi_ofNat (n := cnt) (by omega)).2.2 (of_decide_eq_false q))
        exact xp_ret rfl ⟨fun v q => by cases q; rfl, rfl, rfl⟩
      refine xRp_eq ?_
      refine xRp_of (m := (yJ7_copyOfRangeByte_39247, cJ7_copyOfRangeByte_39247, 5, (some (.array .byte)), [], [], xcJ7_copyOfRangeByte_39247)) rfl (by show 3 ≤ 5; decide) ?_
      show xBp K (xZ z) 1 5 [] xcJ7_copyOfRangeByte_39247 xcJ7_copyOfRangeByte_39247 [(0, .ref v), (1, .int 0), (2, .int (Int32.ofNat cnt))] [] _ _
      refine xp_step rfl ?_
      refine xp_step rfl ?_
      refine xp_callR rfl hchk ?_
      refine xp_step rfl ?_
      refine xp_step rfl ?_
      refine xp_subE (w := Int32.ofNat cnt) (Int32.sub_zero _) ?_
      refine xp_step rfl ?_
      refine xp_step rfl ?_
      refine xp_newb (by omega) (by omega) ?_
      refine xp_step rfl ?_
      refine xp_step rfl ?_
      refine xp_step rfl ?_
      refine xp_step rfl ?_
      refine xp_step rfl ?_
      refine xp_step rfl ?_
      refine xp_alen hbl (by simp) ?_
      rw [List.length_map]
      refine xp_step rfl ?_
      refine xp_subE (w := Int32.ofNat bs.length) (Int32.sub_zero _) ?_
      refine xp_step rfl ?_
      refine xp_callR rfl (xs_min _ _ _) ?_
      rw [show xmin (Int32.ofNat bs.length) (Int32.ofNat cnt) = Int32.ofNat cnt from by
        unfold xmin
        rw [if_pos ((xi_lt (by omega) (by omega)).mpr q3)]]
      refine xp_acopy (a := h.length) (b := v) (n := cnt) (sp := 0) (dp := 0) (by omega) (by omega) (g := List.replicate cnt (.int 0)) (by rw [List.getElem?_append_right (Nat.le_refl _), Nat.sub_self]; rfl) hbl (by rw [List.length_map]; omega) (by rw [List.length_replicate]; omega) (by rw [List.length_map]; omega) (by rw [List.length_replicate]; omega) hall rfl ?_
      refine xp_step rfl ?_
      refine xp_ret rfl ⟨fun v q => by cases q; rfl, rfl, ?_⟩
      rw [xcpy_take (by omega), List.set_append_right _ _ (Nat.le_refl _), Nat.sub_self]
      rfl
    refine xp_step rfl ?_
    refine xp_step rfl ?_
    refine xp_step rfl ?_
    refine xp_callR rfl (xR_up (by decide) hrb) ?_
    exact xp_ret rfl ⟨fun v q => by cases q; rfl, rfl, rfl⟩
/-- toString of a text in the making -/
theorem xb_toString (hT : xTb h0 h m a s) (hs8 : ∀ n ∈ s, n < 128) (hl : h.length < 999900) : ∃ p h', xRn K (xZ z) 7 158 [.ref a] h (.ok (some (.ref p))) h' ∧ ((∃ b v2 v3, (h0.length ≤ p ∧ h0.length ≤ b) ∧ (xcell K h' p = some (0, [.ref b, .int 0, v2, v3]) ∧ (xcell K h' b = some (50, s.map fun n => .int (Int32.ofNat n)) ∧ ((∀ n ∈ s, n < 128) ∧ s.length < 1000)))) ∧ (p < 1000000 ∧ ((∀ q, q < h0.length → h'[q]? = h0[q]?) ∧ (h0.length ≤ h'.length ∧ (h'.length ≤ h0.length + (m + 2) ∧ xsz h' ≤ xsz h0 + 300 * (m + 2)))))) := by
  obtain ⟨v, ml, bs, hS, h1, h2, h3, h4, h5, h6⟩ := hT
  have hlt := xSb_lt hS
  have hb300 := hS.2.2.2.1
  have hS1 := xSb_app (t := [(0, xnew0 0)]) hS
  obtain ⟨hc1, hv1⟩ := xSb_cell (K := K) hS1
  have hlen1 : (h ++ [(0, xnew0 0)]).length = h.length + 1 := by rw [List.length_append]; rfl
  have hp1 : (h ++ [(0, xnew0 0)])[h.length]? = some (0, [.null, .int 0, .int 0, .int 0]) := by
    rw [List.getElem?_append_right (Nat.le_refl _), Nat.sub_self]
    rfl
  have hrange := xs_range (K := K) (z := z) hS1 (by omega)
  generalize hbt : bs.take s.length = bt at h1 hrange
  have hbtl : bt.length = s.length := by rw [h1, List.length_map]
  have hp2 : (h ++ [(0, xnew0 0)] ++ [(50, bt.map Value.int)])[h.length]? = some (0, [.null, .int 0, .int 0, .int 0]) := by
    rw [List.getElem?_append_left (by omega)]
    exact hp1
  have hinit : xRn K (xZ z) 5 148 [.ref h.length, .ref a, .null] (h ++ [(0, xnew0 0)]) (.ok none) ((h ++ [(0, xnew0 0)] ++ [(50, bt.map Value.int)]).set h.length (0, [.ref (h ++ [(0, xnew0 0)]).length, .int 0, .int 0, .int 0])) := by
    refine xRp_eq ?_
    refine xRp_of (m := (yJ0_init_db425, cJ0_init_db425, 5, none, [], [], xcJ0_init_db425)) rfl (by show 3 ≤ 5; decide) ?_
    show xBp K (xZ z) 4 5 [] xcJ0_init_db425 xcJ0_init_db425 [(0, .ref h.length), (1, .ref a), (2, .null)] [] _ _
    refine xp_step rfl ?_
    refine xp_step rfl ?_
    refine xp_step rfl ?_
    refine xp_virt3 hc1 rfl (Nat.le_of_ble_eq_true rfl) rfl (xR_up (by decide) (xs_getVal hS1)) ?_
    refine xp_step rfl ?_
    refine xp_step rfl ?_
    refine xp_virt3 hc1 rfl (Nat.le_of_ble_eq_true rfl) rfl (xR_up (by decide) (xo_blen hS1)) ?_
    refine xp_step rfl ?_
    refine xp_step rfl ?_
    refine xp_virt3 hc1 rfl (Nat.le_of_ble_eq_true rfl) rfl (xR_up (by decide) (xs_blatin hS1)) ?_
    refine xp_step rfl ?_
    refine xp_step rfl ?_
    refine xp_step rfl ?_
    refine xp_putH (by omega) hp1 (by decide) rfl ?_
    have hsame : (h ++ [(0, xnew0 0)]).set h.length (0, [Value.null, Value.int 0, Value.int 0, Value.int 0]) = h ++ [(0, xnew0 0)] := xset_same hp1
    change xBp K (xZ z) 4 5 [] _ _ _ _ ((h ++ [(0, xnew0 0)]).set h.length (0, [Value.null, Value.int 0, Value.int 0, Value.int 0])) _
    rw [hsame]
    refine xp_step rfl ?_
    refine xp_step rfl ?_
    refine xp_step rfl ?_
    refine xp_step rfl ?_
    refine xp_callR rfl hrange ?_
    refine xp_putH (by omega) hp2 (by decide) rfl ?_
    refine xp_jump rfl ?_
    exact xp_ret rfl ⟨fun v q => by cases q; rfl, rfl, rfl⟩
  have hinit2 : xRn K (xZ z) 6 144 [.ref h.length, .ref a] (h ++ [(0, xnew0 0)]) (.ok none) ((h ++ [(0, xnew0 0)] ++ [(50, bt.map Value.int)]).set h.length (0, [.ref (h ++ [(0, xnew0 0)]).length, .int 0, .int 0, .int 0])) := by
    refine xRp_eq ?_
    refine xRp_of (m := (yJ0_init_81219, cJ0_init_81219, 2, none, [], [], xcJ0_init_81219)) rfl (by show 2 ≤ 2; decide) ?_
    show xBp K (xZ z) 5 2 [] xcJ0_init_81219 xcJ0_init_81219 [(0, .ref h.length), (1, .ref a)] [] _ _
    refine xp_step rfl ?_
    refine xp_step rfl ?_
    refine xp_step rfl ?_
    refine xp_spec2 rfl (Nat.le_of_ble_eq_true rfl) rfl hinit ?_
    exact xp_ret rfl ⟨fun v q => by cases q; rfl, rfl, rfl⟩
  have hsz : ∀ x : Value, xsz ((h ++ [(0, xnew0 0)] ++ [(50, bt.map Value.int)]).set h.length (0, [x, .int 0, .int 0, .int 0])) = xsz h + 4 + s.length := by
    intro x
    rw [xsz_set (ws := [x, .int 0, .int 0, .int 0]) hp2 rfl, xsz_push, xsz_push, List.length_map, hbtl]
    rfl
  have h0h : h0.length ≤ h.length := by omega
  have hs300 : s.length < 1000 := by omega
  have hp6 : h.length < 1000000 := by omega
  have hne6 : h.length ≠ (h ++ [(0, xnew0 0)]).length := by omega
  refine ⟨h.length, (h ++ [(0, xnew0 0)] ++ [(50, bt.map Value.int)]).set h.length (0, [.ref (h ++ [(0, xnew0 0)]).length, .int 0, .int 0, .int 0]), xRp_eq ?_, ⟨(h ++ [(0, xnew0 0)]).length, .int 0, .int 0, ⟨h0h, by rw [hlen1]; omega⟩, ?_, ?_, hs8, hs300⟩, hp6, fun q hq => ?_, ?_, ?_, ?_⟩
  rotate_left
  · rw [xc_heap (by omega), List.getElem?_set_self (by rw [List.length_append, hlen1]; omega)]
  · rw [xc_heap (by omega), List.getElem?_set_ne (by omega), List.getElem?_append_right (Nat.le_refl _), Nat.sub_self, h1, List.map_map]
    rfl
  · rw [List.getElem?_set_ne (by omega), List.getElem?_append_left (by omega), List.getElem?_append_left (by omega)]
    exact h4 q hq
  · rw [List.length_set, List.length_append, hlen1]
    omega
  · rw [List.length_set, List.length_append, hlen1]
    show h.length + 1 + 1 ≤ _
    omega
  · rw [hsz]
    have e : 300 * (m + 2) = 300 * m + 600 := by omega
    rw [e]
    omega
  refine xRp_of (m := (yJ4_toString_0e30d, cJ4_toString_0e30d, 1, (some (.object "java/lang/String")), [], [], xcJ4_toString_0e30d)) rfl (by show 1 ≤ 1; decide) ?_
  show xBp K (xZ z) 6 1 [] xcJ4_toString_0e30d xcJ4_toString_0e30d [(0, .ref a)] [] _ _
  refine xp_newo (by omega) ?_
  refine xp_step rfl ?_
  refine xp_step rfl ?_
  refine xp_spec2 rfl (Nat.le_of_ble_eq_true rfl) rfl hinit2 ?_
  exact xp_ret rfl ⟨fun v q => by cases q; rfl, rfl, rfl⟩
end XTS
