/-! ARRAYS, NEW CELLS, CONSTANTS OF THE POOL, NATIVES ARE TRUE TO THE MACHINE -/
section XT
variable {p : Program} {l : Launch} {e : Env} {R : Room} {s : State} {m : MethodId} {args : Array Value} {below : List Frame} {meth : Method} {c : Code} {H : Heap} {locs : List Loc} {cells slots : Nat} {Q : State → Prop}
variable {cc : ByteArray} {pc nL : Nat} {ls : Array Slot} {b0 : Nat} {D : va_G} {tyC : Nat → ClassId} {ad : Nat → Nat} {h h' : xH} {loc loc' : xL} {st st' : List Value} {t : Option Nat}
variable {xs : List Int32} {z : Value} {own : String}
theorem xin_vp {i : Int32} {n : Nat} (h : xin i n = true) : vp_in i n := by
  simp only [xin, Bool.and_eq_true, decide_eq_true_eq] at h
  intro q
  rcases q with q | q
  · exact absurd h.1 (by rw [Int32.not_le]; exact q)
  · omega
theorem xtys_at {t : Nat} (h : t < 7) : (xtys tyC)[t]? = some (tyC t, xTy t) := by
  unfold xtys
  rw [List.getElem?_map, List.getElem?_range h]
  rfl
theorem xgetD_of {vs : List Value} {k : Nat} {v : Value} (h : vs[k]? = some v) : vs.getD k .null = v := by
  rw [List.getD_eq_getElem?_getD, h]; rfl
theorem xarr {c0 : Nat} {vs : List Value} (hc : 50 ≤ c0) : xcE ad tyC (c0, vs) = .inl (tyC (c0 - 50), vs.length, xcA ad (c0 - 50) vs) := by
  unfold xcE
  rw [if_neg (show ¬ c0 < 50 by omega)]
theorem xarr_b (c0 : Nat) (vs : List Value) (h : c0 < 2) : xcA ad c0 vs = .inl (fun k => xI (vs.getD k .null)) := by
  unfold xcA
  rw [if_neg (show ¬ c0 = 2 by omega), if_pos h]
theorem xarr_l (vs : List Value) : xcA ad 2 vs = .inr (.inl fun k => xJ (vs.getD k .null)) := rfl
theorem xarr_q (c0 : Nat) (vs : List Value) (h : 3 ≤ c0) : xcA ad c0 vs = .inr (.inr (.inr (.inr fun k => xR ad (vs.getD k .null)))) := by
  unfold xcA
  rw [if_neg (show ¬ c0 = 2 by omega), if_neg (show ¬ c0 < 2 by omega)]
/-- what a load of numbers finds -/
theorem xald_spec {K : List (Nat × List Value)} {p : Value → Bool} {tt : Nat → Nat → Bool} {o : xO} (hs : xald K p tt loc st h = some o) : ∃ i a r c0 vs v, st = .int i :: .ref a :: r ∧ xcell K h a = some (c0, vs) ∧ 50 ≤ c0 ∧ tt a (c0 - 50) = true ∧ xin i vs.length = true ∧ vs[i.toNatClampNeg]? = some v ∧ p v = true ∧ o = .inl (none, loc, v :: r, h) := by
  unfold xald at hs
  split at hs
  · rename_i i a r
    split at hs
    · rename_i c0 vs hc
      split at hs
      · rename_i hg
        simp only [Bool.and_eq_true, decide_eq_true_eq] at hg
        split at hs
        · rename_i v hv
          split at hs
          · rename_i hp
            cases hs
            exact ⟨i, a, r, c0, vs, v, rfl, hc, hg.1, hg.2.1, hg.2.2, hv, hp, rfl⟩
          · cases hs
        · cases hs
      · cases hs
    · cases hs
  · cases hs
theorem xo_baload (hx : p.tables.exec = Jvm.exec) (hb : c.code = cc) (hE : xEnv xs z b0 D tyC ad s) (hdg : decode cc pc = .ok (.baload, 1)) (hs : xald (xK xs) xisI (fun _ t => decide (t = 0)) loc st h = some (.inl (t, loc', st', h'))) (hR : xRel b0 D tyC ad h s H locs) (hl : lv_has ls nL (xlc ad loc)) (kk : xCont p l e R s m args below meth c Q nL b0 D tyC ad h cells slots (t.getD (pc + 1)) loc' st' h') : W p l e R s m args below meth c H locs cells slots Q (F0 m pc ls (st.map (xcV ad))) := by
  obtain ⟨i, a, r, c0, vs, v, rfl, hc, h50, ht, hi, hv, hp, ho⟩ := xald_spec hs
  cases ho
  have key := xk0 kk hR hl
  have h0 : c0 = 50 := by have := of_decide_eq_true ht; omega
  subst h0
  cases v <;> first | (cases hp; done) | skip
  rename_i x
  by_cases ha : a < 1000000
  · have hc := xcell_h hc ha
    obtain ⟨k0, hk0⟩ := xcw_at (ad := ad) (tyC := tyC) hc (by simp)
    rw [xarr (by decide), xarr_b _ _ (by decide)] at hk0
    refine va_bald hx hb hE.2.1 (xcw_P hR.1) k0 0 hk0 (xtys_at (by decide)) (xin_vp hi) hdg ?_
    rw [show xI (vs.getD i.toNatClampNeg .null) = x by rw [xgetD_of hv]; rfl]
    exact key
  · obtain ⟨hc, haq⟩ := xcell_k hc ha
    have h1 := (hE.2.2.2.1 _ _ _ hc).2.1 (by decide)
    rw [haq] at h1
    exact va_tb hx hb h1 hR.2.2.2 (xin_vp hi) (v := .int x) (by show xcV ad (vs.getD i.toNatClampNeg .null) = _; rw [xgetD_of hv]; rfl) hdg key
theorem xo_iaload (hx : p.tables.exec = Jvm.exec) (hb : c.code = cc) (hE : xEnv xs z b0 D tyC ad s) (hdg : decode cc pc = .ok (.iaload, 1)) (hs : xald (xK xs) xisI (fun a t => decide (1000000 ≤ a) && decide (8 ≤ t)) loc st h = some (.inl (t, loc', st', h'))) (hR : xRel b0 D tyC ad h s H locs) (hl : lv_has ls nL (xlc ad loc)) (kk : xCont p l e R s m args below meth c Q nL b0 D tyC ad h cells slots (t.getD (pc + 1)) loc' st' h') : W p l e R s m args below meth c H locs cells slots Q (F0 m pc ls (st.map (xcV ad))) := by
  obtain ⟨i, a, r, c0, vs, v, rfl, hc, h50, ht, hi, hv, hp, ho⟩ := xald_spec hs
  cases ho
  have key := xk0 kk hR hl
  simp only [Bool.and_eq_true, decide_eq_true_eq] at ht
  cases v <;> first | (cases hp; done) | skip
  rename_i x
  obtain ⟨hc, haq⟩ := xcell_k hc (by omega)
  have h1 := (hE.2.2.2.1 _ _ _ hc).2.1 h50
  rw [haq] at h1
  have hty : xTy (c0 - 50) = .int := by
    obtain ⟨n, hn⟩ : ∃ n, c0 - 50 = n + 8 := ⟨c0 - 58, by omega⟩
    rw [hn]
    rfl
  rw [hty] at h1
  exact va_ti hx hb h1 hR.2.2.2 (xin_vp hi) (v := .int x) (by show xcV ad (vs.getD i.toNatClampNeg .null) = _; rw [xgetD_of hv]; rfl) hdg key
theorem xo_caload (hx : p.tables.exec = Jvm.exec) (hb : c.code = cc) (hE : xEnv xs z b0 D tyC ad s) (hdg : decode cc pc = .ok (.caload, 1)) (hs : xald (xK xs) xisI (fun a t => decide (a < 1000000) && decide (t = 1)) loc st h = some (.inl (t, loc', st', h'))) (hR : xRel b0 D tyC ad h s H locs) (hl : lv_has ls nL (xlc ad loc)) (kk : xCont p l e R s m args below meth c Q nL b0 D tyC ad h cells slots (t.getD (pc + 1)) loc' st' h') : W p l e R s m args below meth c H locs cells slots Q (F0 m pc ls (st.map (xcV ad))) := by
  obtain ⟨i, a, r, c0, vs, v, rfl, hc, h50, ht, hi, hv, hp, ho⟩ := xald_spec hs
  cases ho
  have key := xk0 kk hR hl
  simp only [Bool.and_eq_true, decide_eq_true_eq] at ht
  have h0 : c0 = 51 := by omega
  subst h0
  cases v <;> first | (cases hp; done) | skip
  rename_i x
  have hc := xcell_h hc ht.1
  obtain ⟨k0, hk0⟩ := xcw_at (ad := ad) (tyC := tyC) hc (by simp)
  rw [xarr (by decide), xarr_b _ _ (by decide)] at hk0
  refine va_cald hx hb hE.2.1 (xcw_P hR.1) k0 1 hk0 (xtys_at (by decide)) (xin_vp hi) hdg ?_
  rw [show xI (vs.getD i.toNatClampNeg .null) = x by rw [xgetD_of hv]; rfl]
  exact key
theorem xo_laload (hx : p.tables.exec = Jvm.exec) (hb : c.code = cc) (hE : xEnv xs z b0 D tyC ad s) (hdg : decode cc pc = .ok (.laload, 1)) (hs : xald (xK xs) xisJ (fun a t => decide (a < 1000000) && decide (t = 2)) loc st h = some (.inl (t, loc', st', h'))) (hR : xRel b0 D tyC ad h s H locs) (hl : lv_has ls nL (xlc ad loc)) (kk : xCont p l e R s m args below meth c Q nL b0 D tyC ad h cells slots (t.getD (pc + 1)) loc' st' h') : W p l e R s m args below meth c H locs cells slots Q (F0 m pc ls (st.map (xcV ad))) := by
  obtain ⟨i, a, r, c0, vs, v, rfl, hc, h50, ht, hi, hv, hp, ho⟩ := xald_spec hs
  cases ho
  have key := xk0 kk hR hl
  simp only [Bool.and_eq_true, decide_eq_true_eq] at ht
  have h0 : c0 = 52 := by omega
  subst h0
  cases v <;> first | (cases hp; done) | skip
  rename_i x
  have hc := xcell_h hc ht.1
  obtain ⟨k0, hk0⟩ := xcw_at (ad := ad) (tyC := tyC) hc (by simp)
  rw [xarr (by decide), show 52 - 50 = 2 from rfl, xarr_l] at hk0
  refine va_lald hx hb hE.2.1 (xcw_P hR.1) k0 2 hk0 (xtys_at (by decide)) (xin_vp hi) hdg ?_
  rw [show xJ (vs.getD i.toNatClampNeg .null) = x by rw [xgetD_of hv]; rfl]
  exact key
theorem xrf_V {v : Value} (h : xisA v = true) : va_rf (xR ad v) = xcV ad v := by
  cases v <;> first | rfl | cases h
theorem xTy_obj {t : Nat} (h1 : 3 ≤ t) (h2 : t ≤ 6) : ∃ C, xTy t = .object C ∧ ∃ q, vwCl[xAC t]? = some q ∧ q.1 = C := by
  rcases (show t = 3 ∨ t = 4 ∨ t = 5 ∨ t = 6 by omega) with rfl | rfl | rfl | rfl
  · exact ⟨_, rfl, _, rfl, rfl⟩
  · exact ⟨_, rfl, _, rfl, rfl⟩
  · exact ⟨_, rfl, _, rfl, rfl⟩
  · exact ⟨_, rfl, _, rfl, rfl⟩
theorem xo_aaload (hx : p.tables.exec = Jvm.exec) (hb : c.code = cc) (hE : xEnv xs z b0 D tyC ad s) (hdg : decode cc pc = .ok (.aaload, 1)) (hs : xald (xK xs) xisA (fun a t => (decide (a < 1000000) && (decide (3 ≤ t) && decide (t ≤ 6))) || (decide (1000000 ≤ a) && decide (t = 7))) loc st h = some (.inl (t, loc', st', h'))) (hR : xRel b0 D tyC ad h s H locs) (hl : lv_has ls nL (xlc ad loc)) (kk : xCont p l e R s m args below meth c Q nL b0 D tyC ad h cells slots (t.getD (pc + 1)) loc' st' h') : W p l e R s m args below meth c H locs cells slots Q (F0 m pc ls (st.map (xcV ad))) := by
  obtain ⟨i, a, r, c0, vs, v, rfl, hc, h50, ht, hi, hv, hp, ho⟩ := xald_spec hs
  cases ho
  have key := xk0 kk hR hl
  simp only [Bool.and_eq_true, Bool.or_eq_true, decide_eq_true_eq] at ht
  rcases ht with ⟨ha, h3, h6⟩ | ⟨ha, h7⟩
  · have hc := xcell_h hc ha
    obtain ⟨C, hC, -⟩ := xTy_obj h3 h6
    obtain ⟨k0, hk0⟩ := xcw_at (ad := ad) (tyC := tyC) hc (by show c0 ≠ 40; omega)
    rw [xarr h50, xarr_q _ _ h3] at hk0
    have ht7 := xtys_at (tyC := tyC) (t := c0 - 50) (by omega)
    rw [hC] at ht7
    refine va_aldq hx hb hE.2.1 (xcw_P hR.1) k0 (c0 - 50) hk0 ht7 (xin_vp hi) hdg ?_
    rw [xgetD_of hv, xrf_V hp]
    exact key
  · obtain ⟨hc, haq⟩ := xcell_k hc (by omega)
    have h1 := (hE.2.2.2.1 _ _ _ hc).2.1 h50
    rw [haq, h7] at h1
    obtain ⟨cell, g1, g2, g3, g4, g5, g6, g7⟩ := h1
    have hin := xin_vp hi
    have hlt : i.toNatClampNeg < vs.length := Nat.not_le.mp fun q => hin (Or.inr q)
    exact W.aald (v := xcV ad v) (ty := .object "RiverReaches$Kind") hx hb (by rw [hR.2.2.2.2.1 _ (Array.getElem?_eq_some_iff.mp g1).1 g7]; exact g1) g2 rfl g3 (fun q => q.elim (fun q => hin (Or.inl q)) (fun q => by omega)) (by rw [g6 _ hlt]; show some (xcV ad (vs.getD i.toNatClampNeg .null)) = _; rw [xgetD_of hv]) rfl rfl hdg key
theorem xset_I {vs : List Value} {n : Nat} {x : Int32} (hn : n < vs.length) : (fun k => xI ((vs.set n (.int x)).getD k .null)) = upd (fun k => xI (vs.getD k .null)) n x := by
  funext k
  unfold upd
  by_cases hk : k = n
  · subst hk
    rw [if_pos rfl, List.getD_eq_getElem?_getD, List.getElem?_set_self hn]
    rfl
  · rw [if_neg hk, List.getD_eq_getElem?_getD, List.getElem?_set_ne (Ne.symm hk), ← List.getD_eq_getElem?_getD]
theorem xset_J {vs : List Value} {n : Nat} {x : Int64} (hn : n < vs.length) : (fun k => xJ ((vs.set n (.long x)).getD k .null)) = vp_updL (fun k => xJ (vs.getD k .null)) n x := by
  funext k
  unfold vp_updL
  by_cases hk : k = n
  · subst hk
    rw [if_pos rfl, List.getD_eq_getElem?_getD, List.getElem?_set_self hn]
    rfl
  · rw [if_neg hk, List.getD_eq_getElem?_getD, List.getElem?_set_ne (Ne.symm hk), ← List.getD_eq_getElem?_getD]
theorem xset_R {vs : List Value} {n b : Nat} (hn : n < vs.length) : (fun k => xR ad ((vs.set n (.ref b)).getD k .null)) = va_up (fun k => xR ad (vs.getD k .null)) n (some (ad b)) := by
  funext k
  unfold va_up
  by_cases hk : k = n
  · subst hk
    rw [if_pos rfl, List.getD_eq_getElem?_getD, List.getElem?_set_self hn]
    rfl
  · rw [if_neg hk, List.getD_eq_getElem?_getD, List.getElem?_set_ne (Ne.symm hk), ← List.getD_eq_getElem?_getD]
theorem xast_spec {tn : Nat} {f : Value → Option Value} {o : xO} (hs : xast tn f loc st h = some o) : ∃ v i a r vs w, st = v :: .int i :: .ref a :: r ∧ h[a]? = some (50 + tn, vs) ∧ xin i vs.length = true ∧ f v = some w ∧ o = .inl (none, loc, r, h.set a (50 + tn, vs.set i.toNatClampNeg w)) := by
  unfold xast at hs
  split at hs
  · rename_i v i a r
    split at hs
    · split at hs
      · rename_i c0 vs hc
        split at hs
        · rename_i hg
          simp only [Bool.and_eq_true, decide_eq_true_eq] at hg
          split at hs
          · rename_i w hw
            cases hs
            obtain ⟨rfl, hg⟩ := hg
            exact ⟨v, i, a, r, vs, w, rfl, hc, hg, hw, rfl⟩
          · cases hs
        · cases hs
      · cases hs
    · cases hs
  · cases hs
theorem xin_lt {i : Int32} {n : Nat} (h : xin i n = true) : i.toNatClampNeg < n := by
  simp only [xin, Bool.and_eq_true, decide_eq_true_eq] at h
  exact h.2
/-- behind a store into an array -/
theorem xk1a {a tn k0 : Nat} {vs ws r : List Value} (htn : tn ≤ 6) (hc : h[a]? = some (50 + tn, vs)) (hlen : ws.length = vs.length) (hk0 : (xcw ad tyC h)[k0]? = some (ad a, xcE ad tyC (50 + tn, vs))) (hR : xRel b0 D tyC ad h s H locs) (hl : lv_has ls nL (xlc ad loc)) (kk : xCont p l e R s m args below meth c Q nL b0 D tyC ad h cells slots (pc + 1) loc r (h.set a (50 + tn, ws))) : ∀ (H1 : Heap) (locs1 : List Loc), va_P D vwCl ((xcw ad tyC h).set k0 (ad a, xcE ad tyC (50 + tn, ws))) H1 → va_S (fun q => b0 ≤ q) s.heap H1 locs1 → W p l e R s m args below meth c H1 locs1 cells slots Q (F0 m (pc + 1) ls (r.map (xcV ad))) := by
  intro H1 locs1 hP1 hS1
  obtain ⟨hP, hI, hbs, hS⟩ := hR
  exact xk1 kk hc hlen ⟨xset hI hc (by show 50 + tn ≠ 40; omega) hk0 hP1, xinj_set hI hc (by show 50 + tn ≠ 40; omega), xbd_set hbs hc (by show 50 + tn ≠ 40; omega), hS1⟩ hl
theorem xo_bastore (hx : p.tables.exec = Jvm.exec) (hb : c.code = cc) (hE : xEnv xs z b0 D tyC ad s) (hdg : decode cc pc = .ok (.bastore, 1)) (hs : xast 0 xb8 loc st h = some (.inl (t, loc', st', h'))) (hR : xRel b0 D tyC ad h s H locs) (hl : lv_has ls nL (xlc ad loc)) (kk : xCont p l e R s m args below meth c Q nL b0 D tyC ad h cells slots (t.getD (pc + 1)) loc' st' h') : W p l e R s m args below meth c H locs cells slots Q (F0 m pc ls (st.map (xcV ad))) := by
  obtain ⟨v, i, a, r, vs, w, rfl, hc, hi, hw, ho⟩ := xast_spec hs
  cases ho
  cases v <;> first | (cases hw; done) | skip
  rename_i x
  cases hw
  obtain ⟨k0, hk0⟩ := xcw_at (ad := ad) (tyC := tyC) hc (by simp)
  have fin := xk1a (pc := pc) (by decide) hc (List.length_set) hk0 hR hl kk
  have e1 : xcE ad tyC (50 + 0, vs) = .inl (tyC 0, vs.length, .inl fun k => xI (vs.getD k .null)) := rfl
  have e2 : xcE ad tyC (50 + 0, vs.set i.toNatClampNeg (.int x.toInt8.toInt32)) = .inl (tyC 0, vs.length, .inl (upd (fun k => xI (vs.getD k .null)) i.toNatClampNeg (vp_nar .byte x))) := by
    rw [xarr (by decide), xarr_b _ _ (by decide), xset_I (xin_lt hi), List.length_set]
    rfl
  rw [e1] at hk0
  rw [e2] at fin
  exact va_bast hx hb hE.2.1 (xcw_P hR.1) (xcw_D hR.2.1 hR.2.2.1) hR.2.2.2 k0 0 hk0 (xtys_at (by decide)) (xin_vp hi) hdg (fun H1 locs1 h1 _ h3 => fin H1 locs1 h1 h3)
theorem xo_castore (hx : p.tables.exec = Jvm.exec) (hb : c.code = cc) (hE : xEnv xs z b0 D tyC ad s) (hdg : decode cc pc = .ok (.castore, 1)) (hs : xast 1 xb16 loc st h = some (.inl (t, loc', st', h'))) (hR : xRel b0 D tyC ad h s H locs) (hl : lv_has ls nL (xlc ad loc)) (kk : xCont p l e R s m args below meth c Q nL b0 D tyC ad h cells slots (t.getD (pc + 1)) loc' st' h') : W p l e R s m args below meth c H locs cells slots Q (F0 m pc ls (st.map (xcV ad))) := by
  obtain ⟨v, i, a, r, vs, w, rfl, hc, hi, hw, ho⟩ := xast_spec hs
  cases ho
  cases v <;> first | (cases hw; done) | skip
  rename_i x
  cases hw
  obtain ⟨k0, hk0⟩ := xcw_at (ad := ad) (tyC := tyC) hc (by simp)
  have fin := xk1a (pc := pc) (by decide) hc (List.length_set) hk0 hR hl kk
  have e1 : xcE ad tyC (50 + 1, vs) = .inl (tyC 1, vs.length, .inl fun k => xI (vs.getD k .null)) := rfl
  have e2 : xcE ad tyC (50 + 1, vs.set i.toNatClampNeg (.int x.toUInt32.toUInt16.toUInt32.toInt32)) = .inl (tyC 1, vs.length, .inl (upd (fun k => xI (vs.getD k .null)) i.toNatClampNeg (vp_nar .char x))) := by
    rw [xarr (by decide), xarr_b _ _ (by decide), xset_I (xin_lt hi), List.length_set]
    rfl
  rw [e1] at hk0
  rw [e2] at fin
  exact va_cast hx hb hE.2.1 (xcw_P hR.1) (xcw_D hR.2.1 hR.2.2.1) hR.2.2.2 k0 1 hk0 (xtys_at (by decide)) (xin_vp hi) hdg (fun H1 locs1 h1 _ h3 => fin H1 locs1 h1 h3)
theorem xo_lastore (hx : p.tables.exec = Jvm.exec) (hb : c.code = cc) (hE : xEnv xs z b0 D tyC ad s) (hdg : decode cc pc = .ok (.lastore, 1)) (hs : xast 2 xb64 loc st h = some (.inl (t, loc', st', h'))) (hR : xRel b0 D tyC ad h s H locs) (hl : lv_has ls nL (xlc ad loc)) (kk : xCont p l e R s m args below meth c Q nL b0 D tyC ad h cells slots (t.getD (pc + 1)) loc' st' h') : W p l e R s m args below meth c H locs cells slots Q (F0 m pc ls (st.map (xcV ad))) := by
  obtain ⟨v, i, a, r, vs, w, rfl, hc, hi, hw, ho⟩ := xast_spec hs
  cases ho
  cases v <;> first | (cases hw; done) | skip
  rename_i x
  cases hw
  obtain ⟨k0, hk0⟩ := xcw_at (ad := ad) (tyC := tyC) hc (by simp)
  have fin := xk1a (pc := pc) (by decide) hc (List.length_set) hk0 hR hl kk
  have e1 : xcE ad tyC (50 + 2, vs) = .inl (tyC 2, vs.length, .inr (.inl fun k => xJ (vs.getD k .null))) := rfl
  have e2 : xcE ad tyC (50 + 2, vs.set i.toNatClampNeg (.long x)) = .inl (tyC 2, vs.length, .inr (.inl (vp_updL (fun k => xJ (vs.getD k .null)) i.toNatClampNeg x))) := by
    rw [xarr (by decide), show 50 + 2 - 50 = 2 from rfl, xarr_l, xset_J (xin_lt hi), List.length_set]
  rw [e1] at hk0
  rw [e2] at fin
  exact va_last hx hb hE.2.1 (xcw_P hR.1) (xcw_D hR.2.1 hR.2.2.1) hR.2.2.2 k0 2 hk0 (xtys_at (by decide)) (xin_vp hi) hdg (fun H1 locs1 h1 _ h3 => fin H1 locs1 h1 h3)
theorem xo_aastore (hx : p.tables.exec = Jvm.exec) (hb : c.code = cc) (hE : xEnv xs z b0 D tyC ad s) (hdg : decode cc pc = .ok (.aastore, 1)) (hs : xasq loc st h = some (.inl (t, loc', st', h'))) (hR : xRel b0 D tyC ad h s H locs) (hl : lv_has ls nL (xlc ad loc)) (kk : xCont p l e R s m args below meth c Q nL b0 D tyC ad h cells slots (t.getD (pc + 1)) loc' st' h') : W p l e R s m args below meth c H locs cells slots Q (F0 m pc ls (st.map (xcV ad))) := by
  unfold xasq at hs
  split at hs
  · rename_i b i a r
    split at hs
    · split at hs
      · rename_i c0 vs d us hc hd
        split at hs
        · rename_i hg
          simp only [Bool.and_eq_true, decide_eq_true_eq] at hg
          obtain ⟨h53, h56, hdc, hi⟩ := hg
          cases hs
          obtain ⟨tn, rfl⟩ : ∃ tn, c0 = 50 + tn := ⟨c0 - 50, by omega⟩
          have e0 : 50 + tn - 50 = tn := by omega
          rw [e0] at hdc
          obtain ⟨C, hC, q, hq, hqC⟩ := xTy_obj (t := tn) (by omega) (by omega)
          subst hqC
          obtain ⟨k0, hk0⟩ := xcw_at (ad := ad) (tyC := tyC) hc (by show 50 + tn ≠ 40; omega)
          have fin := xk1a (pc := pc) (by omega) hc (List.length_set) hk0 hR hl kk
          have hd12 : d < 12 := by rw [hdc]; exact xcls_lt hq
          obtain ⟨k1, hk1⟩ := xcw_at (ad := ad) (tyC := tyC) hd (by show d ≠ 40; omega)
          have hk1' : (xcw ad tyC h)[k1]? = some (ad b, .inr (d, us.map (xcV ad))) := by rw [hk1]; unfold xcE; rw [if_pos (show d < 50 by omega)]
          have e1 : xcE ad tyC (50 + tn, vs) = .inl (tyC tn, vs.length, .inr (.inr (.inr (.inr fun k => xR ad (vs.getD k .null))))) := by
            rw [xarr (by omega), e0, xarr_q _ _ (by omega)]
          have e2 : xcE ad tyC (50 + tn, vs.set i.toNatClampNeg (.ref b)) = .inl (tyC tn, vs.length, .inr (.inr (.inr (.inr (va_up (fun k => xR ad (vs.getD k .null)) i.toNatClampNeg (some (ad b))))))) := by
            rw [xarr (by omega), e0, xarr_q _ _ (by omega), xset_R (xin_lt hi), List.length_set]
          rw [e1] at hk0
          rw [e2] at fin
          have ht7 := xtys_at (tyC := tyC) (t := tn) (by omega)
          rw [hC] at ht7
          rw [hdc] at hk1'
          exact va_astq hx hb hE.2.1 (xcw_P hR.1) (xcw_D hR.2.1 hR.2.2.1) hR.2.2.2 k0 tn k1 (xAC tn) hk0 ht7 hk1' hq (xin_vp hi) hdg (fun H1 locs1 h1 _ h3 => fin H1 locs1 h1 h3)
        · cases hs
      · cases hs
    · cases hs
  · cases hs
theorem xo_alen (hx : p.tables.exec = Jvm.exec) (hb : c.code = cc) (hE : xEnv xs z b0 D tyC ad s) (hdg : decode cc pc = .ok (.arraylength, 1)) (hs : xalen (xK xs) loc st h = some (.inl (t, loc', st', h'))) (hR : xRel b0 D tyC ad h s H locs) (hl : lv_has ls nL (xlc ad loc)) (kk : xCont p l e R s m args below meth c Q nL b0 D tyC ad h cells slots (t.getD (pc + 1)) loc' st' h') : W p l e R s m args below meth c H locs cells slots Q (F0 m pc ls (st.map (xcV ad))) := by
  unfold xalen at hs
  split at hs
  · rename_i a r
    split at hs
    · rename_i c0 vs hc
      split at hs
      · rename_i hg
        simp only [Bool.and_eq_true, Bool.or_eq_true, decide_eq_true_eq] at hg
        cases hs
        have key := xk0 kk hR hl
        by_cases ha : a < 1000000
        · have hc := xcell_h hc ha
          have h56 : c0 ≤ 56 := hg.2.resolve_left (Nat.not_le.mpr ha)
          obtain ⟨k0, hk0⟩ := xcw_at (ad := ad) (tyC := tyC) hc (by show c0 ≠ 40; omega)
          rw [xarr hg.1] at hk0
          exact va_alen hx hb hE.2.1 (xcw_P hR.1) k0 (c0 - 50) hk0 (xtys_at (by omega)) rfl hdg key
        · obtain ⟨hc, haq⟩ := xcell_k hc ha
          have h1 := (hE.2.2.2.1 _ _ _ hc).2.1 hg.1
          rw [haq] at h1
          exact va_tlen hx hb h1 hR.2.2.2 rfl hdg key
      · cases hs
    · cases hs
  · cases hs
end XT
