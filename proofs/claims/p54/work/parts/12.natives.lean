/-! CASTS, CLONES, COPIES AND BITS ARE TRUE TO THE MACHINE -/
section XV
variable {p : Program} {l : Launch} {e : Env} {R : Room} {s : State} {m : MethodId} {args : Array Value} {below : List Frame} {meth : Method} {c : Code} {H : Heap} {locs : List Loc} {cells slots : Nat} {Q : State → Prop}
variable {cc : ByteArray} {pc nL : Nat} {n0 : Nat × Nat} {ls : Array Slot} {b0 : Nat} {D : va_G} {tyC : Nat → ClassId} {ad : Nat → Nat} {h h' : xH} {loc loc' : xL} {st st' : List Value} {t : Option Nat}
variable {xs : List Int32} {z : Value} {own : String}
/-- the words of the natives -/
def xFix : List (Nat × Cond) := [(1160, .native arraycopyName), (1159, .static arraycopyName), (50, .initialized "java/lang/System"), (1152, .native ⟨"java/lang/Object", "clone", "()Ljava/lang/Object;"⟩), (1153, .instanceMethod ⟨"java/lang/Object", "clone", "()Ljava/lang/Object;"⟩), (1151, .sameMethod "[B" "java/lang/Object" "clone" "()Ljava/lang/Object;"), (1154, .selects "[B" ⟨"[B", "clone", "()Ljava/lang/Object;"⟩ ⟨"java/lang/Object", "clone", "()Ljava/lang/Object;"⟩), (1155, .castable "[B" "java/lang/Cloneable"), (987, .native ⟨"java/lang/Double", "doubleToRawLongBits", "(D)J"⟩), (986, .static ⟨"java/lang/Double", "doubleToRawLongBits", "(D)J"⟩), (45, .initialized "java/lang/Double"), (1009, .native ⟨"java/lang/Float", "floatToRawIntBits", "(F)I"⟩), (1008, .static ⟨"java/lang/Float", "floatToRawIntBits", "(F)I"⟩), (46, .initialized "java/lang/Float"), (58, .instanceMethod Lib.objectInit), (59, .code Lib.objectInit ⟨#[0xb1]⟩ 1 none)]
theorem xFix_ok : xFix.all (fun q => xwd q.1 q.2) = true := by decide +kernel
theorem xfix_w (hE : xEnv xs z b0 D tyC ad s) (i : Nat) {k : Nat} {w : Cond} (h : xFix[i]? = some (k, w)) (args : Array Value) : w.before args s = true :=
  xenv_w hE (List.all_eq_true.mp xFix_ok _ (List.mem_of_getElem? h)) args
theorem xbytes (hE : xEnv xs z b0 D tyC ad s) : s.vm.findClass "[B" = some (tyC 0) := (hE.2.1.2 0 _ (xtys_at (by decide))).2
theorem xo_cast (hx : p.tables.exec = Jvm.exec) (hb : c.code = cc) (hown : s.vm.findClass own = some m.cls) (hE : xEnv xs z b0 D tyC ad s) {i I : Nat} (hk : xwd I (.classLink own i "[B") = true) (hdg : decode cc pc = .ok (.checkcast i, 3)) (hs : xcast loc st h = some (.inl (t, loc', st', h'))) (hR : xRel b0 D tyC ad h s H locs) (hl : lv_has ls nL (xlc ad loc)) (kk : xCont p l e R s m args below meth c Q nL b0 D tyC ad h cells slots (t.getD (pc + 3)) loc' st' h') : W p l e R s m args below meth c H locs cells slots Q (F0 m pc ls (st.map (xcV ad))) := by
  unfold xcast at hs
  split at hs
  · split at hs
    · split at hs
      · rename_i c0 vs hc
        split at hs
        · rename_i hg
          have hg := of_decide_eq_true hg
          subst hg
          cases hs
          obtain ⟨k0, hk0⟩ := xcw_at (ad := ad) (tyC := tyC) hc (by simp)
          rw [xarr (by decide)] at hk0
          exact va_castA hx hb hown (xenv_w hE hk args) (xcw_P hR.1) k0 hk0 (xbytes hE) hdg (xk0 kk hR hl)
        · cases hs
      · cases hs
    · cases hs
  · cases hs
theorem xsum (ad : Nat → Nat) (r : List Value) : ((r.map (xcV ad)).map fun v => v.category).sum = (r.map fun v => v.category).sum := by
  rw [List.map_map]
  exact congrArg List.sum (List.map_congr_left fun v _ => xcV_cat ad v)
theorem xall_fit {vs : List Value} (h : vs.all (fun v => xfit .byte v) = true) {k : Nat} (hk : k < vs.length) : fits .byte (.int (xI (vs.getD k .null))) = true ∧ xcV ad (vs.getD k .null) = .int (xI (vs.getD k .null)) := by
  have h1 : xfit .byte (vs.getD k .null) = true := by
    rw [List.getD_eq_getElem?_getD, List.getElem?_eq_getElem hk]
    exact List.all_eq_true.mp h _ (List.getElem_mem hk)
  have h2 := xfit_fits h1 ad
  cases hv : vs.getD k .null with
  | int x => rw [hv] at h2; exact ⟨h2, rfl⟩
  | _ => rw [hv] at h1; cases h1
theorem xo_clone (hx : p.tables.exec = Jvm.exec) (hb : c.code = cc) (hml : c.maxLocals = nL) (hown : s.vm.findClass own = some m.cls) (hE : xEnv xs z b0 D tyC ad s) {i I : Nat} (hk : xwd I (.methodLink own i ⟨"[B", "clone", "()Ljava/lang/Object;"⟩) = true) (hdg : decode cc pc = .ok (.invokevirtual i, 3)) (hs : xclone loc st h = some (.inl (t, loc', st', h'))) (hok : xok n0 h loc st) (hfr : 1 ≤ R.frames) (hlo : 100 ≤ R.locals) (hroom : cells + (h'.length - h.length) ≤ R.cells ∧ slots + (xsz h' - xsz h) ≤ R.slots) (hR : xRel b0 D tyC ad h s H locs) (hl : lv_has ls nL (xlc ad loc)) (kk : xCont p l e R s m args below meth c Q nL b0 D tyC ad h cells slots (t.getD (pc + 3)) loc' st' h') : W p l e R s m args below meth c H locs cells slots Q (F0 m pc ls (st.map (xcV ad))) := by
  unfold xclone at hs
  split at hs
  · rename_i a r
    split at hs
    · rename_i hg0
      simp only [Bool.and_eq_true, decide_eq_true_eq] at hg0
      split at hs
      · rename_i c0 vs hc
        split at hs
        · rename_i hg
          simp only [Bool.and_eq_true, decide_eq_true_eq] at hg
          obtain ⟨hg, hall⟩ := hg
          subst hg
          have hok := xok_tail hok
          have hcat := hg0.2.2
          rw [← xsum ad] at hcat
          cases hs
          have hr1 : (h ++ [(50, vs)]).length - h.length = 1 := by simp
          have hr2 : xsz (h ++ [(50, vs)]) - xsz h = vs.length := by rw [xsz_push]; simp
          rw [hr1, hr2] at hroom
          obtain ⟨k0, hk0⟩ := xcw_at (ad := ad) (tyC := tyC) hc (by simp)
          have hcE : xcE ad tyC (50, vs) = .inl (tyC 0, vs.length, .inl fun k => xI (vs.getD k .null)) := rfl
          rw [hcE] at hk0
          refine va_clone hx hb (hml.trans hl.1.symm) hown (xenv_w hE hk args) (xfix_w hE 5 rfl args) (xfix_w hE 3 rfl args) (xfix_w hE 4 rfl args) (xfix_w hE 6 rfl args) (xfix_w hE 7 rfl #[]) hE.2.1 (xcw_P hR.1) (xcw_D hR.2.1 hR.2.2.1) hR.2.2.2 (fun q hq => Nat.le_trans hE.2.2.2.2.2.2.2.2.2 hq) k0 0 hk0 (xtys_at (by decide)) (xbytes hE) ?_ hfr (by omega) hroom.1 hroom.2 hdg ?_
          · intro j v hv
            have hj : j < vs.length := by
              have := (Array.getElem?_eq_some_iff.mp hv).1
              rw [vp_cell_i, arrV_size] at this
              exact this
            rw [vp_cell_i, arrV_read _ _ hj] at hv
            rw [← Option.some.inj hv]
            exact (xall_fit (ad := ad) hall hj).1
          · intro q H1 hK hP hD hS
            rw [← hcE] at hP hD
            exact xpushed (q0 := (50, vs)) rfl kk hg0.2.1 hok (fun v hv => hok.2.1 _ (List.mem_of_getElem? hc) v hv) (by simp) hR hl q H1 hP hD hS
        · cases hs
      · cases hs
    · cases hs
  · cases hs
theorem xcpy_len (f g : List Value) (sp dp n : Nat) : (xcpy f g sp dp n).length = g.length := by simp [xcpy]
theorem xcpy_I {f g : List Value} {sp dp n : Nat} (hd : dp + n ≤ g.length) : (fun k => xI ((xcpy f g sp dp n).getD k .null)) = va_cpy (fun k => xI (f.getD k .null)) (fun k => xI (g.getD k .null)) sp dp n := by
  funext k
  unfold va_cpy
  by_cases hk : k < g.length
  · rw [List.getD_eq_getElem?_getD (l := xcpy f g sp dp n)]
    unfold xcpy
    rw [List.getElem?_map, List.getElem?_range hk]
    show xI (if dp ≤ k ∧ k < dp + n then f.getD (sp + (k - dp)) .null else g.getD k .null) = _
    split <;> rfl
  · rw [List.getD_eq_getElem?_getD (l := xcpy f g sp dp n), List.getElem?_eq_none (by rw [xcpy_len]; omega), if_neg (by omega)]
    show _ = xI (g.getD k .null)
    rw [List.getD_eq_getElem?_getD (l := g), List.getElem?_eq_none (by omega)]
theorem xo_copy (hx : p.tables.exec = Jvm.exec) (hb : c.code = cc) (hml : c.maxLocals = nL) (hown : s.vm.findClass own = some m.cls) (hE : xEnv xs z b0 D tyC ad s) {i I : Nat} (hk : xwd I (.methodLink own i arraycopyName) = true) (hdg : decode cc pc = .ok (.invokestatic i, 3)) (hs : xcopy (xK xs) loc st h = some (.inl (t, loc', st', h'))) (hfr : 1 ≤ R.frames) (hlo : 100 ≤ R.locals) (hR : xRel b0 D tyC ad h s H locs) (hl : lv_has ls nL (xlc ad loc)) (kk : xCont p l e R s m args below meth c Q nL b0 D tyC ad h cells slots (t.getD (pc + 3)) loc' st' h') : W p l e R s m args below meth c H locs cells slots Q (F0 m pc ls (st.map (xcV ad))) := by
  unfold xcopy at hs
  split at hs
  · rename_i n dp a sp b r
    split at hs
    · rename_i hg0
      simp only [Bool.and_eq_true, decide_eq_true_eq, Bool.not_eq_true', decide_eq_false_iff_not] at hg0
      split at hs
      · rename_i c0 g d f hc hd
        split at hs
        · rename_i hg
          simp only [Bool.and_eq_true, decide_eq_true_eq] at hg
          obtain ⟨rfl, rfl, hn, hsp, hdp, h4, h5, hall⟩ := hg
          have hcat := hg0.2.2
          rw [← xsum ad] at hcat
          cases hs
          have hw : nativeFrameWords "java/lang/System" "arraycopy" 5 + 11 ≤ 90 := by decide
          obtain ⟨k0, hk0⟩ := xcw_at (ad := ad) (tyC := tyC) hc (by simp)
          have hcE : ∀ vs : List Value, xcE ad tyC (50, vs) = .inl (tyC 0, vs.length, .inl fun k => xI (vs.getD k .null)) := fun _ => rfl
          have fin : ∀ (H1 : Heap) (locs1 : List Loc), va_P D vwCl ((xcw ad tyC h).set k0 (ad a, .inl (tyC 0, g.length, .inl (va_cpy (fun k => xI (f.getD k .null)) (fun k => xI (g.getD k .null)) sp.toNatClampNeg dp.toNatClampNeg n.toNatClampNeg)))) H1 → va_D (fun q => b0 ≤ q) ((xcw ad tyC h).set k0 (ad a, .inl (tyC 0, g.length, .inl (va_cpy (fun k => xI (f.getD k .null)) (fun k => xI (g.getD k .null)) sp.toNatClampNeg dp.toNatClampNeg n.toNatClampNeg)))) → va_S (fun q => b0 ≤ q) s.heap H1 locs1 → W p l e R s m args below meth c H1 locs1 cells slots Q (F0 m (pc + 3) ls (st'.map (xcV ad))) := by
            intro H1 locs1 hP1 _ hS1
            rw [← xcpy_I h5, ← xcpy_len f g sp.toNatClampNeg dp.toNatClampNeg n.toNatClampNeg, ← hcE] at hP1
            exact xk1 kk hc (xcpy_len _ _ _ _ _) ⟨xset hR.2.1 hc (by simp) hk0 hP1, xinj_set hR.2.1 hc (by simp), xbd_set hR.2.2.1 hc (by simp), hS1⟩ hl
          rw [hcE] at hk0
          by_cases hb6 : b < 1000000
          · have hd := xcell_h hd hb6
            obtain ⟨k1, hk1⟩ := xcw_at (ad := ad) (tyC := tyC) hd (by simp)
            rw [hcE] at hk1
            exact va_copyi hx hb (hml.trans hl.1.symm) hown (xenv_w hE hk args) (xfix_w hE 0 rfl args) (xfix_w hE 1 rfl args) (xfix_w hE 2 rfl args) hE.2.1 (xcw_P hR.1) (xcw_D hR.2.1 hR.2.2.1) hR.2.2.2 k1 k0 0 0 hk1 hk0 (xtys_at (by decide)) (xtys_at (by decide)) rfl (Int32.not_lt.mpr hsp) (Int32.not_lt.mpr hdp) (Int32.not_lt.mpr hn) h4 h5 (fun j hj => (xall_fit (ad := ad) hall (by omega)).1) hfr (by omega) hdg fin
          · obtain ⟨hd, haq⟩ := xcell_k hd hb6
            have h1 := (hE.2.2.2.1 _ _ _ hd).2.1 (by decide)
            rw [haq] at h1
            have h2 : va_T .byte (ad b) f.length (fun j => .int (xI (f.getD j .null))) (fun q => b0 ≤ q) s s.heap := by
              obtain ⟨cell, g1, g2, g3, g4, g5, g6, g7⟩ := h1
              refine ⟨cell, g1, g2, g3, g4, g5, fun j hj => ?_, g7⟩
              rw [g6 j hj]
              exact congrArg some (xall_fit (ad := ad) hall hj).2
            exact vk_copyt hx hb (hml.trans hl.1.symm) hown (xenv_w hE hk args) (xfix_w hE 0 rfl args) (xfix_w hE 1 rfl args) (xfix_w hE 2 rfl args) hE.2.1 (xcw_P hR.1) (xcw_D hR.2.1 hR.2.2.1) hR.2.2.2 h2 k0 0 hk0 (xtys_at (by decide)) (Int32.not_lt.mpr hsp) (Int32.not_lt.mpr hdp) (Int32.not_lt.mpr hn) h4 h5 (fun j hj => (xall_fit (ad := ad) hall (by omega)).1) hfr (by omega) hdg fin
        · cases hs
      · cases hs
    · cases hs
  · cases hs
theorem xf1_spec {f : Value → Option Value} {o : xO} (hs : xf1 f loc st h = some o) : ∃ v r w, st = v :: r ∧ f v = some w ∧ (r.map fun v => v.category).sum ≤ 8 ∧ o = .inl (none, loc, w :: r, h) := by
  unfold xf1 at hs
  split at hs
  · split at hs
    · rename_i w hw
      split at hs
      · rename_i hg
        cases hs
        exact ⟨_, _, w, rfl, hw, of_decide_eq_true hg, rfl⟩
      · cases hs
    · cases hs
  · cases hs
theorem xo_d2l (hx : p.tables.exec = Jvm.exec) (hb : c.code = cc) (hml : c.maxLocals = nL) (hown : s.vm.findClass own = some m.cls) (hE : xEnv xs z b0 D tyC ad s) {i I : Nat} (hk : xwd I (.methodLink own i ⟨"java/lang/Double", "doubleToRawLongBits", "(D)J"⟩) = true) (hdg : decode cc pc = .ok (.invokestatic i, 3)) (hs : xf1 xd2l loc st h = some (.inl (t, loc', st', h'))) (hfr : 1 ≤ R.frames) (hlo : 100 ≤ R.locals) (hR : xRel b0 D tyC ad h s H locs) (hl : lv_has ls nL (xlc ad loc)) (kk : xCont p l e R s m args below meth c Q nL b0 D tyC ad h cells slots (t.getD (pc + 3)) loc' st' h') : W p l e R s m args below meth c H locs cells slots Q (F0 m pc ls (st.map (xcV ad))) := by
  obtain ⟨v, r, w, rfl, hf, hcat, ho⟩ := xf1_spec hs
  rw [← xsum ad] at hcat
  cases v <;> first | (cases hf; done) | skip
  cases hf
  cases ho
  exact vn_d2l hx hb (hml.trans hl.1.symm) hown (xenv_w hE hk args) (xfix_w hE 8 rfl args) (xfix_w hE 9 rfl args) (xfix_w hE 10 rfl args) hfr (by omega) hdg (xk0 kk hR hl)
theorem xo_f2i (hx : p.tables.exec = Jvm.exec) (hb : c.code = cc) (hml : c.maxLocals = nL) (hown : s.vm.findClass own = some m.cls) (hE : xEnv xs z b0 D tyC ad s) {i I : Nat} (hk : xwd I (.methodLink own i ⟨"java/lang/Float", "floatToRawIntBits", "(F)I"⟩) = true) (hdg : decode cc pc = .ok (.invokestatic i, 3)) (hs : xf1 xf2i loc st h = some (.inl (t, loc', st', h'))) (hfr : 1 ≤ R.frames) (hlo : 100 ≤ R.locals) (hR : xRel b0 D tyC ad h s H locs) (hl : lv_has ls nL (xlc ad loc)) (kk : xCont p l e R s m args below meth c Q nL b0 D tyC ad h cells slots (t.getD (pc + 3)) loc' st' h') : W p l e R s m args below meth c H locs cells slots Q (F0 m pc ls (st.map (xcV ad))) := by
  obtain ⟨v, r, w, rfl, hf, hcat, ho⟩ := xf1_spec hs
  rw [← xsum ad] at hcat
  cases v <;> first | (cases hf; done) | skip
  cases hf
  cases ho
  exact vn_f2i hx hb (hml.trans hl.1.symm) hown (xenv_w hE hk args) (xfix_w hE 11 rfl args) (xfix_w hE 12 rfl args) (xfix_w hE 13 rfl args) hfr (by omega) hdg (xk0 kk hR hl)
theorem xo_oinit (hx : p.tables.exec = Jvm.exec) (hb : c.code = cc) (hml : c.maxLocals = nL) (hown : s.vm.findClass own = some m.cls) (hE : xEnv xs z b0 D tyC ad s) {i I : Nat} (hk : xwd I (.methodLink own i Lib.objectInit) = true) {a : Nat} {r : List Value} (hcat : (r.map fun v => v.category).sum ≤ 8) (hdg : decode cc pc = .ok (.invokespecial i, 3)) (hfr : 1 ≤ R.frames) (hlo : 100 ≤ R.locals) (hR : xRel b0 D tyC ad h s H locs) (hl : lv_has ls nL (xlc ad loc)) (kk : xCont p l e R s m args below meth c Q nL b0 D tyC ad h cells slots (pc + 3) loc r h) : W p l e R s m args below meth c H locs cells slots Q (F0 m pc ls ((.ref a :: r).map (xcV ad))) := by
  rw [← xsum ad] at hcat
  exact W.objInit hx hb hown (xenv_w hE hk args) (xfix_w hE 14 rfl args) (xfix_w hE 15 rfl args) rfl (hl.1.trans hml.symm) rfl hdg hfr (by show 2 * 0 + _ + _ ≤ _; omega) (xk0 kk hR hl)
end XV
