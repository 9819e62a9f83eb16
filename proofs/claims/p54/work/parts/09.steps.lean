/-! EVERY INSTRUCTION BUT CALLS, RETURNS AND THROWS IS TRUE TO THE MACHINE -/
section XS
variable {p : Program} {l : Launch} {e : Env} {R : Room} {s : State} {m : MethodId} {args : Array Value} {below : List Frame} {meth : Method} {c : Code} {H : Heap} {locs : List Loc} {cells slots : Nat} {Q : State → Prop}
variable {cc : ByteArray} {pc nL : Nat} {ls : Array Slot} {b0 : Nat} {D : va_G} {tyC : Nat → ClassId} {ad : Nat → Nat} {h h' : xH} {loc loc' : xL} {st st' : List Value} {K : List (Nat × List Value)} {Z : List Value} {t : Option Nat}
/-- what must be shown behind an instruction: from every machine that stands as the abstract state does -/
def xCont (p : Program) (l : Launch) (e : Env) (R : Room) (s : State) (m : MethodId) (args : Array Value) (below : List Frame) (meth : Method) (c : Code) (Q : State → Prop) (nL b0 : Nat) (D : va_G) (tyC : Nat → ClassId) (ad : Nat → Nat) (h : xH) (cells slots pc' : Nat) (loc' : xL) (st' : List Value) (h' : xH) : Prop :=
  ∀ (ad' : Nat → Nat) (H' : Heap) (locs' : List Loc) (ls' : Array Slot), (∀ i, (i < h.length ∨ 1000000 ≤ i) → ad' i = ad i) → xRel b0 D tyC ad' h' s H' locs' → lv_has ls' nL (xlc ad' loc') → W p l e R s m args below meth c H' locs' (cells + (h'.length - h.length)) (slots + (xsz h' - xsz h)) Q (F0 m pc' ls' (st'.map (xcV ad')))
theorem xk0 {pc' : Nat} {ls' : Array Slot} (kk : xCont p l e R s m args below meth c Q nL b0 D tyC ad h cells slots pc' loc' st' h) (hR : xRel b0 D tyC ad h s H locs) (hl : lv_has ls' nL (xlc ad loc')) : W p l e R s m args below meth c H locs cells slots Q (F0 m pc' ls' (st'.map (xcV ad))) := by
  have k := kk ad H locs ls' (fun _ _ => rfl) hR hl
  rwa [Nat.sub_self, Nat.sub_self, Nat.add_zero, Nat.add_zero] at k
theorem xk1 {pc' i : Nat} {ls' : Array Slot} {k : Nat} {vs ws : List Value} {H1 : Heap} {locs1 : List Loc} (kk : xCont p l e R s m args below meth c Q nL b0 D tyC ad h cells slots pc' loc' st' (h.set i (k, ws))) (hi : h[i]? = some (k, vs)) (hw : ws.length = vs.length) (hR : xRel b0 D tyC ad (h.set i (k, ws)) s H1 locs1) (hl : lv_has ls' nL (xlc ad loc')) : W p l e R s m args below meth c H1 locs1 cells slots Q (F0 m pc' ls' (st'.map (xcV ad))) := by
  have k := kk ad H1 locs1 ls' (fun _ _ => rfl) hR hl
  rwa [List.length_set, xsz_set hi hw, Nat.sub_self, Nat.sub_self, Nat.add_zero, Nat.add_zero] at k
theorem xk2 {pc' : Nat} {ls' : Array Slot} {ad' : Nat → Nat} {q : Nat × List Value} {H1 : Heap} {locs1 : List Loc} {n : Nat} (hn : q.2.length = n) (kk : xCont p l e R s m args below meth c Q nL b0 D tyC ad h cells slots pc' loc' st' (h ++ [q])) (ha : ∀ i, (i < h.length ∨ 1000000 ≤ i) → ad' i = ad i) (hR : xRel b0 D tyC ad' (h ++ [q]) s H1 locs1) (hl : lv_has ls' nL (xlc ad' loc')) : W p l e R s m args below meth c H1 locs1 (cells + 1) (slots + n) Q (F0 m pc' ls' (st'.map (xcV ad'))) := by
  have k := kk ad' H1 locs1 ls' ha hR hl
  rwa [xsz_push, List.length_append, show h.length + [q].length - h.length = 1 by simp, show xsz h + q.2.length - xsz h = n by omega] at k
theorem xget_at {i : Nat} {v : Value} (hv : xget loc i = some v) (hl : lv_has ls nL (xlc ad loc)) : ls[i]? = some (.val (xcV ad v)) := by
  unfold xget at hv
  obtain ⟨q, hq, rfl⟩ := Option.map_eq_some_iff.mp hv
  have h1 := List.mem_of_find?_eq_some hq
  have h2 : q.1 = i := by simpa using List.find?_some hq
  subst h2
  exact hl.2.2 (q.1, xcV ad q.2) (List.mem_map.mpr ⟨q, h1, rfl⟩)
theorem xlc_s1 (i : Nat) (v : Value) : (i, xcV ad v) :: (xlc ad loc).filter (fun q => !(q.1 == i) && !(q.1 + 1 == i && q.2.category == 2)) = xlc ad (xs1 loc i v) := by
  unfold xlc xs1
  rw [List.map_cons, List.filter_map]
  congr 3
  funext q
  simp [xcV_cat]
theorem xlc_s2 (i : Nat) (v : Value) : (i, xcV ad v) :: (xlc ad loc).filter (fun q => !(q.1 == i) && (!(q.1 == i + 1) && !(q.1 + 1 == i && q.2.category == 2))) = xlc ad (xs2 loc i v) := by
  unfold xlc xs2
  rw [List.map_cons, List.filter_map]
  congr 3
  funext q
  simp [xcV_cat]
theorem xtgt_eq {off : Int} {t : Nat} (h : xtgt pc off = some t) : (pc : Int) + off = (t : Int) := by
  unfold xtgt at h
  split at h
  · cases h
    omega
  · cases h

theorem xo_iconst (hx : p.tables.exec = Jvm.exec) (hb : c.code = cc) {n : Int} (hdg : decode cc pc = .ok (.iconst n, 1)) (hs : xnx loc (.int (Int32.ofInt n) :: st) h = some (.inl (t, loc', st', h'))) (hR : xRel b0 D tyC ad h s H locs) (hl : lv_has ls nL (xlc ad loc)) (kk : xCont p l e R s m args below meth c Q nL b0 D tyC ad h cells slots (t.getD (pc + 1)) loc' st' h') : W p l e R s m args below meth c H locs cells slots Q (F0 m pc ls (st.map (xcV ad))) := by
  cases hs
  exact lv_iconst hx hb hdg rfl (xk0 kk hR hl)

theorem xo_bipush (hx : p.tables.exec = Jvm.exec) (hb : c.code = cc) {n : Int} (hdg : decode cc pc = .ok (.bipush n, 2)) (hs : xnx loc (.int (Int8.ofInt n).toInt32 :: st) h = some (.inl (t, loc', st', h'))) (hR : xRel b0 D tyC ad h s H locs) (hl : lv_has ls nL (xlc ad loc)) (kk : xCont p l e R s m args below meth c Q nL b0 D tyC ad h cells slots (t.getD (pc + 2)) loc' st' h') : W p l e R s m args below meth c H locs cells slots Q (F0 m pc ls (st.map (xcV ad))) := by
  cases hs
  exact lv_bipush hx hb hdg rfl (xk0 kk hR hl)

theorem xo_sipush (hx : p.tables.exec = Jvm.exec) (hb : c.code = cc) {n : Int} (hdg : decode cc pc = .ok (.sipush n, 3)) (hs : xnx loc (.int (Int16.ofInt n).toInt32 :: st) h = some (.inl (t, loc', st', h'))) (hR : xRel b0 D tyC ad h s H locs) (hl : lv_has ls nL (xlc ad loc)) (kk : xCont p l e R s m args below meth c Q nL b0 D tyC ad h cells slots (t.getD (pc + 3)) loc' st' h') : W p l e R s m args below meth c H locs cells slots Q (F0 m pc ls (st.map (xcV ad))) := by
  cases hs
  exact lv_sipush hx hb hdg rfl (xk0 kk hR hl)

theorem xo_null (hx : p.tables.exec = Jvm.exec) (hb : c.code = cc)  (hdg : decode cc pc = .ok (.aconst_null, 1)) (hs : xnx loc (.null :: st) h = some (.inl (t, loc', st', h'))) (hR : xRel b0 D tyC ad h s H locs) (hl : lv_has ls nL (xlc ad loc)) (kk : xCont p l e R s m args below meth c Q nL b0 D tyC ad h cells slots (t.getD (pc + 1)) loc' st' h') : W p l e R s m args below meth c H locs cells slots Q (F0 m pc ls (st.map (xcV ad))) := by
  cases hs
  exact lv_null hx hb hdg (xk0 kk hR hl)

theorem xo_iloadn (hx : p.tables.exec = Jvm.exec) (hb : c.code = cc) {k : Fin 4} (hdg : decode cc pc = .ok (.iload_n k, 1)) (hs : xld xisI loc st h k = some (.inl (t, loc', st', h'))) (hR : xRel b0 D tyC ad h s H locs) (hl : lv_has ls nL (xlc ad loc)) (kk : xCont p l e R s m args below meth c Q nL b0 D tyC ad h cells slots (t.getD (pc + 1)) loc' st' h') : W p l e R s m args below meth c H locs cells slots Q (F0 m pc ls (st.map (xcV ad))) := by
  unfold xld at hs
  split at hs
  · rename_i v hv
    cases v <;> first | (cases hs; done) | (cases hs; exact lv_iload_n hx hb hdg rfl (xget_at hv hl) (xk0 kk hR hl))
  · cases hs

theorem xo_iloadw (hx : p.tables.exec = Jvm.exec) (hb : c.code = cc) {k : Nat} (hdg : decode cc pc = .ok (.iload k, 2)) (hs : xld xisI loc st h k = some (.inl (t, loc', st', h'))) (hR : xRel b0 D tyC ad h s H locs) (hl : lv_has ls nL (xlc ad loc)) (kk : xCont p l e R s m args below meth c Q nL b0 D tyC ad h cells slots (t.getD (pc + 2)) loc' st' h') : W p l e R s m args below meth c H locs cells slots Q (F0 m pc ls (st.map (xcV ad))) := by
  unfold xld at hs
  split at hs
  · rename_i v hv
    cases v <;> first | (cases hs; done) | (cases hs; exact lv_iload hx hb hdg (xget_at hv hl) (xk0 kk hR hl))
  · cases hs

theorem xo_lloadn (hx : p.tables.exec = Jvm.exec) (hb : c.code = cc) {k : Fin 4} (hdg : decode cc pc = .ok (.lload_n k, 1)) (hs : xld xisJ loc st h k = some (.inl (t, loc', st', h'))) (hR : xRel b0 D tyC ad h s H locs) (hl : lv_has ls nL (xlc ad loc)) (kk : xCont p l e R s m args below meth c Q nL b0 D tyC ad h cells slots (t.getD (pc + 1)) loc' st' h') : W p l e R s m args below meth c H locs cells slots Q (F0 m pc ls (st.map (xcV ad))) := by
  unfold xld at hs
  split at hs
  · rename_i v hv
    cases v <;> first | (cases hs; done) | (cases hs; exact lv_lload_n hx hb hdg rfl (xget_at hv hl) (xk0 kk hR hl))
  · cases hs

theorem xo_lloadw (hx : p.tables.exec = Jvm.exec) (hb : c.code = cc) {k : Nat} (hdg : decode cc pc = .ok (.lload k, 2)) (hs : xld xisJ loc st h k = some (.inl (t, loc', st', h'))) (hR : xRel b0 D tyC ad h s H locs) (hl : lv_has ls nL (xlc ad loc)) (kk : xCont p l e R s m args below meth c Q nL b0 D tyC ad h cells slots (t.getD (pc + 2)) loc' st' h') : W p l e R s m args below meth c H locs cells slots Q (F0 m pc ls (st.map (xcV ad))) := by
  unfold xld at hs
  split at hs
  · rename_i v hv
    cases v <;> first | (cases hs; done) | (cases hs; exact lv_lload hx hb hdg (xget_at hv hl) (xk0 kk hR hl))
  · cases hs

theorem xo_floadn (hx : p.tables.exec = Jvm.exec) (hb : c.code = cc) {k : Fin 4} (hdg : decode cc pc = .ok (.fload_n k, 1)) (hs : xld xisF loc st h k = some (.inl (t, loc', st', h'))) (hR : xRel b0 D tyC ad h s H locs) (hl : lv_has ls nL (xlc ad loc)) (kk : xCont p l e R s m args below meth c Q nL b0 D tyC ad h cells slots (t.getD (pc + 1)) loc' st' h') : W p l e R s m args below meth c H locs cells slots Q (F0 m pc ls (st.map (xcV ad))) := by
  unfold xld at hs
  split at hs
  · rename_i v hv
    cases v <;> first | (cases hs; done) | (cases hs; exact lv_fload_n hx hb hdg rfl (xget_at hv hl) (xk0 kk hR hl))
  · cases hs

theorem xo_floadw (hx : p.tables.exec = Jvm.exec) (hb : c.code = cc) {k : Nat} (hdg : decode cc pc = .ok (.fload k, 2)) (hs : xld xisF loc st h k = some (.inl (t, loc', st', h'))) (hR : xRel b0 D tyC ad h s H locs) (hl : lv_has ls nL (xlc ad loc)) (kk : xCont p l e R s m args below meth c Q nL b0 D tyC ad h cells slots (t.getD (pc + 2)) loc' st' h') : W p l e R s m args below meth c H locs cells slots Q (F0 m pc ls (st.map (xcV ad))) := by
  unfold xld at hs
  split at hs
  · rename_i v hv
    cases v <;> first | (cases hs; done) | (cases hs; exact lv_fload hx hb hdg (xget_at hv hl) (xk0 kk hR hl))
  · cases hs

theorem xo_dloadn (hx : p.tables.exec = Jvm.exec) (hb : c.code = cc) {k : Fin 4} (hdg : decode cc pc = .ok (.dload_n k, 1)) (hs : xld xisD loc st h k = some (.inl (t, loc', st', h'))) (hR : xRel b0 D tyC ad h s H locs) (hl : lv_has ls nL (xlc ad loc)) (kk : xCont p l e R s m args below meth c Q nL b0 D tyC ad h cells slots (t.getD (pc + 1)) loc' st' h') : W p l e R s m args below meth c H locs cells slots Q (F0 m pc ls (st.map (xcV ad))) := by
  unfold xld at hs
  split at hs
  · rename_i v hv
    cases v <;> first | (cases hs; done) | (cases hs; exact lv_dload_n hx hb hdg rfl (xget_at hv hl) (xk0 kk hR hl))
  · cases hs

theorem xo_dloadw (hx : p.tables.exec = Jvm.exec) (hb : c.code = cc) {k : Nat} (hdg : decode cc pc = .ok (.dload k, 2)) (hs : xld xisD loc st h k = some (.inl (t, loc', st', h'))) (hR : xRel b0 D tyC ad h s H locs) (hl : lv_has ls nL (xlc ad loc)) (kk : xCont p l e R s m args below meth c Q nL b0 D tyC ad h cells slots (t.getD (pc + 2)) loc' st' h') : W p l e R s m args below meth c H locs cells slots Q (F0 m pc ls (st.map (xcV ad))) := by
  unfold xld at hs
  split at hs
  · rename_i v hv
    cases v <;> first | (cases hs; done) | (cases hs; exact lv_dload hx hb hdg (xget_at hv hl) (xk0 kk hR hl))
  · cases hs

theorem xo_aloadn (hx : p.tables.exec = Jvm.exec) (hb : c.code = cc) {k : Fin 4} (hdg : decode cc pc = .ok (.aload_n k, 1)) (hs : xld xisA loc st h k = some (.inl (t, loc', st', h'))) (hR : xRel b0 D tyC ad h s H locs) (hl : lv_has ls nL (xlc ad loc)) (kk : xCont p l e R s m args below meth c Q nL b0 D tyC ad h cells slots (t.getD (pc + 1)) loc' st' h') : W p l e R s m args below meth c H locs cells slots Q (F0 m pc ls (st.map (xcV ad))) := by
  unfold xld at hs
  split at hs
  · rename_i v hv
    cases v <;> first | (cases hs; done) | (cases hs; exact lv_aload_n hx hb hdg rfl (xget_at hv hl) (xk0 kk hR hl)) | (cases hs; exact lv_aload_nN hx hb hdg rfl (xget_at hv hl) (xk0 kk hR hl))
  · cases hs

theorem xo_aloadw (hx : p.tables.exec = Jvm.exec) (hb : c.code = cc) {k : Nat} (hdg : decode cc pc = .ok (.aload k, 2)) (hs : xld xisA loc st h k = some (.inl (t, loc', st', h'))) (hR : xRel b0 D tyC ad h s H locs) (hl : lv_has ls nL (xlc ad loc)) (kk : xCont p l e R s m args below meth c Q nL b0 D tyC ad h cells slots (t.getD (pc + 2)) loc' st' h') : W p l e R s m args below meth c H locs cells slots Q (F0 m pc ls (st.map (xcV ad))) := by
  unfold xld at hs
  split at hs
  · rename_i v hv
    cases v <;> first | (cases hs; done) | (cases hs; exact lv_aload hx hb hdg (xget_at hv hl) (xk0 kk hR hl)) | (cases hs; exact lv_aloadN hx hb hdg (xget_at hv hl) (xk0 kk hR hl))
  · cases hs

theorem xo_istoren (hx : p.tables.exec = Jvm.exec) (hb : c.code = cc) {k : Fin 4} (hdg : decode cc pc = .ok (.istore_n k, 1)) (hs : xst1 xisI nL loc st h k = some (.inl (t, loc', st', h'))) (hR : xRel b0 D tyC ad h s H locs) (hl : lv_has ls nL (xlc ad loc)) (kk : xCont p l e R s m args below meth c Q nL b0 D tyC ad h cells slots (t.getD (pc + 1)) loc' st' h') : W p l e R s m args below meth c H locs cells slots Q (F0 m pc ls (st.map (xcV ad))) := by
  unfold xst1 at hs
  split at hs
  · rename_i v r
    split at hs
    · rename_i hg
      obtain ⟨g1, g2⟩ := Bool.and_eq_true _ _ |>.mp hg
      have g2 := of_decide_eq_true g2
      cases v <;> first | (cases g1; done) | (cases hs; exact lv_istore_n hx hb hdg rfl hl g2 (xlc_s1 (ad := ad) _ (.int _)) (fun ls2 hl2 => xk0 kk hR hl2))
    · cases hs
  · cases hs

theorem xo_istorew (hx : p.tables.exec = Jvm.exec) (hb : c.code = cc) {k : Nat} (hdg : decode cc pc = .ok (.istore k, 2)) (hs : xst1 xisI nL loc st h k = some (.inl (t, loc', st', h'))) (hR : xRel b0 D tyC ad h s H locs) (hl : lv_has ls nL (xlc ad loc)) (kk : xCont p l e R s m args below meth c Q nL b0 D tyC ad h cells slots (t.getD (pc + 2)) loc' st' h') : W p l e R s m args below meth c H locs cells slots Q (F0 m pc ls (st.map (xcV ad))) := by
  unfold xst1 at hs
  split at hs
  · rename_i v r
    split at hs
    · rename_i hg
      obtain ⟨g1, g2⟩ := Bool.and_eq_true _ _ |>.mp hg
      have g2 := of_decide_eq_true g2
      cases v <;> first | (cases g1; done) | (cases hs; exact lv_istore hx hb hdg hl g2 (xlc_s1 (ad := ad) _ (.int _)) (fun ls2 hl2 => xk0 kk hR hl2))
    · cases hs
  · cases hs

theorem xo_lstoren (hx : p.tables.exec = Jvm.exec) (hb : c.code = cc) {k : Fin 4} (hdg : decode cc pc = .ok (.lstore_n k, 1)) (hs : xst2 xisJ nL loc st h k = some (.inl (t, loc', st', h'))) (hR : xRel b0 D tyC ad h s H locs) (hl : lv_has ls nL (xlc ad loc)) (kk : xCont p l e R s m args below meth c Q nL b0 D tyC ad h cells slots (t.getD (pc + 1)) loc' st' h') : W p l e R s m args below meth c H locs cells slots Q (F0 m pc ls (st.map (xcV ad))) := by
  unfold xst2 at hs
  split at hs
  · rename_i v r
    split at hs
    · rename_i hg
      obtain ⟨g1, g2⟩ := Bool.and_eq_true _ _ |>.mp hg
      have g2 := of_decide_eq_true g2
      cases v <;> first | (cases g1; done) | (cases hs; exact lv_lstore_n hx hb hdg rfl hl g2 (xlc_s2 (ad := ad) _ (.long _)) (fun ls2 hl2 => xk0 kk hR hl2))
    · cases hs
  · cases hs

theorem xo_lstorew (hx : p.tables.exec = Jvm.exec) (hb : c.code = cc) {k : Nat} (hdg : decode cc pc = .ok (.lstore k, 2)) (hs : xst2 xisJ nL loc st h k = some (.inl (t, loc', st', h'))) (hR : xRel b0 D tyC ad h s H locs) (hl : lv_has ls nL (xlc ad loc)) (kk : xCont p l e R s m args below meth c Q nL b0 D tyC ad h cells slots (t.getD (pc + 2)) loc' st' h') : W p l e R s m args below meth c H locs cells slots Q (F0 m pc ls (st.map (xcV ad))) := by
  unfold xst2 at hs
  split at hs
  · rename_i v r
    split at hs
    · rename_i hg
      obtain ⟨g1, g2⟩ := Bool.and_eq_true _ _ |>.mp hg
      have g2 := of_decide_eq_true g2
      cases v <;> first | (cases g1; done) | (cases hs; exact lv_lstore hx hb hdg hl g2 (xlc_s2 (ad := ad) _ (.long _)) (fun ls2 hl2 => xk0 kk hR hl2))
    · cases hs
  · cases hs

theorem xo_astoren (hx : p.tables.exec = Jvm.exec) (hb : c.code = cc) {k : Fin 4} (hdg : decode cc pc = .ok (.astore_n k, 1)) (hs : xst1 xisA nL loc st h k = some (.inl (t, loc', st', h'))) (hR : xRel b0 D tyC ad h s H locs) (hl : lv_has ls nL (xlc ad loc)) (kk : xCont p l e R s m args below meth c Q nL b0 D tyC ad h cells slots (t.getD (pc + 1)) loc' st' h') : W p l e R s m args below meth c H locs cells slots Q (F0 m pc ls (st.map (xcV ad))) := by
  unfold xst1 at hs
  split at hs
  · rename_i v r
    split at hs
    · rename_i hg
      obtain ⟨g1, g2⟩ := Bool.and_eq_true _ _ |>.mp hg
      have g2 := of_decide_eq_true g2
      cases v <;> first | (cases g1; done) | (cases hs; exact lv_astore_n hx hb hdg rfl hl g2 (xlc_s1 (ad := ad) _ (.ref _)) (fun ls2 hl2 => xk0 kk hR hl2)) | (cases hs; exact lv_astore_nN hx hb hdg rfl hl g2 (xlc_s1 (ad := ad) _ .null) (fun ls2 hl2 => xk0 kk hR hl2))
    · cases hs
  · cases hs

theorem xo_astorew (hx : p.tables.exec = Jvm.exec) (hb : c.code = cc) {k : Nat} (hdg : decode cc pc = .ok (.astore k, 2)) (hs : xst1 xisA nL loc st h k = some (.inl (t, loc', st', h'))) (hR : xRel b0 D tyC ad h s H locs) (hl : lv_has ls nL (xlc ad loc)) (kk : xCont p l e R s m args below meth c Q nL b0 D tyC ad h cells slots (t.getD (pc + 2)) loc' st' h') : W p l e R s m args below meth c H locs cells slots Q (F0 m pc ls (st.map (xcV ad))) := by
  unfold xst1 at hs
  split at hs
  · rename_i v r
    split at hs
    · rename_i hg
      obtain ⟨g1, g2⟩ := Bool.and_eq_true _ _ |>.mp hg
      have g2 := of_decide_eq_true g2
      cases v <;> first | (cases g1; done) | (cases hs; exact lv_astore hx hb hdg hl g2 (xlc_s1 (ad := ad) _ (.ref _)) (fun ls2 hl2 => xk0 kk hR hl2)) | (cases hs; exact lv_astoreN hx hb hdg hl g2 (xlc_s1 (ad := ad) _ .null) (fun ls2 hl2 => xk0 kk hR hl2))
    · cases hs
  · cases hs

theorem xo_iinc (hx : p.tables.exec = Jvm.exec) (hb : c.code = cc) {i : Nat} {n : Int} (hdg : decode cc pc = .ok (.iinc i n, 3)) (hs : xinc nL loc st h i n = some (.inl (t, loc', st', h'))) (hR : xRel b0 D tyC ad h s H locs) (hl : lv_has ls nL (xlc ad loc)) (kk : xCont p l e R s m args below meth c Q nL b0 D tyC ad h cells slots (t.getD (pc + 3)) loc' st' h') : W p l e R s m args below meth c H locs cells slots Q (F0 m pc ls (st.map (xcV ad))) := by
  unfold xinc at hs
  split at hs
  · rename_i x hv
    split at hs
    · rename_i hg
      have hg := of_decide_eq_true hg
      cases hs
      unfold xget at hv
      obtain ⟨q, hq, hqv⟩ := Option.map_eq_some_iff.mp hv
      have h1 := List.mem_of_find?_eq_some hq
      have h2 : q.1 = i := by simpa using List.find?_some hq
      obtain ⟨k, hk⟩ := List.mem_iff_getElem?.mp (List.mem_map.mpr ⟨q, h1, rfl⟩ : ((fun q => (q.1, xcV ad q.2)) q) ∈ xlc ad loc)
      rw [show ((fun q : Nat × Value => (q.1, xcV ad q.2)) q) = (i, .int x) by rw [← h2]; show (q.1, xcV ad q.2) = _; rw [hqv]; rfl] at hk
      exact lv_iinc hx hb hdg hl hk rfl hg (xlc_s1 (ad := ad) _ (.int _)) (fun ls2 hl2 => xk0 kk hR hl2)
    · cases hs
  · cases hs

theorem xo_iadd (hx : p.tables.exec = Jvm.exec) (hb : c.code = cc) (hdg : decode cc pc = .ok (.iadd, 1)) (hs : xii (fun x y => x + y) loc st h = some (.inl (t, loc', st', h'))) (hR : xRel b0 D tyC ad h s H locs) (hl : lv_has ls nL (xlc ad loc)) (kk : xCont p l e R s m args below meth c Q nL b0 D tyC ad h cells slots (t.getD (pc + 1)) loc' st' h') : W p l e R s m args below meth c H locs cells slots Q (F0 m pc ls (st.map (xcV ad))) := by
  unfold xii at hs
  split at hs
  · cases hs
    exact lv_iadd hx hb hdg (xk0 kk hR hl)
  · cases hs

theorem xo_isub (hx : p.tables.exec = Jvm.exec) (hb : c.code = cc) (hdg : decode cc pc = .ok (.isub, 1)) (hs : xii (fun x y => x - y) loc st h = some (.inl (t, loc', st', h'))) (hR : xRel b0 D tyC ad h s H locs) (hl : lv_has ls nL (xlc ad loc)) (kk : xCont p l e R s m args below meth c Q nL b0 D tyC ad h cells slots (t.getD (pc + 1)) loc' st' h') : W p l e R s m args below meth c H locs cells slots Q (F0 m pc ls (st.map (xcV ad))) := by
  unfold xii at hs
  split at hs
  · cases hs
    exact lv_isub hx hb hdg (xk0 kk hR hl)
  · cases hs

theorem xo_imul (hx : p.tables.exec = Jvm.exec) (hb : c.code = cc) (hdg : decode cc pc = .ok (.imul, 1)) (hs : xii (fun x y => x * y) loc st h = some (.inl (t, loc', st', h'))) (hR : xRel b0 D tyC ad h s H locs) (hl : lv_has ls nL (xlc ad loc)) (kk : xCont p l e R s m args below meth c Q nL b0 D tyC ad h cells slots (t.getD (pc + 1)) loc' st' h') : W p l e R s m args below meth c H locs cells slots Q (F0 m pc ls (st.map (xcV ad))) := by
  unfold xii at hs
  split at hs
  · cases hs
    exact lv_imul hx hb hdg (xk0 kk hR hl)
  · cases hs

theorem xo_iand (hx : p.tables.exec = Jvm.exec) (hb : c.code = cc) (hdg : decode cc pc = .ok (.iand, 1)) (hs : xii (fun x y => x &&& y) loc st h = some (.inl (t, loc', st', h'))) (hR : xRel b0 D tyC ad h s H locs) (hl : lv_has ls nL (xlc ad loc)) (kk : xCont p l e R s m args below meth c Q nL b0 D tyC ad h cells slots (t.getD (pc + 1)) loc' st' h') : W p l e R s m args below meth c H locs cells slots Q (F0 m pc ls (st.map (xcV ad))) := by
  unfold xii at hs
  split at hs
  · cases hs
    exact lv_iand hx hb hdg (xk0 kk hR hl)
  · cases hs

theorem xo_ior (hx : p.tables.exec = Jvm.exec) (hb : c.code = cc) (hdg : decode cc pc = .ok (.ior, 1)) (hs : xii (fun x y => x ||| y) loc st h = some (.inl (t, loc', st', h'))) (hR : xRel b0 D tyC ad h s H locs) (hl : lv_has ls nL (xlc ad loc)) (kk : xCont p l e R s m args below meth c Q nL b0 D tyC ad h cells slots (t.getD (pc + 1)) loc' st' h') : W p l e R s m args below meth c H locs cells slots Q (F0 m pc ls (st.map (xcV ad))) := by
  unfold xii at hs
  split at hs
  · cases hs
    exact lv_ior hx hb hdg (xk0 kk hR hl)
  · cases hs

theorem xo_ixor (hx : p.tables.exec = Jvm.exec) (hb : c.code = cc) (hdg : decode cc pc = .ok (.ixor, 1)) (hs : xii (fun x y => x ^^^ y) loc st h = some (.inl (t, loc', st', h'))) (hR : xRel b0 D tyC ad h s H locs) (hl : lv_has ls nL (xlc ad loc)) (kk : xCont p l e R s m args below meth c Q nL b0 D tyC ad h cells slots (t.getD (pc + 1)) loc' st' h') : W p l e R s m args below meth c H locs cells slots Q (F0 m pc ls (st.map (xcV ad))) := by
  unfold xii at hs
  split at hs
  · cases hs
    exact lv_ixor hx hb hdg (xk0 kk hR hl)
  · cases hs

theorem xo_ishl (hx : p.tables.exec = Jvm.exec) (hb : c.code = cc) (hdg : decode cc pc = .ok (.ishl, 1)) (hs : xii (fun x y => x <<< (y &&& 31)) loc st h = some (.inl (t, loc', st', h'))) (hR : xRel b0 D tyC ad h s H locs) (hl : lv_has ls nL (xlc ad loc)) (kk : xCont p l e R s m args below meth c Q nL b0 D tyC ad h cells slots (t.getD (pc + 1)) loc' st' h') : W p l e R s m args below meth c H locs cells slots Q (F0 m pc ls (st.map (xcV ad))) := by
  unfold xii at hs
  split at hs
  · cases hs
    exact lv_ishl hx hb hdg (xk0 kk hR hl)
  · cases hs

theorem xo_ishr (hx : p.tables.exec = Jvm.exec) (hb : c.code = cc) (hdg : decode cc pc = .ok (.ishr, 1)) (hs : xii (fun x y => x >>> (y &&& 31)) loc st h = some (.inl (t, loc', st', h'))) (hR : xRel b0 D tyC ad h s H locs) (hl : lv_has ls nL (xlc ad loc)) (kk : xCont p l e R s m args below meth c Q nL b0 D tyC ad h cells slots (t.getD (pc + 1)) loc' st' h') : W p l e R s m args below meth c H locs cells slots Q (F0 m pc ls (st.map (xcV ad))) := by
  unfold xii at hs
  split at hs
  · cases hs
    exact lv_ishr hx hb hdg (xk0 kk hR hl)
  · cases hs

theorem xo_iushr (hx : p.tables.exec = Jvm.exec) (hb : c.code = cc) (hdg : decode cc pc = .ok (.iushr, 1)) (hs : xii (fun x y => (x.toUInt32 >>> (y.toUInt32 &&& Int32.toUInt32 31)).toInt32) loc st h = some (.inl (t, loc', st', h'))) (hR : xRel b0 D tyC ad h s H locs) (hl : lv_has ls nL (xlc ad loc)) (kk : xCont p l e R s m args below meth c Q nL b0 D tyC ad h cells slots (t.getD (pc + 1)) loc' st' h') : W p l e R s m args below meth c H locs cells slots Q (F0 m pc ls (st.map (xcV ad))) := by
  unfold xii at hs
  split at hs
  · cases hs
    exact lv_iushr hx hb hdg rfl (xk0 kk hR hl)
  · cases hs

theorem xo_idiv (hx : p.tables.exec = Jvm.exec) (hb : c.code = cc) (hdg : decode cc pc = .ok (.idiv, 1)) (hs : xiz (fun x y => x / y) loc st h = some (.inl (t, loc', st', h'))) (hR : xRel b0 D tyC ad h s H locs) (hl : lv_has ls nL (xlc ad loc)) (kk : xCont p l e R s m args below meth c Q nL b0 D tyC ad h cells slots (t.getD (pc + 1)) loc' st' h') : W p l e R s m args below meth c H locs cells slots Q (F0 m pc ls (st.map (xcV ad))) := by
  unfold xiz at hs
  split at hs
  · split at hs
    · cases hs
    · rename_i hg
      cases hs
      exact lv_idiv hx hb hdg (of_decide_eq_false hg) (xk0 kk hR hl)
  · cases hs

theorem xo_irem (hx : p.tables.exec = Jvm.exec) (hb : c.code = cc) (hdg : decode cc pc = .ok (.irem, 1)) (hs : xiz (fun x y => x - x / y * y) loc st h = some (.inl (t, loc', st', h'))) (hR : xRel b0 D tyC ad h s H locs) (hl : lv_has ls nL (xlc ad loc)) (kk : xCont p l e R s m args below meth c Q nL b0 D tyC ad h cells slots (t.getD (pc + 1)) loc' st' h') : W p l e R s m args below meth c H locs cells slots Q (F0 m pc ls (st.map (xcV ad))) := by
  unfold xiz at hs
  split at hs
  · split at hs
    · cases hs
    · rename_i hg
      cases hs
      exact lv_irem hx hb hdg (of_decide_eq_false hg) (xk0 kk hR hl)
  · cases hs

theorem xo_ineg (hx : p.tables.exec = Jvm.exec) (hb : c.code = cc) (hdg : decode cc pc = .ok (.ineg, 1)) (hs : xi1 (fun x => .int (-x)) loc st h = some (.inl (t, loc', st', h'))) (hR : xRel b0 D tyC ad h s H locs) (hl : lv_has ls nL (xlc ad loc)) (kk : xCont p l e R s m args below meth c Q nL b0 D tyC ad h cells slots (t.getD (pc + 1)) loc' st' h') : W p l e R s m args below meth c H locs cells slots Q (F0 m pc ls (st.map (xcV ad))) := by
  unfold xi1 at hs
  split at hs
  · cases hs
    exact lv_ineg hx hb hdg (xk0 kk hR hl)
  · cases hs

theorem xo_i2l (hx : p.tables.exec = Jvm.exec) (hb : c.code = cc) (hdg : decode cc pc = .ok (.i2l, 1)) (hs : xi1 (fun x => .long x.toInt64) loc st h = some (.inl (t, loc', st', h'))) (hR : xRel b0 D tyC ad h s H locs) (hl : lv_has ls nL (xlc ad loc)) (kk : xCont p l e R s m args below meth c Q nL b0 D tyC ad h cells slots (t.getD (pc + 1)) loc' st' h') : W p l e R s m args below meth c H locs cells slots Q (F0 m pc ls (st.map (xcV ad))) := by
  unfold xi1 at hs
  split at hs
  · cases hs
    exact lv_i2l hx hb hdg rfl (xk0 kk hR hl)
  · cases hs

theorem xo_i2b (hx : p.tables.exec = Jvm.exec) (hb : c.code = cc) (hdg : decode cc pc = .ok (.i2b, 1)) (hs : xi1 (fun x => .int x.toInt8.toInt32) loc st h = some (.inl (t, loc', st', h'))) (hR : xRel b0 D tyC ad h s H locs) (hl : lv_has ls nL (xlc ad loc)) (kk : xCont p l e R s m args below meth c Q nL b0 D tyC ad h cells slots (t.getD (pc + 1)) loc' st' h') : W p l e R s m args below meth c H locs cells slots Q (F0 m pc ls (st.map (xcV ad))) := by
  unfold xi1 at hs
  split at hs
  · cases hs
    exact lv_i2b hx hb hdg rfl (xk0 kk hR hl)
  · cases hs

theorem xo_i2c (hx : p.tables.exec = Jvm.exec) (hb : c.code = cc) (hdg : decode cc pc = .ok (.i2c, 1)) (hs : xi1 (fun x => .int (x.toUInt32 % 65536).toInt32) loc st h = some (.inl (t, loc', st', h'))) (hR : xRel b0 D tyC ad h s H locs) (hl : lv_has ls nL (xlc ad loc)) (kk : xCont p l e R s m args below meth c Q nL b0 D tyC ad h cells slots (t.getD (pc + 1)) loc' st' h') : W p l e R s m args below meth c H locs cells slots Q (F0 m pc ls (st.map (xcV ad))) := by
  unfold xi1 at hs
  split at hs
  · cases hs
    exact lv_i2c hx hb hdg rfl (xk0 kk hR hl)
  · cases hs

theorem xo_i2f (hx : p.tables.exec = Jvm.exec) (hb : c.code = cc) (hdg : decode cc pc = .ok (.i2f, 1)) (hs : xi1 (fun x => .float (FP.i2f x)) loc st h = some (.inl (t, loc', st', h'))) (hR : xRel b0 D tyC ad h s H locs) (hl : lv_has ls nL (xlc ad loc)) (kk : xCont p l e R s m args below meth c Q nL b0 D tyC ad h cells slots (t.getD (pc + 1)) loc' st' h') : W p l e R s m args below meth c H locs cells slots Q (F0 m pc ls (st.map (xcV ad))) := by
  unfold xi1 at hs
  split at hs
  · cases hs
    exact lv_i2f hx hb hdg (xk0 kk hR hl)
  · cases hs

theorem xo_i2d (hx : p.tables.exec = Jvm.exec) (hb : c.code = cc) (hdg : decode cc pc = .ok (.i2d, 1)) (hs : xi1 (fun x => .double (FP.i2d x)) loc st h = some (.inl (t, loc', st', h'))) (hR : xRel b0 D tyC ad h s H locs) (hl : lv_has ls nL (xlc ad loc)) (kk : xCont p l e R s m args below meth c Q nL b0 D tyC ad h cells slots (t.getD (pc + 1)) loc' st' h') : W p l e R s m args below meth c H locs cells slots Q (F0 m pc ls (st.map (xcV ad))) := by
  unfold xi1 at hs
  split at hs
  · cases hs
    exact lv_i2d hx hb hdg (xk0 kk hR hl)
  · cases hs

theorem xo_ladd (hx : p.tables.exec = Jvm.exec) (hb : c.code = cc) (hdg : decode cc pc = .ok (.ladd, 1)) (hs : xjj (fun x y => .long (x + y)) loc st h = some (.inl (t, loc', st', h'))) (hR : xRel b0 D tyC ad h s H locs) (hl : lv_has ls nL (xlc ad loc)) (kk : xCont p l e R s m args below meth c Q nL b0 D tyC ad h cells slots (t.getD (pc + 1)) loc' st' h') : W p l e R s m args below meth c H locs cells slots Q (F0 m pc ls (st.map (xcV ad))) := by
  unfold xjj at hs
  split at hs
  · cases hs
    exact lv_ladd hx hb hdg (xk0 kk hR hl)
  · cases hs

theorem xo_lmul (hx : p.tables.exec = Jvm.exec) (hb : c.code = cc) (hdg : decode cc pc = .ok (.lmul, 1)) (hs : xjj (fun x y => .long (x * y)) loc st h = some (.inl (t, loc', st', h'))) (hR : xRel b0 D tyC ad h s H locs) (hl : lv_has ls nL (xlc ad loc)) (kk : xCont p l e R s m args below meth c Q nL b0 D tyC ad h cells slots (t.getD (pc + 1)) loc' st' h') : W p l e R s m args below meth c H locs cells slots Q (F0 m pc ls (st.map (xcV ad))) := by
  unfold xjj at hs
  split at hs
  · cases hs
    exact lv_lmul hx hb hdg (xk0 kk hR hl)
  · cases hs

theorem xo_lcmp (hx : p.tables.exec = Jvm.exec) (hb : c.code = cc) (hdg : decode cc pc = .ok (.lcmp, 1)) (hs : xjj (fun x y => .int (lg_cmp x y)) loc st h = some (.inl (t, loc', st', h'))) (hR : xRel b0 D tyC ad h s H locs) (hl : lv_has ls nL (xlc ad loc)) (kk : xCont p l e R s m args below meth c Q nL b0 D tyC ad h cells slots (t.getD (pc + 1)) loc' st' h') : W p l e R s m args below meth c H locs cells slots Q (F0 m pc ls (st.map (xcV ad))) := by
  unfold xjj at hs
  split at hs
  · cases hs
    exact W.lcmp hx hb hdg (xk0 kk hR hl)
  · cases hs

theorem xo_fdiv (hx : p.tables.exec = Jvm.exec) (hb : c.code = cc) (hdg : decode cc pc = .ok (.fdiv, 1)) (hs : xf2 xfdiv loc st h = some (.inl (t, loc', st', h'))) (hR : xRel b0 D tyC ad h s H locs) (hl : lv_has ls nL (xlc ad loc)) (kk : xCont p l e R s m args below meth c Q nL b0 D tyC ad h cells slots (t.getD (pc + 1)) loc' st' h') : W p l e R s m args below meth c H locs cells slots Q (F0 m pc ls (st.map (xcV ad))) := by
  unfold xf2 at hs
  split at hs
  · split at hs
    · rename_i u hu
      unfold xfdiv at hu
      split at hu
      · split at hu
        · rename_i hg
          cases hu
          cases hs
          have hg := of_decide_eq_true hg
          exact lv_fdiv hx hb hdg hg (xk0 kk hR hl)
        · cases hu
      · cases hu
    · cases hs
  · cases hs
theorem xo_ddiv (hx : p.tables.exec = Jvm.exec) (hb : c.code = cc) (hdg : decode cc pc = .ok (.ddiv, 1)) (hs : xf2 xddiv loc st h = some (.inl (t, loc', st', h'))) (hR : xRel b0 D tyC ad h s H locs) (hl : lv_has ls nL (xlc ad loc)) (kk : xCont p l e R s m args below meth c Q nL b0 D tyC ad h cells slots (t.getD (pc + 1)) loc' st' h') : W p l e R s m args below meth c H locs cells slots Q (F0 m pc ls (st.map (xcV ad))) := by
  unfold xf2 at hs
  split at hs
  · split at hs
    · rename_i u hu
      unfold xddiv at hu
      split at hu
      · split at hu
        · rename_i hg
          cases hu
          cases hs
          have hg := of_decide_eq_true hg
          exact lv_ddiv hx hb hdg hg (xk0 kk hR hl)
        · cases hu
      · cases hu
    · cases hs
  · cases hs
theorem xo_fcmp (hx : p.tables.exec = Jvm.exec) (hb : c.code = cc) {op : ClassFile.CmpOp} (hdg : decode cc pc = .ok (.fcmp op, 1)) (hs : xf2 (xfcmp op) loc st h = some (.inl (t, loc', st', h'))) (hR : xRel b0 D tyC ad h s H locs) (hl : lv_has ls nL (xlc ad loc)) (kk : xCont p l e R s m args below meth c Q nL b0 D tyC ad h cells slots (t.getD (pc + 1)) loc' st' h') : W p l e R s m args below meth c H locs cells slots Q (F0 m pc ls (st.map (xcV ad))) := by
  unfold xf2 at hs
  split at hs
  · split at hs
    · rename_i u hu
      unfold xfcmp at hu
      split at hu
      · cases hu
        cases hs
        exact lv_fcmp hx hb hdg (xk0 kk hR hl)
      · cases hu
    · cases hs
  · cases hs
theorem xo_dcmp (hx : p.tables.exec = Jvm.exec) (hb : c.code = cc) {op : ClassFile.CmpOp} (hdg : decode cc pc = .ok (.dcmp op, 1)) (hs : xf2 (xdcmp op) loc st h = some (.inl (t, loc', st', h'))) (hR : xRel b0 D tyC ad h s H locs) (hl : lv_has ls nL (xlc ad loc)) (kk : xCont p l e R s m args below meth c Q nL b0 D tyC ad h cells slots (t.getD (pc + 1)) loc' st' h') : W p l e R s m args below meth c H locs cells slots Q (F0 m pc ls (st.map (xcV ad))) := by
  unfold xf2 at hs
  split at hs
  · split at hs
    · rename_i u hu
      unfold xdcmp at hu
      split at hu
      · cases hu
        cases hs
        exact lv_dcmp hx hb hdg (xk0 kk hR hl)
      · cases hu
    · cases hs
  · cases hs
theorem xo_dup (hx : p.tables.exec = Jvm.exec) (hb : c.code = cc) (hdg : decode cc pc = .ok (.dup, 1)) (hs : xcat1 loc st h (fun v r => v :: v :: r) = some (.inl (t, loc', st', h'))) (hR : xRel b0 D tyC ad h s H locs) (hl : lv_has ls nL (xlc ad loc)) (kk : xCont p l e R s m args below meth c Q nL b0 D tyC ad h cells slots (t.getD (pc + 1)) loc' st' h') : W p l e R s m args below meth c H locs cells slots Q (F0 m pc ls (st.map (xcV ad))) := by
  unfold xcat1 at hs
  split at hs
  · split at hs
    · rename_i hg
      cases hs
      exact lv_dup hx hb hdg (by rw [xcV_cat]; exact of_decide_eq_true hg) (xk0 kk hR hl)
    · cases hs
  · cases hs
theorem xo_pop (hx : p.tables.exec = Jvm.exec) (hb : c.code = cc) (hdg : decode cc pc = .ok (.pop, 1)) (hs : xcat1 loc st h (fun _ r => r) = some (.inl (t, loc', st', h'))) (hR : xRel b0 D tyC ad h s H locs) (hl : lv_has ls nL (xlc ad loc)) (kk : xCont p l e R s m args below meth c Q nL b0 D tyC ad h cells slots (t.getD (pc + 1)) loc' st' h') : W p l e R s m args below meth c H locs cells slots Q (F0 m pc ls (st.map (xcV ad))) := by
  unfold xcat1 at hs
  split at hs
  · split at hs
    · rename_i hg
      cases hs
      exact lv_pop hx hb hdg (by rw [xcV_cat]; exact of_decide_eq_true hg) (xk0 kk hR hl)
    · cases hs
  · cases hs
theorem xo_dup_x1 (hx : p.tables.exec = Jvm.exec) (hb : c.code = cc) (hdg : decode cc pc = .ok (.dup_x1, 1)) (hs : xdx1 loc st h = some (.inl (t, loc', st', h'))) (hR : xRel b0 D tyC ad h s H locs) (hl : lv_has ls nL (xlc ad loc)) (kk : xCont p l e R s m args below meth c Q nL b0 D tyC ad h cells slots (t.getD (pc + 1)) loc' st' h') : W p l e R s m args below meth c H locs cells slots Q (F0 m pc ls (st.map (xcV ad))) := by
  unfold xdx1 at hs
  split at hs
  · split at hs
    · rename_i hg
      obtain ⟨g1, g2⟩ := Bool.and_eq_true _ _ |>.mp hg
      cases hs
      exact lv_dup_x1 hx hb hdg (by rw [xcV_cat]; exact of_decide_eq_true g1) (by rw [xcV_cat]; exact of_decide_eq_true g2) (xk0 kk hR hl)
    · cases hs
  · cases hs
theorem xo_goto (hx : p.tables.exec = Jvm.exec) (hb : c.code = cc) {off : Int} (hdg : decode cc pc = .ok (.goto off, 3)) (hs : xjp (xtgt pc off) loc st h = some (.inl (t, loc', st', h'))) (hR : xRel b0 D tyC ad h s H locs) (hl : lv_has ls nL (xlc ad loc)) (kk : xCont p l e R s m args below meth c Q nL b0 D tyC ad h cells slots (t.getD (pc + 3)) loc' st' h') : W p l e R s m args below meth c H locs cells slots Q (F0 m pc ls (st.map (xcV ad))) := by
  unfold xjp at hs
  split at hs
  · rename_i t2 ht
    cases hs
    exact lv_goto hx hb hdg (xtgt_eq ht) (xk0 kk hR hl)
  · cases hs

theorem xo_if1_eq (hx : p.tables.exec = Jvm.exec) (hb : c.code = cc) {off : Int} (hoff : 0 ≤ (pc : Int) + off) (hdg : decode cc pc = .ok (.ifCond .eq off, 3)) (hs : xif1 .eq pc off loc st h = some (.inl (t, loc', st', h'))) (hR : xRel b0 D tyC ad h s H locs) (hl : lv_has ls nL (xlc ad loc)) (kk : xCont p l e R s m args below meth c Q nL b0 D tyC ad h cells slots (t.getD (pc + 3)) loc' st' h') : W p l e R s m args below meth c H locs cells slots Q (F0 m pc ls (st.map (xcV ad))) := by
  unfold xif1 at hs
  split at hs
  · rename_i x r
    have ht : (pc : Int) + off = ((((pc : Int) + off).toNat : Nat) : Int) := by omega
    refine lv_if_eq hx hb hdg ht (fun q => ?_) (fun q => ?_)
    · have e : xic .eq x 0 = true := decide_eq_true q
      rw [e] at hs
      unfold xbr xjp xtgt at hs
      rw [if_pos hoff] at hs
      cases hs
      exact xk0 kk hR hl
    · have e : xic .eq x 0 = false := decide_eq_false q
      rw [e] at hs
      cases hs
      exact xk0 kk hR hl
  · cases hs

theorem xo_if2_eq (hx : p.tables.exec = Jvm.exec) (hb : c.code = cc) {off : Int} (hoff : 0 ≤ (pc : Int) + off) (hdg : decode cc pc = .ok (.if_icmp .eq off, 3)) (hs : xif2 .eq pc off loc st h = some (.inl (t, loc', st', h'))) (hR : xRel b0 D tyC ad h s H locs) (hl : lv_has ls nL (xlc ad loc)) (kk : xCont p l e R s m args below meth c Q nL b0 D tyC ad h cells slots (t.getD (pc + 3)) loc' st' h') : W p l e R s m args below meth c H locs cells slots Q (F0 m pc ls (st.map (xcV ad))) := by
  unfold xif2 at hs
  split at hs
  · rename_i y x r
    have ht : (pc : Int) + off = ((((pc : Int) + off).toNat : Nat) : Int) := by omega
    refine lv_icmp_eq hx hb hdg ht (fun q => ?_) (fun q => ?_)
    · have e : xic .eq x y = true := decide_eq_true q
      rw [e] at hs
      unfold xbr xjp xtgt at hs
      rw [if_pos hoff] at hs
      cases hs
      exact xk0 kk hR hl
    · have e : xic .eq x y = false := decide_eq_false q
      rw [e] at hs
      cases hs
      exact xk0 kk hR hl
  · cases hs

theorem xo_if1_ne (hx : p.tables.exec = Jvm.exec) (hb : c.code = cc) {off : Int} (hoff : 0 ≤ (pc : Int) + off) (hdg : decode cc pc = .ok (.ifCond .ne off, 3)) (hs : xif1 .ne pc off loc st h = some (.inl (t, loc', st', h'))) (hR : xRel b0 D tyC ad h s H locs) (hl : lv_has ls nL (xlc ad loc)) (kk : xCont p l e R s m args below meth c Q nL b0 D tyC ad h cells slots (t.getD (pc + 3)) loc' st' h') : W p l e R s m args below meth c H locs cells slots Q (F0 m pc ls (st.map (xcV ad))) := by
  unfold xif1 at hs
  split at hs
  · rename_i x r
    have ht : (pc : Int) + off = ((((pc : Int) + off).toNat : Nat) : Int) := by omega
    refine lv_if_ne hx hb hdg ht (fun q => ?_) (fun q => ?_)
    · have e : xic .ne x 0 = true := by show (!decide (x = 0)) = true; rw [decide_eq_false q]; rfl
      rw [e] at hs
      unfold xbr xjp xtgt at hs
      rw [if_pos hoff] at hs
      cases hs
      exact xk0 kk hR hl
    · have e : xic .ne x 0 = false := by show (!decide (x = 0)) = false; rw [decide_eq_true q]; rfl
      rw [e] at hs
      cases hs
      exact xk0 kk hR hl
  · cases hs

theorem xo_if2_ne (hx : p.tables.exec = Jvm.exec) (hb : c.code = cc) {off : Int} (hoff : 0 ≤ (pc : Int) + off) (hdg : decode cc pc = .ok (.if_icmp .ne off, 3)) (hs : xif2 .ne pc off loc st h = some (.inl (t, loc', st', h'))) (hR : xRel b0 D tyC ad h s H locs) (hl : lv_has ls nL (xlc ad loc)) (kk : xCont p l e R s m args below meth c Q nL b0 D tyC ad h cells slots (t.getD (pc + 3)) loc' st' h') : W p l e R s m args below meth c H locs cells slots Q (F0 m pc ls (st.map (xcV ad))) := by
  unfold xif2 at hs
  split at hs
  · rename_i y x r
    have ht : (pc : Int) + off = ((((pc : Int) + off).toNat : Nat) : Int) := by omega
    refine lv_icmp_ne hx hb hdg ht (fun q => ?_) (fun q => ?_)
    · have e : xic .ne x y = true := by show (!decide (x = y)) = true; rw [decide_eq_false q]; rfl
      rw [e] at hs
      unfold xbr xjp xtgt at hs
      rw [if_pos hoff] at hs
      cases hs
      exact xk0 kk hR hl
    · have e : xic .ne x y = false := by show (!decide (x = y)) = false; rw [decide_eq_true q]; rfl
      rw [e] at hs
      cases hs
      exact xk0 kk hR hl
  · cases hs

theorem xo_if1_lt (hx : p.tables.exec = Jvm.exec) (hb : c.code = cc) {off : Int} (hoff : 0 ≤ (pc : Int) + off) (hdg : decode cc pc = .ok (.ifCond .lt off, 3)) (hs : xif1 .lt pc off loc st h = some (.inl (t, loc', st', h'))) (hR : xRel b0 D tyC ad h s H locs) (hl : lv_has ls nL (xlc ad loc)) (kk : xCont p l e R s m args below meth c Q nL b0 D tyC ad h cells slots (t.getD (pc + 3)) loc' st' h') : W p l e R s m args below meth c H locs cells slots Q (F0 m pc ls (st.map (xcV ad))) := by
  unfold xif1 at hs
  split at hs
  · rename_i x r
    have ht : (pc : Int) + off = ((((pc : Int) + off).toNat : Nat) : Int) := by omega
    refine lv_if_lt hx hb hdg ht (fun q => ?_) (fun q => ?_)
    · have e : xic .lt x 0 = true := decide_eq_true q
      rw [e] at hs
      unfold xbr xjp xtgt at hs
      rw [if_pos hoff] at hs
      cases hs
      exact xk0 kk hR hl
    · have e : xic .lt x 0 = false := decide_eq_false q
      rw [e] at hs
      cases hs
      exact xk0 kk hR hl
  · cases hs

theorem xo_if2_lt (hx : p.tables.exec = Jvm.exec) (hb : c.code = cc) {off : Int} (hoff : 0 ≤ (pc : Int) + off) (hdg : decode cc pc = .ok (.if_icmp .lt off, 3)) (hs : xif2 .lt pc off loc st h = some (.inl (t, loc', st', h'))) (hR : xRel b0 D tyC ad h s H locs) (hl : lv_has ls nL (xlc ad loc)) (kk : xCont p l e R s m args below meth c Q nL b0 D tyC ad h cells slots (t.getD (pc + 3)) loc' st' h') : W p l e R s m args below meth c H locs cells slots Q (F0 m pc ls (st.map (xcV ad))) := by
  unfold xif2 at hs
  split at hs
  · rename_i y x r
    have ht : (pc : Int) + off = ((((pc : Int) + off).toNat : Nat) : Int) := by omega
    refine lv_icmp_lt hx hb hdg ht (fun q => ?_) (fun q => ?_)
    · have e : xic .lt x y = true := decide_eq_true q
      rw [e] at hs
      unfold xbr xjp xtgt at hs
      rw [if_pos hoff] at hs
      cases hs
      exact xk0 kk hR hl
    · have e : xic .lt x y = false := decide_eq_false q
      rw [e] at hs
      cases hs
      exact xk0 kk hR hl
  · cases hs

theorem xo_if1_ge (hx : p.tables.exec = Jvm.exec) (hb : c.code = cc) {off : Int} (hoff : 0 ≤ (pc : Int) + off) (hdg : decode cc pc = .ok (.ifCond .ge off, 3)) (hs : xif1 .ge pc off loc st h = some (.inl (t, loc', st', h'))) (hR : xRel b0 D tyC ad h s H locs) (hl : lv_has ls nL (xlc ad loc)) (kk : xCont p l e R s m args below meth c Q nL b0 D tyC ad h cells slots (t.getD (pc + 3)) loc' st' h') : W p l e R s m args below meth c H locs cells slots Q (F0 m pc ls (st.map (xcV ad))) := by
  unfold xif1 at hs
  split at hs
  · rename_i x r
    have ht : (pc : Int) + off = ((((pc : Int) + off).toNat : Nat) : Int) := by omega
    refine lv_if_ge hx hb hdg ht (fun q => ?_) (fun q => ?_)
    · have e : xic .ge x 0 = true := decide_eq_true q
      rw [e] at hs
      unfold xbr xjp xtgt at hs
      rw [if_pos hoff] at hs
      cases hs
      exact xk0 kk hR hl
    · have e : xic .ge x 0 = false := decide_eq_false q
      rw [e] at hs
      cases hs
      exact xk0 kk hR hl
  · cases hs

theorem xo_if2_ge (hx : p.tables.exec = Jvm.exec) (hb : c.code = cc) {off : Int} (hoff : 0 ≤ (pc : Int) + off) (hdg : decode cc pc = .ok (.if_icmp .ge off, 3)) (hs : xif2 .ge pc off loc st h = some (.inl (t, loc', st', h'))) (hR : xRel b0 D tyC ad h s H locs) (hl : lv_has ls nL (xlc ad loc)) (kk : xCont p l e R s m args below meth c Q nL b0 D tyC ad h cells slots (t.getD (pc + 3)) loc' st' h') : W p l e R s m args below meth c H locs cells slots Q (F0 m pc ls (st.map (xcV ad))) := by
  unfold xif2 at hs
  split at hs
  · rename_i y x r
    have ht : (pc : Int) + off = ((((pc : Int) + off).toNat : Nat) : Int) := by omega
    refine lv_icmp_ge hx hb hdg ht (fun q => ?_) (fun q => ?_)
    · have e : xic .ge x y = true := decide_eq_true q
      rw [e] at hs
      unfold xbr xjp xtgt at hs
      rw [if_pos hoff] at hs
      cases hs
      exact xk0 kk hR hl
    · have e : xic .ge x y = false := decide_eq_false q
      rw [e] at hs
      cases hs
      exact xk0 kk hR hl
  · cases hs

theorem xo_if1_gt (hx : p.tables.exec = Jvm.exec) (hb : c.code = cc) {off : Int} (hoff : 0 ≤ (pc : Int) + off) (hdg : decode cc pc = .ok (.ifCond .gt off, 3)) (hs : xif1 .gt pc off loc st h = some (.inl (t, loc', st', h'))) (hR : xRel b0 D tyC ad h s H locs) (hl : lv_has ls nL (xlc ad loc)) (kk : xCont p l e R s m args below meth c Q nL b0 D tyC ad h cells slots (t.getD (pc + 3)) loc' st' h') : W p l e R s m args below meth c H locs cells slots Q (F0 m pc ls (st.map (xcV ad))) := by
  unfold xif1 at hs
  split at hs
  · rename_i x r
    have ht : (pc : Int) + off = ((((pc : Int) + off).toNat : Nat) : Int) := by omega
    refine lv_if_gt hx hb hdg ht (fun q => ?_) (fun q => ?_)
    · have e : xic .gt x 0 = true := decide_eq_true q
      rw [e] at hs
      unfold xbr xjp xtgt at hs
      rw [if_pos hoff] at hs
      cases hs
      exact xk0 kk hR hl
    · have e : xic .gt x 0 = false := decide_eq_false q
      rw [e] at hs
      cases hs
      exact xk0 kk hR hl
  · cases hs

theorem xo_if2_gt (hx : p.tables.exec = Jvm.exec) (hb : c.code = cc) {off : Int} (hoff : 0 ≤ (pc : Int) + off) (hdg : decode cc pc = .ok (.if_icmp .gt off, 3)) (hs : xif2 .gt pc off loc st h = some (.inl (t, loc', st', h'))) (hR : xRel b0 D tyC ad h s H locs) (hl : lv_has ls nL (xlc ad loc)) (kk : xCont p l e R s m args below meth c Q nL b0 D tyC ad h cells slots (t.getD (pc + 3)) loc' st' h') : W p l e R s m args below meth c H locs cells slots Q (F0 m pc ls (st.map (xcV ad))) := by
  unfold xif2 at hs
  split at hs
  · rename_i y x r
    have ht : (pc : Int) + off = ((((pc : Int) + off).toNat : Nat) : Int) := by omega
    refine lv_icmp_gt hx hb hdg ht (fun q => ?_) (fun q => ?_)
    · have e : xic .gt x y = true := decide_eq_true q
      rw [e] at hs
      unfold xbr xjp xtgt at hs
      rw [if_pos hoff] at hs
      cases hs
      exact xk0 kk hR hl
    · have e : xic .gt x y = false := decide_eq_false q
      rw [e] at hs
      cases hs
      exact xk0 kk hR hl
  · cases hs

theorem xo_if1_le (hx : p.tables.exec = Jvm.exec) (hb : c.code = cc) {off : Int} (hoff : 0 ≤ (pc : Int) + off) (hdg : decode cc pc = .ok (.ifCond .le off, 3)) (hs : xif1 .le pc off loc st h = some (.inl (t, loc', st', h'))) (hR : xRel b0 D tyC ad h s H locs) (hl : lv_has ls nL (xlc ad loc)) (kk : xCont p l e R s m args below meth c Q nL b0 D tyC ad h cells slots (t.getD (pc + 3)) loc' st' h') : W p l e R s m args below meth c H locs cells slots Q (F0 m pc ls (st.map (xcV ad))) := by
  unfold xif1 at hs
  split at hs
  · rename_i x r
    have ht : (pc : Int) + off = ((((pc : Int) + off).toNat : Nat) : Int) := by omega
    refine lv_if_le hx hb hdg ht (fun q => ?_) (fun q => ?_)
    · have e : xic .le x 0 = true := decide_eq_true q
      rw [e] at hs
      unfold xbr xjp xtgt at hs
      rw [if_pos hoff] at hs
      cases hs
      exact xk0 kk hR hl
    · have e : xic .le x 0 = false := decide_eq_false q
      rw [e] at hs
      cases hs
      exact xk0 kk hR hl
  · cases hs

theorem xo_if2_le (hx : p.tables.exec = Jvm.exec) (hb : c.code = cc) {off : Int} (hoff : 0 ≤ (pc : Int) + off) (hdg : decode cc pc = .ok (.if_icmp .le off, 3)) (hs : xif2 .le pc off loc st h = some (.inl (t, loc', st', h'))) (hR : xRel b0 D tyC ad h s H locs) (hl : lv_has ls nL (xlc ad loc)) (kk : xCont p l e R s m args below meth c Q nL b0 D tyC ad h cells slots (t.getD (pc + 3)) loc' st' h') : W p l e R s m args below meth c H locs cells slots Q (F0 m pc ls (st.map (xcV ad))) := by
  unfold xif2 at hs
  split at hs
  · rename_i y x r
    have ht : (pc : Int) + off = ((((pc : Int) + off).toNat : Nat) : Int) := by omega
    refine lv_icmp_le hx hb hdg ht (fun q => ?_) (fun q => ?_)
    · have e : xic .le x y = true := decide_eq_true q
      rw [e] at hs
      unfold xbr xjp xtgt at hs
      rw [if_pos hoff] at hs
      cases hs
      exact xk0 kk hR hl
    · have e : xic .le x y = false := decide_eq_false q
      rw [e] at hs
      cases hs
      exact xk0 kk hR hl
  · cases hs

theorem xo_ifnonnull (hx : p.tables.exec = Jvm.exec) (hb : c.code = cc) {off : Int} (hdg : decode cc pc = .ok (.ifnonnull off, 3)) (hs : xifn true pc off loc st h = some (.inl (t, loc', st', h'))) (hR : xRel b0 D tyC ad h s H locs) (hl : lv_has ls nL (xlc ad loc)) (kk : xCont p l e R s m args below meth c Q nL b0 D tyC ad h cells slots (t.getD (pc + 3)) loc' st' h') : W p l e R s m args below meth c H locs cells slots Q (F0 m pc ls (st.map (xcV ad))) := by
  unfold xifn at hs
  split at hs
  · unfold xbr xjp at hs
    split at hs
    · rename_i hq
      split at hs
      · rename_i t2 ht
        cases hs
        exact lv_ifnonnull hx hb hdg (xtgt_eq ht) (xk0 kk hR hl)
      · cases hs
    · rename_i hq
      cases hq
  · cases hs
    exact lv_ifnonnullN hx hb hdg (xk0 kk hR hl)
  · cases hs
theorem xo_ifnull (hx : p.tables.exec = Jvm.exec) (hb : c.code = cc) {off : Int} (hdg : decode cc pc = .ok (.ifnull off, 3)) (hs : xifn false pc off loc st h = some (.inl (t, loc', st', h'))) (hR : xRel b0 D tyC ad h s H locs) (hl : lv_has ls nL (xlc ad loc)) (kk : xCont p l e R s m args below meth c Q nL b0 D tyC ad h cells slots (t.getD (pc + 3)) loc' st' h') : W p l e R s m args below meth c H locs cells slots Q (F0 m pc ls (st.map (xcV ad))) := by
  unfold xifn at hs
  split at hs
  · cases hs
    exact lv_ifnull hx hb hdg (xk0 kk hR hl)
  · unfold xbr xjp at hs
    split at hs
    · rename_i hq
      split at hs
      · rename_i t2 ht
        cases hs
        exact lv_ifnullN hx hb hdg (xtgt_eq ht) (xk0 kk hR hl)
      · cases hs
    · rename_i hq
      cases hq
  · cases hs
theorem xo_sw (hx : p.tables.exec = Jvm.exec) (hb : c.code = cc) {d lo hi : Int} {offs : Array Int} {ln : Nat} (hdg : decode cc pc = .ok (.tableswitch d lo hi offs, ln)) (hs : xsw pc d lo hi offs loc st h = some (.inl (t, loc', st', h'))) (hR : xRel b0 D tyC ad h s H locs) (hl : lv_has ls nL (xlc ad loc)) (kk : xCont p l e R s m args below meth c Q nL b0 D tyC ad h cells slots (t.getD (pc + ln)) loc' st' h') : W p l e R s m args below meth c H locs cells slots Q (F0 m pc ls (st.map (xcV ad))) := by
  unfold xsw at hs
  split at hs
  · split at hs
    · rename_i hg
      unfold xjp at hs
      split at hs
      · rename_i t2 ht
        cases hs
        refine lv_tableOut hx hb hdg ?_ (xtgt_eq ht) (xk0 kk hR hl)
        simpa using hg
      · cases hs
    · rename_i hg
      split at hs
      · rename_i o2 ho
        unfold xjp at hs
        split at hs
        · rename_i t2 ht
          cases hs
          have hg2 := Bool.or_eq_false_iff.mp hg
          exact lv_tableIn hx hb hdg (of_decide_eq_false hg2.1) (of_decide_eq_false hg2.2) ho (xtgt_eq ht) (xk0 kk hR hl)
        · cases hs
      · cases hs
  · cases hs

variable {xs : List Int32} {z : Value} {own : String}
theorem xcell_h {a : Nat} {q : Nat × List Value} (hc : xcell K h a = some q) (ha : a < 1000000) : h[a]? = some q := by
  unfold xcell at hc
  rw [decide_eq_true ha] at hc
  exact hc
theorem xcell_k {a : Nat} {q : Nat × List Value} (hc : xcell K h a = some q) (ha : ¬ a < 1000000) : K[a - 1000000]? = some q ∧ 1000000 + (a - 1000000) = a := by
  unfold xcell at hc
  rw [decide_eq_false ha] at hc
  exact ⟨hc, by omega⟩
theorem xputf_spec {ty : FieldType} {ci k : Nat} {o : xO} (hs : xputf ty ci k loc st h = some o) : ∃ v a r vs, st = v :: .ref a :: r ∧ h[a]? = some (ci, vs) ∧ k < vs.length ∧ xfit ty v = true ∧ o = .inl (none, loc, r, h.set a (ci, vs.set k v)) := by
  unfold xputf at hs
  split at hs
  · split at hs
    · split at hs
      · rename_i c0 vs hc
        split at hs
        · rename_i hg
          simp only [Bool.and_eq_true, decide_eq_true_eq] at hg
          obtain ⟨rfl, hlen, hft⟩ := hg
          cases hs
          exact ⟨_, _, _, vs, rfl, hc, hlen, hft, rfl⟩
        · cases hs
      · cases hs
    · cases hs
  · cases hs
theorem xo_getfield (hx : p.tables.exec = Jvm.exec) (hb : c.code = cc) (hown : s.vm.findClass own = some m.cls) (hE : xEnv xs z b0 D tyC ad s) {i ci k : Nat} {aux : List Nat} (hk : xbfld own i (ci :: k :: aux) = true) (hdg : decode cc pc = .ok (.getfield i, 3)) (hs : xgetf (xK xs) ci k loc st h = some (.inl (t, loc', st', h'))) (hR : xRel b0 D tyC ad h s H locs) (hl : lv_has ls nL (xlc ad loc)) (kk : xCont p l e R s m args below meth c Q nL b0 D tyC ad h cells slots (t.getD (pc + 3)) loc' st' h') : W p l e R s m args below meth c H locs cells slots Q (F0 m pc ls (st.map (xcV ad))) := by
  unfold xgetf at hs
  split at hs
  · rename_i a r
    split at hs
    · rename_i c0 vs hc
      split at hs
      · rename_i hci
        have hci := of_decide_eq_true hci
        subst hci
        split at hs
        · rename_i v hv
          split at hs
          · rename_i hkn
            cases hs
            have key := xk0 kk hR hl
            have hvm : (vs.map (xcV ad))[k]? = some (xcV ad v) := by rw [List.getElem?_map, hv]; rfl
            by_cases ha : a < 1000000
            · have hc := xcell_h hc ha
              rcases xbfld_spec hk with ⟨rfl, -⟩ | ⟨I, C, T, N, hcl, hkN, hw, -⟩
              · obtain ⟨q, hq, -⟩ := hR.1 a _ hc (by show (45 : Nat) ≠ 40; decide)
                exact absurd hq (by show ¬ vwCl[45]? = some q; simp)
              · have hlt := xcls_lt hcl
                obtain ⟨k0, hk0⟩ := xcw_at (ad := ad) (tyC := tyC) hc (by show c0 ≠ 40; omega)
                have hk1 : (xcw ad tyC h)[k0]? = some (ad a, .inr (c0, vs.map (xcV ad))) := by rw [hk0]; unfold xcE; rw [if_pos (show c0 < 50 by omega)]
                exact va_get (Ts := u_ws C T N) (ref := (T k).1) hx hb (xcls_w hE hcl args) (fun _ h => h) hown hE.2.1 (xcw_P hR.1) k0 hk1 hcl k hkN (xenv_w hE hw args) (fun _ h => h) hvm hdg key
            · obtain ⟨hc, haq⟩ := xcell_k hc ha
              have hcK := hE.2.2.2.1 _ _ _ hc
              rcases xbfld_spec hk with ⟨rfl, I, o, n, d, hf, hw⟩ | ⟨I, C, T, N, hcl, hkN, hw, h2⟩
              · have h1 := hcK.1 k o n d v hf hv hkn
                rw [haq] at h1
                exact vk_getf (ref := o) hx hb h1 hR.2.2.2 hown (xenv_w hE hw args) (fun _ h => h) hdg key
              · have hlt := xcls_lt hcl
                have h0 : c0 = 0 := by rcases xK_kind hc with q | q <;> omega
                subst h0
                have h2 : k < 2 := h2.resolve_left (fun q => q rfl)
                cases hcl
                have hf : xKF 0 k = some ((TJ0 k).1, (TJ0 k).2.1, (TJ0 k).2.2.1) := by
                  rcases (show k = 0 ∨ k = 1 by omega) with rfl | rfl <;> rfl
                have h1 := hcK.1 k _ _ _ v hf hv hkn
                rw [haq] at h1
                exact vk_getf (ref := (TJ0 k).1) hx hb h1 hR.2.2.2 hown (xenv_w hE hw args) (fun _ h => h) hdg key
          · cases hs
        · cases hs
      · cases hs
    · cases hs
  · cases hs
theorem xo_putfield (hx : p.tables.exec = Jvm.exec) (hb : c.code = cc) {y : MethodName} (hown : s.vm.findClass y.cls = some m.cls) (hmn : meth.name = y.name) (hE : xEnv xs z b0 D tyC ad s) {i ci k : Nat} {aux : List Nat} (hk : xbput y i (ci :: k :: aux) = true) (hdg : decode cc pc = .ok (.putfield i, 3)) (hs : xputf (xFt ci k) ci k loc st h = some (.inl (t, loc', st', h'))) (hR : xRel b0 D tyC ad h s H locs) (hl : lv_has ls nL (xlc ad loc)) (kk : xCont p l e R s m args below meth c Q nL b0 D tyC ad h cells slots (t.getD (pc + 3)) loc' st' h') : W p l e R s m args below meth c H locs cells slots Q (F0 m pc ls (st.map (xcV ad))) := by
  obtain ⟨v, a, r, vs, rfl, hc, hlen, hft, ho⟩ := xputf_spec hs
  cases ho
  obtain ⟨I, C, T, N, hcl, hkN, hw, hfin⟩ := xbput_spec hk
  have hlt := xcls_lt hcl
  obtain ⟨hP, hI, hbs, hS⟩ := hR
  obtain ⟨k0, hk0⟩ := xcw_at (ad := ad) (tyC := tyC) hc (by show ci ≠ 40; omega)
  have hk1 : (xcw ad tyC h)[k0]? = some (ad a, .inr (ci, vs.map (xcV ad))) := by rw [hk0]; unfold xcE; rw [if_pos (show ci < 50 by omega)]
  have hfit := xfit_fits hft ad
  have hE' : xcE ad tyC (ci, vs.set k v) = .inr (ci, (vs.map (xcV ad)).set k (xcV ad v)) := by unfold xcE; rw [if_pos (show ci < 50 by omega)]; rw [List.map_set]
  have done : ∀ (H1 : Heap) (locs1 : List Loc), va_P D vwCl ((xcw ad tyC h).set k0 (ad a, .inr (ci, (vs.map (xcV ad)).set k (xcV ad v)))) H1 → va_D (fun q => b0 ≤ q) ((xcw ad tyC h).set k0 (ad a, .inr (ci, (vs.map (xcV ad)).set k (xcV ad v)))) → va_S (fun q => b0 ≤ q) s.heap H1 locs1 → W p l e R s m args below meth c H1 locs1 cells slots Q (F0 m (pc + 3) ls (st'.map (xcV ad))) := by
    intro H1 locs1 hP1 _ hS1
    rw [← hE'] at hP1
    exact xk1 kk hc (by rw [List.length_set]) ⟨xset hI hc (by show ci ≠ 40; omega) hk0 hP1, xinj_set hI hc (by show ci ≠ 40; omega), xbd_set hbs hc (by show ci ≠ 40; omega), hS1⟩ hl
  rcases hfin with hf | ⟨hf, hin, hdc⟩
  · exact va_put (Ts := u_ws C T N) (ref := (T k).1) hx hb (xcls_w hE hcl args) (fun _ h => h) (xFt ci) (xcls_ty hcl) (xcls_nm hcl) hown hE.2.1 (xcw_P hP) (xcw_D hI hbs) hS k0 hk1 hcl k hkN (xenv_w hE hw args) (fun _ h => h) hf (xcls_ty hcl k hkN) (narrow_of_fits hfit) hfit (by rw [List.length_map]; exact hlen) hdg done
  · exact va_putF (Ts := u_ws C T N) (ref := (T k).1) hx hb (xcls_w hE hcl args) (fun _ h => h) (xFt ci) (xcls_ty hcl) (xcls_nm hcl) hown hE.2.1 (xcw_P hP) (xcw_D hI hbs) hS k0 hk1 hcl k hkN (xenv_w hE hw args) (fun _ h => h) hf (hmn.trans hin) hdc (xcls_ty hcl k hkN) (narrow_of_fits hfit) hfit (by rw [List.length_map]; exact hlen) hdg done
theorem xo_getstatic (hx : p.tables.exec = Jvm.exec) (hb : c.code = cc) (hown : s.vm.findClass own = some m.cls) (hE : xEnv xs z b0 D tyC ad s) {i j : Nat} {aux : List Nat} (hk : xbsta own i (j :: aux) = true) (hdg : decode cc pc = .ok (.getstatic i, 3)) (hs : xgets (xZ z) j loc st h = some (.inl (t, loc', st', h'))) (hR : xRel b0 D tyC ad h s H locs) (hl : lv_has ls nL (xlc ad loc)) (kk : xCont p l e R s m args below meth c Q nL b0 D tyC ad h cells slots (t.getD (pc + 3)) loc' st' h') : W p l e R s m args below meth c H locs cells slots Q (F0 m pc ls (st.map (xcV ad))) := by
  unfold xgets at hs
  split at hs
  · rename_i v hv
    cases hs
    have key := xk0 kk hR hl
    unfold xbsta at hk
    cases aux with
    | nil => cases hk
    | cons I aux =>
      cases aux with
      | nil => cases hk
      | cons nest aux =>
        dsimp only at hk
        split at hk
        · rename_i C n d hz
          have hZ := hE.2.2.1 j C n d v hz hv
          split at hk
          · exact va_gets (ref := C) hx hb hZ hR.2.2.2 hown (xenv_w hE hk args) (fun _ h => h) hdg key
          · exact va_getsN (ref := C) hx hb hZ hR.2.2.2 hown (xenv_w hE hk args) (fun _ h => h) hdg key
        · cases hk
  · cases hs

end XS
