/-! ONE INSTRUCTION THAT GOES ON -/
section XD
variable {p : Program} {l : Launch} {e : Env} {R : Room} {s : State} {m : MethodId} {args : Array Value} {below : List Frame} {meth : Method} {c : Code} {H : Heap} {locs : List Loc} {cells slots : Nat} {Q : State → Prop}
variable {cc : ByteArray} {nL : Nat} {n0 : Nat × Nat} {ls : Array Slot} {b0 : Nat} {D : va_G} {tyC : Nat → ClassId} {ad : Nat → Nat} {h h' : xH} {loc loc' : xL} {st st' : List Value} {t : Option Nat}
variable {xs : List Int32} {z : Value} {y : MethodName} {hh : Bool} {e0 : xE}
theorem xnat_eq {a n : Nat} (h : (a == n) = true) : a = n := by simpa using h
theorem xcall_ne {mi n : Nat} : ¬ xcall mi n loc st h = some (.inl (t, loc', st', h')) := by
  unfold xcall
  split <;> (intro h; cases h)
theorem xret_ne {q : Value → Bool} : ¬ xret q st h = some (.inl (t, loc', st', h')) := by
  unfold xret
  split
  · split <;> (intro h; cases h)
  · intro h; cases h
theorem xretv_ne : ¬ xretv st h = some (.inl (t, loc', st', h')) := by
  unfold xretv
  split <;> (intro h; cases h)
theorem xk_self {pc' : Nat} (kk : xCont p l e R s m args below meth c Q nL b0 D tyC ad h cells slots pc' loc st h) : xCont p l e R s m args below meth c Q nL b0 D tyC ad h cells slots pc' loc st h := kk
set_option maxHeartbeats 4000000 in
theorem xo_step (hx : p.tables.exec = Jvm.exec) (hb : c.code = cc) (hml : c.maxLocals = nL) (hown : s.vm.findClass y.cls = some m.cls) (hmn : meth.name = y.name) (hE : xEnv xs z b0 D tyC ad s) (hfr : 1 ≤ R.frames) (hlo : 100 ≤ R.locals) (hck : xchk y cc hh e0 = true) (hs : xstep nL (xK xs) (xZ z) e0 loc st h = some (.inl (t, loc', st', h'))) (hok : xok n0 h loc st) (hroom : cells + (h'.length - h.length) ≤ R.cells ∧ slots + (xsz h' - xsz h) ≤ R.slots) (hR : xRel b0 D tyC ad h s H locs) (hl : lv_has ls nL (xlc ad loc)) (kk : xCont p l e R s m args below meth c Q nL b0 D tyC ad h cells slots (t.getD (e0.1 + e0.2.2.1)) loc' st' h') : W p l e R s m args below meth c H locs cells slots Q (F0 m e0.1 ls (st.map (xcV ad))) := by
  obtain ⟨pc, i0, ln, aux⟩ := e0
  unfold xchk at hck
  obtain ⟨hd, hck⟩ := Bool.and_eq_true _ _ |>.mp hck
  obtain ⟨hlen, hk⟩ := Bool.and_eq_true _ _ |>.mp hck
  have hdg : decode cc pc = .ok (i0, ln) := of_decide_eq_true hd
  dsimp only at hlen hk hs kk ⊢
  cases i0 with
  | iadd =>
    cases xnat_eq (n := 1) hlen
    exact xo_iadd hx hb hdg hs hR hl kk
  | isub =>
    cases xnat_eq (n := 1) hlen
    exact xo_isub hx hb hdg hs hR hl kk
  | imul =>
    cases xnat_eq (n := 1) hlen
    exact xo_imul hx hb hdg hs hR hl kk
  | iand =>
    cases xnat_eq (n := 1) hlen
    exact xo_iand hx hb hdg hs hR hl kk
  | ior =>
    cases xnat_eq (n := 1) hlen
    exact xo_ior hx hb hdg hs hR hl kk
  | ixor =>
    cases xnat_eq (n := 1) hlen
    exact xo_ixor hx hb hdg hs hR hl kk
  | ishl =>
    cases xnat_eq (n := 1) hlen
    exact xo_ishl hx hb hdg hs hR hl kk
  | ishr =>
    cases xnat_eq (n := 1) hlen
    exact xo_ishr hx hb hdg hs hR hl kk
  | iushr =>
    cases xnat_eq (n := 1) hlen
    exact xo_iushr hx hb hdg hs hR hl kk
  | idiv =>
    cases xnat_eq (n := 1) hlen
    exact xo_idiv hx hb hdg hs hR hl kk
  | irem =>
    cases xnat_eq (n := 1) hlen
    exact xo_irem hx hb hdg hs hR hl kk
  | ineg =>
    cases xnat_eq (n := 1) hlen
    exact xo_ineg hx hb hdg hs hR hl kk
  | i2l =>
    cases xnat_eq (n := 1) hlen
    exact xo_i2l hx hb hdg hs hR hl kk
  | i2b =>
    cases xnat_eq (n := 1) hlen
    exact xo_i2b hx hb hdg hs hR hl kk
  | i2c =>
    cases xnat_eq (n := 1) hlen
    exact xo_i2c hx hb hdg hs hR hl kk
  | i2f =>
    cases xnat_eq (n := 1) hlen
    exact xo_i2f hx hb hdg hs hR hl kk
  | i2d =>
    cases xnat_eq (n := 1) hlen
    exact xo_i2d hx hb hdg hs hR hl kk
  | ladd =>
    cases xnat_eq (n := 1) hlen
    exact xo_ladd hx hb hdg hs hR hl kk
  | lmul =>
    cases xnat_eq (n := 1) hlen
    exact xo_lmul hx hb hdg hs hR hl kk
  | lcmp =>
    cases xnat_eq (n := 1) hlen
    exact xo_lcmp hx hb hdg hs hR hl kk
  | fdiv =>
    cases xnat_eq (n := 1) hlen
    exact xo_fdiv hx hb hdg hs hR hl kk
  | ddiv =>
    cases xnat_eq (n := 1) hlen
    exact xo_ddiv hx hb hdg hs hR hl kk
  | dup =>
    cases xnat_eq (n := 1) hlen
    exact xo_dup hx hb hdg hs hR hl kk
  | pop =>
    cases xnat_eq (n := 1) hlen
    exact xo_pop hx hb hdg hs hR hl kk
  | dup_x1 =>
    cases xnat_eq (n := 1) hlen
    exact xo_dup_x1 hx hb hdg hs hR hl kk
  | aconst_null =>
    cases xnat_eq (n := 1) hlen
    exact xo_null hx hb hdg hs hR hl kk
  | fcmp o =>
    cases xnat_eq (n := 1) hlen
    exact xo_fcmp hx hb hdg hs hR hl kk
  | dcmp o =>
    cases xnat_eq (n := 1) hlen
    exact xo_dcmp hx hb hdg hs hR hl kk
  | iconst n =>
    cases xnat_eq (n := 1) hlen
    exact xo_iconst hx hb hdg hs hR hl kk
  | iload_n k =>
    cases xnat_eq (n := 1) hlen
    exact xo_iloadn hx hb hdg hs hR hl kk
  | lload_n k =>
    cases xnat_eq (n := 1) hlen
    exact xo_lloadn hx hb hdg hs hR hl kk
  | fload_n k =>
    cases xnat_eq (n := 1) hlen
    exact xo_floadn hx hb hdg hs hR hl kk
  | dload_n k =>
    cases xnat_eq (n := 1) hlen
    exact xo_dloadn hx hb hdg hs hR hl kk
  | aload_n k =>
    cases xnat_eq (n := 1) hlen
    exact xo_aloadn hx hb hdg hs hR hl kk
  | istore_n k =>
    cases xnat_eq (n := 1) hlen
    exact xo_istoren hx hb hdg hs hR hl kk
  | lstore_n k =>
    cases xnat_eq (n := 1) hlen
    exact xo_lstoren hx hb hdg hs hR hl kk
  | astore_n k =>
    cases xnat_eq (n := 1) hlen
    exact xo_astoren hx hb hdg hs hR hl kk
  | bipush n =>
    cases xnat_eq (n := 2) hlen
    exact xo_bipush hx hb hdg hs hR hl kk
  | iload k =>
    cases xnat_eq (n := 2) hlen
    exact xo_iloadw hx hb hdg hs hR hl kk
  | lload k =>
    cases xnat_eq (n := 2) hlen
    exact xo_lloadw hx hb hdg hs hR hl kk
  | aload k =>
    cases xnat_eq (n := 2) hlen
    exact xo_aloadw hx hb hdg hs hR hl kk
  | istore k =>
    cases xnat_eq (n := 2) hlen
    exact xo_istorew hx hb hdg hs hR hl kk
  | lstore k =>
    cases xnat_eq (n := 2) hlen
    exact xo_lstorew hx hb hdg hs hR hl kk
  | astore k =>
    cases xnat_eq (n := 2) hlen
    exact xo_astorew hx hb hdg hs hR hl kk
  | sipush n =>
    cases xnat_eq (n := 3) hlen
    exact xo_sipush hx hb hdg hs hR hl kk
  | iinc i n =>
    cases xnat_eq (n := 3) hlen
    exact xo_iinc hx hb hdg hs hR hl kk
  | goto o =>
    cases xnat_eq (n := 3) hlen
    exact xo_goto hx hb hdg hs hR hl kk
  | ifnonnull o =>
    cases xnat_eq (n := 3) hlen
    exact xo_ifnonnull hx hb hdg hs hR hl kk
  | ifnull o =>
    cases xnat_eq (n := 3) hlen
    exact xo_ifnull hx hb hdg hs hR hl kk
  | iaload =>
    cases xnat_eq (n := 1) hlen
    exact xo_iaload hx hb hE hdg hs hR hl kk
  | baload =>
    cases xnat_eq (n := 1) hlen
    exact xo_baload hx hb hE hdg hs hR hl kk
  | caload =>
    cases xnat_eq (n := 1) hlen
    exact xo_caload hx hb hE hdg hs hR hl kk
  | laload =>
    cases xnat_eq (n := 1) hlen
    exact xo_laload hx hb hE hdg hs hR hl kk
  | aaload =>
    cases xnat_eq (n := 1) hlen
    exact xo_aaload hx hb hE hdg hs hR hl kk
  | bastore =>
    cases xnat_eq (n := 1) hlen
    exact xo_bastore hx hb hE hdg hs hR hl kk
  | castore =>
    cases xnat_eq (n := 1) hlen
    exact xo_castore hx hb hE hdg hs hR hl kk
  | lastore =>
    cases xnat_eq (n := 1) hlen
    exact xo_lastore hx hb hE hdg hs hR hl kk
  | aastore =>
    cases xnat_eq (n := 1) hlen
    exact xo_aastore hx hb hE hdg hs hR hl kk
  | arraylength =>
    cases xnat_eq (n := 1) hlen
    exact xo_alen hx hb hE hdg hs hR hl kk
  | tableswitch d lo hi offs =>
    exact xo_sw hx hb hdg hs hR hl kk
  | ifCond cd o =>
    cases xnat_eq (n := 3) hlen
    have ho : 0 ≤ (pc : Int) + o := of_decide_eq_true hk
    cases cd
    · exact xo_if1_eq hx hb ho hdg hs hR hl kk
    · exact xo_if1_ne hx hb ho hdg hs hR hl kk
    · exact xo_if1_lt hx hb ho hdg hs hR hl kk
    · exact xo_if1_ge hx hb ho hdg hs hR hl kk
    · exact xo_if1_gt hx hb ho hdg hs hR hl kk
    · exact xo_if1_le hx hb ho hdg hs hR hl kk
  | if_icmp cd o =>
    cases xnat_eq (n := 3) hlen
    have ho : 0 ≤ (pc : Int) + o := of_decide_eq_true hk
    cases cd
    · exact xo_if2_eq hx hb ho hdg hs hR hl kk
    · exact xo_if2_ne hx hb ho hdg hs hR hl kk
    · exact xo_if2_lt hx hb ho hdg hs hR hl kk
    · exact xo_if2_ge hx hb ho hdg hs hR hl kk
    · exact xo_if2_gt hx hb ho hdg hs hR hl kk
    · exact xo_if2_le hx hb ho hdg hs hR hl kk
  | getfield i =>
    cases xnat_eq (n := 3) hlen
    rcases aux with _ | ⟨a0, _ | ⟨a1, aux⟩⟩
    · cases hs
    · cases hs
    · exact xo_getfield hx hb hown hE hk hdg hs hR hl kk
  | putfield i =>
    cases xnat_eq (n := 3) hlen
    rcases aux with _ | ⟨a0, _ | ⟨a1, aux⟩⟩
    · cases hs
    · cases hs
    · exact xo_putfield hx hb hown hmn hE hk hdg hs hR hl kk
  | getstatic i =>
    cases xnat_eq (n := 3) hlen
    rcases aux with _ | ⟨a0, aux⟩
    · cases hs
    · exact xo_getstatic hx hb hown hE hk hdg hs hR hl kk
  | new i =>
    cases xnat_eq (n := 3) hlen
    rcases aux with _ | ⟨a0, _ | ⟨a1, aux⟩⟩
    · cases hs
    · cases hs
    · exact xo_new hx hb hown hE (Bool.and_eq_true _ _ |>.mp hk).1 hdg hs hok hroom hR hl kk
  | newarray at0 =>
    cases at0 <;> first | (cases hs; done) | skip
    · cases xnat_eq (n := 2) hlen; exact xo_newarray_c hx hb hE hdg hs hok hroom hR hl kk
    · cases xnat_eq (n := 2) hlen; exact xo_newarray_b hx hb hE hdg hs hok hroom hR hl kk
    · cases xnat_eq (n := 2) hlen; exact xo_newarray_l hx hb hE hdg hs hok hroom hR hl kk
  | anewarray i =>
    cases xnat_eq (n := 3) hlen
    rcases aux with _ | ⟨a0, aux⟩
    · cases hs
    · exact xo_anewarray hx hb hown hE hk hdg hs hok hroom hR hl kk
  | ldc i =>
    cases xnat_eq (n := 2) hlen
    rcases aux with _ | ⟨a0, _ | ⟨a1, aux⟩⟩
    · cases hs
    · cases hs
    · exact xo_ldc hx hb hown hE hk hdg hs hR hl kk
  | ldc_w i =>
    cases xnat_eq (n := 3) hlen
    rcases aux with _ | ⟨a0, _ | ⟨a1, aux⟩⟩
    · cases hs
    · cases hs
    · exact xo_ldcw hx hb hown hE hk hdg hs hR hl kk
  | ldc2_w i =>
    cases xnat_eq (n := 3) hlen
    rcases aux with _ | ⟨a0, _ | ⟨a1, aux⟩⟩
    · cases hs
    · cases hs
    · exact xo_ldc2 hx hb hown hE hk hdg hs hR hl kk
  | checkcast i =>
    cases xnat_eq (n := 3) hlen
    rcases aux with _ | ⟨a0, aux⟩
    · cases hs
    · exact xo_cast hx hb hown hE hk hdg hs hR hl kk
  | invokevirtual i =>
    cases xnat_eq (n := 3) hlen
    rcases aux with _ | ⟨a0, aux⟩
    · cases hs
    · replace hs : xvirt (xK xs) loc st h (a0 :: aux) = some (.inl (t, loc', st', h')) := hs
      replace hk : xbvirt y.cls i (a0 :: aux) = true := hk
      unfold xvirt at hs
      dsimp only at hs
      split at hs
      · rename_i h9
        cases of_decide_eq_true h9
        rcases aux with _ | ⟨I, aux⟩
        · cases hk
        · exact xo_clone hx hb hml hown hE hk hdg hs hok hfr hlo hroom hR hl kk
      · split at hs
        · split at hs
          · exact absurd hs xcall_ne
          · cases hs
        · cases hs
  | invokestatic i =>
    cases xnat_eq (n := 3) hlen
    rcases aux with _ | ⟨a0, aux⟩
    · cases hs
    · replace hs : xstat (xK xs) loc st h (a0 :: aux) = some (.inl (t, loc', st', h')) := hs
      replace hk : xbstat y.cls i (a0 :: aux) = true := hk
      unfold xstat at hs
      dsimp only at hs
      split at hs
      · rename_i h9
        cases of_decide_eq_true h9
        rcases aux with _ | ⟨I, aux⟩
        · cases hk
        · exact xo_copy hx hb hml hown hE hk hdg hs hfr hlo hR hl kk
      · split at hs
        · rename_i h9
          cases of_decide_eq_true h9
          rcases aux with _ | ⟨I, aux⟩
          · cases hk
          · exact xo_d2l hx hb hml hown hE hk hdg hs hfr hlo hR hl kk
        · split at hs
          · rename_i h9
            cases of_decide_eq_true h9
            rcases aux with _ | ⟨I, aux⟩
            · cases hk
            · exact xo_f2i hx hb hml hown hE hk hdg hs hfr hlo hR hl kk
          · rcases aux with _ | ⟨a1, _ | ⟨a2, aux⟩⟩
            · cases hs
            · cases hs
            · exact absurd hs xcall_ne
  | invokespecial i =>
    cases xnat_eq (n := 3) hlen
    rcases aux with _ | ⟨a0, aux⟩
    · cases hs
    · replace hs : xspec (xK xs) loc st h (a0 :: aux) = some (.inl (t, loc', st', h')) := hs
      replace hk : xbspec y.cls i (a0 :: aux) = true := hk
      unfold xspec at hs
      dsimp only at hs
      split at hs
      · rename_i h9
        cases of_decide_eq_true h9
        rcases aux with _ | ⟨I, aux⟩
        · cases hk
        · split at hs
          · split at hs
            · rename_i hroom0
              cases hs
              exact xo_oinit hx hb hml hown hE hk (of_decide_eq_true hroom0) hdg hfr hlo hR hl (xk_self kk)
            · cases hs
          · cases hs
      · rcases aux with _ | ⟨a1, _ | ⟨a2, aux⟩⟩
        · cases hs
        · cases hs
        · replace hs : (match xrf st a2 && (!decide (a0 = 4) || xrcv (xK xs) h st a2 1) with | true => xcall a1 a2 loc st h | false => none) = some (.inl (t, loc', st', h')) := hs
          split at hs
          · exact absurd hs xcall_ne
          · cases hs
  | ireturn =>
    exact absurd hs xret_ne
  | lreturn =>
    exact absurd hs xret_ne
  | freturn =>
    exact absurd hs xret_ne
  | dreturn =>
    exact absurd hs xret_ne
  | areturn =>
    exact absurd hs xret_ne
  | return_ =>
    exact absurd hs xretv_ne
  | _ => cases hs
end XD
