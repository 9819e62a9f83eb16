/-! THE LAW'S FIRST PART, whatever the script -/
theorem xKo_le (xs : List Int32) : xKle xKo (xK xs) := by
  intro i c vs h
  cases i with
  | zero =>
    have h2 : (41, ([] : List Value)) = (c, vs) := Option.some.inj h
    cases h2
    exact Or.inl ⟨rfl, rfl⟩
  | succ i => exact Or.inr h
theorem xZo_le (z : Value) : xZle xZo (xZ z) := by
  intro j v h
  have hcs : j < 6 := by
    have h2 := (List.getElem?_eq_some_iff.mp h).1
    have h3 : xZo.length = 6 := rfl
    omega
  have : j = 0 ∨ j = 1 ∨ j = 2 ∨ j = 3 ∨ j = 4 ∨ j = 5 := by omega
  rcases this with rfl | rfl | rfl | rfl | rfl | rfl <;> exact h
theorem xlaw_no41 : ∀ e ∈ xcL_law, xno41 e = true := List.all_eq_true.mp (show xcL_law.all xno41 = true by decide +kernel)
theorem xX9_no41 : ∀ e ∈ xcX9_init, xno41 e = true := List.all_eq_true.mp (show xcX9_init.all xno41 = true by decide +kernel)
theorem xX3_no41 : ∀ e ∈ xcX3_init, xno41 e = true := List.all_eq_true.mp (show xcX3_init.all xno41 = true by decide +kernel)
section XFP
variable {xs : List Int32} {z : Value} {P : xA → xH → Prop} {hs : List (Nat × Nat × Nat × Nat)}
theorem xseg_use {d nL : Nat} {code : List xE} {Z' : List Value} (hZ : xZle Z' (xZ z)) (hno : ∀ e ∈ code, xno41 e = true) {n len k : Nat} {cs0 : List xE} {loc loc' : xL} {st : List Value} {h h' : xH} (hc : cs0 <:+ code) (hseg : xsgB (xrs (xgo xMs xKo Z' d 3000) nL xKo Z' code n cs0 loc st h) len loc' h' = true) (hk : code.length - len = k) (hb : xBp (xK xs) (xZ z) d nL hs code (code.drop k) loc' [] h' P) : xBp (xK xs) (xZ z) d nL hs code cs0 loc st h P := by
  obtain ⟨r, hf, hb, hp⟩ := hb
  refine ⟨r, hf, ?_, hp⟩
  cases hq : xrs (xgo xMs xKo Z' d 3000) nL xKo Z' code n cs0 loc st h with
  | some q =>
    obtain ⟨cs, l, h2⟩ := q
    rw [hq] at hseg
    unfold xsgB at hseg
    simp only [Bool.and_eq_true, decide_eq_true_eq] at hseg
    obtain ⟨e1, e2, e3⟩ := hseg
    obtain ⟨a1, a2⟩ := xrs_run (r := r) (hf := hf) (hs := hs) (xKo_le xs) hZ hno _ _ _ _ _ _ _ _ hc hq
    refine a2 ?_
    rw [e2, e3, List.suffix_iff_eq_drop.mp a1, e1, hk]
    exact hb
  | none =>
    rw [hq] at hseg
    cases hseg
theorem xmakeH : xRn (xK xs) (xZ z) 19 4 [.ref 324] xEp38 (.ok none) xEp41 := by
  have hsf : ∀ k, xcX3_init.drop k <:+ xcX3_init := fun k => List.drop_suffix k _
  refine xRp_eq (xRp_of (m := (yX3_init, cX3_init, 2, none, [], [], xcX3_init)) rfl (by show 1 ≤ 2; decide) ?_)
  show xBp (xK xs) (xZ z) 18 2 [] xcX3_init (xcX3_init.drop 0) [(0, .ref 324)] [] xEp38 _
  refine xseg_use (xZo_le z) xX3_no41 (hsf _) xsp_c1 (k := 8) (by decide +kernel) ?_
  refine xseg_use (xZo_le z) xX3_no41 (hsf _) xsp_c2 (k := 8) (by decide +kernel) ?_
  refine xseg_use (xZo_le z) xX3_no41 (hsf _) xsp_c3 (k := 20) (by decide +kernel) ?_
  show xBp (xK xs) (xZ z) 18 2 [] xcX3_init [(40, .return_, 1, [])] _ _ _ _
  exact xp_ret rfl ⟨fun v q => by cases q; rfl, rfl, rfl⟩
theorem xmakeO : xRn (xK xs) (xZ z) 20 61 [.ref 266] xEp36 (.ok none) xEh35 := by
  have hsf : ∀ k, xcX9_init.drop k <:+ xcX9_init := fun k => List.drop_suffix k _
  have hl : xEp37.length = 324 := by decide +kernel
  have he : xEp37 ++ [(6, xnew0 6)] = xEp38 := by decide +kernel
  refine xRp_eq (xRp_of (m := (yX9_init, cX9_init, 1, none, [], [], xcX9_init)) rfl (by show 1 ≤ 1; decide) ?_)
  show xBp (xK xs) (xZ z) 19 1 [] xcX9_init (xcX9_init.drop 0) [(0, .ref 266)] [] xEp36 _
  refine xseg_use (xZo_le z) xX9_no41 (hsf _) xsp_b1 (k := 17) (by decide +kernel) ?_
  show xBp (xK xs) (xZ z) 19 1 [] xcX9_init ((37, .aload_n 0, 1, []) :: (38, .new 22, 3, [0, 6, 171, 172, 20]) :: (41, .dup, 1, []) :: (42, .invokespecial 24, 3, [2, 4, 1, 173]) :: xcX9_init.drop 21) _ _ _ _
  refine xp_step rfl ?_
  refine xp_newo (by rw [hl]; decide) ?_
  rw [hl, he]
  refine xp_step rfl ?_
  refine xp_spec2 rfl (Nat.le_of_ble_eq_true rfl) rfl xmakeH ?_
  show xBp (xK xs) (xZ z) 19 1 [] xcX9_init (xcX9_init.drop 21) [(0, .ref 266)] [.ref 324, .ref 266] xEp41 _
  refine xseg_use (xZo_le z) xX9_no41 (hsf _) xsp_b2 (k := 43) (by decide +kernel) ?_
  show xBp (xK xs) (xZ z) 19 1 [] xcX9_init [(91, .return_, 1, [])] _ _ _ _
  exact xp_ret rfl ⟨fun v q => by cases q; rfl, rfl, rfl⟩
theorem xfirst (hz : z = .null ∨ z = .ref 1999999) (hb : xBp (xK xs) (xZ z) 20 11 hs xcL_law (xcL_law.drop 239) [(2, .ref 266), (1, .ref 0), (0, .ref 1000000)] [] xEh35 P) : xBp (xK xs) (xZ z) 20 11 hs xcL_law xcL_law [(0, .ref 1000000)] [] [] P := by
  have hsf : ∀ k, xcL_law.drop k <:+ xcL_law := fun k => List.drop_suffix k _
  have hl : xEp35.length = 266 := by decide +kernel
  have he : xEp35 ++ [(11, xnew0 11)] = xEp36 := by decide +kernel
  have s34 : xBp (xK xs) (xZ z) 20 11 hs xcL_law (xcL_law.drop 223) [(2, .int 8), (1, .ref 0), (0, .ref 1000000)] [] xEh34 P := by
    refine xseg_use (xZo_le z) xlaw_no41 (hsf _) xsp_a (k := 235) (by decide +kernel) ?_
    show xBp (xK xs) (xZ z) 20 11 hs xcL_law ((481, .new 8, 3, [0, 11, 52, 53, 16]) :: (484, .dup, 1, []) :: (485, .invokespecial 342, 3, [2, 61, 1, 54]) :: (488, .astore_n 2, 1, []) :: xcL_law.drop 239) _ _ _ _
    refine xp_newo (by rw [hl]; decide) ?_
    rw [hl, he]
    refine xp_step rfl ?_
    refine xp_spec2 rfl (Nat.le_of_ble_eq_true rfl) rfl xmakeO ?_
    refine xp_step rfl ?_
    exact hb
  have s33 : xBp (xK xs) (xZ z) 20 11 hs xcL_law (xcL_law.drop 206) [(2, .int 8), (1, .ref 0), (0, .ref 1000000)] [] xEh33 P := xseg_use (xZo_le z) xlaw_no41 (hsf _) xseg33 (by decide +kernel) s34
  have s32 : xBp (xK xs) (xZ z) 20 11 hs xcL_law (xcL_law.drop 203) [(2, .int 8), (1, .ref 0), (0, .ref 1000000)] [] xEh32 P := xseg_use (xZo_le z) xlaw_no41 (hsf _) xseg32 (by decide +kernel) s33
  have s31 : xBp (xK xs) (xZ z) 20 11 hs xcL_law (xcL_law.drop 199) [(2, .int 8), (1, .ref 0), (0, .ref 1000000)] [] xEh31 P := xseg_use (xZo_le z) xlaw_no41 (hsf _) xseg31 (by decide +kernel) s32
  have s30 : xBp (xK xs) (xZ z) 20 11 hs xcL_law (xcL_law.drop 191) [(2, .int 8), (1, .ref 0), (0, .ref 1000000)] [] xEh30 P := xseg_use (xZo_le z) xlaw_no41 (hsf _) xseg30 (by decide +kernel) s31
  have s29 : xBp (xK xs) (xZ z) 20 11 hs xcL_law (xcL_law.drop 181) [(2, .int 8), (1, .ref 0), (0, .ref 1000000)] [] xEh29 P := xseg_use (xZo_le z) xlaw_no41 (hsf _) xseg29 (by decide +kernel) s30
  have s28 : xBp (xK xs) (xZ z) 20 11 hs xcL_law (xcL_law.drop 173) [(2, .int 8), (1, .ref 0), (0, .ref 1000000)] [] xEh28 P := xseg_use (xZo_le z) xlaw_no41 (hsf _) xseg28 (by decide +kernel) s29
  have s27 : xBp (xK xs) (xZ z) 20 11 hs xcL_law (xcL_law.drop 162) [(2, .int 8), (1, .ref 0), (0, .ref 1000000)] [] xEh27 P := xseg_use (xZo_le z) xlaw_no41 (hsf _) xseg27 (by decide +kernel) s28
  have s26 : xBp (xK xs) (xZ z) 20 11 hs xcL_law (xcL_law.drop 154) [(2, .int 8), (1, .ref 0), (0, .ref 1000000)] [] xEh26 P := xseg_use (xZo_le z) xlaw_no41 (hsf _) xseg26 (by decide +kernel) s27
  have s25 : xBp (xK xs) (xZ z) 20 11 hs xcL_law (xcL_law.drop 144) [(2, .int 8), (1, .ref 0), (0, .ref 1000000)] [] xEh25 P := xseg_use (xZo_le z) xlaw_no41 (hsf _) xseg25 (by decide +kernel) s26
  have s24 : xBp (xK xs) (xZ z) 20 11 hs xcL_law (xcL_law.drop 136) [(2, .int 8), (1, .ref 0), (0, .ref 1000000)] [] xEh24 P := xseg_use (xZo_le z) xlaw_no41 (hsf _) xseg24 (by decide +kernel) s25
  have s23 : xBp (xK xs) (xZ z) 20 11 hs xcL_law (xcL_law.drop 131) [(2, .int 8), (1, .ref 0), (0, .ref 1000000)] [] xEh23 P := xseg_use (xZo_le z) xlaw_no41 (hsf _) xseg23 (by decide +kernel) s24
  have s22 : xBp (xK xs) (xZ z) 20 11 hs xcL_law (xcL_law.drop 111) [(2, .int 8), (1, .ref 0), (0, .ref 1000000)] [] xEh22 P := xseg_use (xZo_le z) xlaw_no41 (hsf _) xseg22 (by decide +kernel) s23
  have s21 : xBp (xK xs) (xZ z) 20 11 hs xcL_law (xcL_law.drop 102) [(2, .int 8), (1, .ref 0), (0, .ref 1000000)] [] xEh21 P := xseg_use (xZo_le z) xlaw_no41 (hsf _) xseg21 (by decide +kernel) s22
  have s20 : xBp (xK xs) (xZ z) 20 11 hs xcL_law (xcL_law.drop 93) [(2, .int 7), (1, .ref 0), (0, .ref 1000000)] [] xEh20 P := xseg_use (xZo_le z) xlaw_no41 (hsf _) xseg20 (by decide +kernel) s21
  have s19 : xBp (xK xs) (xZ z) 20 11 hs xcL_law (xcL_law.drop 93) [(2, .int 6), (1, .ref 0), (0, .ref 1000000)] [] xEh19 P := xseg_use (xZo_le z) xlaw_no41 (hsf _) xseg19 (by decide +kernel) s20
  have s18 : xBp (xK xs) (xZ z) 20 11 hs xcL_law (xcL_law.drop 93) [(2, .int 5), (1, .ref 0), (0, .ref 1000000)] [] xEh18 P := xseg_use (xZo_le z) xlaw_no41 (hsf _) xseg18 (by decide +kernel) s19
  have s17 : xBp (xK xs) (xZ z) 20 11 hs xcL_law (xcL_law.drop 93) [(2, .int 4), (1, .ref 0), (0, .ref 1000000)] [] xEh17 P := xseg_use (xZo_le z) xlaw_no41 (hsf _) xseg17 (by decide +kernel) s18
  have s16 : xBp (xK xs) (xZ z) 20 11 hs xcL_law (xcL_law.drop 93) [(2, .int 3), (1, .ref 0), (0, .ref 1000000)] [] xEh16 P := xseg_use (xZo_le z) xlaw_no41 (hsf _) xseg16 (by decide +kernel) s17
  have s15 : xBp (xK xs) (xZ z) 20 11 hs xcL_law (xcL_law.drop 93) [(2, .int 2), (1, .ref 0), (0, .ref 1000000)] [] xEh15 P := xseg_use (xZo_le z) xlaw_no41 (hsf _) xseg15 (by decide +kernel) s16
  have s14 : xBp (xK xs) (xZ z) 20 11 hs xcL_law (xcL_law.drop 93) [(2, .int 1), (1, .ref 0), (0, .ref 1000000)] [] xEh14 P := xseg_use (xZo_le z) xlaw_no41 (hsf _) xseg14 (by decide +kernel) s15
  have s13 : xBp (xK xs) (xZ z) 20 11 hs xcL_law (xcL_law.drop 93) [(2, .int 0), (1, .ref 0), (0, .ref 1000000)] [] xEh13 P := xseg_use (xZo_le z) xlaw_no41 (hsf _) xseg13 (by decide +kernel) s14
  have s12 : xBp (xK xs) (xZ z) 20 11 hs xcL_law (xcL_law.drop 73) [(2, .int 60), (1, .ref 0), (0, .ref 1000000)] [] xEh12 P := xseg_use (xZo_le z) xlaw_no41 (hsf _) xseg12 (by decide +kernel) s13
  have s11 : xBp (xK xs) (xZ z) 20 11 hs xcL_law (xcL_law.drop 61) [(2, .int 60), (1, .ref 0), (0, .ref 1000000)] [] xEh11 P := by
    rcases hz with rfl | rfl
    · exact xseg_use (fun _ _ h => h) xlaw_no41 (hsf _) xseg11n (by decide +kernel) s12
    · exact xseg_use (fun _ _ h => h) xlaw_no41 (hsf _) xseg11r (by decide +kernel) s12
  have s10 : xBp (xK xs) (xZ z) 20 11 hs xcL_law (xcL_law.drop 50) [(2, .int 53), (1, .ref 0), (0, .ref 1000000)] [] xEh10 P := by
    rcases hz with rfl | rfl
    · exact xseg_use (fun _ _ h => h) xlaw_no41 (hsf _) xseg10n (by decide +kernel) s11
    · exact xseg_use (fun _ _ h => h) xlaw_no41 (hsf _) xseg10r (by decide +kernel) s11
  have s9 : xBp (xK xs) (xZ z) 20 11 hs xcL_law (xcL_law.drop 50) [(2, .int 44), (1, .ref 0), (0, .ref 1000000)] [] xEh9 P := xseg_use (xZo_le z) xlaw_no41 (hsf _) xseg9 (by decide +kernel) s10
  have s8 : xBp (xK xs) (xZ z) 20 11 hs xcL_law (xcL_law.drop 50) [(2, .int 35), (1, .ref 0), (0, .ref 1000000)] [] xEh8 P := xseg_use (xZo_le z) xlaw_no41 (hsf _) xseg8 (by decide +kernel) s9
  have s7 : xBp (xK xs) (xZ z) 20 11 hs xcL_law (xcL_law.drop 50) [(2, .int 26), (1, .ref 0), (0, .ref 1000000)] [] xEh7 P := xseg_use (xZo_le z) xlaw_no41 (hsf _) xseg7 (by decide +kernel) s8
  have s6 : xBp (xK xs) (xZ z) 20 11 hs xcL_law (xcL_law.drop 50) [(2, .int 17), (1, .ref 0), (0, .ref 1000000)] [] xEh6 P := xseg_use (xZo_le z) xlaw_no41 (hsf _) xseg6 (by decide +kernel) s7
  have s5 : xBp (xK xs) (xZ z) 20 11 hs xcL_law (xcL_law.drop 50) [(2, .int 8), (1, .ref 0), (0, .ref 1000000)] [] xEh5 P := xseg_use (xZo_le z) xlaw_no41 (hsf _) xseg5 (by decide +kernel) s6
  have s4 : xBp (xK xs) (xZ z) 20 11 hs xcL_law (xcL_law.drop 33) [(1, .ref 0), (0, .ref 1000000)] [] xEh4 P := xseg_use (xZo_le z) xlaw_no41 (hsf _) xseg4 (by decide +kernel) s5
  have s3 : xBp (xK xs) (xZ z) 20 11 hs xcL_law (xcL_law.drop 19) [(1, .ref 0), (0, .ref 1000000)] [] xEh3 P := xseg_use (xZo_le z) xlaw_no41 (hsf _) xseg3 (by decide +kernel) s4
  have s2 : xBp (xK xs) (xZ z) 20 11 hs xcL_law (xcL_law.drop 15) [(1, .ref 0), (0, .ref 1000000)] [] xEh2 P := xseg_use (xZo_le z) xlaw_no41 (hsf _) xseg2 (by decide +kernel) s3
  have s1 : xBp (xK xs) (xZ z) 20 11 hs xcL_law (xcL_law.drop 4) [(1, .ref 0), (0, .ref 1000000)] [] xEh1 P := xseg_use (xZo_le z) xlaw_no41 (hsf _) xseg1 (by decide +kernel) s2
  have s0 : xBp (xK xs) (xZ z) 20 11 hs xcL_law (xcL_law.drop 0) [(0, .ref 1000000)] [] xEh0 P := xseg_use (xZo_le z) xlaw_no41 (hsf _) xseg0 (by decide +kernel) s1
  exact s0
end XFP
/-- the second object's memory at its making -/
def xo0N : Nat → Nat → Int32 := fun i k => match (xEh35.getD (266 + i) (0, ([] : List Value))).2[k]? with
  | some (Value.int x) => x
  | _ => 0
def xo0C : Nat → Nat := fun i => match (xEh35.getD (266 + i) (0, ([] : List Value))).2[0]? with
  | some (Value.ref x) => x - 1000000
  | _ => 0
def xo0P : xH := xEh35.take 266
theorem xo0_heap : xEh35 = xHn xo0P 266 xo0N xo0C 518 [] := by decide +kernel
theorem xo0_ok : xBok xo0P 266 := ⟨by decide +kernel, by decide⟩
