/-! THE WORDS, THE CONSTANTS, AND WHAT AN INSTRUCTION'S ENTRY MUST NAME -/
def xNg : Cond → Bool
  | .methodLinkNest .. => true
  | .fieldLinkNest .. => true
  | .declares _ => true
  | .castable .. => true
  | _ => false
/-- a word of the tables alone that warming keeps -/
def xgd (w : Cond) : Bool := (w.onTables && w.keeps) || xNg w
theorem xgd_tab {w : Cond} (h : xgd w = true) : w.onTables = true := by
  unfold xgd at h
  rcases Bool.or_eq_true _ _ |>.mp h with h | h
  · exact (Bool.and_eq_true _ _ |>.mp h).1
  · cases w <;> first | rfl | cases h
theorem xgd_warm {w : Cond} {s U : State} (hW : s.WarmedH U.vm) (h : xgd w = true) (hz : va_Nw w s) : va_Nw w U := by
  unfold xgd at h
  rcases Bool.or_eq_true _ _ |>.mp h with h | h
  · exact word_at hW (Or.inl h) hz
  · cases w <;> first | exact va_Nw.warmM hW hz | exact va_Nw.warmF hW hz | exact va_Nw.warmD hW hz | exact va_Nw.warmC hW hz | cases h
def xSelW : List Cond := xSel.map fun x => Cond.selects "java/lang/StringBuilder" x x
/-- the word at the place k (from 5000 on: of the private methods of the builder's superclass) -/
def xWd (k : Nat) : Option Cond := match decide (k < 5000) with
  | true => lw_tbl[k]?
  | false => xSelW[k - 5000]?
def xwd (k : Nat) (w : Cond) : Bool := decide (xWd k = some w) && xgd w
/-- the fields of constant objects -/
def xKF : Nat → Nat → Option (String × String × String)
  | 0, 0 => some ("java/lang/String", "value", "[B")
  | 0, 1 => some ("java/lang/String", "coder", "B")
  | 45, 0 => some ("RiverReaches$Kind", "word", "Ljava/lang/String;")
  | 45, 1 => some ("RiverReaches$Kind", "parameters", "Ljava/lang/String;")
  | 45, 2 => some ("java/lang/Enum", "ordinal", "I")
  | _, _ => none
def xKC : Nat → Option String
  | 0 => some "java/lang/String"
  | 45 => some "RiverReaches$Kind"
  | _ => none
def xCok (b0 : Nat) (ad : Nat → Nat) (s : State) (i k : Nat) (vs : List Value) : Prop :=
  (∀ (j : Nat) (o n d : String) (v : Value), xKF k j = some (o, n, d) → vs[j]? = some v → xknown v = true → va_OF o n d (xcV ad v) (ad (1000000 + i)) (fun q => b0 ≤ q) s s.heap) ∧
  (50 ≤ k → va_T (xTy (k - 50)) (ad (1000000 + i)) vs.length (fun j => xcV ad (vs.getD j .null)) (fun q => b0 ≤ q) s s.heap) ∧
  ∀ E, xKC k = some E → va_O E (ad (1000000 + i)) (fun q => b0 ≤ q) s s.heap
/-- WHAT HOLDS AT A METHOD'S START, besides the abstract heap -/
def xEnv (xs : List Int32) (z : Value) (b0 : Nat) (D : va_G) (tyC : Nat → ClassId) (ad : Nat → Nat) (s : State) : Prop :=
  (∀ w : Cond, (w ∈ lw_tbl ∨ w ∈ xSelW) → xgd w = true → va_Nw w s) ∧
  va_K D vwCl (xtys tyC) s ∧
  (∀ (j : Nat) (C n d : String) (v : Value), xZn[j]? = some (C, n, d) → (xZ z)[j]? = some v → va_Z C n d (xcV ad v) (fun q => b0 ≤ q) s s.heap) ∧
  (∀ (i k : Nat) (vs : List Value), (xK xs)[i]? = some (k, vs) → xCok b0 ad s i k vs) ∧
  (∀ (j : Nat) (own : String) (i : Nat) (tx : String), xSt[j]? = some (own, i, tx) → vk_R own i tx (ad (1000020 + 2 * j)) s) ∧
  (vx_Zq Bundle.tN "UNASSIGNED_STACK" Bundle.steD (fun q => b0 ≤ q) s s.heap ∧ vx_Zq Bundle.tN "SUPPRESSED_SENTINEL" Bundle.listD (fun q => b0 ≤ q) s s.heap) ∧
  (∀ (t : Nat) (C : String), 3 ≤ t → t ≤ 6 → xTy t = .object C → va_AO C s) ∧
  ((Cond.arrayClass .byte).before #[] s = true ∧ (Cond.arrayClass .char).before #[] s = true ∧ (Cond.arrayClass .long).before #[] s = true) ∧
  (∀ E F : String, E ∈ xEx → F ∈ xEx → E ≠ F → va_Nc E F s) ∧ b0 ≤ s.heap.size
theorem xenv_w {xs : List Int32} {z : Value} {b0 : Nat} {D : va_G} {tyC : Nat → ClassId} {ad : Nat → Nat} {s : State} (hE : xEnv xs z b0 D tyC ad s) {k : Nat} {w : Cond} (h : xwd k w = true) (args : Array Value) : w.before args s = true := by
  obtain ⟨h1, h2⟩ := Bool.and_eq_true _ _ |>.mp h
  have h1 := of_decide_eq_true h1
  refine va_Nw.use (xgd_tab h2) (hE.1 w ?_ h2)
  unfold xWd at h1
  split at h1
  · exact Or.inl (List.mem_of_getElem? h1)
  · exact Or.inr (List.mem_of_getElem? h1)
theorem xcls_words : vwCl.all (fun q => (u_ws q.1 q.2.1 q.2.2).all (fun w => decide (w ∈ lw_tbl) && xgd w)) = true := by decide +kernel
theorem xcls_w {xs : List Int32} {z : Value} {b0 : Nat} {D : va_G} {tyC : Nat → ClassId} {ad : Nat → Nat} {s : State} (hE : xEnv xs z b0 D tyC ad s) {ci : Nat} {C : String} {T : u_T} {N : Nat} (hc : vwCl[ci]? = some (C, T, N)) (args : Array Value) : ∀ w ∈ u_ws C T N, w.before args s = true := by
  intro w hw
  have h1 := List.all_eq_true.mp (List.all_eq_true.mp xcls_words _ (List.mem_of_getElem? hc)) w hw
  obtain ⟨h1, h2⟩ := Bool.and_eq_true _ _ |>.mp h1
  exact va_Nw.use (xgd_tab h2) (hE.1 w (Or.inl (of_decide_eq_true h1)) h2)
/-- the types of the fields, and that no two fields of a class share a name -/
theorem xcls_ty0 : vwCl.zipIdx.all (fun x => (List.range x.1.2.2).all (fun k => decide (parseFieldDescriptor (x.1.2.1 k).2.2.1 = some (xFt x.2 k)))) = true := by decide +kernel
theorem xcls_ty {ci : Nat} {C : String} {T : u_T} {N : Nat} (h : vwCl[ci]? = some (C, T, N)) : ∀ k, k < N → parseFieldDescriptor (T k).2.2.1 = some (xFt ci k) := fun k hk =>
  of_decide_eq_true (List.all_eq_true.mp (List.all_eq_true.mp xcls_ty0 ((C, T, N), ci) (List.mem_zipIdx_iff_getElem?.mpr h)) k (List.mem_range.mpr hk))
theorem xcls_nm0 : vwCl.all (fun q => (List.range q.2.2).all (fun a => (List.range q.2.2).all (fun b => decide (a = b) || decide ((q.2.1 a).2.1 ≠ (q.2.1 b).2.1)))) = true := by decide +kernel
theorem xcls_nm {ci : Nat} {C : String} {T : u_T} {N : Nat} (h : vwCl[ci]? = some (C, T, N)) : ∀ a, a < N → ∀ b, b < N → a ≠ b → (T a).2.1 ≠ (T b).2.1 := by
  intro a ha b hb hab
  have h1 := List.all_eq_true.mp (List.all_eq_true.mp (List.all_eq_true.mp xcls_nm0 _ (List.mem_of_getElem? h)) a (List.mem_range.mpr ha)) b (List.mem_range.mpr hb)
  rcases Bool.or_eq_true _ _ |>.mp h1 with h1 | h1
  · exact absurd (of_decide_eq_true h1) hab
  · exact of_decide_eq_true h1
theorem xcls_lt {ci : Nat} {q : vw_C} (h : vwCl[ci]? = some q) : ci < 12 := (List.getElem?_eq_some_iff.mp h).1
/-- the lengths of the instructions -/
def xlen (i : Instr) (n : Nat) : Bool := match i with
  | .tableswitch .. => true
  | .bipush _ => n == 2
  | .newarray _ => n == 2
  | .ldc _ => n == 2
  | .iload _ => n == 2
  | .lload _ => n == 2
  | .aload _ => n == 2
  | .istore _ => n == 2
  | .astore _ => n == 2
  | .lstore _ => n == 2
  | .sipush _ => n == 3
  | .goto _ => n == 3
  | .ifCond .. => n == 3
  | .if_icmp .. => n == 3
  | .ifnonnull _ => n == 3
  | .ifnull _ => n == 3
  | .getfield _ => n == 3
  | .putfield _ => n == 3
  | .getstatic _ => n == 3
  | .invokevirtual _ => n == 3
  | .invokestatic _ => n == 3
  | .invokespecial _ => n == 3
  | .new _ => n == 3
  | .anewarray _ => n == 3
  | .checkcast _ => n == 3
  | .iinc .. => n == 3
  | .ldc_w _ => n == 3
  | .ldc2_w _ => n == 3
  | _ => n == 1
def xbfld (own : String) (i : Nat) (aux : List Nat) : Bool := match aux with
  | ci :: k :: I :: _ => match decide (ci = 45) with
    | true => match xKF 45 k with
      | some (o, n, d) => xwd I (.fieldLink own i o n d)
      | none => false
    | false => match vwCl[ci]? with
      | some (_, T, N) => decide (k < N) && (xwd I (.fieldLink own i (T k).1 (T k).2.1 (T k).2.2.1) && (decide (ci ≠ 0) || decide (k < 2)))
      | none => false
  | [] => true
  | _ => false
def xbput (y : MethodName) (i : Nat) (aux : List Nat) : Bool := match aux with
  | ci :: k :: I :: _ => match vwCl[ci]? with
    | some (_, T, N) => decide (k < N) && (xwd I (.fieldLink y.cls i (T k).1 (T k).2.1 (T k).2.2.1) && (!(T k).2.2.2 || (decide (y.name = "<init>") && decide ((T k).1 = y.cls))))
    | none => false
  | [] => true
  | _ => false
def xbsta (own : String) (i : Nat) (aux : List Nat) : Bool := match aux with
  | j :: I :: nest :: _ => match xZn[j]? with
    | some (C, n, d) => match decide (nest = 0) with
      | true => xwd I (.fieldLink own i C n d)
      | false => xwd I (.fieldLinkNest own i C n d "RiverReaches")
    | none => false
  | [] => true
  | _ => false
def xbnew (own : String) (i : Nat) (aux : List Nat) : Bool := match aux with
  | 0 :: ci :: I :: I2 :: I3 :: _ => match vwCl[ci]? with
    | some (C, _, N) => xwd I (.classLink own i C) && (xwd I2 (.instantiable C N) && (xwd I3 (.initialized C) && (decide ((xnew0 ci).length = N) && decide (ci ≠ 2) && decide (ci ≠ 3))))
    | none => false
  | 1 :: E :: I :: I2 :: ic :: _ => match xEx[E]? with
    | some X => xwd I (.classLink own i X) && (xwd I2 (.initialized X) && decide (ic < 100000))
    | none => false
  | [] => true
  | _ => false
def xbarr (own : String) (i : Nat) (aux : List Nat) : Bool := match aux with
  | t :: I :: _ => decide (3 ≤ t) && (decide (t ≤ 6) && match xTy t with
    | .object C => xwd I (.classLink own i C)
    | _ => false)
  | [] => true
  | _ => false
def xbldc (own : String) (i : Nat) (aux : List Nat) : Bool := match aux with
  | 0 :: v :: I :: _ => xwd I (.constant own i (Int32.ofNat v))
  | 1 :: j :: _ => decide (20 ≤ j) && (decide (j % 2 = 0) && match xSt[(j - 20) / 2]? with
    | some (o, k, _) => decide (o = own) && decide (k = i)
    | none => false)
  | 2 :: v :: I :: _ => xwd I (.constantFloat own i (UInt32.ofNat v))
  | [] => true
  | _ => false
def xbld2 (own : String) (i : Nat) (aux : List Nat) : Bool := match aux with
  | 0 :: v :: I :: _ => xwd I (.constantLong own i (Int64.ofNat v))
  | 1 :: v :: I :: _ => xwd I (.constantDouble own i (UInt64.ofNat v))
  | [] => true
  | _ => false
theorem xbfld_spec {own : String} {i ci k : Nat} {r : List Nat} (hk : xbfld own i (ci :: k :: r) = true) : (ci = 45 ∧ ∃ I o n d, xKF 45 k = some (o, n, d) ∧ xwd I (.fieldLink own i o n d) = true) ∨ ∃ I C T N, vwCl[ci]? = some (C, T, N) ∧ k < N ∧ xwd I (.fieldLink own i (T k).1 (T k).2.1 (T k).2.2.1) = true ∧ (ci ≠ 0 ∨ k < 2) := by
  unfold xbfld at hk
  cases r with
  | nil => cases hk
  | cons I r =>
    dsimp only at hk
    split at hk
    · rename_i h45
      split at hk
      · rename_i o n d hf
        exact Or.inl ⟨of_decide_eq_true h45, I, o, n, d, hf, hk⟩
      · cases hk
    · split at hk
      · rename_i C T N hc
        simp only [Bool.and_eq_true, Bool.or_eq_true, decide_eq_true_eq] at hk
        exact Or.inr ⟨I, C, T, N, hc, hk.1, hk.2.1, hk.2.2⟩
      · cases hk
theorem xbput_spec {y : MethodName} {i ci k : Nat} {r : List Nat} (hk : xbput y i (ci :: k :: r) = true) : ∃ I C T N, vwCl[ci]? = some (C, T, N) ∧ k < N ∧ xwd I (.fieldLink y.cls i (T k).1 (T k).2.1 (T k).2.2.1) = true ∧ ((T k).2.2.2 = false ∨ ((T k).2.2.2 = true ∧ y.name = "<init>" ∧ (T k).1 = y.cls)) := by
  unfold xbput at hk
  cases r with
  | nil => cases hk
  | cons I r =>
    dsimp only at hk
    split at hk
    · rename_i C T N hc
      simp only [Bool.and_eq_true, Bool.or_eq_true, decide_eq_true_eq, Bool.not_eq_true'] at hk
      refine ⟨I, C, T, N, hc, hk.1, hk.2.1, ?_⟩
      rcases hk.2.2 with q | q
      · exact Or.inl q
      · cases hf : (T k).2.2.2 with
        | false => exact Or.inl rfl
        | true => exact Or.inr ⟨rfl, q⟩
    · cases hk
theorem xK_kinds (xs : List Int32) : (xK xs).all (fun q => decide (q.1 = 0) || decide (40 ≤ q.1)) = true := rfl
theorem xK_kind {xs : List Int32} {i k : Nat} {vs : List Value} (h : (xK xs)[i]? = some (k, vs)) : k = 0 ∨ 40 ≤ k := by
  have := List.all_eq_true.mp (xK_kinds xs) _ (List.mem_of_getElem? h)
  simpa using this
theorem xfit_fits {ty : FieldType} {v : Value} (h : xfit ty v = true) (ad : Nat → Nat) : fits ty (xcV ad v) = true := by
  unfold xfit at h
  split at h <;> first | rfl | (cases h; done) | (simp only [Bool.and_eq_true, Bool.or_eq_true, decide_eq_true_eq] at h; simp [xcV, fits, h])
