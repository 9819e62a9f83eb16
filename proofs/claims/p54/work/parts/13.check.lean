/-! WHAT A METHOD'S TABLE MUST SAY, AND THAT IT DOES -/
def xnp (y : MethodName) (n : Nat) : Bool := decide ((parseMethodDescriptor y.desc).map (fun d => d.parameters.length) = some n)
def xmh (y : MethodName) : Bool := decide (y.cls ≠ "java/lang/invoke/MethodHandle") && decide (y.cls ≠ "java/lang/invoke/VarHandle")
def xcw0 (M : xMi) : Cond := match M.2.2.2.2.1 with
  | [] => .code M.1 M.2.1 M.2.2.1 M.2.2.2.1
  | h :: t => .codeWith M.1 M.2.1 M.2.2.1 M.2.2.2.1 (h :: t)
def xbeq (a b : ByteArray) : Bool := decide (a.data.toList = b.data.toList)
theorem xbeq_eq {a b : ByteArray} (h : xbeq a b = true) : a = b := by
  have h := of_decide_eq_true h
  cases a; cases b
  exact congrArg ByteArray.mk (Array.toList_inj.mp h)
/-- the word of a method's code -/
def xwc (k : Nat) (M : xMi) : Bool := match xWd k with
  | some (.code y b n r) => M.2.2.2.2.1.isEmpty && (decide (y = M.1) && (xbeq b M.2.1 && (decide (n = M.2.2.1) && decide (r = M.2.2.2.1))))
  | some (.codeWith y b n r hh) => !M.2.2.2.2.1.isEmpty && (decide (hh = M.2.2.2.2.1) && (decide (y = M.1) && (xbeq b M.2.1 && (decide (n = M.2.2.1) && decide (r = M.2.2.2.1)))))
  | _ => false
theorem xwc_wd {k : Nat} {M : xMi} (h : xwc k M = true) : xwd k (xcw0 M) = true := by
  obtain ⟨y, b, n, r, hh, E, cs⟩ := M
  unfold xwc at h
  unfold xwd
  rcases hh with _ | ⟨a, t⟩
  · split at h
    · rename_i h0
      simp only [Bool.and_eq_true, decide_eq_true_eq] at h
      obtain ⟨-, rfl, h2, rfl, rfl⟩ := h
      cases xbeq_eq h2
      rw [h0]
      exact (Bool.and_eq_true _ _).mpr ⟨decide_eq_true rfl, rfl⟩
    · cases h
    · cases h
  · split at h
    · cases h
    · rename_i h0
      simp only [Bool.and_eq_true, decide_eq_true_eq] at h
      obtain ⟨-, rfl, rfl, h2, rfl, rfl⟩ := h
      cases xbeq_eq h2
      rw [h0]
      exact (Bool.and_eq_true _ _).mpr ⟨decide_eq_true rfl, rfl⟩
    · cases h
/-- the class of a kind of receivers -/
def xrcn (rc : Nat) (C : String) : Bool := match decide (rc = 45) with
  | true => decide (C = "RiverReaches$Kind")
  | false => match vwCl[rc]? with
    | some (D, _, _) => decide (C = D)
    | none => false
def xUx (U : Nat) : String := match U with
  | 0 => "java/lang/AbstractStringBuilder"
  | _ => "RiverReaches$Kind"
def xUo (U : Nat) : String := match U with
  | 0 => "java/lang/AbstractStringBuilder"
  | _ => "java/lang/Enum"
def xUc (U : Nat) : String := match U with
  | 0 => "java/lang/StringBuilder"
  | _ => "RiverReaches$Kind"
def xP0 (P : List Nat) (i : Nat) : Nat := P.getD i 4999
def xbvirt (own : String) (i : Nat) (aux : List Nat) : Bool := match aux with
  | [] => true
  | k :: r => match decide (k = 9) with
    | true => match r with
      | I :: _ => xwd I (.methodLink own i ⟨"[B", "clone", "()Ljava/lang/Object;"⟩)
      | [] => false
    | false => match r with
      | mi :: n :: I :: r => match xMs[mi]?, xPs[mi]? with
        | some M, some P => decide (M.2.2.2.2.1 = []) && (decide (0 < n) && (xnp M.1 (n - 1) && (xwd (xP0 P 2) (.instanceMethod M.1) && match decide (k = 0) with
          | true => match r with
            | rc :: _ => xwd I (.methodLink own i M.1) && (xwd (xP0 P 4) (.selects M.1.cls M.1 M.1) && xrcn rc M.1.cls)
            | [] => false
          | false => match r with
            | U :: J :: S :: mo :: _ => match xMs[mo]?, xPs[mo]? with
              | some Mo, some Po => decide (k = 3) && (decide (Mo.1 = ⟨xUo U, M.1.name, M.1.desc⟩) && (decide (Mo.2.2.2.2.1 = []) && (xwd (xP0 Po 2) (.instanceMethod Mo.1) && (xwc (xP0 Po 0) Mo && (xwd I (.methodLink own i ⟨xUx U, M.1.name, M.1.desc⟩) && (xwd J (.sameMethod (xUx U) (xUo U) M.1.name M.1.desc) && (xwd S (.selects (xUc U) ⟨xUx U, M.1.name, M.1.desc⟩ M.1) && decide (U ≤ 1))))))))
              | _, _ => false
            | _ => false)))
        | none, none => true
        | _, _ => false
      | _ => true
def xbstat (own : String) (i : Nat) (aux : List Nat) : Bool := match aux with
  | [] => true
  | k :: r => match decide (k = 8) with
    | true => match r with
      | I :: _ => xwd I (.methodLink own i arraycopyName)
      | [] => false
    | false => match decide (k = 10) with
      | true => match r with
        | I :: _ => xwd I (.methodLink own i ⟨"java/lang/Double", "doubleToRawLongBits", "(D)J"⟩)
        | [] => false
      | false => match decide (k = 11) with
        | true => match r with
          | I :: _ => xwd I (.methodLink own i ⟨"java/lang/Float", "floatToRawIntBits", "(F)I"⟩)
          | [] => false
        | false => match r with
          | mi :: n :: r => match xMs[mi]?, xPs[mi]? with
            | some M, some P => xnp M.1 n && (xwd (xP0 P 3) (.static M.1) && match r with
              | I :: _ => match decide (k = 1) with
                | true => xwd I (.methodLink own i M.1)
                | false => decide (k = 6) && (decide (M.2.2.2.2.1 = []) && xwd I (.methodLinkNest own i M.1 "RiverReaches"))
              | [] => false)
            | none, none => true
            | _, _ => false
          | _ => true
def xbspec (own : String) (i : Nat) (aux : List Nat) : Bool := match aux with
  | [] => true
  | k :: r => match decide (k = 7) with
    | true => match r with
      | I :: _ => xwd I (.methodLink own i Lib.objectInit)
      | [] => false
    | false => match r with
      | mi :: n :: r => match xMs[mi]?, xPs[mi]? with
        | some M, some P => decide (0 < n) && (xnp M.1 (n - 1) && (decide (M.2.2.2.2.1 = []) && (xwd (xP0 P 2) (.instanceMethod M.1) && match r with
          | I :: r => match decide (k = 4) with
            | true => match r with
              | J :: S :: _ => xwd I (.methodLink own i M.1) && (xwd J (.sameMethod M.1.cls M.1.cls M.1.name M.1.desc) && (xwd S (.superclass own M.1.cls) && decide (M.1.name ≠ "<init>")))
              | _ => false
            | false => decide (M.1.name = "<init>") && (decide (M.2.2.2.1 = none) && match decide (k = 2) with
              | true => xwd I (.methodLink own i M.1)
              | false => decide (k = 5) && xwd I (.methodLinkNest own i M.1 "RiverReaches"))
          | [] => false)))
        | none, none => true
        | _, _ => false
      | _ => true
/-- 'new; dup; invokespecial; athrow' -/
def xbthr (own : String) (bytes : ByteArray) (e : xE) : Bool := match e.2.2.2 with
  | 1 :: E :: _ :: _ :: ic :: _ => decide ((own, ic, E) ∈ xThr) && (decide (decode bytes (e.1 + 3) = .ok (.dup, 1)) && (decide (decode bytes (e.1 + 4) = .ok (.invokespecial ic, 3)) && decide (decode bytes (e.1 + 7) = .ok (.athrow, 1))))
  | _ => true
def xisNew (e : xE) : Bool := match e.2.2.2 with
  | 1 :: _ => true
  | _ => false
/-- an instruction's entry; hh: has the method handlers -/
def xchk (y : MethodName) (bytes : ByteArray) (hh : Bool) (e : xE) : Bool := decide (decode bytes e.1 = .ok (e.2.1, e.2.2.1)) && (xlen e.2.1 e.2.2.1 && match e.2.1 with
  | .getfield i => xbfld y.cls i e.2.2.2
  | .putfield i => xbput y i e.2.2.2
  | .getstatic i => xbsta y.cls i e.2.2.2
  | .new i => xbnew y.cls i e.2.2.2 && (xbthr y.cls bytes e && (!hh || !xisNew e))
  | .anewarray i => xbarr y.cls i e.2.2.2
  | .ldc i => xbldc y.cls i e.2.2.2
  | .ldc_w i => xbldc y.cls i e.2.2.2
  | .ldc2_w i => xbld2 y.cls i e.2.2.2
  | .checkcast i => match e.2.2.2 with
    | I :: _ => xwd I (.classLink y.cls i "[B")
    | [] => true
  | .ifCond _ o => decide (0 ≤ (e.1 : Int) + o)
  | .if_icmp _ o => decide (0 ≤ (e.1 : Int) + o)
  | .invokevirtual i => xbvirt y.cls i e.2.2.2
  | .invokestatic i => xbstat y.cls i e.2.2.2
  | .invokespecial i => xbspec y.cls i e.2.2.2
  | _ => true)
/-- the instructions lie one behind another -/
def xchain : List xE → Bool
  | [] => true
  | [_] => true
  | e :: f :: r => decide (f.1 = e.1 + e.2.2.1) && xchain (f :: r)
/-- the handlers' words -/
def xbhs (own : String) : List (Nat × Nat × Nat × Nat) → List Nat → List Nat → Bool
  | [], [], _ => true
  | (_, _, _, ct) :: hh, E :: Es, I :: Is => (match xEx[E]? with
    | some X => decide (ct ≠ 0) && xwd I (.classLink own ct X)
    | none => false) && xbhs own hh Es Is
  | _, _, _ => false
def xbm (M : xMi) (P : List Nat) : Bool := xwc (xP0 P 0) M && (xwd (xP0 P 1) (.initialized M.1.cls) && (xmh M.1 && (plainFor M.1 && (decide (M.2.2.1 ≤ 21) && (xchain M.2.2.2.2.2.2 && (decide ((M.2.2.2.2.2.2.map fun e => e.1).head? = some 0) && (xbhs M.1.cls M.2.2.2.2.1 M.2.2.2.2.2.1 (P.drop 5) && M.2.2.2.2.2.2.all (xchk M.1 M.2.1 (!M.2.2.2.2.1.isEmpty)))))))))
theorem xPs_len : xMs.length = xPs.length := by decide +kernel
theorem xthr_ok : xThr.all (fun q => match xEx[q.2.2]? with
  | some X => Bundle.fit X && (vx_at0 q.1 q.2.1 X ["java/lang/RuntimeException", "java/lang/Exception"]).all (fun w => decide (w ∈ lw_tbl) && xgd w)
  | none => false) = true := by decide +kernel
theorem xcast_ok : xEx.all (fun X => decide (Cond.castable X X ∈ lw_tbl)) = true := by decide +kernel
/-- the law's own table -/
theorem xlaw_ok : (xcL_law.all (xchk yL_law code false) && xchain xcL_law) = true := by decide +kernel
