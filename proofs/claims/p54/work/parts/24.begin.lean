/-! WHAT HOLDS AT THE LAW'S START -/
def xN0 : List Cond := flatC (Jvm.Cond.and given_1 narrow_1)
def xN1 : List Cond := xN0.drop 16
def xN2 : List Cond := xN1.drop 16
def xN3 : List Cond := xN2.drop 16
def xN4 : List Cond := xN3.drop 16
def xN5 : List Cond := xN4.drop 16
def xN6 : List Cond := xN5.drop 16
def xN7 : List Cond := xN6.drop 16
def xN8 : List Cond := xN7.drop 16
def xN9 : List Cond := xN8.drop 16
def xN10 : List Cond := xN9.drop 16
def xN11 : List Cond := xN10.drop 16
def xN12 : List Cond := xN11.drop 16
def xN13 : List Cond := xN12.drop 16
def xN14 : List Cond := xN13.drop 16
def xN15 : List Cond := xN14.drop 16
def xN16 : List Cond := xN15.drop 16
def xN17 : List Cond := xN16.drop 16
def xN18 : List Cond := xN17.drop 16
def xN19 : List Cond := xN18.drop 16
def xN20 : List Cond := xN19.drop 16
def xN21 : List Cond := xN20.drop 16
def xN22 : List Cond := xN21.drop 16
def xN23 : List Cond := xN22.drop 16
def xN24 : List Cond := xN23.drop 16
def xN25 : List Cond := xN24.drop 16
def xN26 : List Cond := xN25.drop 16
def xN27 : List Cond := xN26.drop 16
def xN28 : List Cond := xN27.drop 16
def xN29 : List Cond := xN28.drop 16
def xN30 : List Cond := xN29.drop 16
def xN31 : List Cond := xN30.drop 16
def xN32 : List Cond := xN31.drop 16
def xN33 : List Cond := xN32.drop 16
def xN34 : List Cond := xN33.drop 16
def xN35 : List Cond := xN34.drop 16
def xN36 : List Cond := xN35.drop 16
def xN37 : List Cond := xN36.drop 16
def xN38 : List Cond := xN37.drop 16
def xN39 : List Cond := xN38.drop 16
def xN40 : List Cond := xN39.drop 16
def xN41 : List Cond := xN40.drop 16
def xN42 : List Cond := xN41.drop 16
def xN43 : List Cond := xN42.drop 16
def xN44 : List Cond := xN43.drop 16
def xN45 : List Cond := xN44.drop 16
def xN46 : List Cond := xN45.drop 16
def xN47 : List Cond := xN46.drop 16
def xN48 : List Cond := xN47.drop 16
def xN49 : List Cond := xN48.drop 16
def xN50 : List Cond := xN49.drop 16
def xN51 : List Cond := xN50.drop 16
def xN52 : List Cond := xN51.drop 16
def xN53 : List Cond := xN52.drop 16
def xN54 : List Cond := xN53.drop 16
def xNs : List (List (List Cond)) := [[xN0, xN1, xN2, xN3, xN4, xN5, xN6, xN7, xN8, xN9, xN10, xN11, xN12, xN13, xN14, xN15], [xN16, xN17, xN18, xN19, xN20, xN21, xN22, xN23, xN24, xN25, xN26, xN27, xN28, xN29, xN30, xN31], [xN32, xN33, xN34, xN35, xN36, xN37, xN38, xN39, xN40, xN41, xN42, xN43, xN44, xN45, xN46, xN47], [xN48, xN49, xN50, xN51, xN52, xN53, xN54]]
theorem xN0_in : ∀ w ∈ xN0, w ∈ flatC (Jvm.Cond.and given_1 narrow_1) := fun _ h => h
theorem xN1_in : ∀ w ∈ xN1, w ∈ flatC (Jvm.Cond.and given_1 narrow_1) := fun w h => xN0_in w (List.mem_of_mem_drop h)
theorem xN2_in : ∀ w ∈ xN2, w ∈ flatC (Jvm.Cond.and given_1 narrow_1) := fun w h => xN1_in w (List.mem_of_mem_drop h)
theorem xN3_in : ∀ w ∈ xN3, w ∈ flatC (Jvm.Cond.and given_1 narrow_1) := fun w h => xN2_in w (List.mem_of_mem_drop h)
theorem xN4_in : ∀ w ∈ xN4, w ∈ flatC (Jvm.Cond.and given_1 narrow_1) := fun w h => xN3_in w (List.mem_of_mem_drop h)
theorem xN5_in : ∀ w ∈ xN5, w ∈ flatC (Jvm.Cond.and given_1 narrow_1) := fun w h => xN4_in w (List.mem_of_mem_drop h)
theorem xN6_in : ∀ w ∈ xN6, w ∈ flatC (Jvm.Cond.and given_1 narrow_1) := fun w h => xN5_in w (List.mem_of_mem_drop h)
theorem xN7_in : ∀ w ∈ xN7, w ∈ flatC (Jvm.Cond.and given_1 narrow_1) := fun w h => xN6_in w (List.mem_of_mem_drop h)
theorem xN8_in : ∀ w ∈ xN8, w ∈ flatC (Jvm.Cond.and given_1 narrow_1) := fun w h => xN7_in w (List.mem_of_mem_drop h)
theorem xN9_in : ∀ w ∈ xN9, w ∈ flatC (Jvm.Cond.and given_1 narrow_1) := fun w h => xN8_in w (List.mem_of_mem_drop h)
theorem xN10_in : ∀ w ∈ xN10, w ∈ flatC (Jvm.Cond.and given_1 narrow_1) := fun w h => xN9_in w (List.mem_of_mem_drop h)
theorem xN11_in : ∀ w ∈ xN11, w ∈ flatC (Jvm.Cond.and given_1 narrow_1) := fun w h => xN10_in w (List.mem_of_mem_drop h)
theorem xN12_in : ∀ w ∈ xN12, w ∈ flatC (Jvm.Cond.and given_1 narrow_1) := fun w h => xN11_in w (List.mem_of_mem_drop h)
theorem xN13_in : ∀ w ∈ xN13, w ∈ flatC (Jvm.Cond.and given_1 narrow_1) := fun w h => xN12_in w (List.mem_of_mem_drop h)
theorem xN14_in : ∀ w ∈ xN14, w ∈ flatC (Jvm.Cond.and given_1 narrow_1) := fun w h => xN13_in w (List.mem_of_mem_drop h)
theorem xN15_in : ∀ w ∈ xN15, w ∈ flatC (Jvm.Cond.and given_1 narrow_1) := fun w h => xN14_in w (List.mem_of_mem_drop h)
theorem xN16_in : ∀ w ∈ xN16, w ∈ flatC (Jvm.Cond.and given_1 narrow_1) := fun w h => xN15_in w (List.mem_of_mem_drop h)
theorem xN17_in : ∀ w ∈ xN17, w ∈ flatC (Jvm.Cond.and given_1 narrow_1) := fun w h => xN16_in w (List.mem_of_mem_drop h)
theorem xN18_in : ∀ w ∈ xN18, w ∈ flatC (Jvm.Cond.and given_1 narrow_1) := fun w h => xN17_in w (List.mem_of_mem_drop h)
theorem xN19_in : ∀ w ∈ xN19, w ∈ flatC (Jvm.Cond.and given_1 narrow_1) := fun w h => xN18_in w (List.mem_of_mem_drop h)
theorem xN20_in : ∀ w ∈ xN20, w ∈ flatC (Jvm.Cond.and given_1 narrow_1) := fun w h => xN19_in w (List.mem_of_mem_drop h)
theorem xN21_in : ∀ w ∈ xN21, w ∈ flatC (Jvm.Cond.and given_1 narrow_1) := fun w h => xN20_in w (List.mem_of_mem_drop h)
theorem xN22_in : ∀ w ∈ xN22, w ∈ flatC (Jvm.Cond.and given_1 narrow_1) := fun w h => xN21_in w (List.mem_of_mem_drop h)
theorem xN23_in : ∀ w ∈ xN23, w ∈ flatC (Jvm.Cond.and given_1 narrow_1) := fun w h => xN22_in w (List.mem_of_mem_drop h)
theorem xN24_in : ∀ w ∈ xN24, w ∈ flatC (Jvm.Cond.and given_1 narrow_1) := fun w h => xN23_in w (List.mem_of_mem_drop h)
theorem xN25_in : ∀ w ∈ xN25, w ∈ flatC (Jvm.Cond.and given_1 narrow_1) := fun w h => xN24_in w (List.mem_of_mem_drop h)
theorem xN26_in : ∀ w ∈ xN26, w ∈ flatC (Jvm.Cond.and given_1 narrow_1) := fun w h => xN25_in w (List.mem_of_mem_drop h)
theorem xN27_in : ∀ w ∈ xN27, w ∈ flatC (Jvm.Cond.and given_1 narrow_1) := fun w h => xN26_in w (List.mem_of_mem_drop h)
theorem xN28_in : ∀ w ∈ xN28, w ∈ flatC (Jvm.Cond.and given_1 narrow_1) := fun w h => xN27_in w (List.mem_of_mem_drop h)
theorem xN29_in : ∀ w ∈ xN29, w ∈ flatC (Jvm.Cond.and given_1 narrow_1) := fun w h => xN28_in w (List.mem_of_mem_drop h)
theorem xN30_in : ∀ w ∈ xN30, w ∈ flatC (Jvm.Cond.and given_1 narrow_1) := fun w h => xN29_in w (List.mem_of_mem_drop h)
theorem xN31_in : ∀ w ∈ xN31, w ∈ flatC (Jvm.Cond.and given_1 narrow_1) := fun w h => xN30_in w (List.mem_of_mem_drop h)
theorem xN32_in : ∀ w ∈ xN32, w ∈ flatC (Jvm.Cond.and given_1 narrow_1) := fun w h => xN31_in w (List.mem_of_mem_drop h)
theorem xN33_in : ∀ w ∈ xN33, w ∈ flatC (Jvm.Cond.and given_1 narrow_1) := fun w h => xN32_in w (List.mem_of_mem_drop h)
theorem xN34_in : ∀ w ∈ xN34, w ∈ flatC (Jvm.Cond.and given_1 narrow_1) := fun w h => xN33_in w (List.mem_of_mem_drop h)
theorem xN35_in : ∀ w ∈ xN35, w ∈ flatC (Jvm.Cond.and given_1 narrow_1) := fun w h => xN34_in w (List.mem_of_mem_drop h)
theorem xN36_in : ∀ w ∈ xN36, w ∈ flatC (Jvm.Cond.and given_1 narrow_1) := fun w h => xN35_in w (List.mem_of_mem_drop h)
theorem xN37_in : ∀ w ∈ xN37, w ∈ flatC (Jvm.Cond.and given_1 narrow_1) := fun w h => xN36_in w (List.mem_of_mem_drop h)
theorem xN38_in : ∀ w ∈ xN38, w ∈ flatC (Jvm.Cond.and given_1 narrow_1) := fun w h => xN37_in w (List.mem_of_mem_drop h)
theorem xN39_in : ∀ w ∈ xN39, w ∈ flatC (Jvm.Cond.and given_1 narrow_1) := fun w h => xN38_in w (List.mem_of_mem_drop h)
theorem xN40_in : ∀ w ∈ xN40, w ∈ flatC (Jvm.Cond.and given_1 narrow_1) := fun w h => xN39_in w (List.mem_of_mem_drop h)
theorem xN41_in : ∀ w ∈ xN41, w ∈ flatC (Jvm.Cond.and given_1 narrow_1) := fun w h => xN40_in w (List.mem_of_mem_drop h)
theorem xN42_in : ∀ w ∈ xN42, w ∈ flatC (Jvm.Cond.and given_1 narrow_1) := fun w h => xN41_in w (List.mem_of_mem_drop h)
theorem xN43_in : ∀ w ∈ xN43, w ∈ flatC (Jvm.Cond.and given_1 narrow_1) := fun w h => xN42_in w (List.mem_of_mem_drop h)
theorem xN44_in : ∀ w ∈ xN44, w ∈ flatC (Jvm.Cond.and given_1 narrow_1) := fun w h => xN43_in w (List.mem_of_mem_drop h)
theorem xN45_in : ∀ w ∈ xN45, w ∈ flatC (Jvm.Cond.and given_1 narrow_1) := fun w h => xN44_in w (List.mem_of_mem_drop h)
theorem xN46_in : ∀ w ∈ xN46, w ∈ flatC (Jvm.Cond.and given_1 narrow_1) := fun w h => xN45_in w (List.mem_of_mem_drop h)
theorem xN47_in : ∀ w ∈ xN47, w ∈ flatC (Jvm.Cond.and given_1 narrow_1) := fun w h => xN46_in w (List.mem_of_mem_drop h)
theorem xN48_in : ∀ w ∈ xN48, w ∈ flatC (Jvm.Cond.and given_1 narrow_1) := fun w h => xN47_in w (List.mem_of_mem_drop h)
theorem xN49_in : ∀ w ∈ xN49, w ∈ flatC (Jvm.Cond.and given_1 narrow_1) := fun w h => xN48_in w (List.mem_of_mem_drop h)
theorem xN50_in : ∀ w ∈ xN50, w ∈ flatC (Jvm.Cond.and given_1 narrow_1) := fun w h => xN49_in w (List.mem_of_mem_drop h)
theorem xN51_in : ∀ w ∈ xN51, w ∈ flatC (Jvm.Cond.and given_1 narrow_1) := fun w h => xN50_in w (List.mem_of_mem_drop h)
theorem xN52_in : ∀ w ∈ xN52, w ∈ flatC (Jvm.Cond.and given_1 narrow_1) := fun w h => xN51_in w (List.mem_of_mem_drop h)
theorem xN53_in : ∀ w ∈ xN53, w ∈ flatC (Jvm.Cond.and given_1 narrow_1) := fun w h => xN52_in w (List.mem_of_mem_drop h)
theorem xN54_in : ∀ w ∈ xN54, w ∈ flatC (Jvm.Cond.and given_1 narrow_1) := fun w h => xN53_in w (List.mem_of_mem_drop h)
theorem xNu0_in : ∀ t ∈ ([xN0, xN1, xN2, xN3, xN4, xN5, xN6, xN7, xN8, xN9, xN10, xN11, xN12, xN13, xN14, xN15] : List (List Cond)), ∀ w ∈ t, w ∈ flatC (Jvm.Cond.and given_1 narrow_1) := List.forall_mem_cons.mpr ⟨xN0_in, List.forall_mem_cons.mpr ⟨xN1_in, List.forall_mem_cons.mpr ⟨xN2_in, List.forall_mem_cons.mpr ⟨xN3_in, List.forall_mem_cons.mpr ⟨xN4_in, List.forall_mem_cons.mpr ⟨xN5_in, List.forall_mem_cons.mpr ⟨xN6_in, List.forall_mem_cons.mpr ⟨xN7_in, List.forall_mem_cons.mpr ⟨xN8_in, List.forall_mem_cons.mpr ⟨xN9_in, List.forall_mem_cons.mpr ⟨xN10_in, List.forall_mem_cons.mpr ⟨xN11_in, List.forall_mem_cons.mpr ⟨xN12_in, List.forall_mem_cons.mpr ⟨xN13_in, List.forall_mem_cons.mpr ⟨xN14_in, List.forall_mem_cons.mpr ⟨xN15_in, fun _ h => absurd h List.not_mem_nil⟩⟩⟩⟩⟩⟩⟩⟩⟩⟩⟩⟩⟩⟩⟩⟩
theorem xNu1_in : ∀ t ∈ ([xN16, xN17, xN18, xN19, xN20, xN21, xN22, xN23, xN24, xN25, xN26, xN27, xN28, xN29, xN30, xN31] : List (List Cond)), ∀ w ∈ t, w ∈ flatC (Jvm.Cond.and given_1 narrow_1) := List.forall_mem_cons.mpr ⟨xN16_in, List.forall_mem_cons.mpr ⟨xN17_in, List.forall_mem_cons.mpr ⟨xN18_in, List.forall_mem_cons.mpr ⟨xN19_in, List.forall_mem_cons.mpr ⟨xN20_in, List.forall_mem_cons.mpr ⟨xN21_in, List.forall_mem_cons.mpr ⟨xN22_in, List.forall_mem_cons.mpr ⟨xN23_in, List.forall_mem_cons.mpr ⟨xN24_in, List.forall_mem_cons.mpr ⟨xN25_in, List.forall_mem_cons.mpr ⟨xN26_in, List.forall_mem_cons.mpr ⟨xN27_in, List.forall_mem_cons.mpr ⟨xN28_in, List.forall_mem_cons.mpr ⟨xN29_in, List.forall_mem_cons.mpr ⟨xN30_in, List.forall_mem_cons.mpr ⟨xN31_in, fun _ h => absurd h List.not_mem_nil⟩⟩⟩⟩⟩⟩⟩⟩⟩⟩⟩⟩⟩⟩⟩⟩
theorem xNu2_in : ∀ t ∈ ([xN32, xN33, xN34, xN35, xN36, xN37, xN38, xN39, xN40, xN41, xN42, xN43, xN44, xN45, xN46, xN47] : List (List Cond)), ∀ w ∈ t, w ∈ flatC (Jvm.Cond.and given_1 narrow_1) := List.forall_mem_cons.mpr ⟨xN32_in, List.forall_mem_cons.mpr ⟨xN33_in, List.forall_mem_cons.mpr ⟨xN34_in, List.forall_mem_cons.mpr ⟨xN35_in, List.forall_mem_cons.mpr ⟨xN36_in, List.forall_mem_cons.mpr ⟨xN37_in, List.forall_mem_cons.mpr ⟨xN38_in, List.forall_mem_cons.mpr ⟨xN39_in, List.forall_mem_cons.mpr ⟨xN40_in, List.forall_mem_cons.mpr ⟨xN41_in, List.forall_mem_cons.mpr ⟨xN42_in, List.forall_mem_cons.mpr ⟨xN43_in, List.forall_mem_cons.mpr ⟨xN44_in, List.forall_mem_cons.mpr ⟨xN45_in, List.forall_mem_cons.mpr ⟨xN46_in, List.forall_mem_cons.mpr ⟨xN47_in, fun _ h => absurd h List.not_mem_nil⟩⟩⟩⟩⟩⟩⟩⟩⟩⟩⟩⟩⟩⟩⟩⟩
theorem xNu3_in : ∀ t ∈ ([xN48, xN49, xN50, xN51, xN52, xN53, xN54] : List (List Cond)), ∀ w ∈ t, w ∈ flatC (Jvm.Cond.and given_1 narrow_1) := List.forall_mem_cons.mpr ⟨xN48_in, List.forall_mem_cons.mpr ⟨xN49_in, List.forall_mem_cons.mpr ⟨xN50_in, List.forall_mem_cons.mpr ⟨xN51_in, List.forall_mem_cons.mpr ⟨xN52_in, List.forall_mem_cons.mpr ⟨xN53_in, List.forall_mem_cons.mpr ⟨xN54_in, fun _ h => absurd h List.not_mem_nil⟩⟩⟩⟩⟩⟩⟩
theorem xNs_in : ∀ u ∈ xNs, ∀ t ∈ u, ∀ w ∈ t, w ∈ flatC (Jvm.Cond.and given_1 narrow_1) := List.forall_mem_cons.mpr ⟨xNu0_in, List.forall_mem_cons.mpr ⟨xNu1_in, List.forall_mem_cons.mpr ⟨xNu2_in, List.forall_mem_cons.mpr ⟨xNu3_in, fun _ h => absurd h List.not_mem_nil⟩⟩⟩⟩
def xNt (k : Nat) : Option Cond := match xNs[k / 256]? with
  | some u => match u[k / 16 % 16]? with
    | some t => t[k % 16]?
    | none => none
  | none => none
theorem xNt_in {k : Nat} {w : Cond} (h : xNt k = some w) : w ∈ flatC (Jvm.Cond.and given_1 narrow_1) := by
  unfold xNt at h
  split at h
  · rename_i u hu
    split at h
    · rename_i t ht
      exact xNs_in u (List.mem_of_getElem? hu) t (List.mem_of_getElem? ht) w (List.mem_of_getElem? h)
    · cases h
  · cases h
def xnb (k : Nat) (w : Cond) : Bool := decide (xNt k = some w)
def xTs (j : Nat) : Term := match xSt[j]? with
  | some (o, i, _) => .string o i
  | none => .arg 0
/-- the terms that name the constants -/
def xTk : List Term := [.arg 0, .static "RiverReaches$Kind" "REACH" "LRiverReaches$Kind;", .static "RiverReaches$Kind" "CUT" "LRiverReaches$Kind;", .static "RiverReaches$Kind" "LATERAL" "LRiverReaches$Kind;", .static "RiverReaches$Kind" "FILL" "LRiverReaches$Kind;", .static "RiverReaches$Kind" "STAGES" "LRiverReaches$Kind;", .static "RiverReaches$Kind" "GATE" "LRiverReaches$Kind;", .static "RiverReaches$Kind" "RULE" "LRiverReaches$Kind;", .static "RiverReaches$Kind" "PULSE" "LRiverReaches$Kind;", .static "RiverReaches$Kind" "PASS" "LRiverReaches$Kind;", .static "RiverReaches" "KINDS" "[LRiverReaches$Kind;", .static "RiverReaches$1" "$SwitchMap$RiverReaches$Kind" "[I", .static "java/lang/Integer" "DigitOnes" "[B", .static "java/lang/Integer" "DigitTens" "[B"]
def xTm (i : Nat) : Term := match decide (i < 14) with
  | true => xTk.getD i (.arg 0)
  | false => match decide (i = 999999) with
    | true => .static "jdk/internal/util/Preconditions" "SIOOBE_FORMATTER" "Ljava/util/function/BiFunction;"
    | false => match decide (i % 2 = 0) with
      | true => xTs ((i - 20) / 2)
      | false => .field (xTs ((i - 20) / 2)) "java/lang/String" "value" "[B"
def xNi : List Nat := [0, 247, 4, 252, 258, 265, 273, 282, 292, 303, 13, 30, 42, 145, 0, 0, 0, 0, 0, 0, 497, 499, 528, 530, 535, 537, 549, 551, 565, 567, 570, 572, 600, 602, 608, 610, 624, 626, 630, 632, 655, 657, 661, 663, 666, 668, 694, 696, 717, 719, 724, 726, 728, 730, 738, 740, 745, 747, 757, 759, 763, 765, 772, 774, 783, 785, 790, 792, 799, 801, 808, 810, 814, 816, 824, 826, 833, 835]
/-- a reference to a constant that has an address -/
def xvr (a : Nat) : Bool := decide (1000001 ≤ a) && match (xK [])[a - 1000000]? with
  | some q => decide (q.1 ≠ 40)
  | none => false
def xkel (i e j : Nat) (v : Option Value) : Bool := match v with
  | some (.int x) => xnb (e + j) (.eq (.elem (xTm i) (.int (Int32.ofNat j))) (.int x))
  | some (.ref a) => xvr a && xnb (e + j) (.eq (.elem (xTm i) (.int (Int32.ofNat j))) (xTm (a - 1000000)))
  | _ => false
def xkb (i e : Nat) (q : Nat × List Value) : Bool := match q.1 with
  | 0 => xnb e (.exactly (xTm i) "java/lang/String") && (xnb (e + 1) (.eq (.field (xTm i) "java/lang/String" "coder" "B") (.int 0)) && (decide (q.2 = [.ref (1000001 + i), .int 0, .retAddr 0, .retAddr 0]) && (xvr (1000001 + i) && decide (xTm (1 + i) = .field (xTm i) "java/lang/String" "value" "[B"))))
  | 40 => true
  | 45 => xnb e (.exactly (xTm i) "RiverReaches$Kind") && match q.2 with
    | [.ref w, .ref p, .int n] => xnb (e + 1) (.eq (.field (xTm i) "java/lang/Enum" "ordinal" "I") (.int n)) && (xvr w && (xvr p && (xnb (e + 2) (.eq (.field (xTm i) "RiverReaches$Kind" "word" "Ljava/lang/String;") (xTm (w - 1000000))) && xnb (e + 3) (.eq (.field (xTm i) "RiverReaches$Kind" "parameters" "Ljava/lang/String;") (xTm (p - 1000000))))))
    | _ => false
  | k => decide (50 ≤ k) && (decide (q.2.length < 2147483648) && (xnb e (.arrayOf (xTm i) (xTy (k - 50))) && (xnb (e + 1) (.eq (.length (xTm i)) (.int (Int32.ofNat q.2.length))) && (List.range q.2.length).all fun j => xkel i (if k = 57 then e + 3 else e + 2) j q.2[j]?)))
def xkc (i : Nat) : Bool := match (xK [])[i]?, xNi[i]? with
  | some q, some e => xkb i e q
  | _, _ => false
theorem xkc_1 : xkc 1 = true := by decide +kernel
theorem xkc_2 : xkc 2 = true := by decide +kernel
theorem xkc_3 : xkc 3 = true := by decide +kernel
theorem xkc_4 : xkc 4 = true := by decide +kernel
theorem xkc_5 : xkc 5 = true := by decide +kernel
theorem xkc_6 : xkc 6 = true := by decide +kernel
theorem xkc_7 : xkc 7 = true := by decide +kernel
theorem xkc_8 : xkc 8 = true := by decide +kernel
theorem xkc_9 : xkc 9 = true := by decide +kernel
theorem xkc_10 : xkc 10 = true := by decide +kernel
theorem xkc_11 : xkc 11 = true := by decide +kernel
theorem xkc_12 : xkc 12 = true := by decide +kernel
theorem xkc_13 : xkc 13 = true := by decide +kernel
theorem xkc_14 : xkc 14 = true := by decide +kernel
theorem xkc_15 : xkc 15 = true := by decide +kernel
theorem xkc_16 : xkc 16 = true := by decide +kernel
theorem xkc_17 : xkc 17 = true := by decide +kernel
theorem xkc_18 : xkc 18 = true := by decide +kernel
theorem xkc_19 : xkc 19 = true := by decide +kernel
theorem xkc_20 : xkc 20 = true := by decide +kernel
theorem xkc_21 : xkc 21 = true := by decide +kernel
theorem xkc_22 : xkc 22 = true := by decide +kernel
theorem xkc_23 : xkc 23 = true := by decide +kernel
theorem xkc_24 : xkc 24 = true := by decide +kernel
theorem xkc_25 : xkc 25 = true := by decide +kernel
theorem xkc_26 : xkc 26 = true := by decide +kernel
theorem xkc_27 : xkc 27 = true := by decide +kernel
theorem xkc_28 : xkc 28 = true := by decide +kernel
theorem xkc_29 : xkc 29 = true := by decide +kernel
theorem xkc_30 : xkc 30 = true := by decide +kernel
theorem xkc_31 : xkc 31 = true := by decide +kernel
theorem xkc_32 : xkc 32 = true := by decide +kernel
theorem xkc_33 : xkc 33 = true := by decide +kernel
theorem xkc_34 : xkc 34 = true := by decide +kernel
theorem xkc_35 : xkc 35 = true := by decide +kernel
theorem xkc_36 : xkc 36 = true := by decide +kernel
theorem xkc_37 : xkc 37 = true := by decide +kernel
theorem xkc_38 : xkc 38 = true := by decide +kernel
theorem xkc_39 : xkc 39 = true := by decide +kernel
theorem xkc_40 : xkc 40 = true := by decide +kernel
theorem xkc_41 : xkc 41 = true := by decide +kernel
theorem xkc_42 : xkc 42 = true := by decide +kernel
theorem xkc_43 : xkc 43 = true := by decide +kernel
theorem xkc_44 : xkc 44 = true := by decide +kernel
theorem xkc_45 : xkc 45 = true := by decide +kernel
theorem xkc_46 : xkc 46 = true := by decide +kernel
theorem xkc_47 : xkc 47 = true := by decide +kernel
theorem xkc_48 : xkc 48 = true := by decide +kernel
theorem xkc_49 : xkc 49 = true := by decide +kernel
theorem xkc_50 : xkc 50 = true := by decide +kernel
theorem xkc_51 : xkc 51 = true := by decide +kernel
theorem xkc_52 : xkc 52 = true := by decide +kernel
theorem xkc_53 : xkc 53 = true := by decide +kernel
theorem xkc_54 : xkc 54 = true := by decide +kernel
theorem xkc_55 : xkc 55 = true := by decide +kernel
theorem xkc_56 : xkc 56 = true := by decide +kernel
theorem xkc_57 : xkc 57 = true := by decide +kernel
theorem xkc_58 : xkc 58 = true := by decide +kernel
theorem xkc_59 : xkc 59 = true := by decide +kernel
theorem xkc_60 : xkc 60 = true := by decide +kernel
theorem xkc_61 : xkc 61 = true := by decide +kernel
theorem xkc_62 : xkc 62 = true := by decide +kernel
theorem xkc_63 : xkc 63 = true := by decide +kernel
theorem xkc_64 : xkc 64 = true := by decide +kernel
theorem xkc_65 : xkc 65 = true := by decide +kernel
theorem xkc_66 : xkc 66 = true := by decide +kernel
theorem xkc_67 : xkc 67 = true := by decide +kernel
theorem xkc_68 : xkc 68 = true := by decide +kernel
theorem xkc_69 : xkc 69 = true := by decide +kernel
theorem xkc_70 : xkc 70 = true := by decide +kernel
theorem xkc_71 : xkc 71 = true := by decide +kernel
theorem xkc_72 : xkc 72 = true := by decide +kernel
theorem xkc_73 : xkc 73 = true := by decide +kernel
theorem xkc_74 : xkc 74 = true := by decide +kernel
theorem xkc_75 : xkc 75 = true := by decide +kernel
theorem xkc_76 : xkc 76 = true := by decide +kernel
theorem xkc_77 : xkc 77 = true := by decide +kernel
theorem xkc_all : ∀ i ∈ [1, 2, 3, 4, 5, 6, 7, 8, 9, 10, 11, 12, 13, 14, 15, 16, 17, 18, 19, 20, 21, 22, 23, 24, 25, 26, 27, 28, 29, 30, 31, 32, 33, 34, 35, 36, 37, 38, 39, 40, 41, 42, 43, 44, 45, 46, 47, 48, 49, 50, 51, 52, 53, 54, 55, 56, 57, 58, 59, 60, 61, 62, 63, 64, 65, 66, 67, 68, 69, 70, 71, 72, 73, 74, 75, 76, 77], xkc i = true := List.forall_mem_cons.mpr ⟨xkc_1, List.forall_mem_cons.mpr ⟨xkc_2, List.forall_mem_cons.mpr ⟨xkc_3, List.forall_mem_cons.mpr ⟨xkc_4, List.forall_mem_cons.mpr ⟨xkc_5, List.forall_mem_cons.mpr ⟨xkc_6, List.forall_mem_cons.mpr ⟨xkc_7, List.forall_mem_cons.mpr ⟨xkc_8, List.forall_mem_cons.mpr ⟨xkc_9, List.forall_mem_cons.mpr ⟨xkc_10, List.forall_mem_cons.mpr ⟨xkc_11, List.forall_mem_cons.mpr ⟨xkc_12, List.forall_mem_cons.mpr ⟨xkc_13, List.forall_mem_cons.mpr ⟨xkc_14, List.forall_mem_cons.mpr ⟨xkc_15, List.forall_mem_cons.mpr ⟨xkc_16, List.forall_mem_cons.mpr ⟨xkc_17, List.forall_mem_cons.mpr ⟨xkc_18, List.forall_mem_cons.mpr ⟨xkc_19, List.forall_mem_cons.mpr ⟨xkc_20, List.forall_mem_cons.mpr ⟨xkc_21, List.forall_mem_cons.mpr ⟨xkc_22, List.forall_mem_cons.mpr ⟨xkc_23, List.forall_mem_cons.mpr ⟨xkc_24, List.forall_mem_cons.mpr ⟨xkc_25, List.forall_mem_cons.mpr ⟨xkc_26, List.forall_mem_cons.mpr ⟨xkc_27, List.forall_mem_cons.mpr ⟨xkc_28, List.forall_mem_cons.mpr ⟨xkc_29, List.forall_mem_cons.mpr ⟨xkc_30, List.forall_mem_cons.mpr ⟨xkc_31, List.forall_mem_cons.mpr ⟨xkc_32, List.forall_mem_cons.mpr ⟨xkc_33, List.forall_mem_cons.mpr ⟨xkc_34, List.forall_mem_cons.mpr ⟨xkc_35, List.forall_mem_cons.mpr ⟨xkc_36, List.forall_mem_cons.mpr ⟨xkc_37, List.forall_mem_cons.mpr ⟨xkc_38, List.forall_mem_cons.mpr ⟨xkc_39, List.forall_mem_cons.mpr ⟨xkc_40, List.forall_mem_cons.mpr ⟨xkc_41, List.forall_mem_cons.mpr ⟨xkc_42, List.forall_mem_cons.mpr ⟨xkc_43, List.forall_mem_cons.mpr ⟨xkc_44, List.forall_mem_cons.mpr ⟨xkc_45, List.forall_mem_cons.mpr ⟨xkc_46, List.forall_mem_cons.mpr ⟨xkc_47, List.forall_mem_cons.mpr ⟨xkc_48, List.forall_mem_cons.mpr ⟨xkc_49, List.forall_mem_cons.mpr ⟨xkc_50, List.forall_mem_cons.mpr ⟨xkc_51, List.forall_mem_cons.mpr ⟨xkc_52, List.forall_mem_cons.mpr ⟨xkc_53, List.forall_mem_cons.mpr ⟨xkc_54, List.forall_mem_cons.mpr ⟨xkc_55, List.forall_mem_cons.mpr ⟨xkc_56, List.forall_mem_cons.mpr ⟨xkc_57, List.forall_mem_cons.mpr ⟨xkc_58, List.forall_mem_cons.mpr ⟨xkc_59, List.forall_mem_cons.mpr ⟨xkc_60, List.forall_mem_cons.mpr ⟨xkc_61, List.forall_mem_cons.mpr ⟨xkc_62, List.forall_mem_cons.mpr ⟨xkc_63, List.forall_mem_cons.mpr ⟨xkc_64, List.forall_mem_cons.mpr ⟨xkc_65, List.forall_mem_cons.mpr ⟨xkc_66, List.forall_mem_cons.mpr ⟨xkc_67, List.forall_mem_cons.mpr ⟨xkc_68, List.forall_mem_cons.mpr ⟨xkc_69, List.forall_mem_cons.mpr ⟨xkc_70, List.forall_mem_cons.mpr ⟨xkc_71, List.forall_mem_cons.mpr ⟨xkc_72, List.forall_mem_cons.mpr ⟨xkc_73, List.forall_mem_cons.mpr ⟨xkc_74, List.forall_mem_cons.mpr ⟨xkc_75, List.forall_mem_cons.mpr ⟨xkc_76, List.forall_mem_cons.mpr ⟨xkc_77, fun _ h => absurd h List.not_mem_nil⟩⟩⟩⟩⟩⟩⟩⟩⟩⟩⟩⟩⟩⟩⟩⟩⟩⟩⟩⟩⟩⟩⟩⟩⟩⟩⟩⟩⟩⟩⟩⟩⟩⟩⟩⟩⟩⟩⟩⟩⟩⟩⟩⟩⟩⟩⟩⟩⟩⟩⟩⟩⟩⟩⟩⟩⟩⟩⟩⟩⟩⟩⟩⟩⟩⟩⟩⟩⟩⟩⟩⟩⟩⟩⟩⟩⟩
theorem xK_len : (xK []).length = 78 := by decide +kernel
theorem xkb_at {i k : Nat} {vs : List Value} (h0 : i ≠ 0) (h : (xK [])[i]? = some (k, vs)) : ∃ e, xkb i e (k, vs) = true := by
  have hl := (List.getElem?_eq_some_iff.mp h).1
  rw [xK_len] at hl
  have hm : i ∈ [1, 2, 3, 4, 5, 6, 7, 8, 9, 10, 11, 12, 13, 14, 15, 16, 17, 18, 19, 20, 21, 22, 23, 24, 25, 26, 27, 28, 29, 30, 31, 32, 33, 34, 35, 36, 37, 38, 39, 40, 41, 42, 43, 44, 45, 46, 47, 48, 49, 50, 51, 52, 53, 54, 55, 56, 57, 58, 59, 60, 61, 62, 63, 64, 65, 66, 67, 68, 69, 70, 71, 72, 73, 74, 75, 76, 77] := by
    have e : [1, 2, 3, 4, 5, 6, 7, 8, 9, 10, 11, 12, 13, 14, 15, 16, 17, 18, 19, 20, 21, 22, 23, 24, 25, 26, 27, 28, 29, 30, 31, 32, 33, 34, 35, 36, 37, 38, 39, 40, 41, 42, 43, 44, 45, 46, 47, 48, 49, 50, 51, 52, 53, 54, 55, 56, 57, 58, 59, 60, 61, 62, 63, 64, 65, 66, 67, 68, 69, 70, 71, 72, 73, 74, 75, 76, 77] = (List.range 77).map (· + 1) := by decide
    rw [e]
    exact List.mem_map.mpr ⟨i - 1, List.mem_range.mpr (by omega), by omega⟩
  have h1 := xkc_all i hm
  unfold xkc at h1
  rw [h] at h1
  split at h1
  · rename_i q e hq he
    cases hq
    exact ⟨e, h1⟩
  · cases h1
section XBG
variable {s : State} {b : Nat}
/-- the addresses of the constants -/
def xadv (b : Nat) (s : State) (i : Nat) : Nat := match (xTm i).eval #[Value.ref b] s none [] s with
  | some (.ref a) => a
  | _ => 0
def xadr (b : Nat) (s : State) (i : Nat) : Nat := xadv b s (i - 1000000)
def xAt (b : Nat) (s : State) : Prop := ∀ w ∈ flatC (Jvm.Cond.and given_1 narrow_1), w.before #[Value.ref b] s = true
theorem xnb_w (hA : xAt b s) {k : Nat} {w : Cond} (h : xnb k w = true) : w.before #[Value.ref b] s = true := hA w (xNt_in (of_decide_eq_true h))
theorem xadr_eq {n i a : Nat} (hn : n - 1000000 = i) (h : (xTm i).eval #[Value.ref b] s none [] s = some (.ref a)) : xadr b s n = a := by
  unfold xadr
  rw [hn]
  unfold xadv
  rw [h]
theorem xadr_of {n i a : Nat} (hn : n - 1000000 = i) (h : (xTm i).eval #[Value.ref b] s none [] s = some (.ref a)) : (xTm i).eval #[Value.ref b] s none [] s = some (.ref (xadr b s n)) := by
  rw [xadr_eq hn h]
  exact h
theorem xE_at (hA : xAt b s) {i k : Nat} {vs : List Value} (h0 : i ≠ 0) (h : (xK [])[i]? = some (k, vs)) (hk : k ≠ 40) : (xTm i).eval #[Value.ref b] s none [] s = some (.ref (xadr b s (1000000 + i))) := by
  obtain ⟨e, he⟩ := xkb_at h0 h
  unfold xkb at he
  dsimp only at he
  split at he
  · have he := (Bool.and_eq_true _ _ |>.mp he).1
    obtain ⟨a, c, cA, kA, q1, -⟩ := Cond.exactly_spec (xnb_w hA he)
    exact xadr_of (Nat.add_sub_cancel_left ..) q1
  · exact absurd rfl hk
  · have he := (Bool.and_eq_true _ _ |>.mp he).1
    obtain ⟨a, c, cA, kA, q1, -⟩ := Cond.exactly_spec (xnb_w hA he)
    exact xadr_of (Nat.add_sub_cancel_left ..) q1
  · simp only [Bool.and_eq_true] at he
    obtain ⟨t, cell, ht, -, -⟩ := Term.length_spec (va_eqt (xnb_w hA he.2.2.2.1))
    exact xadr_of (Nat.add_sub_cancel_left ..) ht
theorem xvr_at (hA : xAt b s) {a : Nat} (h : xvr a = true) : (xTm (a - 1000000)).eval #[Value.ref b] s none [] s = some (.ref (xadr b s a)) := by
  obtain ⟨h1, h2⟩ := Bool.and_eq_true _ _ |>.mp h
  have h1 := of_decide_eq_true h1
  split at h2
  · rename_i q hq
    have := xE_at hA (i := a - 1000000) (by omega) (show (xK [])[a - 1000000]? = some (q.1, q.2) from hq) (of_decide_eq_true h2)
    rw [show 1000000 + (a - 1000000) = a by omega] at this
    exact this
  · cases h2
theorem xeqr {t u : Term} {a : Nat} (h : (Cond.eq t u).before #[Value.ref b] s = true) (hu : u.eval #[Value.ref b] s none [] s = some (.ref a)) : t.eval #[Value.ref b] s none [] s = some (.ref a) := Cond.eq_refs h hu rfl
theorem xbA : ∀ a : Nat, a < s.heap.size → ¬ (fun q => s.heap.size ≤ q) a := fun a h q => absurd h (Nat.not_lt.mpr q)
theorem xcok1 (hA : xAt b s) {i k : Nat} {vs : List Value} (h0 : i ≠ 0) (h : (xK [])[i]? = some (k, vs)) : xCok s.heap.size (xadr b s) s i k vs := by
  obtain ⟨e, he⟩ := xkb_at h0 h
  by_cases hk : k = 40
  · subst hk
    exact ⟨fun j o n d v q => (nomatch q), fun q => absurd q (by decide), fun E q => (nomatch q)⟩
  have hE := xE_at hA h0 h hk
  unfold xkb at he
  dsimp only at he
  split at he
  · simp only [Bool.and_eq_true, decide_eq_true_eq] at he
    obtain ⟨e1, e2, e3, e4, e5⟩ := he
    subst e3
    have hv := xvr_at hA e4
    rw [show 1000001 + i - 1000000 = 1 + i by omega, e5] at hv
    refine ⟨fun j o n d v q1 q2 q3 => ?_, fun q => absurd q (by decide), fun E q => ?_⟩
    · rcases j with _ | _ | _ | _ | j
      · cases q1; cases q2
        exact vk_OFof hE hv xbA
      · cases q1; cases q2
        exact vk_OFof hE (va_eqt (xnb_w hA e2)) xbA
      · cases q1
      · cases q1
      · cases q1
    · cases q
      exact va_Oof (xnb_w hA e1) hE xbA
  · exact absurd rfl hk
  · obtain ⟨e1, he⟩ := Bool.and_eq_true _ _ |>.mp he
    split at he
    · rename_i w p n
      simp only [Bool.and_eq_true] at he
      obtain ⟨e2, e3, e4, e5, e6⟩ := he
      refine ⟨fun j o n d v q1 q2 q3 => ?_, fun q => absurd q (by decide), fun E q => ?_⟩
      · rcases j with _ | _ | _ | j
        · cases q1; cases q2
          exact vk_OFof hE (xeqr (xnb_w hA e5) (xvr_at hA e3)) xbA
        · cases q1; cases q2
          exact vk_OFof hE (xeqr (xnb_w hA e6) (xvr_at hA e4)) xbA
        · cases q1; cases q2
          exact vk_OFof hE (va_eqt (xnb_w hA e2)) xbA
        · cases q1
      · cases q
        exact va_Oof (xnb_w hA e1) hE xbA
    · cases he
  · rename_i n1 n2 n3
    simp only [Bool.and_eq_true, decide_eq_true_eq] at he
    obtain ⟨e1, e2, e3, e4, e5⟩ := he
    refine ⟨fun j o n d v q1 => ?_, fun _ => ?_, fun E q => ?_⟩
    · unfold xKF at q1
      split at q1 <;> first | (exact absurd rfl n1) | (exact absurd rfl n3) | (cases q1; done) | omega
    · obtain ⟨t, ht, hT⟩ := va_Tof (f := fun j => xcV (xadr b s) (vs.getD j .null)) (A := fun q => s.heap.size ≤ q) e2 (xnb_w hA e3) (va_eqt (xnb_w hA e4)) (fun j hj => by
        have h5 := List.all_eq_true.mp e5 j (List.mem_range.mpr hj)
        rw [List.getD_eq_getElem?_getD]
        unfold xkel at h5
        split at h5
        · rename_i x hx
          rw [hx]
          exact va_eqt (xnb_w hA h5)
        · rename_i a hx
          rw [hx]
          obtain ⟨h6, h7⟩ := Bool.and_eq_true _ _ |>.mp h5
          exact xeqr (xnb_w hA h7) (xvr_at hA h6)
        · cases h5) xbA
      have ha : xadr b s (1000000 + i) = t := Value.ref.inj (Option.some.inj (hE.symm.trans ht))
      rw [ha]
      exact hT
    · unfold xKC at q
      split at q <;> first | (exact absurd rfl n1) | (exact absurd rfl n3) | (cases q; done) | omega
end XBG
