/-! THE RULE'S CHANGE -/
section XRU
variable {K : List (Nat × List Value)} {Z : List Value} {pre g : xH} {B L : Nat} {N : Nat → Nat → Int32} {C : Nat → Nat}
/-- setRule's change (the sign a char): the answer (or the refusal), the numbers afterwards -/
def xfRule (N : Nat → Nat → Int32) (w : Nat) (x f : Int32) : Int32 × (Nat → Nat → Int32) :=
  if xhas N w x = false then (-11, N) else if xrule f = false then (-12, N) else if N (w + 3 + x.toNatClampNeg) 8 = f then (-4, N) else (xfOpen (xupN N (w + 3 + x.toNatClampNeg) 8 f) w x, xupN N (w + 3 + x.toNatClampNeg) 8 f)
theorem xs_setrule (hB : xBok pre B) {w : Nat} (hw : w ∈ xRbs) (x f : Int32) (hg : B + 253 + g.length < 1000000) : xRn K Z 3 33 [.ref (B + w), .int x, .int f] (xHn pre B N C L g) (.ok (some (.int (xfRule N w x f).1))) (xHn pre B (xfRule N w x f).2 C L g) := by
  obtain ⟨k1, k1a, -, k2, k5, -, k3, k6, -⟩ := xrb_river w hw
  have k4 : w < 253 := by omega
  have k4a : w + 1 < 253 := by omega
  have h1 := xs_has (K := K) (Z := Z) (N := N) (L := L) (C := C) (g := g) hB hw x
  have h2 := xs_isRule (K := K) (Z := Z) (xHn pre B N C L g) f
  refine xRp_eq (xRp_of (m := (yX7_changeRule, cX7_changeRule, 4, some .int, [], [], xcX7_changeRule)) rfl (by show 3 ≤ 4; decide) ?_)
  show xBp K Z 2 4 [] xcX7_changeRule xcX7_changeRule [(0, .ref (B + w)), (1, .int x), (2, .int f)] [] _ _
  refine xp_step rfl ?_
  refine xp_step rfl ?_
  refine xp_virt (i := w) hB k4 k1 rfl (Nat.le_of_ble_eq_true rfl) rfl (xR_up (show 1 ≤ 2 by decide) h1) ?_
  cases hh : xhas N w x with
  | false =>
    refine xp_step rfl ?_
    refine xp_step rfl ?_
    refine xp_ret rfl ⟨fun v q => by cases q; rfl, ?_, ?_⟩
    · unfold xfRule; rw [if_pos hh]; rfl
    · unfold xfRule; rw [if_pos hh]
  | true =>
    have hne : ¬ xhas N w x = false := by rw [hh]; decide
    refine xp_jump rfl ?_
    refine xp_step rfl ?_
    refine xp_callR rfl (xR_up (show 1 ≤ 2 by decide) h2) ?_
    cases hf : xrule f with
    | false =>
      refine xp_step rfl ?_
      refine xp_step rfl ?_
      refine xp_ret rfl ⟨fun v q => by cases q; rfl, ?_, ?_⟩
      · unfold xfRule; rw [if_neg hne, if_pos hf]; rfl
      · unfold xfRule; rw [if_neg hne, if_pos hf]
    | true =>
      have hnf : ¬ xrule f = false := by rw [hf]; decide
      have hyes' := hh
      unfold xhas at hyes'
      simp only [Bool.and_eq_true, decide_eq_true_eq] at hyes'
      obtain ⟨i1, i2⟩ := xin8 hyes'.1 hyes'.2.2
      obtain ⟨r1, r2, r3⟩ := xrb_reach w hw x.toNatClampNeg i2
      have hh2 : xhas (xupN N (w + 3 + x.toNatClampNeg) 8 f) w x = true := by
        have e : xupN N (w + 3 + x.toNatClampNeg) 8 f w 2 = N w 2 := by simp [xupN]
        unfold xhas at hh ⊢
        rw [e]
        exact hh
      have ho := xs_open (K := K) (Z := Z) (N := xupN N (w + 3 + x.toNatClampNeg) 8 f) (L := L) (C := C) (g := g) hB hw x hh2 hg
      have hfc : xfit (xFt 8 8) (.int f) = true := by
        have q : f = 102 ∨ (f = 104 ∨ f = 114) := by
          have q := hf
          unfold xrule at q
          simpa using q
        rcases q with rfl | rfl | rfl <;> decide
      refine xp_jump rfl ?_
      refine xp_step rfl ?_
      refine xp_ref hB k4 k1 (by decide) k5 ?_
      refine xp_step rfl ?_
      refine xp_aald hB k4a (show xKd (w + 1) = (50 + 5, 8) from k1a) (by decide) i1 (k6 _ i2) ?_
      refine xp_step rfl ?_
      refine xp_step rfl ?_
      refine xp_get hB r2 r1 (by decide) (r3 _ (by decide)) ?_
      refine xp_step rfl ?_
      refine xp_if2 rfl (fun q => ?_) (fun q => ?_)
      · have q9 : ¬ N (w + 3 + x.toNatClampNeg) 8 = f := by simpa [xic] using q
        refine xp_step rfl ?_
        refine xp_step rfl ?_
        refine xp_put hB r2 r1 (by decide) (r3 _ (by decide)) hfc ?_
        refine xp_step rfl ?_
        refine xp_step rfl ?_
        refine xp_virt (i := w) hB k4 k1 rfl (Nat.le_of_ble_eq_true rfl) rfl ho ?_
        refine xp_ret rfl ⟨fun v q => by cases q; rfl, ?_, ?_⟩
        · unfold xfRule; rw [if_neg hne, if_neg hnf, if_neg q9]
        · unfold xfRule; rw [if_neg hne, if_neg hnf, if_neg q9]
      · have q9 : N (w + 3 + x.toNatClampNeg) 8 = f := by simpa [xic] using q
        refine xp_step rfl ?_
        refine xp_ret rfl ⟨fun v q => by cases q; rfl, ?_, ?_⟩
        · unfold xfRule; rw [if_neg hne, if_neg hnf, if_pos q9]; rfl
        · unfold xfRule; rw [if_neg hne, if_neg hnf, if_pos q9]
end XRU
