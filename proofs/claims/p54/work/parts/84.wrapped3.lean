/-! WHICH ANSWERS A REFUSED CHANGE GIVES; THE OTHER CHANGES BY THE LAW'S WRAPPERS -/
def xCg (cs : List Int32) (w V H : Nat) (r : Int32 × (Nat → Nat → Int32)) : Prop := r.1 ∈ cs ∨ ∃ a, r.1 = Int32.ofNat a ∧ (a < 1000000000 ∧ xGd r.2 w V H)
section XCGA
variable {N M : Nat → Nat → Int32} {w V V' H : Nat} {x y f s p c : Int32}
theorem xgc_append (hg : xGd N w V H) : xCg [-12, -1] w V H (xfAppend N w s p c) := by
  unfold xfAppend
  split
  · exact Or.inl (by first | exact List.Mem.head _ | exact List.Mem.tail _ (List.Mem.head _) | exact List.Mem.tail _ (List.Mem.tail _ (List.Mem.head _)))
  · rename_i hok
    split
    · exact Or.inl (by first | exact List.Mem.head _ | exact List.Mem.tail _ (List.Mem.head _) | exact List.Mem.tail _ (List.Mem.tail _ (List.Mem.head _)))
    · rename_i hc
      obtain ⟨n, q, t, ⟨e2, e3, e4⟩, ⟨a2, a3, a4⟩, hR, hP⟩ := hg
      have hok2 : xapOk s p c = true := by simpa using hok
      unfold xapOk at hok2
      simp only [Bool.and_eq_true] at hok2
      have b1 : xBnd s 1 50 := xBnd_win hok2.1 rfl rfl
      have b2 : xBnd p 5 60 := xBnd_win hok2.2.1 rfl rfl
      have b3 : xBnd c 1 500 := xBnd_win hok2.2.2 rfl rfl
      have hn7 := xwin7_lt (x := N w 2) (by simpa using hc)
      rw [e2, (xi_ofNat (n := n) (by omega)).2.1] at hn7
      have hrow : (N w 2).toNatClampNeg = n := by rw [e2]; exact (xi_ofNat (n := n) (by omega)).2.1
      have hin : ∀ b, xNap N w s p c (w + 3 + n) b = (match b with
        | 0 => s
        | 1 => p
        | 2 => c
        | 3 => 0
        | 4 => 0
        | 5 => 20
        | 6 => 40
        | 7 => 100
        | 8 => 102
        | _ => N (w + 3 + n) b) := by
        intro b
        unfold xNap xupN
        rw [if_neg (by omega)]
        unfold xNbeg
        rw [hrow, if_pos rfl]
        rcases b with _ | _ | _ | _ | _ | _ | _ | _ | _ | b <;> rfl
      have hoff : ∀ a b, a ≠ w + 3 + n → ¬ (a = w ∧ b = 2) → xNap N w s p c a b = N a b := by
        intro a b h1 h2
        unfold xNap xupN
        rw [if_neg h2]
        unfold xNbeg
        rw [hrow, if_neg h1]
      refine Or.inr ⟨n, ?_, by omega, n + 1, q, t, ⟨?_, ?_, ?_⟩, ⟨by omega, a3, a4⟩, fun r hr => ?_, fun r hr => ?_⟩
      · show N w 2 + 1 - 1 = _
        rw [e2]
        apply Int32.toInt_inj.mp
        rw [Int32.toInt_sub, Int32.toInt_add, (xi_ofNat (n := n) (by omega)).1, show (1 : Int32).toInt = 1 from rfl, Int.bmod_eq_of_le (n := (n : Int) + 1) (by omega) (by omega), Int.bmod_eq_of_le (by omega) (by omega)]
        omega
      · show xNap N w s p c w 2 = _
        unfold xNap xupN
        rw [if_pos ⟨rfl, rfl⟩, e2, Int32.ofNat_add]
        rfl
      · show xNap N w s p c w 3 = _
        rw [hoff _ _ (by omega) (by omega)]
        exact e3
      · show xNap N w s p c w 4 = _
        rw [hoff _ _ (by omega) (by omega)]
        exact e4
      · show xRch (xNap N w s p c) (w + 3 + r) V
        by_cases hq : r = n
        · rw [hq]
          unfold xRch
          rw [hin 0, hin 1, hin 2, hin 3, hin 4, hin 5, hin 6, hin 7, hin 8]
          exact ⟨b1, b2, b3, ⟨0, rfl, by omega, by omega⟩, ⟨0, rfl, by omega, by omega⟩, ⟨20, rfl, by omega, by omega⟩, ⟨40, rfl, by omega, by omega⟩, ⟨100, rfl, by omega, by omega⟩, Or.inl rfl⟩
        · have k := hR r (by omega)
          unfold xRch at k ⊢
          have e : ∀ b, xNap N w s p c (w + 3 + r) b = N (w + 3 + r) b := fun b => hoff _ _ (by omega) (by omega)
          rw [e, e, e, e, e, e, e, e, e]
          exact k
      · have k := hP r hr
        show xPls (xNap N w s p c) (w + 11 + r)
        unfold xPls at k ⊢
        have e : ∀ b, xNap N w s p c (w + 11 + r) b = N (w + 11 + r) b := fun b => hoff _ _ (by omega) (by omega)
        rw [e, e, e]
        exact k
theorem xgc_cut (hg : xGd N w V H) (hV : V ≤ 1000000) : xCg [-3] w V H (xfCut N w) := by
  unfold xfCut
  split
  · exact Or.inl (by first | exact List.Mem.head _ | exact List.Mem.tail _ (List.Mem.head _) | exact List.Mem.tail _ (List.Mem.tail _ (List.Mem.head _)))
  · rename_i hh
    have hh2 : xhas N w (N w 2 - 1) = true := by simpa using hh
    obtain ⟨n, e2, h8, hlt, k⟩ := xgd_has hg hh2
    obtain ⟨n', q, t, ⟨e2', e3, e4⟩, ⟨a2, a3, a4⟩, hR, hP⟩ := hg
    have hnn : n' = n := by
      have h1 := congrArg Int32.toInt (e2.symm.trans e2')
      rw [(xi_ofNat (n := n) (by omega)).1, (xi_ofNat (n := n') (by omega)).1] at h1
      omega
    subst hnn
    obtain ⟨-, -, -, -, ⟨v, ev, -, hv⟩, -⟩ := k
    have hn0 : 0 < n' := by omega
    have em : N w 2 - 1 = Int32.ofNat (n' - 1) := by
      rw [e2]
      exact xi_subN (a := n') (b := 1) (by omega) (by omega)
    have hoff : ∀ a b, ¬ (a = w ∧ b = 6) → ¬ (a = w ∧ b = 2) → xNcut N w (N (w + 3 + (N w 2 - 1).toNatClampNeg) 4) a b = N a b := by
      intro a b h1 h2
      unfold xNcut xupN
      rw [if_neg h1, if_neg h2]
    refine Or.inr ⟨v, ev, by omega, n' - 1, q, t, ⟨?_, ?_, ?_⟩, ⟨by omega, a3, a4⟩, fun r hr => ?_, fun r hr => ?_⟩
    · show xNcut N w _ w 2 = _
      unfold xNcut xupN
      rw [if_neg (by omega), if_pos ⟨rfl, rfl⟩, em]
    · show xNcut N w _ w 3 = _
      rw [hoff _ _ (by omega) (by omega)]
      exact e3
    · show xNcut N w _ w 4 = _
      rw [hoff _ _ (by omega) (by omega)]
      exact e4
    · have k := hR r (by omega)
      show xRch (xNcut N w _) (w + 3 + r) V
      unfold xRch at k ⊢
      have e : ∀ b, xNcut N w (N (w + 3 + (N w 2 - 1).toNatClampNeg) 4) (w + 3 + r) b = N (w + 3 + r) b := fun b => hoff _ _ (by omega) (by omega)
      rw [e, e, e, e, e, e, e, e, e]
      exact k
    · have k := hP r hr
      show xPls (xNcut N w _) (w + 11 + r)
      unfold xPls at k ⊢
      have e : ∀ b, xNcut N w (N (w + 3 + (N w 2 - 1).toNatClampNeg) 4) (w + 11 + r) b = N (w + 11 + r) b := fun b => hoff _ _ (by omega) (by omega)
      rw [e, e, e]
      exact k
theorem xgc_pour (hg : xGd N w V H) (hV : V ≤ 1000000) : xCg [-11, -12] w (V + 1000) H (xfPour N w x f) := by
  unfold xfPour
  split
  · exact Or.inl (by first | exact List.Mem.head _ | exact List.Mem.tail _ (List.Mem.head _) | exact List.Mem.tail _ (List.Mem.tail _ (List.Mem.head _)))
  · rename_i hh
    split
    · exact Or.inl (by first | exact List.Mem.head _ | exact List.Mem.tail _ (List.Mem.head _) | exact List.Mem.tail _ (List.Mem.tail _ (List.Mem.head _)))
    · rename_i hf
      obtain ⟨n, -, h8, hlt, k0, k1, k2, k3, ⟨v, ev, -, hv⟩, k5, k6, k7, k8⟩ := xgd_has hg (by simpa using hh)
      obtain ⟨q, eq, hq1, hq2⟩ : xBnd f 1 999 := xBnd_win (by simpa using hf) rfl rfl
      generalize x.toNatClampNeg = r at *
      have e4 : N (w + 3 + r) 4 + f = Int32.ofNat (v + q) := by rw [ev, eq]; exact (Int32.ofNat_add v q).symm
      have hR : xRch (xNpour N w (w + 3 + r) f) (w + 3 + r) (V + 1000) := by
        have e : ∀ b, xNpour N w (w + 3 + r) f (w + 3 + r) b = if b = 4 then N (w + 3 + r) 4 + f else N (w + 3 + r) b := by
          intro b
          unfold xNpour xupN
          rw [if_neg (by omega)]
          by_cases hb : b = 4
          · rw [if_pos (by omega), if_pos hb]
          · rw [if_neg (by omega), if_neg hb]
        unfold xRch
        rw [e, e, e, e, e, e, e, e, e]
        simp
        rw [e4]
        exact ⟨k0, k1, k2, k3, ⟨v + q, rfl, Nat.zero_le _, by omega⟩, k5, k6, k7, k8⟩
      obtain ⟨o, eo, -, ho⟩ := xgd_level (N := xNpour N w (w + 3 + r) f) (w := w) hR (by omega)
      have e0 : xNpour N w (w + 3 + r) f (w + 3 + r) 0 = N (w + 3 + r) 0 := by
        unfold xNpour xupN
        rw [if_neg (by omega), if_neg (by omega)]
      have e44 : xNpour N w (w + 3 + r) f (w + 3 + r) 4 = N (w + 3 + r) 4 + f := by
        unfold xNpour xupN
        rw [if_neg (by omega), if_pos ⟨rfl, rfl⟩]
      rw [e0, e44] at eo
      refine Or.inr ⟨o, eo, by omega, ?_⟩
      refine xGd_mk (r := r) hg ?_ ?_ ?_ (by omega) (fun r' h1 h2 b h3 => ?_) (fun r' h1 b h3 => ?_) hR
      · show xNpour N w _ f w 2 = _; unfold xNpour xupN; rw [if_neg (by omega), if_neg (by omega)]
      · show xNpour N w _ f w 3 = _; unfold xNpour xupN; rw [if_neg (by omega), if_neg (by omega)]
      · show xNpour N w _ f w 4 = _; unfold xNpour xupN; rw [if_neg (by omega), if_neg (by omega)]
      · show xNpour N w _ f _ b = _; unfold xNpour xupN; rw [if_neg (by omega), if_neg (by omega)]
      · show xNpour N w _ f _ b = _; unfold xNpour xupN; rw [if_neg (by omega), if_neg (by omega)]
theorem xgc_stages (hg : xGd N w V H) : xCg [-11, -12] w V H (xfStages N w x y f) := by
  unfold xfStages
  split
  · exact Or.inl (by first | exact List.Mem.head _ | exact List.Mem.tail _ (List.Mem.head _) | exact List.Mem.tail _ (List.Mem.tail _ (List.Mem.head _)))
  · rename_i hh
    split
    · exact Or.inl (by first | exact List.Mem.head _ | exact List.Mem.tail _ (List.Mem.head _) | exact List.Mem.tail _ (List.Mem.tail _ (List.Mem.head _)))
    · rename_i hf
      obtain ⟨n, -, h8, hlt, k0, k1, k2, k3, k4, k5, k6, k7, k8⟩ := xgd_has hg (by simpa using hh)
      have hf2 : xstOk y f = true := by simpa using hf
      unfold xstOk at hf2
      simp only [Bool.and_eq_true] at hf2
      have hy : xBnd y 1 998 := xBnd_win hf2.1 rfl rfl
      have hfb : xBnd f 2 999 := xBnd_win hf2.2.1 rfl rfl
      generalize x.toNatClampNeg = r at *
      obtain ⟨o, eo, ho⟩ := xsta_bd (N := xNst N (w + 3 + r) y f) (i := w + 3 + r)
      refine Or.inr ⟨o, eo, by omega, ?_⟩
      refine xGd_mk (r := r) hg ?_ ?_ ?_ (Nat.le_refl _) (fun r' h1 h2 b h3 => ?_) (fun r' h1 b h3 => ?_) ?_
      · show xNst N _ y f w 2 = _; unfold xNst xupN; rw [if_neg (by omega), if_neg (by omega)]
      · show xNst N _ y f w 3 = _; unfold xNst xupN; rw [if_neg (by omega), if_neg (by omega)]
      · show xNst N _ y f w 4 = _; unfold xNst xupN; rw [if_neg (by omega), if_neg (by omega)]
      · show xNst N _ y f _ b = _; unfold xNst xupN; rw [if_neg (by omega), if_neg (by omega)]
      · show xNst N _ y f _ b = _; unfold xNst xupN; rw [if_neg (by omega), if_neg (by omega)]
      · show xRch (xNst N (w + 3 + r) y f) (w + 3 + r) V
        unfold xRch xNst xupN
        simp
        exact ⟨k0, k1, k2, k3, k4, hy, hfb, k7, k8⟩
theorem xgc_pulse (hg : xGd N w V H) : xCg [-12, -2, -1] w V H (xfPulse N w s p c) := by
  unfold xfPulse
  split
  · exact Or.inl (by first | exact List.Mem.head _ | exact List.Mem.tail _ (List.Mem.head _) | exact List.Mem.tail _ (List.Mem.tail _ (List.Mem.head _)))
  · rename_i hok
    split
    · exact Or.inl (by first | exact List.Mem.head _ | exact List.Mem.tail _ (List.Mem.head _) | exact List.Mem.tail _ (List.Mem.tail _ (List.Mem.head _)))
    · split
      · exact Or.inl (by first | exact List.Mem.head _ | exact List.Mem.tail _ (List.Mem.head _) | exact List.Mem.tail _ (List.Mem.tail _ (List.Mem.head _)))
      · rename_i hc
        obtain ⟨n, q, t, ⟨e2, e3, e4⟩, ⟨a2, a3, a4⟩, hR, hP⟩ := hg
        have hok2 : xpuOk s p c = true := by simpa using hok
        unfold xpuOk at hok2
        simp only [Bool.and_eq_true] at hok2
        have b1 : xBnd s 0 999 := xBnd_win hok2.1 rfl rfl
        have b2 : xBnd p 1 24 := xBnd_win hok2.2.1 rfl rfl
        have b3 : xBnd c 1 200 := xBnd_win hok2.2.2 rfl rfl
        have hn7 := xwin7_lt (x := N w 3) (by simpa using hc)
        have hrow : (N w 3).toNatClampNeg = q := by rw [e3]; exact (xi_ofNat (n := q) (by omega)).2.1
        rw [hrow] at hn7
        have hin : xNpz N w s p c (w + 11 + q) 0 = s ∧ (xNpz N w s p c (w + 11 + q) 1 = p ∧ xNpz N w s p c (w + 11 + q) 2 = c) := by
          unfold xNpz xupN
          rw [if_neg (by omega), if_neg (by omega), if_neg (by omega)]
          unfold xNpu
          rw [hrow, if_pos rfl, if_pos rfl, if_pos rfl]
          exact ⟨rfl, rfl, rfl⟩
        have hoff : ∀ a b, a ≠ w + 11 + q → ¬ (a = w ∧ b = 3) → xNpz N w s p c a b = N a b := by
          intro a b h1 h2
          unfold xNpz xupN
          rw [if_neg h2]
          unfold xNpu
          rw [hrow, if_neg h1]
        have e31 : N w 3 + 1 = Int32.ofNat (q + 1) := by
          rw [e3, Int32.ofNat_add]
          rfl
        refine Or.inr ⟨q + 1, e31, by omega, n, q + 1, t, ⟨?_, ?_, ?_⟩, ⟨a2, by omega, a4⟩, fun r hr => ?_, fun r hr => ?_⟩
        · show xNpz N w s p c w 2 = _
          rw [hoff _ _ (by omega) (by omega)]
          exact e2
        · show xNpz N w s p c w 3 = _
          unfold xNpz xupN
          rw [if_pos ⟨rfl, rfl⟩]
          exact e31
        · show xNpz N w s p c w 4 = _
          rw [hoff _ _ (by omega) (by omega)]
          exact e4
        · have k := hR r hr
          show xRch (xNpz N w s p c) (w + 3 + r) V
          unfold xRch at k ⊢
          have e : ∀ b, xNpz N w s p c (w + 3 + r) b = N (w + 3 + r) b := fun b => hoff _ _ (by omega) (by omega)
          rw [e, e, e, e, e, e, e, e, e]
          exact k
        · show xPls (xNpz N w s p c) (w + 11 + r)
          by_cases hq : r = q
          · rw [hq]
            unfold xPls
            rw [hin.1, hin.2.1, hin.2.2]
            exact ⟨b1, b2, b3⟩
          · have k := hP r (by omega)
            unfold xPls at k ⊢
            have e : ∀ b, xNpz N w s p c (w + 11 + r) b = N (w + 11 + r) b := fun b => hoff _ _ (by omega) (by omega)
            rw [e, e, e]
            exact k
theorem xgc_let (hg : xGd N w V H) (hV : V ≤ 1000000) : xCg [-12, -3] w (V + 79200) (H + 48) (xfLet N w x) := by
  unfold xfLet
  split
  · exact Or.inl (by first | exact List.Mem.head _ | exact List.Mem.tail _ (List.Mem.head _) | exact List.Mem.tail _ (List.Mem.tail _ (List.Mem.head _)))
  · rename_i hx
    split
    · exact Or.inl (by first | exact List.Mem.head _ | exact List.Mem.tail _ (List.Mem.head _) | exact List.Mem.tail _ (List.Mem.tail _ (List.Mem.head _)))
    · obtain ⟨n, en, h1, h2⟩ := xBnd_win (lo := 1) (hi := 48) (show xwin x 1 48 = true by simpa using hx) rfl rfl
      rw [en, (xi_ofNat (n := n) (by omega)).2.1]
      obtain ⟨g1, ⟨a, ea, -, ha⟩⟩ := xgd_letN hg n (by omega)
      exact Or.inr ⟨a, ea, by omega, xGd_mono g1 (by omega) (by omega)⟩
end XCGA
theorem xcg_of {cs : List Int32} {w V H : Nat} {r : Int32 × (Nat → Nat → Int32)} (h : xCg cs w V H r) (hn : r.1 < 0) : r.1 ∈ cs := by
  rcases h with h | ⟨a, ea, ha, -⟩
  · exact h
  · rw [ea] at hn
    exact absurd (xi_ofNat (n := a) (by omega)).2.2 (Int32.not_le.mpr hn)
section XWE
variable {K : List (Nat × List Value)} {Z : List Value} {pre g : xH} {B L : Nat} {N : Nat → Nat → Int32} {C : Nat → Nat} {V H : Nat}
theorem xl_addReach (hB : xBok pre B) (h : xOb N V H) (s p c : Int32) (hg : B + 253 + g.length < 1000000) : xAny pre B N C L g V H V H (fun ans h' => xRn K Z 8 198 [.ref (B + 0), .int s, .int p, .int c] (xHn pre B N C L g) (.ok (some (.int ans))) h') := by
  have ho := xo_addReach_ (K := K) (Z := Z) (L := L) (C := C) (g := g) hB h.2.2.1 (h.2.1 1 (by decide)) s p c hg
  have hn := xNn_ob h
  refine xany_of (F := xfAppend (xNn N) 1 s p c) (v := 0) h (xgd_append hn.1) (fun a b hab => xoff_append (by omega)) (xrul_append (hn.2 1 (by decide))) (fun hneg => ?_) (fun hpos => ?_)
  · have hc := xcg_of (xgc_append hn.1) hneg
    rcases xConR_cases (B + 253 + g.length) (xfAppend (xNn N) 1 s p c).1 with ⟨e, e2⟩ | ⟨-, e, e2⟩ | ⟨e11, e12, -, e2⟩ | ⟨-, -, e, -⟩
    · rw [e] at hc
      exact absurd hc (by decide)
    · rw [e2] at ho
      exact ⟨-1001, by decide, xw_addReach hB ho (Or.inr (Or.inl ⟨_, rfl, rfl⟩))⟩
    · rw [e2] at ho
      exact ⟨-1002, by decide, xw_addReach hB ho (Or.inr (Or.inr ⟨_, rfl, rfl⟩))⟩
    · exact absurd hneg e
  · rcases xConR_cases (B + 253 + g.length) (xfAppend (xNn N) 1 s p c).1 with ⟨e, -⟩ | ⟨-, e, -⟩ | ⟨-, -, e, -⟩ | ⟨-, -, -, e⟩
    · rw [e] at hpos; exact absurd hpos (by decide)
    · rw [e] at hpos; exact absurd hpos (by decide)
    · exact absurd e (Int32.not_lt.mpr hpos)
    · rw [e] at ho
      exact xw_addReach hB ho (Or.inl rfl)
theorem xl_removeLast (hB : xBok pre B) (h : xOb N V H) (hV : V ≤ 1000000) (hg : B + 253 + g.length < 1000000) : xAny pre B N C L g V H V H (fun ans h' => xRn K Z 8 199 [.ref (B + 0)] (xHn pre B N C L g) (.ok (some (.int ans))) h') := by
  have ho := xo_removeLastReach_ (K := K) (Z := Z) (L := L) (C := C) (g := g) hB h.2.2.1 (h.2.1 1 (by decide))  hg
  have hn := xNn_ob h
  refine xany_of (F := xfCut (xNn N) 1) (v := 0) h (xgd_cut hn.1 hV) (fun a b hab => xoff_cut (by omega)) (xrul_cut (hn.2 1 (by decide))) (fun hneg => ?_) (fun hpos => ?_)
  · have hc := xcg_of (xgc_cut hn.1 hV) hneg
    rcases xConR_cases (B + 253 + g.length) (xfCut (xNn N) 1).1 with ⟨e, e2⟩ | ⟨-, e, e2⟩ | ⟨e11, e12, -, e2⟩ | ⟨-, -, e, -⟩
    · rw [e] at hc
      exact absurd hc (by decide)
    · rw [e] at hc
      exact absurd hc (by decide)
    · rw [e2] at ho
      exact ⟨-1001, by decide, xw_removeLast hB ho (Or.inr ⟨_, rfl, rfl⟩)⟩
    · exact absurd hneg e
  · rcases xConR_cases (B + 253 + g.length) (xfCut (xNn N) 1).1 with ⟨e, -⟩ | ⟨-, e, -⟩ | ⟨-, -, e, -⟩ | ⟨-, -, -, e⟩
    · rw [e] at hpos; exact absurd hpos (by decide)
    · rw [e] at hpos; exact absurd hpos (by decide)
    · exact absurd e (Int32.not_lt.mpr hpos)
    · rw [e] at ho
      exact xw_removeLast hB ho (Or.inl rfl)
theorem xl_fill (hB : xBok pre B) (h : xOb N V H) (hV : V ≤ 1000000) (x f : Int32) (hg : B + 253 + g.length < 1000000) : xAny pre B N C L g V H (V + 1000) H (fun ans h' => xRn K Z 8 201 [.ref (B + 0), .int x, .int f] (xHn pre B N C L g) (.ok (some (.int ans))) h') := by
  have ho := xo_fill_ (K := K) (Z := Z) (L := L) (C := C) (g := g) hB h.2.2.1 (h.2.1 1 (by decide)) x f hg
  have hn := xNn_ob h
  refine xany_of (F := xfPour (xNn N) 1 x f) (v := 0) h (xgd_pour hn.1 hV) (fun a b hab => xoff_pour (by omega)) (xrul_pour (hn.2 1 (by decide))) (fun hneg => ?_) (fun hpos => ?_)
  · have hc := xcg_of (xgc_pour hn.1 hV) hneg
    rcases xConR_cases (B + 253 + g.length) (xfPour (xNn N) 1 x f).1 with ⟨e, e2⟩ | ⟨-, e, e2⟩ | ⟨e11, e12, -, e2⟩ | ⟨-, -, e, -⟩
    · rw [e2] at ho
      exact ⟨-1001, by decide, xw_fill hB ho (Or.inr (Or.inl ⟨_, rfl, rfl⟩))⟩
    · rw [e2] at ho
      exact ⟨-1002, by decide, xw_fill hB ho (Or.inr (Or.inr ⟨_, rfl, rfl⟩))⟩
    · rcases List.mem_cons.mp hc with e | e
      · exact absurd e e11
      · exact absurd (List.mem_singleton.mp e) e12
    · exact absurd hneg e
  · rcases xConR_cases (B + 253 + g.length) (xfPour (xNn N) 1 x f).1 with ⟨e, -⟩ | ⟨-, e, -⟩ | ⟨-, -, e, -⟩ | ⟨-, -, -, e⟩
    · rw [e] at hpos; exact absurd hpos (by decide)
    · rw [e] at hpos; exact absurd hpos (by decide)
    · exact absurd e (Int32.not_lt.mpr hpos)
    · rw [e] at ho
      exact xw_fill hB ho (Or.inl rfl)
theorem xl_setStages (hB : xBok pre B) (h : xOb N V H) (x y f : Int32) (hg : B + 253 + g.length < 1000000) : xAny pre B N C L g V H V H (fun ans h' => xRn K Z 8 206 [.ref (B + 0), .int x, .int y, .int f] (xHn pre B N C L g) (.ok (some (.int ans))) h') := by
  have ho := xo_setStages_ (K := K) (Z := Z) (L := L) (C := C) (g := g) hB h.2.2.1 (h.2.1 1 (by decide)) x y f hg
  have hn := xNn_ob h
  refine xany_of (F := xfStages (xNn N) 1 x y f) (v := 0) h (xgd_stages hn.1) (fun a b hab => xoff_stages (by omega)) (xrul_stages (hn.2 1 (by decide))) (fun hneg => ?_) (fun hpos => ?_)
  · have hc := xcg_of (xgc_stages hn.1) hneg
    rcases xConR_cases (B + 253 + g.length) (xfStages (xNn N) 1 x y f).1 with ⟨e, e2⟩ | ⟨-, e, e2⟩ | ⟨e11, e12, -, e2⟩ | ⟨-, -, e, -⟩
    · rw [e2] at ho
      exact ⟨-1001, by decide, xw_setStages hB ho (Or.inr (Or.inl ⟨_, rfl, rfl⟩))⟩
    · rw [e2] at ho
      exact ⟨-1002, by decide, xw_setStages hB ho (Or.inr (Or.inr ⟨_, rfl, rfl⟩))⟩
    · rcases List.mem_cons.mp hc with e | e
      · exact absurd e e11
      · exact absurd (List.mem_singleton.mp e) e12
    · exact absurd hneg e
  · rcases xConR_cases (B + 253 + g.length) (xfStages (xNn N) 1 x y f).1 with ⟨e, -⟩ | ⟨-, e, -⟩ | ⟨-, -, e, -⟩ | ⟨-, -, -, e⟩
    · rw [e] at hpos; exact absurd hpos (by decide)
    · rw [e] at hpos; exact absurd hpos (by decide)
    · exact absurd e (Int32.not_lt.mpr hpos)
    · rw [e] at ho
      exact xw_setStages hB ho (Or.inl rfl)
theorem xl_addPulse (hB : xBok pre B) (h : xOb N V H) (s p c : Int32) (hg : B + 253 + g.length < 1000000) : xAny pre B N C L g V H V H (fun ans h' => xRn K Z 8 216 [.ref (B + 0), .int s, .int p, .int c] (xHn pre B N C L g) (.ok (some (.int ans))) h') := by
  have ho := xo_addPulse_ (K := K) (Z := Z) (L := L) (C := C) (g := g) hB h.2.2.1 (h.2.1 1 (by decide)) s p c hg
  have hn := xNn_ob h
  refine xany_of (F := xfPulse (xNn N) 1 s p c) (v := 0) h (xgd_pulse hn.1) (fun a b hab => xoff_pulse (by omega)) (xrul_pulse (hn.2 1 (by decide))) (fun hneg => ?_) (fun hpos => ?_)
  · have hc := xcg_of (xgc_pulse hn.1) hneg
    rcases xConR_cases (B + 253 + g.length) (xfPulse (xNn N) 1 s p c).1 with ⟨e, e2⟩ | ⟨-, e, e2⟩ | ⟨e11, e12, -, e2⟩ | ⟨-, -, e, -⟩
    · rw [e] at hc
      exact absurd hc (by decide)
    · rw [e2] at ho
      exact ⟨-1001, by decide, xw_addPulse hB ho (Or.inr (Or.inl ⟨_, rfl, rfl⟩))⟩
    · rw [e2] at ho
      exact ⟨-1002, by decide, xw_addPulse hB ho (Or.inr (Or.inr ⟨_, rfl, rfl⟩))⟩
    · exact absurd hneg e
  · rcases xConR_cases (B + 253 + g.length) (xfPulse (xNn N) 1 s p c).1 with ⟨e, -⟩ | ⟨-, e, -⟩ | ⟨-, -, e, -⟩ | ⟨-, -, -, e⟩
    · rw [e] at hpos; exact absurd hpos (by decide)
    · rw [e] at hpos; exact absurd hpos (by decide)
    · exact absurd e (Int32.not_lt.mpr hpos)
    · rw [e] at ho
      exact xw_addPulse hB ho (Or.inl rfl)
theorem xl_pass (hB : xBok pre B) (h : xOb N V H) (hV : V ≤ 1000000) (x : Int32) (hg : B + 253 + g.length < 1000000) : xAny pre B N C L g V H (V + 79200) (H + 48) (fun ans h' => xRn K Z 8 217 [.ref (B + 0), .int x] (xHn pre B N C L g) (.ok (some (.int ans))) h') := by
  have ho := xo_pass_ (K := K) (Z := Z) (L := L) (C := C) (g := g) hB h.2.2.1 (h.2.1 1 (by decide)) x hg
  have hn := xNn_ob h
  refine xany_of (F := xfLet (xNn N) 1 x) (v := 0) h (xgd_let hn.1 hV) (fun a b hab => xoff_let (by omega)) (xrul_let (hn.2 1 (by decide))) (fun hneg => ?_) (fun hpos => ?_)
  · have hc := xcg_of (xgc_let hn.1 hV) hneg
    rcases xConR_cases (B + 253 + g.length) (xfLet (xNn N) 1 x).1 with ⟨e, e2⟩ | ⟨-, e, e2⟩ | ⟨e11, e12, -, e2⟩ | ⟨-, -, e, -⟩
    · rw [e] at hc
      exact absurd hc (by decide)
    · rw [e2] at ho
      exact ⟨-1001, by decide, xw_pass hB ho (Or.inr (Or.inl ⟨_, rfl, rfl⟩))⟩
    · rw [e2] at ho
      exact ⟨-1002, by decide, xw_pass hB ho (Or.inr (Or.inr ⟨_, rfl, rfl⟩))⟩
    · exact absurd hneg e
  · rcases xConR_cases (B + 253 + g.length) (xfLet (xNn N) 1 x).1 with ⟨e, -⟩ | ⟨-, e, -⟩ | ⟨-, -, e, -⟩ | ⟨-, -, -, e⟩
    · rw [e] at hpos; exact absurd hpos (by decide)
    · rw [e] at hpos; exact absurd hpos (by decide)
    · exact absurd e (Int32.not_lt.mpr hpos)
    · rw [e] at ho
      exact xw_pass hB ho (Or.inl rfl)
end XWE
