/-! MORE CHANGES THAT KEEP A RIVER GOOD -/
section XGE
variable {N M : Nat → Nat → Int32} {w V V' H : Nat} {x y f s p c : Int32}
theorem xrule_or (h : xrule f = true) : f = 102 ∨ (f = 104 ∨ f = 114) := by
  unfold xrule at h
  simpa using h
theorem xgd_rule (hg : xGd N w V H) : xCh N w V H (xfRule N w x f) := by
  unfold xfRule
  split
  · exact Or.inl ⟨Or.inr (Or.inr (Or.inr (Or.inr (Or.inl rfl)))), rfl⟩
  · rename_i hh
    split
    · exact Or.inl ⟨Or.inr (Or.inr (Or.inr (Or.inr (Or.inr rfl)))), rfl⟩
    · rename_i hf
      split
      · exact Or.inl ⟨Or.inr (Or.inr (Or.inr (Or.inl rfl))), rfl⟩
      · have hh2 : xhas N w x = true := by simpa using hh
        have h88 := xhas_lt hh2
        obtain ⟨n, -, h8, hlt, k0, k1, k2, k3, k4, k5, k6, k7, k8⟩ := xgd_has hg hh2
        have hfr := xrule_or (f := f) (by simpa using hf)
        have hR : xRch (xupN N (w + 3 + x.toNatClampNeg) 8 f) (w + 3 + x.toNatClampNeg) V := by
          unfold xRch xupN
          simp
          exact ⟨k0, k1, k2, k3, k4, k5, k6, k7, hfr⟩
        have hx0 : x = Int32.ofNat x.toNatClampNeg := by
          unfold xhas at hh2
          simp only [Bool.and_eq_true, decide_eq_true_eq] at hh2
          have h0 := hh2.1
          rw [Int32.le_iff_toInt_le, show (0 : Int32).toInt = 0 from rfl] at h0
          apply Int32.toInt_inj.mp
          rw [(xi_ofNat (n := x.toNatClampNeg) (by omega)).1]
          have := (xlp_max x).2
          omega
        have hop := xgd_open (N := xupN N (w + 3 + x.toNatClampNeg) 8 f) (w := w) hR h88
        rw [← hx0] at hop
        obtain ⟨o, eo, -, ho⟩ := hop
        generalize x.toNatClampNeg = r at *
        refine Or.inr ⟨o, eo, by omega, ?_⟩
        refine xGd_mk (r := r) hg ?_ ?_ ?_ (Nat.le_refl _) (fun r' h1 h2 b h3 => ?_) (fun r' h1 b h3 => ?_) hR
        · show xupN N _ 8 f w 2 = _; unfold xupN; rw [if_neg (by omega)]
        · show xupN N _ 8 f w 3 = _; unfold xupN; rw [if_neg (by omega)]
        · show xupN N _ 8 f w 4 = _; unfold xupN; rw [if_neg (by omega)]
        · show xupN N _ 8 f _ b = _; unfold xupN; rw [if_neg (by omega)]
        · show xupN N _ 8 f _ b = _; unfold xupN; rw [if_neg (by omega)]
theorem xgd_pour (hg : xGd N w V H) (hV : V ≤ 1000000) : xCh N w (V + 1000) H (xfPour N w x f) := by
  unfold xfPour
  split
  · exact Or.inl ⟨Or.inr (Or.inr (Or.inr (Or.inr (Or.inl rfl)))), rfl⟩
  · rename_i hh
    split
    · exact Or.inl ⟨Or.inr (Or.inr (Or.inr (Or.inr (Or.inr rfl)))), rfl⟩
    · rename_i hf
      obtain ⟨n, -, h8, hlt, k0, k1, k2, k3, ⟨v, ev, -, hv⟩, k5, k6, k7, k8⟩ := xgd_has hg (by simpa using hh)
      obtain ⟨q, eq, hq1, hq2⟩ : xBnd f 1 999 := xBnd_win (by simpa using hf) rfl rfl
      generalize x.toNatClampNeg = r at *
      have e4 : N (w + 3 + r) 4 + f = Int32.ofNat (v + q) := by rw [ev, eq]; exact (Int32.ofNat_add v q).symm
      have hR : xRch (xNpour N w (w + 3 + r) f) (w + 3 + r) (V + 1000) := by
        have e : ∀ b, xNpour N w (w + 3 + r) f (w + 3 + r) b = if b = 4 then N (w + 3 + r) 4 + f else N (w + 3 + r) b := by
          intro b
          unfold xNpour xupN
          rw [if_neg (by omega)]
          by_cases hb : b = 4
          · rw [if_pos (by omega), if_pos hb]
          · rw [if_neg (by omega), if_neg hb]
        unfold xRch
        rw [e, e, e, e, e, e, e, e, e]
        simp
        rw [e4]
        exact ⟨k0, k1, k2, k3, ⟨v + q, rfl, Nat.zero_le _, by omega⟩, k5, k6, k7, k8⟩
      obtain ⟨o, eo, -, ho⟩ := xgd_level (N := xNpour N w (w + 3 + r) f) (w := w) hR (by omega)
      have e0 : xNpour N w (w + 3 + r) f (w + 3 + r) 0 = N (w + 3 + r) 0 := by
        unfold xNpour xupN
        rw [if_neg (by omega), if_neg (by omega)]
      have e44 : xNpour N w (w + 3 + r) f (w + 3 + r) 4 = N (w + 3 + r) 4 + f := by
        unfold xNpour xupN
        rw [if_neg (by omega), if_pos ⟨rfl, rfl⟩]
      rw [e0, e44] at eo
      refine Or.inr ⟨o, eo, by omega, ?_⟩
      refine xGd_mk (r := r) hg ?_ ?_ ?_ (by omega) (fun r' h1 h2 b h3 => ?_) (fun r' h1 b h3 => ?_) hR
      · show xNpour N w _ f w 2 = _; unfold xNpour xupN; rw [if_neg (by omega), if_neg (by omega)]
      · show xNpour N w _ f w 3 = _; unfold xNpour xupN; rw [if_neg (by omega), if_neg (by omega)]
      · show xNpour N w _ f w 4 = _; unfold xNpour xupN; rw [if_neg (by omega), if_neg (by omega)]
      · show xNpour N w _ f _ b = _; unfold xNpour xupN; rw [if_neg (by omega), if_neg (by omega)]
      · show xNpour N w _ f _ b = _; unfold xNpour xupN; rw [if_neg (by omega), if_neg (by omega)]
theorem xsta_bd {i : Nat} : ∃ a, xsta N i = Int32.ofNat a ∧ a < 3 := by
  unfold xsta
  split
  · split
    · exact ⟨0, rfl, by omega⟩
    · exact ⟨1, rfl, by omega⟩
  · exact ⟨2, rfl, by omega⟩
theorem xgd_stages (hg : xGd N w V H) : xCh N w V H (xfStages N w x y f) := by
  unfold xfStages
  split
  · exact Or.inl ⟨Or.inr (Or.inr (Or.inr (Or.inr (Or.inl rfl)))), rfl⟩
  · rename_i hh
    split
    · exact Or.inl ⟨Or.inr (Or.inr (Or.inr (Or.inr (Or.inr rfl)))), rfl⟩
    · rename_i hf
      obtain ⟨n, -, h8, hlt, k0, k1, k2, k3, k4, k5, k6, k7, k8⟩ := xgd_has hg (by simpa using hh)
      have hf2 : xstOk y f = true := by simpa using hf
      unfold xstOk at hf2
      simp only [Bool.and_eq_true] at hf2
      have hy : xBnd y 1 998 := xBnd_win hf2.1 rfl rfl
      have hfb : xBnd f 2 999 := xBnd_win hf2.2.1 rfl rfl
      generalize x.toNatClampNeg = r at *
      obtain ⟨o, eo, ho⟩ := xsta_bd (N := xNst N (w + 3 + r) y f) (i := w + 3 + r)
      refine Or.inr ⟨o, eo, by omega, ?_⟩
      refine xGd_mk (r := r) hg ?_ ?_ ?_ (Nat.le_refl _) (fun r' h1 h2 b h3 => ?_) (fun r' h1 b h3 => ?_) ?_
      · show xNst N _ y f w 2 = _; unfold xNst xupN; rw [if_neg (by omega), if_neg (by omega)]
      · show xNst N _ y f w 3 = _; unfold xNst xupN; rw [if_neg (by omega), if_neg (by omega)]
      · show xNst N _ y f w 4 = _; unfold xNst xupN; rw [if_neg (by omega), if_neg (by omega)]
      · show xNst N _ y f _ b = _; unfold xNst xupN; rw [if_neg (by omega), if_neg (by omega)]
      · show xNst N _ y f _ b = _; unfold xNst xupN; rw [if_neg (by omega), if_neg (by omega)]
      · show xRch (xNst N (w + 3 + r) y f) (w + 3 + r) V
        unfold xRch xNst xupN
        simp
        exact ⟨k0, k1, k2, k3, k4, hy, hfb, k7, k8⟩
theorem xgd_append (hg : xGd N w V H) : xCh N w V H (xfAppend N w s p c) := by
  unfold xfAppend
  split
  · exact Or.inl ⟨Or.inr (Or.inr (Or.inr (Or.inr (Or.inr rfl)))), rfl⟩
  · rename_i hok
    split
    · exact Or.inl ⟨Or.inl rfl, rfl⟩
    · rename_i hc
      obtain ⟨n, q, t, ⟨e2, e3, e4⟩, ⟨a2, a3, a4⟩, hR, hP⟩ := hg
      have hok2 : xapOk s p c = true := by simpa using hok
      unfold xapOk at hok2
      simp only [Bool.and_eq_true] at hok2
      have b1 : xBnd s 1 50 := xBnd_win hok2.1 rfl rfl
      have b2 : xBnd p 5 60 := xBnd_win hok2.2.1 rfl rfl
      have b3 : xBnd c 1 500 := xBnd_win hok2.2.2 rfl rfl
      have hn7 := xwin7_lt (x := N w 2) (by simpa using hc)
      rw [e2, (xi_ofNat (n := n) (by omega)).2.1] at hn7
      have hrow : (N w 2).toNatClampNeg = n := by rw [e2]; exact (xi_ofNat (n := n) (by omega)).2.1
      have hin : ∀ b, xNap N w s p c (w + 3 + n) b = (match b with
        | 0 => s
        | 1 => p
        | 2 => c
        | 3 => 0
        | 4 => 0
        | 5 => 20
        | 6 => 40
        | 7 => 100
        | 8 => 102
        | _ => N (w + 3 + n) b) := by
        intro b
        unfold xNap xupN
        rw [if_neg (by omega)]
        unfold xNbeg
        rw [hrow, if_pos rfl]
        rcases b with _ | _ | _ | _ | _ | _ | _ | _ | _ | b <;> rfl
      have hoff : ∀ a b, a ≠ w + 3 + n → ¬ (a = w ∧ b = 2) → xNap N w s p c a b = N a b := by
        intro a b h1 h2
        unfold xNap xupN
        rw [if_neg h2]
        unfold xNbeg
        rw [hrow, if_neg h1]
      refine Or.inr ⟨n, ?_, by omega, n + 1, q, t, ⟨?_, ?_, ?_⟩, ⟨by omega, a3, a4⟩, fun r hr => ?_, fun r hr => ?_⟩
      · show N w 2 + 1 - 1 = _
        rw [e2]
        apply Int32.toInt_inj.mp
        rw [Int32.toInt_sub, Int32.toInt_add, (xi_ofNat (n := n) (by omega)).1, show (1 : Int32).toInt = 1 from rfl, Int.bmod_eq_of_le (n := (n : Int) + 1) (by omega) (by omega), Int.bmod_eq_of_le (by omega) (by omega)]
        omega
      · show xNap N w s p c w 2 = _
        unfold xNap xupN
        rw [if_pos ⟨rfl, rfl⟩, e2, Int32.ofNat_add]
        rfl
      · show xNap N w s p c w 3 = _
        rw [hoff _ _ (by omega) (by omega)]
        exact e3
      · show xNap N w s p c w 4 = _
        rw [hoff _ _ (by omega) (by omega)]
        exact e4
      · show xRch (xNap N w s p c) (w + 3 + r) V
        by_cases hq : r = n
        · rw [hq]
          unfold xRch
          rw [hin 0, hin 1, hin 2, hin 3, hin 4, hin 5, hin 6, hin 7, hin 8]
          exact ⟨b1, b2, b3, ⟨0, rfl, by omega, by omega⟩, ⟨0, rfl, by omega, by omega⟩, ⟨20, rfl, by omega, by omega⟩, ⟨40, rfl, by omega, by omega⟩, ⟨100, rfl, by omega, by omega⟩, Or.inl rfl⟩
        · have k := hR r (by omega)
          unfold xRch at k ⊢
          have e : ∀ b, xNap N w s p c (w + 3 + r) b = N (w + 3 + r) b := fun b => hoff _ _ (by omega) (by omega)
          rw [e, e, e, e, e, e, e, e, e]
          exact k
      · have k := hP r hr
        show xPls (xNap N w s p c) (w + 11 + r)
        unfold xPls at k ⊢
        have e : ∀ b, xNap N w s p c (w + 11 + r) b = N (w + 11 + r) b := fun b => hoff _ _ (by omega) (by omega)
        rw [e, e, e]
        exact k
end XGE
