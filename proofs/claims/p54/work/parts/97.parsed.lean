/-! TEXTS PARSED BY HAND: one command after another -/
section XPH
variable {sg : Int32 → Int32} {i j n k : Nat} {p p1 p2 p3 x y len : Int32} {V V' : Nat → Nat → Option Int32} {C C' : Nat → Nat} {f1 f2 : Nat}
theorem xTkC_0 (hw : xTkW sg p 9 0 0 = (some j, p1)) (hp : xPmr.getD j [] = []) : xTkC sg i p V C = (true, p1, V, xCup C i (1 + j)) := by
  unfold xTkC
  rw [hw]
  dsimp only
  rw [hp]
  rfl
theorem xTkC_1 (hw : xTkW sg p 9 0 0 = (some j, p1)) (hp : xPmr.getD j [] = [f1]) (h1 : xTkP sg f1 p1 = (x, p2)) (hx : x ≠ -1) : xTkC sg i p V C = (true, p2, (fun a b => if a = i ∧ b = 1 then some x else V a b), xCup C i (1 + j)) := by
  have e : xTkA sg [f1] i 1 0 p1 V = (true, p2, fun a b => if a = i ∧ b = 1 then some x else V a b) := by
    rw [xTkA]
    rw [if_pos (Or.inl rfl)]
    simp only [if_pos, List.getD_cons_zero, h1, if_neg hx]
    rfl
  unfold xTkC
  rw [hw]
  dsimp only
  rw [hp]
  show ((xTkA sg [f1] i 1 0 p1 V).1, (xTkA sg [f1] i 1 0 p1 V).2.1, (xTkA sg [f1] i 1 0 p1 V).2.2, _) = _
  rw [e]
theorem xTkC_2 (hw : xTkW sg p 9 0 0 = (some j, p1)) (hp : xPmr.getD j [] = [f1, f2]) (h1 : xTkP sg f1 p1 = (x, p2)) (hx : x ≠ -1) (hs : sg p2 = 32) (h2 : xTkP sg f2 (p2 + 1) = (y, p3)) (hy : y ≠ -1) : xTkC sg i p V C = (true, p3, (fun a b => if a = i ∧ b = 2 then some y else if a = i ∧ b = 1 then some x else V a b), xCup C i (1 + j)) := by
  have e : xTkA sg [f1, f2] i 2 0 p1 V = (true, p3, fun a b => if a = i ∧ b = 2 then some y else if a = i ∧ b = 1 then some x else V a b) := by
    rw [xTkA, if_pos (Or.inl rfl)]
    have e1 : xTkP sg ([f1, f2].getD 0 0) (if 0 = 0 then p1 else p1 + 1) = (x, p2) := h1
    rw [e1]
    dsimp only
    rw [if_neg hx, xTkA, if_pos (Or.inr hs)]
    have e2 : xTkP sg ([f1, f2].getD (0 + 1) 0) (if 0 + 1 = 0 then p2 else p2 + 1) = (y, p3) := h2
    rw [e2]
    dsimp only
    rw [if_neg hy]
    rfl
  unfold xTkC
  rw [hw]
  dsimp only
  rw [hp]
  show ((xTkA sg [f1, f2] i 2 0 p1 V).1, (xTkA sg [f1, f2] i 2 0 p1 V).2.1, (xTkA sg [f1, f2] i 2 0 p1 V).2.2, _) = _
  rw [e]
theorem xPar_end (h : xTkC sg (234 + n) p V C = (true, p1, V', C')) (hl : p1 = len) : xPar sg len (k + 1) n p V C = (-1, p1, xVct V' n, C') := by
  rw [xPar, h]
  dsimp only
  rw [if_neg (by decide), if_pos hl]
theorem xPar_next (h : xTkC sg (234 + n) p V C = (true, p1, V', C')) (hl : p1 ≠ len) (h59 : sg p1 = 59) : xPar sg len (k + 1) n p V C = xPar sg len k (n + 1) (p1 + 1) (xVct V' n) C' := by
  rw [xPar, h]
  dsimp only
  rw [if_neg (by decide), if_neg hl, if_pos h59]
theorem xPar_bad (hw : xTkW sg p 9 0 0 = (none, p1)) : xPar sg len (k + 1) n p V C = (p1, p1, V, C) := by
  have e : xTkC sg (234 + n) p V C = (false, p1, V, C) := by
    unfold xTkC
    rw [hw]
  rw [xPar, e]
  dsimp only
  rw [if_pos rfl]
end XPH
/-! the memory when a text is read: the commands, the text, no river -/
def xM0 (N : Nat → Nat → Int32) (s : List Nat) (p : Int32) (V : Nat → Nat → Option Int32) : Nat → Nat → Int32 := xupN (xTxM (xFd N s s.length) p V) 231 2 0
section XM0S
variable {N M Q : Nat → Nat → Int32} {s : List Nat} {p : Int32} {V : Nat → Nat → Option Int32} {C : Nat → Nat} {v H : Nat}
theorem xM0_off (hV : xVok V) {a b : Nat} (h1 : a ≠ 231) (h2 : a ≠ 232) (h3 : ¬ (234 ≤ a ∧ a < 250)) : xM0 N s p V a b = N a b := by
  unfold xM0 xupN
  rw [if_neg (by omega)]
  unfold xTxM
  rw [if_neg (by omega)]
  cases hq : V a b with
  | some x => exact absurd (hV a b (by rw [hq]; rfl)) (by omega)
  | none => exact xFd_off h2 (by omega) _
theorem xM0_V {a b : Nat} {x : Int32} (h1 : a ≠ 231 ∨ b = 4) (h : V a b = some x) : xM0 N s p V a b = x := by
  unfold xM0 xupN
  rw [if_neg (by omega)]
  unfold xTxM
  rw [if_neg (by omega), h]
theorem xM0_2 : xM0 N s p V 231 2 = 0 := by
  unfold xM0 xupN
  rw [if_pos ⟨rfl, rfl⟩]
theorem xM0_sm (hV : xVok V) {w : Nat} (hw : w ∈ xRbs) : xSm (xM0 N s p V) N w w := by
  have q2 := xRbs_lt hw
  exact xSm_of (fun a b q3 q4 => xM0_off hV (by omega) (by omega) (by omega))
theorem xM0_ob (hV : xVok V) (h : xOb N v H) : xOb (xM0 N s p V) v H := by
  refine ⟨xGd_sm (xSm_symm (xM0_sm hV (by decide))) h.1, fun w hw => ?_, ?_, xM0_2⟩
  · have q2 := xRbs_lt hw
    exact xrul_off (fun r hr => xM0_off hV (by omega) (by omega) (by omega)) (h.2.1 w hw)
  · rw [xM0_off hV (by decide) (by decide) (by decide)]
    exact h.2.2.1
theorem xM0_row (hV : xVok V) : xRow (xM0 N s p V) = xRow N := by
  unfold xRow xNx
  rw [xM0_off hV (by decide) (by decide) (by decide)]
theorem xRefd_pre (hV : xVok V) (h0 : N 231 2 = 0) (h : xRefd (xM0 N s p V) M) : xRefd N M := by
  obtain ⟨h1, h2, h3, h4, h5, h6, h7⟩ := h
  refine ⟨xSm_trans h1 (xM0_sm hV (by decide)), fun w hw q1 q2 => xSm_trans (h2 w hw q1 (by rw [xM0_row hV]; exact q2)) (xM0_sm hV hw), ?_, ?_, ?_, ?_, fun b => ⟨?_, ?_⟩⟩
  · rw [h3, xM0_off hV (by decide) (by decide) (by decide)]
  · rw [h4, xM0_off hV (by decide) (by decide) (by decide)]
  · rw [h5, xM0_off hV (by decide) (by decide) (by decide)]
  · rw [h6, xM0_2, h0]
  · rw [(h7 b).1, xM0_off hV (by decide) (by decide) (by decide)]
  · rw [(h7 b).2, xM0_off hV (by decide) (by decide) (by decide)]
theorem xAccd_pre (hV : xVok V) (h0 : N 231 2 = 0) (h : xAccd (xM0 N s p V) M) : xAccd N M := by
  obtain ⟨h1, h2, h3, h4, h5, h6, h7⟩ := h
  rw [xM0_row hV] at h1 h2
  refine ⟨xSm_trans h1 (xM0_sm hV (by decide)), fun w hw q1 q2 q3 => xSm_trans (h2 w hw q1 q2 q3) (xM0_sm hV hw), ?_, ?_, ?_, ?_, fun b => ⟨?_, ?_⟩⟩
  · rw [h3, xM0_off hV (by decide) (by decide) (by decide)]
  · rw [h4, xM0_off hV (by decide) (by decide) (by decide)]
  · rw [h5, xM0_off hV (by decide) (by decide) (by decide)]
  · rw [h6, xM0_2, h0]
  · rw [(h7 b).1, xM0_off hV (by decide) (by decide) (by decide)]
  · rw [(h7 b).2, xM0_off hV (by decide) (by decide) (by decide)]
/-- a failed text: the river is put back, the denial told -/
theorem xrefd_fail (h : xOb N v H) (hoff : ∀ a b, (a < 1 ∨ 20 ≤ a) → Q a b = xNn N a b) {x y z : Int32} : xRefd N (xNcopy (xNfail Q x y z) 1 (60 + 19 * xNx (xNfail Q x y z))) ∧ xOb (xNcopy (xNfail Q x y z) 1 (60 + 19 * xNx (xNfail Q x y z))) v H := by
  have hnf : ∀ a b, a ≠ 250 → xNfail Q x y z a b = Q a b := by
    intro a b q
    unfold xNfail
    split
    · unfold xNden xupN
      rw [if_neg (by omega), if_neg (by omega), if_neg (by omega), if_neg (by omega)]
    · unfold xNden xupN
      rw [if_neg (by omega), if_neg (by omega), if_neg (by omega), if_neg (by omega)]
  have h3 := h.2.2.1
  have hr := xRow_in h3
  have e58 : xNfail Q x y z 58 1 = N 58 1 := by rw [hnf 58 1 (by decide), hoff 58 1 (by omega), xNn_off h3 (by omega)]
  have erow : 60 + 19 * xNx (xNfail Q x y z) = xRow N := by
    unfold xRow xNx
    rw [e58]
  rw [erow]
  have hk : ∀ a b, a ≠ 250 → (a < 1 ∨ 20 ≤ a) → xNcopy (xNfail Q x y z) 1 (xRow N) a b = xNn N a b := fun a b q1 q2 => (xNcopy_off q2).trans ((hnf a b q1).trans (hoff a b q2))
  have hk2 : ∀ a b, a ≠ 250 → (a < 1 ∨ 20 ≤ a) → (a < xRow N ∨ xRow N + 19 ≤ a) → xNcopy (xNfail Q x y z) 1 (xRow N) a b = N a b := fun a b q1 q2 q3 => (hk a b q1 q2).trans (xNn_off h3 q3)
  have s1 : xSm (xNcopy (xNfail Q x y z) 1 (xRow N)) N 1 1 := by
    refine xSm_trans (xSm_copy (N := xNfail Q x y z) (w := 1) (v := xRow N)) (xSm_trans (M := xNn N) (v := xRow N) (xSm_of (fun a b q1 q2 => (hnf a b (by omega)).trans (hoff a b (by omega)))) ?_)
    exact xSm_copy (N := N) (w := xRow N) (v := 1)
  have hn := xNn_ob h
  refine ⟨⟨s1, fun w hw q1 q2 => ?_, ?_, ?_, ?_, ?_, fun b => ⟨?_, ?_⟩⟩, xGd_sm (xSm_symm s1) h.1, fun w hw => ?_, ?_, ?_⟩
  · by_cases hw1 : w = 1
    · rw [hw1]; exact s1
    · have k1 := xrb_apart w hw (xRow N) hr.1 q2
      have k2 := xrb_apart w hw 1 (by decide) hw1
      have k3 := xRbs_lt hw
      exact xSm_of (fun a b q3 q4 => hk2 a b (by omega) (by omega) (by omega))
  · exact hk2 58 1 (by decide) (by omega) (by omega)
  · exact hk2 58 2 (by decide) (by omega) (by omega)
  · exact hk2 0 7 (by decide) (by omega) (by omega)
  · exact hk2 231 2 (by decide) (by omega) (by omega)
  · exact hk2 251 b (by decide) (by omega) (by omega)
  · exact hk2 252 b (by decide) (by omega) (by omega)
  · by_cases hw1 : w = 1
    · rw [hw1]
      intro r hr8
      have e := s1.2.1 r 8 hr8 (by decide)
      rw [e]
      exact h.2.1 1 (by decide) r hr8
    · have k2 := xrb_apart w hw 1 (by decide) hw1
      have k3 := xRbs_lt hw
      exact xrul_off (fun r hr8 => hk _ _ (by omega) (by omega)) (hn.2 w hw)
  · rw [hk2 58 1 (by decide) (by omega) (by omega)]; exact h3
  · rw [hk2 231 2 (by decide) (by omega) (by omega)]; exact h.2.2.2
/-- commands one by one keep to the river, and keep it good -/
def xBud (C : Nat → Nat) : Nat → Nat → Nat
  | 0, _ => 0
  | k + 1, n => (if C (234 + n) = 9 then 79200 else 1000) + xBud C k (n + 1)
theorem xgd_per1 {w k : Nat} {x y z : Int32} (hg : xGd N w v H) (hV : v ≤ 1000000) (h1 : 1 ≤ k ∧ k ≤ 9) : xCh N w (v + (if k = 9 then 79200 else 1000)) (H + 48) (xfPer N w k x y z) := by
  rcases k with _ | _ | _ | _ | _ | _ | _ | _ | _ | _ | k
  · omega
  · exact xCh_mono (xgd_append hg) (by omega) (by omega)
  · exact xCh_mono (xgd_cut hg hV) (by omega) (by omega)
  · exact xCh_mono (xgd_lat hg) (by omega) (by omega)
  · exact xCh_mono (xgd_pour hg hV) (by rw [if_neg (by decide)]; omega) (by omega)
  · exact xCh_mono (xgd_stages hg) (by omega) (by omega)
  · exact xCh_mono (xgd_set hg) (by omega) (by omega)
  · exact xCh_mono (xgd_rule hg) (by omega) (by omega)
  · exact xCh_mono (xgd_pulse hg) (by omega) (by omega)
  · exact xgd_let hg hV
  · omega
theorem xexc_gd : ∀ k n (M : Nat → Nat → Int32) v H r M2, (∀ j, j < k → 1 ≤ C (234 + (n + j)) ∧ C (234 + (n + j)) ≤ 9) → xGd M 1 v H → xrul M 1 → v + xBud C k n ≤ 1000000 → xExc C k n M = (r, M2) → (∀ a b, (a < 1 ∨ 20 ≤ a) → M2 a b = M a b) ∧ (xrul M2 1 ∧ ∃ v' H', xGd M2 1 v' H' ∧ (v' ≤ v + xBud C k n ∧ H' ≤ H + 48 * k)) := by
  intro k
  induction k with
  | zero =>
    intro n M v H r M2 hC hg hr hv he
    rw [xExc] at he
    cases he
    exact ⟨fun _ _ _ => rfl, hr, v, H, hg, by omega, by omega⟩
  | succ k ih =>
    intro n M v H r M2 hC hg hr hv he
    have hc0 := hC 0 (by omega)
    rw [show n + 0 = n from rfl] at hc0
    have hbud : xBud C (k + 1) n = (if C (234 + n) = 9 then 79200 else 1000) + xBud C k (n + 1) := rfl
    have hch := xgd_per1 (k := C (234 + n)) (x := M (234 + n) 1) (y := M (234 + n) 2) (z := M (234 + n) 3) hg (by omega) hc0
    have hoff : ∀ a b, (a < 1 ∨ 20 ≤ a) → (xfPer M 1 (C (234 + n)) (M (234 + n) 1) (M (234 + n) 2) (M (234 + n) 3)).2 a b = M a b := fun a b hab => xoff_per (by omega)
    have hru := xrul_per (k := C (234 + n)) (x := M (234 + n) 1) (y := M (234 + n) 2) (z := M (234 + n) 3) hr
    rw [xExc] at he
    generalize xfPer M 1 (C (234 + n)) (M (234 + n) 1) (M (234 + n) 2) (M (234 + n) 3) = F at he hch hoff hru
    generalize (if C (234 + n) = 9 then 79200 else 1000) = bd at hbud hch
    have hg2 : ∃ v' H', xGd F.2 1 v' H' ∧ (v' ≤ v + bd ∧ H' ≤ H + 48) := by
      rcases hch with ⟨-, hF⟩ | ⟨a, -, -, hg2⟩
      · exact ⟨v, H, by rw [hF]; exact hg, by omega, by omega⟩
      · exact ⟨_, _, hg2, by omega, by omega⟩
    obtain ⟨v', H', hg2, hv', hH'⟩ := hg2
    by_cases hneg : F.1 < 0
    · rw [if_pos hneg] at he
      cases he
      exact ⟨hoff, hru, v', H', hg2, by omega, by omega⟩
    · rw [if_neg hneg] at he
      obtain ⟨i1, i2, v2, H2, i3, i4, i5⟩ := ih (n + 1) F.2 v' H' r M2 (fun j hj => by have := hC (j + 1) (by omega); rw [show n + (j + 1) = n + 1 + j by omega] at this; exact this) hg2 hru (by omega) he
      exact ⟨fun a b hab => (i1 a b hab).trans (hoff a b hab), i2, v2, H2, i3, by omega, by omega⟩
end XM0S
