/-! CALLS THAT THROW: one after another, the state as at the start -/
/-- the river, the rows and the counts as they were -/
def xKp (N0 N : Nat → Nat → Int32) : Prop := xSm N N0 1 1 ∧ ((∀ w ∈ xRbs, w ≠ 20 → w ≠ xRow N0 → xSm N N0 w w) ∧ (N 58 1 = N0 58 1 ∧ (N 58 2 = N0 58 2 ∧ N 0 7 = N0 0 7)))
section XKPT
variable {N0 N M : Nat → Nat → Int32}
theorem xKp_refl (N : Nat → Nat → Int32) : xKp N N := ⟨xSm_refl N 1, fun w _ _ _ => xSm_refl N w, rfl, rfl, rfl⟩
theorem xKp_row (h : xKp N0 N) : xRow N = xRow N0 := by
  unfold xRow xNx
  rw [h.2.2.1]
theorem xKp_trans (h : xKp N0 N) (k : xKp N M) : xKp N0 M := by
  refine ⟨xSm_trans k.1 h.1, fun w hw q1 q2 => xSm_trans (k.2.1 w hw q1 (by rw [xKp_row h]; exact q2)) (h.2.1 w hw q1 q2), k.2.2.1.trans h.2.2.1, k.2.2.2.1.trans h.2.2.2.1, k.2.2.2.2.trans h.2.2.2.2⟩
theorem xKp_refd (h : xRefd N M) : xKp N M := ⟨h.1, h.2.1, h.2.2.1, h.2.2.2.1, h.2.2.2.2.1⟩
theorem xKp_qy (h : xQy N M) : xKp N M := ⟨xQy_1 h, fun _ hw q _ => xQy_sm h hw q, h.1 _ _ (by decide) (by decide) (by decide), h.1 _ _ (by decide) (by decide) (by decide), h.1 _ _ (by decide) (by decide) (by decide)⟩
end XKPT
/-- so far: nothing changed, at most m cells made -/
def xTwn (pre : xH) (B : Nat) (N0 : Nat → Nat → Int32) (g0 : xH) (V H m : Nat) (N : Nat → Nat → Int32) (C : Nat → Nat) (L : Nat) (g : xH) : Prop := xKp N0 N ∧ (xOb N V H ∧ (xLn pre B N C L g ∧ xGr g0 g m))
section XTSS
variable {K : List (Nat × List Value)} {Z : List Value} {pre g g0 : xH} {B L : Nat} {N N0 : Nat → Nat → Int32} {C : Nat → Nat} {V H m m' : Nat} {F : Int32 × (Nat → Nat → Int32)} {x y s p c f v cd : Int32}
theorem xts_len (h : xTwn pre B N0 g0 V H m N C L g) : g.length ≤ g0.length + m := h.2.2.2.2.1
theorem xts_mono (h : xTwn pre B N0 g0 V H m N C L g) (hm : m ≤ m') : xTwn pre B N0 g0 V H m' N C L g := ⟨h.1, h.2.1, h.2.2.1, xGr_mono h.2.2.2 hm⟩
theorem xts_gx (hB : xBok pre B) (h : xTwn pre B N0 g0 V H m N C L g) : xTwn pre B N0 g0 V H (m + 1) N C L (xgx g) := ⟨h.1, h.2.1, xln_gx hB h.2.2.1 (fun _ => rfl) (fun _ => rfl), xGr_trans h.2.2.2 (xGr_gx g)⟩
theorem xts_sm (h : xTwn pre B N0 g0 V H m N C L g) : xSm (xNn N) N0 1 1 := xSm_trans (xSm_of (fun a b _ _ => xNn_lo h.2.1.2.2.1 (by omega))) h.1.1
theorem xts_has (h : xTwn pre B N0 g0 V H m N C L g) (x : Int32) : xhas (xNn N) 1 x = xhas N0 1 x := xsm_has (xts_sm h)
theorem xts_ref (hB : xBok pre B) (h : xTwn pre B N0 g0 V H m N C L g) (hF : F.2 = xNn N) (hneg : F.1 < 0) : xTwn pre B N0 g0 V H (m + 1) (xConN F.2 F.1 v) C L (xConG g F.1) := by
  obtain ⟨k1, k2⟩ := xrefd (M := xConN F.2 F.1 v) h.2.1 (fun a b hab => by rw [xConN_250 hneg hab, hF])
  rw [xConG_neg hneg]
  obtain ⟨-, -, -, -, -, -, kl⟩ := id k1
  exact ⟨xKp_trans h.1 (xKp_refd k1), k2, xln_gx hB h.2.2.1 (fun b => (kl b).1) (fun b => (kl b).2), xGr_trans h.2.2.2 (xGr_gx g)⟩
/-- what is told of a denial -/
theorem xts_den {M : Nat → Nat → Int32} (h11 : cd ≠ -11) (h12 : cd ≠ -12) (hneg : cd < 0) : xConN M cd v 250 0 = -cd ∧ (xConN M cd v 250 1 = xfDet M 1 (-cd) v ∧ xConN M cd v 250 2 = 0) := by
  unfold xConN
  rw [if_neg h11, if_neg h12, if_pos hneg]
  exact ⟨rfl, rfl, rfl⟩
theorem xt_addReach (hB : xBok pre B) (hV : V ≤ 1000000) (h : xTwn pre B N0 g0 V H m N C L g) (s p c : Int32) {cd : Int32} (hF : xfAppend (xNn N) 1 s p c = (cd, xNn N)) (hneg : cd < 0) (hg : B + 253 + g0.length + m < 999000) :
    ∃ N' g', xRn K Z 8 198 [.ref (B + 0), .int s, .int p, .int c] (xHn pre B N C L g) (.ok (some (.int (xAns (-1) (-1001) (-1002) cd)))) (xHn pre B N' C L g') ∧ (xTwn pre B N0 g0 V H (m + 1) N' C L g' ∧ (cd ≠ -11 → cd ≠ -12 → (N' 250 0 = -cd ∧ (N' 250 1 = xfDet (xNn N) 1 (-cd) 0 ∧ N' 250 2 = 0)))) := by
  have hl := xts_len h
  have run := xe_addReach (K := K) (Z := Z) (C := C) (L := L) (g := g) hB h.2.1 hV s p c (by omega)
  have hr := xts_ref (F := xfAppend (xNn N) 1 s p c) (v := 0) hB h (by rw [hF]) (by rw [hF]; exact hneg)
  rw [hF] at run hr
  rw [xConG_neg hneg] at run hr
  exact ⟨_, _, run, hr, fun q1 q2 => xts_den q1 q2 hneg⟩
theorem xt_setLateral (hB : xBok pre B) (hV : V ≤ 1000000) (h : xTwn pre B N0 g0 V H m N C L g) (x f : Int32) {cd : Int32} (hF : xfLat (xNn N) 1 x f = (cd, xNn N)) (hneg : cd < 0) (hg : B + 253 + g0.length + m < 999000) :
    ∃ N' g', xRn K Z 8 200 [.ref (B + 0), .int x, .int f] (xHn pre B N C L g) (.ok (some (.int (xAns (-1001) (-1002) (-1003) cd)))) (xHn pre B N' C L g') ∧ (xTwn pre B N0 g0 V H (m + 1) N' C L g' ∧ (cd ≠ -11 → cd ≠ -12 → (N' 250 0 = -cd ∧ (N' 250 1 = xfDet (xNn N) 1 (-cd) f ∧ N' 250 2 = 0)))) := by
  have hl := xts_len h
  have run := xe_setLateral (K := K) (Z := Z) (C := C) (L := L) (g := g) hB h.2.1 hV x f (by omega)
  have hr := xts_ref (F := xfLat (xNn N) 1 x f) (v := f) hB h (by rw [hF]) (by rw [hF]; exact hneg)
  rw [hF] at run hr
  rw [xConG_neg hneg] at run hr
  exact ⟨_, _, run, hr, fun q1 q2 => xts_den q1 q2 hneg⟩
theorem xt_fill (hB : xBok pre B) (hV : V ≤ 1000000) (h : xTwn pre B N0 g0 V H m N C L g) (x f : Int32) {cd : Int32} (hF : xfPour (xNn N) 1 x f = (cd, xNn N)) (hneg : cd < 0) (hg : B + 253 + g0.length + m < 999000) :
    ∃ N' g', xRn K Z 8 201 [.ref (B + 0), .int x, .int f] (xHn pre B N C L g) (.ok (some (.int (xAns (-1001) (-1002) (-1) cd)))) (xHn pre B N' C L g') ∧ (xTwn pre B N0 g0 V H (m + 1) N' C L g' ∧ (cd ≠ -11 → cd ≠ -12 → (N' 250 0 = -cd ∧ (N' 250 1 = xfDet (xNn N) 1 (-cd) 0 ∧ N' 250 2 = 0)))) := by
  have hl := xts_len h
  have run := xe_fill (K := K) (Z := Z) (C := C) (L := L) (g := g) hB h.2.1 hV x f (by omega)
  have hr := xts_ref (F := xfPour (xNn N) 1 x f) (v := 0) hB h (by rw [hF]) (by rw [hF]; exact hneg)
  rw [hF] at run hr
  rw [xConG_neg hneg] at run hr
  exact ⟨_, _, run, hr, fun q1 q2 => xts_den q1 q2 hneg⟩
theorem xt_setStages (hB : xBok pre B) (hV : V ≤ 1000000) (h : xTwn pre B N0 g0 V H m N C L g) (x y f : Int32) {cd : Int32} (hF : xfStages (xNn N) 1 x y f = (cd, xNn N)) (hneg : cd < 0) (hg : B + 253 + g0.length + m < 999000) :
    ∃ N' g', xRn K Z 8 206 [.ref (B + 0), .int x, .int y, .int f] (xHn pre B N C L g) (.ok (some (.int (xAns (-1001) (-1002) (-1) cd)))) (xHn pre B N' C L g') ∧ (xTwn pre B N0 g0 V H (m + 1) N' C L g' ∧ (cd ≠ -11 → cd ≠ -12 → (N' 250 0 = -cd ∧ (N' 250 1 = xfDet (xNn N) 1 (-cd) 0 ∧ N' 250 2 = 0)))) := by
  have hl := xts_len h
  have run := xe_setStages (K := K) (Z := Z) (C := C) (L := L) (g := g) hB h.2.1 hV x y f (by omega)
  have hr := xts_ref (F := xfStages (xNn N) 1 x y f) (v := 0) hB h (by rw [hF]) (by rw [hF]; exact hneg)
  rw [hF] at run hr
  rw [xConG_neg hneg] at run hr
  exact ⟨_, _, run, hr, fun q1 q2 => xts_den q1 q2 hneg⟩
theorem xt_setGate (hB : xBok pre B) (hV : V ≤ 1000000) (h : xTwn pre B N0 g0 V H m N C L g) (x f : Int32) {cd : Int32} (hF : xfSet (xNn N) 1 x f = (cd, xNn N)) (hneg : cd < 0) (hg : B + 253 + g0.length + m < 999000) :
    ∃ N' g', xRn K Z 8 207 [.ref (B + 0), .int x, .int f] (xHn pre B N C L g) (.ok (some (.int (xAns (-1001) (-1002) (-1003) cd)))) (xHn pre B N' C L g') ∧ (xTwn pre B N0 g0 V H (m + 1) N' C L g' ∧ (cd ≠ -11 → cd ≠ -12 → (N' 250 0 = -cd ∧ (N' 250 1 = xfDet (xNn N) 1 (-cd) f ∧ N' 250 2 = 0)))) := by
  have hl := xts_len h
  have run := xe_setGate (K := K) (Z := Z) (C := C) (L := L) (g := g) hB h.2.1 hV x f (by omega)
  have hr := xts_ref (F := xfSet (xNn N) 1 x f) (v := f) hB h (by rw [hF]) (by rw [hF]; exact hneg)
  rw [hF] at run hr
  rw [xConG_neg hneg] at run hr
  exact ⟨_, _, run, hr, fun q1 q2 => xts_den q1 q2 hneg⟩
theorem xt_setRule (hB : xBok pre B) (hV : V ≤ 1000000) (h : xTwn pre B N0 g0 V H m N C L g) (x f : Int32) {cd : Int32} (hF : xfRule (xNn N) 1 x f = (cd, xNn N)) (hneg : cd < 0) (hg : B + 253 + g0.length + m < 999000) :
    ∃ N' g', xRn K Z 8 208 [.ref (B + 0), .int x, .int f] (xHn pre B N C L g) (.ok (some (.int (xAns (-1001) (-1002) (-1003) cd)))) (xHn pre B N' C L g') ∧ (xTwn pre B N0 g0 V H (m + 1) N' C L g' ∧ (cd ≠ -11 → cd ≠ -12 → (N' 250 0 = -cd ∧ (N' 250 1 = xfDet (xNn N) 1 (-cd) f ∧ N' 250 2 = 0)))) := by
  have hl := xts_len h
  have run := xe_setRule (K := K) (Z := Z) (C := C) (L := L) (g := g) hB h.2.1 hV x f (by omega)
  have hr := xts_ref (F := xfRule (xNn N) 1 x f) (v := f) hB h (by rw [hF]) (by rw [hF]; exact hneg)
  rw [hF] at run hr
  rw [xConG_neg hneg] at run hr
  exact ⟨_, _, run, hr, fun q1 q2 => xts_den q1 q2 hneg⟩
theorem xt_addPulse (hB : xBok pre B) (hV : V ≤ 1000000) (h : xTwn pre B N0 g0 V H m N C L g) (s p c : Int32) {cd : Int32} (hF : xfPulse (xNn N) 1 s p c = (cd, xNn N)) (hneg : cd < 0) (hg : B + 253 + g0.length + m < 999000) :
    ∃ N' g', xRn K Z 8 216 [.ref (B + 0), .int s, .int p, .int c] (xHn pre B N C L g) (.ok (some (.int (xAns (-1) (-1001) (-1002) cd)))) (xHn pre B N' C L g') ∧ (xTwn pre B N0 g0 V H (m + 1) N' C L g' ∧ (cd ≠ -11 → cd ≠ -12 → (N' 250 0 = -cd ∧ (N' 250 1 = xfDet (xNn N) 1 (-cd) 0 ∧ N' 250 2 = 0)))) := by
  have hl := xts_len h
  have run := xe_addPulse (K := K) (Z := Z) (C := C) (L := L) (g := g) hB h.2.1 hV s p c (by omega)
  have hr := xts_ref (F := xfPulse (xNn N) 1 s p c) (v := 0) hB h (by rw [hF]) (by rw [hF]; exact hneg)
  rw [hF] at run hr
  rw [xConG_neg hneg] at run hr
  exact ⟨_, _, run, hr, fun q1 q2 => xts_den q1 q2 hneg⟩
theorem xt_pass (hB : xBok pre B) (hV : V ≤ 1000000) (h : xTwn pre B N0 g0 V H m N C L g) (x : Int32) {cd : Int32} (hF : xfLet (xNn N) 1 x = (cd, xNn N)) (hneg : cd < 0) (hg : B + 253 + g0.length + m < 999000) :
    ∃ N' g', xRn K Z 8 217 [.ref (B + 0), .int x] (xHn pre B N C L g) (.ok (some (.int (xAns (-1) (-1001) (-1002) cd)))) (xHn pre B N' C L g') ∧ (xTwn pre B N0 g0 V H (m + 1) N' C L g' ∧ (cd ≠ -11 → cd ≠ -12 → (N' 250 0 = -cd ∧ (N' 250 1 = xfDet (xNn N) 1 (-cd) 0 ∧ N' 250 2 = 0)))) := by
  have hl := xts_len h
  have run := xe_pass (K := K) (Z := Z) (C := C) (L := L) (g := g) hB h.2.1 hV x (by omega)
  have hr := xts_ref (F := xfLet (xNn N) 1 x) (v := 0) hB h (by rw [hF]) (by rw [hF]; exact hneg)
  rw [hF] at run hr
  rw [xConG_neg hneg] at run hr
  exact ⟨_, _, run, hr, fun q1 q2 => xts_den q1 q2 hneg⟩
/-! which calls are refused -/
theorem xf_lat11 (hh : xhas N 1 x = false) : xfLat N 1 x f = (-11, N) := by unfold xfLat; rw [if_pos hh]
theorem xf_lat12 (hh : xhas N 1 x = true) (hf : xwin f 0 50 = false) : xfLat N 1 x f = (-12, N) := by unfold xfLat; rw [if_neg (by rw [hh]; decide), if_pos hf]
theorem xf_lat4 (hh : xhas N 1 x = true) (hf : xwin f 0 50 = true) (he : N (1 + 3 + x.toNatClampNeg) 3 = f) : xfLat N 1 x f = (-4, N) := by unfold xfLat; rw [if_neg (by rw [hh]; decide), if_neg (by rw [hf]; decide), if_pos he]
theorem xf_pour11 (hh : xhas N 1 x = false) : xfPour N 1 x f = (-11, N) := by unfold xfPour; rw [if_pos hh]
theorem xf_pour12 (hh : xhas N 1 x = true) (hf : xwin f 1 999 = false) : xfPour N 1 x f = (-12, N) := by unfold xfPour; rw [if_neg (by rw [hh]; decide), if_pos hf]
theorem xf_st11 (hh : xhas N 1 x = false) : xfStages N 1 x y f = (-11, N) := by unfold xfStages; rw [if_pos hh]
theorem xf_st12 (hh : xhas N 1 x = true) (hf : xstOk y f = false) : xfStages N 1 x y f = (-12, N) := by unfold xfStages; rw [if_neg (by rw [hh]; decide), if_pos hf]
theorem xf_set11 (hh : xhas N 1 x = false) : xfSet N 1 x f = (-11, N) := by unfold xfSet; rw [if_pos hh]
theorem xf_set12 (hh : xhas N 1 x = true) (hf : xwin f 0 100 = false) : xfSet N 1 x f = (-12, N) := by unfold xfSet; rw [if_neg (by rw [hh]; decide), if_pos hf]
theorem xf_set4 (hh : xhas N 1 x = true) (hf : xwin f 0 100 = true) (he : N (1 + 3 + x.toNatClampNeg) 7 = f) : xfSet N 1 x f = (-4, N) := by unfold xfSet; rw [if_neg (by rw [hh]; decide), if_neg (by rw [hf]; decide), if_pos he]
theorem xf_rule11 (hh : xhas N 1 x = false) : xfRule N 1 x f = (-11, N) := by unfold xfRule; rw [if_pos hh]
theorem xf_rule12 (hh : xhas N 1 x = true) (hf : xrule f = false) : xfRule N 1 x f = (-12, N) := by unfold xfRule; rw [if_neg (by rw [hh]; decide), if_pos hf]
theorem xf_rule4 (hh : xhas N 1 x = true) (hf : xrule f = true) (he : N (1 + 3 + x.toNatClampNeg) 8 = f) : xfRule N 1 x f = (-4, N) := by unfold xfRule; rw [if_neg (by rw [hh]; decide), if_neg (by rw [hf]; decide), if_pos he]
theorem xf_app12 (h : xapOk s p c = false) : xfAppend N 1 s p c = (-12, N) := by unfold xfAppend; rw [if_pos h]
theorem xf_app1 (h : xapOk s p c = true) (h8 : xwin (N 1 2) 0 7 = false) : xfAppend N 1 s p c = (-1, N) := by unfold xfAppend; rw [if_neg (by rw [h]; decide), if_pos h8]
theorem xf_pu12 (h : xpuOk s p c = false) : xfPulse N 1 s p c = (-12, N) := by unfold xfPulse; rw [if_pos h]
theorem xf_pu2 (h : xpuOk s p c = true) (h2 : s < N 1 4) : xfPulse N 1 s p c = (-2, N) := by unfold xfPulse; rw [if_neg (by rw [h]; decide), if_pos h2]
theorem xf_pu1 (h : xpuOk s p c = true) (h2 : ¬ s < N 1 4) (h8 : xwin (N 1 3) 0 7 = false) : xfPulse N 1 s p c = (-1, N) := by unfold xfPulse; rw [if_neg (by rw [h]; decide), if_neg h2, if_pos h8]
theorem xf_let12 (h : xwin x 1 48 = false) : xfLet N 1 x = (-12, N) := by unfold xfLet; rw [if_pos h]
end XTSS
