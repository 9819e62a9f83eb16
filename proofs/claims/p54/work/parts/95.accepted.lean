/-! CHANGES THAT ARE ACCEPTED, one by one, as makes does them -/
section XMK
variable {K : List (Nat × List Value)} {Z : List Value} {pre g : xH} {B L : Nat} {N N0 M : Nat → Nat → Int32} {C : Nat → Nat} {V H V' H' n p r : Nat} {F : Int32 × (Nat → Nat → Int32)} {s q c x f : Int32}
theorem xi_succ {n : Nat} : Int32.ofNat n + 1 = Int32.ofNat (n + 1) := by rw [Int32.ofNat_add]; rfl
theorem xi_ne {a b : Nat} (ha : a < 2147483648) (hb : b < 2147483648) (h : a ≠ b) : Int32.ofNat a ≠ Int32.ofNat b := by
  intro e
  have := congrArg Int32.toInt e
  rw [(xi_ofNat ha).1, (xi_ofNat hb).1] at this
  omega
theorem xi_addne {x f : Int32} (hf : f ≠ 0) : x + f ≠ x := by
  intro e
  apply hf
  have k : f + x - x = f := Int32.add_sub_cancel f x
  rw [Int32.add_comm, e, Int32.sub_self] at k
  exact k.symm
theorem xacc_ne (h : xOb N V H) (hch : xCh (xNn N) 1 V' H' F) (hoff : ∀ a b, (a < 1 ∨ 20 ≤ a) → F.2 a b = xNn N a b) (hru : xrul F.2 1) {i k : Nat} (hne : F.2 i k ≠ xNn N i k) : 0 ≤ F.1 ∧ (xAccd N (xNconf F.2) ∧ xOb (xNconf F.2) V' H') := by
  rcases hch with ⟨-, hF⟩ | ⟨a, ea, ha, hg2⟩
  · exact absurd (by rw [hF]) hne
  · exact ⟨by rw [ea]; exact (xi_ofNat (n := a) (by omega)).2.2, xaccd h hoff hru hg2⟩
theorem xNconf_o {Q : Nat → Nat → Int32} {a b : Nat} (ha : a ≠ 58) : xNconf Q a b = Q a b := by
  unfold xNconf xupN
  rw [if_neg (by omega), if_neg (by omega)]
theorem xNn_lo (h : xwin (N 58 1) 0 8 = true) {a b : Nat} (ha : a < 58) : xNn N a b = N a b := xNn_off h (by have := xRow_in h; omega)
/-- while it is made: so many reaches and pulses, no hour passed -/
def xMk (N0 N : Nat → Nat → Int32) (V n p : Nat) : Prop := xOb N V 0 ∧ ((N 1 2 = Int32.ofNat n ∧ (N 1 3 = Int32.ofNat p ∧ N 1 4 = 0)) ∧ (N 0 7 = N0 0 7 ∧ ∀ b, N 251 b = N0 251 b ∧ N 252 b = N0 252 b))
theorem xMk_acc {n' p' : Nat} (h : xMk N0 N V n p) (ha : xAccd N M) (ho : xOb M V' 0) (e2 : M 1 2 = Int32.ofNat n') (e3 : M 1 3 = Int32.ofNat p') (e4 : M 1 4 = N 1 4) : xMk N0 M V' n' p' := by
  obtain ⟨-, -, -, -, k7, -, kl⟩ := ha
  exact ⟨ho, ⟨e2, e3, e4.trans h.2.1.2.2⟩, k7.trans h.2.2.1, fun b => ⟨(kl b).1.trans (h.2.2.2 b).1, (kl b).2.trans (h.2.2.2 b).2⟩⟩
theorem xMk_has (h : xMk N0 N V n p) (hr : r < n) (hn : n ≤ 8) : xhas (xNn N) 1 (Int32.ofNat r) = true ∧ (Int32.ofNat r).toNatClampNeg = r := by
  refine ⟨xhas_n (by omega) ?_, (xi_ofNat (n := r) (by omega)).2.1⟩
  rw [xNn_lo h.1.2.2.1 (by decide), h.2.1.1]
  exact (xi_lt (by omega) (by omega)).mpr hr
theorem xm_add (hB : xBok pre B) (h : xMk N0 N V n p) (hV : V ≤ 1000000) (hn : n < 8) (hok : xapOk s q c = true) (hg : B + 253 + g.length < 1000000) :
    ∃ M, xRn K Z 8 198 [.ref (B + 0), .int s, .int q, .int c] (xHn pre B N C L g) (.ok (some (.int (Int32.ofNat n)))) (xHn pre B M C L g) ∧ (xMk N0 M V (n + 1) p ∧ (M (1 + 3 + n) 3 = 0 ∧ (M (1 + 3 + n) 7 = 100 ∧ M (1 + 3 + n) 8 = 102))) := by
  have hw := h.1.2.2.1
  have hl : ∀ {a b : Nat}, a < 58 → xNn N a b = N a b := fun q => xNn_lo hw q
  have hob := xNn_ob h.1
  have e2 : xNn N 1 2 = Int32.ofNat n := (hl (by decide)).trans h.2.1.1
  have e2n : (xNn N 1 2).toNatClampNeg = n := by rw [e2]; exact (xi_ofNat (n := n) (by omega)).2.1
  have hF : xfAppend (xNn N) 1 s q c = (Int32.ofNat n, xNap (xNn N) 1 s q c) := by
    have ea : xNn N 1 2 + 1 - 1 = Int32.ofNat n := by
      rw [e2, xi_succ]
      exact xi_subN (a := n + 1) (b := 1) (by omega) (by omega)
    unfold xfAppend
    rw [if_neg (by rw [hok]; decide), if_neg (by rw [e2, xwin_of (lo := 0) (hi := 7) (Nat.zero_le _) (by omega) (by omega) rfl rfl]; decide), ea]
  have acc := xacc_ne (F := xfAppend (xNn N) 1 s q c) h.1 (xgd_append hob.1) (fun a b hab => xoff_append (by omega)) (xrul_append (hob.2 1 (by decide))) (i := 1) (k := 2) (by
    rw [hF]
    show xNap (xNn N) 1 s q c 1 2 ≠ _
    unfold xNap xupN
    rw [if_pos ⟨rfl, rfl⟩]
    exact xi_addne (by decide))
  have run := xe_addReach (K := K) (Z := Z) (C := C) (L := L) (g := g) hB h.1 hV s q c hg
  have hc := xConN_nn (M := (xfAppend (xNn N) 1 s q c).2) (g := g) (v := 0) acc.1
  rw [xAns_nn acc.1, hc.1, hc.2] at run
  rw [hF] at run acc
  have hrow : ∀ b, xNap (xNn N) 1 s q c (1 + 3 + n) b = xNbeg (xNn N) (1 + 3 + n) s q c (1 + 3 + n) b := by
    intro b
    unfold xNap xupN
    rw [if_neg (by omega), e2n]
  have hoff : ∀ b, b ≠ 2 → xNap (xNn N) 1 s q c 1 b = N 1 b := by
    intro b hb
    unfold xNap xupN
    rw [if_neg (by omega)]
    unfold xNbeg
    rw [if_neg (by omega)]
    exact hl (by decide)
  refine ⟨_, run, xMk_acc h acc.2.1 acc.2.2 ?_ ?_ ?_, ?_, ?_, ?_⟩
  · rw [xNconf_o (by decide)]
    show xNap (xNn N) 1 s q c 1 2 = _
    unfold xNap xupN
    rw [if_pos ⟨rfl, rfl⟩, e2, xi_succ]
  · rw [xNconf_o (by decide)]
    exact (hoff 3 (by decide)).trans h.2.1.2.1
  · rw [xNconf_o (by decide)]
    exact hoff 4 (by decide)
  · rw [xNconf_o (by omega)]
    refine (hrow 3).trans ?_
    unfold xNbeg
    rw [if_pos rfl]
    rfl
  · rw [xNconf_o (by omega)]
    refine (hrow 7).trans ?_
    unfold xNbeg
    rw [if_pos rfl]
    rfl
  · rw [xNconf_o (by omega)]
    refine (hrow 8).trans ?_
    unfold xNbeg
    rw [if_pos rfl]
    rfl
theorem xm_fill (hB : xBok pre B) (h : xMk N0 N V n p) (hV : V ≤ 900000) (hr : r < n) (hn : n ≤ 8) (hf : xwin f 1 999 = true) (hf0 : f ≠ 0) (hg : B + 253 + g.length < 1000000) :
    ∃ a M, xRn K Z 8 201 [.ref (B + 0), .int (Int32.ofNat r), .int f] (xHn pre B N C L g) (.ok (some (.int a))) (xHn pre B M C L g) ∧ (0 ≤ a ∧ (xMk N0 M (V + 1000) n p ∧ ∀ b, b ≠ 4 → M (1 + 3 + r) b = N (1 + 3 + r) b)) := by
  have hl : ∀ {a b : Nat}, a < 58 → xNn N a b = N a b := fun q => xNn_lo h.1.2.2.1 q
  have hob := xNn_ob h.1
  obtain ⟨hh, er⟩ := xMk_has h hr hn
  have hF : (xfPour (xNn N) 1 (Int32.ofNat r) f).2 = xNpour (xNn N) 1 (1 + 3 + r) f := by
    unfold xfPour
    rw [if_neg (by rw [hh]; decide), if_neg (by rw [hf]; decide), er]
  have acc := xacc_ne (F := xfPour (xNn N) 1 (Int32.ofNat r) f) h.1 (xgd_pour hob.1 (by omega)) (fun a b hab => xoff_pour (by omega)) (xrul_pour (hob.2 1 (by decide))) (i := 1) (k := 5) (by
    rw [hF]
    unfold xNpour xupN
    rw [if_pos ⟨rfl, rfl⟩]
    exact xi_addne hf0)
  have run := xe_fill (K := K) (Z := Z) (C := C) (L := L) (g := g) hB h.1 (by omega) (Int32.ofNat r) f hg
  have hc := xConN_nn (M := (xfPour (xNn N) 1 (Int32.ofNat r) f).2) (g := g) (v := 0) acc.1
  rw [xAns_nn acc.1, hc.1, hc.2] at run
  have hoff : ∀ a b, a < 58 → ¬ (a = 1 ∧ b = 5) → ¬ (a = 1 + 3 + r ∧ b = 4) → xNconf (xfPour (xNn N) 1 (Int32.ofNat r) f).2 a b = N a b := by
    intro a b h1 h2 h3
    rw [xNconf_o (by omega), hF]
    unfold xNpour xupN
    rw [if_neg h2, if_neg h3]
    exact hl h1
  refine ⟨_, _, run, acc.1, xMk_acc h acc.2.1 acc.2.2 ?_ ?_ ?_, fun b hb => hoff _ _ (by omega) (by omega) (by omega)⟩
  · exact (hoff 1 2 (by decide) (by decide) (by omega)).trans h.2.1.1
  · exact (hoff 1 3 (by decide) (by decide) (by omega)).trans h.2.1.2.1
  · exact hoff 1 4 (by decide) (by decide) (by omega)
theorem xm_rule (hB : xBok pre B) (h : xMk N0 N V n p) (hV : V ≤ 900000) (hr : r < n) (hn : n ≤ 8) (hf : xrule f = true) (hne : N (1 + 3 + r) 8 ≠ f) (hg : B + 253 + g.length < 1000000) :
    ∃ a M, xRn K Z 8 208 [.ref (B + 0), .int (Int32.ofNat r), .int f] (xHn pre B N C L g) (.ok (some (.int (a)))) (xHn pre B M C L g) ∧ (0 ≤ a ∧ (xMk N0 M V n p ∧ ∀ b, b ≠ 8 → M (1 + 3 + r) b = N (1 + 3 + r) b)) := by
  have hl : ∀ {a b : Nat}, a < 58 → xNn N a b = N a b := fun q => xNn_lo h.1.2.2.1 q
  have hob := xNn_ob h.1
  obtain ⟨hh, er⟩ := xMk_has h hr hn
  have ek : xNn N (1 + 3 + r) 8 = N (1 + 3 + r) 8 := hl (by omega)
  have hF : (xfRule (xNn N) 1 (Int32.ofNat r) f).2 = xupN (xNn N) (1 + 3 + r) 8 f := by
    unfold xfRule
    rw [if_neg (by rw [hh]; decide), if_neg (by rw [hf]; decide), er, ek, if_neg hne]
  have acc := xacc_ne (F := xfRule (xNn N) 1 (Int32.ofNat r) f) h.1 (xgd_rule hob.1) (fun a b hab => xoff_rule (by omega)) (xrul_rule (hob.2 1 (by decide))) (i := 1 + 3 + r) (k := 8) (by
    rw [hF]
    unfold xupN
    rw [if_pos ⟨rfl, rfl⟩, ek]
    exact fun e => hne e.symm)
  have run := xe_setRule (K := K) (Z := Z) (C := C) (L := L) (g := g) hB h.1 (by omega) (Int32.ofNat r) f hg
  have hc := xConN_nn (M := (xfRule (xNn N) 1 (Int32.ofNat r) f).2) (g := g) (v := f) acc.1
  rw [xAns_nn acc.1, hc.1, hc.2] at run
  have hoff : ∀ a b, a < 58 → ¬ (a = 1 + 3 + r ∧ b = 8) → xNconf (xfRule (xNn N) 1 (Int32.ofNat r) f).2 a b = N a b := by
    intro a b h1 h2
    rw [xNconf_o (by omega), hF]
    unfold xupN
    rw [if_neg h2]
    exact hl h1
  refine ⟨_, _, run, acc.1, xMk_acc h acc.2.1 acc.2.2 ?_ ?_ ?_, fun b hb => hoff _ _ (by omega) (by omega)⟩
  · exact (hoff 1 2 (by decide) (by omega)).trans h.2.1.1
  · exact (hoff 1 3 (by decide) (by omega)).trans h.2.1.2.1
  · exact hoff 1 4 (by decide) (by omega)

theorem xm_gate (hB : xBok pre B) (h : xMk N0 N V n p) (hV : V ≤ 900000) (hr : r < n) (hn : n ≤ 8) (hf : xwin f 0 100 = true) (hne : N (1 + 3 + r) 7 ≠ f) (hg : B + 253 + g.length < 1000000) :
    ∃ M, xRn K Z 8 207 [.ref (B + 0), .int (Int32.ofNat r), .int f] (xHn pre B N C L g) (.ok (some (.int (N (1 + 3 + r) 7)))) (xHn pre B M C L g) ∧ (xMk N0 M V n p ∧ ∀ b, b ≠ 7 → M (1 + 3 + r) b = N (1 + 3 + r) b) := by
  have hl : ∀ {a b : Nat}, a < 58 → xNn N a b = N a b := fun q => xNn_lo h.1.2.2.1 q
  have hob := xNn_ob h.1
  obtain ⟨hh, er⟩ := xMk_has h hr hn
  have ek : xNn N (1 + 3 + r) 7 = N (1 + 3 + r) 7 := hl (by omega)
  have hF : (xfSet (xNn N) 1 (Int32.ofNat r) f).2 = xupN (xNn N) (1 + 3 + r) 7 f ∧ (xfSet (xNn N) 1 (Int32.ofNat r) f).1 = N (1 + 3 + r) 7 := by
    unfold xfSet
    rw [if_neg (by rw [hh]; decide), if_neg (by rw [hf]; decide), er, ek, if_neg hne]
    exact ⟨rfl, rfl⟩
  have acc := xacc_ne (F := xfSet (xNn N) 1 (Int32.ofNat r) f) h.1 (xgd_set hob.1) (fun a b hab => xoff_set (by omega)) (xrul_set (hob.2 1 (by decide))) (i := 1 + 3 + r) (k := 7) (by
    rw [hF.1]
    unfold xupN
    rw [if_pos ⟨rfl, rfl⟩, ek]
    exact fun e => hne e.symm)
  have run := xe_setGate (K := K) (Z := Z) (C := C) (L := L) (g := g) hB h.1 (by omega) (Int32.ofNat r) f hg
  have hc := xConN_nn (M := (xfSet (xNn N) 1 (Int32.ofNat r) f).2) (g := g) (v := f) acc.1
  rw [xAns_nn acc.1, hc.1, hc.2] at run
  rw [hF.2] at run
  have hoff : ∀ a b, a < 58 → ¬ (a = 1 + 3 + r ∧ b = 7) → xNconf (xfSet (xNn N) 1 (Int32.ofNat r) f).2 a b = N a b := by
    intro a b h1 h2
    rw [xNconf_o (by omega), hF.1]
    unfold xupN
    rw [if_neg h2]
    exact hl h1
  refine ⟨_, run, xMk_acc h acc.2.1 acc.2.2 ?_ ?_ ?_, fun b hb => hoff _ _ (by omega) (by omega)⟩
  · exact (hoff 1 2 (by decide) (by omega)).trans h.2.1.1
  · exact (hoff 1 3 (by decide) (by omega)).trans h.2.1.2.1
  · exact hoff 1 4 (by decide) (by omega)

theorem xm_lat (hB : xBok pre B) (h : xMk N0 N V n p) (hV : V ≤ 900000) (hr : r < n) (hn : n ≤ 8) (hf : xwin f 0 50 = true) (hne : N (1 + 3 + r) 3 ≠ f) (hg : B + 253 + g.length < 1000000) :
    ∃ M, xRn K Z 8 200 [.ref (B + 0), .int (Int32.ofNat r), .int f] (xHn pre B N C L g) (.ok (some (.int (N (1 + 3 + r) 3)))) (xHn pre B M C L g) ∧ (xMk N0 M V n p ∧ ∀ b, b ≠ 3 → M (1 + 3 + r) b = N (1 + 3 + r) b) := by
  have hl : ∀ {a b : Nat}, a < 58 → xNn N a b = N a b := fun q => xNn_lo h.1.2.2.1 q
  have hob := xNn_ob h.1
  obtain ⟨hh, er⟩ := xMk_has h hr hn
  have ek : xNn N (1 + 3 + r) 3 = N (1 + 3 + r) 3 := hl (by omega)
  have hF : (xfLat (xNn N) 1 (Int32.ofNat r) f).2 = xupN (xNn N) (1 + 3 + r) 3 f ∧ (xfLat (xNn N) 1 (Int32.ofNat r) f).1 = N (1 + 3 + r) 3 := by
    unfold xfLat
    rw [if_neg (by rw [hh]; decide), if_neg (by rw [hf]; decide), er, ek, if_neg hne]
    exact ⟨rfl, rfl⟩
  have acc := xacc_ne (F := xfLat (xNn N) 1 (Int32.ofNat r) f) h.1 (xgd_lat hob.1) (fun a b hab => xoff_lat (by omega)) (xrul_lat (hob.2 1 (by decide))) (i := 1 + 3 + r) (k := 3) (by
    rw [hF.1]
    unfold xupN
    rw [if_pos ⟨rfl, rfl⟩, ek]
    exact fun e => hne e.symm)
  have run := xe_setLateral (K := K) (Z := Z) (C := C) (L := L) (g := g) hB h.1 (by omega) (Int32.ofNat r) f hg
  have hc := xConN_nn (M := (xfLat (xNn N) 1 (Int32.ofNat r) f).2) (g := g) (v := f) acc.1
  rw [xAns_nn acc.1, hc.1, hc.2] at run
  rw [hF.2] at run
  have hoff : ∀ a b, a < 58 → ¬ (a = 1 + 3 + r ∧ b = 3) → xNconf (xfLat (xNn N) 1 (Int32.ofNat r) f).2 a b = N a b := by
    intro a b h1 h2
    rw [xNconf_o (by omega), hF.1]
    unfold xupN
    rw [if_neg h2]
    exact hl h1
  refine ⟨_, run, xMk_acc h acc.2.1 acc.2.2 ?_ ?_ ?_, fun b hb => hoff _ _ (by omega) (by omega)⟩
  · exact (hoff 1 2 (by decide) (by omega)).trans h.2.1.1
  · exact (hoff 1 3 (by decide) (by omega)).trans h.2.1.2.1
  · exact hoff 1 4 (by decide) (by omega)

theorem xm_pulse (hB : xBok pre B) (h : xMk N0 N V n p) (hV : V ≤ 1000000) (hp : p < 8) (hok : xpuOk s q c = true) (hs : 0 ≤ s) (hg : B + 253 + g.length < 1000000) :
    ∃ M, xRn K Z 8 216 [.ref (B + 0), .int s, .int q, .int c] (xHn pre B N C L g) (.ok (some (.int (Int32.ofNat (p + 1))))) (xHn pre B M C L g) ∧ xMk N0 M V n (p + 1) := by
  have hw := h.1.2.2.1
  have hl : ∀ {a b : Nat}, a < 58 → xNn N a b = N a b := fun q => xNn_lo hw q
  have hob := xNn_ob h.1
  have e3 : xNn N 1 3 = Int32.ofNat p := (hl (by decide)).trans h.2.1.2.1
  have e4 : xNn N 1 4 = 0 := (hl (by decide)).trans h.2.1.2.2
  have hF : xfPulse (xNn N) 1 s q c = (Int32.ofNat (p + 1), xNpz (xNn N) 1 s q c) := by
    unfold xfPulse
    rw [if_neg (by rw [hok]; decide), if_neg (by rw [e4]; exact Int32.not_lt.mpr hs), if_neg (by rw [e3, xwin_of (lo := 0) (hi := 7) (Nat.zero_le _) (by omega) (by omega) rfl rfl]; decide), e3, xi_succ]
  have acc := xacc_ne (F := xfPulse (xNn N) 1 s q c) h.1 (xgd_pulse hob.1) (fun a b hab => xoff_pulse (by omega)) (xrul_pulse (hob.2 1 (by decide))) (i := 1) (k := 3) (by
    rw [hF]
    show xNpz (xNn N) 1 s q c 1 3 ≠ _
    unfold xNpz xupN
    rw [if_pos ⟨rfl, rfl⟩]
    exact xi_addne (by decide))
  have run := xe_addPulse (K := K) (Z := Z) (C := C) (L := L) (g := g) hB h.1 hV s q c hg
  have hc := xConN_nn (M := (xfPulse (xNn N) 1 s q c).2) (g := g) (v := 0) acc.1
  rw [xAns_nn acc.1, hc.1, hc.2] at run
  rw [hF] at run acc
  have hoff : ∀ b, b ≠ 3 → xNpz (xNn N) 1 s q c 1 b = N 1 b := by
    intro b hb
    unfold xNpz xupN
    rw [if_neg (by omega)]
    unfold xNpu
    rw [if_neg (by omega)]
    exact hl (by decide)
  refine ⟨_, run, xMk_acc h acc.2.1 acc.2.2 ?_ ?_ ?_⟩
  · rw [xNconf_o (by decide)]
    exact (hoff 2 (by decide)).trans h.2.1.1
  · rw [xNconf_o (by decide)]
    show xNpz (xNn N) 1 s q c 1 3 = _
    unfold xNpz xupN
    rw [if_pos ⟨rfl, rfl⟩, e3, xi_succ]
  · rw [xNconf_o (by decide)]
    exact hoff 4 (by decide)
theorem xlet_cnt {w : Nat} : ∀ n, (xLet N w n).2 w 2 = N w 2 := by
  intro n
  induction n with
  | zero => rfl
  | succ n ih =>
    show (xPass (xLet N w n).2 w).2 w 2 = _
    rw [xpass_cnt, ih]
theorem xm_pass (hB : xBok pre B) (h : xOb N V H) (hV : V ≤ 1000000) (hn0 : N 1 2 ≠ 0) (hx : xwin x 1 48 = true) (hg : B + 253 + g.length < 1000000) :
    ∃ a M, xRn K Z 8 217 [.ref (B + 0), .int x] (xHn pre B N C L g) (.ok (some (.int a))) (xHn pre B M C L g) ∧ (0 ≤ a ∧ (xAccd N M ∧ (xOb M (V + 79200) (H + 48) ∧ M 1 2 = N 1 2))) := by
  have hl : ∀ {a b : Nat}, a < 58 → xNn N a b = N a b := fun q => xNn_lo h.2.2.1 q
  have hob := xNn_ob h
  have e2 : xNn N 1 2 = N 1 2 := hl (by decide)
  obtain ⟨m, em, hm1, hm2⟩ := xBnd_win (lo := 1) (hi := 48) hx rfl rfl
  have hF : xfLet (xNn N) 1 x = xLet (xNn N) 1 m := by
    unfold xfLet
    rw [if_neg (by rw [hx]; decide), if_neg (by rw [e2]; exact hn0), em, (xi_ofNat (n := m) (by omega)).2.1]
  have hlet := xgd_letN hob.1 m (by omega)
  obtain ⟨a, ea, -, ha⟩ := hlet.2
  have hpos : 0 ≤ (xfLet (xNn N) 1 x).1 := by rw [hF, ea]; exact (xi_ofNat (n := a) (by omega)).2.2
  have acc := xaccd (Q := (xfLet (xNn N) 1 x).2) h (fun a b hab => xoff_let (by omega)) (xrul_let (hob.2 1 (by decide))) (by rw [hF]; exact xGd_mono hlet.1 (show V + 1650 * m ≤ V + 79200 by omega) (show H + m ≤ H + 48 by omega))
  have run := xe_pass (K := K) (Z := Z) (C := C) (L := L) (g := g) hB h hV x hg
  have hc := xConN_nn (M := (xfLet (xNn N) 1 x).2) (g := g) (v := 0) hpos
  rw [xAns_nn hpos, hc.1, hc.2] at run
  refine ⟨_, _, run, hpos, acc.1, acc.2, ?_⟩
  rw [xNconf_o (by decide), hF, xlet_cnt, e2]
end XMK
