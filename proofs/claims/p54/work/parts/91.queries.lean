/-! QUERIES BY THE LAW'S WRAPPERS, with their exact answers -/
section XLQ
variable {K : List (Nat × List Value)} {Z : List Value} {pre g : xH} {B L : Nat} {N : Nat → Nat → Int32} {C : Nat → Nat} {V H : Nat}
theorem xl_volume (hB : xBok pre B) (x : Int32) (hh : xhas N 1 x = true) (hg : B + 253 + g.length < 1000000) : xRn K Z 4 202 [.ref (B + 0), .int x] (xHn pre B N C L g) (.ok (some (.int (N (1 + 3 + x.toNatClampNeg) 4)))) (xHn pre B N C L g) := by
  have h := xo_volume_ (K := K) (Z := Z) (N := N) (L := L) (C := C) (g := g) hB x hg
  rw [if_pos hh, if_pos hh] at h
  exact xw_volume hB h (Or.inl rfl)
theorem xl_volumeE (hB : xBok pre B) (x : Int32) (hh : xhas N 1 x = false) (hg : B + 253 + g.length < 1000000) : xRn K Z 4 202 [.ref (B + 0), .int x] (xHn pre B N C L g) (.ok (some (.int (-1001)))) (xHn pre B N C L (xgx g)) := by
  have h := xo_volume_ (K := K) (Z := Z) (N := N) (L := L) (C := C) (g := g) hB x hg
  rw [if_neg (by rw [hh]; decide), if_neg (by rw [hh]; decide)] at h
  exact xw_volume hB h (Or.inr ⟨_, rfl, rfl⟩)
theorem xl_lateral (hB : xBok pre B) (x : Int32) (hh : xhas N 1 x = true) (hg : B + 253 + g.length < 1000000) : xRn K Z 4 203 [.ref (B + 0), .int x] (xHn pre B N C L g) (.ok (some (.int (N (1 + 3 + x.toNatClampNeg) 3)))) (xHn pre B N C L g) := by
  have h := xo_lateral_ (K := K) (Z := Z) (N := N) (L := L) (C := C) (g := g) hB x hg
  rw [if_pos hh, if_pos hh] at h
  exact xw_lateral hB h (Or.inl rfl)
theorem xl_lateralE (hB : xBok pre B) (x : Int32) (hh : xhas N 1 x = false) (hg : B + 253 + g.length < 1000000) : xRn K Z 4 203 [.ref (B + 0), .int x] (xHn pre B N C L g) (.ok (some (.int (-1001)))) (xHn pre B N C L (xgx g)) := by
  have h := xo_lateral_ (K := K) (Z := Z) (N := N) (L := L) (C := C) (g := g) hB x hg
  rw [if_neg (by rw [hh]; decide), if_neg (by rw [hh]; decide)] at h
  exact xw_lateral hB h (Or.inr ⟨_, rfl, rfl⟩)
theorem xl_inflow (hB : xBok pre B) (x : Int32) (hh : xhas N 1 x = true) (hg : B + 253 + g.length < 1000000) : xRn K Z 6 204 [.ref (B + 0), .int x] (xHn pre B N C L g) (.ok (some (.int (xfIn N 1 x)))) (xHn pre B N C L g) := by
  have h := xo_inflow_ (K := K) (Z := Z) (N := N) (L := L) (C := C) (g := g) hB x hg
  rw [if_pos hh, if_pos hh] at h
  exact xw_inflow hB h (Or.inl rfl)
theorem xl_inflowE (hB : xBok pre B) (x : Int32) (hh : xhas N 1 x = false) (hg : B + 253 + g.length < 1000000) : xRn K Z 6 204 [.ref (B + 0), .int x] (xHn pre B N C L g) (.ok (some (.int (-1001)))) (xHn pre B N C L (xgx g)) := by
  have h := xo_inflow_ (K := K) (Z := Z) (N := N) (L := L) (C := C) (g := g) hB x hg
  rw [if_neg (by rw [hh]; decide), if_neg (by rw [hh]; decide)] at h
  exact xw_inflow hB h (Or.inr ⟨_, rfl, rfl⟩)
theorem xl_outflow (hB : xBok pre B) (x : Int32) (hh : xhas N 1 x = true) (hg : B + 253 + g.length < 1000000) : xRn K Z 6 205 [.ref (B + 0), .int x] (xHn pre B N C L g) (.ok (some (.int (xfOut N 1 x)))) (xHn pre B N C L g) := by
  have h := xo_outflow_ (K := K) (Z := Z) (N := N) (L := L) (C := C) (g := g) hB x hg
  rw [if_pos hh, if_pos hh] at h
  exact xw_outflow hB h (Or.inl rfl)
theorem xl_outflowE (hB : xBok pre B) (x : Int32) (hh : xhas N 1 x = false) (hg : B + 253 + g.length < 1000000) : xRn K Z 6 205 [.ref (B + 0), .int x] (xHn pre B N C L g) (.ok (some (.int (-1001)))) (xHn pre B N C L (xgx g)) := by
  have h := xo_outflow_ (K := K) (Z := Z) (N := N) (L := L) (C := C) (g := g) hB x hg
  rw [if_neg (by rw [hh]; decide), if_neg (by rw [hh]; decide)] at h
  exact xw_outflow hB h (Or.inr ⟨_, rfl, rfl⟩)
theorem xl_level (hB : xBok pre B) (x : Int32) (hh : xhas N 1 x = true) (hg : B + 253 + g.length < 1000000) : xRn K Z 4 209 [.ref (B + 0), .int x] (xHn pre B N C L g) (.ok (some (.int (xlvl (N (1 + 3 + x.toNatClampNeg) 0) (N (1 + 3 + x.toNatClampNeg) 4))))) (xHn pre B N C L g) := by
  have h := xo_level_ (K := K) (Z := Z) (N := N) (L := L) (C := C) (g := g) hB x hg
  rw [if_pos hh, if_pos hh] at h
  exact xw_level hB h (Or.inl rfl)
theorem xl_levelE (hB : xBok pre B) (x : Int32) (hh : xhas N 1 x = false) (hg : B + 253 + g.length < 1000000) : xRn K Z 4 209 [.ref (B + 0), .int x] (xHn pre B N C L g) (.ok (some (.int (-1001)))) (xHn pre B N C L (xgx g)) := by
  have h := xo_level_ (K := K) (Z := Z) (N := N) (L := L) (C := C) (g := g) hB x hg
  rw [if_neg (by rw [hh]; decide), if_neg (by rw [hh]; decide)] at h
  exact xw_level hB h (Or.inr ⟨_, rfl, rfl⟩)
theorem xl_status (hB : xBok pre B) (x : Int32) (hh : xhas N 1 x = true) (hg : B + 253 + g.length < 1000000) : xRn K Z 4 210 [.ref (B + 0), .int x] (xHn pre B N C L g) (.ok (some (.int (xsta N (1 + 3 + x.toNatClampNeg))))) (xHn pre B N C L g) := by
  have h := xo_status_ (K := K) (Z := Z) (N := N) (L := L) (C := C) (g := g) hB x hg
  rw [if_pos hh, if_pos hh] at h
  exact xw_status hB h (Or.inl rfl)
theorem xl_statusE (hB : xBok pre B) (x : Int32) (hh : xhas N 1 x = false) (hg : B + 253 + g.length < 1000000) : xRn K Z 4 210 [.ref (B + 0), .int x] (xHn pre B N C L g) (.ok (some (.int (-1001)))) (xHn pre B N C L (xgx g)) := by
  have h := xo_status_ (K := K) (Z := Z) (N := N) (L := L) (C := C) (g := g) hB x hg
  rw [if_neg (by rw [hh]; decide), if_neg (by rw [hh]; decide)] at h
  exact xw_status hB h (Or.inr ⟨_, rfl, rfl⟩)
theorem xl_opening (hB : xBok pre B) (x : Int32) (hh : xhas N 1 x = true) (hg : B + 253 + g.length < 1000000) : xRn K Z 6 212 [.ref (B + 0), .int x] (xHn pre B N C L g) (.ok (some (.int (xfOpen N 1 x)))) (xHn pre B N C L g) := by
  have h := xo_opening_ (K := K) (Z := Z) (N := N) (L := L) (C := C) (g := g) hB x hg
  rw [if_pos hh, if_pos hh] at h
  exact xw_opening hB h (Or.inl rfl)
theorem xl_openingE (hB : xBok pre B) (x : Int32) (hh : xhas N 1 x = false) (hg : B + 253 + g.length < 1000000) : xRn K Z 6 212 [.ref (B + 0), .int x] (xHn pre B N C L g) (.ok (some (.int (-1001)))) (xHn pre B N C L (xgx g)) := by
  have h := xo_opening_ (K := K) (Z := Z) (N := N) (L := L) (C := C) (g := g) hB x hg
  rw [if_neg (by rw [hh]; decide), if_neg (by rw [hh]; decide)] at h
  exact xw_opening hB h (Or.inr ⟨_, rfl, rfl⟩)
theorem xl_rule (hB : xBok pre B) (x : Int32) (hr : xrul N 1) (hh : xhas N 1 x = true) (hg : B + 253 + g.length < 1000000) : xRn K Z 4 213 [.ref (B + 0), .int x] (xHn pre B N C L g) (.ok (some (.int (N (1 + 3 + x.toNatClampNeg) 8)))) (xHn pre B N C L g) := by
  have h := xo_rule_ (K := K) (Z := Z) (N := N) (L := L) (C := C) (g := g) hB x hr hg
  rw [if_pos hh, if_pos hh] at h
  exact xw_rule hB h (Or.inl rfl)
theorem xl_ruleE (hB : xBok pre B) (x : Int32) (hr : xrul N 1) (hh : xhas N 1 x = false) (hg : B + 253 + g.length < 1000000) : xRn K Z 4 213 [.ref (B + 0), .int x] (xHn pre B N C L g) (.ok (some (.int (-1001)))) (xHn pre B N C L (xgx g)) := by
  have h := xo_rule_ (K := K) (Z := Z) (N := N) (L := L) (C := C) (g := g) hB x hr hg
  rw [if_neg (by rw [hh]; decide), if_neg (by rw [hh]; decide)] at h
  exact xw_rule hB h (Or.inr ⟨_, rfl, rfl⟩)
theorem xl_floodedE (hB : xBok pre B) (x : Int32) (hh : xhas N 1 x = false) (hg : B + 253 + g.length < 1000000) : xRn K Z 4 211 [.ref (B + 0), .int x] (xHn pre B N C L g) (.ok (some (.int (-1001)))) (xHn pre B N C L (xgx g)) := by
  have h := xo_flooded_ (K := K) (Z := Z) (N := N) (L := L) (C := C) (g := g) hB x hg
  rw [if_neg (by rw [hh]; decide), if_neg (by rw [hh]; decide)] at h
  exact xw_isFlooded hB h (Or.inr ⟨_, rfl, rfl⟩)
/-- the room below flood -/
def xRoom (N : Nat → Nat → Int32) (x : Int32) : Int32 := if xsta N (1 + 3 + x.toNatClampNeg) = 2 then -1002 else N (1 + 3 + x.toNatClampNeg) 6 * N (1 + 3 + x.toNatClampNeg) 0 - 1 - N (1 + 3 + x.toNatClampNeg) 4
theorem xl_room (hB : xBok pre B) (x : Int32) (hh : xhas N 1 x = true) (hg : B + 253 + g.length < 1000000) : xRn K Z 4 214 [.ref (B + 0), .int x] (xHn pre B N C L g) (.ok (some (.int (xRoom N x)))) (xHn pre B N C L (xRoomG N g x)) := by
  have h := xo_room_ (K := K) (Z := Z) (N := N) (L := L) (C := C) (g := g) hB x hg
  refine xw_room hB h ?_
  unfold xRoomR xRoom
  rw [if_pos hh]
  by_cases q : xsta N (1 + 3 + x.toNatClampNeg) = 2
  · rw [if_pos q, if_pos q]
    exact Or.inr (Or.inr ⟨_, rfl, rfl⟩)
  · rw [if_neg q, if_neg q]
    exact Or.inl rfl
theorem xl_roomE (hB : xBok pre B) (x : Int32) (hh : xhas N 1 x = false) (hg : B + 253 + g.length < 1000000) : xRn K Z 4 214 [.ref (B + 0), .int x] (xHn pre B N C L g) (.ok (some (.int (-1001)))) (xHn pre B N C L (xgx g)) := by
  have h := xo_room_ (K := K) (Z := Z) (N := N) (L := L) (C := C) (g := g) hB x hg
  unfold xRoomR xRoomG at h
  rw [if_neg (by rw [hh]; decide), if_neg (by rw [hh]; decide)] at h
  exact xw_room hB h (Or.inr (Or.inl ⟨_, rfl, rfl⟩))
theorem xRoomG_gr (x : Int32) (hh : xhas N 1 x = true) : xGr g (xRoomG N g x) 1 ∧ (xRoomG N g x = g ∨ xRoomG N g x = xgx g) := by
  unfold xRoomG
  rw [if_pos hh]
  split
  · exact ⟨xGr_gx g, Or.inr rfl⟩
  · exact ⟨xGr_mono (xGr_refl g) (by decide), Or.inl rfl⟩
/-- the reach of a rank, or -1001 -/
def xByV : Option Nat → Int32
  | some n => Int32.ofNat n
  | none => -1001
theorem xl_byLevel (hB : xBok pre B) (x : Int32) (h0 : 0 ≤ N 1 2) (h8 : N 1 2 ≤ 8) (hg : B + 253 + g.length < 1000000) : xRn K Z 5 215 [.ref (B + 0), .int x] (xHn pre B N C L g) (.ok (some (.int (xByV (xBy N x (N 1 2).toNatClampNeg 0))))) (xHn pre B N C L (xByG g (xBy N x (N 1 2).toNatClampNeg 0))) := by
  have h := xo_by_ (K := K) (Z := Z) (N := N) (L := L) (C := C) (g := g) hB x h0 h8 hg
  refine xw_byLevel hB h ?_
  cases xBy N x (N 1 2).toNatClampNeg 0 with
  | some n => exact Or.inl rfl
  | none => exact Or.inr ⟨_, rfl, rfl⟩
theorem xByG_gr (q : Option Nat) : xGr g (xByG g q) 1 ∧ (xByG g q = g ∨ xByG g q = xgx g) := by
  cases q with
  | some n => exact ⟨xGr_mono (xGr_refl g) (by decide), Or.inl rfl⟩
  | none => exact ⟨xGr_gx g, Or.inr rfl⟩
theorem xl_head (hB : xBok pre B) (x : Int32) (hx : ¬ x < N 1 4) (hg : B + 253 + g.length < 1000000) : xRn K Z 5 218 [.ref (B + 0), .int x] (xHn pre B N C L g) (.ok (some (.int (xfHead N 1 x)))) (xHn pre B N C L g) := by
  have h := xo_head_ (K := K) (Z := Z) (N := N) (L := L) (C := C) (g := g) hB x hg
  rw [if_neg hx, if_neg hx] at h
  exact xw_headInflow hB h (Or.inl rfl)
theorem xl_headE (hB : xBok pre B) (x : Int32) (hx : x < N 1 4) (hg : B + 253 + g.length < 1000000) : xRn K Z 5 218 [.ref (B + 0), .int x] (xHn pre B N C L g) (.ok (some (.int (-1001)))) (xHn pre B N C L (xgx g)) := by
  have h := xo_head_ (K := K) (Z := Z) (N := N) (L := L) (C := C) (g := g) hB x hg
  rw [if_pos hx, if_pos hx] at h
  exact xw_headInflow hB h (Or.inr ⟨_, rfl, rfl⟩)
theorem xl_volAfter (hB : xBok pre B) (hr : xrul N 1) (x : Int32) (hx : xwin x 0 48 = true) (hg : B + 253 + g.length < 1000000) : xRn K Z 8 222 [.ref (B + 0), .int x] (xHn pre B N C L g) (.ok (some (.int (xfVol (xFc N (xFcH N x)) 20)))) (xHn pre B (xFc N (xFcH N x)) C L g) :=
  xw_volumeAfter hB (xo_volAfter_ hB hr x hx hg) (Or.inl rfl)
theorem xl_volAfterE (hB : xBok pre B) (x : Int32) (hx : xwin x 0 48 = false) (hg : B + 253 + g.length < 1000000) : xRn K Z 8 222 [.ref (B + 0), .int x] (xHn pre B N C L g) (.ok (some (.int (-1001)))) (xHn pre B N C L (xgx g)) :=
  xw_volumeAfter hB (xo_volAfterE_ hB x hx hg) (Or.inr ⟨_, rfl, rfl⟩)
theorem xl_balanceE (hB : xBok pre B) (x : Int32) (hx : xwin x 0 48 = false) (hg : B + 253 + g.length < 1000000) : xRn K Z 4 223 [.ref (B + 0), .int x] (xHn pre B N C L g) (.ok (some (.int (-1001)))) (xHn pre B N C L (xgx g)) :=
  xw_volumeByBalance hB (xo_balanceE_ hB x hx hg) (Or.inr ⟨_, rfl, rfl⟩)
theorem xl_levelAfterE0 (hB : xBok pre B) (x y : Int32) (hh : xhas N 1 x = false) (hg : B + 253 + g.length < 1000000) : xRn K Z 4 219 [.ref (B + 0), .int x, .int y] (xHn pre B N C L g) (.ok (some (.int (-1001)))) (xHn pre B N C L (xgx g)) :=
  xw_levelAfter hB (xo_levelAfterE0_ hB x y hh hg) (Or.inr (Or.inl ⟨_, rfl, rfl⟩))
theorem xl_levelAfterE1 (hB : xBok pre B) (x y : Int32) (hh : xhas N 1 x = true) (hx : xwin y 0 48 = false) (hg : B + 253 + g.length < 1000000) : xRn K Z 4 219 [.ref (B + 0), .int x, .int y] (xHn pre B N C L g) (.ok (some (.int (-1002)))) (xHn pre B N C L (xgx g)) :=
  xw_levelAfter hB (xo_levelAfterE1_ hB x y hh hx hg) (Or.inr (Or.inr ⟨_, rfl, rfl⟩))
theorem xl_peak (hB : xBok pre B) (hr : xrul N 1) (x y : Int32) (hh : xhas N 1 x = true) (hx : xwin y 0 48 = true) (hg : B + 253 + g.length < 1000000) : xRn K Z 8 220 [.ref (B + 0), .int x, .int y] (xHn pre B N C L g) (.ok (some (.int (xPkN N x y.toNatClampNeg)))) (xHn pre B (xFc N y.toNatClampNeg) C L g) :=
  xw_peak hB (xo_peak_ hB hr x y hh hx hg) (Or.inl rfl)
theorem xl_peakE0 (hB : xBok pre B) (x y : Int32) (hh : xhas N 1 x = false) (hg : B + 253 + g.length < 1000000) : xRn K Z 8 220 [.ref (B + 0), .int x, .int y] (xHn pre B N C L g) (.ok (some (.int (-1001)))) (xHn pre B N C L (xgx g)) :=
  xw_peak hB (xo_peakE0_ hB x y hh hg) (Or.inr (Or.inl ⟨_, rfl, rfl⟩))
theorem xl_peakE1 (hB : xBok pre B) (x y : Int32) (hh : xhas N 1 x = true) (hx : xwin y 0 48 = false) (hg : B + 253 + g.length < 1000000) : xRn K Z 8 220 [.ref (B + 0), .int x, .int y] (xHn pre B N C L g) (.ok (some (.int (-1002)))) (xHn pre B N C L (xgx g)) :=
  xw_peak hB (xo_peakE1_ hB x y hh hx hg) (Or.inr (Or.inr ⟨_, rfl, rfl⟩))
theorem xl_untilE0 (hB : xBok pre B) (x : Int32) (hh : xhas N 1 x = false) (hg : B + 253 + g.length < 1000000) : xRn K Z 4 221 [.ref (B + 0), .int x] (xHn pre B N C L g) (.ok (some (.int (-1001)))) (xHn pre B N C L (xgx g)) :=
  xw_untilFlood hB (xo_untilE0_ hB x hh hg) (Or.inr (Or.inl ⟨_, rfl, rfl⟩))
theorem xl_writeE (hB : xBok pre B) (x : Int32) (hh : xhas N 1 x = false) (hg : B + 253 + g.length < 1000000) {xs : List Int32} {z : Value} : xRn (xK xs) (xZ z) 9 229 [.ref (B + 0), .int x] (xHn pre B N C L g) (.ok (some (.int (-1001)))) (xHn pre B N C L (xgx g)) :=
  xw_write hB (xo_writeE_ hB x hh hg) (Or.inr ⟨_, rfl, rfl⟩)
theorem xl_lineCharE {cnt : Nat} {bs : List Int32} {xs : List Int32} {z : Value} (hB : xBok pre B) (hl : xLin pre B N C L g cnt bs) {x : Int32} (hx : x < 0 ∨ Int32.ofNat cnt ≤ x) (hg : B + 253 + g.length < 1000000) : xRn (xK xs) (xZ z) 6 230 [.ref (B + 0), .int x] (xHn pre B N C L g) (.ok (some (.int (-1001)))) (xHn pre B N C L (xgx g)) :=
  xw_lineChar hB (xo_lineCharE_ hB hl hx hg) (Or.inr ⟨_, rfl, rfl⟩)
theorem xl_lineChar {cnt n c : Nat} {bs : List Int32} {xs : List Int32} {z : Value} (hB : xBok pre B) (hl : xLin pre B N C L g cnt bs) (hz : z.category = 1) (hn : n < cnt) (hc9 : c < 128) (hbn : bs[n]? = some (Int32.ofNat c)) : xRn (xK xs) (xZ z) 6 230 [.ref (B + 0), .int (Int32.ofNat n)] (xHn pre B N C L g) (.ok (some (.int (Int32.ofNat c)))) (xHn pre B N C L g) :=
  xw_lineChar hB (xo_lineChar_ hB hl hz hn hc9 hbn) (Or.inl rfl)
theorem xl_fault (hB : xBok pre B) (h8 : ¬ N 0 8 = -1) (hg : B + 253 + g.length < 1000000) : xRn K Z 2 228 [.ref (B + 0)] (xHn pre B N C L g) (.ok (some (.int (N 0 8)))) (xHn pre B N C L g) := by
  have h := xo_fault_ (K := K) (Z := Z) (N := N) (L := L) (C := C) (g := g) hB hg
  rw [if_neg h8, if_neg h8] at h
  exact xw_faultPosition hB h (Or.inl rfl)
/-! the statistics, and their bits -/
def xMnV (N : Nat → Nat → Int32) : UInt64 := if N 1 2 = 0 then UInt64.ofNat 13875388141788987392 else xMean N
def xShV (N : Nat → Nat → Int32) : UInt32 := if N 1 2 = 0 then UInt32.ofNat 3296346112 else xShare N
theorem xl_mean (hB : xBok pre B) (hg : B + 253 + g.length < 1000000) : xRn K Z 5 224 [.ref (B + 0)] (xHn pre B N C L g) (.ok (some (.double (xMnV N)))) (xHn pre B N C L (if N 1 2 = 0 then xgx g else g)) := by
  have h := xo_mean_ (K := K) (Z := Z) (N := N) (L := L) (C := C) (g := g) hB (fun q => xnan_d _ _ q) hg
  unfold xMnV
  by_cases q : N 1 2 = 0
  · rw [if_pos q, if_pos q] at h ⊢
    exact xw_meanLevel hB h (Or.inr ⟨_, rfl, rfl⟩)
  · rw [if_neg q, if_neg q] at h ⊢
    exact xw_meanLevel hB h (Or.inl rfl)
theorem xl_share (hB : xBok pre B) (hg : B + 253 + g.length < 1000000) : xRn K Z 5 225 [.ref (B + 0)] (xHn pre B N C L g) (.ok (some (.float (xShV N)))) (xHn pre B N C L (if N 1 2 = 0 then xgx g else g)) := by
  have h := xo_share_ (K := K) (Z := Z) (N := N) (L := L) (C := C) (g := g) hB (fun q => xnan_f _ _ q) hg
  unfold xShV
  by_cases q : N 1 2 = 0
  · rw [if_pos q, if_pos q] at h ⊢
    exact xw_floodedShare hB h (Or.inr ⟨_, rfl, rfl⟩)
  · rw [if_neg q, if_neg q] at h ⊢
    exact xw_floodedShare hB h (Or.inl rfl)
def xDB (u : UInt64) : Int64 := if Op.cmpValue (FP.dcmp u u) .l = 0 then u.toInt64 else Int64.ofNat 9221120237041090560
def xFB (u : UInt32) : Int32 := if Op.cmpValue (FP.fcmp u u) .l = 0 then u.toInt32 else Int32.ofNat 2143289344
theorem xs_dnan (u : UInt64) (h : xH) : xRn K Z 1 135 [.double u] h (.ok (some (.int (if Op.cmpValue (FP.dcmp u u) .l = 0 then 0 else 1)))) h := by
  refine xRp_eq (xRp_of (m := (yJxe99ae_isNaN_b9ae7, cJxe99ae_isNaN_b9ae7, 2, (some .boolean), [], [], xcJxe99ae_isNaN_b9ae7)) rfl (by show 2 ≤ 2; decide) ?_)
  show xBp K Z 0 2 [] xcJxe99ae_isNaN_b9ae7 xcJxe99ae_isNaN_b9ae7 [(0, .double u)] [] _ _
  refine xp_step rfl ?_
  refine xp_step rfl ?_
  refine xp_step rfl ?_
  refine xp_if1 rfl (fun q => ?_) (fun q => ?_)
  · have q : Op.cmpValue (FP.dcmp u u) .l = 0 := of_decide_eq_true q
    refine xp_step rfl ?_
    rw [if_pos q]
    exact xp_ret rfl ⟨fun v q => by cases q; rfl, rfl, rfl⟩
  · have q : ¬ Op.cmpValue (FP.dcmp u u) .l = 0 := of_decide_eq_false q
    refine xp_step rfl ?_
    refine xp_jump rfl ?_
    rw [if_neg q]
    exact xp_ret rfl ⟨fun v q => by cases q; rfl, rfl, rfl⟩
theorem xs_dbits (u : UInt64) (h : xH) : xRn K Z 2 136 [.double u] h (.ok (some (.long (xDB u)))) h := by
  refine xRp_eq (xRp_of (m := (yJxe99ae_doubleToLongBits_ccdee, cJxe99ae_doubleToLongBits_ccdee, 2, (some .long), [], [], xcJxe99ae_doubleToLongBits_ccdee)) rfl (by show 2 ≤ 2; decide) ?_)
  show xBp K Z 1 2 [] xcJxe99ae_doubleToLongBits_ccdee xcJxe99ae_doubleToLongBits_ccdee [(0, .double u)] [] _ _
  refine xp_step rfl ?_
  refine xp_callR rfl (xs_dnan u h) ?_
  unfold xDB
  by_cases q : Op.cmpValue (FP.dcmp u u) .l = 0
  · rw [if_pos q, if_pos q]
    refine xp_step rfl ?_
    refine xp_step rfl ?_
    refine xp_step rfl ?_
    exact xp_ret rfl ⟨fun v q => by cases q; rfl, rfl, rfl⟩
  · rw [if_neg q, if_neg q]
    refine xp_jump rfl ?_
    refine xp_step rfl ?_
    exact xp_ret rfl ⟨fun v q => by cases q; rfl, rfl, rfl⟩
theorem xs_fnan (u : UInt32) (h : xH) : xRn K Z 1 138 [.float u] h (.ok (some (.int (if Op.cmpValue (FP.fcmp u u) .l = 0 then 0 else 1)))) h := by
  refine xRp_eq (xRp_of (m := (yJxf58ca_isNaN_12338, cJxf58ca_isNaN_12338, 1, (some .boolean), [], [], xcJxf58ca_isNaN_12338)) rfl (by show 1 ≤ 1; decide) ?_)
  show xBp K Z 0 1 [] xcJxf58ca_isNaN_12338 xcJxf58ca_isNaN_12338 [(0, .float u)] [] _ _
  refine xp_step rfl ?_
  refine xp_step rfl ?_
  refine xp_step rfl ?_
  refine xp_if1 rfl (fun q => ?_) (fun q => ?_)
  · have q : Op.cmpValue (FP.fcmp u u) .l = 0 := of_decide_eq_true q
    refine xp_step rfl ?_
    rw [if_pos q]
    exact xp_ret rfl ⟨fun v q => by cases q; rfl, rfl, rfl⟩
  · have q : ¬ Op.cmpValue (FP.fcmp u u) .l = 0 := of_decide_eq_false q
    refine xp_step rfl ?_
    refine xp_jump rfl ?_
    rw [if_neg q]
    exact xp_ret rfl ⟨fun v q => by cases q; rfl, rfl, rfl⟩
theorem xs_fbits (u : UInt32) (h : xH) : xRn K Z 2 139 [.float u] h (.ok (some (.int (xFB u)))) h := by
  refine xRp_eq (xRp_of (m := (yJxf58ca_floatToIntBits_5c35a, cJxf58ca_floatToIntBits_5c35a, 1, (some .int), [], [], xcJxf58ca_floatToIntBits_5c35a)) rfl (by show 1 ≤ 1; decide) ?_)
  show xBp K Z 1 1 [] xcJxf58ca_floatToIntBits_5c35a xcJxf58ca_floatToIntBits_5c35a [(0, .float u)] [] _ _
  refine xp_step rfl ?_
  refine xp_callR rfl (xs_fnan u h) ?_
  unfold xFB
  by_cases q : Op.cmpValue (FP.fcmp u u) .l = 0
  · rw [if_pos q, if_pos q]
    refine xp_step rfl ?_
    refine xp_step rfl ?_
    refine xp_step rfl ?_
    exact xp_ret rfl ⟨fun v q => by cases q; rfl, rfl, rfl⟩
  · rw [if_neg q, if_neg q]
    refine xp_jump rfl ?_
    refine xp_step rfl ?_
    exact xp_ret rfl ⟨fun v q => by cases q; rfl, rfl, rfl⟩
end XLQ
