/-! THE LAW'S WRAPPERS: what is thrown becomes a number -/
section XWP
variable {K : List (Nat × List Value)} {Z : List Value} {d : Nat} {pre g h2 : xH} {B L : Nat} {N : Nat → Nat → Int32} {C : Nat → Nat} {r : xA} {c : Int32}
theorem xw_addReach (hB : xBok pre B) {x1 x2 x3 : Int32} (hc : xRn K Z d 62 [.ref (B + 0), .int x1, .int x2, .int x3] (xHn pre B N C L g) r h2) (hr : r = .ok (some (.int c)) ∨ (∃ q, r = .error (1, q) ∧ c = (-1001)) ∨ (∃ q, r = .error (2, q) ∧ c = (-1002))) : xRn K Z (d + 1) 198 [.ref (B + 0), .int x1, .int x2, .int x3] (xHn pre B N C L g) (.ok (some (.int c))) h2 := by
  refine xRp_eq (xRp_of (m := (yL_addReach, cL_addReach, 5, (some .int), [(0, 7, 8, 13), (0, 7, 14, 15)], [1, 2], xcL_addReach)) rfl (by show 4 ≤ 5; decide) ?_)
  show xBp K Z d 5 _ xcL_addReach xcL_addReach [(0, .ref (B + 0)), (1, .int x1), (2, .int x2), (3, .int x3)] [] _ _
  refine xp_step rfl ?_
  refine xp_step rfl ?_
  refine xp_step rfl ?_
  refine xp_step rfl ?_
  rcases hr with rfl | ⟨q, rfl, rfl⟩ | ⟨q, rfl, rfl⟩
  · refine xp_virt (i := 0) hB (by decide) rfl rfl (Nat.le_of_ble_eq_true rfl) rfl hc ?_
    exact xp_ret rfl ⟨fun v q => by cases q; rfl, rfl, rfl⟩
  · refine xp_virtE (i := 0) (u := 8) hB (by decide) rfl rfl (Nat.le_of_ble_eq_true rfl) rfl hc rfl ?_
    refine xp_step rfl ?_
    refine xp_step rfl ?_
    exact xp_ret rfl ⟨fun v q => by cases q; rfl, rfl, rfl⟩
  · refine xp_virtE (i := 0) (u := 14) hB (by decide) rfl rfl (Nat.le_of_ble_eq_true rfl) rfl hc rfl ?_
    refine xp_step rfl ?_
    refine xp_step rfl ?_
    exact xp_ret rfl ⟨fun v q => by cases q; rfl, rfl, rfl⟩
theorem xw_removeLast (hB : xBok pre B) (hc : xRn K Z d 63 [.ref (B + 0)] (xHn pre B N C L g) r h2) (hr : r = .ok (some (.int c)) ∨ (∃ q, r = .error (2, q) ∧ c = (-1001))) : xRn K Z (d + 1) 199 [.ref (B + 0)] (xHn pre B N C L g) (.ok (some (.int c))) h2 := by
  refine xRp_eq (xRp_of (m := (yL_removeLast, cL_removeLast, 2, (some .int), [(0, 4, 5, 15)], [2], xcL_removeLast)) rfl (by show 1 ≤ 2; decide) ?_)
  show xBp K Z d 2 _ xcL_removeLast xcL_removeLast [(0, .ref (B + 0))] [] _ _
  refine xp_step rfl ?_
  rcases hr with rfl | ⟨q, rfl, rfl⟩
  · refine xp_virt (i := 0) hB (by decide) rfl rfl (Nat.le_of_ble_eq_true rfl) rfl hc ?_
    exact xp_ret rfl ⟨fun v q => by cases q; rfl, rfl, rfl⟩
  · refine xp_virtE (i := 0) (u := 5) hB (by decide) rfl rfl (Nat.le_of_ble_eq_true rfl) rfl hc rfl ?_
    refine xp_step rfl ?_
    refine xp_step rfl ?_
    exact xp_ret rfl ⟨fun v q => by cases q; rfl, rfl, rfl⟩
theorem xw_setLateral (hB : xBok pre B) {x1 x2 : Int32} (hc : xRn K Z d 64 [.ref (B + 0), .int x1, .int x2] (xHn pre B N C L g) r h2) (hr : r = .ok (some (.int c)) ∨ (∃ q, r = .error (0, q) ∧ c = (-1001)) ∨ (∃ q, r = .error (1, q) ∧ c = (-1002)) ∨ (∃ q, r = .error (2, q) ∧ c = (-1003))) : xRn K Z (d + 1) 200 [.ref (B + 0), .int x1, .int x2] (xHn pre B N C L g) (.ok (some (.int c))) h2 := by
  refine xRp_eq (xRp_of (m := (yL_setLateral, cL_setLateral, 4, (some .int), [(0, 6, 7, 25), (0, 6, 12, 13), (0, 6, 17, 15)], [0, 1, 2], xcL_setLateral)) rfl (by show 3 ≤ 4; decide) ?_)
  show xBp K Z d 4 _ xcL_setLateral xcL_setLateral [(0, .ref (B + 0)), (1, .int x1), (2, .int x2)] [] _ _
  refine xp_step rfl ?_
  refine xp_step rfl ?_
  refine xp_step rfl ?_
  rcases hr with rfl | ⟨q, rfl, rfl⟩ | ⟨q, rfl, rfl⟩ | ⟨q, rfl, rfl⟩
  · refine xp_virt (i := 0) hB (by decide) rfl rfl (Nat.le_of_ble_eq_true rfl) rfl hc ?_
    exact xp_ret rfl ⟨fun v q => by cases q; rfl, rfl, rfl⟩
  · refine xp_virtE (i := 0) (u := 7) hB (by decide) rfl rfl (Nat.le_of_ble_eq_true rfl) rfl hc rfl ?_
    refine xp_step rfl ?_
    refine xp_step rfl ?_
    exact xp_ret rfl ⟨fun v q => by cases q; rfl, rfl, rfl⟩
  · refine xp_virtE (i := 0) (u := 12) hB (by decide) rfl rfl (Nat.le_of_ble_eq_true rfl) rfl hc rfl ?_
    refine xp_step rfl ?_
    refine xp_step rfl ?_
    exact xp_ret rfl ⟨fun v q => by cases q; rfl, rfl, rfl⟩
  · refine xp_virtE (i := 0) (u := 17) hB (by decide) rfl rfl (Nat.le_of_ble_eq_true rfl) rfl hc rfl ?_
    refine xp_step rfl ?_
    refine xp_step rfl ?_
    exact xp_ret rfl ⟨fun v q => by cases q; rfl, rfl, rfl⟩
theorem xw_fill (hB : xBok pre B) {x1 x2 : Int32} (hc : xRn K Z d 65 [.ref (B + 0), .int x1, .int x2] (xHn pre B N C L g) r h2) (hr : r = .ok (some (.int c)) ∨ (∃ q, r = .error (0, q) ∧ c = (-1001)) ∨ (∃ q, r = .error (1, q) ∧ c = (-1002))) : xRn K Z (d + 1) 201 [.ref (B + 0), .int x1, .int x2] (xHn pre B N C L g) (.ok (some (.int c))) h2 := by
  refine xRp_eq (xRp_of (m := (yL_fill, cL_fill, 4, (some .int), [(0, 6, 7, 25), (0, 6, 12, 13)], [0, 1], xcL_fill)) rfl (by show 3 ≤ 4; decide) ?_)
  show xBp K Z d 4 _ xcL_fill xcL_fill [(0, .ref (B + 0)), (1, .int x1), (2, .int x2)] [] _ _
  refine xp_step rfl ?_
  refine xp_step rfl ?_
  refine xp_step rfl ?_
  rcases hr with rfl | ⟨q, rfl, rfl⟩ | ⟨q, rfl, rfl⟩
  · refine xp_virt (i := 0) hB (by decide) rfl rfl (Nat.le_of_ble_eq_true rfl) rfl hc ?_
    exact xp_ret rfl ⟨fun v q => by cases q; rfl, rfl, rfl⟩
  · refine xp_virtE (i := 0) (u := 7) hB (by decide) rfl rfl (Nat.le_of_ble_eq_true rfl) rfl hc rfl ?_
    refine xp_step rfl ?_
    refine xp_step rfl ?_
    exact xp_ret rfl ⟨fun v q => by cases q; rfl, rfl, rfl⟩
  · refine xp_virtE (i := 0) (u := 12) hB (by decide) rfl rfl (Nat.le_of_ble_eq_true rfl) rfl hc rfl ?_
    refine xp_step rfl ?_
    refine xp_step rfl ?_
    exact xp_ret rfl ⟨fun v q => by cases q; rfl, rfl, rfl⟩
theorem xw_volume (hB : xBok pre B) {x1 : Int32} (hc : xRn K Z d 67 [.ref (B + 0), .int x1] (xHn pre B N C L g) r h2) (hr : r = .ok (some (.int c)) ∨ (∃ q, r = .error (0, q) ∧ c = (-1001))) : xRn K Z (d + 1) 202 [.ref (B + 0), .int x1] (xHn pre B N C L g) (.ok (some (.int c))) h2 := by
  refine xRp_eq (xRp_of (m := (yL_volume, cL_volume, 3, (some .int), [(0, 5, 6, 25)], [0], xcL_volume)) rfl (by show 2 ≤ 3; decide) ?_)
  show xBp K Z d 3 _ xcL_volume xcL_volume [(0, .ref (B + 0)), (1, .int x1)] [] _ _
  refine xp_step rfl ?_
  refine xp_step rfl ?_
  rcases hr with rfl | ⟨q, rfl, rfl⟩
  · refine xp_virt (i := 0) hB (by decide) rfl rfl (Nat.le_of_ble_eq_true rfl) rfl hc ?_
    exact xp_ret rfl ⟨fun v q => by cases q; rfl, rfl, rfl⟩
  · refine xp_virtE (i := 0) (u := 6) hB (by decide) rfl rfl (Nat.le_of_ble_eq_true rfl) rfl hc rfl ?_
    refine xp_step rfl ?_
    refine xp_step rfl ?_
    exact xp_ret rfl ⟨fun v q => by cases q; rfl, rfl, rfl⟩
theorem xw_lateral (hB : xBok pre B) {x1 : Int32} (hc : xRn K Z d 68 [.ref (B + 0), .int x1] (xHn pre B N C L g) r h2) (hr : r = .ok (some (.int c)) ∨ (∃ q, r = .error (0, q) ∧ c = (-1001))) : xRn K Z (d + 1) 203 [.ref (B + 0), .int x1] (xHn pre B N C L g) (.ok (some (.int c))) h2 := by
  refine xRp_eq (xRp_of (m := (yL_lateral, cL_lateral, 3, (some .int), [(0, 5, 6, 25)], [0], xcL_lateral)) rfl (by show 2 ≤ 3; decide) ?_)
  show xBp K Z d 3 _ xcL_lateral xcL_lateral [(0, .ref (B + 0)), (1, .int x1)] [] _ _
  refine xp_step rfl ?_
  refine xp_step rfl ?_
  rcases hr with rfl | ⟨q, rfl, rfl⟩
  · refine xp_virt (i := 0) hB (by decide) rfl rfl (Nat.le_of_ble_eq_true rfl) rfl hc ?_
    exact xp_ret rfl ⟨fun v q => by cases q; rfl, rfl, rfl⟩
  · refine xp_virtE (i := 0) (u := 6) hB (by decide) rfl rfl (Nat.le_of_ble_eq_true rfl) rfl hc rfl ?_
    refine xp_step rfl ?_
    refine xp_step rfl ?_
    exact xp_ret rfl ⟨fun v q => by cases q; rfl, rfl, rfl⟩
theorem xw_inflow (hB : xBok pre B) {x1 : Int32} (hc : xRn K Z d 69 [.ref (B + 0), .int x1] (xHn pre B N C L g) r h2) (hr : r = .ok (some (.int c)) ∨ (∃ q, r = .error (0, q) ∧ c = (-1001))) : xRn K Z (d + 1) 204 [.ref (B + 0), .int x1] (xHn pre B N C L g) (.ok (some (.int c))) h2 := by
  refine xRp_eq (xRp_of (m := (yL_inflow, cL_inflow, 3, (some .int), [(0, 5, 6, 25)], [0], xcL_inflow)) rfl (by show 2 ≤ 3; decide) ?_)
  show xBp K Z d 3 _ xcL_inflow xcL_inflow [(0, .ref (B + 0)), (1, .int x1)] [] _ _
  refine xp_step rfl ?_
  refine xp_step rfl ?_
  rcases hr with rfl | ⟨q, rfl, rfl⟩
  · refine xp_virt (i := 0) hB (by decide) rfl rfl (Nat.le_of_ble_eq_true rfl) rfl hc ?_
    exact xp_ret rfl ⟨fun v q => by cases q; rfl, rfl, rfl⟩
  · refine xp_virtE (i := 0) (u := 6) hB (by decide) rfl rfl (Nat.le_of_ble_eq_true rfl) rfl hc rfl ?_
    refine xp_step rfl ?_
    refine xp_step rfl ?_
    exact xp_ret rfl ⟨fun v q => by cases q; rfl, rfl, rfl⟩
theorem xw_outflow (hB : xBok pre B) {x1 : Int32} (hc : xRn K Z d 70 [.ref (B + 0), .int x1] (xHn pre B N C L g) r h2) (hr : r = .ok (some (.int c)) ∨ (∃ q, r = .error (0, q) ∧ c = (-1001))) : xRn K Z (d + 1) 205 [.ref (B + 0), .int x1] (xHn pre B N C L g) (.ok (some (.int c))) h2 := by
  refine xRp_eq (xRp_of (m := (yL_outflow, cL_outflow, 3, (some .int), [(0, 5, 6, 25)], [0], xcL_outflow)) rfl (by show 2 ≤ 3; decide) ?_)
  show xBp K Z d 3 _ xcL_outflow xcL_outflow [(0, .ref (B + 0)), (1, .int x1)] [] _ _
  refine xp_step rfl ?_
  refine xp_step rfl ?_
  rcases hr with rfl | ⟨q, rfl, rfl⟩
  · refine xp_virt (i := 0) hB (by decide) rfl rfl (Nat.le_of_ble_eq_true rfl) rfl hc ?_
    exact xp_ret rfl ⟨fun v q => by cases q; rfl, rfl, rfl⟩
  · refine xp_virtE (i := 0) (u := 6) hB (by decide) rfl rfl (Nat.le_of_ble_eq_true rfl) rfl hc rfl ?_
    refine xp_step rfl ?_
    refine xp_step rfl ?_
    exact xp_ret rfl ⟨fun v q => by cases q; rfl, rfl, rfl⟩
theorem xw_setStages (hB : xBok pre B) {x1 x2 x3 : Int32} (hc : xRn K Z d 71 [.ref (B + 0), .int x1, .int x2, .int x3] (xHn pre B N C L g) r h2) (hr : r = .ok (some (.int c)) ∨ (∃ q, r = .error (0, q) ∧ c = (-1001)) ∨ (∃ q, r = .error (1, q) ∧ c = (-1002))) : xRn K Z (d + 1) 206 [.ref (B + 0), .int x1, .int x2, .int x3] (xHn pre B N C L g) (.ok (some (.int c))) h2 := by
  refine xRp_eq (xRp_of (m := (yL_setStages, cL_setStages, 5, (some .int), [(0, 7, 8, 25), (0, 7, 14, 13)], [0, 1], xcL_setStages)) rfl (by show 4 ≤ 5; decide) ?_)
  show xBp K Z d 5 _ xcL_setStages xcL_setStages [(0, .ref (B + 0)), (1, .int x1), (2, .int x2), (3, .int x3)] [] _ _
  refine xp_step rfl ?_
  refine xp_step rfl ?_
  refine xp_step rfl ?_
  refine xp_step rfl ?_
  rcases hr with rfl | ⟨q, rfl, rfl⟩ | ⟨q, rfl, rfl⟩
  · refine xp_virt (i := 0) hB (by decide) rfl rfl (Nat.le_of_ble_eq_true rfl) rfl hc ?_
    exact xp_ret rfl ⟨fun v q => by cases q; rfl, rfl, rfl⟩
  · refine xp_virtE (i := 0) (u := 8) hB (by decide) rfl rfl (Nat.le_of_ble_eq_true rfl) rfl hc rfl ?_
    refine xp_step rfl ?_
    refine xp_step rfl ?_
    exact xp_ret rfl ⟨fun v q => by cases q; rfl, rfl, rfl⟩
  · refine xp_virtE (i := 0) (u := 14) hB (by decide) rfl rfl (Nat.le_of_ble_eq_true rfl) rfl hc rfl ?_
    refine xp_step rfl ?_
    refine xp_step rfl ?_
    exact xp_ret rfl ⟨fun v q => by cases q; rfl, rfl, rfl⟩
theorem xw_setGate (hB : xBok pre B) {x1 x2 : Int32} (hc : xRn K Z d 72 [.ref (B + 0), .int x1, .int x2] (xHn pre B N C L g) r h2) (hr : r = .ok (some (.int c)) ∨ (∃ q, r = .error (0, q) ∧ c = (-1001)) ∨ (∃ q, r = .error (1, q) ∧ c = (-1002)) ∨ (∃ q, r = .error (2, q) ∧ c = (-1003))) : xRn K Z (d + 1) 207 [.ref (B + 0), .int x1, .int x2] (xHn pre B N C L g) (.ok (some (.int c))) h2 := by
  refine xRp_eq (xRp_of (m := (yL_setGate, cL_setGate, 4, (some .int), [(0, 6, 7, 25), (0, 6, 12, 13), (0, 6, 17, 15)], [0, 1, 2], xcL_setGate)) rfl (by show 3 ≤ 4; decide) ?_)
  show xBp K Z d 4 _ xcL_setGate xcL_setGate [(0, .ref (B + 0)), (1, .int x1), (2, .int x2)] [] _ _
  refine xp_step rfl ?_
  refine xp_step rfl ?_
  refine xp_step rfl ?_
  rcases hr with rfl | ⟨q, rfl, rfl⟩ | ⟨q, rfl, rfl⟩ | ⟨q, rfl, rfl⟩
  · refine xp_virt (i := 0) hB (by decide) rfl rfl (Nat.le_of_ble_eq_true rfl) rfl hc ?_
    exact xp_ret rfl ⟨fun v q => by cases q; rfl, rfl, rfl⟩
  · refine xp_virtE (i := 0) (u := 7) hB (by decide) rfl rfl (Nat.le_of_ble_eq_true rfl) rfl hc rfl ?_
    refine xp_step rfl ?_
    refine xp_step rfl ?_
    exact xp_ret rfl ⟨fun v q => by cases q; rfl, rfl, rfl⟩
  · refine xp_virtE (i := 0) (u := 12) hB (by decide) rfl rfl (Nat.le_of_ble_eq_true rfl) rfl hc rfl ?_
    refine xp_step rfl ?_
    refine xp_step rfl ?_
    exact xp_ret rfl ⟨fun v q => by cases q; rfl, rfl, rfl⟩
  · refine xp_virtE (i := 0) (u := 17) hB (by decide) rfl rfl (Nat.le_of_ble_eq_true rfl) rfl hc rfl ?_
    refine xp_step rfl ?_
    refine xp_step rfl ?_
    exact xp_ret rfl ⟨fun v q => by cases q; rfl, rfl, rfl⟩
theorem xw_setRule (hB : xBok pre B) {x1 x2 : Int32} (hc : xRn K Z d 73 [.ref (B + 0), .int x1, .int x2] (xHn pre B N C L g) r h2) (hr : r = .ok (some (.int c)) ∨ (∃ q, r = .error (0, q) ∧ c = (-1001)) ∨ (∃ q, r = .error (1, q) ∧ c = (-1002)) ∨ (∃ q, r = .error (2, q) ∧ c = (-1003))) : xRn K Z (d + 1) 208 [.ref (B + 0), .int x1, .int x2] (xHn pre B N C L g) (.ok (some (.int c))) h2 := by
  refine xRp_eq (xRp_of (m := (yL_setRule, cL_setRule, 4, (some .int), [(0, 6, 7, 25), (0, 6, 12, 13), (0, 6, 17, 15)], [0, 1, 2], xcL_setRule)) rfl (by show 3 ≤ 4; decide) ?_)
  show xBp K Z d 4 _ xcL_setRule xcL_setRule [(0, .ref (B + 0)), (1, .int x1), (2, .int x2)] [] _ _
  refine xp_step rfl ?_
  refine xp_step rfl ?_
  refine xp_step rfl ?_
  rcases hr with rfl | ⟨q, rfl, rfl⟩ | ⟨q, rfl, rfl⟩ | ⟨q, rfl, rfl⟩
  · refine xp_virt (i := 0) hB (by decide) rfl rfl (Nat.le_of_ble_eq_true rfl) rfl hc ?_
    exact xp_ret rfl ⟨fun v q => by cases q; rfl, rfl, rfl⟩
  · refine xp_virtE (i := 0) (u := 7) hB (by decide) rfl rfl (Nat.le_of_ble_eq_true rfl) rfl hc rfl ?_
    refine xp_step rfl ?_
    refine xp_step rfl ?_
    exact xp_ret rfl ⟨fun v q => by cases q; rfl, rfl, rfl⟩
  · refine xp_virtE (i := 0) (u := 12) hB (by decide) rfl rfl (Nat.le_of_ble_eq_true rfl) rfl hc rfl ?_
    refine xp_step rfl ?_
    refine xp_step rfl ?_
    exact xp_ret rfl ⟨fun v q => by cases q; rfl, rfl, rfl⟩
  · refine xp_virtE (i := 0) (u := 17) hB (by decide) rfl rfl (Nat.le_of_ble_eq_true rfl) rfl hc rfl ?_
    refine xp_step rfl ?_
    refine xp_step rfl ?_
    exact xp_ret rfl ⟨fun v q => by cases q; rfl, rfl, rfl⟩
theorem xw_level (hB : xBok pre B) {x1 : Int32} (hc : xRn K Z d 74 [.ref (B + 0), .int x1] (xHn pre B N C L g) r h2) (hr : r = .ok (some (.int c)) ∨ (∃ q, r = .error (0, q) ∧ c = (-1001))) : xRn K Z (d + 1) 209 [.ref (B + 0), .int x1] (xHn pre B N C L g) (.ok (some (.int c))) h2 := by
  refine xRp_eq (xRp_of (m := (yL_level, cL_level, 3, (some .int), [(0, 5, 6, 25)], [0], xcL_level)) rfl (by show 2 ≤ 3; decide) ?_)
  show xBp K Z d 3 _ xcL_level xcL_level [(0, .ref (B + 0)), (1, .int x1)] [] _ _
  refine xp_step rfl ?_
  refine xp_step rfl ?_
  rcases hr with rfl | ⟨q, rfl, rfl⟩
  · refine xp_virt (i := 0) hB (by decide) rfl rfl (Nat.le_of_ble_eq_true rfl) rfl hc ?_
    exact xp_ret rfl ⟨fun v q => by cases q; rfl, rfl, rfl⟩
  · refine xp_virtE (i := 0) (u := 6) hB (by decide) rfl rfl (Nat.le_of_ble_eq_true rfl) rfl hc rfl ?_
    refine xp_step rfl ?_
    refine xp_step rfl ?_
    exact xp_ret rfl ⟨fun v q => by cases q; rfl, rfl, rfl⟩
theorem xw_status (hB : xBok pre B) {x1 : Int32} (hc : xRn K Z d 75 [.ref (B + 0), .int x1] (xHn pre B N C L g) r h2) (hr : r = .ok (some (.int c)) ∨ (∃ q, r = .error (0, q) ∧ c = (-1001))) : xRn K Z (d + 1) 210 [.ref (B + 0), .int x1] (xHn pre B N C L g) (.ok (some (.int c))) h2 := by
  refine xRp_eq (xRp_of (m := (yL_status, cL_status, 3, (some .int), [(0, 5, 6, 25)], [0], xcL_status)) rfl (by show 2 ≤ 3; decide) ?_)
  show xBp K Z d 3 _ xcL_status xcL_status [(0, .ref (B + 0)), (1, .int x1)] [] _ _
  refine xp_step rfl ?_
  refine xp_step rfl ?_
  rcases hr with rfl | ⟨q, rfl, rfl⟩
  · refine xp_virt (i := 0) hB (by decide) rfl rfl (Nat.le_of_ble_eq_true rfl) rfl hc ?_
    exact xp_ret rfl ⟨fun v q => by cases q; rfl, rfl, rfl⟩
  · refine xp_virtE (i := 0) (u := 6) hB (by decide) rfl rfl (Nat.le_of_ble_eq_true rfl) rfl hc rfl ?_
    refine xp_step rfl ?_
    refine xp_step rfl ?_
    exact xp_ret rfl ⟨fun v q => by cases q; rfl, rfl, rfl⟩
theorem xw_isFlooded (hB : xBok pre B) {x1 : Int32} (hc : xRn K Z d 76 [.ref (B + 0), .int x1] (xHn pre B N C L g) r h2) (hr : (r = .ok (some (.int c)) ∧ (c = 0 ∨ c = 1)) ∨ (∃ q, r = .error (0, q) ∧ c = (-1001))) : xRn K Z (d + 1) 211 [.ref (B + 0), .int x1] (xHn pre B N C L g) (.ok (some (.int c))) h2 := by
  refine xRp_eq (xRp_of (m := (yL_isFlooded, cL_isFlooded, 3, (some .int), [(0, 13, 14, 25)], [0], xcL_isFlooded)) rfl (by show 2 ≤ 3; decide) ?_)
  show xBp K Z d 3 _ xcL_isFlooded xcL_isFlooded [(0, .ref (B + 0)), (1, .int x1)] [] _ _
  refine xp_step rfl ?_
  refine xp_step rfl ?_
  rcases hr with ⟨rfl, h9⟩ | ⟨q, rfl, rfl⟩
  · refine xp_virt (i := 0) hB (by decide) rfl rfl (Nat.le_of_ble_eq_true rfl) rfl hc ?_
    rcases h9 with rfl | rfl
    · refine xp_jump rfl ?_
      refine xp_step rfl ?_
      exact xp_ret rfl ⟨fun v q => by cases q; rfl, rfl, rfl⟩
    · refine xp_step rfl ?_
      refine xp_step rfl ?_
      refine xp_jump rfl ?_
      exact xp_ret rfl ⟨fun v q => by cases q; rfl, rfl, rfl⟩
  · refine xp_virtE (i := 0) (u := 14) hB (by decide) rfl rfl (Nat.le_of_ble_eq_true rfl) rfl hc rfl ?_
    refine xp_step rfl ?_
    refine xp_step rfl ?_
    exact xp_ret rfl ⟨fun v q => by cases q; rfl, rfl, rfl⟩
theorem xw_opening (hB : xBok pre B) {x1 : Int32} (hc : xRn K Z d 77 [.ref (B + 0), .int x1] (xHn pre B N C L g) r h2) (hr : r = .ok (some (.int c)) ∨ (∃ q, r = .error (0, q) ∧ c = (-1001))) : xRn K Z (d + 1) 212 [.ref (B + 0), .int x1] (xHn pre B N C L g) (.ok (some (.int c))) h2 := by
  refine xRp_eq (xRp_of (m := (yL_opening, cL_opening, 3, (some .int), [(0, 5, 6, 25)], [0], xcL_opening)) rfl (by show 2 ≤ 3; decide) ?_)
  show xBp K Z d 3 _ xcL_opening xcL_opening [(0, .ref (B + 0)), (1, .int x1)] [] _ _
  refine xp_step rfl ?_
  refine xp_step rfl ?_
  rcases hr with rfl | ⟨q, rfl, rfl⟩
  · refine xp_virt (i := 0) hB (by decide) rfl rfl (Nat.le_of_ble_eq_true rfl) rfl hc ?_
    exact xp_ret rfl ⟨fun v q => by cases q; rfl, rfl, rfl⟩
  · refine xp_virtE (i := 0) (u := 6) hB (by decide) rfl rfl (Nat.le_of_ble_eq_true rfl) rfl hc rfl ?_
    refine xp_step rfl ?_
    refine xp_step rfl ?_
    exact xp_ret rfl ⟨fun v q => by cases q; rfl, rfl, rfl⟩
theorem xw_rule (hB : xBok pre B) {x1 : Int32} (hc : xRn K Z d 78 [.ref (B + 0), .int x1] (xHn pre B N C L g) r h2) (hr : r = .ok (some (.int c)) ∨ (∃ q, r = .error (0, q) ∧ c = (-1001))) : xRn K Z (d + 1) 213 [.ref (B + 0), .int x1] (xHn pre B N C L g) (.ok (some (.int c))) h2 := by
  refine xRp_eq (xRp_of (m := (yL_rule, cL_rule, 3, (some .int), [(0, 5, 6, 25)], [0], xcL_rule)) rfl (by show 2 ≤ 3; decide) ?_)
  show xBp K Z d 3 _ xcL_rule xcL_rule [(0, .ref (B + 0)), (1, .int x1)] [] _ _
  refine xp_step rfl ?_
  refine xp_step rfl ?_
  rcases hr with rfl | ⟨q, rfl, rfl⟩
  · refine xp_virt (i := 0) hB (by decide) rfl rfl (Nat.le_of_ble_eq_true rfl) rfl hc ?_
    exact xp_ret rfl ⟨fun v q => by cases q; rfl, rfl, rfl⟩
  · refine xp_virtE (i := 0) (u := 6) hB (by decide) rfl rfl (Nat.le_of_ble_eq_true rfl) rfl hc rfl ?_
    refine xp_step rfl ?_
    refine xp_step rfl ?_
    exact xp_ret rfl ⟨fun v q => by cases q; rfl, rfl, rfl⟩
theorem xw_room (hB : xBok pre B) {x1 : Int32} (hc : xRn K Z d 79 [.ref (B + 0), .int x1] (xHn pre B N C L g) r h2) (hr : r = .ok (some (.int c)) ∨ (∃ q, r = .error (0, q) ∧ c = (-1001)) ∨ (∃ q, r = .error (3, q) ∧ c = (-1002))) : xRn K Z (d + 1) 214 [.ref (B + 0), .int x1] (xHn pre B N C L g) (.ok (some (.int c))) h2 := by
  refine xRp_eq (xRp_of (m := (yL_room, cL_room, 3, (some .int), [(0, 5, 6, 25), (0, 5, 11, 73)], [0, 3], xcL_room)) rfl (by show 2 ≤ 3; decide) ?_)
  show xBp K Z d 3 _ xcL_room xcL_room [(0, .ref (B + 0)), (1, .int x1)] [] _ _
  refine xp_step rfl ?_
  refine xp_step rfl ?_
  rcases hr with rfl | ⟨q, rfl, rfl⟩ | ⟨q, rfl, rfl⟩
  · refine xp_virt (i := 0) hB (by decide) rfl rfl (Nat.le_of_ble_eq_true rfl) rfl hc ?_
    exact xp_ret rfl ⟨fun v q => by cases q; rfl, rfl, rfl⟩
  · refine xp_virtE (i := 0) (u := 6) hB (by decide) rfl rfl (Nat.le_of_ble_eq_true rfl) rfl hc rfl ?_
    refine xp_step rfl ?_
    refine xp_step rfl ?_
    exact xp_ret rfl ⟨fun v q => by cases q; rfl, rfl, rfl⟩
  · refine xp_virtE (i := 0) (u := 11) hB (by decide) rfl rfl (Nat.le_of_ble_eq_true rfl) rfl hc rfl ?_
    refine xp_step rfl ?_
    refine xp_step rfl ?_
    exact xp_ret rfl ⟨fun v q => by cases q; rfl, rfl, rfl⟩
theorem xw_byLevel (hB : xBok pre B) {x1 : Int32} (hc : xRn K Z d 80 [.ref (B + 0), .int x1] (xHn pre B N C L g) r h2) (hr : r = .ok (some (.int c)) ∨ (∃ q, r = .error (3, q) ∧ c = (-1001))) : xRn K Z (d + 1) 215 [.ref (B + 0), .int x1] (xHn pre B N C L g) (.ok (some (.int c))) h2 := by
  refine xRp_eq (xRp_of (m := (yL_byLevel, cL_byLevel, 3, (some .int), [(0, 5, 6, 73)], [3], xcL_byLevel)) rfl (by show 2 ≤ 3; decide) ?_)
  show xBp K Z d 3 _ xcL_byLevel xcL_byLevel [(0, .ref (B + 0)), (1, .int x1)] [] _ _
  refine xp_step rfl ?_
  refine xp_step rfl ?_
  rcases hr with rfl | ⟨q, rfl, rfl⟩
  · refine xp_virt (i := 0) hB (by decide) rfl rfl (Nat.le_of_ble_eq_true rfl) rfl hc ?_
    exact xp_ret rfl ⟨fun v q => by cases q; rfl, rfl, rfl⟩
  · refine xp_virtE (i := 0) (u := 6) hB (by decide) rfl rfl (Nat.le_of_ble_eq_true rfl) rfl hc rfl ?_
    refine xp_step rfl ?_
    refine xp_step rfl ?_
    exact xp_ret rfl ⟨fun v q => by cases q; rfl, rfl, rfl⟩
theorem xw_addPulse (hB : xBok pre B) {x1 x2 x3 : Int32} (hc : xRn K Z d 81 [.ref (B + 0), .int x1, .int x2, .int x3] (xHn pre B N C L g) r h2) (hr : r = .ok (some (.int c)) ∨ (∃ q, r = .error (1, q) ∧ c = (-1001)) ∨ (∃ q, r = .error (2, q) ∧ c = (-1002))) : xRn K Z (d + 1) 216 [.ref (B + 0), .int x1, .int x2, .int x3] (xHn pre B N C L g) (.ok (some (.int c))) h2 := by
  refine xRp_eq (xRp_of (m := (yL_addPulse, cL_addPulse, 5, (some .int), [(0, 7, 8, 13), (0, 7, 14, 15)], [1, 2], xcL_addPulse)) rfl (by show 4 ≤ 5; decide) ?_)
  show xBp K Z d 5 _ xcL_addPulse xcL_addPulse [(0, .ref (B + 0)), (1, .int x1), (2, .int x2), (3, .int x3)] [] _ _
  refine xp_step rfl ?_
  refine xp_step rfl ?_
  refine xp_step rfl ?_
  refine xp_step rfl ?_
  rcases hr with rfl | ⟨q, rfl, rfl⟩ | ⟨q, rfl, rfl⟩
  · refine xp_virt (i := 0) hB (by decide) rfl rfl (Nat.le_of_ble_eq_true rfl) rfl hc ?_
    exact xp_ret rfl ⟨fun v q => by cases q; rfl, rfl, rfl⟩
  · refine xp_virtE (i := 0) (u := 8) hB (by decide) rfl rfl (Nat.le_of_ble_eq_true rfl) rfl hc rfl ?_
    refine xp_step rfl ?_
    refine xp_step rfl ?_
    exact xp_ret rfl ⟨fun v q => by cases q; rfl, rfl, rfl⟩
  · refine xp_virtE (i := 0) (u := 14) hB (by decide) rfl rfl (Nat.le_of_ble_eq_true rfl) rfl hc rfl ?_
    refine xp_step rfl ?_
    refine xp_step rfl ?_
    exact xp_ret rfl ⟨fun v q => by cases q; rfl, rfl, rfl⟩
theorem xw_pass (hB : xBok pre B) {x1 : Int32} (hc : xRn K Z d 82 [.ref (B + 0), .int x1] (xHn pre B N C L g) r h2) (hr : r = .ok (some (.int c)) ∨ (∃ q, r = .error (1, q) ∧ c = (-1001)) ∨ (∃ q, r = .error (2, q) ∧ c = (-1002))) : xRn K Z (d + 1) 217 [.ref (B + 0), .int x1] (xHn pre B N C L g) (.ok (some (.int c))) h2 := by
  refine xRp_eq (xRp_of (m := (yL_pass, cL_pass, 3, (some .int), [(0, 5, 6, 13), (0, 5, 11, 15)], [1, 2], xcL_pass)) rfl (by show 2 ≤ 3; decide) ?_)
  show xBp K Z d 3 _ xcL_pass xcL_pass [(0, .ref (B + 0)), (1, .int x1)] [] _ _
  refine xp_step rfl ?_
  refine xp_step rfl ?_
  rcases hr with rfl | ⟨q, rfl, rfl⟩ | ⟨q, rfl, rfl⟩
  · refine xp_virt (i := 0) hB (by decide) rfl rfl (Nat.le_of_ble_eq_true rfl) rfl hc ?_
    exact xp_ret rfl ⟨fun v q => by cases q; rfl, rfl, rfl⟩
  · refine xp_virtE (i := 0) (u := 6) hB (by decide) rfl rfl (Nat.le_of_ble_eq_true rfl) rfl hc rfl ?_
    refine xp_step rfl ?_
    refine xp_step rfl ?_
    exact xp_ret rfl ⟨fun v q => by cases q; rfl, rfl, rfl⟩
  · refine xp_virtE (i := 0) (u := 11) hB (by decide) rfl rfl (Nat.le_of_ble_eq_true rfl) rfl hc rfl ?_
    refine xp_step rfl ?_
    refine xp_step rfl ?_
    exact xp_ret rfl ⟨fun v q => by cases q; rfl, rfl, rfl⟩
theorem xw_headInflow (hB : xBok pre B) {x1 : Int32} (hc : xRn K Z d 85 [.ref (B + 0), .int x1] (xHn pre B N C L g) r h2) (hr : r = .ok (some (.int c)) ∨ (∃ q, r = .error (1, q) ∧ c = (-1001))) : xRn K Z (d + 1) 218 [.ref (B + 0), .int x1] (xHn pre B N C L g) (.ok (some (.int c))) h2 := by
  refine xRp_eq (xRp_of (m := (yL_headInflow, cL_headInflow, 3, (some .int), [(0, 5, 6, 13)], [1], xcL_headInflow)) rfl (by show 2 ≤ 3; decide) ?_)
  show xBp K Z d 3 _ xcL_headInflow xcL_headInflow [(0, .ref (B + 0)), (1, .int x1)] [] _ _
  refine xp_step rfl ?_
  refine xp_step rfl ?_
  rcases hr with rfl | ⟨q, rfl, rfl⟩
  · refine xp_virt (i := 0) hB (by decide) rfl rfl (Nat.le_of_ble_eq_true rfl) rfl hc ?_
    exact xp_ret rfl ⟨fun v q => by cases q; rfl, rfl, rfl⟩
  · refine xp_virtE (i := 0) (u := 6) hB (by decide) rfl rfl (Nat.le_of_ble_eq_true rfl) rfl hc rfl ?_
    refine xp_step rfl ?_
    refine xp_step rfl ?_
    exact xp_ret rfl ⟨fun v q => by cases q; rfl, rfl, rfl⟩
theorem xw_levelAfter (hB : xBok pre B) {x1 x2 : Int32} (hc : xRn K Z d 87 [.ref (B + 0), .int x1, .int x2] (xHn pre B N C L g) r h2) (hr : r = .ok (some (.int c)) ∨ (∃ q, r = .error (0, q) ∧ c = (-1001)) ∨ (∃ q, r = .error (1, q) ∧ c = (-1002))) : xRn K Z (d + 1) 219 [.ref (B + 0), .int x1, .int x2] (xHn pre B N C L g) (.ok (some (.int c))) h2 := by
  refine xRp_eq (xRp_of (m := (yL_levelAfter, cL_levelAfter, 4, (some .int), [(0, 6, 7, 25), (0, 6, 12, 13)], [0, 1], xcL_levelAfter)) rfl (by show 3 ≤ 4; decide) ?_)
  show xBp K Z d 4 _ xcL_levelAfter xcL_levelAfter [(0, .ref (B + 0)), (1, .int x1), (2, .int x2)] [] _ _
  refine xp_step rfl ?_
  refine xp_step rfl ?_
  refine xp_step rfl ?_
  rcases hr with rfl | ⟨q, rfl, rfl⟩ | ⟨q, rfl, rfl⟩
  · refine xp_virt (i := 0) hB (by decide) rfl rfl (Nat.le_of_ble_eq_true rfl) rfl hc ?_
    exact xp_ret rfl ⟨fun v q => by cases q; rfl, rfl, rfl⟩
  · refine xp_virtE (i := 0) (u := 7) hB (by decide) rfl rfl (Nat.le_of_ble_eq_true rfl) rfl hc rfl ?_
    refine xp_step rfl ?_
    refine xp_step rfl ?_
    exact xp_ret rfl ⟨fun v q => by cases q; rfl, rfl, rfl⟩
  · refine xp_virtE (i := 0) (u := 12) hB (by decide) rfl rfl (Nat.le_of_ble_eq_true rfl) rfl hc rfl ?_
    refine xp_step rfl ?_
    refine xp_step rfl ?_
    exact xp_ret rfl ⟨fun v q => by cases q; rfl, rfl, rfl⟩
theorem xw_peak (hB : xBok pre B) {x1 x2 : Int32} (hc : xRn K Z d 88 [.ref (B + 0), .int x1, .int x2] (xHn pre B N C L g) r h2) (hr : r = .ok (some (.int c)) ∨ (∃ q, r = .error (0, q) ∧ c = (-1001)) ∨ (∃ q, r = .error (1, q) ∧ c = (-1002))) : xRn K Z (d + 1) 220 [.ref (B + 0), .int x1, .int x2] (xHn pre B N C L g) (.ok (some (.int c))) h2 := by
  refine xRp_eq (xRp_of (m := (yL_peak, cL_peak, 4, (some .int), [(0, 6, 7, 25), (0, 6, 12, 13)], [0, 1], xcL_peak)) rfl (by show 3 ≤ 4; decide) ?_)
  show xBp K Z d 4 _ xcL_peak xcL_peak [(0, .ref (B + 0)), (1, .int x1), (2, .int x2)] [] _ _
  refine xp_step rfl ?_
  refine xp_step rfl ?_
  refine xp_step rfl ?_
  rcases hr with rfl | ⟨q, rfl, rfl⟩ | ⟨q, rfl, rfl⟩
  · refine xp_virt (i := 0) hB (by decide) rfl rfl (Nat.le_of_ble_eq_true rfl) rfl hc ?_
    exact xp_ret rfl ⟨fun v q => by cases q; rfl, rfl, rfl⟩
  · refine xp_virtE (i := 0) (u := 7) hB (by decide) rfl rfl (Nat.le_of_ble_eq_true rfl) rfl hc rfl ?_
    refine xp_step rfl ?_
    refine xp_step rfl ?_
    exact xp_ret rfl ⟨fun v q => by cases q; rfl, rfl, rfl⟩
  · refine xp_virtE (i := 0) (u := 12) hB (by decide) rfl rfl (Nat.le_of_ble_eq_true rfl) rfl hc rfl ?_
    refine xp_step rfl ?_
    refine xp_step rfl ?_
    exact xp_ret rfl ⟨fun v q => by cases q; rfl, rfl, rfl⟩
theorem xw_untilFlood (hB : xBok pre B) {x1 : Int32} (hc : xRn K Z d 89 [.ref (B + 0), .int x1] (xHn pre B N C L g) r h2) (hr : r = .ok (some (.int c)) ∨ (∃ q, r = .error (0, q) ∧ c = (-1001)) ∨ (∃ q, r = .error (3, q) ∧ c = (-1002))) : xRn K Z (d + 1) 221 [.ref (B + 0), .int x1] (xHn pre B N C L g) (.ok (some (.int c))) h2 := by
  refine xRp_eq (xRp_of (m := (yL_untilFlood, cL_untilFlood, 3, (some .int), [(0, 5, 6, 25), (0, 5, 11, 73)], [0, 3], xcL_untilFlood)) rfl (by show 2 ≤ 3; decide) ?_)
  show xBp K Z d 3 _ xcL_untilFlood xcL_untilFlood [(0, .ref (B + 0)), (1, .int x1)] [] _ _
  refine xp_step rfl ?_
  refine xp_step rfl ?_
  rcases hr with rfl | ⟨q, rfl, rfl⟩ | ⟨q, rfl, rfl⟩
  · refine xp_virt (i := 0) hB (by decide) rfl rfl (Nat.le_of_ble_eq_true rfl) rfl hc ?_
    exact xp_ret rfl ⟨fun v q => by cases q; rfl, rfl, rfl⟩
  · refine xp_virtE (i := 0) (u := 6) hB (by decide) rfl rfl (Nat.le_of_ble_eq_true rfl) rfl hc rfl ?_
    refine xp_step rfl ?_
    refine xp_step rfl ?_
    exact xp_ret rfl ⟨fun v q => by cases q; rfl, rfl, rfl⟩
  · refine xp_virtE (i := 0) (u := 11) hB (by decide) rfl rfl (Nat.le_of_ble_eq_true rfl) rfl hc rfl ?_
    refine xp_step rfl ?_
    refine xp_step rfl ?_
    exact xp_ret rfl ⟨fun v q => by cases q; rfl, rfl, rfl⟩
theorem xw_volumeAfter (hB : xBok pre B) {x1 : Int32} (hc : xRn K Z d 90 [.ref (B + 0), .int x1] (xHn pre B N C L g) r h2) (hr : r = .ok (some (.int c)) ∨ (∃ q, r = .error (1, q) ∧ c = (-1001))) : xRn K Z (d + 1) 222 [.ref (B + 0), .int x1] (xHn pre B N C L g) (.ok (some (.int c))) h2 := by
  refine xRp_eq (xRp_of (m := (yL_volumeAfter, cL_volumeAfter, 3, (some .int), [(0, 5, 6, 13)], [1], xcL_volumeAfter)) rfl (by show 2 ≤ 3; decide) ?_)
  show xBp K Z d 3 _ xcL_volumeAfter xcL_volumeAfter [(0, .ref (B + 0)), (1, .int x1)] [] _ _
  refine xp_step rfl ?_
  refine xp_step rfl ?_
  rcases hr with rfl | ⟨q, rfl, rfl⟩
  · refine xp_virt (i := 0) hB (by decide) rfl rfl (Nat.le_of_ble_eq_true rfl) rfl hc ?_
    exact xp_ret rfl ⟨fun v q => by cases q; rfl, rfl, rfl⟩
  · refine xp_virtE (i := 0) (u := 6) hB (by decide) rfl rfl (Nat.le_of_ble_eq_true rfl) rfl hc rfl ?_
    refine xp_step rfl ?_
    refine xp_step rfl ?_
    exact xp_ret rfl ⟨fun v q => by cases q; rfl, rfl, rfl⟩
theorem xw_volumeByBalance (hB : xBok pre B) {x1 : Int32} (hc : xRn K Z d 91 [.ref (B + 0), .int x1] (xHn pre B N C L g) r h2) (hr : r = .ok (some (.int c)) ∨ (∃ q, r = .error (1, q) ∧ c = (-1001))) : xRn K Z (d + 1) 223 [.ref (B + 0), .int x1] (xHn pre B N C L g) (.ok (some (.int c))) h2 := by
  refine xRp_eq (xRp_of (m := (yL_volumeByBalance, cL_volumeByBalance, 3, (some .int), [(0, 5, 6, 13)], [1], xcL_volumeByBalance)) rfl (by show 2 ≤ 3; decide) ?_)
  show xBp K Z d 3 _ xcL_volumeByBalance xcL_volumeByBalance [(0, .ref (B + 0)), (1, .int x1)] [] _ _
  refine xp_step rfl ?_
  refine xp_step rfl ?_
  rcases hr with rfl | ⟨q, rfl, rfl⟩
  · refine xp_virt (i := 0) hB (by decide) rfl rfl (Nat.le_of_ble_eq_true rfl) rfl hc ?_
    exact xp_ret rfl ⟨fun v q => by cases q; rfl, rfl, rfl⟩
  · refine xp_virtE (i := 0) (u := 6) hB (by decide) rfl rfl (Nat.le_of_ble_eq_true rfl) rfl hc rfl ?_
    refine xp_step rfl ?_
    refine xp_step rfl ?_
    exact xp_ret rfl ⟨fun v q => by cases q; rfl, rfl, rfl⟩
theorem xw_feed (hB : xBok pre B) {x1 : Int32} (hc : xRn K Z d 97 [.ref (B + 0), .int x1] (xHn pre B N C L g) r h2) (hr : r = .ok (some (.int c)) ∨ (∃ q, r = .error (4, q) ∧ c = (-1001))) : xRn K Z (d + 1) 226 [.ref (B + 0), .int x1] (xHn pre B N C L g) (.ok (some (.int c))) h2 := by
  refine xRp_eq (xRp_of (m := (yL_feed, cL_feed, 3, (some .int), [(0, 5, 6, 119)], [4], xcL_feed)) rfl (by show 2 ≤ 3; decide) ?_)
  show xBp K Z d 3 _ xcL_feed xcL_feed [(0, .ref (B + 0)), (1, .int x1)] [] _ _
  refine xp_step rfl ?_
  refine xp_step rfl ?_
  rcases hr with rfl | ⟨q, rfl, rfl⟩
  · refine xp_virt (i := 0) hB (by decide) rfl rfl (Nat.le_of_ble_eq_true rfl) rfl hc ?_
    exact xp_ret rfl ⟨fun v q => by cases q; rfl, rfl, rfl⟩
  · refine xp_virtE (i := 0) (u := 6) hB (by decide) rfl rfl (Nat.le_of_ble_eq_true rfl) rfl hc rfl ?_
    refine xp_step rfl ?_
    refine xp_step rfl ?_
    exact xp_ret rfl ⟨fun v q => by cases q; rfl, rfl, rfl⟩
theorem xw_execute (hB : xBok pre B) (hc : xRn K Z d 98 [.ref (B + 0)] (xHn pre B N C L g) r h2) (hr : r = .ok (some (.int c)) ∨ (∃ q, r = .error (1, q) ∧ c = (-1001)) ∨ (∃ q, r = .error (2, q) ∧ c = (-1002))) : xRn K Z (d + 1) 227 [.ref (B + 0)] (xHn pre B N C L g) (.ok (some (.int c))) h2 := by
  refine xRp_eq (xRp_of (m := (yL_execute, cL_execute, 2, (some .int), [(0, 4, 5, 13), (0, 4, 10, 15)], [1, 2], xcL_execute)) rfl (by show 1 ≤ 2; decide) ?_)
  show xBp K Z d 2 _ xcL_execute xcL_execute [(0, .ref (B + 0))] [] _ _
  refine xp_step rfl ?_
  rcases hr with rfl | ⟨q, rfl, rfl⟩ | ⟨q, rfl, rfl⟩
  · refine xp_virt (i := 0) hB (by decide) rfl rfl (Nat.le_of_ble_eq_true rfl) rfl hc ?_
    exact xp_ret rfl ⟨fun v q => by cases q; rfl, rfl, rfl⟩
  · refine xp_virtE (i := 0) (u := 5) hB (by decide) rfl rfl (Nat.le_of_ble_eq_true rfl) rfl hc rfl ?_
    refine xp_step rfl ?_
    refine xp_step rfl ?_
    exact xp_ret rfl ⟨fun v q => by cases q; rfl, rfl, rfl⟩
  · refine xp_virtE (i := 0) (u := 10) hB (by decide) rfl rfl (Nat.le_of_ble_eq_true rfl) rfl hc rfl ?_
    refine xp_step rfl ?_
    refine xp_step rfl ?_
    exact xp_ret rfl ⟨fun v q => by cases q; rfl, rfl, rfl⟩
theorem xw_faultPosition (hB : xBok pre B) (hc : xRn K Z d 99 [.ref (B + 0)] (xHn pre B N C L g) r h2) (hr : r = .ok (some (.int c)) ∨ (∃ q, r = .error (3, q) ∧ c = (-1001))) : xRn K Z (d + 1) 228 [.ref (B + 0)] (xHn pre B N C L g) (.ok (some (.int c))) h2 := by
  refine xRp_eq (xRp_of (m := (yL_faultPosition, cL_faultPosition, 2, (some .int), [(0, 4, 5, 73)], [3], xcL_faultPosition)) rfl (by show 1 ≤ 2; decide) ?_)
  show xBp K Z d 2 _ xcL_faultPosition xcL_faultPosition [(0, .ref (B + 0))] [] _ _
  refine xp_step rfl ?_
  rcases hr with rfl | ⟨q, rfl, rfl⟩
  · refine xp_virt (i := 0) hB (by decide) rfl rfl (Nat.le_of_ble_eq_true rfl) rfl hc ?_
    exact xp_ret rfl ⟨fun v q => by cases q; rfl, rfl, rfl⟩
  · refine xp_virtE (i := 0) (u := 5) hB (by decide) rfl rfl (Nat.le_of_ble_eq_true rfl) rfl hc rfl ?_
    refine xp_step rfl ?_
    refine xp_step rfl ?_
    exact xp_ret rfl ⟨fun v q => by cases q; rfl, rfl, rfl⟩
theorem xw_write (hB : xBok pre B) {x1 : Int32} (hc : xRn K Z d 100 [.ref (B + 0), .int x1] (xHn pre B N C L g) r h2) (hr : r = .ok (some (.int c)) ∨ (∃ q, r = .error (0, q) ∧ c = (-1001))) : xRn K Z (d + 1) 229 [.ref (B + 0), .int x1] (xHn pre B N C L g) (.ok (some (.int c))) h2 := by
  refine xRp_eq (xRp_of (m := (yL_write, cL_write, 3, (some .int), [(0, 5, 6, 25)], [0], xcL_write)) rfl (by show 2 ≤ 3; decide) ?_)
  show xBp K Z d 3 _ xcL_write xcL_write [(0, .ref (B + 0)), (1, .int x1)] [] _ _
  refine xp_step rfl ?_
  refine xp_step rfl ?_
  rcases hr with rfl | ⟨q, rfl, rfl⟩
  · refine xp_virt (i := 0) hB (by decide) rfl rfl (Nat.le_of_ble_eq_true rfl) rfl hc ?_
    exact xp_ret rfl ⟨fun v q => by cases q; rfl, rfl, rfl⟩
  · refine xp_virtE (i := 0) (u := 6) hB (by decide) rfl rfl (Nat.le_of_ble_eq_true rfl) rfl hc rfl ?_
    refine xp_step rfl ?_
    refine xp_step rfl ?_
    exact xp_ret rfl ⟨fun v q => by cases q; rfl, rfl, rfl⟩
theorem xw_lineChar (hB : xBok pre B) {x1 : Int32} (hc : xRn K Z d 101 [.ref (B + 0), .int x1] (xHn pre B N C L g) r h2) (hr : r = .ok (some (.int c)) ∨ (∃ q, r = .error (0, q) ∧ c = (-1001))) : xRn K Z (d + 1) 230 [.ref (B + 0), .int x1] (xHn pre B N C L g) (.ok (some (.int c))) h2 := by
  refine xRp_eq (xRp_of (m := (yL_lineChar, cL_lineChar, 3, (some .int), [(0, 5, 6, 25)], [0], xcL_lineChar)) rfl (by show 2 ≤ 3; decide) ?_)
  show xBp K Z d 3 _ xcL_lineChar xcL_lineChar [(0, .ref (B + 0)), (1, .int x1)] [] _ _
  refine xp_step rfl ?_
  refine xp_step rfl ?_
  rcases hr with rfl | ⟨q, rfl, rfl⟩
  · refine xp_virt (i := 0) hB (by decide) rfl rfl (Nat.le_of_ble_eq_true rfl) rfl hc ?_
    exact xp_ret rfl ⟨fun v q => by cases q; rfl, rfl, rfl⟩
  · refine xp_virtE (i := 0) (u := 6) hB (by decide) rfl rfl (Nat.le_of_ble_eq_true rfl) rfl hc rfl ?_
    refine xp_step rfl ?_
    refine xp_step rfl ?_
    exact xp_ret rfl ⟨fun v q => by cases q; rfl, rfl, rfl⟩
theorem xw_denial (hB : xBok pre B) (hc : xRn K Z d 102 [.ref (B + 0)] (xHn pre B N C L g) r h2) (hr : r = .ok (some (.int c)) ∨ (∃ q, r = .error (3, q) ∧ c = (-1001))) : xRn K Z (d + 1) 231 [.ref (B + 0)] (xHn pre B N C L g) (.ok (some (.int c))) h2 := by
  refine xRp_eq (xRp_of (m := (yL_denial, cL_denial, 2, (some .int), [(0, 4, 5, 73)], [3], xcL_denial)) rfl (by show 1 ≤ 2; decide) ?_)
  show xBp K Z d 2 _ xcL_denial xcL_denial [(0, .ref (B + 0))] [] _ _
  refine xp_step rfl ?_
  rcases hr with rfl | ⟨q, rfl, rfl⟩
  · refine xp_virt (i := 0) hB (by decide) rfl rfl (Nat.le_of_ble_eq_true rfl) rfl hc ?_
    exact xp_ret rfl ⟨fun v q => by cases q; rfl, rfl, rfl⟩
  · refine xp_virtE (i := 0) (u := 5) hB (by decide) rfl rfl (Nat.le_of_ble_eq_true rfl) rfl hc rfl ?_
    refine xp_step rfl ?_
    refine xp_step rfl ?_
    exact xp_ret rfl ⟨fun v q => by cases q; rfl, rfl, rfl⟩
theorem xw_denialDetail (hB : xBok pre B) (hc : xRn K Z d 103 [.ref (B + 0)] (xHn pre B N C L g) r h2) (hr : r = .ok (some (.int c)) ∨ (∃ q, r = .error (3, q) ∧ c = (-1001))) : xRn K Z (d + 1) 232 [.ref (B + 0)] (xHn pre B N C L g) (.ok (some (.int c))) h2 := by
  refine xRp_eq (xRp_of (m := (yL_denialDetail, cL_denialDetail, 2, (some .int), [(0, 4, 5, 73)], [3], xcL_denialDetail)) rfl (by show 1 ≤ 2; decide) ?_)
  show xBp K Z d 2 _ xcL_denialDetail xcL_denialDetail [(0, .ref (B + 0))] [] _ _
  refine xp_step rfl ?_
  rcases hr with rfl | ⟨q, rfl, rfl⟩
  · refine xp_virt (i := 0) hB (by decide) rfl rfl (Nat.le_of_ble_eq_true rfl) rfl hc ?_
    exact xp_ret rfl ⟨fun v q => by cases q; rfl, rfl, rfl⟩
  · refine xp_virtE (i := 0) (u := 5) hB (by decide) rfl rfl (Nat.le_of_ble_eq_true rfl) rfl hc rfl ?_
    refine xp_step rfl ?_
    refine xp_step rfl ?_
    exact xp_ret rfl ⟨fun v q => by cases q; rfl, rfl, rfl⟩
theorem xw_denialCause (hB : xBok pre B) (hc : xRn K Z d 104 [.ref (B + 0)] (xHn pre B N C L g) r h2) (hr : r = .ok (some (.int c)) ∨ (∃ q, r = .error (3, q) ∧ c = (-1001))) : xRn K Z (d + 1) 233 [.ref (B + 0)] (xHn pre B N C L g) (.ok (some (.int c))) h2 := by
  refine xRp_eq (xRp_of (m := (yL_denialCause, cL_denialCause, 2, (some .int), [(0, 4, 5, 73)], [3], xcL_denialCause)) rfl (by show 1 ≤ 2; decide) ?_)
  show xBp K Z d 2 _ xcL_denialCause xcL_denialCause [(0, .ref (B + 0))] [] _ _
  refine xp_step rfl ?_
  rcases hr with rfl | ⟨q, rfl, rfl⟩
  · refine xp_virt (i := 0) hB (by decide) rfl rfl (Nat.le_of_ble_eq_true rfl) rfl hc ?_
    exact xp_ret rfl ⟨fun v q => by cases q; rfl, rfl, rfl⟩
  · refine xp_virtE (i := 0) (u := 5) hB (by decide) rfl rfl (Nat.le_of_ble_eq_true rfl) rfl hc rfl ?_
    refine xp_step rfl ?_
    refine xp_step rfl ?_
    exact xp_ret rfl ⟨fun v q => by cases q; rfl, rfl, rfl⟩
theorem xw_denialCauseDetail (hB : xBok pre B) (hc : xRn K Z d 105 [.ref (B + 0)] (xHn pre B N C L g) r h2) (hr : r = .ok (some (.int c)) ∨ (∃ q, r = .error (3, q) ∧ c = (-1001))) : xRn K Z (d + 1) 234 [.ref (B + 0)] (xHn pre B N C L g) (.ok (some (.int c))) h2 := by
  refine xRp_eq (xRp_of (m := (yL_denialCauseDetail, cL_denialCauseDetail, 2, (some .int), [(0, 4, 5, 73)], [3], xcL_denialCauseDetail)) rfl (by show 1 ≤ 2; decide) ?_)
  show xBp K Z d 2 _ xcL_denialCauseDetail xcL_denialCauseDetail [(0, .ref (B + 0))] [] _ _
  refine xp_step rfl ?_
  rcases hr with rfl | ⟨q, rfl, rfl⟩
  · refine xp_virt (i := 0) hB (by decide) rfl rfl (Nat.le_of_ble_eq_true rfl) rfl hc ?_
    exact xp_ret rfl ⟨fun v q => by cases q; rfl, rfl, rfl⟩
  · refine xp_virtE (i := 0) (u := 5) hB (by decide) rfl rfl (Nat.le_of_ble_eq_true rfl) rfl hc rfl ?_
    refine xp_step rfl ?_
    refine xp_step rfl ?_
    exact xp_ret rfl ⟨fun v q => by cases q; rfl, rfl, rfl⟩
theorem xw_undo (hB : xBok pre B) (hc : xRn K Z d 106 [.ref (B + 0)] (xHn pre B N C L g) r h2) (hr : r = .ok (some (.int c)) ∨ (∃ q, r = .error (4, q) ∧ c = (-1001))) : xRn K Z (d + 1) 235 [.ref (B + 0)] (xHn pre B N C L g) (.ok (some (.int c))) h2 := by
  refine xRp_eq (xRp_of (m := (yL_undo, cL_undo, 2, (some .int), [(0, 4, 5, 119)], [4], xcL_undo)) rfl (by show 1 ≤ 2; decide) ?_)
  show xBp K Z d 2 _ xcL_undo xcL_undo [(0, .ref (B + 0))] [] _ _
  refine xp_step rfl ?_
  rcases hr with rfl | ⟨q, rfl, rfl⟩
  · refine xp_virt (i := 0) hB (by decide) rfl rfl (Nat.le_of_ble_eq_true rfl) rfl hc ?_
    exact xp_ret rfl ⟨fun v q => by cases q; rfl, rfl, rfl⟩
  · refine xp_virtE (i := 0) (u := 5) hB (by decide) rfl rfl (Nat.le_of_ble_eq_true rfl) rfl hc rfl ?_
    refine xp_step rfl ?_
    refine xp_step rfl ?_
    exact xp_ret rfl ⟨fun v q => by cases q; rfl, rfl, rfl⟩
theorem xw_restore (hB : xBok pre B) (hc : xRn K Z d 109 [.ref (B + 0)] (xHn pre B N C L g) r h2) (hr : r = .ok (some (.int c)) ∨ (∃ q, r = .error (4, q) ∧ c = (-1001))) : xRn K Z (d + 1) 236 [.ref (B + 0)] (xHn pre B N C L g) (.ok (some (.int c))) h2 := by
  refine xRp_eq (xRp_of (m := (yL_restore, cL_restore, 2, (some .int), [(0, 4, 5, 119)], [4], xcL_restore)) rfl (by show 1 ≤ 2; decide) ?_)
  show xBp K Z d 2 _ xcL_restore xcL_restore [(0, .ref (B + 0))] [] _ _
  refine xp_step rfl ?_
  rcases hr with rfl | ⟨q, rfl, rfl⟩
  · refine xp_virt (i := 0) hB (by decide) rfl rfl (Nat.le_of_ble_eq_true rfl) rfl hc ?_
    exact xp_ret rfl ⟨fun v q => by cases q; rfl, rfl, rfl⟩
  · refine xp_virtE (i := 0) (u := 5) hB (by decide) rfl rfl (Nat.le_of_ble_eq_true rfl) rfl hc rfl ?_
    refine xp_step rfl ?_
    refine xp_step rfl ?_
    exact xp_ret rfl ⟨fun v q => by cases q; rfl, rfl, rfl⟩
theorem xw_meanLevel (hB : xBok pre B) {u : UInt64} (hc : xRn K Z d 95 [.ref (B + 0)] (xHn pre B N C L g) r h2) (hr : r = .ok (some (.double u)) ∨ (∃ q, r = .error (5, q) ∧ u = UInt64.ofNat 13875388141788987392)) : xRn K Z (d + 1) 224 [.ref (B + 0)] (xHn pre B N C L g) (.ok (some (.double u))) h2 := by
  refine xRp_eq (xRp_of (m := (yL_meanLevel, cL_meanLevel, 2, (some .double), [(0, 4, 5, 106)], [5], xcL_meanLevel)) rfl (by show 1 ≤ 2; decide) ?_)
  show xBp K Z d 2 _ xcL_meanLevel xcL_meanLevel [(0, .ref (B + 0))] [] _ _
  refine xp_step rfl ?_
  rcases hr with rfl | ⟨q, rfl, rfl⟩
  · refine xp_virt (i := 0) hB (by decide) rfl rfl (Nat.le_of_ble_eq_true rfl) rfl hc ?_
    exact xp_ret rfl ⟨fun v q => by cases q; rfl, rfl, rfl⟩
  · refine xp_virtE (i := 0) (u := 5) hB (by decide) rfl rfl (Nat.le_of_ble_eq_true rfl) rfl hc rfl ?_
    refine xp_step rfl ?_
    refine xp_step rfl ?_
    exact xp_ret rfl ⟨fun v q => by cases q; rfl, rfl, rfl⟩
theorem xw_floodedShare (hB : xBok pre B) {u : UInt32} (hc : xRn K Z d 96 [.ref (B + 0)] (xHn pre B N C L g) r h2) (hr : r = .ok (some (.float u)) ∨ (∃ q, r = .error (5, q) ∧ u = UInt32.ofNat 3296346112)) : xRn K Z (d + 1) 225 [.ref (B + 0)] (xHn pre B N C L g) (.ok (some (.float u))) h2 := by
  refine xRp_eq (xRp_of (m := (yL_floodedShare, cL_floodedShare, 2, (some .float), [(0, 4, 5, 106)], [5], xcL_floodedShare)) rfl (by show 1 ≤ 2; decide) ?_)
  show xBp K Z d 2 _ xcL_floodedShare xcL_floodedShare [(0, .ref (B + 0))] [] _ _
  refine xp_step rfl ?_
  rcases hr with rfl | ⟨q, rfl, rfl⟩
  · refine xp_virt (i := 0) hB (by decide) rfl rfl (Nat.le_of_ble_eq_true rfl) rfl hc ?_
    exact xp_ret rfl ⟨fun v q => by cases q; rfl, rfl, rfl⟩
  · refine xp_virtE (i := 0) (u := 5) hB (by decide) rfl rfl (Nat.le_of_ble_eq_true rfl) rfl hc rfl ?_
    refine xp_step rfl ?_
    refine xp_step rfl ?_
    exact xp_ret rfl ⟨fun v q => by cases q; rfl, rfl, rfl⟩
end XWP
