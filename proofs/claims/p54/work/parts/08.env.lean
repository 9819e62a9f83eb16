/-! THE WORDS, THE CONSTANTS, AND WHAT AN INSTRUCTION'S ENTRY MUST NAME -/
def xNg : Cond → Bool
  | .methodLinkNest .. => true
  | .fieldLinkNest .. => true
  | .declares _ => true
  | .castable .. => true
  | _ => false
/-- a word of the tables alone that warming keeps -/
def xgd (w : Cond) : Bool := (w.onTables && w.keeps) || xNg w
theorem xgd_tab {w : Cond} (h : xgd w = true) : w.onTables = true := by
  unfold xgd at h
  rcases Bool.or_eq_true _ _ |>.mp h with h | h
  · exact (Bool.and_eq_true _ _ |>.mp h).1
  · cases w <;> first | rfl | cases h
theorem xgd_warm {w : Cond} {s U : State} (hW : s.WarmedH U.vm) (h : xgd w = true) (hz : va_Nw w s) : va_Nw w U := by
  unfold xgd at h
  rcases Bool.or_eq_true _ _ |>.mp h with h | h
  · exact word_at hW (Or.inl h) hz
  · cases w <;> first | exact va_Nw.warmM hW hz | exact va_Nw.warmF hW hz | exact va_Nw.warmD hW hz | exact va_Nw.warmC hW hz | cases h
def xSelW : List Cond := xSel.map fun x => Cond.selects "java/lang/StringBuilder" x x
/-- the words, in pieces of 16 -/
def xT0 : List Cond := lw_tbl
def xT1 : List Cond := xT0.drop 16
def xT2 : List Cond := xT1.drop 16
def xT3 : List Cond := xT2.drop 16
def xT4 : List Cond := xT3.drop 16
def xT5 : List Cond := xT4.drop 16
def xT6 : List Cond := xT5.drop 16
def xT7 : List Cond := xT6.drop 16
def xT8 : List Cond := xT7.drop 16
def xT9 : List Cond := xT8.drop 16
def xT10 : List Cond := xT9.drop 16
def xT11 : List Cond := xT10.drop 16
def xT12 : List Cond := xT11.drop 16
def xT13 : List Cond := xT12.drop 16
def xT14 : List Cond := xT13.drop 16
def xT15 : List Cond := xT14.drop 16
def xT16 : List Cond := xT15.drop 16
def xT17 : List Cond := xT16.drop 16
def xT18 : List Cond := xT17.drop 16
def xT19 : List Cond := xT18.drop 16
def xT20 : List Cond := xT19.drop 16
def xT21 : List Cond := xT20.drop 16
def xT22 : List Cond := xT21.drop 16
def xT23 : List Cond := xT22.drop 16
def xT24 : List Cond := xT23.drop 16
def xT25 : List Cond := xT24.drop 16
def xT26 : List Cond := xT25.drop 16
def xT27 : List Cond := xT26.drop 16
def xT28 : List Cond := xT27.drop 16
def xT29 : List Cond := xT28.drop 16
def xT30 : List Cond := xT29.drop 16
def xT31 : List Cond := xT30.drop 16
def xT32 : List Cond := xT31.drop 16
def xT33 : List Cond := xT32.drop 16
def xT34 : List Cond := xT33.drop 16
def xT35 : List Cond := xT34.drop 16
def xT36 : List Cond := xT35.drop 16
def xT37 : List Cond := xT36.drop 16
def xT38 : List Cond := xT37.drop 16
def xT39 : List Cond := xT38.drop 16
def xT40 : List Cond := xT39.drop 16
def xT41 : List Cond := xT40.drop 16
def xT42 : List Cond := xT41.drop 16
def xT43 : List Cond := xT42.drop 16
def xT44 : List Cond := xT43.drop 16
def xT45 : List Cond := xT44.drop 16
def xT46 : List Cond := xT45.drop 16
def xT47 : List Cond := xT46.drop 16
def xT48 : List Cond := xT47.drop 16
def xT49 : List Cond := xT48.drop 16
def xT50 : List Cond := xT49.drop 16
def xT51 : List Cond := xT50.drop 16
def xT52 : List Cond := xT51.drop 16
def xT53 : List Cond := xT52.drop 16
def xT54 : List Cond := xT53.drop 16
def xT55 : List Cond := xT54.drop 16
def xT56 : List Cond := xT55.drop 16
def xT57 : List Cond := xT56.drop 16
def xT58 : List Cond := xT57.drop 16
def xT59 : List Cond := xT58.drop 16
def xT60 : List Cond := xT59.drop 16
def xT61 : List Cond := xT60.drop 16
def xT62 : List Cond := xT61.drop 16
def xT63 : List Cond := xT62.drop 16
def xT64 : List Cond := xT63.drop 16
def xT65 : List Cond := xT64.drop 16
def xT66 : List Cond := xT65.drop 16
def xT67 : List Cond := xT66.drop 16
def xT68 : List Cond := xT67.drop 16
def xT69 : List Cond := xT68.drop 16
def xT70 : List Cond := xT69.drop 16
def xT71 : List Cond := xT70.drop 16
def xT72 : List Cond := xT71.drop 16
def xT73 : List Cond := xT72.drop 16
def xT74 : List Cond := xT73.drop 16
def xT75 : List Cond := xT74.drop 16
def xT76 : List Cond := xT75.drop 16
def xT77 : List Cond := xT76.drop 16
def xT78 : List Cond := xT77.drop 16
def xT79 : List Cond := xT78.drop 16
def xT80 : List Cond := xT79.drop 16
def xT81 : List Cond := xT80.drop 16
def xT82 : List Cond := xT81.drop 16
def xT83 : List Cond := xT82.drop 16
def xT84 : List Cond := xT83.drop 16
def xT85 : List Cond := xT84.drop 16
def xT86 : List Cond := xT85.drop 16
def xT87 : List Cond := xT86.drop 16
def xT88 : List Cond := xT87.drop 16
def xT89 : List Cond := xT88.drop 16
def xT90 : List Cond := xT89.drop 16
def xT91 : List Cond := xT90.drop 16
def xT92 : List Cond := xT91.drop 16
def xT93 : List Cond := xT92.drop 16
def xT94 : List Cond := xT93.drop 16
def xT95 : List Cond := xT94.drop 16
def xUs : List (List (List Cond)) := [[xT0, xT1, xT2, xT3, xT4, xT5, xT6, xT7, xT8, xT9, xT10, xT11, xT12, xT13, xT14, xT15], [xT16, xT17, xT18, xT19, xT20, xT21, xT22, xT23, xT24, xT25, xT26, xT27, xT28, xT29, xT30, xT31], [xT32, xT33, xT34, xT35, xT36, xT37, xT38, xT39, xT40, xT41, xT42, xT43, xT44, xT45, xT46, xT47], [xT48, xT49, xT50, xT51, xT52, xT53, xT54, xT55, xT56, xT57, xT58, xT59, xT60, xT61, xT62, xT63], [xT64, xT65, xT66, xT67, xT68, xT69, xT70, xT71, xT72, xT73, xT74, xT75, xT76, xT77, xT78, xT79], [xT80, xT81, xT82, xT83, xT84, xT85, xT86, xT87, xT88, xT89, xT90, xT91, xT92, xT93, xT94, xT95]]
theorem xT0_in : ∀ w ∈ xT0, w ∈ lw_tbl := fun _ h => h
theorem xT1_in : ∀ w ∈ xT1, w ∈ lw_tbl := fun w h => xT0_in w (List.mem_of_mem_drop h)
theorem xT2_in : ∀ w ∈ xT2, w ∈ lw_tbl := fun w h => xT1_in w (List.mem_of_mem_drop h)
theorem xT3_in : ∀ w ∈ xT3, w ∈ lw_tbl := fun w h => xT2_in w (List.mem_of_mem_drop h)
theorem xT4_in : ∀ w ∈ xT4, w ∈ lw_tbl := fun w h => xT3_in w (List.mem_of_mem_drop h)
theorem xT5_in : ∀ w ∈ xT5, w ∈ lw_tbl := fun w h => xT4_in w (List.mem_of_mem_drop h)
theorem xT6_in : ∀ w ∈ xT6, w ∈ lw_tbl := fun w h => xT5_in w (List.mem_of_mem_drop h)
theorem xT7_in : ∀ w ∈ xT7, w ∈ lw_tbl := fun w h => xT6_in w (List.mem_of_mem_drop h)
theorem xT8_in : ∀ w ∈ xT8, w ∈ lw_tbl := fun w h => xT7_in w (List.mem_of_mem_drop h)
theorem xT9_in : ∀ w ∈ xT9, w ∈ lw_tbl := fun w h => xT8_in w (List.mem_of_mem_drop h)
theorem xT10_in : ∀ w ∈ xT10, w ∈ lw_tbl := fun w h => xT9_in w (List.mem_of_mem_drop h)
theorem xT11_in : ∀ w ∈ xT11, w ∈ lw_tbl := fun w h => xT10_in w (List.mem_of_mem_drop h)
theorem xT12_in : ∀ w ∈ xT12, w ∈ lw_tbl := fun w h => xT11_in w (List.mem_of_mem_drop h)
theorem xT13_in : ∀ w ∈ xT13, w ∈ lw_tbl := fun w h => xT12_in w (List.mem_of_mem_drop h)
theorem xT14_in : ∀ w ∈ xT14, w ∈ lw_tbl := fun w h => xT13_in w (List.mem_of_mem_drop h)
theorem xT15_in : ∀ w ∈ xT15, w ∈ lw_tbl := fun w h => xT14_in w (List.mem_of_mem_drop h)
theorem xT16_in : ∀ w ∈ xT16, w ∈ lw_tbl := fun w h => xT15_in w (List.mem_of_mem_drop h)
theorem xT17_in : ∀ w ∈ xT17, w ∈ lw_tbl := fun w h => xT16_in w (List.mem_of_mem_drop h)
theorem xT18_in : ∀ w ∈ xT18, w ∈ lw_tbl := fun w h => xT17_in w (List.mem_of_mem_drop h)
theorem xT19_in : ∀ w ∈ xT19, w ∈ lw_tbl := fun w h => xT18_in w (List.mem_of_mem_drop h)
theorem xT20_in : ∀ w ∈ xT20, w ∈ lw_tbl := fun w h => xT19_in w (List.mem_of_mem_drop h)
theorem xT21_in : ∀ w ∈ xT21, w ∈ lw_tbl := fun w h => xT20_in w (List.mem_of_mem_drop h)
theorem xT22_in : ∀ w ∈ xT22, w ∈ lw_tbl := fun w h => xT21_in w (List.mem_of_mem_drop h)
theorem xT23_in : ∀ w ∈ xT23, w ∈ lw_tbl := fun w h => xT22_in w (List.mem_of_mem_drop h)
theorem xT24_in : ∀ w ∈ xT24, w ∈ lw_tbl := fun w h => xT23_in w (List.mem_of_mem_drop h)
theorem xT25_in : ∀ w ∈ xT25, w ∈ lw_tbl := fun w h => xT24_in w (List.mem_of_mem_drop h)
theorem xT26_in : ∀ w ∈ xT26, w ∈ lw_tbl := fun w h => xT25_in w (List.mem_of_mem_drop h)
theorem xT27_in : ∀ w ∈ xT27, w ∈ lw_tbl := fun w h => xT26_in w (List.mem_of_mem_drop h)
theorem xT28_in : ∀ w ∈ xT28, w ∈ lw_tbl := fun w h => xT27_in w (List.mem_of_mem_drop h)
theorem xT29_in : ∀ w ∈ xT29, w ∈ lw_tbl := fun w h => xT28_in w (List.mem_of_mem_drop h)
theorem xT30_in : ∀ w ∈ xT30, w ∈ lw_tbl := fun w h => xT29_in w (List.mem_of_mem_drop h)
theorem xT31_in : ∀ w ∈ xT31, w ∈ lw_tbl := fun w h => xT30_in w (List.mem_of_mem_drop h)
theorem xT32_in : ∀ w ∈ xT32, w ∈ lw_tbl := fun w h => xT31_in w (List.mem_of_mem_drop h)
theorem xT33_in : ∀ w ∈ xT33, w ∈ lw_tbl := fun w h => xT32_in w (List.mem_of_mem_drop h)
theorem xT34_in : ∀ w ∈ xT34, w ∈ lw_tbl := fun w h => xT33_in w (List.mem_of_mem_drop h)
theorem xT35_in : ∀ w ∈ xT35, w ∈ lw_tbl := fun w h => xT34_in w (List.mem_of_mem_drop h)
theorem xT36_in : ∀ w ∈ xT36, w ∈ lw_tbl := fun w h => xT35_in w (List.mem_of_mem_drop h)
theorem xT37_in : ∀ w ∈ xT37, w ∈ lw_tbl := fun w h => xT36_in w (List.mem_of_mem_drop h)
theorem xT38_in : ∀ w ∈ xT38, w ∈ lw_tbl := fun w h => xT37_in w (List.mem_of_mem_drop h)
theorem xT39_in : ∀ w ∈ xT39, w ∈ lw_tbl := fun w h => xT38_in w (List.mem_of_mem_drop h)
theorem xT40_in : ∀ w ∈ xT40, w ∈ lw_tbl := fun w h => xT39_in w (List.mem_of_mem_drop h)
theorem xT41_in : ∀ w ∈ xT41, w ∈ lw_tbl := fun w h => xT40_in w (List.mem_of_mem_drop h)
theorem xT42_in : ∀ w ∈ xT42, w ∈ lw_tbl := fun w h => xT41_in w (List.mem_of_mem_drop h)
theorem xT43_in : ∀ w ∈ xT43, w ∈ lw_tbl := fun w h => xT42_in w (List.mem_of_mem_drop h)
theorem xT44_in : ∀ w ∈ xT44, w ∈ lw_tbl := fun w h => xT43_in w (List.mem_of_mem_drop h)
theorem xT45_in : ∀ w ∈ xT45, w ∈ lw_tbl := fun w h => xT44_in w (List.mem_of_mem_drop h)
theorem xT46_in : ∀ w ∈ xT46, w ∈ lw_tbl := fun w h => xT45_in w (List.mem_of_mem_drop h)
theorem xT47_in : ∀ w ∈ xT47, w ∈ lw_tbl := fun w h => xT46_in w (List.mem_of_mem_drop h)
theorem xT48_in : ∀ w ∈ xT48, w ∈ lw_tbl := fun w h => xT47_in w (List.mem_of_mem_drop h)
theorem xT49_in : ∀ w ∈ xT49, w ∈ lw_tbl := fun w h => xT48_in w (List.mem_of_mem_drop h)
theorem xT50_in : ∀ w ∈ xT50, w ∈ lw_tbl := fun w h => xT49_in w (List.mem_of_mem_drop h)
theorem xT51_in : ∀ w ∈ xT51, w ∈ lw_tbl := fun w h => xT50_in w (List.mem_of_mem_drop h)
theorem xT52_in : ∀ w ∈ xT52, w ∈ lw_tbl := fun w h => xT51_in w (List.mem_of_mem_drop h)
theorem xT53_in : ∀ w ∈ xT53, w ∈ lw_tbl := fun w h => xT52_in w (List.mem_of_mem_drop h)
theorem xT54_in : ∀ w ∈ xT54, w ∈ lw_tbl := fun w h => xT53_in w (List.mem_of_mem_drop h)
theorem xT55_in : ∀ w ∈ xT55, w ∈ lw_tbl := fun w h => xT54_in w (List.mem_of_mem_drop h)
theorem xT56_in : ∀ w ∈ xT56, w ∈ lw_tbl := fun w h => xT55_in w (List.mem_of_mem_drop h)
theorem xT57_in : ∀ w ∈ xT57, w ∈ lw_tbl := fun w h => xT56_in w (List.mem_of_mem_drop h)
theorem xT58_in : ∀ w ∈ xT58, w ∈ lw_tbl := fun w h => xT57_in w (List.mem_of_mem_drop h)
theorem xT59_in : ∀ w ∈ xT59, w ∈ lw_tbl := fun w h => xT58_in w (List.mem_of_mem_drop h)
theorem xT60_in : ∀ w ∈ xT60, w ∈ lw_tbl := fun w h => xT59_in w (List.mem_of_mem_drop h)
theorem xT61_in : ∀ w ∈ xT61, w ∈ lw_tbl := fun w h => xT60_in w (List.mem_of_mem_drop h)
theorem xT62_in : ∀ w ∈ xT62, w ∈ lw_tbl := fun w h => xT61_in w (List.mem_of_mem_drop h)
theorem xT63_in : ∀ w ∈ xT63, w ∈ lw_tbl := fun w h => xT62_in w (List.mem_of_mem_drop h)
theorem xT64_in : ∀ w ∈ xT64, w ∈ lw_tbl := fun w h => xT63_in w (List.mem_of_mem_drop h)
theorem xT65_in : ∀ w ∈ xT65, w ∈ lw_tbl := fun w h => xT64_in w (List.mem_of_mem_drop h)
theorem xT66_in : ∀ w ∈ xT66, w ∈ lw_tbl := fun w h => xT65_in w (List.mem_of_mem_drop h)
theorem xT67_in : ∀ w ∈ xT67, w ∈ lw_tbl := fun w h => xT66_in w (List.mem_of_mem_drop h)
theorem xT68_in : ∀ w ∈ xT68, w ∈ lw_tbl := fun w h => xT67_in w (List.mem_of_mem_drop h)
theorem xT69_in : ∀ w ∈ xT69, w ∈ lw_tbl := fun w h => xT68_in w (List.mem_of_mem_drop h)
theorem xT70_in : ∀ w ∈ xT70, w ∈ lw_tbl := fun w h => xT69_in w (List.mem_of_mem_drop h)
theorem xT71_in : ∀ w ∈ xT71, w ∈ lw_tbl := fun w h => xT70_in w (List.mem_of_mem_drop h)
theorem xT72_in : ∀ w ∈ xT72, w ∈ lw_tbl := fun w h => xT71_in w (List.mem_of_mem_drop h)
theorem xT73_in : ∀ w ∈ xT73, w ∈ lw_tbl := fun w h => xT72_in w (List.mem_of_mem_drop h)
theorem xT74_in : ∀ w ∈ xT74, w ∈ lw_tbl := fun w h => xT73_in w (List.mem_of_mem_drop h)
theorem xT75_in : ∀ w ∈ xT75, w ∈ lw_tbl := fun w h => xT74_in w (List.mem_of_mem_drop h)
theorem xT76_in : ∀ w ∈ xT76, w ∈ lw_tbl := fun w h => xT75_in w (List.mem_of_mem_drop h)
theorem xT77_in : ∀ w ∈ xT77, w ∈ lw_tbl := fun w h => xT76_in w (List.mem_of_mem_drop h)
theorem xT78_in : ∀ w ∈ xT78, w ∈ lw_tbl := fun w h => xT77_in w (List.mem_of_mem_drop h)
theorem xT79_in : ∀ w ∈ xT79, w ∈ lw_tbl := fun w h => xT78_in w (List.mem_of_mem_drop h)
theorem xT80_in : ∀ w ∈ xT80, w ∈ lw_tbl := fun w h => xT79_in w (List.mem_of_mem_drop h)
theorem xT81_in : ∀ w ∈ xT81, w ∈ lw_tbl := fun w h => xT80_in w (List.mem_of_mem_drop h)
theorem xT82_in : ∀ w ∈ xT82, w ∈ lw_tbl := fun w h => xT81_in w (List.mem_of_mem_drop h)
theorem xT83_in : ∀ w ∈ xT83, w ∈ lw_tbl := fun w h => xT82_in w (List.mem_of_mem_drop h)
theorem xT84_in : ∀ w ∈ xT84, w ∈ lw_tbl := fun w h => xT83_in w (List.mem_of_mem_drop h)
theorem xT85_in : ∀ w ∈ xT85, w ∈ lw_tbl := fun w h => xT84_in w (List.mem_of_mem_drop h)
theorem xT86_in : ∀ w ∈ xT86, w ∈ lw_tbl := fun w h => xT85_in w (List.mem_of_mem_drop h)
theorem xT87_in : ∀ w ∈ xT87, w ∈ lw_tbl := fun w h => xT86_in w (List.mem_of_mem_drop h)
theorem xT88_in : ∀ w ∈ xT88, w ∈ lw_tbl := fun w h => xT87_in w (List.mem_of_mem_drop h)
theorem xT89_in : ∀ w ∈ xT89, w ∈ lw_tbl := fun w h => xT88_in w (List.mem_of_mem_drop h)
theorem xT90_in : ∀ w ∈ xT90, w ∈ lw_tbl := fun w h => xT89_in w (List.mem_of_mem_drop h)
theorem xT91_in : ∀ w ∈ xT91, w ∈ lw_tbl := fun w h => xT90_in w (List.mem_of_mem_drop h)
theorem xT92_in : ∀ w ∈ xT92, w ∈ lw_tbl := fun w h => xT91_in w (List.mem_of_mem_drop h)
theorem xT93_in : ∀ w ∈ xT93, w ∈ lw_tbl := fun w h => xT92_in w (List.mem_of_mem_drop h)
theorem xT94_in : ∀ w ∈ xT94, w ∈ lw_tbl := fun w h => xT93_in w (List.mem_of_mem_drop h)
theorem xT95_in : ∀ w ∈ xT95, w ∈ lw_tbl := fun w h => xT94_in w (List.mem_of_mem_drop h)
theorem xU0_in : ∀ t ∈ ([xT0, xT1, xT2, xT3, xT4, xT5, xT6, xT7, xT8, xT9, xT10, xT11, xT12, xT13, xT14, xT15] : List (List Cond)), ∀ w ∈ t, w ∈ lw_tbl := List.forall_mem_cons.mpr ⟨xT0_in, List.forall_mem_cons.mpr ⟨xT1_in, List.forall_mem_cons.mpr ⟨xT2_in, List.forall_mem_cons.mpr ⟨xT3_in, List.forall_mem_cons.mpr ⟨xT4_in, List.forall_mem_cons.mpr ⟨xT5_in, List.forall_mem_cons.mpr ⟨xT6_in, List.forall_mem_cons.mpr ⟨xT7_in, List.forall_mem_cons.mpr ⟨xT8_in, List.forall_mem_cons.mpr ⟨xT9_in, List.forall_mem_cons.mpr ⟨xT10_in, List.forall_mem_cons.mpr ⟨xT11_in, List.forall_mem_cons.mpr ⟨xT12_in, List.forall_mem_cons.mpr ⟨xT13_in, List.forall_mem_cons.mpr ⟨xT14_in, List.forall_mem_cons.mpr ⟨xT15_in, fun _ h => absurd h List.not_mem_nil⟩⟩⟩⟩⟩⟩⟩⟩⟩⟩⟩⟩⟩⟩⟩⟩
theorem xU1_in : ∀ t ∈ ([xT16, xT17, xT18, xT19, xT20, xT21, xT22, xT23, xT24, xT25, xT26, xT27, xT28, xT29, xT30, xT31] : List (List Cond)), ∀ w ∈ t, w ∈ lw_tbl := List.forall_mem_cons.mpr ⟨xT16_in, List.forall_mem_cons.mpr ⟨xT17_in, List.forall_mem_cons.mpr ⟨xT18_in, List.forall_mem_cons.mpr ⟨xT19_in, List.forall_mem_cons.mpr ⟨xT20_in, List.forall_mem_cons.mpr ⟨xT21_in, List.forall_mem_cons.mpr ⟨xT22_in, List.forall_mem_cons.mpr ⟨xT23_in, List.forall_mem_cons.mpr ⟨xT24_in, List.forall_mem_cons.mpr ⟨xT25_in, List.forall_mem_cons.mpr ⟨xT26_in, List.forall_mem_cons.mpr ⟨xT27_in, List.forall_mem_cons.mpr ⟨xT28_in, List.forall_mem_cons.mpr ⟨xT29_in, List.forall_mem_cons.mpr ⟨xT30_in, List.forall_mem_cons.mpr ⟨xT31_in, fun _ h => absurd h List.not_mem_nil⟩⟩⟩⟩⟩⟩⟩⟩⟩⟩⟩⟩⟩⟩⟩⟩
theorem xU2_in : ∀ t ∈ ([xT32, xT33, xT34, xT35, xT36, xT37, xT38, xT39, xT40, xT41, xT42, xT43, xT44, xT45, xT46, xT47] : List (List Cond)), ∀ w ∈ t, w ∈ lw_tbl := List.forall_mem_cons.mpr ⟨xT32_in, List.forall_mem_cons.mpr ⟨xT33_in, List.forall_mem_cons.mpr ⟨xT34_in, List.forall_mem_cons.mpr ⟨xT35_in, List.forall_mem_cons.mpr ⟨xT36_in, List.forall_mem_cons.mpr ⟨xT37_in, List.forall_mem_cons.mpr ⟨xT38_in, List.forall_mem_cons.mpr ⟨xT39_in, List.forall_mem_cons.mpr ⟨xT40_in, List.forall_mem_cons.mpr ⟨xT41_in, List.forall_mem_cons.mpr ⟨xT42_in, List.forall_mem_cons.mpr ⟨xT43_in, List.forall_mem_cons.mpr ⟨xT44_in, List.forall_mem_cons.mpr ⟨xT45_in, List.forall_mem_cons.mpr ⟨xT46_in, List.forall_mem_cons.mpr ⟨xT47_in, fun _ h => absurd h List.not_mem_nil⟩⟩⟩⟩⟩⟩⟩⟩⟩⟩⟩⟩⟩⟩⟩⟩
theorem xU3_in : ∀ t ∈ ([xT48, xT49, xT50, xT51, xT52, xT53, xT54, xT55, xT56, xT57, xT58, xT59, xT60, xT61, xT62, xT63] : List (List Cond)), ∀ w ∈ t, w ∈ lw_tbl := List.forall_mem_cons.mpr ⟨xT48_in, List.forall_mem_cons.mpr ⟨xT49_in, List.forall_mem_cons.mpr ⟨xT50_in, List.forall_mem_cons.mpr ⟨xT51_in, List.forall_mem_cons.mpr ⟨xT52_in, List.forall_mem_cons.mpr ⟨xT53_in, List.forall_mem_cons.mpr ⟨xT54_in, List.forall_mem_cons.mpr ⟨xT55_in, List.forall_mem_cons.mpr ⟨xT56_in, List.forall_mem_cons.mpr ⟨xT57_in, List.forall_mem_cons.mpr ⟨xT58_in, List.forall_mem_cons.mpr ⟨xT59_in, List.forall_mem_cons.mpr ⟨xT60_in, List.forall_mem_cons.mpr ⟨xT61_in, List.forall_mem_cons.mpr ⟨xT62_in, List.forall_mem_cons.mpr ⟨xT63_in, fun _ h => absurd h List.not_mem_nil⟩⟩⟩⟩⟩⟩⟩⟩⟩⟩⟩⟩⟩⟩⟩⟩
theorem xU4_in : ∀ t ∈ ([xT64, xT65, xT66, xT67, xT68, xT69, xT70, xT71, xT72, xT73, xT74, xT75, xT76, xT77, xT78, xT79] : List (List Cond)), ∀ w ∈ t, w ∈ lw_tbl := List.forall_mem_cons.mpr ⟨xT64_in, List.forall_mem_cons.mpr ⟨xT65_in, List.forall_mem_cons.mpr ⟨xT66_in, List.forall_mem_cons.mpr ⟨xT67_in, List.forall_mem_cons.mpr ⟨xT68_in, List.forall_mem_cons.mpr ⟨xT69_in, List.forall_mem_cons.mpr ⟨xT70_in, List.forall_mem_cons.mpr ⟨xT71_in, List.forall_mem_cons.mpr ⟨xT72_in, List.forall_mem_cons.mpr ⟨xT73_in, List.forall_mem_cons.mpr ⟨xT74_in, List.forall_mem_cons.mpr ⟨xT75_in, List.forall_mem_cons.mpr ⟨xT76_in, List.forall_mem_cons.mpr ⟨xT77_in, List.forall_mem_cons.mpr ⟨xT78_in, List.forall_mem_cons.mpr ⟨xT79_in, fun _ h => absurd h List.not_mem_nil⟩⟩⟩⟩⟩⟩⟩⟩⟩⟩⟩⟩⟩⟩⟩⟩
theorem xU5_in : ∀ t ∈ ([xT80, xT81, xT82, xT83, xT84, xT85, xT86, xT87, xT88, xT89, xT90, xT91, xT92, xT93, xT94, xT95] : List (List Cond)), ∀ w ∈ t, w ∈ lw_tbl := List.forall_mem_cons.mpr ⟨xT80_in, List.forall_mem_cons.mpr ⟨xT81_in, List.forall_mem_cons.mpr ⟨xT82_in, List.forall_mem_cons.mpr ⟨xT83_in, List.forall_mem_cons.mpr ⟨xT84_in, List.forall_mem_cons.mpr ⟨xT85_in, List.forall_mem_cons.mpr ⟨xT86_in, List.forall_mem_cons.mpr ⟨xT87_in, List.forall_mem_cons.mpr ⟨xT88_in, List.forall_mem_cons.mpr ⟨xT89_in, List.forall_mem_cons.mpr ⟨xT90_in, List.forall_mem_cons.mpr ⟨xT91_in, List.forall_mem_cons.mpr ⟨xT92_in, List.forall_mem_cons.mpr ⟨xT93_in, List.forall_mem_cons.mpr ⟨xT94_in, List.forall_mem_cons.mpr ⟨xT95_in, fun _ h => absurd h List.not_mem_nil⟩⟩⟩⟩⟩⟩⟩⟩⟩⟩⟩⟩⟩⟩⟩⟩
theorem xUs_in : ∀ u ∈ xUs, ∀ t ∈ u, ∀ w ∈ t, w ∈ lw_tbl := List.forall_mem_cons.mpr ⟨xU0_in, List.forall_mem_cons.mpr ⟨xU1_in, List.forall_mem_cons.mpr ⟨xU2_in, List.forall_mem_cons.mpr ⟨xU3_in, List.forall_mem_cons.mpr ⟨xU4_in, List.forall_mem_cons.mpr ⟨xU5_in, fun _ h => absurd h List.not_mem_nil⟩⟩⟩⟩⟩⟩
/-- the word at the place k (from 5000 on: of the private methods of the builder's superclass) -/
def xWt (k : Nat) : Option Cond := match xUs[k / 256]? with
  | some u => match u[k / 16 % 16]? with
    | some t => t[k % 16]?
    | none => none
  | none => none
def xWd (k : Nat) : Option Cond := match decide (k < 5000) with
  | true => xWt k
  | false => xSelW[k - 5000]?
theorem xWt_in {k : Nat} {w : Cond} (h : xWt k = some w) : w ∈ lw_tbl := by
  unfold xWt at h
  split at h
  · rename_i u hu
    split at h
    · rename_i t ht
      exact xUs_in u (List.mem_of_getElem? hu) t (List.mem_of_getElem? ht) w (List.mem_of_getElem? h)
    · cases h
  · cases h
def xwd (k : Nat) (w : Cond) : Bool := decide (xWd k = some w) && xgd w
/-- the fields of constant objects -/
def xKF : Nat → Nat → Option (String × String × String)
  | 0, 0 => some ("java/lang/String", "value", "[B")
  | 0, 1 => some ("java/lang/String", "coder", "B")
  | 45, 0 => some ("RiverReaches$Kind", "word", "Ljava/lang/String;")
  | 45, 1 => some ("RiverReaches$Kind", "parameters", "Ljava/lang/String;")
  | 45, 2 => some ("java/lang/Enum", "ordinal", "I")
  | _, _ => none
def xKC : Nat → Option String
  | 0 => some "java/lang/String"
  | 45 => some "RiverReaches$Kind"
  | _ => none
def xCok (b0 : Nat) (ad : Nat → Nat) (s : State) (i k : Nat) (vs : List Value) : Prop :=
  (∀ (j : Nat) (o n d : String) (v : Value), xKF k j = some (o, n, d) → vs[j]? = some v → xknown v = true → va_OF o n d (xcV ad v) (ad (1000000 + i)) (fun q => b0 ≤ q) s s.heap) ∧
  (50 ≤ k → va_T (xTy (k - 50)) (ad (1000000 + i)) vs.length (fun j => xcV ad (vs.getD j .null)) (fun q => b0 ≤ q) s s.heap) ∧
  ∀ E, xKC k = some E → va_O E (ad (1000000 + i)) (fun q => b0 ≤ q) s s.heap
/-- WHAT HOLDS AT A METHOD'S START, besides the abstract heap -/
def xEnv (xs : List Int32) (z : Value) (b0 : Nat) (D : va_G) (tyC : Nat → ClassId) (ad : Nat → Nat) (s : State) : Prop :=
  (∀ w : Cond, (w ∈ lw_tbl ∨ w ∈ xSelW) → xgd w = true → va_Nw w s) ∧
  va_K D vwCl (xtys tyC) s ∧
  (∀ (j : Nat) (C n d : String) (v : Value), xZn[j]? = some (C, n, d) → (xZ z)[j]? = some v → va_Z C n d (xcV ad v) (fun q => b0 ≤ q) s s.heap) ∧
  (∀ (i k : Nat) (vs : List Value), (xK xs)[i]? = some (k, vs) → xCok b0 ad s i k vs) ∧
  (∀ (j : Nat) (own : String) (i : Nat) (tx : String), xSt[j]? = some (own, i, tx) → vk_R own i tx (ad (1000020 + 2 * j)) s) ∧
  (vx_Zq Bundle.tN "UNASSIGNED_STACK" Bundle.steD (fun q => b0 ≤ q) s s.heap ∧ vx_Zq Bundle.tN "SUPPRESSED_SENTINEL" Bundle.listD (fun q => b0 ≤ q) s s.heap) ∧
  (∀ (t : Nat) (C : String), 3 ≤ t → t ≤ 6 → xTy t = .object C → va_AO C s) ∧
  ((Cond.arrayClass .byte).before #[] s = true ∧ (Cond.arrayClass .char).before #[] s = true ∧ (Cond.arrayClass .long).before #[] s = true) ∧
  (∀ E F : String, E ∈ xEx → F ∈ xEx → E ≠ F → va_Nc E F s) ∧ b0 ≤ s.heap.size
theorem xenv_w {xs : List Int32} {z : Value} {b0 : Nat} {D : va_G} {tyC : Nat → ClassId} {ad : Nat → Nat} {s : State} (hE : xEnv xs z b0 D tyC ad s) {k : Nat} {w : Cond} (h : xwd k w = true) (args : Array Value) : w.before args s = true := by
  obtain ⟨h1, h2⟩ := Bool.and_eq_true _ _ |>.mp h
  have h1 := of_decide_eq_true h1
  refine va_Nw.use (xgd_tab h2) (hE.1 w ?_ h2)
  unfold xWd at h1
  split at h1
  · exact Or.inl (xWt_in h1)
  · exact Or.inr (List.mem_of_getElem? h1)
theorem xcls_words : vwCl.all (fun q => (u_ws q.1 q.2.1 q.2.2).all (fun w => decide (w ∈ lw_tbl) && xgd w)) = true := by decide +kernel
theorem xcls_w {xs : List Int32} {z : Value} {b0 : Nat} {D : va_G} {tyC : Nat → ClassId} {ad : Nat → Nat} {s : State} (hE : xEnv xs z b0 D tyC ad s) {ci : Nat} {C : String} {T : u_T} {N : Nat} (hc : vwCl[ci]? = some (C, T, N)) (args : Array Value) : ∀ w ∈ u_ws C T N, w.before args s = true := by
  intro w hw
  have h1 := List.all_eq_true.mp (List.all_eq_true.mp xcls_words _ (List.mem_of_getElem? hc)) w hw
  obtain ⟨h1, h2⟩ := Bool.and_eq_true _ _ |>.mp h1
  exact va_Nw.use (xgd_tab h2) (hE.1 w (Or.inl (of_decide_eq_true h1)) h2)
/-- the types of the fields, and that no two fields of a class share a name -/
theorem xcls_ty0 : vwCl.zipIdx.all (fun x => (List.range x.1.2.2).all (fun k => decide (parseFieldDescriptor (x.1.2.1 k).2.2.1 = some (xFt x.2 k)))) = true := by decide +kernel
theorem xcls_ty {ci : Nat} {C : String} {T : u_T} {N : Nat} (h : vwCl[ci]? = some (C, T, N)) : ∀ k, k < N → parseFieldDescriptor (T k).2.2.1 = some (xFt ci k) := fun k hk =>
  of_decide_eq_true (List.all_eq_true.mp (List.all_eq_true.mp xcls_ty0 ((C, T, N), ci) (List.mem_zipIdx_iff_getElem?.mpr h)) k (List.mem_range.mpr hk))
theorem xcls_nm0 : vwCl.all (fun q => (List.range q.2.2).all (fun a => (List.range q.2.2).all (fun b => decide (a = b) || decide ((q.2.1 a).2.1 ≠ (q.2.1 b).2.1)))) = true := by decide +kernel
theorem xcls_nm {ci : Nat} {C : String} {T : u_T} {N : Nat} (h : vwCl[ci]? = some (C, T, N)) : ∀ a, a < N → ∀ b, b < N → a ≠ b → (T a).2.1 ≠ (T b).2.1 := by
  intro a ha b hb hab
  have h1 := List.all_eq_true.mp (List.all_eq_true.mp (List.all_eq_true.mp xcls_nm0 _ (List.mem_of_getElem? h)) a (List.mem_range.mpr ha)) b (List.mem_range.mpr hb)
  rcases Bool.or_eq_true _ _ |>.mp h1 with h1 | h1
  · exact absurd (of_decide_eq_true h1) hab
  · exact of_decide_eq_true h1
theorem xcls_lt {ci : Nat} {q : vw_C} (h : vwCl[ci]? = some q) : ci < 12 := (List.getElem?_eq_some_iff.mp h).1
/-- the lengths of the instructions -/
def xlen (i : Instr) (n : Nat) : Bool := match i with
  | .tableswitch .. => true
  | .bipush _ => n == 2
  | .newarray _ => n == 2
  | .ldc _ => n == 2
  | .iload _ => n == 2
  | .lload _ => n == 2
  | .aload _ => n == 2
  | .istore _ => n == 2
  | .astore _ => n == 2
  | .lstore _ => n == 2
  | .sipush _ => n == 3
  | .goto _ => n == 3
  | .ifCond .. => n == 3
  | .if_icmp .. => n == 3
  | .ifnonnull _ => n == 3
  | .ifnull _ => n == 3
  | .getfield _ => n == 3
  | .putfield _ => n == 3
  | .getstatic _ => n == 3
  | .invokevirtual _ => n == 3
  | .invokestatic _ => n == 3
  | .invokespecial _ => n == 3
  | .new _ => n == 3
  | .anewarray _ => n == 3
  | .checkcast _ => n == 3
  | .iinc .. => n == 3
  | .ldc_w _ => n == 3
  | .ldc2_w _ => n == 3
  | _ => n == 1
def xbfld (own : String) (i : Nat) (aux : List Nat) : Bool := match aux with
  | ci :: k :: I :: _ => match decide (ci = 45) with
    | true => match xKF 45 k with
      | some (o, n, d) => xwd I (.fieldLink own i o n d)
      | none => false
    | false => match vwCl[ci]? with
      | some (_, T, N) => decide (k < N) && (xwd I (.fieldLink own i (T k).1 (T k).2.1 (T k).2.2.1) && (decide (ci ≠ 0) || decide (k < 2)))
      | none => false
  | [] => true
  | _ => false
def xbput (y : MethodName) (i : Nat) (aux : List Nat) : Bool := match aux with
  | ci :: k :: I :: _ => match vwCl[ci]? with
    | some (_, T, N) => decide (k < N) && (xwd I (.fieldLink y.cls i (T k).1 (T k).2.1 (T k).2.2.1) && (!(T k).2.2.2 || (decide (y.name = "<init>") && decide ((T k).1 = y.cls))))
    | none => false
  | [] => true
  | _ => false
def xbsta (own : String) (i : Nat) (aux : List Nat) : Bool := match aux with
  | j :: I :: nest :: _ => match xZn[j]? with
    | some (C, n, d) => match decide (nest = 0) with
      | true => xwd I (.fieldLink own i C n d)
      | false => xwd I (.fieldLinkNest own i C n d "RiverReaches")
    | none => false
  | [] => true
  | _ => false
def xbnew (own : String) (i : Nat) (aux : List Nat) : Bool := match aux with
  | 0 :: ci :: I :: I2 :: I3 :: _ => match vwCl[ci]? with
    | some (C, _, N) => xwd I (.classLink own i C) && (xwd I2 (.instantiable C N) && (xwd I3 (.initialized C) && (decide ((xnew0 ci).length = N) && decide (ci ≠ 2) && decide (ci ≠ 3))))
    | none => false
  | 1 :: E :: I :: I2 :: ic :: _ => match xEx[E]? with
    | some X => xwd I (.classLink own i X) && (xwd I2 (.initialized X) && decide (ic < 100000))
    | none => false
  | [] => true
  | _ => false
def xbarr (own : String) (i : Nat) (aux : List Nat) : Bool := match aux with
  | t :: I :: _ => decide (3 ≤ t) && (decide (t ≤ 6) && match xTy t with
    | .object C => xwd I (.classLink own i C)
    | _ => false)
  | [] => true
  | _ => false
def xbldc (own : String) (i : Nat) (aux : List Nat) : Bool := match aux with
  | 0 :: v :: I :: _ => xwd I (.constant own i (Int32.ofNat v))
  | 1 :: j :: _ => decide (20 ≤ j) && (decide (j % 2 = 0) && match xSt[(j - 20) / 2]? with
    | some (o, k, _) => decide (o = own) && decide (k = i)
    | none => false)
  | 2 :: v :: I :: _ => xwd I (.constantFloat own i (UInt32.ofNat v))
  | [] => true
  | _ => false
def xbld2 (own : String) (i : Nat) (aux : List Nat) : Bool := match aux with
  | 0 :: v :: I :: _ => xwd I (.constantLong own i (Int64.ofNat v))
  | 1 :: v :: I :: _ => xwd I (.constantDouble own i (UInt64.ofNat v))
  | [] => true
  | _ => false
theorem xbfld_spec {own : String} {i ci k : Nat} {r : List Nat} (hk : xbfld own i (ci :: k :: r) = true) : (ci = 45 ∧ ∃ I o n d, xKF 45 k = some (o, n, d) ∧ xwd I (.fieldLink own i o n d) = true) ∨ ∃ I C T N, vwCl[ci]? = some (C, T, N) ∧ k < N ∧ xwd I (.fieldLink own i (T k).1 (T k).2.1 (T k).2.2.1) = true ∧ (ci ≠ 0 ∨ k < 2) := by
  unfold xbfld at hk
  cases r with
  | nil => cases hk
  | cons I r =>
    dsimp only at hk
    split at hk
    · rename_i h45
      split at hk
      · rename_i o n d hf
        exact Or.inl ⟨of_decide_eq_true h45, I, o, n, d, hf, hk⟩
      · cases hk
    · split at hk
      · rename_i C T N hc
        simp only [Bool.and_eq_true, Bool.or_eq_true, decide_eq_true_eq] at hk
        exact Or.inr ⟨I, C, T, N, hc, hk.1, hk.2.1, hk.2.2⟩
      · cases hk
theorem xbput_spec {y : MethodName} {i ci k : Nat} {r : List Nat} (hk : xbput y i (ci :: k :: r) = true) : ∃ I C T N, vwCl[ci]? = some (C, T, N) ∧ k < N ∧ xwd I (.fieldLink y.cls i (T k).1 (T k).2.1 (T k).2.2.1) = true ∧ ((T k).2.2.2 = false ∨ ((T k).2.2.2 = true ∧ y.name = "<init>" ∧ (T k).1 = y.cls)) := by
  unfold xbput at hk
  cases r with
  | nil => cases hk
  | cons I r =>
    dsimp only at hk
    split at hk
    · rename_i C T N hc
      simp only [Bool.and_eq_true, Bool.or_eq_true, decide_eq_true_eq, Bool.not_eq_true'] at hk
      refine ⟨I, C, T, N, hc, hk.1, hk.2.1, ?_⟩
      rcases hk.2.2 with q | q
      · exact Or.inl q
      · cases hf : (T k).2.2.2 with
        | false => exact Or.inl rfl
        | true => exact Or.inr ⟨rfl, q⟩
    · cases hk
theorem xK_kinds (xs : List Int32) : (xK xs).all (fun q => decide (q.1 = 0) || decide (40 ≤ q.1)) = true := rfl
theorem xK_kind {xs : List Int32} {i k : Nat} {vs : List Value} (h : (xK xs)[i]? = some (k, vs)) : k = 0 ∨ 40 ≤ k := by
  have := List.all_eq_true.mp (xK_kinds xs) _ (List.mem_of_getElem? h)
  simpa using this
theorem xfit_fits {ty : FieldType} {v : Value} (h : xfit ty v = true) (ad : Nat → Nat) : fits ty (xcV ad v) = true := by
  unfold xfit at h
  split at h <;> first | rfl | (cases h; done) | (simp only [Bool.and_eq_true, Bool.or_eq_true, decide_eq_true_eq] at h; simp [xcV, fits, h])
