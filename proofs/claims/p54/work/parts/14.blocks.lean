/-! EVERY METHOD'S TABLE IS CHECKED, IN PIECES -/
theorem xall_split {α : Type} {l : List α} {f : α → Bool} (a n : Nat) (h1 : ((l.drop a).take n).all f = true) (h2 : (l.drop (a + n)).all f = true) : (l.drop a).all f = true := by
  rw [← List.drop_drop] at h2
  rw [← List.take_append_drop n (l.drop a), List.all_append, h1, h2]
  rfl
theorem xbm_0 : (((xMs.zip xPs).drop 0).take 9).all (fun q => xbm q.1 q.2) = true := by decide +kernel
theorem xbm_9 : (((xMs.zip xPs).drop 9).take 8).all (fun q => xbm q.1 q.2) = true := by decide +kernel
theorem xbm_17 : (((xMs.zip xPs).drop 17).take 4).all (fun q => xbm q.1 q.2) = true := by decide +kernel
theorem xbm_21 : (((xMs.zip xPs).drop 21).take 2).all (fun q => xbm q.1 q.2) = true := by decide +kernel
theorem xbm_23 : (((xMs.zip xPs).drop 23).take 3).all (fun q => xbm q.1 q.2) = true := by decide +kernel
theorem xbm_26 : (((xMs.zip xPs).drop 26).take 3).all (fun q => xbm q.1 q.2) = true := by decide +kernel
theorem xbm_29 : (((xMs.zip xPs).drop 29).take 3).all (fun q => xbm q.1 q.2) = true := by decide +kernel
theorem xbm_32 : (((xMs.zip xPs).drop 32).take 3).all (fun q => xbm q.1 q.2) = true := by decide +kernel
theorem xbm_35 : (((xMs.zip xPs).drop 35).take 1).all (fun q => xbm q.1 q.2) = true := by decide +kernel
theorem xbm_36 : (((xMs.zip xPs).drop 36).take 1).all (fun q => xbm q.1 q.2) = true := by decide +kernel
theorem xbm_37 : (((xMs.zip xPs).drop 37).take 3).all (fun q => xbm q.1 q.2) = true := by decide +kernel
theorem xbm_40 : (((xMs.zip xPs).drop 40).take 3).all (fun q => xbm q.1 q.2) = true := by decide +kernel
theorem xbm_43 : (((xMs.zip xPs).drop 43).take 3).all (fun q => xbm q.1 q.2) = true := by decide +kernel
theorem xbm_46 : (((xMs.zip xPs).drop 46).take 6).all (fun q => xbm q.1 q.2) = true := by decide +kernel
theorem xbm_52 : (((xMs.zip xPs).drop 52).take 2).all (fun q => xbm q.1 q.2) = true := by decide +kernel
theorem xbm_54 : (((xMs.zip xPs).drop 54).take 4).all (fun q => xbm q.1 q.2) = true := by decide +kernel
theorem xbm_58 : (((xMs.zip xPs).drop 58).take 3).all (fun q => xbm q.1 q.2) = true := by decide +kernel
theorem xbm_61 : (((xMs.zip xPs).drop 61).take 7).all (fun q => xbm q.1 q.2) = true := by decide +kernel
theorem xbm_68 : (((xMs.zip xPs).drop 68).take 11).all (fun q => xbm q.1 q.2) = true := by decide +kernel
theorem xbm_79 : (((xMs.zip xPs).drop 79).take 8).all (fun q => xbm q.1 q.2) = true := by decide +kernel
theorem xbm_87 : (((xMs.zip xPs).drop 87).take 5).all (fun q => xbm q.1 q.2) = true := by decide +kernel
theorem xbm_92 : (((xMs.zip xPs).drop 92).take 6).all (fun q => xbm q.1 q.2) = true := by decide +kernel
theorem xbm_98 : (((xMs.zip xPs).drop 98).take 2).all (fun q => xbm q.1 q.2) = true := by decide +kernel
theorem xbm_100 : (((xMs.zip xPs).drop 100).take 3).all (fun q => xbm q.1 q.2) = true := by decide +kernel
theorem xbm_103 : (((xMs.zip xPs).drop 103).take 7).all (fun q => xbm q.1 q.2) = true := by decide +kernel
theorem xbm_110 : (((xMs.zip xPs).drop 110).take 3).all (fun q => xbm q.1 q.2) = true := by decide +kernel
theorem xbm_113 : (((xMs.zip xPs).drop 113).take 8).all (fun q => xbm q.1 q.2) = true := by decide +kernel
theorem xbm_121 : (((xMs.zip xPs).drop 121).take 3).all (fun q => xbm q.1 q.2) = true := by decide +kernel
theorem xbm_124 : (((xMs.zip xPs).drop 124).take 3).all (fun q => xbm q.1 q.2) = true := by decide +kernel
theorem xbm_127 : (((xMs.zip xPs).drop 127).take 6).all (fun q => xbm q.1 q.2) = true := by decide +kernel
theorem xbm_133 : (((xMs.zip xPs).drop 133).take 7).all (fun q => xbm q.1 q.2) = true := by decide +kernel
theorem xbm_140 : (((xMs.zip xPs).drop 140).take 2).all (fun q => xbm q.1 q.2) = true := by decide +kernel
theorem xbm_142 : (((xMs.zip xPs).drop 142).take 6).all (fun q => xbm q.1 q.2) = true := by decide +kernel
theorem xbm_148 : (((xMs.zip xPs).drop 148).take 10).all (fun q => xbm q.1 q.2) = true := by decide +kernel
theorem xbm_158 : (((xMs.zip xPs).drop 158).take 11).all (fun q => xbm q.1 q.2) = true := by decide +kernel
theorem xbm_169 : (((xMs.zip xPs).drop 169).take 4).all (fun q => xbm q.1 q.2) = true := by decide +kernel
theorem xbm_173 : (((xMs.zip xPs).drop 173).take 5).all (fun q => xbm q.1 q.2) = true := by decide +kernel
theorem xbm_178 : (((xMs.zip xPs).drop 178).take 3).all (fun q => xbm q.1 q.2) = true := by decide +kernel
theorem xbm_181 : (((xMs.zip xPs).drop 181).take 4).all (fun q => xbm q.1 q.2) = true := by decide +kernel
theorem xbm_185 : (((xMs.zip xPs).drop 185).take 5).all (fun q => xbm q.1 q.2) = true := by decide +kernel
theorem xbm_190 : (((xMs.zip xPs).drop 190).take 5).all (fun q => xbm q.1 q.2) = true := by decide +kernel
theorem xbm_195 : (((xMs.zip xPs).drop 195).take 10).all (fun q => xbm q.1 q.2) = true := by decide +kernel
theorem xbm_205 : (((xMs.zip xPs).drop 205).take 11).all (fun q => xbm q.1 q.2) = true := by decide +kernel
theorem xbm_216 : (((xMs.zip xPs).drop 216).take 12).all (fun q => xbm q.1 q.2) = true := by decide +kernel
theorem xbm_228 : (((xMs.zip xPs).drop 228).take 11).all (fun q => xbm q.1 q.2) = true := by decide +kernel
theorem xbm_239 : (((xMs.zip xPs).drop 239).take 1).all (fun q => xbm q.1 q.2) = true := by decide +kernel
theorem xbm_240 : (((xMs.zip xPs).drop 240).take 1).all (fun q => xbm q.1 q.2) = true := by decide +kernel
theorem xbm_241 : (((xMs.zip xPs).drop 241).take 1).all (fun q => xbm q.1 q.2) = true := by decide +kernel
theorem xbm_242 : (((xMs.zip xPs).drop 242).take 1).all (fun q => xbm q.1 q.2) = true := by decide +kernel
def xM243 : xMi := (yL_thrown, cL_thrown, 8, (some .boolean), [], [], xcL_thrown)
theorem xbm_of {M : xMi} {P : List Nat} (h1 : xbm (M.1, M.2.1, M.2.2.1, M.2.2.2.1, M.2.2.2.2.1, M.2.2.2.2.2.1, [M.2.2.2.2.2.2.headD (0, .return_, 0, [])]) P = true) (h0 : xchain M.2.2.2.2.2.2 = true) (h3 : M.2.2.2.2.2.2.isEmpty = false) (h2 : M.2.2.2.2.2.2.all (xchk M.1 M.2.1 (!M.2.2.2.2.1.isEmpty)) = true) : xbm M P = true := by
  obtain ⟨y, c, n, r, hh, E, cs⟩ := M
  cases cs with
  | nil => cases h3
  | cons e cs =>
    unfold xbm at h1 ⊢
    simp only [Bool.and_eq_true] at h1 ⊢
    obtain ⟨a1, a2, a3, a4, a5, a6, a7, a8, a9⟩ := h1
    exact ⟨a1, a2, a3, a4, a5, h0, a7, a8, h2⟩
theorem xth_0 : ((xcL_thrown.drop 0).take 60).all (xchk yL_thrown cL_thrown false) = true := by decide +kernel
theorem xth_60 : ((xcL_thrown.drop 60).take 60).all (xchk yL_thrown cL_thrown false) = true := by decide +kernel
theorem xth_120 : ((xcL_thrown.drop 120).take 60).all (xchk yL_thrown cL_thrown false) = true := by decide +kernel
theorem xth_180 : ((xcL_thrown.drop 180).take 60).all (xchk yL_thrown cL_thrown false) = true := by decide +kernel
theorem xth_240 : ((xcL_thrown.drop 240).take 60).all (xchk yL_thrown cL_thrown false) = true := by decide +kernel
theorem xth_300 : ((xcL_thrown.drop 300).take 60).all (xchk yL_thrown cL_thrown false) = true := by decide +kernel
theorem xth_360 : ((xcL_thrown.drop 360).take 60).all (xchk yL_thrown cL_thrown false) = true := by decide +kernel
theorem xth_420 : ((xcL_thrown.drop 420).take 60).all (xchk yL_thrown cL_thrown false) = true := by decide +kernel
theorem xth_480 : ((xcL_thrown.drop 480).take 60).all (xchk yL_thrown cL_thrown false) = true := by decide +kernel
theorem xth_540 : ((xcL_thrown.drop 540).take 60).all (xchk yL_thrown cL_thrown false) = true := by decide +kernel
theorem xtz_600 : (xcL_thrown.drop 600).all (xchk yL_thrown cL_thrown false) = true := by decide +kernel
theorem xtz_540 : (xcL_thrown.drop 540).all (xchk yL_thrown cL_thrown false) = true := xall_split 540 60 xth_540 xtz_600
theorem xtz_480 : (xcL_thrown.drop 480).all (xchk yL_thrown cL_thrown false) = true := xall_split 480 60 xth_480 xtz_540
theorem xtz_420 : (xcL_thrown.drop 420).all (xchk yL_thrown cL_thrown false) = true := xall_split 420 60 xth_420 xtz_480
theorem xtz_360 : (xcL_thrown.drop 360).all (xchk yL_thrown cL_thrown false) = true := xall_split 360 60 xth_360 xtz_420
theorem xtz_300 : (xcL_thrown.drop 300).all (xchk yL_thrown cL_thrown false) = true := xall_split 300 60 xth_300 xtz_360
theorem xtz_240 : (xcL_thrown.drop 240).all (xchk yL_thrown cL_thrown false) = true := xall_split 240 60 xth_240 xtz_300
theorem xtz_180 : (xcL_thrown.drop 180).all (xchk yL_thrown cL_thrown false) = true := xall_split 180 60 xth_180 xtz_240
theorem xtz_120 : (xcL_thrown.drop 120).all (xchk yL_thrown cL_thrown false) = true := xall_split 120 60 xth_120 xtz_180
theorem xtz_60 : (xcL_thrown.drop 60).all (xchk yL_thrown cL_thrown false) = true := xall_split 60 60 xth_60 xtz_120
theorem xtz_0 : (xcL_thrown.drop 0).all (xchk yL_thrown cL_thrown false) = true := xall_split 0 60 xth_0 xtz_60
theorem xM243_c : xM243.2.2.2.2.2.2 = xcL_thrown := rfl
theorem xbm_243h : xM243.2.2.2.2.2.2.all (xchk xM243.1 xM243.2.1 (!xM243.2.2.2.2.1.isEmpty)) = true := by
  rw [xM243_c]
  have h := xtz_0
  rw [List.drop_zero] at h
  exact h
set_option maxHeartbeats 4000000 in
theorem xbm_243a : xbm xM243 [1407, 15, 0, 1406, 0] = true := by
  refine xbm_of ?_ ?_ ?_ xbm_243h
  · decide +kernel
  · decide +kernel
  · decide +kernel
theorem xbm_243z : ((xMs.zip xPs).drop 243).take 1 = [(xM243, [1407, 15, 0, 1406, 0])] := rfl
theorem xbm_243 : (((xMs.zip xPs).drop 243).take 1).all (fun q => xbm q.1 q.2) = true := by
  rw [xbm_243z, List.all_cons, xbm_243a]
  rfl
theorem xbz_244 : ((xMs.zip xPs).drop 244).all (fun q => xbm q.1 q.2) = true := by decide +kernel
theorem xbz_243 : ((xMs.zip xPs).drop 243).all (fun q => xbm q.1 q.2) = true := xall_split 243 1 xbm_243 xbz_244
theorem xbz_242 : ((xMs.zip xPs).drop 242).all (fun q => xbm q.1 q.2) = true := xall_split 242 1 xbm_242 xbz_243
theorem xbz_241 : ((xMs.zip xPs).drop 241).all (fun q => xbm q.1 q.2) = true := xall_split 241 1 xbm_241 xbz_242
theorem xbz_240 : ((xMs.zip xPs).drop 240).all (fun q => xbm q.1 q.2) = true := xall_split 240 1 xbm_240 xbz_241
theorem xbz_239 : ((xMs.zip xPs).drop 239).all (fun q => xbm q.1 q.2) = true := xall_split 239 1 xbm_239 xbz_240
theorem xbz_228 : ((xMs.zip xPs).drop 228).all (fun q => xbm q.1 q.2) = true := xall_split 228 11 xbm_228 xbz_239
theorem xbz_216 : ((xMs.zip xPs).drop 216).all (fun q => xbm q.1 q.2) = true := xall_split 216 12 xbm_216 xbz_228
theorem xbz_205 : ((xMs.zip xPs).drop 205).all (fun q => xbm q.1 q.2) = true := xall_split 205 11 xbm_205 xbz_216
theorem xbz_195 : ((xMs.zip xPs).drop 195).all (fun q => xbm q.1 q.2) = true := xall_split 195 10 xbm_195 xbz_205
theorem xbz_190 : ((xMs.zip xPs).drop 190).all (fun q => xbm q.1 q.2) = true := xall_split 190 5 xbm_190 xbz_195
theorem xbz_185 : ((xMs.zip xPs).drop 185).all (fun q => xbm q.1 q.2) = true := xall_split 185 5 xbm_185 xbz_190
theorem xbz_181 : ((xMs.zip xPs).drop 181).all (fun q => xbm q.1 q.2) = true := xall_split 181 4 xbm_181 xbz_185
theorem xbz_178 : ((xMs.zip xPs).drop 178).all (fun q => xbm q.1 q.2) = true := xall_split 178 3 xbm_178 xbz_181
theorem xbz_173 : ((xMs.zip xPs).drop 173).all (fun q => xbm q.1 q.2) = true := xall_split 173 5 xbm_173 xbz_178
theorem xbz_169 : ((xMs.zip xPs).drop 169).all (fun q => xbm q.1 q.2) = true := xall_split 169 4 xbm_169 xbz_173
theorem xbz_158 : ((xMs.zip xPs).drop 158).all (fun q => xbm q.1 q.2) = true := xall_split 158 11 xbm_158 xbz_169
theorem xbz_148 : ((xMs.zip xPs).drop 148).all (fun q => xbm q.1 q.2) = true := xall_split 148 10 xbm_148 xbz_158
theorem xbz_142 : ((xMs.zip xPs).drop 142).all (fun q => xbm q.1 q.2) = true := xall_split 142 6 xbm_142 xbz_148
theorem xbz_140 : ((xMs.zip xPs).drop 140).all (fun q => xbm q.1 q.2) = true := xall_split 140 2 xbm_140 xbz_142
theorem xbz_133 : ((xMs.zip xPs).drop 133).all (fun q => xbm q.1 q.2) = true := xall_split 133 7 xbm_133 xbz_140
theorem xbz_127 : ((xMs.zip xPs).drop 127).all (fun q => xbm q.1 q.2) = true := xall_split 127 6 xbm_127 xbz_133
theorem xbz_124 : ((xMs.zip xPs).drop 124).all (fun q => xbm q.1 q.2) = true := xall_split 124 3 xbm_124 xbz_127
theorem xbz_121 : ((xMs.zip xPs).drop 121).all (fun q => xbm q.1 q.2) = true := xall_split 121 3 xbm_121 xbz_124
theorem xbz_113 : ((xMs.zip xPs).drop 113).all (fun q => xbm q.1 q.2) = true := xall_split 113 8 xbm_113 xbz_121
theorem xbz_110 : ((xMs.zip xPs).drop 110).all (fun q => xbm q.1 q.2) = true := xall_split 110 3 xbm_110 xbz_113
theorem xbz_103 : ((xMs.zip xPs).drop 103).all (fun q => xbm q.1 q.2) = true := xall_split 103 7 xbm_103 xbz_110
theorem xbz_100 : ((xMs.zip xPs).drop 100).all (fun q => xbm q.1 q.2) = true := xall_split 100 3 xbm_100 xbz_103
theorem xbz_98 : ((xMs.zip xPs).drop 98).all (fun q => xbm q.1 q.2) = true := xall_split 98 2 xbm_98 xbz_100
theorem xbz_92 : ((xMs.zip xPs).drop 92).all (fun q => xbm q.1 q.2) = true := xall_split 92 6 xbm_92 xbz_98
theorem xbz_87 : ((xMs.zip xPs).drop 87).all (fun q => xbm q.1 q.2) = true := xall_split 87 5 xbm_87 xbz_92
theorem xbz_79 : ((xMs.zip xPs).drop 79).all (fun q => xbm q.1 q.2) = true := xall_split 79 8 xbm_79 xbz_87
theorem xbz_68 : ((xMs.zip xPs).drop 68).all (fun q => xbm q.1 q.2) = true := xall_split 68 11 xbm_68 xbz_79
theorem xbz_61 : ((xMs.zip xPs).drop 61).all (fun q => xbm q.1 q.2) = true := xall_split 61 7 xbm_61 xbz_68
theorem xbz_58 : ((xMs.zip xPs).drop 58).all (fun q => xbm q.1 q.2) = true := xall_split 58 3 xbm_58 xbz_61
theorem xbz_54 : ((xMs.zip xPs).drop 54).all (fun q => xbm q.1 q.2) = true := xall_split 54 4 xbm_54 xbz_58
theorem xbz_52 : ((xMs.zip xPs).drop 52).all (fun q => xbm q.1 q.2) = true := xall_split 52 2 xbm_52 xbz_54
theorem xbz_46 : ((xMs.zip xPs).drop 46).all (fun q => xbm q.1 q.2) = true := xall_split 46 6 xbm_46 xbz_52
theorem xbz_43 : ((xMs.zip xPs).drop 43).all (fun q => xbm q.1 q.2) = true := xall_split 43 3 xbm_43 xbz_46
theorem xbz_40 : ((xMs.zip xPs).drop 40).all (fun q => xbm q.1 q.2) = true := xall_split 40 3 xbm_40 xbz_43
theorem xbz_37 : ((xMs.zip xPs).drop 37).all (fun q => xbm q.1 q.2) = true := xall_split 37 3 xbm_37 xbz_40
theorem xbz_36 : ((xMs.zip xPs).drop 36).all (fun q => xbm q.1 q.2) = true := xall_split 36 1 xbm_36 xbz_37
theorem xbz_35 : ((xMs.zip xPs).drop 35).all (fun q => xbm q.1 q.2) = true := xall_split 35 1 xbm_35 xbz_36
theorem xbz_32 : ((xMs.zip xPs).drop 32).all (fun q => xbm q.1 q.2) = true := xall_split 32 3 xbm_32 xbz_35
theorem xbz_29 : ((xMs.zip xPs).drop 29).all (fun q => xbm q.1 q.2) = true := xall_split 29 3 xbm_29 xbz_32
theorem xbz_26 : ((xMs.zip xPs).drop 26).all (fun q => xbm q.1 q.2) = true := xall_split 26 3 xbm_26 xbz_29
theorem xbz_23 : ((xMs.zip xPs).drop 23).all (fun q => xbm q.1 q.2) = true := xall_split 23 3 xbm_23 xbz_26
theorem xbz_21 : ((xMs.zip xPs).drop 21).all (fun q => xbm q.1 q.2) = true := xall_split 21 2 xbm_21 xbz_23
theorem xbz_17 : ((xMs.zip xPs).drop 17).all (fun q => xbm q.1 q.2) = true := xall_split 17 4 xbm_17 xbz_21
theorem xbz_9 : ((xMs.zip xPs).drop 9).all (fun q => xbm q.1 q.2) = true := xall_split 9 8 xbm_9 xbz_17
theorem xbz_0 : ((xMs.zip xPs).drop 0).all (fun q => xbm q.1 q.2) = true := xall_split 0 9 xbm_0 xbz_9
