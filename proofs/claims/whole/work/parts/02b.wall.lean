set_option maxRecDepth 100000 in
theorem wall_good : ∀ w ∈ wsL_law0, (w.onTables && w.keeps) = true ∨ ∃ ty, w = .arrayClass ty := fun w h => good_of_word (List.all_eq_true.mp (by decide +kernel : wsL_law0.all goodWord = true) w h)
theorem iw_X6 {cw : Cond} : ∀ w ∈ u_ws RX6 TX6 12, w ∈ cw :: wsL_law0 := fun w h => List.mem_cons_of_mem _ (List.mem_append_left _ (List.mem_append_left _ (List.mem_append_left _ (List.mem_append_left _ (List.mem_append_left _ (List.mem_append_left _ (List.mem_append_left _ (List.mem_append_left _ (List.mem_append_right _ h)))))))))
theorem iw_X7 {cw : Cond} : ∀ w ∈ u_ws RX7 TX7 33, w ∈ cw :: wsL_law0 := fun w h => List.mem_cons_of_mem _ (List.mem_append_left _ (List.mem_append_left _ (List.mem_append_left _ (List.mem_append_left _ (List.mem_append_left _ (List.mem_append_left _ (List.mem_append_left _ (List.mem_append_right _ h))))))))
theorem iw_X1 {cw : Cond} : ∀ w ∈ u_ws RX1 TX1 2, w ∈ cw :: wsL_law0 := fun w h => List.mem_cons_of_mem _ (List.mem_append_left _ (List.mem_append_left _ (List.mem_append_left _ (List.mem_append_left _ (List.mem_append_left _ (List.mem_append_left _ (List.mem_append_right _ h)))))))
theorem iw_X2 {cw : Cond} : ∀ w ∈ u_ws RX2 TX2 3, w ∈ cw :: wsL_law0 := fun w h => List.mem_cons_of_mem _ (List.mem_append_left _ (List.mem_append_left _ (List.mem_append_left _ (List.mem_append_left _ (List.mem_append_left _ (List.mem_append_right _ h))))))
theorem iw_X4 {cw : Cond} : ∀ w ∈ u_ws RX4 TX4 1, w ∈ cw :: wsL_law0 := fun w h => List.mem_cons_of_mem _ (List.mem_append_left _ (List.mem_append_left _ (List.mem_append_left _ (List.mem_append_left _ (List.mem_append_right _ h)))))
theorem iw_X0 {cw : Cond} : ∀ w ∈ u_ws RX0 TX0 12, w ∈ cw :: wsL_law0 := fun w h => List.mem_cons_of_mem _ (List.mem_append_left _ (List.mem_append_left _ (List.mem_append_left _ (List.mem_append_right _ h))))
theorem iw_X5 {cw : Cond} : ∀ w ∈ u_ws RX5 TX5 8, w ∈ cw :: wsL_law0 := fun w h => List.mem_cons_of_mem _ (List.mem_append_left _ (List.mem_append_left _ (List.mem_append_right _ h)))
theorem iw_X3 {cw : Cond} : ∀ w ∈ u_ws RX3 TX3 3, w ∈ cw :: wsL_law0 := fun w h => List.mem_cons_of_mem _ (List.mem_append_left _ (List.mem_append_right _ h))
theorem gw_0 {cw cy : Cond} (h5 : cy ∈ wsL_law0) : GoodIn (cw :: wsL_law0) (cy :: wsL_law0) := by
  intro w h
  have hm : w ∈ wsL_law0 := (List.mem_cons.mp h).elim (fun e => e ▸ h5) id
  exact ⟨List.mem_cons_of_mem _ hm, wall_good w hm⟩
theorem gw_V {cw cy : Cond} {own C : String} {idx : Nat} {y : MethodName} (h1 : Cond.methodLink own idx y ∈ wsL_law0) (h2 : Cond.instanceMethod y ∈ wsL_law0) (h3 : Cond.selects C y y ∈ wsL_law0) (h4 : Cond.initialized C ∈ wsL_law0) (h5 : cy ∈ wsL_law0) : GoodIn (cw :: wsL_law0) (wsV own idx C y (cy :: wsL_law0)) := by
  intro w h
  unfold wsV at h
  rcases List.mem_append.mp h with h | h
  · have hm : w ∈ wsL_law0 := by
      simp only [List.mem_cons, List.not_mem_nil, or_false] at h
      rcases h with rfl | rfl | rfl | rfl
      · exact h1
      · exact h2
      · exact h3
      · exact h4
    exact ⟨List.mem_cons_of_mem _ hm, wall_good w hm⟩
  · exact gw_0 h5 w h
theorem gw_S {cw cy : Cond} {own : String} {idx : Nat} {y : MethodName} (h1 : Cond.methodLink own idx y ∈ wsL_law0) (h2 : Cond.static y ∈ wsL_law0) (h4 : Cond.initialized y.cls ∈ wsL_law0) (h5 : cy ∈ wsL_law0) : GoodIn (cw :: wsL_law0) (va_wsS own idx y (cy :: wsL_law0)) := by
  intro w h
  unfold va_wsS at h
  rcases List.mem_append.mp h with h | h
  · have hm : w ∈ wsL_law0 := by
      simp only [List.mem_cons, List.not_mem_nil, or_false] at h
      rcases h with rfl | rfl | rfl
      · exact h1
      · exact h2
      · exact h4
    exact ⟨List.mem_cons_of_mem _ hm, wall_good w hm⟩
  · exact gw_0 h5 w h
set_option maxRecDepth 100000 in
theorem wl_2 : Cond.initialized RX6 ∈ wsL_law0 := List.mem_of_getElem? (i := 2) rfl
set_option maxRecDepth 100000 in
theorem wl_5 : Cond.initialized RX7 ∈ wsL_law0 := List.mem_of_getElem? (i := 5) rfl
set_option maxRecDepth 100000 in
theorem wl_15 : Cond.initialized RX1 ∈ wsL_law0 := List.mem_of_getElem? (i := 15) rfl
set_option maxRecDepth 100000 in
theorem wl_16 : Cond.fieldLink RX6 14 "SnapHouse" "theTape" "LSnapHouse$Bytes;" ∈ wsL_law0 := List.mem_of_getElem? (i := 16) rfl
set_option maxRecDepth 100000 in
theorem wl_17 : Cond.fieldLink RX6 18 "SnapHouse" "theOut" "LSnapHouse$Bytes;" ∈ wsL_law0 := List.mem_of_getElem? (i := 17) rfl
set_option maxRecDepth 100000 in
theorem wl_20 : Cond.initialized RX2 ∈ wsL_law0 := List.mem_of_getElem? (i := 20) rfl
set_option maxRecDepth 100000 in
theorem wl_21 : Cond.fieldLink RX6 24 "SnapHouse" "presser" "LSnapHouse$Presser;" ∈ wsL_law0 := List.mem_of_getElem? (i := 21) rfl
set_option maxRecDepth 100000 in
theorem wl_24 : Cond.initialized RX4 ∈ wsL_law0 := List.mem_of_getElem? (i := 24) rfl
set_option maxRecDepth 100000 in
theorem wl_25 : Cond.fieldLink RX6 31 "SnapHouse" "streamMaker" "LSnapHouse$StreamMaker;" ∈ wsL_law0 := List.mem_of_getElem? (i := 25) rfl
set_option maxRecDepth 100000 in
theorem wl_28 : Cond.initialized RX0 ∈ wsL_law0 := List.mem_of_getElem? (i := 28) rfl
set_option maxRecDepth 100000 in
theorem wl_29 : Cond.fieldLink RX6 38 "SnapHouse" "blockOpener" "LSnapHouse$BlockOpener;" ∈ wsL_law0 := List.mem_of_getElem? (i := 29) rfl
set_option maxRecDepth 100000 in
theorem wl_32 : Cond.initialized RX5 ∈ wsL_law0 := List.mem_of_getElem? (i := 32) rfl
set_option maxRecDepth 100000 in
theorem wl_33 : Cond.fieldLink RX6 45 "SnapHouse" "streamOpener" "LSnapHouse$StreamOpener;" ∈ wsL_law0 := List.mem_of_getElem? (i := 33) rfl
set_option maxRecDepth 100000 in
theorem wl_36 : Cond.initialized RX3 ∈ wsL_law0 := List.mem_of_getElem? (i := 36) rfl
set_option maxRecDepth 100000 in
theorem wl_37 : Cond.fieldLink RX6 52 "SnapHouse" "keptElements" "LSnapHouse$Rows;" ∈ wsL_law0 := List.mem_of_getElem? (i := 37) rfl
set_option maxRecDepth 100000 in
theorem wl_38 : Cond.fieldLink RX6 56 "SnapHouse" "keptChunks" "LSnapHouse$Rows;" ∈ wsL_law0 := List.mem_of_getElem? (i := 38) rfl
set_option maxRecDepth 100000 in
theorem wl_39 : Cond.fieldLink RX6 59 "SnapHouse" "faultNumber" "I" ∈ wsL_law0 := List.mem_of_getElem? (i := 39) rfl
set_option maxRecDepth 100000 in
theorem wl_40 : Cond.fieldLink RX6 63 "SnapHouse" "faultPlace" "I" ∈ wsL_law0 := List.mem_of_getElem? (i := 40) rfl
set_option maxRecDepth 100000 in
theorem wl_41 : Cond.fieldLink RX6 66 "SnapHouse" "faultOfBlock" "I" ∈ wsL_law0 := List.mem_of_getElem? (i := 41) rfl
set_option maxRecDepth 100000 in
theorem wl_42 : Cond.fieldLink RX6 69 "SnapHouse" "faultPlaceInBlock" "I" ∈ wsL_law0 := List.mem_of_getElem? (i := 42) rfl
set_option maxRecDepth 100000 in
theorem wl_47 : Cond.fieldLink RX1 9 "SnapHouse$Bytes" "count" "I" ∈ wsL_law0 := List.mem_of_getElem? (i := 47) rfl
set_option maxRecDepth 100000 in
theorem wl_49 : Cond.static Lib.Math.max.name ∈ wsL_law0 := List.mem_of_getElem? (i := 49) rfl
set_option maxRecDepth 100000 in
theorem wl_50 : Cond.initialized "java/lang/Math" ∈ wsL_law0 := List.mem_of_getElem? (i := 50) rfl
set_option maxRecDepth 100000 in
theorem wl_51 : Cond.code Lib.Math.max.name Lib.Math.max.code 2 (some .int) ∈ wsL_law0 := List.mem_of_getElem? (i := 51) rfl
set_option maxRecDepth 100000 in
theorem wl_53 : Cond.fieldLink RX1 21 "SnapHouse$Bytes" "row" "[I" ∈ wsL_law0 := List.mem_of_getElem? (i := 53) rfl
set_option maxRecDepth 100000 in
theorem wl_58 : Cond.fieldLink RX2 14 "SnapHouse$Presser" "block" "LSnapHouse$Bytes;" ∈ wsL_law0 := List.mem_of_getElem? (i := 58) rfl
set_option maxRecDepth 100000 in
theorem wl_60 : Cond.fieldLink RX2 21 "SnapHouse$Presser" "slots" "[I" ∈ wsL_law0 := List.mem_of_getElem? (i := 60) rfl
set_option maxRecDepth 100000 in
theorem wl_61 : Cond.fieldLink RX2 25 "SnapHouse$Presser" "slotMask" "I" ∈ wsL_law0 := List.mem_of_getElem? (i := 61) rfl
set_option maxRecDepth 100000 in
theorem wl_67 : Cond.fieldLink RX4 14 "SnapHouse$StreamMaker" "made" "LSnapHouse$Bytes;" ∈ wsL_law0 := List.mem_of_getElem? (i := 67) rfl
set_option maxRecDepth 100000 in
theorem wl_73 : Cond.fieldLink RX0 14 "SnapHouse$BlockOpener" "given" "LSnapHouse$Bytes;" ∈ wsL_law0 := List.mem_of_getElem? (i := 73) rfl
set_option maxRecDepth 100000 in
theorem wl_75 : Cond.fieldLink RX0 23 "SnapHouse$BlockOpener" "elements" "LSnapHouse$Rows;" ∈ wsL_law0 := List.mem_of_getElem? (i := 75) rfl
set_option maxRecDepth 100000 in
theorem wl_76 : Cond.fieldLink RX0 27 "SnapHouse$BlockOpener" "fault" "I" ∈ wsL_law0 := List.mem_of_getElem? (i := 76) rfl
set_option maxRecDepth 100000 in
theorem wl_77 : Cond.fieldLink RX0 31 "SnapHouse$BlockOpener" "place" "I" ∈ wsL_law0 := List.mem_of_getElem? (i := 77) rfl
set_option maxRecDepth 100000 in
theorem wl_78 : Cond.fieldLink RX0 34 "SnapHouse$BlockOpener" "start" "I" ∈ wsL_law0 := List.mem_of_getElem? (i := 78) rfl
set_option maxRecDepth 100000 in
theorem wl_79 : Cond.fieldLink RX0 37 "SnapHouse$BlockOpener" "end" "I" ∈ wsL_law0 := List.mem_of_getElem? (i := 79) rfl
set_option maxRecDepth 100000 in
theorem wl_80 : Cond.fieldLink RX0 40 "SnapHouse$BlockOpener" "next" "I" ∈ wsL_law0 := List.mem_of_getElem? (i := 80) rfl
set_option maxRecDepth 100000 in
theorem wl_81 : Cond.fieldLink RX0 43 "SnapHouse$BlockOpener" "length" "I" ∈ wsL_law0 := List.mem_of_getElem? (i := 81) rfl
set_option maxRecDepth 100000 in
theorem wl_82 : Cond.fieldLink RX0 46 "SnapHouse$BlockOpener" "sort" "I" ∈ wsL_law0 := List.mem_of_getElem? (i := 82) rfl
set_option maxRecDepth 100000 in
theorem wl_83 : Cond.fieldLink RX0 49 "SnapHouse$BlockOpener" "body" "I" ∈ wsL_law0 := List.mem_of_getElem? (i := 83) rfl
set_option maxRecDepth 100000 in
theorem wl_84 : Cond.fieldLink RX0 52 "SnapHouse$BlockOpener" "size" "J" ∈ wsL_law0 := List.mem_of_getElem? (i := 84) rfl
set_option maxRecDepth 100000 in
theorem wl_85 : Cond.fieldLink RX0 56 "SnapHouse$BlockOpener" "back" "J" ∈ wsL_law0 := List.mem_of_getElem? (i := 85) rfl
set_option maxRecDepth 100000 in
theorem wl_90 : Cond.fieldLink RX3 11 "SnapHouse$Rows" "cells" "[I" ∈ wsL_law0 := List.mem_of_getElem? (i := 90) rfl
set_option maxRecDepth 100000 in
theorem wl_91 : Cond.fieldLink RX3 15 "SnapHouse$Rows" "count" "I" ∈ wsL_law0 := List.mem_of_getElem? (i := 91) rfl
set_option maxRecDepth 100000 in
theorem wl_92 : Cond.fieldLink RX3 19 "SnapHouse$Rows" "marked" "I" ∈ wsL_law0 := List.mem_of_getElem? (i := 92) rfl
set_option maxRecDepth 100000 in
theorem wl_97 : Cond.fieldLink RX5 14 "SnapHouse$StreamOpener" "given" "LSnapHouse$Bytes;" ∈ wsL_law0 := List.mem_of_getElem? (i := 97) rfl
set_option maxRecDepth 100000 in
theorem wl_99 : Cond.fieldLink RX5 23 "SnapHouse$StreamOpener" "chunks" "LSnapHouse$Rows;" ∈ wsL_law0 := List.mem_of_getElem? (i := 99) rfl
set_option maxRecDepth 100000 in
theorem wl_100 : Cond.fieldLink RX5 27 "SnapHouse$StreamOpener" "fault" "I" ∈ wsL_law0 := List.mem_of_getElem? (i := 100) rfl
set_option maxRecDepth 100000 in
theorem wl_101 : Cond.fieldLink RX5 31 "SnapHouse$StreamOpener" "place" "I" ∈ wsL_law0 := List.mem_of_getElem? (i := 101) rfl
set_option maxRecDepth 100000 in
theorem wl_102 : Cond.fieldLink RX5 34 "SnapHouse$StreamOpener" "next" "I" ∈ wsL_law0 := List.mem_of_getElem? (i := 102) rfl
set_option maxRecDepth 100000 in
theorem wl_103 : Cond.fieldLink RX5 37 "SnapHouse$StreamOpener" "type" "I" ∈ wsL_law0 := List.mem_of_getElem? (i := 103) rfl
set_option maxRecDepth 100000 in
theorem wl_104 : Cond.fieldLink RX5 40 "SnapHouse$StreamOpener" "body" "I" ∈ wsL_law0 := List.mem_of_getElem? (i := 104) rfl
set_option maxRecDepth 100000 in
theorem wl_105 : Cond.fieldLink RX5 43 "SnapHouse$StreamOpener" "size" "I" ∈ wsL_law0 := List.mem_of_getElem? (i := 105) rfl
set_option maxRecDepth 100000 in
theorem wl_112 : Cond.fieldLink RX7 7 "SnapHouseModel" "tape" "[B" ∈ wsL_law0 := List.mem_of_getElem? (i := 112) rfl
set_option maxRecDepth 100000 in
theorem wl_113 : Cond.fieldLink RX7 13 "SnapHouseModel" "out" "[B" ∈ wsL_law0 := List.mem_of_getElem? (i := 113) rfl
set_option maxRecDepth 100000 in
theorem wl_114 : Cond.fieldLink RX7 16 "SnapHouseModel" "made" "[B" ∈ wsL_law0 := List.mem_of_getElem? (i := 114) rfl
set_option maxRecDepth 100000 in
theorem wl_115 : Cond.fieldLink RX7 19 "SnapHouseModel" "packed" "[B" ∈ wsL_law0 := List.mem_of_getElem? (i := 115) rfl
set_option maxRecDepth 100000 in
theorem wl_116 : Cond.fieldLink RX7 22 "SnapHouseModel" "latest" "[I" ∈ wsL_law0 := List.mem_of_getElem? (i := 116) rfl
set_option maxRecDepth 100000 in
theorem wl_117 : Cond.fieldLink RX7 26 "SnapHouseModel" "ahead" "[I" ∈ wsL_law0 := List.mem_of_getElem? (i := 117) rfl
set_option maxRecDepth 100000 in
theorem wl_118 : Cond.fieldLink RX7 29 "SnapHouseModel" "notes" "[I" ∈ wsL_law0 := List.mem_of_getElem? (i := 118) rfl
set_option maxRecDepth 100000 in
theorem wl_119 : Cond.fieldLink RX7 32 "SnapHouseModel" "elements" "[I" ∈ wsL_law0 := List.mem_of_getElem? (i := 119) rfl
set_option maxRecDepth 100000 in
theorem wl_120 : Cond.fieldLink RX7 35 "SnapHouseModel" "chunks" "[I" ∈ wsL_law0 := List.mem_of_getElem? (i := 120) rfl
set_option maxRecDepth 100000 in
theorem wl_121 : Cond.fieldLink RX7 38 "SnapHouseModel" "faultNumber" "I" ∈ wsL_law0 := List.mem_of_getElem? (i := 121) rfl
set_option maxRecDepth 100000 in
theorem wl_122 : Cond.fieldLink RX7 42 "SnapHouseModel" "faultPlace" "I" ∈ wsL_law0 := List.mem_of_getElem? (i := 122) rfl
set_option maxRecDepth 100000 in
theorem wl_123 : Cond.fieldLink RX7 45 "SnapHouseModel" "faultInnerPlace" "I" ∈ wsL_law0 := List.mem_of_getElem? (i := 123) rfl
set_option maxRecDepth 100000 in
theorem wl_124 : Cond.fieldLink RX7 48 "SnapHouseModel" "sums" "[I" ∈ wsL_law0 := List.mem_of_getElem? (i := 124) rfl
set_option maxRecDepth 100000 in
theorem wl_125 : Cond.fieldLink RX7 51 "SnapHouseModel" "found" "[I" ∈ wsL_law0 := List.mem_of_getElem? (i := 125) rfl
set_option maxRecDepth 100000 in
theorem wl_126 : Cond.fieldLink RX7 54 "SnapHouseModel" "before" "[B" ∈ wsL_law0 := List.mem_of_getElem? (i := 126) rfl
set_option maxRecDepth 100000 in
theorem wl_132 : Cond.methodLink RX6 72 yX1_hasRoomFor ∈ wsL_law0 := List.mem_of_getElem? (i := 132) rfl
set_option maxRecDepth 100000 in
theorem wl_133 : Cond.instanceMethod yX1_hasRoomFor ∈ wsL_law0 := List.mem_of_getElem? (i := 133) rfl
set_option maxRecDepth 100000 in
theorem wl_134 : Cond.selects RX1 yX1_hasRoomFor yX1_hasRoomFor ∈ wsL_law0 := List.mem_of_getElem? (i := 134) rfl
set_option maxRecDepth 100000 in
theorem wl_135 : Cond.code yX1_hasRoomFor cX1_hasRoomFor 2 (some .boolean) ∈ wsL_law0 := List.mem_of_getElem? (i := 135) rfl
set_option maxRecDepth 100000 in
theorem wl_136 : Cond.methodLink RX6 76 yX1_putHighestFirst ∈ wsL_law0 := List.mem_of_getElem? (i := 136) rfl
set_option maxRecDepth 100000 in
theorem wl_137 : Cond.instanceMethod yX1_putHighestFirst ∈ wsL_law0 := List.mem_of_getElem? (i := 137) rfl
set_option maxRecDepth 100000 in
theorem wl_138 : Cond.selects RX1 yX1_putHighestFirst yX1_putHighestFirst ∈ wsL_law0 := List.mem_of_getElem? (i := 138) rfl
set_option maxRecDepth 100000 in
theorem wl_139 : Cond.code yX1_putHighestFirst cX1_putHighestFirst 2 none ∈ wsL_law0 := List.mem_of_getElem? (i := 139) rfl
set_option maxRecDepth 100000 in
theorem wl_140 : Cond.methodLink RX1 33 yX1_put ∈ wsL_law0 := List.mem_of_getElem? (i := 140) rfl
set_option maxRecDepth 100000 in
theorem wl_141 : Cond.instanceMethod yX1_put ∈ wsL_law0 := List.mem_of_getElem? (i := 141) rfl
set_option maxRecDepth 100000 in
theorem wl_142 : Cond.selects RX1 yX1_put yX1_put ∈ wsL_law0 := List.mem_of_getElem? (i := 142) rfl
set_option maxRecDepth 100000 in
theorem wl_143 : Cond.code yX1_put cX1_put 2 none ∈ wsL_law0 := List.mem_of_getElem? (i := 143) rfl
set_option maxRecDepth 100000 in
theorem wl_148 : Cond.fieldLink RX7 58 "SnapHouseModel" "thrown" "I" ∈ wsL_law0 := List.mem_of_getElem? (i := 148) rfl
set_option maxRecDepth 100000 in
theorem wl_149 : Cond.fieldLink RX7 61 "SnapHouseModel" "taped" "I" ∈ wsL_law0 := List.mem_of_getElem? (i := 149) rfl
set_option maxRecDepth 100000 in
theorem wl_150 : Cond.methodLink RX7 64 yX7_word ∈ wsL_law0 := List.mem_of_getElem? (i := 150) rfl
set_option maxRecDepth 100000 in
theorem wl_151 : Cond.instanceMethod yX7_word ∈ wsL_law0 := List.mem_of_getElem? (i := 151) rfl
set_option maxRecDepth 100000 in
theorem wl_152 : Cond.selects RX7 yX7_word yX7_word ∈ wsL_law0 := List.mem_of_getElem? (i := 152) rfl
set_option maxRecDepth 100000 in
theorem wl_153 : Cond.code yX7_word cX7_word 3 none ∈ wsL_law0 := List.mem_of_getElem? (i := 153) rfl
set_option maxRecDepth 100000 in
theorem wl_158 : Cond.methodLink RX6 82 yX6_isByte ∈ wsL_law0 := List.mem_of_getElem? (i := 158) rfl
set_option maxRecDepth 100000 in
theorem wl_159 : Cond.static yX6_isByte ∈ wsL_law0 := List.mem_of_getElem? (i := 159) rfl
set_option maxRecDepth 100000 in
theorem wl_160 : Cond.code yX6_isByte cX6_isByte 1 (some .boolean) ∈ wsL_law0 := List.mem_of_getElem? (i := 160) rfl
set_option maxRecDepth 100000 in
theorem wl_161 : Cond.methodLink RX6 85 yX1_put ∈ wsL_law0 := List.mem_of_getElem? (i := 161) rfl
set_option maxRecDepth 100000 in
theorem wl_170 : Cond.methodLink RX6 88 yX1_hasPlace ∈ wsL_law0 := List.mem_of_getElem? (i := 170) rfl
set_option maxRecDepth 100000 in
theorem wl_171 : Cond.instanceMethod yX1_hasPlace ∈ wsL_law0 := List.mem_of_getElem? (i := 171) rfl
set_option maxRecDepth 100000 in
theorem wl_172 : Cond.selects RX1 yX1_hasPlace yX1_hasPlace ∈ wsL_law0 := List.mem_of_getElem? (i := 172) rfl
set_option maxRecDepth 100000 in
theorem wl_173 : Cond.code yX1_hasPlace cX1_hasPlace 2 (some .boolean) ∈ wsL_law0 := List.mem_of_getElem? (i := 173) rfl
set_option maxRecDepth 100000 in
theorem wl_174 : Cond.methodLink RX6 91 yX1_putOwn ∈ wsL_law0 := List.mem_of_getElem? (i := 174) rfl
set_option maxRecDepth 100000 in
theorem wl_175 : Cond.instanceMethod yX1_putOwn ∈ wsL_law0 := List.mem_of_getElem? (i := 175) rfl
set_option maxRecDepth 100000 in
theorem wl_176 : Cond.selects RX1 yX1_putOwn yX1_putOwn ∈ wsL_law0 := List.mem_of_getElem? (i := 176) rfl
set_option maxRecDepth 100000 in
theorem wl_177 : Cond.code yX1_putOwn cX1_putOwn 4 none ∈ wsL_law0 := List.mem_of_getElem? (i := 177) rfl
set_option maxRecDepth 100000 in
theorem wl_178 : Cond.methodLink RX1 25 yX1_hasPlace ∈ wsL_law0 := List.mem_of_getElem? (i := 178) rfl
set_option maxRecDepth 100000 in
theorem wl_179 : Cond.methodLink RX1 37 yX1_hasRoomFor ∈ wsL_law0 := List.mem_of_getElem? (i := 179) rfl
set_option maxRecDepth 100000 in
theorem wl_188 : Cond.methodLink RX6 95 yX1_has ∈ wsL_law0 := List.mem_of_getElem? (i := 188) rfl
set_option maxRecDepth 100000 in
theorem wl_189 : Cond.instanceMethod yX1_has ∈ wsL_law0 := List.mem_of_getElem? (i := 189) rfl
set_option maxRecDepth 100000 in
theorem wl_190 : Cond.selects RX1 yX1_has yX1_has ∈ wsL_law0 := List.mem_of_getElem? (i := 190) rfl
set_option maxRecDepth 100000 in
theorem wl_191 : Cond.code yX1_has cX1_has 3 (some .boolean) ∈ wsL_law0 := List.mem_of_getElem? (i := 191) rfl
set_option maxRecDepth 100000 in
theorem wl_192 : Cond.methodLink RX6 99 yX1_shorten ∈ wsL_law0 := List.mem_of_getElem? (i := 192) rfl
set_option maxRecDepth 100000 in
theorem wl_193 : Cond.instanceMethod yX1_shorten ∈ wsL_law0 := List.mem_of_getElem? (i := 193) rfl
set_option maxRecDepth 100000 in
theorem wl_194 : Cond.selects RX1 yX1_shorten yX1_shorten ∈ wsL_law0 := List.mem_of_getElem? (i := 194) rfl
set_option maxRecDepth 100000 in
theorem wl_195 : Cond.code yX1_shorten cX1_shorten 2 none ∈ wsL_law0 := List.mem_of_getElem? (i := 195) rfl
set_option maxRecDepth 100000 in
theorem wl_196 : Cond.methodLink RX1 29 yX1_has ∈ wsL_law0 := List.mem_of_getElem? (i := 196) rfl
set_option maxRecDepth 100000 in
theorem wl_205 : Cond.methodLink RX6 102 yX1_at ∈ wsL_law0 := List.mem_of_getElem? (i := 205) rfl
set_option maxRecDepth 100000 in
theorem wl_206 : Cond.instanceMethod yX1_at ∈ wsL_law0 := List.mem_of_getElem? (i := 206) rfl
set_option maxRecDepth 100000 in
theorem wl_207 : Cond.selects RX1 yX1_at yX1_at ∈ wsL_law0 := List.mem_of_getElem? (i := 207) rfl
set_option maxRecDepth 100000 in
theorem wl_208 : Cond.code yX1_at cX1_at 2 (some .int) ∈ wsL_law0 := List.mem_of_getElem? (i := 208) rfl
set_option maxRecDepth 100000 in
theorem wl_209 : Cond.methodLink RX6 106 yX1_change ∈ wsL_law0 := List.mem_of_getElem? (i := 209) rfl
set_option maxRecDepth 100000 in
theorem wl_210 : Cond.instanceMethod yX1_change ∈ wsL_law0 := List.mem_of_getElem? (i := 210) rfl
set_option maxRecDepth 100000 in
theorem wl_211 : Cond.selects RX1 yX1_change yX1_change ∈ wsL_law0 := List.mem_of_getElem? (i := 211) rfl
set_option maxRecDepth 100000 in
theorem wl_212 : Cond.code yX1_change cX1_change 3 none ∈ wsL_law0 := List.mem_of_getElem? (i := 212) rfl
set_option maxRecDepth 100000 in
theorem wl_221 : Cond.methodLink RX6 109 yX1_become ∈ wsL_law0 := List.mem_of_getElem? (i := 221) rfl
set_option maxRecDepth 100000 in
theorem wl_222 : Cond.instanceMethod yX1_become ∈ wsL_law0 := List.mem_of_getElem? (i := 222) rfl
set_option maxRecDepth 100000 in
theorem wl_223 : Cond.selects RX1 yX1_become yX1_become ∈ wsL_law0 := List.mem_of_getElem? (i := 223) rfl
set_option maxRecDepth 100000 in
theorem wl_224 : Cond.code yX1_become cX1_become 2 none ∈ wsL_law0 := List.mem_of_getElem? (i := 224) rfl
set_option maxRecDepth 100000 in
theorem wl_225 : Cond.methodLink RX1 46 yX1_putAll ∈ wsL_law0 := List.mem_of_getElem? (i := 225) rfl
set_option maxRecDepth 100000 in
theorem wl_226 : Cond.instanceMethod yX1_putAll ∈ wsL_law0 := List.mem_of_getElem? (i := 226) rfl
set_option maxRecDepth 100000 in
theorem wl_227 : Cond.selects RX1 yX1_putAll yX1_putAll ∈ wsL_law0 := List.mem_of_getElem? (i := 227) rfl
set_option maxRecDepth 100000 in
theorem wl_228 : Cond.code yX1_putAll cX1_putAll 4 none ∈ wsL_law0 := List.mem_of_getElem? (i := 228) rfl
set_option maxRecDepth 100000 in
theorem wl_229 : Cond.methodLink RX1 40 arraycopyName ∈ wsL_law0 := List.mem_of_getElem? (i := 229) rfl
set_option maxRecDepth 100000 in
theorem wl_230 : Cond.native arraycopyName ∈ wsL_law0 := List.mem_of_getElem? (i := 230) rfl
set_option maxRecDepth 100000 in
theorem wl_231 : Cond.static arraycopyName ∈ wsL_law0 := List.mem_of_getElem? (i := 231) rfl
set_option maxRecDepth 100000 in
theorem wl_232 : Cond.initialized "java/lang/System" ∈ wsL_law0 := List.mem_of_getElem? (i := 232) rfl
set_option maxRecDepth 100000 in
theorem wl_237 : Cond.fieldLink RX7 68 "SnapHouseModel" "outs" "I" ∈ wsL_law0 := List.mem_of_getElem? (i := 237) rfl
set_option maxRecDepth 100000 in
theorem wl_250 : Cond.methodLink RX6 113 yX2_pressBlock ∈ wsL_law0 := List.mem_of_getElem? (i := 250) rfl
set_option maxRecDepth 100000 in
theorem wl_251 : Cond.instanceMethod yX2_pressBlock ∈ wsL_law0 := List.mem_of_getElem? (i := 251) rfl
set_option maxRecDepth 100000 in
theorem wl_252 : Cond.selects RX2 yX2_pressBlock yX2_pressBlock ∈ wsL_law0 := List.mem_of_getElem? (i := 252) rfl
set_option maxRecDepth 100000 in
theorem wl_253 : Cond.code yX2_pressBlock cX2_pressBlock 9 none ∈ wsL_law0 := List.mem_of_getElem? (i := 253) rfl
set_option maxRecDepth 100000 in
theorem wl_254 : Cond.methodLink RX2 29 yX1_shorten ∈ wsL_law0 := List.mem_of_getElem? (i := 254) rfl
set_option maxRecDepth 100000 in
theorem wl_255 : Cond.methodLink RX2 32 yX2_putLength ∈ wsL_law0 := List.mem_of_getElem? (i := 255) rfl
set_option maxRecDepth 100000 in
theorem wl_256 : Cond.instanceMethod yX2_putLength ∈ wsL_law0 := List.mem_of_getElem? (i := 256) rfl
set_option maxRecDepth 100000 in
theorem wl_257 : Cond.selects RX2 yX2_putLength yX2_putLength ∈ wsL_law0 := List.mem_of_getElem? (i := 257) rfl
set_option maxRecDepth 100000 in
theorem wl_258 : Cond.code yX2_putLength cX2_putLength 4 none ∈ wsL_law0 := List.mem_of_getElem? (i := 258) rfl
set_option maxRecDepth 100000 in
theorem wl_259 : Cond.methodLink RX2 54 yX1_put ∈ wsL_law0 := List.mem_of_getElem? (i := 259) rfl
set_option maxRecDepth 100000 in
theorem wl_260 : Cond.methodLink RX2 35 yX2_freeSlots ∈ wsL_law0 := List.mem_of_getElem? (i := 260) rfl
set_option maxRecDepth 100000 in
theorem wl_261 : Cond.instanceMethod yX2_freeSlots ∈ wsL_law0 := List.mem_of_getElem? (i := 261) rfl
set_option maxRecDepth 100000 in
theorem wl_262 : Cond.selects RX2 yX2_freeSlots yX2_freeSlots ∈ wsL_law0 := List.mem_of_getElem? (i := 262) rfl
set_option maxRecDepth 100000 in
theorem wl_263 : Cond.code yX2_freeSlots cX2_freeSlots 4 none ∈ wsL_law0 := List.mem_of_getElem? (i := 263) rfl
set_option maxRecDepth 100000 in
theorem wl_264 : Cond.methodLink RX2 38 yX2_noteAndFind ∈ wsL_law0 := List.mem_of_getElem? (i := 264) rfl
set_option maxRecDepth 100000 in
theorem wl_265 : Cond.instanceMethod yX2_noteAndFind ∈ wsL_law0 := List.mem_of_getElem? (i := 265) rfl
set_option maxRecDepth 100000 in
theorem wl_266 : Cond.selects RX2 yX2_noteAndFind yX2_noteAndFind ∈ wsL_law0 := List.mem_of_getElem? (i := 266) rfl
set_option maxRecDepth 100000 in
theorem wl_267 : Cond.code yX2_noteAndFind cX2_noteAndFind 7 (some .int) ∈ wsL_law0 := List.mem_of_getElem? (i := 267) rfl
set_option maxRecDepth 100000 in
theorem wl_268 : Cond.constant RX2 61 (-1640531535) ∈ wsL_law0 := List.mem_of_getElem? (i := 268) rfl
set_option maxRecDepth 100000 in
theorem wl_269 : Cond.methodLink RX2 57 yX1_fourFrom ∈ wsL_law0 := List.mem_of_getElem? (i := 269) rfl
set_option maxRecDepth 100000 in
theorem wl_270 : Cond.instanceMethod yX1_fourFrom ∈ wsL_law0 := List.mem_of_getElem? (i := 270) rfl
set_option maxRecDepth 100000 in
theorem wl_271 : Cond.selects RX1 yX1_fourFrom yX1_fourFrom ∈ wsL_law0 := List.mem_of_getElem? (i := 271) rfl
set_option maxRecDepth 100000 in
theorem wl_272 : Cond.code yX1_fourFrom cX1_fourFrom 2 (some .int) ∈ wsL_law0 := List.mem_of_getElem? (i := 272) rfl
set_option maxRecDepth 100000 in
theorem wl_273 : Cond.methodLink RX2 42 yX2_countAlike ∈ wsL_law0 := List.mem_of_getElem? (i := 273) rfl
set_option maxRecDepth 100000 in
theorem wl_274 : Cond.static yX2_countAlike ∈ wsL_law0 := List.mem_of_getElem? (i := 274) rfl
set_option maxRecDepth 100000 in
theorem wl_275 : Cond.code yX2_countAlike cX2_countAlike 5 (some .int) ∈ wsL_law0 := List.mem_of_getElem? (i := 275) rfl
set_option maxRecDepth 100000 in
theorem wl_276 : Cond.methodLink RX2 62 yX1_at ∈ wsL_law0 := List.mem_of_getElem? (i := 276) rfl
set_option maxRecDepth 100000 in
theorem wl_277 : Cond.methodLink RX2 46 yX2_putLiteral ∈ wsL_law0 := List.mem_of_getElem? (i := 277) rfl
set_option maxRecDepth 100000 in
theorem wl_278 : Cond.instanceMethod yX2_putLiteral ∈ wsL_law0 := List.mem_of_getElem? (i := 278) rfl
set_option maxRecDepth 100000 in
theorem wl_279 : Cond.selects RX2 yX2_putLiteral yX2_putLiteral ∈ wsL_law0 := List.mem_of_getElem? (i := 279) rfl
set_option maxRecDepth 100000 in
theorem wl_280 : Cond.code yX2_putLiteral cX2_putLiteral 6 none ∈ wsL_law0 := List.mem_of_getElem? (i := 280) rfl
set_option maxRecDepth 100000 in
theorem wl_281 : Cond.methodLink RX2 65 yX1_putLowestFirst ∈ wsL_law0 := List.mem_of_getElem? (i := 281) rfl
set_option maxRecDepth 100000 in
theorem wl_282 : Cond.instanceMethod yX1_putLowestFirst ∈ wsL_law0 := List.mem_of_getElem? (i := 282) rfl
set_option maxRecDepth 100000 in
theorem wl_283 : Cond.selects RX1 yX1_putLowestFirst yX1_putLowestFirst ∈ wsL_law0 := List.mem_of_getElem? (i := 283) rfl
set_option maxRecDepth 100000 in
theorem wl_284 : Cond.code yX1_putLowestFirst cX1_putLowestFirst 4 none ∈ wsL_law0 := List.mem_of_getElem? (i := 284) rfl
set_option maxRecDepth 100000 in
theorem wl_285 : Cond.methodLink RX2 68 yX1_putAll ∈ wsL_law0 := List.mem_of_getElem? (i := 285) rfl
set_option maxRecDepth 100000 in
theorem wl_286 : Cond.methodLink RX2 50 yX2_putCopies ∈ wsL_law0 := List.mem_of_getElem? (i := 286) rfl
set_option maxRecDepth 100000 in
theorem wl_287 : Cond.instanceMethod yX2_putCopies ∈ wsL_law0 := List.mem_of_getElem? (i := 287) rfl
set_option maxRecDepth 100000 in
theorem wl_288 : Cond.selects RX2 yX2_putCopies yX2_putCopies ∈ wsL_law0 := List.mem_of_getElem? (i := 288) rfl
set_option maxRecDepth 100000 in
theorem wl_289 : Cond.code yX2_putCopies cX2_putCopies 4 none ∈ wsL_law0 := List.mem_of_getElem? (i := 289) rfl
set_option maxRecDepth 100000 in
theorem wl_290 : Cond.methodLink RX2 71 yX2_putCopy ∈ wsL_law0 := List.mem_of_getElem? (i := 290) rfl
set_option maxRecDepth 100000 in
theorem wl_291 : Cond.instanceMethod yX2_putCopy ∈ wsL_law0 := List.mem_of_getElem? (i := 291) rfl
set_option maxRecDepth 100000 in
theorem wl_292 : Cond.selects RX2 yX2_putCopy yX2_putCopy ∈ wsL_law0 := List.mem_of_getElem? (i := 292) rfl
set_option maxRecDepth 100000 in
theorem wl_293 : Cond.code yX2_putCopy cX2_putCopy 3 none ∈ wsL_law0 := List.mem_of_getElem? (i := 293) rfl
set_option maxRecDepth 100000 in
theorem wl_298 : Cond.fieldLink RX7 76 "SnapHouseModel" "packs" "I" ∈ wsL_law0 := List.mem_of_getElem? (i := 298) rfl
set_option maxRecDepth 100000 in
theorem wl_299 : Cond.methodLink RX7 100 yX7_pressPart ∈ wsL_law0 := List.mem_of_getElem? (i := 299) rfl
set_option maxRecDepth 100000 in
theorem wl_300 : Cond.instanceMethod yX7_pressPart ∈ wsL_law0 := List.mem_of_getElem? (i := 300) rfl
set_option maxRecDepth 100000 in
theorem wl_301 : Cond.selects RX7 yX7_pressPart yX7_pressPart ∈ wsL_law0 := List.mem_of_getElem? (i := 301) rfl
set_option maxRecDepth 100000 in
theorem wl_302 : Cond.code yX7_pressPart cX7_pressPart 11 none ∈ wsL_law0 := List.mem_of_getElem? (i := 302) rfl
set_option maxRecDepth 100000 in
theorem wl_303 : Cond.methodLink RX7 79 yX7_pack ∈ wsL_law0 := List.mem_of_getElem? (i := 303) rfl
set_option maxRecDepth 100000 in
theorem wl_304 : Cond.instanceMethod yX7_pack ∈ wsL_law0 := List.mem_of_getElem? (i := 304) rfl
set_option maxRecDepth 100000 in
theorem wl_305 : Cond.selects RX7 yX7_pack yX7_pack ∈ wsL_law0 := List.mem_of_getElem? (i := 305) rfl
set_option maxRecDepth 100000 in
theorem wl_306 : Cond.code yX7_pack cX7_pack 2 none ∈ wsL_law0 := List.mem_of_getElem? (i := 306) rfl
set_option maxRecDepth 100000 in
theorem wl_307 : Cond.methodLink RX7 82 yX7_keyOf ∈ wsL_law0 := List.mem_of_getElem? (i := 307) rfl
set_option maxRecDepth 100000 in
theorem wl_308 : Cond.instanceMethod yX7_keyOf ∈ wsL_law0 := List.mem_of_getElem? (i := 308) rfl
set_option maxRecDepth 100000 in
theorem wl_309 : Cond.selects RX7 yX7_keyOf yX7_keyOf ∈ wsL_law0 := List.mem_of_getElem? (i := 309) rfl
set_option maxRecDepth 100000 in
theorem wl_310 : Cond.code yX7_keyOf cX7_keyOf 3 (some .int) ∈ wsL_law0 := List.mem_of_getElem? (i := 310) rfl
set_option maxRecDepth 100000 in
theorem wl_311 : Cond.constant RX7 75 (506832829) ∈ wsL_law0 := List.mem_of_getElem? (i := 311) rfl
set_option maxRecDepth 100000 in
theorem wl_312 : Cond.methodLink RX7 71 yX7_at ∈ wsL_law0 := List.mem_of_getElem? (i := 312) rfl
set_option maxRecDepth 100000 in
theorem wl_313 : Cond.instanceMethod yX7_at ∈ wsL_law0 := List.mem_of_getElem? (i := 313) rfl
set_option maxRecDepth 100000 in
theorem wl_314 : Cond.selects RX7 yX7_at yX7_at ∈ wsL_law0 := List.mem_of_getElem? (i := 314) rfl
set_option maxRecDepth 100000 in
theorem wl_315 : Cond.code yX7_at cX7_at 2 (some .int) ∈ wsL_law0 := List.mem_of_getElem? (i := 315) rfl
set_option maxRecDepth 100000 in
theorem wl_316 : Cond.methodLink RX7 85 yX7_areFour ∈ wsL_law0 := List.mem_of_getElem? (i := 316) rfl
set_option maxRecDepth 100000 in
theorem wl_317 : Cond.instanceMethod yX7_areFour ∈ wsL_law0 := List.mem_of_getElem? (i := 317) rfl
set_option maxRecDepth 100000 in
theorem wl_318 : Cond.selects RX7 yX7_areFour yX7_areFour ∈ wsL_law0 := List.mem_of_getElem? (i := 318) rfl
set_option maxRecDepth 100000 in
theorem wl_319 : Cond.code yX7_areFour cX7_areFour 3 (some .boolean) ∈ wsL_law0 := List.mem_of_getElem? (i := 319) rfl
set_option maxRecDepth 100000 in
theorem wl_320 : Cond.methodLink RX7 89 yX7_literal ∈ wsL_law0 := List.mem_of_getElem? (i := 320) rfl
set_option maxRecDepth 100000 in
theorem wl_321 : Cond.instanceMethod yX7_literal ∈ wsL_law0 := List.mem_of_getElem? (i := 321) rfl
set_option maxRecDepth 100000 in
theorem wl_322 : Cond.selects RX7 yX7_literal yX7_literal ∈ wsL_law0 := List.mem_of_getElem? (i := 322) rfl
set_option maxRecDepth 100000 in
theorem wl_323 : Cond.code yX7_literal cX7_literal 7 none ∈ wsL_law0 := List.mem_of_getElem? (i := 323) rfl
set_option maxRecDepth 100000 in
theorem wl_324 : Cond.constant RX7 96 (65536) ∈ wsL_law0 := List.mem_of_getElem? (i := 324) rfl
set_option maxRecDepth 100000 in
theorem wl_325 : Cond.methodLink RX7 93 yX7_copies ∈ wsL_law0 := List.mem_of_getElem? (i := 325) rfl
set_option maxRecDepth 100000 in
theorem wl_326 : Cond.instanceMethod yX7_copies ∈ wsL_law0 := List.mem_of_getElem? (i := 326) rfl
set_option maxRecDepth 100000 in
theorem wl_327 : Cond.selects RX7 yX7_copies yX7_copies ∈ wsL_law0 := List.mem_of_getElem? (i := 327) rfl
set_option maxRecDepth 100000 in
theorem wl_328 : Cond.code yX7_copies cX7_copies 4 none ∈ wsL_law0 := List.mem_of_getElem? (i := 328) rfl
set_option maxRecDepth 100000 in
theorem wl_329 : Cond.methodLink RX7 97 yX7_copyTwo ∈ wsL_law0 := List.mem_of_getElem? (i := 329) rfl
set_option maxRecDepth 100000 in
theorem wl_330 : Cond.instanceMethod yX7_copyTwo ∈ wsL_law0 := List.mem_of_getElem? (i := 330) rfl
set_option maxRecDepth 100000 in
theorem wl_331 : Cond.selects RX7 yX7_copyTwo yX7_copyTwo ∈ wsL_law0 := List.mem_of_getElem? (i := 331) rfl
set_option maxRecDepth 100000 in
theorem wl_332 : Cond.code yX7_copyTwo cX7_copyTwo 3 none ∈ wsL_law0 := List.mem_of_getElem? (i := 332) rfl
set_option maxRecDepth 100000 in
theorem wl_333 : Cond.methodLink RX7 103 yX7_give ∈ wsL_law0 := List.mem_of_getElem? (i := 333) rfl
set_option maxRecDepth 100000 in
theorem wl_334 : Cond.instanceMethod yX7_give ∈ wsL_law0 := List.mem_of_getElem? (i := 334) rfl
set_option maxRecDepth 100000 in
theorem wl_335 : Cond.selects RX7 yX7_give yX7_give ∈ wsL_law0 := List.mem_of_getElem? (i := 335) rfl
set_option maxRecDepth 100000 in
theorem wl_336 : Cond.code yX7_give cX7_give 4 none ∈ wsL_law0 := List.mem_of_getElem? (i := 336) rfl
set_option maxRecDepth 100000 in
theorem wl_341 : Cond.methodLink RX6 120 yX0_openBlock ∈ wsL_law0 := List.mem_of_getElem? (i := 341) rfl
set_option maxRecDepth 100000 in
theorem wl_342 : Cond.instanceMethod yX0_openBlock ∈ wsL_law0 := List.mem_of_getElem? (i := 342) rfl
set_option maxRecDepth 100000 in
theorem wl_343 : Cond.selects RX0 yX0_openBlock yX0_openBlock ∈ wsL_law0 := List.mem_of_getElem? (i := 343) rfl
set_option maxRecDepth 100000 in
theorem wl_344 : Cond.code yX0_openBlock cX0_openBlock 5 none ∈ wsL_law0 := List.mem_of_getElem? (i := 344) rfl
set_option maxRecDepth 100000 in
theorem wl_345 : Cond.methodLink RX0 59 yX1_shorten ∈ wsL_law0 := List.mem_of_getElem? (i := 345) rfl
set_option maxRecDepth 100000 in
theorem wl_346 : Cond.methodLink RX0 62 yX3_clear ∈ wsL_law0 := List.mem_of_getElem? (i := 346) rfl
set_option maxRecDepth 100000 in
theorem wl_347 : Cond.instanceMethod yX3_clear ∈ wsL_law0 := List.mem_of_getElem? (i := 347) rfl
set_option maxRecDepth 100000 in
theorem wl_348 : Cond.selects RX3 yX3_clear yX3_clear ∈ wsL_law0 := List.mem_of_getElem? (i := 348) rfl
set_option maxRecDepth 100000 in
theorem wl_349 : Cond.code yX3_clear cX3_clear 1 none ∈ wsL_law0 := List.mem_of_getElem? (i := 349) rfl
set_option maxRecDepth 100000 in
theorem wl_350 : Cond.methodLink RX0 65 yX0_readLength ∈ wsL_law0 := List.mem_of_getElem? (i := 350) rfl
set_option maxRecDepth 100000 in
theorem wl_351 : Cond.instanceMethod yX0_readLength ∈ wsL_law0 := List.mem_of_getElem? (i := 351) rfl
set_option maxRecDepth 100000 in
theorem wl_352 : Cond.selects RX0 yX0_readLength yX0_readLength ∈ wsL_law0 := List.mem_of_getElem? (i := 352) rfl
set_option maxRecDepth 100000 in
theorem wl_353 : Cond.code yX0_readLength cX0_readLength 7 none ∈ wsL_law0 := List.mem_of_getElem? (i := 353) rfl
set_option maxRecDepth 100000 in
theorem wl_354 : Cond.constantLong RX0 89 (4294967296) ∈ wsL_law0 := List.mem_of_getElem? (i := 354) rfl
set_option maxRecDepth 100000 in
theorem wl_355 : Cond.constantLong RX0 91 (20000) ∈ wsL_law0 := List.mem_of_getElem? (i := 355) rfl
set_option maxRecDepth 100000 in
theorem wl_356 : Cond.methodLink RX0 85 yX1_at ∈ wsL_law0 := List.mem_of_getElem? (i := 356) rfl
set_option maxRecDepth 100000 in
theorem wl_357 : Cond.methodLink RX0 81 yX0_fail ∈ wsL_law0 := List.mem_of_getElem? (i := 357) rfl
set_option maxRecDepth 100000 in
theorem wl_358 : Cond.instanceMethod yX0_fail ∈ wsL_law0 := List.mem_of_getElem? (i := 358) rfl
set_option maxRecDepth 100000 in
theorem wl_359 : Cond.selects RX0 yX0_fail yX0_fail ∈ wsL_law0 := List.mem_of_getElem? (i := 359) rfl
set_option maxRecDepth 100000 in
theorem wl_360 : Cond.code yX0_fail cX0_fail 3 none ∈ wsL_law0 := List.mem_of_getElem? (i := 360) rfl
set_option maxRecDepth 100000 in
theorem wl_361 : Cond.methodLink RX0 69 yX0_readElement ∈ wsL_law0 := List.mem_of_getElem? (i := 361) rfl
set_option maxRecDepth 100000 in
theorem wl_362 : Cond.instanceMethod yX0_readElement ∈ wsL_law0 := List.mem_of_getElem? (i := 362) rfl
set_option maxRecDepth 100000 in
theorem wl_363 : Cond.selects RX0 yX0_readElement yX0_readElement ∈ wsL_law0 := List.mem_of_getElem? (i := 363) rfl
set_option maxRecDepth 100000 in
theorem wl_364 : Cond.code yX0_readElement cX0_readElement 7 none ∈ wsL_law0 := List.mem_of_getElem? (i := 364) rfl
set_option maxRecDepth 100000 in
theorem wl_365 : Cond.methodLink RX0 93 yX0_bytesBehindTag ∈ wsL_law0 := List.mem_of_getElem? (i := 365) rfl
set_option maxRecDepth 100000 in
theorem wl_366 : Cond.static yX0_bytesBehindTag ∈ wsL_law0 := List.mem_of_getElem? (i := 366) rfl
set_option maxRecDepth 100000 in
theorem wl_367 : Cond.code yX0_bytesBehindTag cX0_bytesBehindTag 2 (some .int) ∈ wsL_law0 := List.mem_of_getElem? (i := 367) rfl
set_option maxRecDepth 100000 in
theorem wl_368 : Cond.methodLink RX0 97 yX1_lowestFirst ∈ wsL_law0 := List.mem_of_getElem? (i := 368) rfl
set_option maxRecDepth 100000 in
theorem wl_369 : Cond.instanceMethod yX1_lowestFirst ∈ wsL_law0 := List.mem_of_getElem? (i := 369) rfl
set_option maxRecDepth 100000 in
theorem wl_370 : Cond.selects RX1 yX1_lowestFirst yX1_lowestFirst ∈ wsL_law0 := List.mem_of_getElem? (i := 370) rfl
set_option maxRecDepth 100000 in
theorem wl_371 : Cond.code yX1_lowestFirst cX1_lowestFirst 6 (some .long) ∈ wsL_law0 := List.mem_of_getElem? (i := 371) rfl
set_option maxRecDepth 100000 in
theorem wl_372 : Cond.methodLink RX1 50 yX1_at ∈ wsL_law0 := List.mem_of_getElem? (i := 372) rfl
set_option maxRecDepth 100000 in
theorem wl_373 : Cond.methodLink RX0 101 yX0_sizeOf ∈ wsL_law0 := List.mem_of_getElem? (i := 373) rfl
set_option maxRecDepth 100000 in
theorem wl_374 : Cond.static yX0_sizeOf ∈ wsL_law0 := List.mem_of_getElem? (i := 374) rfl
set_option maxRecDepth 100000 in
theorem wl_375 : Cond.code yX0_sizeOf cX0_sizeOf 4 (some .long) ∈ wsL_law0 := List.mem_of_getElem? (i := 375) rfl
set_option maxRecDepth 100000 in
theorem wl_376 : Cond.methodLink RX0 105 yX0_backOf ∈ wsL_law0 := List.mem_of_getElem? (i := 376) rfl
set_option maxRecDepth 100000 in
theorem wl_377 : Cond.static yX0_backOf ∈ wsL_law0 := List.mem_of_getElem? (i := 377) rfl
set_option maxRecDepth 100000 in
theorem wl_378 : Cond.code yX0_backOf cX0_backOf 4 (some .long) ∈ wsL_law0 := List.mem_of_getElem? (i := 378) rfl
set_option maxRecDepth 100000 in
theorem wl_379 : Cond.methodLink RX0 72 yX0_checkElement ∈ wsL_law0 := List.mem_of_getElem? (i := 379) rfl
set_option maxRecDepth 100000 in
theorem wl_380 : Cond.instanceMethod yX0_checkElement ∈ wsL_law0 := List.mem_of_getElem? (i := 380) rfl
set_option maxRecDepth 100000 in
theorem wl_381 : Cond.selects RX0 yX0_checkElement yX0_checkElement ∈ wsL_law0 := List.mem_of_getElem? (i := 381) rfl
set_option maxRecDepth 100000 in
theorem wl_382 : Cond.code yX0_checkElement cX0_checkElement 1 none ∈ wsL_law0 := List.mem_of_getElem? (i := 382) rfl
set_option maxRecDepth 100000 in
theorem wl_383 : Cond.methodLink RX0 75 yX0_giveElement ∈ wsL_law0 := List.mem_of_getElem? (i := 383) rfl
set_option maxRecDepth 100000 in
theorem wl_384 : Cond.instanceMethod yX0_giveElement ∈ wsL_law0 := List.mem_of_getElem? (i := 384) rfl
set_option maxRecDepth 100000 in
theorem wl_385 : Cond.selects RX0 yX0_giveElement yX0_giveElement ∈ wsL_law0 := List.mem_of_getElem? (i := 385) rfl
set_option maxRecDepth 100000 in
theorem wl_386 : Cond.code yX0_giveElement cX0_giveElement 4 none ∈ wsL_law0 := List.mem_of_getElem? (i := 386) rfl
set_option maxRecDepth 100000 in
theorem wl_387 : Cond.methodLink RX0 108 yX3_add ∈ wsL_law0 := List.mem_of_getElem? (i := 387) rfl
set_option maxRecDepth 100000 in
theorem wl_388 : Cond.instanceMethod yX3_add ∈ wsL_law0 := List.mem_of_getElem? (i := 388) rfl
set_option maxRecDepth 100000 in
theorem wl_389 : Cond.selects RX3 yX3_add yX3_add ∈ wsL_law0 := List.mem_of_getElem? (i := 389) rfl
set_option maxRecDepth 100000 in
theorem wl_390 : Cond.code yX3_add cX3_add 8 none ∈ wsL_law0 := List.mem_of_getElem? (i := 390) rfl
set_option maxRecDepth 100000 in
theorem wl_391 : Cond.methodLink RX0 112 yX1_putAll ∈ wsL_law0 := List.mem_of_getElem? (i := 391) rfl
set_option maxRecDepth 100000 in
theorem wl_392 : Cond.methodLink RX0 116 yX1_putOwn ∈ wsL_law0 := List.mem_of_getElem? (i := 392) rfl
set_option maxRecDepth 100000 in
theorem wl_393 : Cond.methodLink RX6 129 yX6_keepFault ∈ wsL_law0 := List.mem_of_getElem? (i := 393) rfl
set_option maxRecDepth 100000 in
theorem wl_394 : Cond.instanceMethod yX6_keepFault ∈ wsL_law0 := List.mem_of_getElem? (i := 394) rfl
set_option maxRecDepth 100000 in
theorem wl_395 : Cond.selects RX6 yX6_keepFault yX6_keepFault ∈ wsL_law0 := List.mem_of_getElem? (i := 395) rfl
set_option maxRecDepth 100000 in
theorem wl_396 : Cond.code yX6_keepFault cX6_keepFault 5 none ∈ wsL_law0 := List.mem_of_getElem? (i := 396) rfl
set_option maxRecDepth 100000 in
theorem wl_397 : Cond.methodLink RX6 139 yX3_become ∈ wsL_law0 := List.mem_of_getElem? (i := 397) rfl
set_option maxRecDepth 100000 in
theorem wl_398 : Cond.instanceMethod yX3_become ∈ wsL_law0 := List.mem_of_getElem? (i := 398) rfl
set_option maxRecDepth 100000 in
theorem wl_399 : Cond.selects RX3 yX3_become yX3_become ∈ wsL_law0 := List.mem_of_getElem? (i := 399) rfl
set_option maxRecDepth 100000 in
theorem wl_400 : Cond.code yX3_become cX3_become 2 none ∈ wsL_law0 := List.mem_of_getElem? (i := 400) rfl
set_option maxRecDepth 100000 in
theorem wl_401 : Cond.methodLink RX3 22 Lib.Math.min.name ∈ wsL_law0 := List.mem_of_getElem? (i := 401) rfl
set_option maxRecDepth 100000 in
theorem wl_402 : Cond.static Lib.Math.min.name ∈ wsL_law0 := List.mem_of_getElem? (i := 402) rfl
set_option maxRecDepth 100000 in
theorem wl_403 : Cond.code Lib.Math.min.name Lib.Math.min.code 2 (some .int) ∈ wsL_law0 := List.mem_of_getElem? (i := 403) rfl
set_option maxRecDepth 100000 in
theorem wl_404 : Cond.methodLink RX3 28 arraycopyName ∈ wsL_law0 := List.mem_of_getElem? (i := 404) rfl
set_option maxRecDepth 100000 in
theorem wl_409 : Cond.fieldLink RX7 119 "SnapHouseModel" "mades" "I" ∈ wsL_law0 := List.mem_of_getElem? (i := 409) rfl
set_option maxRecDepth 100000 in
theorem wl_410 : Cond.fieldLink RX7 107 "SnapHouseModel" "blockFault" "I" ∈ wsL_law0 := List.mem_of_getElem? (i := 410) rfl
set_option maxRecDepth 100000 in
theorem wl_411 : Cond.fieldLink RX7 110 "SnapHouseModel" "blockPlace" "I" ∈ wsL_law0 := List.mem_of_getElem? (i := 411) rfl
set_option maxRecDepth 100000 in
theorem wl_412 : Cond.fieldLink RX7 113 "SnapHouseModel" "opened" "I" ∈ wsL_law0 := List.mem_of_getElem? (i := 412) rfl
set_option maxRecDepth 100000 in
theorem wl_413 : Cond.fieldLink RX7 148 "SnapHouseModel" "elementMany" "I" ∈ wsL_law0 := List.mem_of_getElem? (i := 413) rfl
set_option maxRecDepth 100000 in
theorem wl_414 : Cond.fieldLink RX7 116 "SnapHouseModel" "literals" "I" ∈ wsL_law0 := List.mem_of_getElem? (i := 414) rfl
set_option maxRecDepth 100000 in
theorem wl_415 : Cond.fieldLink RX7 151 "SnapHouseModel" "literalMany" "I" ∈ wsL_law0 := List.mem_of_getElem? (i := 415) rfl
set_option maxRecDepth 100000 in
theorem wl_416 : Cond.methodLink RX7 141 yX7_openPart ∈ wsL_law0 := List.mem_of_getElem? (i := 416) rfl
set_option maxRecDepth 100000 in
theorem wl_417 : Cond.instanceMethod yX7_openPart ∈ wsL_law0 := List.mem_of_getElem? (i := 417) rfl
set_option maxRecDepth 100000 in
theorem wl_418 : Cond.selects RX7 yX7_openPart yX7_openPart ∈ wsL_law0 := List.mem_of_getElem? (i := 418) rfl
set_option maxRecDepth 100000 in
theorem wl_419 : Cond.code yX7_openPart cX7_openPart 9 none ∈ wsL_law0 := List.mem_of_getElem? (i := 419) rfl
set_option maxRecDepth 100000 in
theorem wl_420 : Cond.constantLong RX7 125 (20000) ∈ wsL_law0 := List.mem_of_getElem? (i := 420) rfl
set_option maxRecDepth 100000 in
theorem wl_421 : Cond.fieldLink RX7 127 "SnapHouseModel" "wanted" "I" ∈ wsL_law0 := List.mem_of_getElem? (i := 421) rfl
set_option maxRecDepth 100000 in
theorem wl_422 : Cond.methodLink RX7 122 yX7_bad ∈ wsL_law0 := List.mem_of_getElem? (i := 422) rfl
set_option maxRecDepth 100000 in
theorem wl_423 : Cond.instanceMethod yX7_bad ∈ wsL_law0 := List.mem_of_getElem? (i := 423) rfl
set_option maxRecDepth 100000 in
theorem wl_424 : Cond.selects RX7 yX7_bad yX7_bad ∈ wsL_law0 := List.mem_of_getElem? (i := 424) rfl
set_option maxRecDepth 100000 in
theorem wl_425 : Cond.code yX7_bad cX7_bad 3 none ∈ wsL_law0 := List.mem_of_getElem? (i := 425) rfl
set_option maxRecDepth 100000 in
theorem wl_426 : Cond.methodLink RX7 130 yX7_elementAt ∈ wsL_law0 := List.mem_of_getElem? (i := 426) rfl
set_option maxRecDepth 100000 in
theorem wl_427 : Cond.instanceMethod yX7_elementAt ∈ wsL_law0 := List.mem_of_getElem? (i := 427) rfl
set_option maxRecDepth 100000 in
theorem wl_428 : Cond.selects RX7 yX7_elementAt yX7_elementAt ∈ wsL_law0 := List.mem_of_getElem? (i := 428) rfl
set_option maxRecDepth 100000 in
theorem wl_429 : Cond.code yX7_elementAt cX7_elementAt 17 (some .int) ∈ wsL_law0 := List.mem_of_getElem? (i := 429) rfl
set_option maxRecDepth 100000 in
theorem wl_430 : Cond.constantLong RX7 134 (4) ∈ wsL_law0 := List.mem_of_getElem? (i := 430) rfl
set_option maxRecDepth 100000 in
theorem wl_431 : Cond.constantLong RX7 136 (256) ∈ wsL_law0 := List.mem_of_getElem? (i := 431) rfl
set_option maxRecDepth 100000 in
theorem wl_432 : Cond.methodLink RX7 144 yX7_told ∈ wsL_law0 := List.mem_of_getElem? (i := 432) rfl
set_option maxRecDepth 100000 in
theorem wl_433 : Cond.instanceMethod yX7_told ∈ wsL_law0 := List.mem_of_getElem? (i := 433) rfl
set_option maxRecDepth 100000 in
theorem wl_434 : Cond.selects RX7 yX7_told yX7_told ∈ wsL_law0 := List.mem_of_getElem? (i := 434) rfl
set_option maxRecDepth 100000 in
theorem wl_435 : Cond.code yX7_told cX7_told 5 none ∈ wsL_law0 := List.mem_of_getElem? (i := 435) rfl
set_option maxRecDepth 100000 in
theorem wl_436 : Cond.fieldLink RX7 138 "SnapHouseModel" "faultInner" "I" ∈ wsL_law0 := List.mem_of_getElem? (i := 436) rfl
set_option maxRecDepth 100000 in
theorem wl_441 : Cond.methodLink RX6 142 yX4_makeStream ∈ wsL_law0 := List.mem_of_getElem? (i := 441) rfl
set_option maxRecDepth 100000 in
theorem wl_442 : Cond.instanceMethod yX4_makeStream ∈ wsL_law0 := List.mem_of_getElem? (i := 442) rfl
set_option maxRecDepth 100000 in
theorem wl_443 : Cond.selects RX4 yX4_makeStream yX4_makeStream ∈ wsL_law0 := List.mem_of_getElem? (i := 443) rfl
set_option maxRecDepth 100000 in
theorem wl_444 : Cond.code yX4_makeStream cX4_makeStream 8 (some .boolean) ∈ wsL_law0 := List.mem_of_getElem? (i := 444) rfl
set_option maxRecDepth 100000 in
theorem wl_445 : Cond.methodLink RX4 34 Lib.Math.max.name ∈ wsL_law0 := List.mem_of_getElem? (i := 445) rfl
set_option maxRecDepth 100000 in
theorem wl_446 : Cond.methodLink RX4 44 Lib.Math.min.name ∈ wsL_law0 := List.mem_of_getElem? (i := 446) rfl
set_option maxRecDepth 100000 in
theorem wl_447 : Cond.methodLink RX4 20 yX1_shorten ∈ wsL_law0 := List.mem_of_getElem? (i := 447) rfl
set_option maxRecDepth 100000 in
theorem wl_448 : Cond.methodLink RX4 23 yX4_putHeader ∈ wsL_law0 := List.mem_of_getElem? (i := 448) rfl
set_option maxRecDepth 100000 in
theorem wl_449 : Cond.instanceMethod yX4_putHeader ∈ wsL_law0 := List.mem_of_getElem? (i := 449) rfl
set_option maxRecDepth 100000 in
theorem wl_450 : Cond.selects RX4 yX4_putHeader yX4_putHeader ∈ wsL_law0 := List.mem_of_getElem? (i := 450) rfl
set_option maxRecDepth 100000 in
theorem wl_451 : Cond.code yX4_putHeader cX4_putHeader 3 none ∈ wsL_law0 := List.mem_of_getElem? (i := 451) rfl
set_option maxRecDepth 100000 in
theorem wl_452 : Cond.methodLink RX4 31 yX1_put ∈ wsL_law0 := List.mem_of_getElem? (i := 452) rfl
set_option maxRecDepth 100000 in
theorem wl_453 : Cond.methodLink RX4 67 yX1_putLowestFirst ∈ wsL_law0 := List.mem_of_getElem? (i := 453) rfl
set_option maxRecDepth 100000 in
theorem wl_454 : Cond.methodLink RX4 47 yX2_pressBlock ∈ wsL_law0 := List.mem_of_getElem? (i := 454) rfl
set_option maxRecDepth 100000 in
theorem wl_455 : Cond.methodLink RX4 56 yX4_putPiece ∈ wsL_law0 := List.mem_of_getElem? (i := 455) rfl
set_option maxRecDepth 100000 in
theorem wl_456 : Cond.instanceMethod yX4_putPiece ∈ wsL_law0 := List.mem_of_getElem? (i := 456) rfl
set_option maxRecDepth 100000 in
theorem wl_457 : Cond.selects RX4 yX4_putPiece yX4_putPiece ∈ wsL_law0 := List.mem_of_getElem? (i := 457) rfl
set_option maxRecDepth 100000 in
theorem wl_458 : Cond.code yX4_putPiece cX4_putPiece 7 (some .boolean) ∈ wsL_law0 := List.mem_of_getElem? (i := 458) rfl
set_option maxRecDepth 100000 in
theorem wl_459 : Cond.methodLink RX4 60 yX1_hasRoomFor ∈ wsL_law0 := List.mem_of_getElem? (i := 459) rfl
set_option maxRecDepth 100000 in
theorem wl_460 : Cond.methodLink RX4 64 yX1_maskedCrc ∈ wsL_law0 := List.mem_of_getElem? (i := 460) rfl
set_option maxRecDepth 100000 in
theorem wl_461 : Cond.instanceMethod yX1_maskedCrc ∈ wsL_law0 := List.mem_of_getElem? (i := 461) rfl
set_option maxRecDepth 100000 in
theorem wl_462 : Cond.selects RX1 yX1_maskedCrc yX1_maskedCrc ∈ wsL_law0 := List.mem_of_getElem? (i := 462) rfl
set_option maxRecDepth 100000 in
theorem wl_463 : Cond.code yX1_maskedCrc cX1_maskedCrc 3 (some .int) ∈ wsL_law0 := List.mem_of_getElem? (i := 463) rfl
set_option maxRecDepth 100000 in
theorem wl_464 : Cond.constant RX1 65 (-1568478504) ∈ wsL_law0 := List.mem_of_getElem? (i := 464) rfl
set_option maxRecDepth 100000 in
theorem wl_465 : Cond.methodLink RX1 57 yX1_crc ∈ wsL_law0 := List.mem_of_getElem? (i := 465) rfl
set_option maxRecDepth 100000 in
theorem wl_466 : Cond.instanceMethod yX1_crc ∈ wsL_law0 := List.mem_of_getElem? (i := 466) rfl
set_option maxRecDepth 100000 in
theorem wl_467 : Cond.selects RX1 yX1_crc yX1_crc ∈ wsL_law0 := List.mem_of_getElem? (i := 467) rfl
set_option maxRecDepth 100000 in
theorem wl_468 : Cond.code yX1_crc cX1_crc 5 (some .int) ∈ wsL_law0 := List.mem_of_getElem? (i := 468) rfl
set_option maxRecDepth 100000 in
theorem wl_469 : Cond.fieldLink RX1 54 "SnapHouse$Bytes" "CRC_STEPS" "[I" ∈ wsL_law0 := List.mem_of_getElem? (i := 469) rfl
set_option maxRecDepth 100000 in
theorem wl_470 : Cond.methodLink RX1 60 yJ6_rotateLeft_7cf53 ∈ wsL_law0 := List.mem_of_getElem? (i := 470) rfl
set_option maxRecDepth 100000 in
theorem wl_471 : Cond.static yJ6_rotateLeft_7cf53 ∈ wsL_law0 := List.mem_of_getElem? (i := 471) rfl
set_option maxRecDepth 100000 in
theorem wl_472 : Cond.initialized RJ6 ∈ wsL_law0 := List.mem_of_getElem? (i := 472) rfl
set_option maxRecDepth 100000 in
theorem wl_473 : Cond.code yJ6_rotateLeft_7cf53 cJ6_rotateLeft_7cf53 2 (some .int) ∈ wsL_law0 := List.mem_of_getElem? (i := 473) rfl
set_option maxRecDepth 100000 in
theorem wl_474 : Cond.methodLink RX4 70 yX1_putAll ∈ wsL_law0 := List.mem_of_getElem? (i := 474) rfl
set_option maxRecDepth 100000 in
theorem wl_479 : Cond.fieldLink RX7 190 "SnapHouseModel" "isFull" "Z" ∈ wsL_law0 := List.mem_of_getElem? (i := 479) rfl
set_option maxRecDepth 100000 in
theorem wl_480 : Cond.methodLink RX7 194 yX7_add ∈ wsL_law0 := List.mem_of_getElem? (i := 480) rfl
set_option maxRecDepth 100000 in
theorem wl_481 : Cond.instanceMethod yX7_add ∈ wsL_law0 := List.mem_of_getElem? (i := 481) rfl
set_option maxRecDepth 100000 in
theorem wl_482 : Cond.selects RX7 yX7_add yX7_add ∈ wsL_law0 := List.mem_of_getElem? (i := 482) rfl
set_option maxRecDepth 100000 in
theorem wl_483 : Cond.code yX7_add cX7_add 2 none ∈ wsL_law0 := List.mem_of_getElem? (i := 483) rfl
set_option maxRecDepth 100000 in
theorem wl_484 : Cond.methodLink RX7 168 yX7_name ∈ wsL_law0 := List.mem_of_getElem? (i := 484) rfl
set_option maxRecDepth 100000 in
theorem wl_485 : Cond.instanceMethod yX7_name ∈ wsL_law0 := List.mem_of_getElem? (i := 485) rfl
set_option maxRecDepth 100000 in
theorem wl_486 : Cond.selects RX7 yX7_name yX7_name ∈ wsL_law0 := List.mem_of_getElem? (i := 486) rfl
set_option maxRecDepth 100000 in
theorem wl_487 : Cond.code yX7_name cX7_name 2 (some .int) ∈ wsL_law0 := List.mem_of_getElem? (i := 487) rfl
set_option maxRecDepth 100000 in
theorem wl_488 : Cond.methodLink RX7 197 yX7_piece ∈ wsL_law0 := List.mem_of_getElem? (i := 488) rfl
set_option maxRecDepth 100000 in
theorem wl_489 : Cond.instanceMethod yX7_piece ∈ wsL_law0 := List.mem_of_getElem? (i := 489) rfl
set_option maxRecDepth 100000 in
theorem wl_490 : Cond.selects RX7 yX7_piece yX7_piece ∈ wsL_law0 := List.mem_of_getElem? (i := 490) rfl
set_option maxRecDepth 100000 in
theorem wl_491 : Cond.code yX7_piece cX7_piece 8 none ∈ wsL_law0 := List.mem_of_getElem? (i := 491) rfl
set_option maxRecDepth 100000 in
theorem wl_492 : Cond.methodLink RX7 161 yX7_sumOf ∈ wsL_law0 := List.mem_of_getElem? (i := 492) rfl
set_option maxRecDepth 100000 in
theorem wl_493 : Cond.instanceMethod yX7_sumOf ∈ wsL_law0 := List.mem_of_getElem? (i := 493) rfl
set_option maxRecDepth 100000 in
theorem wl_494 : Cond.selects RX7 yX7_sumOf yX7_sumOf ∈ wsL_law0 := List.mem_of_getElem? (i := 494) rfl
set_option maxRecDepth 100000 in
theorem wl_495 : Cond.code yX7_sumOf cX7_sumOf 6 (some .int) ∈ wsL_law0 := List.mem_of_getElem? (i := 495) rfl
set_option maxRecDepth 100000 in
theorem wl_496 : Cond.methodLink RX7 165 yX7_masked ∈ wsL_law0 := List.mem_of_getElem? (i := 496) rfl
set_option maxRecDepth 100000 in
theorem wl_497 : Cond.instanceMethod yX7_masked ∈ wsL_law0 := List.mem_of_getElem? (i := 497) rfl
set_option maxRecDepth 100000 in
theorem wl_498 : Cond.selects RX7 yX7_masked yX7_masked ∈ wsL_law0 := List.mem_of_getElem? (i := 498) rfl
set_option maxRecDepth 100000 in
theorem wl_499 : Cond.code yX7_masked cX7_masked 2 (some .int) ∈ wsL_law0 := List.mem_of_getElem? (i := 499) rfl
set_option maxRecDepth 100000 in
theorem wl_500 : Cond.constant RX7 160 (-1568478504) ∈ wsL_law0 := List.mem_of_getElem? (i := 500) rfl
set_option maxRecDepth 100000 in
theorem wl_505 : Cond.methodLink RX6 149 yX5_openStream ∈ wsL_law0 := List.mem_of_getElem? (i := 505) rfl
set_option maxRecDepth 100000 in
theorem wl_506 : Cond.instanceMethod yX5_openStream ∈ wsL_law0 := List.mem_of_getElem? (i := 506) rfl
set_option maxRecDepth 100000 in
theorem wl_507 : Cond.selects RX5 yX5_openStream yX5_openStream ∈ wsL_law0 := List.mem_of_getElem? (i := 507) rfl
set_option maxRecDepth 100000 in
theorem wl_508 : Cond.code yX5_openStream cX5_openStream 5 none ∈ wsL_law0 := List.mem_of_getElem? (i := 508) rfl
set_option maxRecDepth 100000 in
theorem wl_509 : Cond.methodLink RX5 46 yX1_shorten ∈ wsL_law0 := List.mem_of_getElem? (i := 509) rfl
set_option maxRecDepth 100000 in
theorem wl_510 : Cond.methodLink RX5 49 yX3_clear ∈ wsL_law0 := List.mem_of_getElem? (i := 510) rfl
set_option maxRecDepth 100000 in
theorem wl_511 : Cond.methodLink RX5 52 yX1_at ∈ wsL_law0 := List.mem_of_getElem? (i := 511) rfl
set_option maxRecDepth 100000 in
theorem wl_512 : Cond.methodLink RX5 56 yX5_fail ∈ wsL_law0 := List.mem_of_getElem? (i := 512) rfl
set_option maxRecDepth 100000 in
theorem wl_513 : Cond.instanceMethod yX5_fail ∈ wsL_law0 := List.mem_of_getElem? (i := 513) rfl
set_option maxRecDepth 100000 in
theorem wl_514 : Cond.selects RX5 yX5_fail yX5_fail ∈ wsL_law0 := List.mem_of_getElem? (i := 514) rfl
set_option maxRecDepth 100000 in
theorem wl_515 : Cond.code yX5_fail cX5_fail 2 none ∈ wsL_law0 := List.mem_of_getElem? (i := 515) rfl
set_option maxRecDepth 100000 in
theorem wl_516 : Cond.methodLink RX5 62 yX5_readHeader ∈ wsL_law0 := List.mem_of_getElem? (i := 516) rfl
set_option maxRecDepth 100000 in
theorem wl_517 : Cond.instanceMethod yX5_readHeader ∈ wsL_law0 := List.mem_of_getElem? (i := 517) rfl
set_option maxRecDepth 100000 in
theorem wl_518 : Cond.selects RX5 yX5_readHeader yX5_readHeader ∈ wsL_law0 := List.mem_of_getElem? (i := 518) rfl
set_option maxRecDepth 100000 in
theorem wl_519 : Cond.code yX5_readHeader cX5_readHeader 2 none ∈ wsL_law0 := List.mem_of_getElem? (i := 519) rfl
set_option maxRecDepth 100000 in
theorem wl_520 : Cond.methodLink RX5 80 yX1_lowestFirst ∈ wsL_law0 := List.mem_of_getElem? (i := 520) rfl
set_option maxRecDepth 100000 in
theorem wl_521 : Cond.methodLink RX5 66 yX5_checkChunk ∈ wsL_law0 := List.mem_of_getElem? (i := 521) rfl
set_option maxRecDepth 100000 in
theorem wl_522 : Cond.instanceMethod yX5_checkChunk ∈ wsL_law0 := List.mem_of_getElem? (i := 522) rfl
set_option maxRecDepth 100000 in
theorem wl_523 : Cond.selects RX5 yX5_checkChunk yX5_checkChunk ∈ wsL_law0 := List.mem_of_getElem? (i := 523) rfl
set_option maxRecDepth 100000 in
theorem wl_524 : Cond.code yX5_checkChunk cX5_checkChunk 2 none ∈ wsL_law0 := List.mem_of_getElem? (i := 524) rfl
set_option maxRecDepth 100000 in
theorem wl_525 : Cond.methodLink RX5 84 yX5_isName ∈ wsL_law0 := List.mem_of_getElem? (i := 525) rfl
set_option maxRecDepth 100000 in
theorem wl_526 : Cond.instanceMethod yX5_isName ∈ wsL_law0 := List.mem_of_getElem? (i := 526) rfl
set_option maxRecDepth 100000 in
theorem wl_527 : Cond.selects RX5 yX5_isName yX5_isName ∈ wsL_law0 := List.mem_of_getElem? (i := 527) rfl
set_option maxRecDepth 100000 in
theorem wl_528 : Cond.code yX5_isName cX5_isName 8 (some .boolean) ∈ wsL_law0 := List.mem_of_getElem? (i := 528) rfl
set_option maxRecDepth 100000 in
theorem wl_529 : Cond.methodLink RX5 69 yX5_tellsBytes ∈ wsL_law0 := List.mem_of_getElem? (i := 529) rfl
set_option maxRecDepth 100000 in
theorem wl_530 : Cond.instanceMethod yX5_tellsBytes ∈ wsL_law0 := List.mem_of_getElem? (i := 530) rfl
set_option maxRecDepth 100000 in
theorem wl_531 : Cond.selects RX5 yX5_tellsBytes yX5_tellsBytes ∈ wsL_law0 := List.mem_of_getElem? (i := 531) rfl
set_option maxRecDepth 100000 in
theorem wl_532 : Cond.code yX5_tellsBytes cX5_tellsBytes 1 (some .boolean) ∈ wsL_law0 := List.mem_of_getElem? (i := 532) rfl
set_option maxRecDepth 100000 in
theorem wl_533 : Cond.methodLink RX5 73 yX5_openBytes ∈ wsL_law0 := List.mem_of_getElem? (i := 533) rfl
set_option maxRecDepth 100000 in
theorem wl_534 : Cond.instanceMethod yX5_openBytes ∈ wsL_law0 := List.mem_of_getElem? (i := 534) rfl
set_option maxRecDepth 100000 in
theorem wl_535 : Cond.selects RX5 yX5_openBytes yX5_openBytes ∈ wsL_law0 := List.mem_of_getElem? (i := 535) rfl
set_option maxRecDepth 100000 in
theorem wl_536 : Cond.code yX5_openBytes cX5_openBytes 5 none ∈ wsL_law0 := List.mem_of_getElem? (i := 536) rfl
set_option maxRecDepth 100000 in
theorem wl_537 : Cond.methodLink RX5 92 yX5_give ∈ wsL_law0 := List.mem_of_getElem? (i := 537) rfl
set_option maxRecDepth 100000 in
theorem wl_538 : Cond.instanceMethod yX5_give ∈ wsL_law0 := List.mem_of_getElem? (i := 538) rfl
set_option maxRecDepth 100000 in
theorem wl_539 : Cond.selects RX5 yX5_give yX5_give ∈ wsL_law0 := List.mem_of_getElem? (i := 539) rfl
set_option maxRecDepth 100000 in
theorem wl_540 : Cond.code yX5_give cX5_give 5 none ∈ wsL_law0 := List.mem_of_getElem? (i := 540) rfl
set_option maxRecDepth 100000 in
theorem wl_541 : Cond.methodLink RX5 104 yX1_hasRoomFor ∈ wsL_law0 := List.mem_of_getElem? (i := 541) rfl
set_option maxRecDepth 100000 in
theorem wl_542 : Cond.methodLink RX5 108 yX1_maskedCrc ∈ wsL_law0 := List.mem_of_getElem? (i := 542) rfl
set_option maxRecDepth 100000 in
theorem wl_543 : Cond.methodLink RX5 112 yX1_putAll ∈ wsL_law0 := List.mem_of_getElem? (i := 543) rfl
set_option maxRecDepth 100000 in
theorem wl_544 : Cond.methodLink RX5 96 yX0_openBlock ∈ wsL_law0 := List.mem_of_getElem? (i := 544) rfl
set_option maxRecDepth 100000 in
theorem wl_545 : Cond.methodLink RX5 77 yX5_keepChunk ∈ wsL_law0 := List.mem_of_getElem? (i := 545) rfl
set_option maxRecDepth 100000 in
theorem wl_546 : Cond.instanceMethod yX5_keepChunk ∈ wsL_law0 := List.mem_of_getElem? (i := 546) rfl
set_option maxRecDepth 100000 in
theorem wl_547 : Cond.selects RX5 yX5_keepChunk yX5_keepChunk ∈ wsL_law0 := List.mem_of_getElem? (i := 547) rfl
set_option maxRecDepth 100000 in
theorem wl_548 : Cond.code yX5_keepChunk cX5_keepChunk 3 none ∈ wsL_law0 := List.mem_of_getElem? (i := 548) rfl
set_option maxRecDepth 100000 in
theorem wl_549 : Cond.methodLink RX5 115 yX3_add ∈ wsL_law0 := List.mem_of_getElem? (i := 549) rfl
set_option maxRecDepth 100000 in
theorem wl_554 : Cond.fieldLink RX7 171 "SnapHouseModel" "foundMany" "I" ∈ wsL_law0 := List.mem_of_getElem? (i := 554) rfl
set_option maxRecDepth 100000 in
theorem wl_555 : Cond.fieldLink RX7 174 "SnapHouseModel" "skips" "I" ∈ wsL_law0 := List.mem_of_getElem? (i := 555) rfl
set_option maxRecDepth 100000 in
theorem wl_556 : Cond.fieldLink RX7 154 "SnapHouseModel" "chunkMany" "I" ∈ wsL_law0 := List.mem_of_getElem? (i := 556) rfl
set_option maxRecDepth 100000 in
theorem wl_557 : Cond.fieldLink RX7 157 "SnapHouseModel" "skippedMany" "I" ∈ wsL_law0 := List.mem_of_getElem? (i := 557) rfl
set_option maxRecDepth 100000 in
theorem wl_558 : Cond.methodLink RX7 177 yX7_chunkAt ∈ wsL_law0 := List.mem_of_getElem? (i := 558) rfl
set_option maxRecDepth 100000 in
theorem wl_559 : Cond.instanceMethod yX7_chunkAt ∈ wsL_law0 := List.mem_of_getElem? (i := 559) rfl
set_option maxRecDepth 100000 in
theorem wl_560 : Cond.selects RX7 yX7_chunkAt yX7_chunkAt ∈ wsL_law0 := List.mem_of_getElem? (i := 560) rfl
set_option maxRecDepth 100000 in
theorem wl_561 : Cond.code yX7_chunkAt cX7_chunkAt 7 (some .int) ∈ wsL_law0 := List.mem_of_getElem? (i := 561) rfl
set_option maxRecDepth 100000 in
theorem wl_562 : Cond.methodLink RX7 180 yX7_isName ∈ wsL_law0 := List.mem_of_getElem? (i := 562) rfl
set_option maxRecDepth 100000 in
theorem wl_563 : Cond.instanceMethod yX7_isName ∈ wsL_law0 := List.mem_of_getElem? (i := 563) rfl
set_option maxRecDepth 100000 in
theorem wl_564 : Cond.selects RX7 yX7_isName yX7_isName ∈ wsL_law0 := List.mem_of_getElem? (i := 564) rfl
set_option maxRecDepth 100000 in
theorem wl_565 : Cond.code yX7_isName cX7_isName 3 (some .boolean) ∈ wsL_law0 := List.mem_of_getElem? (i := 565) rfl
set_option maxRecDepth 100000 in
theorem wl_566 : Cond.methodLink RX7 184 yX7_bytesOf ∈ wsL_law0 := List.mem_of_getElem? (i := 566) rfl
set_option maxRecDepth 100000 in
theorem wl_567 : Cond.instanceMethod yX7_bytesOf ∈ wsL_law0 := List.mem_of_getElem? (i := 567) rfl
set_option maxRecDepth 100000 in
theorem wl_568 : Cond.selects RX7 yX7_bytesOf yX7_bytesOf ∈ wsL_law0 := List.mem_of_getElem? (i := 568) rfl
set_option maxRecDepth 100000 in
theorem wl_569 : Cond.code yX7_bytesOf cX7_bytesOf 8 none ∈ wsL_law0 := List.mem_of_getElem? (i := 569) rfl
set_option maxRecDepth 100000 in
theorem wl_570 : Cond.methodLink RX7 187 yX7_fourAt ∈ wsL_law0 := List.mem_of_getElem? (i := 570) rfl
set_option maxRecDepth 100000 in
theorem wl_571 : Cond.instanceMethod yX7_fourAt ∈ wsL_law0 := List.mem_of_getElem? (i := 571) rfl
set_option maxRecDepth 100000 in
theorem wl_572 : Cond.selects RX7 yX7_fourAt yX7_fourAt ∈ wsL_law0 := List.mem_of_getElem? (i := 572) rfl
set_option maxRecDepth 100000 in
theorem wl_573 : Cond.code yX7_fourAt cX7_fourAt 2 (some .int) ∈ wsL_law0 := List.mem_of_getElem? (i := 573) rfl
set_option maxRecDepth 100000 in
theorem wl_586 : Cond.methodLink RX6 159 yX3_cell ∈ wsL_law0 := List.mem_of_getElem? (i := 586) rfl
set_option maxRecDepth 100000 in
theorem wl_587 : Cond.instanceMethod yX3_cell ∈ wsL_law0 := List.mem_of_getElem? (i := 587) rfl
set_option maxRecDepth 100000 in
theorem wl_588 : Cond.selects RX3 yX3_cell yX3_cell ∈ wsL_law0 := List.mem_of_getElem? (i := 588) rfl
set_option maxRecDepth 100000 in
theorem wl_589 : Cond.code yX3_cell cX3_cell 3 (some .int) ∈ wsL_law0 := List.mem_of_getElem? (i := 589) rfl
set_option maxRecDepth 100000 in
theorem wl_606 : Cond.methodLink RX6 163 yX1_maskedCrc ∈ wsL_law0 := List.mem_of_getElem? (i := 606) rfl
set_option maxRecDepth 100000 in
theorem wl_607 : Cond.methodLink RX6 166 yX1_crc ∈ wsL_law0 := List.mem_of_getElem? (i := 607) rfl
abbrev wA_J6_rotateLeft_7cf53 : List Cond := .code yJ6_rotateLeft_7cf53 cJ6_rotateLeft_7cf53 2 (some .int) :: wsL_law0
abbrev wA_X0_backOf : List Cond := .code yX0_backOf cX0_backOf 4 (some .long) :: wsL_law0
abbrev wA_X0_bytesBehindTag : List Cond := .code yX0_bytesBehindTag cX0_bytesBehindTag 2 (some .int) :: wsL_law0
abbrev wA_X0_checkElement : List Cond := .code yX0_checkElement cX0_checkElement 1 none :: wsL_law0
abbrev wA_X0_fail : List Cond := .code yX0_fail cX0_fail 3 none :: wsL_law0
abbrev wA_X0_giveElement : List Cond := .code yX0_giveElement cX0_giveElement 4 none :: wsL_law0
abbrev wA_X0_openBlock : List Cond := .code yX0_openBlock cX0_openBlock 5 none :: wsL_law0
abbrev wA_X0_readElement : List Cond := .code yX0_readElement cX0_readElement 7 none :: wsL_law0
abbrev wA_X0_readLength : List Cond := .code yX0_readLength cX0_readLength 7 none :: wsL_law0
abbrev wA_X0_sizeOf : List Cond := .code yX0_sizeOf cX0_sizeOf 4 (some .long) :: wsL_law0
abbrev wA_X1_at : List Cond := .code yX1_at cX1_at 2 (some .int) :: wsL_law0
abbrev wA_X1_become : List Cond := .code yX1_become cX1_become 2 none :: wsL_law0
abbrev wA_X1_change : List Cond := .code yX1_change cX1_change 3 none :: wsL_law0
abbrev wA_X1_crc : List Cond := .code yX1_crc cX1_crc 5 (some .int) :: wsL_law0
abbrev wA_X1_fourFrom : List Cond := .code yX1_fourFrom cX1_fourFrom 2 (some .int) :: wsL_law0
abbrev wA_X1_has : List Cond := .code yX1_has cX1_has 3 (some .boolean) :: wsL_law0
abbrev wA_X1_hasPlace : List Cond := .code yX1_hasPlace cX1_hasPlace 2 (some .boolean) :: wsL_law0
abbrev wA_X1_hasRoomFor : List Cond := .code yX1_hasRoomFor cX1_hasRoomFor 2 (some .boolean) :: wsL_law0
abbrev wA_X1_lowestFirst : List Cond := .code yX1_lowestFirst cX1_lowestFirst 6 (some .long) :: wsL_law0
abbrev wA_X1_maskedCrc : List Cond := .code yX1_maskedCrc cX1_maskedCrc 3 (some .int) :: wsL_law0
abbrev wA_X1_put : List Cond := .code yX1_put cX1_put 2 none :: wsL_law0
abbrev wA_X1_putAll : List Cond := .code yX1_putAll cX1_putAll 4 none :: wsL_law0
abbrev wA_X1_putHighestFirst : List Cond := .code yX1_putHighestFirst cX1_putHighestFirst 2 none :: wsL_law0
abbrev wA_X1_putLowestFirst : List Cond := .code yX1_putLowestFirst cX1_putLowestFirst 4 none :: wsL_law0
abbrev wA_X1_putOwn : List Cond := .code yX1_putOwn cX1_putOwn 4 none :: wsL_law0
abbrev wA_X1_shorten : List Cond := .code yX1_shorten cX1_shorten 2 none :: wsL_law0
abbrev wA_X2_countAlike : List Cond := .code yX2_countAlike cX2_countAlike 5 (some .int) :: wsL_law0
abbrev wA_X2_freeSlots : List Cond := .code yX2_freeSlots cX2_freeSlots 4 none :: wsL_law0
abbrev wA_X2_noteAndFind : List Cond := .code yX2_noteAndFind cX2_noteAndFind 7 (some .int) :: wsL_law0
abbrev wA_X2_pressBlock : List Cond := .code yX2_pressBlock cX2_pressBlock 9 none :: wsL_law0
abbrev wA_X2_putCopies : List Cond := .code yX2_putCopies cX2_putCopies 4 none :: wsL_law0
abbrev wA_X2_putCopy : List Cond := .code yX2_putCopy cX2_putCopy 3 none :: wsL_law0
abbrev wA_X2_putLength : List Cond := .code yX2_putLength cX2_putLength 4 none :: wsL_law0
abbrev wA_X2_putLiteral : List Cond := .code yX2_putLiteral cX2_putLiteral 6 none :: wsL_law0
abbrev wA_X3_add : List Cond := .code yX3_add cX3_add 8 none :: wsL_law0
abbrev wA_X3_become : List Cond := .code yX3_become cX3_become 2 none :: wsL_law0
abbrev wA_X3_cell : List Cond := .code yX3_cell cX3_cell 3 (some .int) :: wsL_law0
abbrev wA_X3_clear : List Cond := .code yX3_clear cX3_clear 1 none :: wsL_law0
abbrev wA_X4_makeStream : List Cond := .code yX4_makeStream cX4_makeStream 8 (some .boolean) :: wsL_law0
abbrev wA_X4_putHeader : List Cond := .code yX4_putHeader cX4_putHeader 3 none :: wsL_law0
abbrev wA_X4_putPiece : List Cond := .code yX4_putPiece cX4_putPiece 7 (some .boolean) :: wsL_law0
abbrev wA_X5_checkChunk : List Cond := .code yX5_checkChunk cX5_checkChunk 2 none :: wsL_law0
abbrev wA_X5_fail : List Cond := .code yX5_fail cX5_fail 2 none :: wsL_law0
abbrev wA_X5_give : List Cond := .code yX5_give cX5_give 5 none :: wsL_law0
abbrev wA_X5_isName : List Cond := .code yX5_isName cX5_isName 8 (some .boolean) :: wsL_law0
abbrev wA_X5_keepChunk : List Cond := .code yX5_keepChunk cX5_keepChunk 3 none :: wsL_law0
abbrev wA_X5_openBytes : List Cond := .code yX5_openBytes cX5_openBytes 5 none :: wsL_law0
abbrev wA_X5_openStream : List Cond := .code yX5_openStream cX5_openStream 5 none :: wsL_law0
abbrev wA_X5_readHeader : List Cond := .code yX5_readHeader cX5_readHeader 2 none :: wsL_law0
abbrev wA_X5_tellsBytes : List Cond := .code yX5_tellsBytes cX5_tellsBytes 1 (some .boolean) :: wsL_law0
abbrev wA_X6_about : List Cond := .code yX6_about cX6_about 2 (some .int) :: wsL_law0
abbrev wA_X6_again : List Cond := .code yX6_again cX6_again 3 (some .int) :: wsL_law0
abbrev wA_X6_chunk : List Cond := .code yX6_chunk cX6_chunk 3 (some .int) :: wsL_law0
abbrev wA_X6_cut : List Cond := .code yX6_cut cX6_cut 2 (some .int) :: wsL_law0
abbrev wA_X6_element : List Cond := .code yX6_element cX6_element 3 (some .int) :: wsL_law0
abbrev wA_X6_fault : List Cond := .code yX6_fault cX6_fault 2 (some .int) :: wsL_law0
abbrev wA_X6_feed : List Cond := .code yX6_feed cX6_feed 6 (some .int) :: wsL_law0
abbrev wA_X6_fill : List Cond := .code yX6_fill cX6_fill 4 (some .int) :: wsL_law0
abbrev wA_X6_isByte : List Cond := .code yX6_isByte cX6_isByte 1 (some .boolean) :: wsL_law0
abbrev wA_X6_keepFault : List Cond := .code yX6_keepFault cX6_keepFault 5 none :: wsL_law0
abbrev wA_X6_open : List Cond := .code yX6_open cX6_open 1 (some .int) :: wsL_law0
abbrev wA_X6_press : List Cond := .code yX6_press cX6_press 1 (some .int) :: wsL_law0
abbrev wA_X6_set : List Cond := .code yX6_set cX6_set 4 (some .int) :: wsL_law0
abbrev wA_X6_stream : List Cond := .code yX6_stream cX6_stream 2 (some .int) :: wsL_law0
abbrev wA_X6_sum : List Cond := .code yX6_sum cX6_sum 4 (some .int) :: wsL_law0
abbrev wA_X6_take : List Cond := .code yX6_take cX6_take 1 (some .int) :: wsL_law0
abbrev wA_X6_tape : List Cond := .code yX6_tape cX6_tape 2 (some .int) :: wsL_law0
abbrev wA_X6_unstream : List Cond := .code yX6_unstream cX6_unstream 1 (some .int) :: wsL_law0
abbrev wA_X7_about : List Cond := .code yX7_about cX7_about 2 (some .int) :: wsL_law0
abbrev wA_X7_add : List Cond := .code yX7_add cX7_add 2 none :: wsL_law0
abbrev wA_X7_again : List Cond := .code yX7_again cX7_again 4 (some .int) :: wsL_law0
abbrev wA_X7_areFour : List Cond := .code yX7_areFour cX7_areFour 3 (some .boolean) :: wsL_law0
abbrev wA_X7_at : List Cond := .code yX7_at cX7_at 2 (some .int) :: wsL_law0
abbrev wA_X7_bad : List Cond := .code yX7_bad cX7_bad 3 none :: wsL_law0
abbrev wA_X7_bytesOf : List Cond := .code yX7_bytesOf cX7_bytesOf 8 none :: wsL_law0
abbrev wA_X7_chunk : List Cond := .code yX7_chunk cX7_chunk 3 (some .int) :: wsL_law0
abbrev wA_X7_chunkAt : List Cond := .code yX7_chunkAt cX7_chunkAt 7 (some .int) :: wsL_law0
abbrev wA_X7_copies : List Cond := .code yX7_copies cX7_copies 4 none :: wsL_law0
abbrev wA_X7_copyTwo : List Cond := .code yX7_copyTwo cX7_copyTwo 3 none :: wsL_law0
abbrev wA_X7_cut : List Cond := .code yX7_cut cX7_cut 2 (some .int) :: wsL_law0
abbrev wA_X7_element : List Cond := .code yX7_element cX7_element 3 (some .int) :: wsL_law0
abbrev wA_X7_elementAt : List Cond := .code yX7_elementAt cX7_elementAt 17 (some .int) :: wsL_law0
abbrev wA_X7_fault : List Cond := .code yX7_fault cX7_fault 2 (some .int) :: wsL_law0
abbrev wA_X7_feed : List Cond := .code yX7_feed cX7_feed 6 (some .int) :: wsL_law0
abbrev wA_X7_fill : List Cond := .code yX7_fill cX7_fill 4 (some .int) :: wsL_law0
abbrev wA_X7_fourAt : List Cond := .code yX7_fourAt cX7_fourAt 2 (some .int) :: wsL_law0
abbrev wA_X7_give : List Cond := .code yX7_give cX7_give 4 none :: wsL_law0
abbrev wA_X7_isName : List Cond := .code yX7_isName cX7_isName 3 (some .boolean) :: wsL_law0
abbrev wA_X7_keyOf : List Cond := .code yX7_keyOf cX7_keyOf 3 (some .int) :: wsL_law0
abbrev wA_X7_literal : List Cond := .code yX7_literal cX7_literal 7 none :: wsL_law0
abbrev wA_X7_masked : List Cond := .code yX7_masked cX7_masked 2 (some .int) :: wsL_law0
abbrev wA_X7_name : List Cond := .code yX7_name cX7_name 2 (some .int) :: wsL_law0
abbrev wA_X7_open : List Cond := .code yX7_open cX7_open 2 (some .int) :: wsL_law0
abbrev wA_X7_openPart : List Cond := .code yX7_openPart cX7_openPart 9 none :: wsL_law0
abbrev wA_X7_out : List Cond := .code yX7_out cX7_out 2 (some .int) :: wsL_law0
abbrev wA_X7_pack : List Cond := .code yX7_pack cX7_pack 2 none :: wsL_law0
abbrev wA_X7_piece : List Cond := .code yX7_piece cX7_piece 8 none :: wsL_law0
abbrev wA_X7_press : List Cond := .code yX7_press cX7_press 1 (some .int) :: wsL_law0
abbrev wA_X7_pressPart : List Cond := .code yX7_pressPart cX7_pressPart 11 none :: wsL_law0
abbrev wA_X7_set : List Cond := .code yX7_set cX7_set 4 (some .int) :: wsL_law0
abbrev wA_X7_stream : List Cond := .code yX7_stream cX7_stream 3 (some .int) :: wsL_law0
abbrev wA_X7_sum : List Cond := .code yX7_sum cX7_sum 5 (some .int) :: wsL_law0
abbrev wA_X7_sumOf : List Cond := .code yX7_sumOf cX7_sumOf 6 (some .int) :: wsL_law0
abbrev wA_X7_take : List Cond := .code yX7_take cX7_take 2 (some .int) :: wsL_law0
abbrev wA_X7_tape : List Cond := .code yX7_tape cX7_tape 2 (some .int) :: wsL_law0
abbrev wA_X7_thrown : List Cond := .code yX7_thrown cX7_thrown 1 (some .int) :: wsL_law0
abbrev wA_X7_told : List Cond := .code yX7_told cX7_told 5 none :: wsL_law0
abbrev wA_X7_unstream : List Cond := .code yX7_unstream cX7_unstream 3 (some .int) :: wsL_law0
abbrev wA_X7_word : List Cond := .code yX7_word cX7_word 3 none :: wsL_law0
