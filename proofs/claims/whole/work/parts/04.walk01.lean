abbrev rm_X1_shorten : Room := { frames := 1, cells := 0, slots := 0, locals := 22 }

set_option maxHeartbeats 4000000 in
set_option maxRecDepth 100000 in
/-- SnapHouse$Bytes.shorten(I)V -/
theorem c_X1_shorten (l : Launch) (g : GX) (h_o h_o_row : Nat) {K : Nat} (o_row_n : Nat) (o_row_c : Nat → Int32) {o_count : Int32} {p1 : Int32} {o : Int32} (hF : f_X1_shorten K o_count p1 = some o) : mcV g l yX1_shorten wA_X1_shorten rm_X1_shorten [.ref h_o, .int p1] (wF_Bytes g h_o h_o_row o_count o_row_n o_row_c) (wF_Bytes g h_o h_o_row o o_row_n o_row_c) 0 0 := by
  refine x_start (cc := cX1_shorten) (maxL := 2) (ret := none) (by decide) rfl (Nat.le_of_ble_eq_true rfl) ?_
  intro p e s m below meth c ls C0 hW hl
  have hl : lv_has ls 2 [(0, .ref h_o), (1, .int p1)] := hl
  unfold f_X1_shorten at hF
  refine lv_aload_n C0.x C0.b dX1_shorten_0 rfl (lv_at hl 0 rfl) ?_
  refine lv_iconst (v := (0 : Int32)) C0.x C0.b dX1_shorten_1 (by decide) ?_
  refine lv_iload_n C0.x C0.b dX1_shorten_2 rfl (lv_at hl 1 rfl) ?_
  obtain ⟨r1, e2, hF⟩ := ob hF
  refine go_i C0 hW [0, 1] [] [0, 1] (va_runV (As := [.int (0 : Int32), .int p1]) (rest := []) C0.fix (c_X1_has l g h_o h_o_row o_row_n o_row_c e2 _) (cwV 2 C0.ts (gw_V wl_196 wl_189 wl_190 wl_15 wl_191) rfl rfl rfl (by decide +kernel) ⟨Nat.le_of_ble_eq_true rfl, Nat.le_of_ble_eq_true rfl⟩) (pcv_of C0 hW [0, 1] rfl (by decide) (q0 := 0) rfl rfl) rfl rfl hl.1 rfl (lv_room (Nat.le_of_ble_eq_true rfl)) dX1_shorten_3 ⟨Nat.le_of_ble_eq_true rfl, Nat.le_of_ble_eq_true rfl⟩) rfl rfl (by decide) (by decide) (ws' := (wF_Bytes g h_o h_o_row o_count o_row_n o_row_c)) rfl (by decide) (fun H locs hW => ?_)
  refine lv_if_eq (tgt := 14) C0.x C0.b dX1_shorten_6 (by decide) (fun c3 => ?_) (fun c3 => ?_)
  · have hF := it_t hF c3
    obtain rfl := Option.some.inj hF
    exact x_vret C0 hW dX1_shorten_14
  · have hF := it_f hF c3
    refine lv_aload_n C0.x C0.b dX1_shorten_9 rfl (lv_at hl 0 rfl) ?_
    refine lv_iload_n C0.x C0.b dX1_shorten_10 rfl (lv_at hl 1 rfl) ?_
    refine x_put C0 hW iw_X1 tyX1 tyX1_ok nmX1 0 rfl rfl 1 (by decide) (List.mem_cons_of_mem _ wl_47) rfl (ty := .int) (v := .int p1) (by decide +kernel) rfl rfl (Nat.le_of_ble_eq_true rfl) dX1_shorten_11 (ws' := (wF_Bytes g h_o h_o_row p1 o_row_n o_row_c)) rfl (fun H locs hW => ?_)
    obtain rfl := Option.some.inj hF
    exact x_vret C0 hW dX1_shorten_14

abbrev rm_X6_cut : Room := { frames := 2, cells := 0, slots := 0, locals := 43 }

set_option maxHeartbeats 4000000 in
set_option maxRecDepth 100000 in
/-- SnapHouse.cut(I)I -/
theorem c_X6_cut (l : Launch) (g : GX) (h_o h_o_theTape h_o_theTape_row h_o_theOut h_o_theOut_row h_o_presser h_o_presser_block h_o_presser_block_row h_o_presser_slots h_o_streamMaker h_o_streamMaker_made h_o_streamMaker_made_row h_o_blockOpener h_o_blockOpener_given h_o_blockOpener_given_row h_o_blockOpener_elements h_o_blockOpener_elements_cells h_o_streamOpener h_o_streamOpener_given h_o_streamOpener_given_row h_o_streamOpener_chunks h_o_streamOpener_chunks_cells h_o_keptElements h_o_keptElements_cells h_o_keptChunks h_o_keptChunks_cells : Nat) {K : Nat} (o_faultNumber : Int32) (o_faultPlace : Int32) (o_faultOfBlock : Int32) (o_faultPlaceInBlock : Int32) (o_theTape_row_n : Nat) (o_theTape_row_c : Nat → Int32) (o_theOut_count : Int32) (o_theOut_row_n : Nat) (o_theOut_row_c : Nat → Int32) (o_presser_slotMask : Int32) (o_presser_block_count : Int32) (o_presser_block_row_n : Nat) (o_presser_block_row_c : Nat → Int32) (o_presser_slots_n : Nat) (o_presser_slots_c : Nat → Int32) (o_streamMaker_made_count : Int32) (o_streamMaker_made_row_n : Nat) (o_streamMaker_made_row_c : Nat → Int32) (o_blockOpener_fault : Int32) (o_blockOpener_place : Int32) (o_blockOpener_start : Int32) (o_blockOpener_end : Int32) (o_blockOpener_next : Int32) (o_blockOpener_length : Int32) (o_blockOpener_sort : Int32) (o_blockOpener_body : Int32) (o_blockOpener_size : Int64) (o_blockOpener_back : Int64) (o_blockOpener_given_count : Int32) (o_blockOpener_given_row_n : Nat) (o_blockOpener_given_row_c : Nat → Int32) (o_blockOpener_elements_count : Int32) (o_blockOpener_elements_marked : Int32) (o_blockOpener_elements_cells_n : Nat) (o_blockOpener_elements_cells_c : Nat → Int32) (o_streamOpener_fault : Int32) (o_streamOpener_place : Int32) (o_streamOpener_next : Int32) (o_streamOpener_type : Int32) (o_streamOpener_body : Int32) (o_streamOpener_size : Int32) (o_streamOpener_given_count : Int32) (o_streamOpener_given_row_n : Nat) (o_streamOpener_given_row_c : Nat → Int32) (o_streamOpener_chunks_count : Int32) (o_streamOpener_chunks_marked : Int32) (o_streamOpener_chunks_cells_n : Nat) (o_streamOpener_chunks_cells_c : Nat → Int32) (o_keptElements_count : Int32) (o_keptElements_marked : Int32) (o_keptElements_cells_n : Nat) (o_keptElements_cells_c : Nat → Int32) (o_keptChunks_count : Int32) (o_keptChunks_marked : Int32) (o_keptChunks_cells_n : Nat) (o_keptChunks_cells_c : Nat → Int32) {o_theTape_count : Int32} {p1 : Int32} {o : Int32 × Int32} (hF : f_X6_cut K o_theTape_count p1 = some o) : mcI g l yX6_cut wA_X6_cut rm_X6_cut [.ref h_o, .int p1] (wF_SnapHouse g h_o h_o_theTape h_o_theTape_row h_o_theOut h_o_theOut_row h_o_presser h_o_presser_block h_o_presser_block_row h_o_presser_slots h_o_streamMaker h_o_streamMaker_made h_o_streamMaker_made_row h_o_blockOpener h_o_blockOpener_given h_o_blockOpener_given_row h_o_blockOpener_elements h_o_blockOpener_elements_cells h_o_streamOpener h_o_streamOpener_given h_o_streamOpener_given_row h_o_streamOpener_chunks h_o_streamOpener_chunks_cells h_o_keptElements h_o_keptElements_cells h_o_keptChunks h_o_keptChunks_cells o_faultNumber o_faultPlace o_faultOfBlock o_faultPlaceInBlock o_theTape_count o_theTape_row_n o_theTape_row_c o_theOut_count o_theOut_row_n o_theOut_row_c o_presser_slotMask o_presser_block_count o_presser_block_row_n o_presser_block_row_c o_presser_slots_n o_presser_slots_c o_streamMaker_made_count o_streamMaker_made_row_n o_streamMaker_made_row_c o_blockOpener_fault o_blockOpener_place o_blockOpener_start o_blockOpener_end o_blockOpener_next o_blockOpener_length o_blockOpener_sort o_blockOpener_body o_blockOpener_size o_blockOpener_back o_blockOpener_given_count o_blockOpener_given_row_n o_blockOpener_given_row_c o_blockOpener_elements_count o_blockOpener_elements_marked o_blockOpener_elements_cells_n o_blockOpener_elements_cells_c o_streamOpener_fault o_streamOpener_place o_streamOpener_next o_streamOpener_type o_streamOpener_body o_streamOpener_size o_streamOpener_given_count o_streamOpener_given_row_n o_streamOpener_given_row_c o_streamOpener_chunks_count o_streamOpener_chunks_marked o_streamOpener_chunks_cells_n o_streamOpener_chunks_cells_c o_keptElements_count o_keptElements_marked o_keptElements_cells_n o_keptElements_cells_c o_keptChunks_count o_keptChunks_marked o_keptChunks_cells_n o_keptChunks_cells_c) o.1 (wF_SnapHouse g h_o h_o_theTape h_o_theTape_row h_o_theOut h_o_theOut_row h_o_presser h_o_presser_block h_o_presser_block_row h_o_presser_slots h_o_streamMaker h_o_streamMaker_made h_o_streamMaker_made_row h_o_blockOpener h_o_blockOpener_given h_o_blockOpener_given_row h_o_blockOpener_elements h_o_blockOpener_elements_cells h_o_streamOpener h_o_streamOpener_given h_o_streamOpener_given_row h_o_streamOpener_chunks h_o_streamOpener_chunks_cells h_o_keptElements h_o_keptElements_cells h_o_keptChunks h_o_keptChunks_cells o_faultNumber o_faultPlace o_faultOfBlock o_faultPlaceInBlock o.2 o_theTape_row_n o_theTape_row_c o_theOut_count o_theOut_row_n o_theOut_row_c o_presser_slotMask o_presser_block_count o_presser_block_row_n o_presser_block_row_c o_presser_slots_n o_presser_slots_c o_streamMaker_made_count o_streamMaker_made_row_n o_streamMaker_made_row_c o_blockOpener_fault o_blockOpener_place o_blockOpener_start o_blockOpener_end o_blockOpener_next o_blockOpener_length o_blockOpener_sort o_blockOpener_body o_blockOpener_size o_blockOpener_back o_blockOpener_given_count o_blockOpener_given_row_n o_blockOpener_given_row_c o_blockOpener_elements_count o_blockOpener_elements_marked o_blockOpener_elements_cells_n o_blockOpener_elements_cells_c o_streamOpener_fault o_streamOpener_place o_streamOpener_next o_streamOpener_type o_streamOpener_body o_streamOpener_size o_streamOpener_given_count o_streamOpener_given_row_n o_streamOpener_given_row_c o_streamOpener_chunks_count o_streamOpener_chunks_marked o_streamOpener_chunks_cells_n o_streamOpener_chunks_cells_c o_keptElements_count o_keptElements_marked o_keptElements_cells_n o_keptElements_cells_c o_keptChunks_count o_keptChunks_marked o_keptChunks_cells_n o_keptChunks_cells_c) 0 0 := by
  refine x_start (cc := cX6_cut) (maxL := 2) (ret := (some .int)) (by decide) rfl (Nat.le_of_ble_eq_true rfl) ?_
  intro p e s m below meth c ls C0 hW hl
  have hl : lv_has ls 2 [(0, .ref h_o), (1, .int p1)] := hl
  unfold f_X6_cut at hF
  refine lv_aload_n C0.x C0.b dX6_cut_0 rfl (lv_at hl 0 rfl) ?_
  refine x_get C0 hW iw_X6 0 rfl rfl 0 (by decide) (List.mem_cons_of_mem _ wl_16) (v := .ref h_o_theTape) rfl dX6_cut_1 ?_
  refine lv_iconst (v := (0 : Int32)) C0.x C0.b dX6_cut_4 (by decide) ?_
  refine lv_iload_n C0.x C0.b dX6_cut_5 rfl (lv_at hl 1 rfl) ?_
  obtain ⟨r1, e2, hF⟩ := ob hF
  refine go_i C0 hW [1, 2] [0, 3, 4, 5, 6, 7, 8, 9, 10, 11, 12, 13, 14, 15, 16, 17, 18, 19, 20, 21, 22, 23, 24, 25] [0, 24, 25, 1, 2, 3, 4, 5, 6, 7, 8, 9, 10, 11, 12, 13, 14, 15, 16, 17, 18, 19, 20, 21, 22, 23] (va_runV (As := [.int (0 : Int32), .int p1]) (rest := []) C0.fix (c_X1_has l g h_o_theTape h_o_theTape_row o_theTape_row_n o_theTape_row_c e2 _) (cwV 2 C0.ts (gw_V wl_188 wl_189 wl_190 wl_15 wl_191) rfl rfl rfl (by decide +kernel) ⟨Nat.le_of_ble_eq_true rfl, Nat.le_of_ble_eq_true rfl⟩) (pcv_of C0 hW [1, 2] rfl (by decide) (q0 := 1) rfl rfl) rfl rfl hl.1 rfl (lv_room (Nat.le_of_ble_eq_true rfl)) dX6_cut_6 ⟨Nat.le_of_ble_eq_true rfl, Nat.le_of_ble_eq_true rfl⟩) rfl rfl (by decide) (by decide) (ws' := (wF_SnapHouse g h_o h_o_theTape h_o_theTape_row h_o_theOut h_o_theOut_row h_o_presser h_o_presser_block h_o_presser_block_row h_o_presser_slots h_o_streamMaker h_o_streamMaker_made h_o_streamMaker_made_row h_o_blockOpener h_o_blockOpener_given h_o_blockOpener_given_row h_o_blockOpener_elements h_o_blockOpener_elements_cells h_o_streamOpener h_o_streamOpener_given h_o_streamOpener_given_row h_o_streamOpener_chunks h_o_streamOpener_chunks_cells h_o_keptElements h_o_keptElements_cells h_o_keptChunks h_o_keptChunks_cells o_faultNumber o_faultPlace o_faultOfBlock o_faultPlaceInBlock o_theTape_count o_theTape_row_n o_theTape_row_c o_theOut_count o_theOut_row_n o_theOut_row_c o_presser_slotMask o_presser_block_count o_presser_block_row_n o_presser_block_row_c o_presser_slots_n o_presser_slots_c o_streamMaker_made_count o_streamMaker_made_row_n o_streamMaker_made_row_c o_blockOpener_fault o_blockOpener_place o_blockOpener_start o_blockOpener_end o_blockOpener_next o_blockOpener_length o_blockOpener_sort o_blockOpener_body o_blockOpener_size o_blockOpener_back o_blockOpener_given_count o_blockOpener_given_row_n o_blockOpener_given_row_c o_blockOpener_elements_count o_blockOpener_elements_marked o_blockOpener_elements_cells_n o_blockOpener_elements_cells_c o_streamOpener_fault o_streamOpener_place o_streamOpener_next o_streamOpener_type o_streamOpener_body o_streamOpener_size o_streamOpener_given_count o_streamOpener_given_row_n o_streamOpener_given_row_c o_streamOpener_chunks_count o_streamOpener_chunks_marked o_streamOpener_chunks_cells_n o_streamOpener_chunks_cells_c o_keptElements_count o_keptElements_marked o_keptElements_cells_n o_keptElements_cells_c o_keptChunks_count o_keptChunks_marked o_keptChunks_cells_n o_keptChunks_cells_c)) rfl (by decide) (fun H locs hW => ?_)
  refine lv_if_ne (tgt := 14) C0.x C0.b dX6_cut_9 (by decide) (fun c3 => ?_) (fun c3 => ?_)
  · have hF := it_f hF c3
    refine lv_aload_n C0.x C0.b dX6_cut_14 rfl (lv_at hl 0 rfl) ?_
    refine x_get C0 hW iw_X6 0 rfl rfl 0 (by decide) (List.mem_cons_of_mem _ wl_16) (v := .ref h_o_theTape) rfl dX6_cut_15 ?_
    refine lv_iload_n C0.x C0.b dX6_cut_18 rfl (lv_at hl 1 rfl) ?_
    obtain ⟨r4, e5, hF⟩ := ob hF
    refine go_v C0 hW [1, 2] [0, 3, 4, 5, 6, 7, 8, 9, 10, 11, 12, 13, 14, 15, 16, 17, 18, 19, 20, 21, 22, 23, 24, 25] [0, 24, 25, 1, 2, 3, 4, 5, 6, 7, 8, 9, 10, 11, 12, 13, 14, 15, 16, 17, 18, 19, 20, 21, 22, 23] (va_runV (As := [.int p1]) (rest := []) C0.fix (c_X1_shorten l g h_o_theTape h_o_theTape_row o_theTape_row_n o_theTape_row_c e5 _) (cwV 1 C0.ts (gw_V wl_192 wl_193 wl_194 wl_15 wl_195) rfl rfl rfl (by decide +kernel) ⟨Nat.le_of_ble_eq_true rfl, Nat.le_of_ble_eq_true rfl⟩) (pcv_of C0 hW [1, 2] rfl (by decide) (q0 := 1) rfl rfl) rfl rfl hl.1 rfl (lv_room (Nat.le_of_ble_eq_true rfl)) dX6_cut_19 ⟨Nat.le_of_ble_eq_true rfl, Nat.le_of_ble_eq_true rfl⟩) rfl rfl (by decide) (by decide) (ws' := (wF_SnapHouse g h_o h_o_theTape h_o_theTape_row h_o_theOut h_o_theOut_row h_o_presser h_o_presser_block h_o_presser_block_row h_o_presser_slots h_o_streamMaker h_o_streamMaker_made h_o_streamMaker_made_row h_o_blockOpener h_o_blockOpener_given h_o_blockOpener_given_row h_o_blockOpener_elements h_o_blockOpener_elements_cells h_o_streamOpener h_o_streamOpener_given h_o_streamOpener_given_row h_o_streamOpener_chunks h_o_streamOpener_chunks_cells h_o_keptElements h_o_keptElements_cells h_o_keptChunks h_o_keptChunks_cells o_faultNumber o_faultPlace o_faultOfBlock o_faultPlaceInBlock r4 o_theTape_row_n o_theTape_row_c o_theOut_count o_theOut_row_n o_theOut_row_c o_presser_slotMask o_presser_block_count o_presser_block_row_n o_presser_block_row_c o_presser_slots_n o_presser_slots_c o_streamMaker_made_count o_streamMaker_made_row_n o_streamMaker_made_row_c o_blockOpener_fault o_blockOpener_place o_blockOpener_start o_blockOpener_end o_blockOpener_next o_blockOpener_length o_blockOpener_sort o_blockOpener_body o_blockOpener_size o_blockOpener_back o_blockOpener_given_count o_blockOpener_given_row_n o_blockOpener_given_row_c o_blockOpener_elements_count o_blockOpener_elements_marked o_blockOpener_elements_cells_n o_blockOpener_elements_cells_c o_streamOpener_fault o_streamOpener_place o_streamOpener_next o_streamOpener_type o_streamOpener_body o_streamOpener_size o_streamOpener_given_count o_streamOpener_given_row_n o_streamOpener_given_row_c o_streamOpener_chunks_count o_streamOpener_chunks_marked o_streamOpener_chunks_cells_n o_streamOpener_chunks_cells_c o_keptElements_count o_keptElements_marked o_keptElements_cells_n o_keptElements_cells_c o_keptChunks_count o_keptChunks_marked o_keptChunks_cells_n o_keptChunks_cells_c)) rfl (by decide) (fun H locs hW => ?_)
    refine lv_iload_n C0.x C0.b dX6_cut_22 rfl (lv_at hl 1 rfl) ?_
    obtain rfl := Option.some.inj hF
    exact x_iret C0 hW rfl rfl dX6_cut_23
  · have hF := it_t hF c3
    refine lv_iconst (v := (-1 : Int32)) C0.x C0.b dX6_cut_12 (by decide) ?_
    obtain rfl := Option.some.inj hF
    exact x_iret C0 hW rfl rfl dX6_cut_13

abbrev rm_X1_at : Room := { frames := 0, cells := 0, slots := 0, locals := 0 }

set_option maxHeartbeats 4000000 in
set_option maxRecDepth 100000 in
/-- SnapHouse$Bytes.at(I)I -/
theorem c_X1_at (l : Launch) (g : GX) (h_o h_o_row : Nat) {K : Nat} {o_count : Int32} {o_row_n : Nat} {o_row_c : Nat → Int32} {p1 : Int32} {o : Int32} (hF : f_X1_at K o_count o_row_n o_row_c p1 = some o) : mcI g l yX1_at wA_X1_at rm_X1_at [.ref h_o, .int p1] (wF_Bytes g h_o h_o_row o_count o_row_n o_row_c) o (wF_Bytes g h_o h_o_row o_count o_row_n o_row_c) 0 0 := by
  refine x_start (cc := cX1_at) (maxL := 2) (ret := (some .int)) (by decide) rfl (Nat.le_of_ble_eq_true rfl) ?_
  intro p e s m below meth c ls C0 hW hl
  have hl : lv_has ls 2 [(0, .ref h_o), (1, .int p1)] := hl
  unfold f_X1_at at hF
  refine lv_iload_n C0.x C0.b dX1_at_0 rfl (lv_at hl 1 rfl) ?_
  refine lv_if_lt (tgt := 21) C0.x C0.b dX1_at_1 (by decide) (fun c1 => ?_) (fun c1 => ?_)
  · have hF := it_t hF c1
    refine lv_iconst (v := (-1 : Int32)) C0.x C0.b dX1_at_21 (by decide) ?_
    obtain rfl := Option.some.inj hF
    exact x_iret C0 hW rfl rfl dX1_at_22
  · have hF := it_f hF c1
    refine lv_iload_n C0.x C0.b dX1_at_4 rfl (lv_at hl 1 rfl) ?_
    refine lv_aload_n C0.x C0.b dX1_at_5 rfl (lv_at hl 0 rfl) ?_
    refine x_get C0 hW iw_X1 0 rfl rfl 1 (by decide) (List.mem_cons_of_mem _ wl_47) (v := .int o_count) rfl dX1_at_6 ?_
    refine lv_icmp_ge (tgt := 21) C0.x C0.b dX1_at_9 (by decide) (fun c2 => ?_) (fun c2 => ?_)
    · have hF := it_t hF c2
      refine lv_iconst (v := (-1 : Int32)) C0.x C0.b dX1_at_21 (by decide) ?_
      obtain rfl := Option.some.inj hF
      exact x_iret C0 hW rfl rfl dX1_at_22
    · have hF := it_f hF c2
      refine lv_aload_n C0.x C0.b dX1_at_12 rfl (lv_at hl 0 rfl) ?_
      refine x_get C0 hW iw_X1 0 rfl rfl 0 (by decide) (List.mem_cons_of_mem _ wl_53) (v := .ref h_o_row) rfl dX1_at_13 ?_
      refine lv_iload_n C0.x C0.b dX1_at_16 rfl (lv_at hl 1 rfl) ?_
      obtain ⟨h3, hF⟩ := ck_some hF
      refine x_iald C0 hW 1 0 rfl rfl h3 dX1_at_17 ?_
      refine lv_goto (tgt := 22) C0.x C0.b dX1_at_18 (by decide) ?_
      obtain rfl := Option.some.inj hF
      exact x_iret C0 hW rfl rfl dX1_at_22

abbrev rm_X1_change : Room := { frames := 1, cells := 0, slots := 0, locals := 21 }

set_option maxHeartbeats 4000000 in
set_option maxRecDepth 100000 in
/-- SnapHouse$Bytes.change(II)V -/
theorem c_X1_change (l : Launch) (g : GX) (h_o h_o_row : Nat) {K : Nat} {o_count : Int32} {o_row_n : Nat} {o_row_c : Nat → Int32} {p1 : Int32} {p2 : Int32} {o : (Nat → Int32)} (hF : f_X1_change K o_count o_row_n o_row_c p1 p2 = some o) : mcV g l yX1_change wA_X1_change rm_X1_change [.ref h_o, .int p1, .int p2] (wF_Bytes g h_o h_o_row o_count o_row_n o_row_c) (wF_Bytes g h_o h_o_row o_count o_row_n o) 0 0 := by
  refine x_start (cc := cX1_change) (maxL := 3) (ret := none) (by decide) rfl (Nat.le_of_ble_eq_true rfl) ?_
  intro p e s m below meth c ls C0 hW hl
  have hl : lv_has ls 3 [(0, .ref h_o), (1, .int p1), (2, .int p2)] := hl
  unfold f_X1_change at hF
  refine lv_aload_n C0.x C0.b dX1_change_0 rfl (lv_at hl 0 rfl) ?_
  refine lv_iload_n C0.x C0.b dX1_change_1 rfl (lv_at hl 1 rfl) ?_
  obtain ⟨r1, e2, hF⟩ := ob hF
  refine go_i C0 hW [0, 1] [] [0, 1] (va_runV (As := [.int p1]) (rest := []) C0.fix (c_X1_hasPlace l g h_o h_o_row o_row_n o_row_c e2 _) (cwV 1 C0.ts (gw_V wl_178 wl_171 wl_172 wl_15 wl_173) rfl rfl rfl (by decide +kernel) ⟨Nat.le_of_ble_eq_true rfl, Nat.le_of_ble_eq_true rfl⟩) (pcv_of C0 hW [0, 1] rfl (by decide) (q0 := 0) rfl rfl) rfl rfl hl.1 rfl (lv_room (Nat.le_of_ble_eq_true rfl)) dX1_change_2 ⟨Nat.le_of_ble_eq_true rfl, Nat.le_of_ble_eq_true rfl⟩) rfl rfl (by decide) (by decide) (ws' := (wF_Bytes g h_o h_o_row o_count o_row_n o_row_c)) rfl (by decide) (fun H locs hW => ?_)
  refine lv_if_eq (tgt := 15) C0.x C0.b dX1_change_5 (by decide) (fun c3 => ?_) (fun c3 => ?_)
  · have hF := it_t hF c3
    obtain rfl := Option.some.inj hF
    exact x_vret C0 hW dX1_change_15
  · have hF := it_f hF c3
    refine lv_aload_n C0.x C0.b dX1_change_8 rfl (lv_at hl 0 rfl) ?_
    refine x_get C0 hW iw_X1 0 rfl rfl 0 (by decide) (List.mem_cons_of_mem _ wl_53) (v := .ref h_o_row) rfl dX1_change_9 ?_
    refine lv_iload_n C0.x C0.b dX1_change_12 rfl (lv_at hl 1 rfl) ?_
    refine lv_iload_n C0.x C0.b dX1_change_13 rfl (lv_at hl 2 rfl) ?_
    obtain ⟨h4, hF⟩ := ck_some hF
    refine x_iast C0 hW 1 0 rfl rfl h4 dX1_change_14 (ws' := (wF_Bytes g h_o h_o_row o_count o_row_n (upd o_row_c p1.toNatClampNeg p2))) rfl (fun H locs hW => ?_)
    obtain rfl := Option.some.inj hF
    exact x_vret C0 hW dX1_change_15

abbrev rm_X6_set : Room := { frames := 2, cells := 0, slots := 0, locals := 43 }

set_option maxHeartbeats 4000000 in
set_option maxRecDepth 100000 in
/-- SnapHouse.set(II)I -/
theorem c_X6_set (l : Launch) (g : GX) (h_o h_o_theTape h_o_theTape_row h_o_theOut h_o_theOut_row h_o_presser h_o_presser_block h_o_presser_block_row h_o_presser_slots h_o_streamMaker h_o_streamMaker_made h_o_streamMaker_made_row h_o_blockOpener h_o_blockOpener_given h_o_blockOpener_given_row h_o_blockOpener_elements h_o_blockOpener_elements_cells h_o_streamOpener h_o_streamOpener_given h_o_streamOpener_given_row h_o_streamOpener_chunks h_o_streamOpener_chunks_cells h_o_keptElements h_o_keptElements_cells h_o_keptChunks h_o_keptChunks_cells : Nat) {K : Nat} (o_faultNumber : Int32) (o_faultPlace : Int32) (o_faultOfBlock : Int32) (o_faultPlaceInBlock : Int32) (o_theOut_count : Int32) (o_theOut_row_n : Nat) (o_theOut_row_c : Nat → Int32) (o_presser_slotMask : Int32) (o_presser_block_count : Int32) (o_presser_block_row_n : Nat) (o_presser_block_row_c : Nat → Int32) (o_presser_slots_n : Nat) (o_presser_slots_c : Nat → Int32) (o_streamMaker_made_count : Int32) (o_streamMaker_made_row_n : Nat) (o_streamMaker_made_row_c : Nat → Int32) (o_blockOpener_fault : Int32) (o_blockOpener_place : Int32) (o_blockOpener_start : Int32) (o_blockOpener_end : Int32) (o_blockOpener_next : Int32) (o_blockOpener_length : Int32) (o_blockOpener_sort : Int32) (o_blockOpener_body : Int32) (o_blockOpener_size : Int64) (o_blockOpener_back : Int64) (o_blockOpener_given_count : Int32) (o_blockOpener_given_row_n : Nat) (o_blockOpener_given_row_c : Nat → Int32) (o_blockOpener_elements_count : Int32) (o_blockOpener_elements_marked : Int32) (o_blockOpener_elements_cells_n : Nat) (o_blockOpener_elements_cells_c : Nat → Int32) (o_streamOpener_fault : Int32) (o_streamOpener_place : Int32) (o_streamOpener_next : Int32) (o_streamOpener_type : Int32) (o_streamOpener_body : Int32) (o_streamOpener_size : Int32) (o_streamOpener_given_count : Int32) (o_streamOpener_given_row_n : Nat) (o_streamOpener_given_row_c : Nat → Int32) (o_streamOpener_chunks_count : Int32) (o_streamOpener_chunks_marked : Int32) (o_streamOpener_chunks_cells_n : Nat) (o_streamOpener_chunks_cells_c : Nat → Int32) (o_keptElements_count : Int32) (o_keptElements_marked : Int32) (o_keptElements_cells_n : Nat) (o_keptElements_cells_c : Nat → Int32) (o_keptChunks_count : Int32) (o_keptChunks_marked : Int32) (o_keptChunks_cells_n : Nat) (o_keptChunks_cells_c : Nat → Int32) {o_theTape_count : Int32} {o_theTape_row_n : Nat} {o_theTape_row_c : Nat → Int32} {p1 : Int32} {p2 : Int32} {o : Int32 × (Nat → Int32)} (hF : f_X6_set K o_theTape_count o_theTape_row_n o_theTape_row_c p1 p2 = some o) : mcI g l yX6_set wA_X6_set rm_X6_set [.ref h_o, .int p1, .int p2] (wF_SnapHouse g h_o h_o_theTape h_o_theTape_row h_o_theOut h_o_theOut_row h_o_presser h_o_presser_block h_o_presser_block_row h_o_presser_slots h_o_streamMaker h_o_streamMaker_made h_o_streamMaker_made_row h_o_blockOpener h_o_blockOpener_given h_o_blockOpener_given_row h_o_blockOpener_elements h_o_blockOpener_elements_cells h_o_streamOpener h_o_streamOpener_given h_o_streamOpener_given_row h_o_streamOpener_chunks h_o_streamOpener_chunks_cells h_o_keptElements h_o_keptElements_cells h_o_keptChunks h_o_keptChunks_cells o_faultNumber o_faultPlace o_faultOfBlock o_faultPlaceInBlock o_theTape_count o_theTape_row_n o_theTape_row_c o_theOut_count o_theOut_row_n o_theOut_row_c o_presser_slotMask o_presser_block_count o_presser_block_row_n o_presser_block_row_c o_presser_slots_n o_presser_slots_c o_streamMaker_made_count o_streamMaker_made_row_n o_streamMaker_made_row_c o_blockOpener_fault o_blockOpener_place o_blockOpener_start o_blockOpener_end o_blockOpener_next o_blockOpener_length o_blockOpener_sort o_blockOpener_body o_blockOpener_size o_blockOpener_back o_blockOpener_given_count o_blockOpener_given_row_n o_blockOpener_given_row_c o_blockOpener_elements_count o_blockOpener_elements_marked o_blockOpener_elements_cells_n o_blockOpener_elements_cells_c o_streamOpener_fault o_streamOpener_place o_streamOpener_next o_streamOpener_type o_streamOpener_body o_streamOpener_size o_streamOpener_given_count o_streamOpener_given_row_n o_streamOpener_given_row_c o_streamOpener_chunks_count o_streamOpener_chunks_marked o_streamOpener_chunks_cells_n o_streamOpener_chunks_cells_c o_keptElements_count o_keptElements_marked o_keptElements_cells_n o_keptElements_cells_c o_keptChunks_count o_keptChunks_marked o_keptChunks_cells_n o_keptChunks_cells_c) o.1 (wF_SnapHouse g h_o h_o_theTape h_o_theTape_row h_o_theOut h_o_theOut_row h_o_presser h_o_presser_block h_o_presser_block_row h_o_presser_slots h_o_streamMaker h_o_streamMaker_made h_o_streamMaker_made_row h_o_blockOpener h_o_blockOpener_given h_o_blockOpener_given_row h_o_blockOpener_elements h_o_blockOpener_elements_cells h_o_streamOpener h_o_streamOpener_given h_o_streamOpener_given_row h_o_streamOpener_chunks h_o_streamOpener_chunks_cells h_o_keptElements h_o_keptElements_cells h_o_keptChunks h_o_keptChunks_cells o_faultNumber o_faultPlace o_faultOfBlock o_faultPlaceInBlock o_theTape_count o_theTape_row_n o.2 o_theOut_count o_theOut_row_n o_theOut_row_c o_presser_slotMask o_presser_block_count o_presser_block_row_n o_presser_block_row_c o_presser_slots_n o_presser_slots_c o_streamMaker_made_count o_streamMaker_made_row_n o_streamMaker_made_row_c o_blockOpener_fault o_blockOpener_place o_blockOpener_start o_blockOpener_end o_blockOpener_next o_blockOpener_length o_blockOpener_sort o_blockOpener_body o_blockOpener_size o_blockOpener_back o_blockOpener_given_count o_blockOpener_given_row_n o_blockOpener_given_row_c o_blockOpener_elements_count o_blockOpener_elements_marked o_blockOpener_elements_cells_n o_blockOpener_elements_cells_c o_streamOpener_fault o_streamOpener_place o_streamOpener_next o_streamOpener_type o_streamOpener_body o_streamOpener_size o_streamOpener_given_count o_streamOpener_given_row_n o_streamOpener_given_row_c o_streamOpener_chunks_count o_streamOpener_chunks_marked o_streamOpener_chunks_cells_n o_streamOpener_chunks_cells_c o_keptElements_count o_keptElements_marked o_keptElements_cells_n o_keptElements_cells_c o_keptChunks_count o_keptChunks_marked o_keptChunks_cells_n o_keptChunks_cells_c) 0 0 := by
  refine x_start (cc := cX6_set) (maxL := 4) (ret := (some .int)) (by decide) rfl (Nat.le_of_ble_eq_true rfl) ?_
  intro p e s m below meth c ls C0 hW hl
  have hl : lv_has ls 4 [(0, .ref h_o), (1, .int p1), (2, .int p2)] := hl
  unfold f_X6_set at hF
  refine lv_aload_n C0.x C0.b dX6_set_0 rfl (lv_at hl 0 rfl) ?_
  refine x_get C0 hW iw_X6 0 rfl rfl 0 (by decide) (List.mem_cons_of_mem _ wl_16) (v := .ref h_o_theTape) rfl dX6_set_1 ?_
  refine lv_iload_n C0.x C0.b dX6_set_4 rfl (lv_at hl 1 rfl) ?_
  obtain ⟨r1, e2, hF⟩ := ob hF
  refine go_i C0 hW [1, 2] [0, 3, 4, 5, 6, 7, 8, 9, 10, 11, 12, 13, 14, 15, 16, 17, 18, 19, 20, 21, 22, 23, 24, 25] [0, 24, 25, 1, 2, 3, 4, 5, 6, 7, 8, 9, 10, 11, 12, 13, 14, 15, 16, 17, 18, 19, 20, 21, 22, 23] (va_runV (As := [.int p1]) (rest := []) C0.fix (c_X1_hasPlace l g h_o_theTape h_o_theTape_row o_theTape_row_n o_theTape_row_c e2 _) (cwV 1 C0.ts (gw_V wl_170 wl_171 wl_172 wl_15 wl_173) rfl rfl rfl (by decide +kernel) ⟨Nat.le_of_ble_eq_true rfl, Nat.le_of_ble_eq_true rfl⟩) (pcv_of C0 hW [1, 2] rfl (by decide) (q0 := 1) rfl rfl) rfl rfl hl.1 rfl (lv_room (Nat.le_of_ble_eq_true rfl)) dX6_set_5 ⟨Nat.le_of_ble_eq_true rfl, Nat.le_of_ble_eq_true rfl⟩) rfl rfl (by decide) (by decide) (ws' := (wF_SnapHouse g h_o h_o_theTape h_o_theTape_row h_o_theOut h_o_theOut_row h_o_presser h_o_presser_block h_o_presser_block_row h_o_presser_slots h_o_streamMaker h_o_streamMaker_made h_o_streamMaker_made_row h_o_blockOpener h_o_blockOpener_given h_o_blockOpener_given_row h_o_blockOpener_elements h_o_blockOpener_elements_cells h_o_streamOpener h_o_streamOpener_given h_o_streamOpener_given_row h_o_streamOpener_chunks h_o_streamOpener_chunks_cells h_o_keptElements h_o_keptElements_cells h_o_keptChunks h_o_keptChunks_cells o_faultNumber o_faultPlace o_faultOfBlock o_faultPlaceInBlock o_theTape_count o_theTape_row_n o_theTape_row_c o_theOut_count o_theOut_row_n o_theOut_row_c o_presser_slotMask o_presser_block_count o_presser_block_row_n o_presser_block_row_c o_presser_slots_n o_presser_slots_c o_streamMaker_made_count o_streamMaker_made_row_n o_streamMaker_made_row_c o_blockOpener_fault o_blockOpener_place o_blockOpener_start o_blockOpener_end o_blockOpener_next o_blockOpener_length o_blockOpener_sort o_blockOpener_body o_blockOpener_size o_blockOpener_back o_blockOpener_given_count o_blockOpener_given_row_n o_blockOpener_given_row_c o_blockOpener_elements_count o_blockOpener_elements_marked o_blockOpener_elements_cells_n o_blockOpener_elements_cells_c o_streamOpener_fault o_streamOpener_place o_streamOpener_next o_streamOpener_type o_streamOpener_body o_streamOpener_size o_streamOpener_given_count o_streamOpener_given_row_n o_streamOpener_given_row_c o_streamOpener_chunks_count o_streamOpener_chunks_marked o_streamOpener_chunks_cells_n o_streamOpener_chunks_cells_c o_keptElements_count o_keptElements_marked o_keptElements_cells_n o_keptElements_cells_c o_keptChunks_count o_keptChunks_marked o_keptChunks_cells_n o_keptChunks_cells_c)) rfl (by decide) (fun H locs hW => ?_)
  refine lv_if_eq (tgt := 18) C0.x C0.b dX6_set_8 (by decide) (fun c3 => ?_) (fun c3 => ?_)
  · have hF := it_t hF c3
    refine lv_iconst (v := (-1 : Int32)) C0.x C0.b dX6_set_18 (by decide) ?_
    obtain rfl := Option.some.inj hF
    exact x_iret C0 hW rfl rfl dX6_set_19
  · have hF := it_f hF c3
    refine lv_iload_n C0.x C0.b dX6_set_11 rfl (lv_at hl 2 rfl) ?_
    obtain ⟨r4, e5, hF⟩ := ob hF
    refine go_i C0 hW [] [0, 1, 2, 3, 4, 5, 6, 7, 8, 9, 10, 11, 12, 13, 14, 15, 16, 17, 18, 19, 20, 21, 22, 23, 24, 25] [0, 1, 2, 3, 4, 5, 6, 7, 8, 9, 10, 11, 12, 13, 14, 15, 16, 17, 18, 19, 20, 21, 22, 23, 24, 25] (va_runS (As := [.int p2]) (rest := []) C0.fix (c_X6_isByte l g e5 _) (va_cwS 1 C0.ts (gw_S wl_158 wl_159 wl_2 wl_160) rfl rfl rfl (by decide +kernel) ⟨Nat.le_of_ble_eq_true rfl, Nat.le_of_ble_eq_true rfl⟩) (pcc_of C0 hW [] rfl (by decide)) rfl rfl hl.1 rfl (lv_room (Nat.le_of_ble_eq_true rfl)) dX6_set_12 ⟨Nat.le_of_ble_eq_true rfl, Nat.le_of_ble_eq_true rfl⟩) rfl rfl (by decide) (by decide) (ws' := (wF_SnapHouse g h_o h_o_theTape h_o_theTape_row h_o_theOut h_o_theOut_row h_o_presser h_o_presser_block h_o_presser_block_row h_o_presser_slots h_o_streamMaker h_o_streamMaker_made h_o_streamMaker_made_row h_o_blockOpener h_o_blockOpener_given h_o_blockOpener_given_row h_o_blockOpener_elements h_o_blockOpener_elements_cells h_o_streamOpener h_o_streamOpener_given h_o_streamOpener_given_row h_o_streamOpener_chunks h_o_streamOpener_chunks_cells h_o_keptElements h_o_keptElements_cells h_o_keptChunks h_o_keptChunks_cells o_faultNumber o_faultPlace o_faultOfBlock o_faultPlaceInBlock o_theTape_count o_theTape_row_n o_theTape_row_c o_theOut_count o_theOut_row_n o_theOut_row_c o_presser_slotMask o_presser_block_count o_presser_block_row_n o_presser_block_row_c o_presser_slots_n o_presser_slots_c o_streamMaker_made_count o_streamMaker_made_row_n o_streamMaker_made_row_c o_blockOpener_fault o_blockOpener_place o_blockOpener_start o_blockOpener_end o_blockOpener_next o_blockOpener_length o_blockOpener_sort o_blockOpener_body o_blockOpener_size o_blockOpener_back o_blockOpener_given_count o_blockOpener_given_row_n o_blockOpener_given_row_c o_blockOpener_elements_count o_blockOpener_elements_marked o_blockOpener_elements_cells_n o_blockOpener_elements_cells_c o_streamOpener_fault o_streamOpener_place o_streamOpener_next o_streamOpener_type o_streamOpener_body o_streamOpener_size o_streamOpener_given_count o_streamOpener_given_row_n o_streamOpener_given_row_c o_streamOpener_chunks_count o_streamOpener_chunks_marked o_streamOpener_chunks_cells_n o_streamOpener_chunks_cells_c o_keptElements_count o_keptElements_marked o_keptElements_cells_n o_keptElements_cells_c o_keptChunks_count o_keptChunks_marked o_keptChunks_cells_n o_keptChunks_cells_c)) rfl (by decide) (fun H locs hW => ?_)
    refine lv_if_ne (tgt := 20) C0.x C0.b dX6_set_15 (by decide) (fun c6 => ?_) (fun c6 => ?_)
    · have hF := it_f hF c6
      refine lv_aload_n C0.x C0.b dX6_set_20 rfl (lv_at hl 0 rfl) ?_
      refine x_get C0 hW iw_X6 0 rfl rfl 0 (by decide) (List.mem_cons_of_mem _ wl_16) (v := .ref h_o_theTape) rfl dX6_set_21 ?_
      refine lv_iload_n C0.x C0.b dX6_set_24 rfl (lv_at hl 1 rfl) ?_
      obtain ⟨r7, e8, hF⟩ := ob hF
      refine go_i C0 hW [1, 2] [0, 3, 4, 5, 6, 7, 8, 9, 10, 11, 12, 13, 14, 15, 16, 17, 18, 19, 20, 21, 22, 23, 24, 25] [0, 24, 25, 1, 2, 3, 4, 5, 6, 7, 8, 9, 10, 11, 12, 13, 14, 15, 16, 17, 18, 19, 20, 21, 22, 23] (va_runV (As := [.int p1]) (rest := []) C0.fix (c_X1_at l g h_o_theTape h_o_theTape_row e8 _) (cwV 1 C0.ts (gw_V wl_205 wl_206 wl_207 wl_15 wl_208) rfl rfl rfl (by decide +kernel) ⟨Nat.le_of_ble_eq_true rfl, Nat.le_of_ble_eq_true rfl⟩) (pcv_of C0 hW [1, 2] rfl (by decide) (q0 := 1) rfl rfl) rfl rfl hl.1 rfl (lv_room (Nat.le_of_ble_eq_true rfl)) dX6_set_25 ⟨Nat.le_of_ble_eq_true rfl, Nat.le_of_ble_eq_true rfl⟩) rfl rfl (by decide) (by decide) (ws' := (wF_SnapHouse g h_o h_o_theTape h_o_theTape_row h_o_theOut h_o_theOut_row h_o_presser h_o_presser_block h_o_presser_block_row h_o_presser_slots h_o_streamMaker h_o_streamMaker_made h_o_streamMaker_made_row h_o_blockOpener h_o_blockOpener_given h_o_blockOpener_given_row h_o_blockOpener_elements h_o_blockOpener_elements_cells h_o_streamOpener h_o_streamOpener_given h_o_streamOpener_given_row h_o_streamOpener_chunks h_o_streamOpener_chunks_cells h_o_keptElements h_o_keptElements_cells h_o_keptChunks h_o_keptChunks_cells o_faultNumber o_faultPlace o_faultOfBlock o_faultPlaceInBlock o_theTape_count o_theTape_row_n o_theTape_row_c o_theOut_count o_theOut_row_n o_theOut_row_c o_presser_slotMask o_presser_block_count o_presser_block_row_n o_presser_block_row_c o_presser_slots_n o_presser_slots_c o_streamMaker_made_count o_streamMaker_made_row_n o_streamMaker_made_row_c o_blockOpener_fault o_blockOpener_place o_blockOpener_start o_blockOpener_end o_blockOpener_next o_blockOpener_length o_blockOpener_sort o_blockOpener_body o_blockOpener_size o_blockOpener_back o_blockOpener_given_count o_blockOpener_given_row_n o_blockOpener_given_row_c o_blockOpener_elements_count o_blockOpener_elements_marked o_blockOpener_elements_cells_n o_blockOpener_elements_cells_c o_streamOpener_fault o_streamOpener_place o_streamOpener_next o_streamOpener_type o_streamOpener_body o_streamOpener_size o_streamOpener_given_count o_streamOpener_given_row_n o_streamOpener_given_row_c o_streamOpener_chunks_count o_streamOpener_chunks_marked o_streamOpener_chunks_cells_n o_streamOpener_chunks_cells_c o_keptElements_count o_keptElements_marked o_keptElements_cells_n o_keptElements_cells_c o_keptChunks_count o_keptChunks_marked o_keptChunks_cells_n o_keptChunks_cells_c)) rfl (by decide) (fun H locs hW => ?_)
      refine lv_istore_n (lv' := [(3, .int r7), (0, .ref h_o), (1, .int p1), (2, .int p2)]) C0.x C0.b dX6_set_28 rfl hl (by decide) rfl (fun ls hl => ?_)
      refine lv_aload_n C0.x C0.b dX6_set_29 rfl (lv_at hl 1 rfl) ?_
      refine x_get C0 hW iw_X6 0 rfl rfl 0 (by decide) (List.mem_cons_of_mem _ wl_16) (v := .ref h_o_theTape) rfl dX6_set_30 ?_
      refine lv_iload_n C0.x C0.b dX6_set_33 rfl (lv_at hl 2 rfl) ?_
      refine lv_iload_n C0.x C0.b dX6_set_34 rfl (lv_at hl 3 rfl) ?_
      obtain ⟨r9, e10, hF⟩ := ob hF
      refine go_v C0 hW [1, 2] [0, 3, 4, 5, 6, 7, 8, 9, 10, 11, 12, 13, 14, 15, 16, 17, 18, 19, 20, 21, 22, 23, 24, 25] [0, 24, 25, 1, 2, 3, 4, 5, 6, 7, 8, 9, 10, 11, 12, 13, 14, 15, 16, 17, 18, 19, 20, 21, 22, 23] (va_runV (As := [.int p1, .int p2]) (rest := []) C0.fix (c_X1_change l g h_o_theTape h_o_theTape_row e10 _) (cwV 2 C0.ts (gw_V wl_209 wl_210 wl_211 wl_15 wl_212) rfl rfl rfl (by decide +kernel) ⟨Nat.le_of_ble_eq_true rfl, Nat.le_of_ble_eq_true rfl⟩) (pcv_of C0 hW [1, 2] rfl (by decide) (q0 := 1) rfl rfl) rfl rfl hl.1 rfl (lv_room (Nat.le_of_ble_eq_true rfl)) dX6_set_35 ⟨Nat.le_of_ble_eq_true rfl, Nat.le_of_ble_eq_true rfl⟩) rfl rfl (by decide) (by decide) (ws' := (wF_SnapHouse g h_o h_o_theTape h_o_theTape_row h_o_theOut h_o_theOut_row h_o_presser h_o_presser_block h_o_presser_block_row h_o_presser_slots h_o_streamMaker h_o_streamMaker_made h_o_streamMaker_made_row h_o_blockOpener h_o_blockOpener_given h_o_blockOpener_given_row h_o_blockOpener_elements h_o_blockOpener_elements_cells h_o_streamOpener h_o_streamOpener_given h_o_streamOpener_given_row h_o_streamOpener_chunks h_o_streamOpener_chunks_cells h_o_keptElements h_o_keptElements_cells h_o_keptChunks h_o_keptChunks_cells o_faultNumber o_faultPlace o_faultOfBlock o_faultPlaceInBlock o_theTape_count o_theTape_row_n r9 o_theOut_count o_theOut_row_n o_theOut_row_c o_presser_slotMask o_presser_block_count o_presser_block_row_n o_presser_block_row_c o_presser_slots_n o_presser_slots_c o_streamMaker_made_count o_streamMaker_made_row_n o_streamMaker_made_row_c o_blockOpener_fault o_blockOpener_place o_blockOpener_start o_blockOpener_end o_blockOpener_next o_blockOpener_length o_blockOpener_sort o_blockOpener_body o_blockOpener_size o_blockOpener_back o_blockOpener_given_count o_blockOpener_given_row_n o_blockOpener_given_row_c o_blockOpener_elements_count o_blockOpener_elements_marked o_blockOpener_elements_cells_n o_blockOpener_elements_cells_c o_streamOpener_fault o_streamOpener_place o_streamOpener_next o_streamOpener_type o_streamOpener_body o_streamOpener_size o_streamOpener_given_count o_streamOpener_given_row_n o_streamOpener_given_row_c o_streamOpener_chunks_count o_streamOpener_chunks_marked o_streamOpener_chunks_cells_n o_streamOpener_chunks_cells_c o_keptElements_count o_keptElements_marked o_keptElements_cells_n o_keptElements_cells_c o_keptChunks_count o_keptChunks_marked o_keptChunks_cells_n o_keptChunks_cells_c)) rfl (by decide) (fun H locs hW => ?_)
      refine lv_iload_n C0.x C0.b dX6_set_38 rfl (lv_at hl 0 rfl) ?_
      obtain rfl := Option.some.inj hF
      exact x_iret C0 hW rfl rfl dX6_set_39
    · have hF := it_t hF c6
      refine lv_iconst (v := (-1 : Int32)) C0.x C0.b dX6_set_18 (by decide) ?_
      obtain rfl := Option.some.inj hF
      exact x_iret C0 hW rfl rfl dX6_set_19

abbrev rm_X1_putAll : Room := { frames := 1, cells := 0, slots := 0, locals := 22 }

set_option maxHeartbeats 4000000 in
set_option maxRecDepth 100000 in
/-- SnapHouse$Bytes.putAll(LSnapHouse$Bytes;II)V -/
theorem c_X1_putAll (l : Launch) (g : GX) (h_o h_o_row h_a h_a_row : Nat) {K : Nat} {o_count : Int32} {o_row_n : Nat} {o_row_c : Nat → Int32} {a_count : Int32} {a_row_n : Nat} {a_row_c : Nat → Int32} {p2 : Int32} {p3 : Int32} {o : Int32 × (Nat → Int32)} (hF : f_X1_putAll K o_count o_row_n o_row_c a_count a_row_n a_row_c p2 p3 = some o) : mcV g l yX1_putAll wA_X1_putAll rm_X1_putAll [.ref h_o, .ref h_a, .int p2, .int p3] (wF_Bytes_Bytes g h_o h_o_row h_a h_a_row o_count o_row_n o_row_c a_count a_row_n a_row_c) (wF_Bytes_Bytes g h_o h_o_row h_a h_a_row o.1 o_row_n o.2 a_count a_row_n a_row_c) 0 0 := by
  refine x_start (cc := cX1_putAll) (maxL := 4) (ret := none) (by decide) rfl (Nat.le_of_ble_eq_true rfl) ?_
  intro p e s m below meth c ls C0 hW hl
  have hl : lv_has ls 4 [(0, .ref h_o), (1, .ref h_a), (2, .int p2), (3, .int p3)] := hl
  unfold f_X1_putAll at hF
  refine lv_aload_n C0.x C0.b dX1_putAll_0 rfl (lv_at hl 1 rfl) ?_
  refine lv_iload_n C0.x C0.b dX1_putAll_1 rfl (lv_at hl 2 rfl) ?_
  refine lv_iload_n C0.x C0.b dX1_putAll_2 rfl (lv_at hl 3 rfl) ?_
  obtain ⟨r1, e2, hF⟩ := ob hF
  refine go_i C0 hW [2, 3] [0, 1] [0, 1, 2, 3] (va_runV (As := [.int p2, .int p3]) (rest := []) C0.fix (c_X1_has l g h_a h_a_row a_row_n a_row_c e2 _) (cwV 2 C0.ts (gw_V wl_196 wl_189 wl_190 wl_15 wl_191) rfl rfl rfl (by decide +kernel) ⟨Nat.le_of_ble_eq_true rfl, Nat.le_of_ble_eq_true rfl⟩) (pcv_of C0 hW [2, 3] rfl (by decide) (q0 := 2) rfl rfl) rfl rfl hl.1 rfl (lv_room (Nat.le_of_ble_eq_true rfl)) dX1_putAll_3 ⟨Nat.le_of_ble_eq_true rfl, Nat.le_of_ble_eq_true rfl⟩) rfl rfl (by decide) (by decide) (ws' := (wF_Bytes_Bytes g h_o h_o_row h_a h_a_row o_count o_row_n o_row_c a_count a_row_n a_row_c)) rfl (by decide) (fun H locs hW => ?_)
  refine lv_if_eq (tgt := 44) C0.x C0.b dX1_putAll_6 (by decide) (fun c3 => ?_) (fun c3 => ?_)
  · have hF := it_t hF c3
    obtain rfl := Option.some.inj hF
    exact x_vret C0 hW dX1_putAll_44
  · have hF := it_f hF c3
    refine lv_aload_n C0.x C0.b dX1_putAll_9 rfl (lv_at hl 0 rfl) ?_
    refine lv_iload_n C0.x C0.b dX1_putAll_10 rfl (lv_at hl 3 rfl) ?_
    obtain ⟨r4, e5, hF⟩ := ob hF
    refine go_i C0 hW [0, 1] [2, 3] [2, 3, 0, 1] (va_runV (As := [.int p3]) (rest := []) C0.fix (c_X1_hasRoomFor l g h_o h_o_row o_row_c e5 _) (cwV 1 C0.ts (gw_V wl_179 wl_133 wl_134 wl_15 wl_135) rfl rfl rfl (by decide +kernel) ⟨Nat.le_of_ble_eq_true rfl, Nat.le_of_ble_eq_true rfl⟩) (pcv_of C0 hW [0, 1] rfl (by decide) (q0 := 0) rfl rfl) rfl rfl hl.1 rfl (lv_room (Nat.le_of_ble_eq_true rfl)) dX1_putAll_11 ⟨Nat.le_of_ble_eq_true rfl, Nat.le_of_ble_eq_true rfl⟩) rfl rfl (by decide) (by decide) (ws' := (wF_Bytes_Bytes g h_o h_o_row h_a h_a_row o_count o_row_n o_row_c a_count a_row_n a_row_c)) rfl (by decide) (fun H locs hW => ?_)
    refine lv_if_eq (tgt := 44) C0.x C0.b dX1_putAll_14 (by decide) (fun c6 => ?_) (fun c6 => ?_)
    · have hF := it_t hF c6
      obtain rfl := Option.some.inj hF
      exact x_vret C0 hW dX1_putAll_44
    · have hF := it_f hF c6
      refine lv_aload_n C0.x C0.b dX1_putAll_17 rfl (lv_at hl 1 rfl) ?_
      refine x_get C0 hW iw_X1 2 rfl rfl 0 (by decide) (List.mem_cons_of_mem _ wl_53) (v := .ref h_a_row) rfl dX1_putAll_18 ?_
      refine lv_iload_n C0.x C0.b dX1_putAll_21 rfl (lv_at hl 2 rfl) ?_
      refine lv_aload_n C0.x C0.b dX1_putAll_22 rfl (lv_at hl 0 rfl) ?_
      refine x_get C0 hW iw_X1 0 rfl rfl 0 (by decide) (List.mem_cons_of_mem _ wl_53) (v := .ref h_o_row) rfl dX1_putAll_23 ?_
      refine lv_aload_n C0.x C0.b dX1_putAll_26 rfl (lv_at hl 0 rfl) ?_
      refine x_get C0 hW iw_X1 0 rfl rfl 1 (by decide) (List.mem_cons_of_mem _ wl_47) (v := .int o_count) rfl dX1_putAll_27 ?_
      refine lv_iload_n C0.x C0.b dX1_putAll_30 rfl (lv_at hl 3 rfl) ?_
      obtain ⟨h7, hF⟩ := ckc_some hF
      refine x_cpy C0 hW hl.1 (List.mem_cons_of_mem _ wl_229) (List.mem_cons_of_mem _ wl_230) (List.mem_cons_of_mem _ wl_231) (List.mem_cons_of_mem _ wl_232) 3 1 0 rfl rfl rfl h7 (Nat.le_of_ble_eq_true rfl) (Nat.le_of_ble_eq_true rfl) dX1_putAll_31 (ws' := (wF_Bytes_Bytes g h_o h_o_row h_a h_a_row o_count o_row_n (va_cpy a_row_c o_row_c p2.toNatClampNeg o_count.toNatClampNeg p3.toNatClampNeg) a_count a_row_n a_row_c)) rfl (fun H locs hW => ?_)
      refine lv_aload_n C0.x C0.b dX1_putAll_34 rfl (lv_at hl 0 rfl) ?_
      refine lv_dup C0.x C0.b dX1_putAll_35 rfl ?_
      refine x_get C0 hW iw_X1 0 rfl rfl 1 (by decide) (List.mem_cons_of_mem _ wl_47) (v := .int o_count) rfl dX1_putAll_36 ?_
      refine lv_iload_n C0.x C0.b dX1_putAll_39 rfl (lv_at hl 3 rfl) ?_
      refine lv_iadd C0.x C0.b dX1_putAll_40 ?_
      refine x_put C0 hW iw_X1 tyX1 tyX1_ok nmX1 0 rfl rfl 1 (by decide) (List.mem_cons_of_mem _ wl_47) rfl (ty := .int) (v := .int (o_count + p3)) (by decide +kernel) rfl rfl (Nat.le_of_ble_eq_true rfl) dX1_putAll_41 (ws' := (wF_Bytes_Bytes g h_o h_o_row h_a h_a_row (o_count + p3) o_row_n (va_cpy a_row_c o_row_c p2.toNatClampNeg o_count.toNatClampNeg p3.toNatClampNeg) a_count a_row_n a_row_c)) rfl (fun H locs hW => ?_)
      obtain rfl := Option.some.inj hF
      exact x_vret C0 hW dX1_putAll_44

abbrev rm_X1_become : Room := { frames := 2, cells := 0, slots := 0, locals := 45 }

set_option maxHeartbeats 4000000 in
set_option maxRecDepth 100000 in
/-- SnapHouse$Bytes.become(LSnapHouse$Bytes;)V -/
theorem c_X1_become (l : Launch) (g : GX) (h_o h_o_row h_a h_a_row : Nat) {K : Nat} {o_count : Int32} {o_row_n : Nat} {o_row_c : Nat → Int32} {a_count : Int32} {a_row_n : Nat} {a_row_c : Nat → Int32} {o : Int32 × (Nat → Int32)} (hF : f_X1_become K o_count o_row_n o_row_c a_count a_row_n a_row_c = some o) : mcV g l yX1_become wA_X1_become rm_X1_become [.ref h_o, .ref h_a] (wF_Bytes_Bytes g h_o h_o_row h_a h_a_row o_count o_row_n o_row_c a_count a_row_n a_row_c) (wF_Bytes_Bytes g h_o h_o_row h_a h_a_row o.1 o_row_n o.2 a_count a_row_n a_row_c) 0 0 := by
  refine x_start (cc := cX1_become) (maxL := 2) (ret := none) (by decide) rfl (Nat.le_of_ble_eq_true rfl) ?_
  intro p e s m below meth c ls C0 hW hl
  have hl : lv_has ls 2 [(0, .ref h_o), (1, .ref h_a)] := hl
  unfold f_X1_become at hF
  refine lv_aload_n C0.x C0.b dX1_become_0 rfl (lv_at hl 0 rfl) ?_
  refine lv_iconst (v := (0 : Int32)) C0.x C0.b dX1_become_1 (by decide) ?_
  refine x_put C0 hW iw_X1 tyX1 tyX1_ok nmX1 0 rfl rfl 1 (by decide) (List.mem_cons_of_mem _ wl_47) rfl (ty := .int) (v := .int (0 : Int32)) (by decide +kernel) rfl rfl (Nat.le_of_ble_eq_true rfl) dX1_become_2 (ws' := (wF_Bytes_Bytes g h_o h_o_row h_a h_a_row (0 : Int32) o_row_n o_row_c a_count a_row_n a_row_c)) rfl (fun H locs hW => ?_)
  refine lv_aload_n C0.x C0.b dX1_become_5 rfl (lv_at hl 0 rfl) ?_
  refine lv_aload_n C0.x C0.b dX1_become_6 rfl (lv_at hl 1 rfl) ?_
  refine lv_iconst (v := (0 : Int32)) C0.x C0.b dX1_become_7 (by decide) ?_
  refine lv_aload_n C0.x C0.b dX1_become_8 rfl (lv_at hl 1 rfl) ?_
  refine x_get C0 hW iw_X1 2 rfl rfl 1 (by decide) (List.mem_cons_of_mem _ wl_47) (v := .int a_count) rfl dX1_become_9 ?_
  obtain ⟨r1, e2, hF⟩ := ob hF
  refine go_v C0 hW [0, 1, 2, 3] [] [0, 1, 2, 3] (va_runV (As := [.ref h_a, .int (0 : Int32), .int a_count]) (rest := []) C0.fix (c_X1_putAll l g h_o h_o_row h_a h_a_row e2 _) (cwV 3 C0.ts (gw_V wl_225 wl_226 wl_227 wl_15 wl_228) rfl rfl rfl (by decide +kernel) ⟨Nat.le_of_ble_eq_true rfl, Nat.le_of_ble_eq_true rfl⟩) (pcv_of C0 hW [0, 1, 2, 3] rfl (by decide) (q0 := 0) rfl rfl) rfl rfl hl.1 rfl (lv_room (Nat.le_of_ble_eq_true rfl)) dX1_become_12 ⟨Nat.le_of_ble_eq_true rfl, Nat.le_of_ble_eq_true rfl⟩) rfl rfl (by decide) (by decide) (ws' := (wF_Bytes_Bytes g h_o h_o_row h_a h_a_row r1.1 o_row_n r1.2 a_count a_row_n a_row_c)) rfl (by decide) (fun H locs hW => ?_)
  obtain rfl := Option.some.inj hF
  exact x_vret C0 hW dX1_become_15

abbrev rm_X6_take : Room := { frames := 3, cells := 0, slots := 0, locals := 66 }

set_option maxHeartbeats 4000000 in
set_option maxRecDepth 100000 in
/-- SnapHouse.take()I -/
theorem c_X6_take (l : Launch) (g : GX) (h_o h_o_theTape h_o_theTape_row h_o_theOut h_o_theOut_row h_o_presser h_o_presser_block h_o_presser_block_row h_o_presser_slots h_o_streamMaker h_o_streamMaker_made h_o_streamMaker_made_row h_o_blockOpener h_o_blockOpener_given h_o_blockOpener_given_row h_o_blockOpener_elements h_o_blockOpener_elements_cells h_o_streamOpener h_o_streamOpener_given h_o_streamOpener_given_row h_o_streamOpener_chunks h_o_streamOpener_chunks_cells h_o_keptElements h_o_keptElements_cells h_o_keptChunks h_o_keptChunks_cells : Nat) {K : Nat} (o_faultNumber : Int32) (o_faultPlace : Int32) (o_faultOfBlock : Int32) (o_faultPlaceInBlock : Int32) (o_presser_slotMask : Int32) (o_presser_block_count : Int32) (o_presser_block_row_n : Nat) (o_presser_block_row_c : Nat → Int32) (o_presser_slots_n : Nat) (o_presser_slots_c : Nat → Int32) (o_streamMaker_made_count : Int32) (o_streamMaker_made_row_n : Nat) (o_streamMaker_made_row_c : Nat → Int32) (o_blockOpener_fault : Int32) (o_blockOpener_place : Int32) (o_blockOpener_start : Int32) (o_blockOpener_end : Int32) (o_blockOpener_next : Int32) (o_blockOpener_length : Int32) (o_blockOpener_sort : Int32) (o_blockOpener_body : Int32) (o_blockOpener_size : Int64) (o_blockOpener_back : Int64) (o_blockOpener_given_count : Int32) (o_blockOpener_given_row_n : Nat) (o_blockOpener_given_row_c : Nat → Int32) (o_blockOpener_elements_count : Int32) (o_blockOpener_elements_marked : Int32) (o_blockOpener_elements_cells_n : Nat) (o_blockOpener_elements_cells_c : Nat → Int32) (o_streamOpener_fault : Int32) (o_streamOpener_place : Int32) (o_streamOpener_next : Int32) (o_streamOpener_type : Int32) (o_streamOpener_body : Int32) (o_streamOpener_size : Int32) (o_streamOpener_given_count : Int32) (o_streamOpener_given_row_n : Nat) (o_streamOpener_given_row_c : Nat → Int32) (o_streamOpener_chunks_count : Int32) (o_streamOpener_chunks_marked : Int32) (o_streamOpener_chunks_cells_n : Nat) (o_streamOpener_chunks_cells_c : Nat → Int32) (o_keptElements_count : Int32) (o_keptElements_marked : Int32) (o_keptElements_cells_n : Nat) (o_keptElements_cells_c : Nat → Int32) (o_keptChunks_count : Int32) (o_keptChunks_marked : Int32) (o_keptChunks_cells_n : Nat) (o_keptChunks_cells_c : Nat → Int32) {o_theTape_count : Int32} {o_theTape_row_n : Nat} {o_theTape_row_c : Nat → Int32} {o_theOut_count : Int32} {o_theOut_row_n : Nat} {o_theOut_row_c : Nat → Int32} {o : Int32 × Int32 × (Nat → Int32)} (hF : f_X6_take K o_theTape_count o_theTape_row_n o_theTape_row_c o_theOut_count o_theOut_row_n o_theOut_row_c = some o) : mcI g l yX6_take wA_X6_take rm_X6_take [.ref h_o] (wF_SnapHouse g h_o h_o_theTape h_o_theTape_row h_o_theOut h_o_theOut_row h_o_presser h_o_presser_block h_o_presser_block_row h_o_presser_slots h_o_streamMaker h_o_streamMaker_made h_o_streamMaker_made_row h_o_blockOpener h_o_blockOpener_given h_o_blockOpener_given_row h_o_blockOpener_elements h_o_blockOpener_elements_cells h_o_streamOpener h_o_streamOpener_given h_o_streamOpener_given_row h_o_streamOpener_chunks h_o_streamOpener_chunks_cells h_o_keptElements h_o_keptElements_cells h_o_keptChunks h_o_keptChunks_cells o_faultNumber o_faultPlace o_faultOfBlock o_faultPlaceInBlock o_theTape_count o_theTape_row_n o_theTape_row_c o_theOut_count o_theOut_row_n o_theOut_row_c o_presser_slotMask o_presser_block_count o_presser_block_row_n o_presser_block_row_c o_presser_slots_n o_presser_slots_c o_streamMaker_made_count o_streamMaker_made_row_n o_streamMaker_made_row_c o_blockOpener_fault o_blockOpener_place o_blockOpener_start o_blockOpener_end o_blockOpener_next o_blockOpener_length o_blockOpener_sort o_blockOpener_body o_blockOpener_size o_blockOpener_back o_blockOpener_given_count o_blockOpener_given_row_n o_blockOpener_given_row_c o_blockOpener_elements_count o_blockOpener_elements_marked o_blockOpener_elements_cells_n o_blockOpener_elements_cells_c o_streamOpener_fault o_streamOpener_place o_streamOpener_next o_streamOpener_type o_streamOpener_body o_streamOpener_size o_streamOpener_given_count o_streamOpener_given_row_n o_streamOpener_given_row_c o_streamOpener_chunks_count o_streamOpener_chunks_marked o_streamOpener_chunks_cells_n o_streamOpener_chunks_cells_c o_keptElements_count o_keptElements_marked o_keptElements_cells_n o_keptElements_cells_c o_keptChunks_count o_keptChunks_marked o_keptChunks_cells_n o_keptChunks_cells_c) o.1 (wF_SnapHouse g h_o h_o_theTape h_o_theTape_row h_o_theOut h_o_theOut_row h_o_presser h_o_presser_block h_o_presser_block_row h_o_presser_slots h_o_streamMaker h_o_streamMaker_made h_o_streamMaker_made_row h_o_blockOpener h_o_blockOpener_given h_o_blockOpener_given_row h_o_blockOpener_elements h_o_blockOpener_elements_cells h_o_streamOpener h_o_streamOpener_given h_o_streamOpener_given_row h_o_streamOpener_chunks h_o_streamOpener_chunks_cells h_o_keptElements h_o_keptElements_cells h_o_keptChunks h_o_keptChunks_cells o_faultNumber o_faultPlace o_faultOfBlock o_faultPlaceInBlock o.2.1 o_theTape_row_n o.2.2 o_theOut_count o_theOut_row_n o_theOut_row_c o_presser_slotMask o_presser_block_count o_presser_block_row_n o_presser_block_row_c o_presser_slots_n o_presser_slots_c o_streamMaker_made_count o_streamMaker_made_row_n o_streamMaker_made_row_c o_blockOpener_fault o_blockOpener_place o_blockOpener_start o_blockOpener_end o_blockOpener_next o_blockOpener_length o_blockOpener_sort o_blockOpener_body o_blockOpener_size o_blockOpener_back o_blockOpener_given_count o_blockOpener_given_row_n o_blockOpener_given_row_c o_blockOpener_elements_count o_blockOpener_elements_marked o_blockOpener_elements_cells_n o_blockOpener_elements_cells_c o_streamOpener_fault o_streamOpener_place o_streamOpener_next o_streamOpener_type o_streamOpener_body o_streamOpener_size o_streamOpener_given_count o_streamOpener_given_row_n o_streamOpener_given_row_c o_streamOpener_chunks_count o_streamOpener_chunks_marked o_streamOpener_chunks_cells_n o_streamOpener_chunks_cells_c o_keptElements_count o_keptElements_marked o_keptElements_cells_n o_keptElements_cells_c o_keptChunks_count o_keptChunks_marked o_keptChunks_cells_n o_keptChunks_cells_c) 0 0 := by
  refine x_start (cc := cX6_take) (maxL := 1) (ret := (some .int)) (by decide) rfl (Nat.le_of_ble_eq_true rfl) ?_
  intro p e s m below meth c ls C0 hW hl
  have hl : lv_has ls 1 [(0, .ref h_o)] := hl
  unfold f_X6_take at hF
  refine lv_aload_n C0.x C0.b dX6_take_0 rfl (lv_at hl 0 rfl) ?_
  refine x_get C0 hW iw_X6 0 rfl rfl 1 (by decide) (List.mem_cons_of_mem _ wl_17) (v := .ref h_o_theOut) rfl dX6_take_1 ?_
  refine x_getN C0 hW iw_X1 3 rfl rfl 1 (by decide) (List.mem_of_getElem? (i := 0) rfl) (v := .int o_theOut_count) rfl dX6_take_4 ?_
  refine lv_sipush (v := (20000 : Int32)) C0.x C0.b dX6_take_7 (by decide) ?_
  refine lv_icmp_le (tgt := 15) C0.x C0.b dX6_take_10 (by decide) (fun c1 => ?_) (fun c1 => ?_)
  · have hF := it_t hF c1
    refine lv_aload_n C0.x C0.b dX6_take_15 rfl (lv_at hl 0 rfl) ?_
    refine x_get C0 hW iw_X6 0 rfl rfl 0 (by decide) (List.mem_cons_of_mem _ wl_16) (v := .ref h_o_theTape) rfl dX6_take_16 ?_
    refine lv_aload_n C0.x C0.b dX6_take_19 rfl (lv_at hl 0 rfl) ?_
    refine x_get C0 hW iw_X6 0 rfl rfl 1 (by decide) (List.mem_cons_of_mem _ wl_17) (v := .ref h_o_theOut) rfl dX6_take_20 ?_
    obtain ⟨r2, e3, hF⟩ := ob hF
    refine go_v C0 hW [1, 2, 3, 4] [0, 5, 6, 7, 8, 9, 10, 11, 12, 13, 14, 15, 16, 17, 18, 19, 20, 21, 22, 23, 24, 25] [0, 22, 23, 24, 25, 1, 2, 3, 4, 5, 6, 7, 8, 9, 10, 11, 12, 13, 14, 15, 16, 17, 18, 19, 20, 21] (va_runV (As := [.ref h_o_theOut]) (rest := []) C0.fix (c_X1_become l g h_o_theTape h_o_theTape_row h_o_theOut h_o_theOut_row e3 _) (cwV 1 C0.ts (gw_V wl_221 wl_222 wl_223 wl_15 wl_224) rfl rfl rfl (by decide +kernel) ⟨Nat.le_of_ble_eq_true rfl, Nat.le_of_ble_eq_true rfl⟩) (pcv_of C0 hW [1, 2, 3, 4] rfl (by decide) (q0 := 1) rfl rfl) rfl rfl hl.1 rfl (lv_room (Nat.le_of_ble_eq_true rfl)) dX6_take_23 ⟨Nat.le_of_ble_eq_true rfl, Nat.le_of_ble_eq_true rfl⟩) rfl rfl (by decide) (by decide) (ws' := (wF_SnapHouse g h_o h_o_theTape h_o_theTape_row h_o_theOut h_o_theOut_row h_o_presser h_o_presser_block h_o_presser_block_row h_o_presser_slots h_o_streamMaker h_o_streamMaker_made h_o_streamMaker_made_row h_o_blockOpener h_o_blockOpener_given h_o_blockOpener_given_row h_o_blockOpener_elements h_o_blockOpener_elements_cells h_o_streamOpener h_o_streamOpener_given h_o_streamOpener_given_row h_o_streamOpener_chunks h_o_streamOpener_chunks_cells h_o_keptElements h_o_keptElements_cells h_o_keptChunks h_o_keptChunks_cells o_faultNumber o_faultPlace o_faultOfBlock o_faultPlaceInBlock r2.1 o_theTape_row_n r2.2 o_theOut_count o_theOut_row_n o_theOut_row_c o_presser_slotMask o_presser_block_count o_presser_block_row_n o_presser_block_row_c o_presser_slots_n o_presser_slots_c o_streamMaker_made_count o_streamMaker_made_row_n o_streamMaker_made_row_c o_blockOpener_fault o_blockOpener_place o_blockOpener_start o_blockOpener_end o_blockOpener_next o_blockOpener_length o_blockOpener_sort o_blockOpener_body o_blockOpener_size o_blockOpener_back o_blockOpener_given_count o_blockOpener_given_row_n o_blockOpener_given_row_c o_blockOpener_elements_count o_blockOpener_elements_marked o_blockOpener_elements_cells_n o_blockOpener_elements_cells_c o_streamOpener_fault o_streamOpener_place o_streamOpener_next o_streamOpener_type o_streamOpener_body o_streamOpener_size o_streamOpener_given_count o_streamOpener_given_row_n o_streamOpener_given_row_c o_streamOpener_chunks_count o_streamOpener_chunks_marked o_streamOpener_chunks_cells_n o_streamOpener_chunks_cells_c o_keptElements_count o_keptElements_marked o_keptElements_cells_n o_keptElements_cells_c o_keptChunks_count o_keptChunks_marked o_keptChunks_cells_n o_keptChunks_cells_c)) rfl (by decide) (fun H locs hW => ?_)
    refine lv_aload_n C0.x C0.b dX6_take_26 rfl (lv_at hl 0 rfl) ?_
    refine x_get C0 hW iw_X6 0 rfl rfl 0 (by decide) (List.mem_cons_of_mem _ wl_16) (v := .ref h_o_theTape) rfl dX6_take_27 ?_
    refine x_getN C0 hW iw_X1 1 rfl rfl 1 (by decide) (List.mem_of_getElem? (i := 0) rfl) (v := .int r2.1) rfl dX6_take_30 ?_
    obtain rfl := Option.some.inj hF
    exact x_iret C0 hW rfl rfl dX6_take_33
  · have hF := it_f hF c1
    refine lv_iconst (v := (-1 : Int32)) C0.x C0.b dX6_take_13 (by decide) ?_
    obtain rfl := Option.some.inj hF
    exact x_iret C0 hW rfl rfl dX6_take_14

abbrev rm_X6_tape : Room := { frames := 1, cells := 0, slots := 0, locals := 21 }

set_option maxHeartbeats 4000000 in
set_option maxRecDepth 100000 in
/-- SnapHouse.tape(I)I -/
theorem c_X6_tape (l : Launch) (g : GX) (h_o h_o_theTape h_o_theTape_row h_o_theOut h_o_theOut_row h_o_presser h_o_presser_block h_o_presser_block_row h_o_presser_slots h_o_streamMaker h_o_streamMaker_made h_o_streamMaker_made_row h_o_blockOpener h_o_blockOpener_given h_o_blockOpener_given_row h_o_blockOpener_elements h_o_blockOpener_elements_cells h_o_streamOpener h_o_streamOpener_given h_o_streamOpener_given_row h_o_streamOpener_chunks h_o_streamOpener_chunks_cells h_o_keptElements h_o_keptElements_cells h_o_keptChunks h_o_keptChunks_cells : Nat) {K : Nat} (o_faultNumber : Int32) (o_faultPlace : Int32) (o_faultOfBlock : Int32) (o_faultPlaceInBlock : Int32) (o_theOut_count : Int32) (o_theOut_row_n : Nat) (o_theOut_row_c : Nat → Int32) (o_presser_slotMask : Int32) (o_presser_block_count : Int32) (o_presser_block_row_n : Nat) (o_presser_block_row_c : Nat → Int32) (o_presser_slots_n : Nat) (o_presser_slots_c : Nat → Int32) (o_streamMaker_made_count : Int32) (o_streamMaker_made_row_n : Nat) (o_streamMaker_made_row_c : Nat → Int32) (o_blockOpener_fault : Int32) (o_blockOpener_place : Int32) (o_blockOpener_start : Int32) (o_blockOpener_end : Int32) (o_blockOpener_next : Int32) (o_blockOpener_length : Int32) (o_blockOpener_sort : Int32) (o_blockOpener_body : Int32) (o_blockOpener_size : Int64) (o_blockOpener_back : Int64) (o_blockOpener_given_count : Int32) (o_blockOpener_given_row_n : Nat) (o_blockOpener_given_row_c : Nat → Int32) (o_blockOpener_elements_count : Int32) (o_blockOpener_elements_marked : Int32) (o_blockOpener_elements_cells_n : Nat) (o_blockOpener_elements_cells_c : Nat → Int32) (o_streamOpener_fault : Int32) (o_streamOpener_place : Int32) (o_streamOpener_next : Int32) (o_streamOpener_type : Int32) (o_streamOpener_body : Int32) (o_streamOpener_size : Int32) (o_streamOpener_given_count : Int32) (o_streamOpener_given_row_n : Nat) (o_streamOpener_given_row_c : Nat → Int32) (o_streamOpener_chunks_count : Int32) (o_streamOpener_chunks_marked : Int32) (o_streamOpener_chunks_cells_n : Nat) (o_streamOpener_chunks_cells_c : Nat → Int32) (o_keptElements_count : Int32) (o_keptElements_marked : Int32) (o_keptElements_cells_n : Nat) (o_keptElements_cells_c : Nat → Int32) (o_keptChunks_count : Int32) (o_keptChunks_marked : Int32) (o_keptChunks_cells_n : Nat) (o_keptChunks_cells_c : Nat → Int32) {o_theTape_count : Int32} {o_theTape_row_n : Nat} {o_theTape_row_c : Nat → Int32} {p1 : Int32} {o : Int32} (hF : f_X6_tape K o_theTape_count o_theTape_row_n o_theTape_row_c p1 = some o) : mcI g l yX6_tape wA_X6_tape rm_X6_tape [.ref h_o, .int p1] (wF_SnapHouse g h_o h_o_theTape h_o_theTape_row h_o_theOut h_o_theOut_row h_o_presser h_o_presser_block h_o_presser_block_row h_o_presser_slots h_o_streamMaker h_o_streamMaker_made h_o_streamMaker_made_row h_o_blockOpener h_o_blockOpener_given h_o_blockOpener_given_row h_o_blockOpener_elements h_o_blockOpener_elements_cells h_o_streamOpener h_o_streamOpener_given h_o_streamOpener_given_row h_o_streamOpener_chunks h_o_streamOpener_chunks_cells h_o_keptElements h_o_keptElements_cells h_o_keptChunks h_o_keptChunks_cells o_faultNumber o_faultPlace o_faultOfBlock o_faultPlaceInBlock o_theTape_count o_theTape_row_n o_theTape_row_c o_theOut_count o_theOut_row_n o_theOut_row_c o_presser_slotMask o_presser_block_count o_presser_block_row_n o_presser_block_row_c o_presser_slots_n o_presser_slots_c o_streamMaker_made_count o_streamMaker_made_row_n o_streamMaker_made_row_c o_blockOpener_fault o_blockOpener_place o_blockOpener_start o_blockOpener_end o_blockOpener_next o_blockOpener_length o_blockOpener_sort o_blockOpener_body o_blockOpener_size o_blockOpener_back o_blockOpener_given_count o_blockOpener_given_row_n o_blockOpener_given_row_c o_blockOpener_elements_count o_blockOpener_elements_marked o_blockOpener_elements_cells_n o_blockOpener_elements_cells_c o_streamOpener_fault o_streamOpener_place o_streamOpener_next o_streamOpener_type o_streamOpener_body o_streamOpener_size o_streamOpener_given_count o_streamOpener_given_row_n o_streamOpener_given_row_c o_streamOpener_chunks_count o_streamOpener_chunks_marked o_streamOpener_chunks_cells_n o_streamOpener_chunks_cells_c o_keptElements_count o_keptElements_marked o_keptElements_cells_n o_keptElements_cells_c o_keptChunks_count o_keptChunks_marked o_keptChunks_cells_n o_keptChunks_cells_c) o (wF_SnapHouse g h_o h_o_theTape h_o_theTape_row h_o_theOut h_o_theOut_row h_o_presser h_o_presser_block h_o_presser_block_row h_o_presser_slots h_o_streamMaker h_o_streamMaker_made h_o_streamMaker_made_row h_o_blockOpener h_o_blockOpener_given h_o_blockOpener_given_row h_o_blockOpener_elements h_o_blockOpener_elements_cells h_o_streamOpener h_o_streamOpener_given h_o_streamOpener_given_row h_o_streamOpener_chunks h_o_streamOpener_chunks_cells h_o_keptElements h_o_keptElements_cells h_o_keptChunks h_o_keptChunks_cells o_faultNumber o_faultPlace o_faultOfBlock o_faultPlaceInBlock o_theTape_count o_theTape_row_n o_theTape_row_c o_theOut_count o_theOut_row_n o_theOut_row_c o_presser_slotMask o_presser_block_count o_presser_block_row_n o_presser_block_row_c o_presser_slots_n o_presser_slots_c o_streamMaker_made_count o_streamMaker_made_row_n o_streamMaker_made_row_c o_blockOpener_fault o_blockOpener_place o_blockOpener_start o_blockOpener_end o_blockOpener_next o_blockOpener_length o_blockOpener_sort o_blockOpener_body o_blockOpener_size o_blockOpener_back o_blockOpener_given_count o_blockOpener_given_row_n o_blockOpener_given_row_c o_blockOpener_elements_count o_blockOpener_elements_marked o_blockOpener_elements_cells_n o_blockOpener_elements_cells_c o_streamOpener_fault o_streamOpener_place o_streamOpener_next o_streamOpener_type o_streamOpener_body o_streamOpener_size o_streamOpener_given_count o_streamOpener_given_row_n o_streamOpener_given_row_c o_streamOpener_chunks_count o_streamOpener_chunks_marked o_streamOpener_chunks_cells_n o_streamOpener_chunks_cells_c o_keptElements_count o_keptElements_marked o_keptElements_cells_n o_keptElements_cells_c o_keptChunks_count o_keptChunks_marked o_keptChunks_cells_n o_keptChunks_cells_c) 0 0 := by
  refine x_start (cc := cX6_tape) (maxL := 2) (ret := (some .int)) (by decide) rfl (Nat.le_of_ble_eq_true rfl) ?_
  intro p e s m below meth c ls C0 hW hl
  have hl : lv_has ls 2 [(0, .ref h_o), (1, .int p1)] := hl
  unfold f_X6_tape at hF
  refine lv_aload_n C0.x C0.b dX6_tape_0 rfl (lv_at hl 0 rfl) ?_
  refine x_get C0 hW iw_X6 0 rfl rfl 0 (by decide) (List.mem_cons_of_mem _ wl_16) (v := .ref h_o_theTape) rfl dX6_tape_1 ?_
  refine lv_iload_n C0.x C0.b dX6_tape_4 rfl (lv_at hl 1 rfl) ?_
  obtain ⟨r1, e2, hF⟩ := ob hF
  refine go_i C0 hW [1, 2] [0, 3, 4, 5, 6, 7, 8, 9, 10, 11, 12, 13, 14, 15, 16, 17, 18, 19, 20, 21, 22, 23, 24, 25] [0, 24, 25, 1, 2, 3, 4, 5, 6, 7, 8, 9, 10, 11, 12, 13, 14, 15, 16, 17, 18, 19, 20, 21, 22, 23] (va_runV (As := [.int p1]) (rest := []) C0.fix (c_X1_at l g h_o_theTape h_o_theTape_row e2 _) (cwV 1 C0.ts (gw_V wl_205 wl_206 wl_207 wl_15 wl_208) rfl rfl rfl (by decide +kernel) ⟨Nat.le_of_ble_eq_true rfl, Nat.le_of_ble_eq_true rfl⟩) (pcv_of C0 hW [1, 2] rfl (by decide) (q0 := 1) rfl rfl) rfl rfl hl.1 rfl (lv_room (Nat.le_of_ble_eq_true rfl)) dX6_tape_5 ⟨Nat.le_of_ble_eq_true rfl, Nat.le_of_ble_eq_true rfl⟩) rfl rfl (by decide) (by decide) (ws' := (wF_SnapHouse g h_o h_o_theTape h_o_theTape_row h_o_theOut h_o_theOut_row h_o_presser h_o_presser_block h_o_presser_block_row h_o_presser_slots h_o_streamMaker h_o_streamMaker_made h_o_streamMaker_made_row h_o_blockOpener h_o_blockOpener_given h_o_blockOpener_given_row h_o_blockOpener_elements h_o_blockOpener_elements_cells h_o_streamOpener h_o_streamOpener_given h_o_streamOpener_given_row h_o_streamOpener_chunks h_o_streamOpener_chunks_cells h_o_keptElements h_o_keptElements_cells h_o_keptChunks h_o_keptChunks_cells o_faultNumber o_faultPlace o_faultOfBlock o_faultPlaceInBlock o_theTape_count o_theTape_row_n o_theTape_row_c o_theOut_count o_theOut_row_n o_theOut_row_c o_presser_slotMask o_presser_block_count o_presser_block_row_n o_presser_block_row_c o_presser_slots_n o_presser_slots_c o_streamMaker_made_count o_streamMaker_made_row_n o_streamMaker_made_row_c o_blockOpener_fault o_blockOpener_place o_blockOpener_start o_blockOpener_end o_blockOpener_next o_blockOpener_length o_blockOpener_sort o_blockOpener_body o_blockOpener_size o_blockOpener_back o_blockOpener_given_count o_blockOpener_given_row_n o_blockOpener_given_row_c o_blockOpener_elements_count o_blockOpener_elements_marked o_blockOpener_elements_cells_n o_blockOpener_elements_cells_c o_streamOpener_fault o_streamOpener_place o_streamOpener_next o_streamOpener_type o_streamOpener_body o_streamOpener_size o_streamOpener_given_count o_streamOpener_given_row_n o_streamOpener_given_row_c o_streamOpener_chunks_count o_streamOpener_chunks_marked o_streamOpener_chunks_cells_n o_streamOpener_chunks_cells_c o_keptElements_count o_keptElements_marked o_keptElements_cells_n o_keptElements_cells_c o_keptChunks_count o_keptChunks_marked o_keptChunks_cells_n o_keptChunks_cells_c)) rfl (by decide) (fun H locs hW => ?_)
  obtain rfl := Option.some.inj hF
  exact x_iret C0 hW rfl rfl dX6_tape_8

abbrev rm_X2_putLength : Room := { frames := 1, cells := 0, slots := 0, locals := 21 }

set_option maxHeartbeats 4000000 in
set_option maxRecDepth 100000 in
theorem w_X2_putLength_b41 (l : Launch) (g : GX) (h_o h_o_block h_o_block_row h_o_slots : Nat) {K : Nat} {o_block_row_n : Nat} {o_slotMask : Int32} {o_slots_n : Nat} {o_slots_c : Nat → Int32} {p1 : Int32} {o : Int32 × (Nat → Int32)} {wc : va_W} {p : Program} {e : Env} {s : State} {m : MethodId} {args : Array Value} {below : List Frame} {meth : Method} {c : Code} (C0 : bx g p s m meth c args cX2_putLength 4 none yX2_putLength wA_X2_putLength (va_A wc s.heap.size)) :
    ∀ (o_block_count : Int32) (o_block_row_c : Nat → Int32) (x2 : Int32), f_X2_putLength_b41 K o_block_row_n p1 o_block_count o_block_row_c x2 = some o → ∀ (H : Heap) (locs : List Loc) (ls : Array Slot), ww g (va_A wc s.heap.size) s (wF_Presser g h_o h_o_block h_o_block_row h_o_slots o_slotMask o_block_count o_block_row_n o_block_row_c o_slots_n o_slots_c) H locs → lv_has ls 4 [(0, .ref h_o), (2, .int x2)] → W p l e rm_X2_putLength s m args below meth c H locs 0 0 (MQ below (qcV g wc s.heap.size (wF_Presser g h_o h_o_block h_o_block_row h_o_slots o_slotMask o.1 o_block_row_n o.2 o_slots_n o_slots_c)) args s 0 0 (va_A wc s.heap.size)) (F0 m 41 ls []) := by
  intro o_block_count o_block_row_c x2 hF H locs ls hW hl
  unfold f_X2_putLength_b41 at hF
  refine lv_aload_n C0.x C0.b dX2_putLength_41 rfl (lv_at hl 0 rfl) ?_
  refine x_get C0 hW iw_X2 0 rfl rfl 0 (by decide) (List.mem_cons_of_mem _ wl_58) (v := .ref h_o_block) rfl dX2_putLength_42 ?_
  refine lv_iload_n C0.x C0.b dX2_putLength_45 rfl (lv_at hl 1 rfl) ?_
  obtain ⟨r1, e2, hF⟩ := ob hF
  refine go_v C0 hW [1, 2] [0, 3] [0, 2, 3, 1] (va_runV (As := [.int x2]) (rest := []) C0.fix (c_X1_put l g h_o_block h_o_block_row e2 _) (cwV 1 C0.ts (gw_V wl_259 wl_141 wl_142 wl_15 wl_143) rfl rfl rfl (by decide +kernel) ⟨Nat.le_of_ble_eq_true rfl, Nat.le_of_ble_eq_true rfl⟩) (pcv_of C0 hW [1, 2] rfl (by decide) (q0 := 1) rfl rfl) rfl rfl hl.1 rfl (lv_room (Nat.le_of_ble_eq_true rfl)) dX2_putLength_46 ⟨Nat.le_of_ble_eq_true rfl, Nat.le_of_ble_eq_true rfl⟩) rfl rfl (by decide) (by decide) (ws' := (wF_Presser g h_o h_o_block h_o_block_row h_o_slots o_slotMask r1.1 o_block_row_n r1.2 o_slots_n o_slots_c)) rfl (by decide) (fun H locs hW => ?_)
  obtain rfl := Option.some.inj hF
  exact x_vret C0 hW dX2_putLength_49

set_option maxHeartbeats 4000000 in
set_option maxRecDepth 100000 in
theorem w_X2_putLength_b4 (l : Launch) (g : GX) (h_o h_o_block h_o_block_row h_o_slots : Nat) {K : Nat} {o_block_row_n : Nat} {o_slotMask : Int32} {o_slots_n : Nat} {o_slots_c : Nat → Int32} {p1 : Int32} {o : Int32 × (Nat → Int32)} {wc : va_W} {p : Program} {e : Env} {s : State} {m : MethodId} {args : Array Value} {below : List Frame} {meth : Method} {c : Code} (C0 : bx g p s m meth c args cX2_putLength 4 none yX2_putLength wA_X2_putLength (va_A wc s.heap.size)) :
    ∀ (n : Nat) (o_block_count : Int32) (o_block_row_c : Nat → Int32) (x2 : Int32) (x3 : Int32), f_X2_putLength_b4 K o_block_row_n p1 n o_block_count o_block_row_c x2 x3 = some o → ∀ (H : Heap) (locs : List Loc) (ls : Array Slot), ww g (va_A wc s.heap.size) s (wF_Presser g h_o h_o_block h_o_block_row h_o_slots o_slotMask o_block_count o_block_row_n o_block_row_c o_slots_n o_slots_c) H locs → lv_has ls 4 [(0, .ref h_o), (2, .int x2), (3, .int x3)] → W p l e rm_X2_putLength s m args below meth c H locs 0 0 (MQ below (qcV g wc s.heap.size (wF_Presser g h_o h_o_block h_o_block_row h_o_slots o_slotMask o.1 o_block_row_n o.2 o_slots_n o_slots_c)) args s 0 0 (va_A wc s.heap.size)) (F0 m 4 ls []) := by
  intro n
  induction n with
  | zero => intro o_block_count o_block_row_c x2 x3 hF; cases (show (none : Option (Int32 × (Nat → Int32))) = some o from hF)
  | succ n ih =>
    intro o_block_count o_block_row_c x2 x3 hF H locs ls hW hl
    rw [f_X2_putLength_b4] at hF
    refine lv_iload_n C0.x C0.b dX2_putLength_4 rfl (lv_at hl 2 rfl) ?_
    refine lv_iconst (v := (5 : Int32)) C0.x C0.b dX2_putLength_5 (by decide) ?_
    refine lv_icmp_ge (tgt := 41) C0.x C0.b dX2_putLength_6 (by decide) (fun c1 => ?_) (fun c1 => ?_)
    · have hF := it_t hF c1
      exact w_X2_putLength_b41 l g h_o h_o_block h_o_block_row h_o_slots C0 o_block_count o_block_row_c x2 hF _ _ _ hW (lv_sub hl [0, 1] rfl)
    · have hF := it_f hF c1
      refine lv_iload_n C0.x C0.b dX2_putLength_9 rfl (lv_at hl 1 rfl) ?_
      refine lv_bipush (v := (127 : Int32)) C0.x C0.b dX2_putLength_10 (by decide) ?_
      refine lv_icmp_le (tgt := 41) C0.x C0.b dX2_putLength_12 (by decide) (fun c2 => ?_) (fun c2 => ?_)
      · have hF := it_t hF c2
        exact w_X2_putLength_b41 l g h_o h_o_block h_o_block_row h_o_slots C0 o_block_count o_block_row_c x2 hF _ _ _ hW (lv_sub hl [0, 1] rfl)
      · have hF := it_f hF c2
        refine lv_aload_n C0.x C0.b dX2_putLength_15 rfl (lv_at hl 0 rfl) ?_
        refine x_get C0 hW iw_X2 0 rfl rfl 0 (by decide) (List.mem_cons_of_mem _ wl_58) (v := .ref h_o_block) rfl dX2_putLength_16 ?_
        refine lv_iload_n C0.x C0.b dX2_putLength_19 rfl (lv_at hl 1 rfl) ?_
        refine lv_bipush (v := (127 : Int32)) C0.x C0.b dX2_putLength_20 (by decide) ?_
        refine lv_iand C0.x C0.b dX2_putLength_22 ?_
        refine lv_sipush (v := (128 : Int32)) C0.x C0.b dX2_putLength_23 (by decide) ?_
        refine lv_ior C0.x C0.b dX2_putLength_26 ?_
        obtain ⟨r3, e4, hF⟩ := ob hF
        refine go_v C0 hW [1, 2] [0, 3] [0, 2, 3, 1] (va_runV (As := [.int ((x2 &&& (127 : Int32)) ||| (128 : Int32))]) (rest := []) C0.fix (c_X1_put l g h_o_block h_o_block_row e4 _) (cwV 1 C0.ts (gw_V wl_259 wl_141 wl_142 wl_15 wl_143) rfl rfl rfl (by decide +kernel) ⟨Nat.le_of_ble_eq_true rfl, Nat.le_of_ble_eq_true rfl⟩) (pcv_of C0 hW [1, 2] rfl (by decide) (q0 := 1) rfl rfl) rfl rfl hl.1 rfl (lv_room (Nat.le_of_ble_eq_true rfl)) dX2_putLength_27 ⟨Nat.le_of_ble_eq_true rfl, Nat.le_of_ble_eq_true rfl⟩) rfl rfl (by decide) (by decide) (ws' := (wF_Presser g h_o h_o_block h_o_block_row h_o_slots o_slotMask r3.1 o_block_row_n r3.2 o_slots_n o_slots_c)) rfl (by decide) (fun H locs hW => ?_)
        refine lv_iload_n C0.x C0.b dX2_putLength_30 rfl (lv_at hl 1 rfl) ?_
        refine lv_bipush (v := (7 : Int32)) C0.x C0.b dX2_putLength_31 (by decide) ?_
        refine lv_iushr (v := (ushr x2 (7 : Int32))) C0.x C0.b dX2_putLength_33 rfl ?_
        refine lv_istore_n (lv' := [(2, .int (ushr x2 (7 : Int32))), (0, .ref h_o), (3, .int x3)]) C0.x C0.b dX2_putLength_34 rfl hl (by decide) rfl (fun ls hl => ?_)
        refine lv_iinc (v := (x3 + (1 : Int32))) (lv' := [(3, .int (x3 + (1 : Int32))), (2, .int (ushr x2 (7 : Int32))), (0, .ref h_o)]) C0.x C0.b dX2_putLength_35 hl (k := 2) rfl rfl (by decide) rfl (fun ls hl => ?_)
        refine lv_goto (tgt := 4) C0.x C0.b dX2_putLength_38 (by decide) ?_
        exact ih r3.1 r3.2 (ushr x2 (7 : Int32)) (x3 + (1 : Int32)) hF _ _ _ hW (lv_sub hl [2, 1, 0] rfl)

set_option maxHeartbeats 4000000 in
set_option maxRecDepth 100000 in
/-- SnapHouse$Presser.putLength(I)V -/
theorem c_X2_putLength (l : Launch) (g : GX) (h_o h_o_block h_o_block_row h_o_slots : Nat) {K : Nat} (o_slotMask : Int32) (o_slots_n : Nat) (o_slots_c : Nat → Int32) {o_block_count : Int32} {o_block_row_n : Nat} {o_block_row_c : Nat → Int32} {p1 : Int32} {o : Int32 × (Nat → Int32)} (hF : f_X2_putLength K o_block_count o_block_row_n o_block_row_c p1 = some o) : mcV g l yX2_putLength wA_X2_putLength rm_X2_putLength [.ref h_o, .int p1] (wF_Presser g h_o h_o_block h_o_block_row h_o_slots o_slotMask o_block_count o_block_row_n o_block_row_c o_slots_n o_slots_c) (wF_Presser g h_o h_o_block h_o_block_row h_o_slots o_slotMask o.1 o_block_row_n o.2 o_slots_n o_slots_c) 0 0 := by
  refine x_start (cc := cX2_putLength) (maxL := 4) (ret := none) (by decide) rfl (Nat.le_of_ble_eq_true rfl) ?_
  intro p e s m below meth c ls C0 hW hl
  have hl : lv_has ls 4 [(0, .ref h_o), (1, .int p1)] := hl
  unfold f_X2_putLength at hF
  refine lv_iload_n C0.x C0.b dX2_putLength_0 rfl (lv_at hl 1 rfl) ?_
  refine lv_istore_n (lv' := [(2, .int p1), (0, .ref h_o), (1, .int p1)]) C0.x C0.b dX2_putLength_1 rfl hl (by decide) rfl (fun ls hl => ?_)
  refine lv_iconst (v := (0 : Int32)) C0.x C0.b dX2_putLength_2 (by decide) ?_
  refine lv_istore_n (lv' := [(3, .int (0 : Int32)), (2, .int p1), (0, .ref h_o), (1, .int p1)]) C0.x C0.b dX2_putLength_3 rfl hl (by decide) rfl (fun ls hl => ?_)
  exact w_X2_putLength_b4 l g h_o h_o_block h_o_block_row h_o_slots C0 K o_block_count o_block_row_c p1 (0 : Int32) hF _ _ _ hW (lv_sub hl [2, 1, 0] rfl)

abbrev rm_X2_freeSlots : Room := { frames := 0, cells := 0, slots := 0, locals := 0 }

set_option maxHeartbeats 4000000 in
set_option maxRecDepth 100000 in
theorem w_X2_freeSlots_b30 (l : Launch) (g : GX) (h_o h_o_block h_o_block_row h_o_slots : Nat) {K : Nat} {o_slots_n : Nat} {o_block_count : Int32} {o_block_row_n : Nat} {o_block_row_c : Nat → Int32} {p1 : Int32} {o : Int32 × (Nat → Int32)} {wc : va_W} {p : Program} {e : Env} {s : State} {m : MethodId} {args : Array Value} {below : List Frame} {meth : Method} {c : Code} (C0 : bx g p s m meth c args cX2_freeSlots 4 none yX2_freeSlots wA_X2_freeSlots (va_A wc s.heap.size)) :
    ∀ (n : Nat) (o_slotMask : Int32) (o_slots_c : Nat → Int32) (x2 : Int32) (x3 : Int32), f_X2_freeSlots_b30 K o_slots_n p1 n o_slotMask o_slots_c x2 x3 = some o → ∀ (H : Heap) (locs : List Loc) (ls : Array Slot), ww g (va_A wc s.heap.size) s (wF_Presser g h_o h_o_block h_o_block_row h_o_slots o_slotMask o_block_count o_block_row_n o_block_row_c o_slots_n o_slots_c) H locs → lv_has ls 4 [(0, .ref h_o), (2, .int x2), (3, .int x3)] → W p l e rm_X2_freeSlots s m args below meth c H locs 0 0 (MQ below (qcV g wc s.heap.size (wF_Presser g h_o h_o_block h_o_block_row h_o_slots o.1 o_block_count o_block_row_n o_block_row_c o_slots_n o.2)) args s 0 0 (va_A wc s.heap.size)) (F0 m 30 ls []) := by
  intro n
  induction n with
  | zero => intro o_slotMask o_slots_c x2 x3 hF; cases (show (none : Option (Int32 × (Nat → Int32))) = some o from hF)
  | succ n ih =>
    intro o_slotMask o_slots_c x2 x3 hF H locs ls hW hl
    rw [f_X2_freeSlots_b30] at hF
    refine lv_iload_n C0.x C0.b dX2_freeSlots_30 rfl (lv_at hl 2 rfl) ?_
    refine lv_iload_n C0.x C0.b dX2_freeSlots_31 rfl (lv_at hl 1 rfl) ?_
    refine lv_icmp_gt (tgt := 48) C0.x C0.b dX2_freeSlots_32 (by decide) (fun c1 => ?_) (fun c1 => ?_)
    · have hF := it_t hF c1
      refine lv_aload_n C0.x C0.b dX2_freeSlots_48 rfl (lv_at hl 0 rfl) ?_
      refine lv_iload_n C0.x C0.b dX2_freeSlots_49 rfl (lv_at hl 1 rfl) ?_
      refine x_put C0 hW iw_X2 tyX2 tyX2_ok nmX2 0 rfl rfl 2 (by decide) (List.mem_cons_of_mem _ wl_61) rfl (ty := .int) (v := .int x2) (by decide +kernel) rfl rfl (Nat.le_of_ble_eq_true rfl) dX2_freeSlots_50 (ws' := (wF_Presser g h_o h_o_block h_o_block_row h_o_slots x2 o_block_count o_block_row_n o_block_row_c o_slots_n o_slots_c)) rfl (fun H locs hW => ?_)
      obtain rfl := Option.some.inj hF
      exact x_vret C0 hW dX2_freeSlots_53
    · have hF := it_f hF c1
      refine lv_aload_n C0.x C0.b dX2_freeSlots_35 rfl (lv_at hl 0 rfl) ?_
      refine x_get C0 hW iw_X2 0 rfl rfl 1 (by decide) (List.mem_cons_of_mem _ wl_60) (v := .ref h_o_slots) rfl dX2_freeSlots_36 ?_
      refine lv_iload_n C0.x C0.b dX2_freeSlots_39 rfl (lv_at hl 2 rfl) ?_
      refine lv_iconst (v := (0 : Int32)) C0.x C0.b dX2_freeSlots_40 (by decide) ?_
      obtain ⟨h2, hF⟩ := ck_some hF
      refine x_iast C0 hW 3 0 rfl rfl h2 dX2_freeSlots_41 (ws' := (wF_Presser g h_o h_o_block h_o_block_row h_o_slots o_slotMask o_block_count o_block_row_n o_block_row_c o_slots_n (upd o_slots_c x3.toNatClampNeg (0 : Int32)))) rfl (fun H locs hW => ?_)
      refine lv_iinc (v := (x3 + (1 : Int32))) (lv' := [(3, .int (x3 + (1 : Int32))), (0, .ref h_o), (2, .int x2)]) C0.x C0.b dX2_freeSlots_42 hl (k := 2) rfl rfl (by decide) rfl (fun ls hl => ?_)
      refine lv_goto (tgt := 30) C0.x C0.b dX2_freeSlots_45 (by decide) ?_
      exact ih o_slotMask (upd o_slots_c x3.toNatClampNeg (0 : Int32)) x2 (x3 + (1 : Int32)) hF _ _ _ hW (lv_sub hl [1, 2, 0] rfl)

set_option maxHeartbeats 4000000 in
set_option maxRecDepth 100000 in
theorem w_X2_freeSlots_b3 (l : Launch) (g : GX) (h_o h_o_block h_o_block_row h_o_slots : Nat) {K : Nat} {o_slots_n : Nat} {o_block_count : Int32} {o_block_row_n : Nat} {o_block_row_c : Nat → Int32} {p1 : Int32} {o : Int32 × (Nat → Int32)} {wc : va_W} {p : Program} {e : Env} {s : State} {m : MethodId} {args : Array Value} {below : List Frame} {meth : Method} {c : Code} (C0 : bx g p s m meth c args cX2_freeSlots 4 none yX2_freeSlots wA_X2_freeSlots (va_A wc s.heap.size)) :
    ∀ (n : Nat) (o_slotMask : Int32) (o_slots_c : Nat → Int32) (x2 : Int32), f_X2_freeSlots_b3 K o_slots_n p1 n o_slotMask o_slots_c x2 = some o → ∀ (H : Heap) (locs : List Loc) (ls : Array Slot), ww g (va_A wc s.heap.size) s (wF_Presser g h_o h_o_block h_o_block_row h_o_slots o_slotMask o_block_count o_block_row_n o_block_row_c o_slots_n o_slots_c) H locs → lv_has ls 4 [(0, .ref h_o), (1, .int p1), (2, .int x2)] → W p l e rm_X2_freeSlots s m args below meth c H locs 0 0 (MQ below (qcV g wc s.heap.size (wF_Presser g h_o h_o_block h_o_block_row h_o_slots o.1 o_block_count o_block_row_n o_block_row_c o_slots_n o.2)) args s 0 0 (va_A wc s.heap.size)) (F0 m 3 ls []) := by
  intro n
  induction n with
  | zero => intro o_slotMask o_slots_c x2 hF; cases (show (none : Option (Int32 × (Nat → Int32))) = some o from hF)
  | succ n ih =>
    intro o_slotMask o_slots_c x2 hF H locs ls hW hl
    rw [f_X2_freeSlots_b3] at hF
    refine lv_iload_n C0.x C0.b dX2_freeSlots_3 rfl (lv_at hl 2 rfl) ?_
    refine lv_iload_n C0.x C0.b dX2_freeSlots_4 rfl (lv_at hl 1 rfl) ?_
    refine lv_iload_n C0.x C0.b dX2_freeSlots_5 rfl (lv_at hl 1 rfl) ?_
    refine lv_iconst (v := (4 : Int32)) C0.x C0.b dX2_freeSlots_6 (by decide) ?_
    refine lv_idiv C0.x C0.b dX2_freeSlots_7 (by decide) ?_
    refine lv_iadd C0.x C0.b dX2_freeSlots_8 ?_
    refine lv_icmp_ge (tgt := 28) C0.x C0.b dX2_freeSlots_9 (by decide) (fun c1 => ?_) (fun c1 => ?_)
    · have hF := it_t hF c1
      refine lv_iconst (v := (0 : Int32)) C0.x C0.b dX2_freeSlots_28 (by decide) ?_
      refine lv_istore_n (lv' := [(3, .int (0 : Int32)), (0, .ref h_o), (1, .int p1), (2, .int x2)]) C0.x C0.b dX2_freeSlots_29 rfl hl (by decide) rfl (fun ls hl => ?_)
      exact w_X2_freeSlots_b30 l g h_o h_o_block h_o_block_row h_o_slots C0 K o_slotMask o_slots_c x2 (0 : Int32) hF _ _ _ hW (lv_sub hl [1, 3, 0] rfl)
    · have hF := it_f hF c1
      refine lv_iload_n C0.x C0.b dX2_freeSlots_12 rfl (lv_at hl 2 rfl) ?_
      refine lv_sipush (v := (32767 : Int32)) C0.x C0.b dX2_freeSlots_13 (by decide) ?_
      refine lv_icmp_ge (tgt := 28) C0.x C0.b dX2_freeSlots_16 (by decide) (fun c2 => ?_) (fun c2 => ?_)
      · have hF := it_t hF c2
        refine lv_iconst (v := (0 : Int32)) C0.x C0.b dX2_freeSlots_28 (by decide) ?_
        refine lv_istore_n (lv' := [(3, .int (0 : Int32)), (0, .ref h_o), (1, .int p1), (2, .int x2)]) C0.x C0.b dX2_freeSlots_29 rfl hl (by decide) rfl (fun ls hl => ?_)
        exact w_X2_freeSlots_b30 l g h_o h_o_block h_o_block_row h_o_slots C0 K o_slotMask o_slots_c x2 (0 : Int32) hF _ _ _ hW (lv_sub hl [1, 3, 0] rfl)
      · have hF := it_f hF c2
        refine lv_iconst (v := (2 : Int32)) C0.x C0.b dX2_freeSlots_19 (by decide) ?_
        refine lv_iload_n C0.x C0.b dX2_freeSlots_20 rfl (lv_at hl 2 rfl) ?_
        refine lv_imul C0.x C0.b dX2_freeSlots_21 ?_
        refine lv_iconst (v := (1 : Int32)) C0.x C0.b dX2_freeSlots_22 (by decide) ?_
        refine lv_iadd C0.x C0.b dX2_freeSlots_23 ?_
        refine lv_istore_n (lv' := [(2, .int (((2 : Int32) * x2) + (1 : Int32))), (0, .ref h_o), (1, .int p1)]) C0.x C0.b dX2_freeSlots_24 rfl hl (by decide) rfl (fun ls hl => ?_)
        refine lv_goto (tgt := 3) C0.x C0.b dX2_freeSlots_25 (by decide) ?_
        exact ih o_slotMask o_slots_c (((2 : Int32) * x2) + (1 : Int32)) hF _ _ _ hW (lv_sub hl [1, 2, 0] rfl)

set_option maxHeartbeats 4000000 in
set_option maxRecDepth 100000 in
/-- SnapHouse$Presser.freeSlots(I)V -/
theorem c_X2_freeSlots (l : Launch) (g : GX) (h_o h_o_block h_o_block_row h_o_slots : Nat) {K : Nat} (o_block_count : Int32) (o_block_row_n : Nat) (o_block_row_c : Nat → Int32) {o_slotMask : Int32} {o_slots_n : Nat} {o_slots_c : Nat → Int32} {p1 : Int32} {o : Int32 × (Nat → Int32)} (hF : f_X2_freeSlots K o_slotMask o_slots_n o_slots_c p1 = some o) : mcV g l yX2_freeSlots wA_X2_freeSlots rm_X2_freeSlots [.ref h_o, .int p1] (wF_Presser g h_o h_o_block h_o_block_row h_o_slots o_slotMask o_block_count o_block_row_n o_block_row_c o_slots_n o_slots_c) (wF_Presser g h_o h_o_block h_o_block_row h_o_slots o.1 o_block_count o_block_row_n o_block_row_c o_slots_n o.2) 0 0 := by
  refine x_start (cc := cX2_freeSlots) (maxL := 4) (ret := none) (by decide) rfl (Nat.le_of_ble_eq_true rfl) ?_
  intro p e s m below meth c ls C0 hW hl
  have hl : lv_has ls 4 [(0, .ref h_o), (1, .int p1)] := hl
  unfold f_X2_freeSlots at hF
  refine lv_bipush (v := (15 : Int32)) C0.x C0.b dX2_freeSlots_0 (by decide) ?_
  refine lv_istore_n (lv' := [(2, .int (15 : Int32)), (0, .ref h_o), (1, .int p1)]) C0.x C0.b dX2_freeSlots_2 rfl hl (by decide) rfl (fun ls hl => ?_)
  exact w_X2_freeSlots_b3 l g h_o h_o_block h_o_block_row h_o_slots C0 K o_slotMask o_slots_c (15 : Int32) hF _ _ _ hW (lv_sub hl [1, 2, 0] rfl)

abbrev rm_X1_putLowestFirst : Room := { frames := 1, cells := 0, slots := 0, locals := 21 }

set_option maxHeartbeats 4000000 in
set_option maxRecDepth 100000 in
theorem w_X1_putLowestFirst_b2 (l : Launch) (g : GX) (h_o h_o_row : Nat) {K : Nat} {o_row_n : Nat} {p1 : Int32} {p2 : Int32} {o : Int32 × (Nat → Int32)} {wc : va_W} {p : Program} {e : Env} {s : State} {m : MethodId} {args : Array Value} {below : List Frame} {meth : Method} {c : Code} (C0 : bx g p s m meth c args cX1_putLowestFirst 4 none yX1_putLowestFirst wA_X1_putLowestFirst (va_A wc s.heap.size)) :
    ∀ (n : Nat) (o_count : Int32) (o_row_c : Nat → Int32) (x3 : Int32), f_X1_putLowestFirst_b2 K o_row_n p1 p2 n o_count o_row_c x3 = some o → ∀ (H : Heap) (locs : List Loc) (ls : Array Slot), ww g (va_A wc s.heap.size) s (wF_Bytes g h_o h_o_row o_count o_row_n o_row_c) H locs → lv_has ls 4 [(0, .ref h_o), (1, .int p1), (2, .int p2), (3, .int x3)] → W p l e rm_X1_putLowestFirst s m args below meth c H locs 0 0 (MQ below (qcV g wc s.heap.size (wF_Bytes g h_o h_o_row o.1 o_row_n o.2)) args s 0 0 (va_A wc s.heap.size)) (F0 m 2 ls []) := by
  intro n
  induction n with
  | zero => intro o_count o_row_c x3 hF; cases (show (none : Option (Int32 × (Nat → Int32))) = some o from hF)
  | succ n ih =>
    intro o_count o_row_c x3 hF H locs ls hW hl
    rw [f_X1_putLowestFirst_b2] at hF
    refine lv_iload_n C0.x C0.b dX1_putLowestFirst_2 rfl (lv_at hl 3 rfl) ?_
    refine lv_iload_n C0.x C0.b dX1_putLowestFirst_3 rfl (lv_at hl 2 rfl) ?_
    refine lv_icmp_ge (tgt := 27) C0.x C0.b dX1_putLowestFirst_4 (by decide) (fun c1 => ?_) (fun c1 => ?_)
    · have hF := it_t hF c1
      obtain rfl := Option.some.inj hF
      exact x_vret C0 hW dX1_putLowestFirst_27
    · have hF := it_f hF c1
      refine lv_aload_n C0.x C0.b dX1_putLowestFirst_7 rfl (lv_at hl 0 rfl) ?_
      refine lv_iload_n C0.x C0.b dX1_putLowestFirst_8 rfl (lv_at hl 1 rfl) ?_
      refine lv_bipush (v := (8 : Int32)) C0.x C0.b dX1_putLowestFirst_9 (by decide) ?_
      refine lv_iload_n C0.x C0.b dX1_putLowestFirst_11 rfl (lv_at hl 3 rfl) ?_
      refine lv_imul C0.x C0.b dX1_putLowestFirst_12 ?_
      refine lv_iushr (v := (ushr p1 ((8 : Int32) * x3))) C0.x C0.b dX1_putLowestFirst_13 rfl ?_
      refine lv_sipush (v := (255 : Int32)) C0.x C0.b dX1_putLowestFirst_14 (by decide) ?_
      refine lv_iand C0.x C0.b dX1_putLowestFirst_17 ?_
      obtain ⟨r2, e3, hF⟩ := ob hF
      refine go_v C0 hW [0, 1] [] [0, 1] (va_runV (As := [.int ((ushr p1 ((8 : Int32) * x3)) &&& (255 : Int32))]) (rest := []) C0.fix (c_X1_put l g h_o h_o_row e3 _) (cwV 1 C0.ts (gw_V wl_140 wl_141 wl_142 wl_15 wl_143) rfl rfl rfl (by decide +kernel) ⟨Nat.le_of_ble_eq_true rfl, Nat.le_of_ble_eq_true rfl⟩) (pcv_of C0 hW [0, 1] rfl (by decide) (q0 := 0) rfl rfl) rfl rfl hl.1 rfl (lv_room (Nat.le_of_ble_eq_true rfl)) dX1_putLowestFirst_18 ⟨Nat.le_of_ble_eq_true rfl, Nat.le_of_ble_eq_true rfl⟩) rfl rfl (by decide) (by decide) (ws' := (wF_Bytes g h_o h_o_row r2.1 o_row_n r2.2)) rfl (by decide) (fun H locs hW => ?_)
      refine lv_iinc (v := (x3 + (1 : Int32))) (lv' := [(3, .int (x3 + (1 : Int32))), (0, .ref h_o), (1, .int p1), (2, .int p2)]) C0.x C0.b dX1_putLowestFirst_21 hl (k := 3) rfl rfl (by decide) rfl (fun ls hl => ?_)
      refine lv_goto (tgt := 2) C0.x C0.b dX1_putLowestFirst_24 (by decide) ?_
      exact ih r2.1 r2.2 (x3 + (1 : Int32)) hF _ _ _ hW (lv_sub hl [1, 2, 3, 0] rfl)

set_option maxHeartbeats 4000000 in
set_option maxRecDepth 100000 in
/-- SnapHouse$Bytes.putLowestFirst(II)V -/
theorem c_X1_putLowestFirst (l : Launch) (g : GX) (h_o h_o_row : Nat) {K : Nat} {o_count : Int32} {o_row_n : Nat} {o_row_c : Nat → Int32} {p1 : Int32} {p2 : Int32} {o : Int32 × (Nat → Int32)} (hF : f_X1_putLowestFirst K o_count o_row_n o_row_c p1 p2 = some o) : mcV g l yX1_putLowestFirst wA_X1_putLowestFirst rm_X1_putLowestFirst [.ref h_o, .int p1, .int p2] (wF_Bytes g h_o h_o_row o_count o_row_n o_row_c) (wF_Bytes g h_o h_o_row o.1 o_row_n o.2) 0 0 := by
  refine x_start (cc := cX1_putLowestFirst) (maxL := 4) (ret := none) (by decide) rfl (Nat.le_of_ble_eq_true rfl) ?_
  intro p e s m below meth c ls C0 hW hl
  have hl : lv_has ls 4 [(0, .ref h_o), (1, .int p1), (2, .int p2)] := hl
  unfold f_X1_putLowestFirst at hF
  refine lv_iconst (v := (0 : Int32)) C0.x C0.b dX1_putLowestFirst_0 (by decide) ?_
  refine lv_istore_n (lv' := [(3, .int (0 : Int32)), (0, .ref h_o), (1, .int p1), (2, .int p2)]) C0.x C0.b dX1_putLowestFirst_1 rfl hl (by decide) rfl (fun ls hl => ?_)
  exact w_X1_putLowestFirst_b2 l g h_o h_o_row C0 K o_count o_row_c (0 : Int32) hF _ _ _ hW (lv_sub hl [1, 2, 3, 0] rfl)

