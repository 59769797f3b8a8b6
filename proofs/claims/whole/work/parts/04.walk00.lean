abbrev rm_X1_hasRoomFor : Room := { frames := 0, cells := 0, slots := 0, locals := 0 }

set_option maxHeartbeats 4000000 in
set_option maxRecDepth 100000 in
/-- SnapHouse$Bytes.hasRoomFor(I)Z -/
theorem c_X1_hasRoomFor (l : Launch) (g : GX) (h_o h_o_row : Nat) {K : Nat} (o_row_c : Nat → Int32) {o_count : Int32} {o_row_n : Nat} {p1 : Int32} {o : Int32} (hF : f_X1_hasRoomFor K o_count o_row_n p1 = some o) : mcI g l yX1_hasRoomFor wA_X1_hasRoomFor rm_X1_hasRoomFor [.ref h_o, .int p1] (wF_Bytes g h_o h_o_row o_count o_row_n o_row_c) o (wF_Bytes g h_o h_o_row o_count o_row_n o_row_c) 0 0 := by
  refine x_start (cc := cX1_hasRoomFor) (maxL := 2) (ret := (some .boolean)) (by decide) rfl (Nat.le_of_ble_eq_true rfl) ?_
  intro p e s m below meth c ls C0 hW hl
  have hl : lv_has ls 2 [(0, .ref h_o), (1, .int p1)] := hl
  unfold f_X1_hasRoomFor at hF
  refine lv_iload_n C0.x C0.b dX1_hasRoomFor_0 rfl (lv_at hl 1 rfl) ?_
  refine lv_if_lt (tgt := 22) C0.x C0.b dX1_hasRoomFor_1 (by decide) (fun c1 => ?_) (fun c1 => ?_)
  · have hF := it_t hF c1
    refine lv_iconst (v := (0 : Int32)) C0.x C0.b dX1_hasRoomFor_22 (by decide) ?_
    obtain rfl := Option.some.inj hF
    exact x_iret C0 hW (by decide) rfl dX1_hasRoomFor_23
  · have hF := it_f hF c1
    refine lv_iload_n C0.x C0.b dX1_hasRoomFor_4 rfl (lv_at hl 1 rfl) ?_
    refine lv_aload_n C0.x C0.b dX1_hasRoomFor_5 rfl (lv_at hl 0 rfl) ?_
    refine x_get C0 hW iw_X1 0 rfl rfl 0 (by decide) (List.mem_cons_of_mem _ wl_53) (v := .ref h_o_row) rfl dX1_hasRoomFor_6 ?_
    refine x_alen C0 hW 1 0 rfl rfl (v := (Int32.ofNat o_row_n)) rfl dX1_hasRoomFor_9 ?_
    refine lv_aload_n C0.x C0.b dX1_hasRoomFor_10 rfl (lv_at hl 0 rfl) ?_
    refine x_get C0 hW iw_X1 0 rfl rfl 1 (by decide) (List.mem_cons_of_mem _ wl_47) (v := .int o_count) rfl dX1_hasRoomFor_11 ?_
    refine lv_isub C0.x C0.b dX1_hasRoomFor_14 ?_
    refine lv_icmp_gt (tgt := 22) C0.x C0.b dX1_hasRoomFor_15 (by decide) (fun c2 => ?_) (fun c2 => ?_)
    · have hF := it_t hF c2
      refine lv_iconst (v := (0 : Int32)) C0.x C0.b dX1_hasRoomFor_22 (by decide) ?_
      obtain rfl := Option.some.inj hF
      exact x_iret C0 hW (by decide) rfl dX1_hasRoomFor_23
    · have hF := it_f hF c2
      refine lv_iconst (v := (1 : Int32)) C0.x C0.b dX1_hasRoomFor_18 (by decide) ?_
      refine lv_goto (tgt := 23) C0.x C0.b dX1_hasRoomFor_19 (by decide) ?_
      obtain rfl := Option.some.inj hF
      exact x_iret C0 hW (by decide) rfl dX1_hasRoomFor_23

abbrev rm_X1_put : Room := { frames := 0, cells := 0, slots := 0, locals := 0 }

set_option maxHeartbeats 4000000 in
set_option maxRecDepth 100000 in
/-- SnapHouse$Bytes.put(I)V -/
theorem c_X1_put (l : Launch) (g : GX) (h_o h_o_row : Nat) {K : Nat} {o_count : Int32} {o_row_n : Nat} {o_row_c : Nat → Int32} {p1 : Int32} {o : Int32 × (Nat → Int32)} (hF : f_X1_put K o_count o_row_n o_row_c p1 = some o) : mcV g l yX1_put wA_X1_put rm_X1_put [.ref h_o, .int p1] (wF_Bytes g h_o h_o_row o_count o_row_n o_row_c) (wF_Bytes g h_o h_o_row o.1 o_row_n o.2) 0 0 := by
  refine x_start (cc := cX1_put) (maxL := 2) (ret := none) (by decide) rfl (Nat.le_of_ble_eq_true rfl) ?_
  intro p e s m below meth c ls C0 hW hl
  have hl : lv_has ls 2 [(0, .ref h_o), (1, .int p1)] := hl
  unfold f_X1_put at hF
  refine lv_aload_n C0.x C0.b dX1_put_0 rfl (lv_at hl 0 rfl) ?_
  refine x_get C0 hW iw_X1 0 rfl rfl 1 (by decide) (List.mem_cons_of_mem _ wl_47) (v := .int o_count) rfl dX1_put_1 ?_
  refine lv_aload_n C0.x C0.b dX1_put_4 rfl (lv_at hl 0 rfl) ?_
  refine x_get C0 hW iw_X1 0 rfl rfl 0 (by decide) (List.mem_cons_of_mem _ wl_53) (v := .ref h_o_row) rfl dX1_put_5 ?_
  refine x_alen C0 hW 1 0 rfl rfl (v := (Int32.ofNat o_row_n)) rfl dX1_put_8 ?_
  refine lv_icmp_ge (tgt := 32) C0.x C0.b dX1_put_9 (by decide) (fun c1 => ?_) (fun c1 => ?_)
  · have hF := it_t hF c1
    obtain rfl := Option.some.inj hF
    exact x_vret C0 hW dX1_put_32
  · have hF := it_f hF c1
    refine lv_aload_n C0.x C0.b dX1_put_12 rfl (lv_at hl 0 rfl) ?_
    refine x_get C0 hW iw_X1 0 rfl rfl 0 (by decide) (List.mem_cons_of_mem _ wl_53) (v := .ref h_o_row) rfl dX1_put_13 ?_
    refine lv_aload_n C0.x C0.b dX1_put_16 rfl (lv_at hl 0 rfl) ?_
    refine x_get C0 hW iw_X1 0 rfl rfl 1 (by decide) (List.mem_cons_of_mem _ wl_47) (v := .int o_count) rfl dX1_put_17 ?_
    refine lv_iload_n C0.x C0.b dX1_put_20 rfl (lv_at hl 1 rfl) ?_
    obtain ⟨h2, hF⟩ := ck_some hF
    refine x_iast C0 hW 1 0 rfl rfl h2 dX1_put_21 (ws' := (wF_Bytes g h_o h_o_row o_count o_row_n (upd o_row_c o_count.toNatClampNeg p1))) rfl (fun H locs hW => ?_)
    refine lv_aload_n C0.x C0.b dX1_put_22 rfl (lv_at hl 0 rfl) ?_
    refine lv_dup C0.x C0.b dX1_put_23 rfl ?_
    refine x_get C0 hW iw_X1 0 rfl rfl 1 (by decide) (List.mem_cons_of_mem _ wl_47) (v := .int o_count) rfl dX1_put_24 ?_
    refine lv_iconst (v := (1 : Int32)) C0.x C0.b dX1_put_27 (by decide) ?_
    refine lv_iadd C0.x C0.b dX1_put_28 ?_
    refine x_put C0 hW iw_X1 tyX1 tyX1_ok nmX1 0 rfl rfl 1 (by decide) (List.mem_cons_of_mem _ wl_47) rfl (ty := .int) (v := .int (o_count + (1 : Int32))) (by decide +kernel) rfl rfl (Nat.le_of_ble_eq_true rfl) dX1_put_29 (ws' := (wF_Bytes g h_o h_o_row (o_count + (1 : Int32)) o_row_n (upd o_row_c o_count.toNatClampNeg p1))) rfl (fun H locs hW => ?_)
    obtain rfl := Option.some.inj hF
    exact x_vret C0 hW dX1_put_32

abbrev rm_X1_putHighestFirst : Room := { frames := 1, cells := 0, slots := 0, locals := 21 }

set_option maxHeartbeats 4000000 in
set_option maxRecDepth 100000 in
/-- SnapHouse$Bytes.putHighestFirst(I)V -/
theorem c_X1_putHighestFirst (l : Launch) (g : GX) (h_o h_o_row : Nat) {K : Nat} {o_count : Int32} {o_row_n : Nat} {o_row_c : Nat → Int32} {p1 : Int32} {o : Int32 × (Nat → Int32)} (hF : f_X1_putHighestFirst K o_count o_row_n o_row_c p1 = some o) : mcV g l yX1_putHighestFirst wA_X1_putHighestFirst rm_X1_putHighestFirst [.ref h_o, .int p1] (wF_Bytes g h_o h_o_row o_count o_row_n o_row_c) (wF_Bytes g h_o h_o_row o.1 o_row_n o.2) 0 0 := by
  refine x_start (cc := cX1_putHighestFirst) (maxL := 2) (ret := none) (by decide) rfl (Nat.le_of_ble_eq_true rfl) ?_
  intro p e s m below meth c ls C0 hW hl
  have hl : lv_has ls 2 [(0, .ref h_o), (1, .int p1)] := hl
  unfold f_X1_putHighestFirst at hF
  refine lv_aload_n C0.x C0.b dX1_putHighestFirst_0 rfl (lv_at hl 0 rfl) ?_
  refine lv_iload_n C0.x C0.b dX1_putHighestFirst_1 rfl (lv_at hl 1 rfl) ?_
  refine lv_bipush (v := (24 : Int32)) C0.x C0.b dX1_putHighestFirst_2 (by decide) ?_
  refine lv_iushr (v := (ushr p1 (24 : Int32))) C0.x C0.b dX1_putHighestFirst_4 rfl ?_
  obtain ⟨r1, e2, hF⟩ := ob hF
  refine go_v C0 hW [0, 1] [] [0, 1] (va_runV (As := [.int (ushr p1 (24 : Int32))]) (rest := []) C0.fix (c_X1_put l g h_o h_o_row e2 _) (cwV 1 C0.ts (gw_V wl_140 wl_141 wl_142 wl_15 wl_143) rfl rfl rfl (by decide +kernel) ⟨Nat.le_of_ble_eq_true rfl, Nat.le_of_ble_eq_true rfl⟩) (pcv_of C0 hW [0, 1] rfl (by decide) (q0 := 0) rfl rfl) rfl rfl hl.1 rfl (lv_room (Nat.le_of_ble_eq_true rfl)) dX1_putHighestFirst_5 ⟨Nat.le_of_ble_eq_true rfl, Nat.le_of_ble_eq_true rfl⟩) rfl rfl (by decide) (by decide) (ws' := (wF_Bytes g h_o h_o_row r1.1 o_row_n r1.2)) rfl (by decide) (fun H locs hW => ?_)
  refine lv_aload_n C0.x C0.b dX1_putHighestFirst_8 rfl (lv_at hl 0 rfl) ?_
  refine lv_iload_n C0.x C0.b dX1_putHighestFirst_9 rfl (lv_at hl 1 rfl) ?_
  refine lv_bipush (v := (16 : Int32)) C0.x C0.b dX1_putHighestFirst_10 (by decide) ?_
  refine lv_iushr (v := (ushr p1 (16 : Int32))) C0.x C0.b dX1_putHighestFirst_12 rfl ?_
  refine lv_sipush (v := (255 : Int32)) C0.x C0.b dX1_putHighestFirst_13 (by decide) ?_
  refine lv_iand C0.x C0.b dX1_putHighestFirst_16 ?_
  obtain ⟨r3, e4, hF⟩ := ob hF
  refine go_v C0 hW [0, 1] [] [0, 1] (va_runV (As := [.int ((ushr p1 (16 : Int32)) &&& (255 : Int32))]) (rest := []) C0.fix (c_X1_put l g h_o h_o_row e4 _) (cwV 1 C0.ts (gw_V wl_140 wl_141 wl_142 wl_15 wl_143) rfl rfl rfl (by decide +kernel) ⟨Nat.le_of_ble_eq_true rfl, Nat.le_of_ble_eq_true rfl⟩) (pcv_of C0 hW [0, 1] rfl (by decide) (q0 := 0) rfl rfl) rfl rfl hl.1 rfl (lv_room (Nat.le_of_ble_eq_true rfl)) dX1_putHighestFirst_17 ⟨Nat.le_of_ble_eq_true rfl, Nat.le_of_ble_eq_true rfl⟩) rfl rfl (by decide) (by decide) (ws' := (wF_Bytes g h_o h_o_row r3.1 o_row_n r3.2)) rfl (by decide) (fun H locs hW => ?_)
  refine lv_aload_n C0.x C0.b dX1_putHighestFirst_20 rfl (lv_at hl 0 rfl) ?_
  refine lv_iload_n C0.x C0.b dX1_putHighestFirst_21 rfl (lv_at hl 1 rfl) ?_
  refine lv_bipush (v := (8 : Int32)) C0.x C0.b dX1_putHighestFirst_22 (by decide) ?_
  refine lv_iushr (v := (ushr p1 (8 : Int32))) C0.x C0.b dX1_putHighestFirst_24 rfl ?_
  refine lv_sipush (v := (255 : Int32)) C0.x C0.b dX1_putHighestFirst_25 (by decide) ?_
  refine lv_iand C0.x C0.b dX1_putHighestFirst_28 ?_
  obtain ⟨r5, e6, hF⟩ := ob hF
  refine go_v C0 hW [0, 1] [] [0, 1] (va_runV (As := [.int ((ushr p1 (8 : Int32)) &&& (255 : Int32))]) (rest := []) C0.fix (c_X1_put l g h_o h_o_row e6 _) (cwV 1 C0.ts (gw_V wl_140 wl_141 wl_142 wl_15 wl_143) rfl rfl rfl (by decide +kernel) ⟨Nat.le_of_ble_eq_true rfl, Nat.le_of_ble_eq_true rfl⟩) (pcv_of C0 hW [0, 1] rfl (by decide) (q0 := 0) rfl rfl) rfl rfl hl.1 rfl (lv_room (Nat.le_of_ble_eq_true rfl)) dX1_putHighestFirst_29 ⟨Nat.le_of_ble_eq_true rfl, Nat.le_of_ble_eq_true rfl⟩) rfl rfl (by decide) (by decide) (ws' := (wF_Bytes g h_o h_o_row r5.1 o_row_n r5.2)) rfl (by decide) (fun H locs hW => ?_)
  refine lv_aload_n C0.x C0.b dX1_putHighestFirst_32 rfl (lv_at hl 0 rfl) ?_
  refine lv_iload_n C0.x C0.b dX1_putHighestFirst_33 rfl (lv_at hl 1 rfl) ?_
  refine lv_sipush (v := (255 : Int32)) C0.x C0.b dX1_putHighestFirst_34 (by decide) ?_
  refine lv_iand C0.x C0.b dX1_putHighestFirst_37 ?_
  obtain ⟨r7, e8, hF⟩ := ob hF
  refine go_v C0 hW [0, 1] [] [0, 1] (va_runV (As := [.int (p1 &&& (255 : Int32))]) (rest := []) C0.fix (c_X1_put l g h_o h_o_row e8 _) (cwV 1 C0.ts (gw_V wl_140 wl_141 wl_142 wl_15 wl_143) rfl rfl rfl (by decide +kernel) ⟨Nat.le_of_ble_eq_true rfl, Nat.le_of_ble_eq_true rfl⟩) (pcv_of C0 hW [0, 1] rfl (by decide) (q0 := 0) rfl rfl) rfl rfl hl.1 rfl (lv_room (Nat.le_of_ble_eq_true rfl)) dX1_putHighestFirst_38 ⟨Nat.le_of_ble_eq_true rfl, Nat.le_of_ble_eq_true rfl⟩) rfl rfl (by decide) (by decide) (ws' := (wF_Bytes g h_o h_o_row r7.1 o_row_n r7.2)) rfl (by decide) (fun H locs hW => ?_)
  obtain rfl := Option.some.inj hF
  exact x_vret C0 hW dX1_putHighestFirst_41

abbrev rm_X6_feed : Room := { frames := 2, cells := 0, slots := 0, locals := 42 }

set_option maxHeartbeats 4000000 in
set_option maxRecDepth 100000 in
/-- SnapHouse.feed(IIIII)I -/
theorem c_X6_feed (l : Launch) (g : GX) (h_o h_o_theTape h_o_theTape_row h_o_theOut h_o_theOut_row h_o_presser h_o_presser_block h_o_presser_block_row h_o_presser_slots h_o_streamMaker h_o_streamMaker_made h_o_streamMaker_made_row h_o_blockOpener h_o_blockOpener_given h_o_blockOpener_given_row h_o_blockOpener_elements h_o_blockOpener_elements_cells h_o_streamOpener h_o_streamOpener_given h_o_streamOpener_given_row h_o_streamOpener_chunks h_o_streamOpener_chunks_cells h_o_keptElements h_o_keptElements_cells h_o_keptChunks h_o_keptChunks_cells : Nat) {K : Nat} (o_faultNumber : Int32) (o_faultPlace : Int32) (o_faultOfBlock : Int32) (o_faultPlaceInBlock : Int32) (o_theOut_count : Int32) (o_theOut_row_n : Nat) (o_theOut_row_c : Nat → Int32) (o_presser_slotMask : Int32) (o_presser_block_count : Int32) (o_presser_block_row_n : Nat) (o_presser_block_row_c : Nat → Int32) (o_presser_slots_n : Nat) (o_presser_slots_c : Nat → Int32) (o_streamMaker_made_count : Int32) (o_streamMaker_made_row_n : Nat) (o_streamMaker_made_row_c : Nat → Int32) (o_blockOpener_fault : Int32) (o_blockOpener_place : Int32) (o_blockOpener_start : Int32) (o_blockOpener_end : Int32) (o_blockOpener_next : Int32) (o_blockOpener_length : Int32) (o_blockOpener_sort : Int32) (o_blockOpener_body : Int32) (o_blockOpener_size : Int64) (o_blockOpener_back : Int64) (o_blockOpener_given_count : Int32) (o_blockOpener_given_row_n : Nat) (o_blockOpener_given_row_c : Nat → Int32) (o_blockOpener_elements_count : Int32) (o_blockOpener_elements_marked : Int32) (o_blockOpener_elements_cells_n : Nat) (o_blockOpener_elements_cells_c : Nat → Int32) (o_streamOpener_fault : Int32) (o_streamOpener_place : Int32) (o_streamOpener_next : Int32) (o_streamOpener_type : Int32) (o_streamOpener_body : Int32) (o_streamOpener_size : Int32) (o_streamOpener_given_count : Int32) (o_streamOpener_given_row_n : Nat) (o_streamOpener_given_row_c : Nat → Int32) (o_streamOpener_chunks_count : Int32) (o_streamOpener_chunks_marked : Int32) (o_streamOpener_chunks_cells_n : Nat) (o_streamOpener_chunks_cells_c : Nat → Int32) (o_keptElements_count : Int32) (o_keptElements_marked : Int32) (o_keptElements_cells_n : Nat) (o_keptElements_cells_c : Nat → Int32) (o_keptChunks_count : Int32) (o_keptChunks_marked : Int32) (o_keptChunks_cells_n : Nat) (o_keptChunks_cells_c : Nat → Int32) {o_theTape_count : Int32} {o_theTape_row_n : Nat} {o_theTape_row_c : Nat → Int32} {p1 : Int32} {p2 : Int32} {p3 : Int32} {p4 : Int32} {p5 : Int32} {o : Int32 × Int32 × (Nat → Int32)} (hF : f_X6_feed K o_theTape_count o_theTape_row_n o_theTape_row_c p1 p2 p3 p4 p5 = some o) : mcI g l yX6_feed wA_X6_feed rm_X6_feed [.ref h_o, .int p1, .int p2, .int p3, .int p4, .int p5] (wF_SnapHouse g h_o h_o_theTape h_o_theTape_row h_o_theOut h_o_theOut_row h_o_presser h_o_presser_block h_o_presser_block_row h_o_presser_slots h_o_streamMaker h_o_streamMaker_made h_o_streamMaker_made_row h_o_blockOpener h_o_blockOpener_given h_o_blockOpener_given_row h_o_blockOpener_elements h_o_blockOpener_elements_cells h_o_streamOpener h_o_streamOpener_given h_o_streamOpener_given_row h_o_streamOpener_chunks h_o_streamOpener_chunks_cells h_o_keptElements h_o_keptElements_cells h_o_keptChunks h_o_keptChunks_cells o_faultNumber o_faultPlace o_faultOfBlock o_faultPlaceInBlock o_theTape_count o_theTape_row_n o_theTape_row_c o_theOut_count o_theOut_row_n o_theOut_row_c o_presser_slotMask o_presser_block_count o_presser_block_row_n o_presser_block_row_c o_presser_slots_n o_presser_slots_c o_streamMaker_made_count o_streamMaker_made_row_n o_streamMaker_made_row_c o_blockOpener_fault o_blockOpener_place o_blockOpener_start o_blockOpener_end o_blockOpener_next o_blockOpener_length o_blockOpener_sort o_blockOpener_body o_blockOpener_size o_blockOpener_back o_blockOpener_given_count o_blockOpener_given_row_n o_blockOpener_given_row_c o_blockOpener_elements_count o_blockOpener_elements_marked o_blockOpener_elements_cells_n o_blockOpener_elements_cells_c o_streamOpener_fault o_streamOpener_place o_streamOpener_next o_streamOpener_type o_streamOpener_body o_streamOpener_size o_streamOpener_given_count o_streamOpener_given_row_n o_streamOpener_given_row_c o_streamOpener_chunks_count o_streamOpener_chunks_marked o_streamOpener_chunks_cells_n o_streamOpener_chunks_cells_c o_keptElements_count o_keptElements_marked o_keptElements_cells_n o_keptElements_cells_c o_keptChunks_count o_keptChunks_marked o_keptChunks_cells_n o_keptChunks_cells_c) o.1 (wF_SnapHouse g h_o h_o_theTape h_o_theTape_row h_o_theOut h_o_theOut_row h_o_presser h_o_presser_block h_o_presser_block_row h_o_presser_slots h_o_streamMaker h_o_streamMaker_made h_o_streamMaker_made_row h_o_blockOpener h_o_blockOpener_given h_o_blockOpener_given_row h_o_blockOpener_elements h_o_blockOpener_elements_cells h_o_streamOpener h_o_streamOpener_given h_o_streamOpener_given_row h_o_streamOpener_chunks h_o_streamOpener_chunks_cells h_o_keptElements h_o_keptElements_cells h_o_keptChunks h_o_keptChunks_cells o_faultNumber o_faultPlace o_faultOfBlock o_faultPlaceInBlock o.2.1 o_theTape_row_n o.2.2 o_theOut_count o_theOut_row_n o_theOut_row_c o_presser_slotMask o_presser_block_count o_presser_block_row_n o_presser_block_row_c o_presser_slots_n o_presser_slots_c o_streamMaker_made_count o_streamMaker_made_row_n o_streamMaker_made_row_c o_blockOpener_fault o_blockOpener_place o_blockOpener_start o_blockOpener_end o_blockOpener_next o_blockOpener_length o_blockOpener_sort o_blockOpener_body o_blockOpener_size o_blockOpener_back o_blockOpener_given_count o_blockOpener_given_row_n o_blockOpener_given_row_c o_blockOpener_elements_count o_blockOpener_elements_marked o_blockOpener_elements_cells_n o_blockOpener_elements_cells_c o_streamOpener_fault o_streamOpener_place o_streamOpener_next o_streamOpener_type o_streamOpener_body o_streamOpener_size o_streamOpener_given_count o_streamOpener_given_row_n o_streamOpener_given_row_c o_streamOpener_chunks_count o_streamOpener_chunks_marked o_streamOpener_chunks_cells_n o_streamOpener_chunks_cells_c o_keptElements_count o_keptElements_marked o_keptElements_cells_n o_keptElements_cells_c o_keptChunks_count o_keptChunks_marked o_keptChunks_cells_n o_keptChunks_cells_c) 0 0 := by
  refine x_start (cc := cX6_feed) (maxL := 6) (ret := (some .int)) (by decide) rfl (Nat.le_of_ble_eq_true rfl) ?_
  intro p e s m below meth c ls C0 hW hl
  have hl : lv_has ls 6 [(0, .ref h_o), (1, .int p1), (2, .int p2), (3, .int p3), (4, .int p4), (5, .int p5)] := hl
  unfold f_X6_feed at hF
  refine lv_aload_n C0.x C0.b dX6_feed_0 rfl (lv_at hl 0 rfl) ?_
  refine x_get C0 hW iw_X6 0 rfl rfl 0 (by decide) (List.mem_cons_of_mem _ wl_16) (v := .ref h_o_theTape) rfl dX6_feed_1 ?_
  refine lv_bipush (v := (20 : Int32)) C0.x C0.b dX6_feed_4 (by decide) ?_
  obtain ⟨r1, e2, hF⟩ := ob hF
  refine go_i C0 hW [1, 2] [0, 3, 4, 5, 6, 7, 8, 9, 10, 11, 12, 13, 14, 15, 16, 17, 18, 19, 20, 21, 22, 23, 24, 25] [0, 24, 25, 1, 2, 3, 4, 5, 6, 7, 8, 9, 10, 11, 12, 13, 14, 15, 16, 17, 18, 19, 20, 21, 22, 23] (va_runV (As := [.int (20 : Int32)]) (rest := []) C0.fix (c_X1_hasRoomFor l g h_o_theTape h_o_theTape_row o_theTape_row_c e2 _) (cwV 1 C0.ts (gw_V wl_132 wl_133 wl_134 wl_15 wl_135) rfl rfl rfl (by decide +kernel) ⟨Nat.le_of_ble_eq_true rfl, Nat.le_of_ble_eq_true rfl⟩) (pcv_of C0 hW [1, 2] rfl (by decide) (q0 := 1) rfl rfl) rfl rfl hl.1 rfl (lv_room (Nat.le_of_ble_eq_true rfl)) dX6_feed_6 ⟨Nat.le_of_ble_eq_true rfl, Nat.le_of_ble_eq_true rfl⟩) rfl rfl (by decide) (by decide) (ws' := (wF_SnapHouse g h_o h_o_theTape h_o_theTape_row h_o_theOut h_o_theOut_row h_o_presser h_o_presser_block h_o_presser_block_row h_o_presser_slots h_o_streamMaker h_o_streamMaker_made h_o_streamMaker_made_row h_o_blockOpener h_o_blockOpener_given h_o_blockOpener_given_row h_o_blockOpener_elements h_o_blockOpener_elements_cells h_o_streamOpener h_o_streamOpener_given h_o_streamOpener_given_row h_o_streamOpener_chunks h_o_streamOpener_chunks_cells h_o_keptElements h_o_keptElements_cells h_o_keptChunks h_o_keptChunks_cells o_faultNumber o_faultPlace o_faultOfBlock o_faultPlaceInBlock o_theTape_count o_theTape_row_n o_theTape_row_c o_theOut_count o_theOut_row_n o_theOut_row_c o_presser_slotMask o_presser_block_count o_presser_block_row_n o_presser_block_row_c o_presser_slots_n o_presser_slots_c o_streamMaker_made_count o_streamMaker_made_row_n o_streamMaker_made_row_c o_blockOpener_fault o_blockOpener_place o_blockOpener_start o_blockOpener_end o_blockOpener_next o_blockOpener_length o_blockOpener_sort o_blockOpener_body o_blockOpener_size o_blockOpener_back o_blockOpener_given_count o_blockOpener_given_row_n o_blockOpener_given_row_c o_blockOpener_elements_count o_blockOpener_elements_marked o_blockOpener_elements_cells_n o_blockOpener_elements_cells_c o_streamOpener_fault o_streamOpener_place o_streamOpener_next o_streamOpener_type o_streamOpener_body o_streamOpener_size o_streamOpener_given_count o_streamOpener_given_row_n o_streamOpener_given_row_c o_streamOpener_chunks_count o_streamOpener_chunks_marked o_streamOpener_chunks_cells_n o_streamOpener_chunks_cells_c o_keptElements_count o_keptElements_marked o_keptElements_cells_n o_keptElements_cells_c o_keptChunks_count o_keptChunks_marked o_keptChunks_cells_n o_keptChunks_cells_c)) rfl (by decide) (fun H locs hW => ?_)
  refine lv_if_ne (tgt := 14) C0.x C0.b dX6_feed_9 (by decide) (fun c3 => ?_) (fun c3 => ?_)
  · have hF := it_f hF c3
    refine lv_aload_n C0.x C0.b dX6_feed_14 rfl (lv_at hl 0 rfl) ?_
    refine x_get C0 hW iw_X6 0 rfl rfl 0 (by decide) (List.mem_cons_of_mem _ wl_16) (v := .ref h_o_theTape) rfl dX6_feed_15 ?_
    refine lv_iload_n C0.x C0.b dX6_feed_18 rfl (lv_at hl 1 rfl) ?_
    obtain ⟨r4, e5, hF⟩ := ob hF
    refine go_v C0 hW [1, 2] [0, 3, 4, 5, 6, 7, 8, 9, 10, 11, 12, 13, 14, 15, 16, 17, 18, 19, 20, 21, 22, 23, 24, 25] [0, 24, 25, 1, 2, 3, 4, 5, 6, 7, 8, 9, 10, 11, 12, 13, 14, 15, 16, 17, 18, 19, 20, 21, 22, 23] (va_runV (As := [.int p1]) (rest := []) C0.fix (c_X1_putHighestFirst l g h_o_theTape h_o_theTape_row e5 _) (cwV 1 C0.ts (gw_V wl_136 wl_137 wl_138 wl_15 wl_139) rfl rfl rfl (by decide +kernel) ⟨Nat.le_of_ble_eq_true rfl, Nat.le_of_ble_eq_true rfl⟩) (pcv_of C0 hW [1, 2] rfl (by decide) (q0 := 1) rfl rfl) rfl rfl hl.1 rfl (lv_room (Nat.le_of_ble_eq_true rfl)) dX6_feed_19 ⟨Nat.le_of_ble_eq_true rfl, Nat.le_of_ble_eq_true rfl⟩) rfl rfl (by decide) (by decide) (ws' := (wF_SnapHouse g h_o h_o_theTape h_o_theTape_row h_o_theOut h_o_theOut_row h_o_presser h_o_presser_block h_o_presser_block_row h_o_presser_slots h_o_streamMaker h_o_streamMaker_made h_o_streamMaker_made_row h_o_blockOpener h_o_blockOpener_given h_o_blockOpener_given_row h_o_blockOpener_elements h_o_blockOpener_elements_cells h_o_streamOpener h_o_streamOpener_given h_o_streamOpener_given_row h_o_streamOpener_chunks h_o_streamOpener_chunks_cells h_o_keptElements h_o_keptElements_cells h_o_keptChunks h_o_keptChunks_cells o_faultNumber o_faultPlace o_faultOfBlock o_faultPlaceInBlock r4.1 o_theTape_row_n r4.2 o_theOut_count o_theOut_row_n o_theOut_row_c o_presser_slotMask o_presser_block_count o_presser_block_row_n o_presser_block_row_c o_presser_slots_n o_presser_slots_c o_streamMaker_made_count o_streamMaker_made_row_n o_streamMaker_made_row_c o_blockOpener_fault o_blockOpener_place o_blockOpener_start o_blockOpener_end o_blockOpener_next o_blockOpener_length o_blockOpener_sort o_blockOpener_body o_blockOpener_size o_blockOpener_back o_blockOpener_given_count o_blockOpener_given_row_n o_blockOpener_given_row_c o_blockOpener_elements_count o_blockOpener_elements_marked o_blockOpener_elements_cells_n o_blockOpener_elements_cells_c o_streamOpener_fault o_streamOpener_place o_streamOpener_next o_streamOpener_type o_streamOpener_body o_streamOpener_size o_streamOpener_given_count o_streamOpener_given_row_n o_streamOpener_given_row_c o_streamOpener_chunks_count o_streamOpener_chunks_marked o_streamOpener_chunks_cells_n o_streamOpener_chunks_cells_c o_keptElements_count o_keptElements_marked o_keptElements_cells_n o_keptElements_cells_c o_keptChunks_count o_keptChunks_marked o_keptChunks_cells_n o_keptChunks_cells_c)) rfl (by decide) (fun H locs hW => ?_)
    refine lv_aload_n C0.x C0.b dX6_feed_22 rfl (lv_at hl 0 rfl) ?_
    refine x_get C0 hW iw_X6 0 rfl rfl 0 (by decide) (List.mem_cons_of_mem _ wl_16) (v := .ref h_o_theTape) rfl dX6_feed_23 ?_
    refine lv_iload_n C0.x C0.b dX6_feed_26 rfl (lv_at hl 2 rfl) ?_
    obtain ⟨r6, e7, hF⟩ := ob hF
    refine go_v C0 hW [1, 2] [0, 3, 4, 5, 6, 7, 8, 9, 10, 11, 12, 13, 14, 15, 16, 17, 18, 19, 20, 21, 22, 23, 24, 25] [0, 24, 25, 1, 2, 3, 4, 5, 6, 7, 8, 9, 10, 11, 12, 13, 14, 15, 16, 17, 18, 19, 20, 21, 22, 23] (va_runV (As := [.int p2]) (rest := []) C0.fix (c_X1_putHighestFirst l g h_o_theTape h_o_theTape_row e7 _) (cwV 1 C0.ts (gw_V wl_136 wl_137 wl_138 wl_15 wl_139) rfl rfl rfl (by decide +kernel) ⟨Nat.le_of_ble_eq_true rfl, Nat.le_of_ble_eq_true rfl⟩) (pcv_of C0 hW [1, 2] rfl (by decide) (q0 := 1) rfl rfl) rfl rfl hl.1 rfl (lv_room (Nat.le_of_ble_eq_true rfl)) dX6_feed_27 ⟨Nat.le_of_ble_eq_true rfl, Nat.le_of_ble_eq_true rfl⟩) rfl rfl (by decide) (by decide) (ws' := (wF_SnapHouse g h_o h_o_theTape h_o_theTape_row h_o_theOut h_o_theOut_row h_o_presser h_o_presser_block h_o_presser_block_row h_o_presser_slots h_o_streamMaker h_o_streamMaker_made h_o_streamMaker_made_row h_o_blockOpener h_o_blockOpener_given h_o_blockOpener_given_row h_o_blockOpener_elements h_o_blockOpener_elements_cells h_o_streamOpener h_o_streamOpener_given h_o_streamOpener_given_row h_o_streamOpener_chunks h_o_streamOpener_chunks_cells h_o_keptElements h_o_keptElements_cells h_o_keptChunks h_o_keptChunks_cells o_faultNumber o_faultPlace o_faultOfBlock o_faultPlaceInBlock r6.1 o_theTape_row_n r6.2 o_theOut_count o_theOut_row_n o_theOut_row_c o_presser_slotMask o_presser_block_count o_presser_block_row_n o_presser_block_row_c o_presser_slots_n o_presser_slots_c o_streamMaker_made_count o_streamMaker_made_row_n o_streamMaker_made_row_c o_blockOpener_fault o_blockOpener_place o_blockOpener_start o_blockOpener_end o_blockOpener_next o_blockOpener_length o_blockOpener_sort o_blockOpener_body o_blockOpener_size o_blockOpener_back o_blockOpener_given_count o_blockOpener_given_row_n o_blockOpener_given_row_c o_blockOpener_elements_count o_blockOpener_elements_marked o_blockOpener_elements_cells_n o_blockOpener_elements_cells_c o_streamOpener_fault o_streamOpener_place o_streamOpener_next o_streamOpener_type o_streamOpener_body o_streamOpener_size o_streamOpener_given_count o_streamOpener_given_row_n o_streamOpener_given_row_c o_streamOpener_chunks_count o_streamOpener_chunks_marked o_streamOpener_chunks_cells_n o_streamOpener_chunks_cells_c o_keptElements_count o_keptElements_marked o_keptElements_cells_n o_keptElements_cells_c o_keptChunks_count o_keptChunks_marked o_keptChunks_cells_n o_keptChunks_cells_c)) rfl (by decide) (fun H locs hW => ?_)
    refine lv_aload_n C0.x C0.b dX6_feed_30 rfl (lv_at hl 0 rfl) ?_
    refine x_get C0 hW iw_X6 0 rfl rfl 0 (by decide) (List.mem_cons_of_mem _ wl_16) (v := .ref h_o_theTape) rfl dX6_feed_31 ?_
    refine lv_iload_n C0.x C0.b dX6_feed_34 rfl (lv_at hl 3 rfl) ?_
    obtain ⟨r8, e9, hF⟩ := ob hF
    refine go_v C0 hW [1, 2] [0, 3, 4, 5, 6, 7, 8, 9, 10, 11, 12, 13, 14, 15, 16, 17, 18, 19, 20, 21, 22, 23, 24, 25] [0, 24, 25, 1, 2, 3, 4, 5, 6, 7, 8, 9, 10, 11, 12, 13, 14, 15, 16, 17, 18, 19, 20, 21, 22, 23] (va_runV (As := [.int p3]) (rest := []) C0.fix (c_X1_putHighestFirst l g h_o_theTape h_o_theTape_row e9 _) (cwV 1 C0.ts (gw_V wl_136 wl_137 wl_138 wl_15 wl_139) rfl rfl rfl (by decide +kernel) ⟨Nat.le_of_ble_eq_true rfl, Nat.le_of_ble_eq_true rfl⟩) (pcv_of C0 hW [1, 2] rfl (by decide) (q0 := 1) rfl rfl) rfl rfl hl.1 rfl (lv_room (Nat.le_of_ble_eq_true rfl)) dX6_feed_35 ⟨Nat.le_of_ble_eq_true rfl, Nat.le_of_ble_eq_true rfl⟩) rfl rfl (by decide) (by decide) (ws' := (wF_SnapHouse g h_o h_o_theTape h_o_theTape_row h_o_theOut h_o_theOut_row h_o_presser h_o_presser_block h_o_presser_block_row h_o_presser_slots h_o_streamMaker h_o_streamMaker_made h_o_streamMaker_made_row h_o_blockOpener h_o_blockOpener_given h_o_blockOpener_given_row h_o_blockOpener_elements h_o_blockOpener_elements_cells h_o_streamOpener h_o_streamOpener_given h_o_streamOpener_given_row h_o_streamOpener_chunks h_o_streamOpener_chunks_cells h_o_keptElements h_o_keptElements_cells h_o_keptChunks h_o_keptChunks_cells o_faultNumber o_faultPlace o_faultOfBlock o_faultPlaceInBlock r8.1 o_theTape_row_n r8.2 o_theOut_count o_theOut_row_n o_theOut_row_c o_presser_slotMask o_presser_block_count o_presser_block_row_n o_presser_block_row_c o_presser_slots_n o_presser_slots_c o_streamMaker_made_count o_streamMaker_made_row_n o_streamMaker_made_row_c o_blockOpener_fault o_blockOpener_place o_blockOpener_start o_blockOpener_end o_blockOpener_next o_blockOpener_length o_blockOpener_sort o_blockOpener_body o_blockOpener_size o_blockOpener_back o_blockOpener_given_count o_blockOpener_given_row_n o_blockOpener_given_row_c o_blockOpener_elements_count o_blockOpener_elements_marked o_blockOpener_elements_cells_n o_blockOpener_elements_cells_c o_streamOpener_fault o_streamOpener_place o_streamOpener_next o_streamOpener_type o_streamOpener_body o_streamOpener_size o_streamOpener_given_count o_streamOpener_given_row_n o_streamOpener_given_row_c o_streamOpener_chunks_count o_streamOpener_chunks_marked o_streamOpener_chunks_cells_n o_streamOpener_chunks_cells_c o_keptElements_count o_keptElements_marked o_keptElements_cells_n o_keptElements_cells_c o_keptChunks_count o_keptChunks_marked o_keptChunks_cells_n o_keptChunks_cells_c)) rfl (by decide) (fun H locs hW => ?_)
    refine lv_aload_n C0.x C0.b dX6_feed_38 rfl (lv_at hl 0 rfl) ?_
    refine x_get C0 hW iw_X6 0 rfl rfl 0 (by decide) (List.mem_cons_of_mem _ wl_16) (v := .ref h_o_theTape) rfl dX6_feed_39 ?_
    refine lv_iload C0.x C0.b dX6_feed_42 (lv_at hl 4 rfl) ?_
    obtain ⟨r10, e11, hF⟩ := ob hF
    refine go_v C0 hW [1, 2] [0, 3, 4, 5, 6, 7, 8, 9, 10, 11, 12, 13, 14, 15, 16, 17, 18, 19, 20, 21, 22, 23, 24, 25] [0, 24, 25, 1, 2, 3, 4, 5, 6, 7, 8, 9, 10, 11, 12, 13, 14, 15, 16, 17, 18, 19, 20, 21, 22, 23] (va_runV (As := [.int p4]) (rest := []) C0.fix (c_X1_putHighestFirst l g h_o_theTape h_o_theTape_row e11 _) (cwV 1 C0.ts (gw_V wl_136 wl_137 wl_138 wl_15 wl_139) rfl rfl rfl (by decide +kernel) ⟨Nat.le_of_ble_eq_true rfl, Nat.le_of_ble_eq_true rfl⟩) (pcv_of C0 hW [1, 2] rfl (by decide) (q0 := 1) rfl rfl) rfl rfl hl.1 rfl (lv_room (Nat.le_of_ble_eq_true rfl)) dX6_feed_44 ⟨Nat.le_of_ble_eq_true rfl, Nat.le_of_ble_eq_true rfl⟩) rfl rfl (by decide) (by decide) (ws' := (wF_SnapHouse g h_o h_o_theTape h_o_theTape_row h_o_theOut h_o_theOut_row h_o_presser h_o_presser_block h_o_presser_block_row h_o_presser_slots h_o_streamMaker h_o_streamMaker_made h_o_streamMaker_made_row h_o_blockOpener h_o_blockOpener_given h_o_blockOpener_given_row h_o_blockOpener_elements h_o_blockOpener_elements_cells h_o_streamOpener h_o_streamOpener_given h_o_streamOpener_given_row h_o_streamOpener_chunks h_o_streamOpener_chunks_cells h_o_keptElements h_o_keptElements_cells h_o_keptChunks h_o_keptChunks_cells o_faultNumber o_faultPlace o_faultOfBlock o_faultPlaceInBlock r10.1 o_theTape_row_n r10.2 o_theOut_count o_theOut_row_n o_theOut_row_c o_presser_slotMask o_presser_block_count o_presser_block_row_n o_presser_block_row_c o_presser_slots_n o_presser_slots_c o_streamMaker_made_count o_streamMaker_made_row_n o_streamMaker_made_row_c o_blockOpener_fault o_blockOpener_place o_blockOpener_start o_blockOpener_end o_blockOpener_next o_blockOpener_length o_blockOpener_sort o_blockOpener_body o_blockOpener_size o_blockOpener_back o_blockOpener_given_count o_blockOpener_given_row_n o_blockOpener_given_row_c o_blockOpener_elements_count o_blockOpener_elements_marked o_blockOpener_elements_cells_n o_blockOpener_elements_cells_c o_streamOpener_fault o_streamOpener_place o_streamOpener_next o_streamOpener_type o_streamOpener_body o_streamOpener_size o_streamOpener_given_count o_streamOpener_given_row_n o_streamOpener_given_row_c o_streamOpener_chunks_count o_streamOpener_chunks_marked o_streamOpener_chunks_cells_n o_streamOpener_chunks_cells_c o_keptElements_count o_keptElements_marked o_keptElements_cells_n o_keptElements_cells_c o_keptChunks_count o_keptChunks_marked o_keptChunks_cells_n o_keptChunks_cells_c)) rfl (by decide) (fun H locs hW => ?_)
    refine lv_aload_n C0.x C0.b dX6_feed_47 rfl (lv_at hl 0 rfl) ?_
    refine x_get C0 hW iw_X6 0 rfl rfl 0 (by decide) (List.mem_cons_of_mem _ wl_16) (v := .ref h_o_theTape) rfl dX6_feed_48 ?_
    refine lv_iload C0.x C0.b dX6_feed_51 (lv_at hl 5 rfl) ?_
    obtain ⟨r12, e13, hF⟩ := ob hF
    refine go_v C0 hW [1, 2] [0, 3, 4, 5, 6, 7, 8, 9, 10, 11, 12, 13, 14, 15, 16, 17, 18, 19, 20, 21, 22, 23, 24, 25] [0, 24, 25, 1, 2, 3, 4, 5, 6, 7, 8, 9, 10, 11, 12, 13, 14, 15, 16, 17, 18, 19, 20, 21, 22, 23] (va_runV (As := [.int p5]) (rest := []) C0.fix (c_X1_putHighestFirst l g h_o_theTape h_o_theTape_row e13 _) (cwV 1 C0.ts (gw_V wl_136 wl_137 wl_138 wl_15 wl_139) rfl rfl rfl (by decide +kernel) ⟨Nat.le_of_ble_eq_true rfl, Nat.le_of_ble_eq_true rfl⟩) (pcv_of C0 hW [1, 2] rfl (by decide) (q0 := 1) rfl rfl) rfl rfl hl.1 rfl (lv_room (Nat.le_of_ble_eq_true rfl)) dX6_feed_53 ⟨Nat.le_of_ble_eq_true rfl, Nat.le_of_ble_eq_true rfl⟩) rfl rfl (by decide) (by decide) (ws' := (wF_SnapHouse g h_o h_o_theTape h_o_theTape_row h_o_theOut h_o_theOut_row h_o_presser h_o_presser_block h_o_presser_block_row h_o_presser_slots h_o_streamMaker h_o_streamMaker_made h_o_streamMaker_made_row h_o_blockOpener h_o_blockOpener_given h_o_blockOpener_given_row h_o_blockOpener_elements h_o_blockOpener_elements_cells h_o_streamOpener h_o_streamOpener_given h_o_streamOpener_given_row h_o_streamOpener_chunks h_o_streamOpener_chunks_cells h_o_keptElements h_o_keptElements_cells h_o_keptChunks h_o_keptChunks_cells o_faultNumber o_faultPlace o_faultOfBlock o_faultPlaceInBlock r12.1 o_theTape_row_n r12.2 o_theOut_count o_theOut_row_n o_theOut_row_c o_presser_slotMask o_presser_block_count o_presser_block_row_n o_presser_block_row_c o_presser_slots_n o_presser_slots_c o_streamMaker_made_count o_streamMaker_made_row_n o_streamMaker_made_row_c o_blockOpener_fault o_blockOpener_place o_blockOpener_start o_blockOpener_end o_blockOpener_next o_blockOpener_length o_blockOpener_sort o_blockOpener_body o_blockOpener_size o_blockOpener_back o_blockOpener_given_count o_blockOpener_given_row_n o_blockOpener_given_row_c o_blockOpener_elements_count o_blockOpener_elements_marked o_blockOpener_elements_cells_n o_blockOpener_elements_cells_c o_streamOpener_fault o_streamOpener_place o_streamOpener_next o_streamOpener_type o_streamOpener_body o_streamOpener_size o_streamOpener_given_count o_streamOpener_given_row_n o_streamOpener_given_row_c o_streamOpener_chunks_count o_streamOpener_chunks_marked o_streamOpener_chunks_cells_n o_streamOpener_chunks_cells_c o_keptElements_count o_keptElements_marked o_keptElements_cells_n o_keptElements_cells_c o_keptChunks_count o_keptChunks_marked o_keptChunks_cells_n o_keptChunks_cells_c)) rfl (by decide) (fun H locs hW => ?_)
    refine lv_aload_n C0.x C0.b dX6_feed_56 rfl (lv_at hl 0 rfl) ?_
    refine x_get C0 hW iw_X6 0 rfl rfl 0 (by decide) (List.mem_cons_of_mem _ wl_16) (v := .ref h_o_theTape) rfl dX6_feed_57 ?_
    refine x_getN C0 hW iw_X1 1 rfl rfl 1 (by decide) (List.mem_of_getElem? (i := 0) rfl) (v := .int r12.1) rfl dX6_feed_60 ?_
    obtain rfl := Option.some.inj hF
    exact x_iret C0 hW rfl rfl dX6_feed_63
  · have hF := it_t hF c3
    refine lv_iconst (v := (-1 : Int32)) C0.x C0.b dX6_feed_12 (by decide) ?_
    obtain rfl := Option.some.inj hF
    exact x_iret C0 hW rfl rfl dX6_feed_13

abbrev rm_X6_isByte : Room := { frames := 0, cells := 0, slots := 0, locals := 0 }

set_option maxHeartbeats 4000000 in
set_option maxRecDepth 100000 in
/-- SnapHouse.isByte(I)Z -/
theorem c_X6_isByte (l : Launch) (g : GX) {K : Nat} {p0 : Int32} {o : Int32} (hF : f_X6_isByte K p0 = some o) : mcI g l yX6_isByte wA_X6_isByte rm_X6_isByte [.int p0] (wF_ g) o (wF_ g) 0 0 := by
  refine x_start (cc := cX6_isByte) (maxL := 1) (ret := (some .boolean)) (by decide) rfl (Nat.le_of_ble_eq_true rfl) ?_
  intro p e s m below meth c ls C0 hW hl
  have hl : lv_has ls 1 [(0, .int p0)] := hl
  unfold f_X6_isByte at hF
  refine lv_iload_n C0.x C0.b dX6_isByte_0 rfl (lv_at hl 0 rfl) ?_
  refine lv_if_lt (tgt := 15) C0.x C0.b dX6_isByte_1 (by decide) (fun c1 => ?_) (fun c1 => ?_)
  · have hF := it_t hF c1
    refine lv_iconst (v := (0 : Int32)) C0.x C0.b dX6_isByte_15 (by decide) ?_
    obtain rfl := Option.some.inj hF
    exact x_iret C0 hW (by decide) rfl dX6_isByte_16
  · have hF := it_f hF c1
    refine lv_iload_n C0.x C0.b dX6_isByte_4 rfl (lv_at hl 0 rfl) ?_
    refine lv_sipush (v := (255 : Int32)) C0.x C0.b dX6_isByte_5 (by decide) ?_
    refine lv_icmp_gt (tgt := 15) C0.x C0.b dX6_isByte_8 (by decide) (fun c2 => ?_) (fun c2 => ?_)
    · have hF := it_t hF c2
      refine lv_iconst (v := (0 : Int32)) C0.x C0.b dX6_isByte_15 (by decide) ?_
      obtain rfl := Option.some.inj hF
      exact x_iret C0 hW (by decide) rfl dX6_isByte_16
    · have hF := it_f hF c2
      refine lv_iconst (v := (1 : Int32)) C0.x C0.b dX6_isByte_11 (by decide) ?_
      refine lv_goto (tgt := 16) C0.x C0.b dX6_isByte_12 (by decide) ?_
      obtain rfl := Option.some.inj hF
      exact x_iret C0 hW (by decide) rfl dX6_isByte_16

abbrev rm_X6_fill : Room := { frames := 1, cells := 0, slots := 0, locals := 21 }

set_option maxHeartbeats 4000000 in
set_option maxRecDepth 100000 in
theorem w_X6_fill_b22 (l : Launch) (g : GX) (h_o h_o_theTape h_o_theTape_row h_o_theOut h_o_theOut_row h_o_presser h_o_presser_block h_o_presser_block_row h_o_presser_slots h_o_streamMaker h_o_streamMaker_made h_o_streamMaker_made_row h_o_blockOpener h_o_blockOpener_given h_o_blockOpener_given_row h_o_blockOpener_elements h_o_blockOpener_elements_cells h_o_streamOpener h_o_streamOpener_given h_o_streamOpener_given_row h_o_streamOpener_chunks h_o_streamOpener_chunks_cells h_o_keptElements h_o_keptElements_cells h_o_keptChunks h_o_keptChunks_cells : Nat) {K : Nat} {o_theTape_row_n : Nat} {o_faultNumber : Int32} {o_faultPlace : Int32} {o_faultOfBlock : Int32} {o_faultPlaceInBlock : Int32} {o_theOut_count : Int32} {o_theOut_row_n : Nat} {o_theOut_row_c : Nat → Int32} {o_presser_slotMask : Int32} {o_presser_block_count : Int32} {o_presser_block_row_n : Nat} {o_presser_block_row_c : Nat → Int32} {o_presser_slots_n : Nat} {o_presser_slots_c : Nat → Int32} {o_streamMaker_made_count : Int32} {o_streamMaker_made_row_n : Nat} {o_streamMaker_made_row_c : Nat → Int32} {o_blockOpener_fault : Int32} {o_blockOpener_place : Int32} {o_blockOpener_start : Int32} {o_blockOpener_end : Int32} {o_blockOpener_next : Int32} {o_blockOpener_length : Int32} {o_blockOpener_sort : Int32} {o_blockOpener_body : Int32} {o_blockOpener_size : Int64} {o_blockOpener_back : Int64} {o_blockOpener_given_count : Int32} {o_blockOpener_given_row_n : Nat} {o_blockOpener_given_row_c : Nat → Int32} {o_blockOpener_elements_count : Int32} {o_blockOpener_elements_marked : Int32} {o_blockOpener_elements_cells_n : Nat} {o_blockOpener_elements_cells_c : Nat → Int32} {o_streamOpener_fault : Int32} {o_streamOpener_place : Int32} {o_streamOpener_next : Int32} {o_streamOpener_type : Int32} {o_streamOpener_body : Int32} {o_streamOpener_size : Int32} {o_streamOpener_given_count : Int32} {o_streamOpener_given_row_n : Nat} {o_streamOpener_given_row_c : Nat → Int32} {o_streamOpener_chunks_count : Int32} {o_streamOpener_chunks_marked : Int32} {o_streamOpener_chunks_cells_n : Nat} {o_streamOpener_chunks_cells_c : Nat → Int32} {o_keptElements_count : Int32} {o_keptElements_marked : Int32} {o_keptElements_cells_n : Nat} {o_keptElements_cells_c : Nat → Int32} {o_keptChunks_count : Int32} {o_keptChunks_marked : Int32} {o_keptChunks_cells_n : Nat} {o_keptChunks_cells_c : Nat → Int32} {p1 : Int32} {p2 : Int32} {o : Int32 × Int32 × (Nat → Int32)} {wc : va_W} {p : Program} {e : Env} {s : State} {m : MethodId} {args : Array Value} {below : List Frame} {meth : Method} {c : Code} (C0 : bx g p s m meth c args cX6_fill 4 (some .int) yX6_fill wA_X6_fill (va_A wc s.heap.size)) :
    ∀ (n : Nat) (o_theTape_count : Int32) (o_theTape_row_c : Nat → Int32) (x3 : Int32), f_X6_fill_b22 K o_theTape_row_n p1 p2 n o_theTape_count o_theTape_row_c x3 = some o → ∀ (H : Heap) (locs : List Loc) (ls : Array Slot), ww g (va_A wc s.heap.size) s (wF_SnapHouse g h_o h_o_theTape h_o_theTape_row h_o_theOut h_o_theOut_row h_o_presser h_o_presser_block h_o_presser_block_row h_o_presser_slots h_o_streamMaker h_o_streamMaker_made h_o_streamMaker_made_row h_o_blockOpener h_o_blockOpener_given h_o_blockOpener_given_row h_o_blockOpener_elements h_o_blockOpener_elements_cells h_o_streamOpener h_o_streamOpener_given h_o_streamOpener_given_row h_o_streamOpener_chunks h_o_streamOpener_chunks_cells h_o_keptElements h_o_keptElements_cells h_o_keptChunks h_o_keptChunks_cells o_faultNumber o_faultPlace o_faultOfBlock o_faultPlaceInBlock o_theTape_count o_theTape_row_n o_theTape_row_c o_theOut_count o_theOut_row_n o_theOut_row_c o_presser_slotMask o_presser_block_count o_presser_block_row_n o_presser_block_row_c o_presser_slots_n o_presser_slots_c o_streamMaker_made_count o_streamMaker_made_row_n o_streamMaker_made_row_c o_blockOpener_fault o_blockOpener_place o_blockOpener_start o_blockOpener_end o_blockOpener_next o_blockOpener_length o_blockOpener_sort o_blockOpener_body o_blockOpener_size o_blockOpener_back o_blockOpener_given_count o_blockOpener_given_row_n o_blockOpener_given_row_c o_blockOpener_elements_count o_blockOpener_elements_marked o_blockOpener_elements_cells_n o_blockOpener_elements_cells_c o_streamOpener_fault o_streamOpener_place o_streamOpener_next o_streamOpener_type o_streamOpener_body o_streamOpener_size o_streamOpener_given_count o_streamOpener_given_row_n o_streamOpener_given_row_c o_streamOpener_chunks_count o_streamOpener_chunks_marked o_streamOpener_chunks_cells_n o_streamOpener_chunks_cells_c o_keptElements_count o_keptElements_marked o_keptElements_cells_n o_keptElements_cells_c o_keptChunks_count o_keptChunks_marked o_keptChunks_cells_n o_keptChunks_cells_c) H locs → lv_has ls 4 [(0, .ref h_o), (1, .int p1), (2, .int p2), (3, .int x3)] → W p l e rm_X6_fill s m args below meth c H locs 0 0 (MQ below (qcI g wc s.heap.size o.1 (wF_SnapHouse g h_o h_o_theTape h_o_theTape_row h_o_theOut h_o_theOut_row h_o_presser h_o_presser_block h_o_presser_block_row h_o_presser_slots h_o_streamMaker h_o_streamMaker_made h_o_streamMaker_made_row h_o_blockOpener h_o_blockOpener_given h_o_blockOpener_given_row h_o_blockOpener_elements h_o_blockOpener_elements_cells h_o_streamOpener h_o_streamOpener_given h_o_streamOpener_given_row h_o_streamOpener_chunks h_o_streamOpener_chunks_cells h_o_keptElements h_o_keptElements_cells h_o_keptChunks h_o_keptChunks_cells o_faultNumber o_faultPlace o_faultOfBlock o_faultPlaceInBlock o.2.1 o_theTape_row_n o.2.2 o_theOut_count o_theOut_row_n o_theOut_row_c o_presser_slotMask o_presser_block_count o_presser_block_row_n o_presser_block_row_c o_presser_slots_n o_presser_slots_c o_streamMaker_made_count o_streamMaker_made_row_n o_streamMaker_made_row_c o_blockOpener_fault o_blockOpener_place o_blockOpener_start o_blockOpener_end o_blockOpener_next o_blockOpener_length o_blockOpener_sort o_blockOpener_body o_blockOpener_size o_blockOpener_back o_blockOpener_given_count o_blockOpener_given_row_n o_blockOpener_given_row_c o_blockOpener_elements_count o_blockOpener_elements_marked o_blockOpener_elements_cells_n o_blockOpener_elements_cells_c o_streamOpener_fault o_streamOpener_place o_streamOpener_next o_streamOpener_type o_streamOpener_body o_streamOpener_size o_streamOpener_given_count o_streamOpener_given_row_n o_streamOpener_given_row_c o_streamOpener_chunks_count o_streamOpener_chunks_marked o_streamOpener_chunks_cells_n o_streamOpener_chunks_cells_c o_keptElements_count o_keptElements_marked o_keptElements_cells_n o_keptElements_cells_c o_keptChunks_count o_keptChunks_marked o_keptChunks_cells_n o_keptChunks_cells_c)) args s 0 0 (va_A wc s.heap.size)) (F0 m 22 ls []) := by
  intro n
  induction n with
  | zero => intro o_theTape_count o_theTape_row_c x3 hF; cases (show (none : Option (Int32 × Int32 × (Nat → Int32))) = some o from hF)
  | succ n ih =>
    intro o_theTape_count o_theTape_row_c x3 hF H locs ls hW hl
    rw [f_X6_fill_b22] at hF
    refine lv_iload_n C0.x C0.b dX6_fill_22 rfl (lv_at hl 3 rfl) ?_
    refine lv_iload_n C0.x C0.b dX6_fill_23 rfl (lv_at hl 2 rfl) ?_
    refine lv_icmp_ge (tgt := 41) C0.x C0.b dX6_fill_24 (by decide) (fun c1 => ?_) (fun c1 => ?_)
    · have hF := it_t hF c1
      refine lv_aload_n C0.x C0.b dX6_fill_41 rfl (lv_at hl 0 rfl) ?_
      refine x_get C0 hW iw_X6 0 rfl rfl 0 (by decide) (List.mem_cons_of_mem _ wl_16) (v := .ref h_o_theTape) rfl dX6_fill_42 ?_
      refine x_getN C0 hW iw_X1 1 rfl rfl 1 (by decide) (List.mem_of_getElem? (i := 0) rfl) (v := .int o_theTape_count) rfl dX6_fill_45 ?_
      obtain rfl := Option.some.inj hF
      exact x_iret C0 hW rfl rfl dX6_fill_48
    · have hF := it_f hF c1
      refine lv_aload_n C0.x C0.b dX6_fill_27 rfl (lv_at hl 0 rfl) ?_
      refine x_get C0 hW iw_X6 0 rfl rfl 0 (by decide) (List.mem_cons_of_mem _ wl_16) (v := .ref h_o_theTape) rfl dX6_fill_28 ?_
      refine lv_iload_n C0.x C0.b dX6_fill_31 rfl (lv_at hl 1 rfl) ?_
      obtain ⟨r2, e3, hF⟩ := ob hF
      refine go_v C0 hW [1, 2] [0, 3, 4, 5, 6, 7, 8, 9, 10, 11, 12, 13, 14, 15, 16, 17, 18, 19, 20, 21, 22, 23, 24, 25] [0, 24, 25, 1, 2, 3, 4, 5, 6, 7, 8, 9, 10, 11, 12, 13, 14, 15, 16, 17, 18, 19, 20, 21, 22, 23] (va_runV (As := [.int p1]) (rest := []) C0.fix (c_X1_put l g h_o_theTape h_o_theTape_row e3 _) (cwV 1 C0.ts (gw_V wl_161 wl_141 wl_142 wl_15 wl_143) rfl rfl rfl (by decide +kernel) ⟨Nat.le_of_ble_eq_true rfl, Nat.le_of_ble_eq_true rfl⟩) (pcv_of C0 hW [1, 2] rfl (by decide) (q0 := 1) rfl rfl) rfl rfl hl.1 rfl (lv_room (Nat.le_of_ble_eq_true rfl)) dX6_fill_32 ⟨Nat.le_of_ble_eq_true rfl, Nat.le_of_ble_eq_true rfl⟩) rfl rfl (by decide) (by decide) (ws' := (wF_SnapHouse g h_o h_o_theTape h_o_theTape_row h_o_theOut h_o_theOut_row h_o_presser h_o_presser_block h_o_presser_block_row h_o_presser_slots h_o_streamMaker h_o_streamMaker_made h_o_streamMaker_made_row h_o_blockOpener h_o_blockOpener_given h_o_blockOpener_given_row h_o_blockOpener_elements h_o_blockOpener_elements_cells h_o_streamOpener h_o_streamOpener_given h_o_streamOpener_given_row h_o_streamOpener_chunks h_o_streamOpener_chunks_cells h_o_keptElements h_o_keptElements_cells h_o_keptChunks h_o_keptChunks_cells o_faultNumber o_faultPlace o_faultOfBlock o_faultPlaceInBlock r2.1 o_theTape_row_n r2.2 o_theOut_count o_theOut_row_n o_theOut_row_c o_presser_slotMask o_presser_block_count o_presser_block_row_n o_presser_block_row_c o_presser_slots_n o_presser_slots_c o_streamMaker_made_count o_streamMaker_made_row_n o_streamMaker_made_row_c o_blockOpener_fault o_blockOpener_place o_blockOpener_start o_blockOpener_end o_blockOpener_next o_blockOpener_length o_blockOpener_sort o_blockOpener_body o_blockOpener_size o_blockOpener_back o_blockOpener_given_count o_blockOpener_given_row_n o_blockOpener_given_row_c o_blockOpener_elements_count o_blockOpener_elements_marked o_blockOpener_elements_cells_n o_blockOpener_elements_cells_c o_streamOpener_fault o_streamOpener_place o_streamOpener_next o_streamOpener_type o_streamOpener_body o_streamOpener_size o_streamOpener_given_count o_streamOpener_given_row_n o_streamOpener_given_row_c o_streamOpener_chunks_count o_streamOpener_chunks_marked o_streamOpener_chunks_cells_n o_streamOpener_chunks_cells_c o_keptElements_count o_keptElements_marked o_keptElements_cells_n o_keptElements_cells_c o_keptChunks_count o_keptChunks_marked o_keptChunks_cells_n o_keptChunks_cells_c)) rfl (by decide) (fun H locs hW => ?_)
      refine lv_iinc (v := (x3 + (1 : Int32))) (lv' := [(3, .int (x3 + (1 : Int32))), (0, .ref h_o), (1, .int p1), (2, .int p2)]) C0.x C0.b dX6_fill_35 hl (k := 3) rfl rfl (by decide) rfl (fun ls hl => ?_)
      refine lv_goto (tgt := 22) C0.x C0.b dX6_fill_38 (by decide) ?_
      exact ih r2.1 r2.2 (x3 + (1 : Int32)) hF _ _ _ hW (lv_sub hl [1, 2, 3, 0] rfl)

set_option maxHeartbeats 4000000 in
set_option maxRecDepth 100000 in
/-- SnapHouse.fill(II)I -/
theorem c_X6_fill (l : Launch) (g : GX) (h_o h_o_theTape h_o_theTape_row h_o_theOut h_o_theOut_row h_o_presser h_o_presser_block h_o_presser_block_row h_o_presser_slots h_o_streamMaker h_o_streamMaker_made h_o_streamMaker_made_row h_o_blockOpener h_o_blockOpener_given h_o_blockOpener_given_row h_o_blockOpener_elements h_o_blockOpener_elements_cells h_o_streamOpener h_o_streamOpener_given h_o_streamOpener_given_row h_o_streamOpener_chunks h_o_streamOpener_chunks_cells h_o_keptElements h_o_keptElements_cells h_o_keptChunks h_o_keptChunks_cells : Nat) {K : Nat} (o_faultNumber : Int32) (o_faultPlace : Int32) (o_faultOfBlock : Int32) (o_faultPlaceInBlock : Int32) (o_theOut_count : Int32) (o_theOut_row_n : Nat) (o_theOut_row_c : Nat → Int32) (o_presser_slotMask : Int32) (o_presser_block_count : Int32) (o_presser_block_row_n : Nat) (o_presser_block_row_c : Nat → Int32) (o_presser_slots_n : Nat) (o_presser_slots_c : Nat → Int32) (o_streamMaker_made_count : Int32) (o_streamMaker_made_row_n : Nat) (o_streamMaker_made_row_c : Nat → Int32) (o_blockOpener_fault : Int32) (o_blockOpener_place : Int32) (o_blockOpener_start : Int32) (o_blockOpener_end : Int32) (o_blockOpener_next : Int32) (o_blockOpener_length : Int32) (o_blockOpener_sort : Int32) (o_blockOpener_body : Int32) (o_blockOpener_size : Int64) (o_blockOpener_back : Int64) (o_blockOpener_given_count : Int32) (o_blockOpener_given_row_n : Nat) (o_blockOpener_given_row_c : Nat → Int32) (o_blockOpener_elements_count : Int32) (o_blockOpener_elements_marked : Int32) (o_blockOpener_elements_cells_n : Nat) (o_blockOpener_elements_cells_c : Nat → Int32) (o_streamOpener_fault : Int32) (o_streamOpener_place : Int32) (o_streamOpener_next : Int32) (o_streamOpener_type : Int32) (o_streamOpener_body : Int32) (o_streamOpener_size : Int32) (o_streamOpener_given_count : Int32) (o_streamOpener_given_row_n : Nat) (o_streamOpener_given_row_c : Nat → Int32) (o_streamOpener_chunks_count : Int32) (o_streamOpener_chunks_marked : Int32) (o_streamOpener_chunks_cells_n : Nat) (o_streamOpener_chunks_cells_c : Nat → Int32) (o_keptElements_count : Int32) (o_keptElements_marked : Int32) (o_keptElements_cells_n : Nat) (o_keptElements_cells_c : Nat → Int32) (o_keptChunks_count : Int32) (o_keptChunks_marked : Int32) (o_keptChunks_cells_n : Nat) (o_keptChunks_cells_c : Nat → Int32) {o_theTape_count : Int32} {o_theTape_row_n : Nat} {o_theTape_row_c : Nat → Int32} {p1 : Int32} {p2 : Int32} {o : Int32 × Int32 × (Nat → Int32)} (hF : f_X6_fill K o_theTape_count o_theTape_row_n o_theTape_row_c p1 p2 = some o) : mcI g l yX6_fill wA_X6_fill rm_X6_fill [.ref h_o, .int p1, .int p2] (wF_SnapHouse g h_o h_o_theTape h_o_theTape_row h_o_theOut h_o_theOut_row h_o_presser h_o_presser_block h_o_presser_block_row h_o_presser_slots h_o_streamMaker h_o_streamMaker_made h_o_streamMaker_made_row h_o_blockOpener h_o_blockOpener_given h_o_blockOpener_given_row h_o_blockOpener_elements h_o_blockOpener_elements_cells h_o_streamOpener h_o_streamOpener_given h_o_streamOpener_given_row h_o_streamOpener_chunks h_o_streamOpener_chunks_cells h_o_keptElements h_o_keptElements_cells h_o_keptChunks h_o_keptChunks_cells o_faultNumber o_faultPlace o_faultOfBlock o_faultPlaceInBlock o_theTape_count o_theTape_row_n o_theTape_row_c o_theOut_count o_theOut_row_n o_theOut_row_c o_presser_slotMask o_presser_block_count o_presser_block_row_n o_presser_block_row_c o_presser_slots_n o_presser_slots_c o_streamMaker_made_count o_streamMaker_made_row_n o_streamMaker_made_row_c o_blockOpener_fault o_blockOpener_place o_blockOpener_start o_blockOpener_end o_blockOpener_next o_blockOpener_length o_blockOpener_sort o_blockOpener_body o_blockOpener_size o_blockOpener_back o_blockOpener_given_count o_blockOpener_given_row_n o_blockOpener_given_row_c o_blockOpener_elements_count o_blockOpener_elements_marked o_blockOpener_elements_cells_n o_blockOpener_elements_cells_c o_streamOpener_fault o_streamOpener_place o_streamOpener_next o_streamOpener_type o_streamOpener_body o_streamOpener_size o_streamOpener_given_count o_streamOpener_given_row_n o_streamOpener_given_row_c o_streamOpener_chunks_count o_streamOpener_chunks_marked o_streamOpener_chunks_cells_n o_streamOpener_chunks_cells_c o_keptElements_count o_keptElements_marked o_keptElements_cells_n o_keptElements_cells_c o_keptChunks_count o_keptChunks_marked o_keptChunks_cells_n o_keptChunks_cells_c) o.1 (wF_SnapHouse g h_o h_o_theTape h_o_theTape_row h_o_theOut h_o_theOut_row h_o_presser h_o_presser_block h_o_presser_block_row h_o_presser_slots h_o_streamMaker h_o_streamMaker_made h_o_streamMaker_made_row h_o_blockOpener h_o_blockOpener_given h_o_blockOpener_given_row h_o_blockOpener_elements h_o_blockOpener_elements_cells h_o_streamOpener h_o_streamOpener_given h_o_streamOpener_given_row h_o_streamOpener_chunks h_o_streamOpener_chunks_cells h_o_keptElements h_o_keptElements_cells h_o_keptChunks h_o_keptChunks_cells o_faultNumber o_faultPlace o_faultOfBlock o_faultPlaceInBlock o.2.1 o_theTape_row_n o.2.2 o_theOut_count o_theOut_row_n o_theOut_row_c o_presser_slotMask o_presser_block_count o_presser_block_row_n o_presser_block_row_c o_presser_slots_n o_presser_slots_c o_streamMaker_made_count o_streamMaker_made_row_n o_streamMaker_made_row_c o_blockOpener_fault o_blockOpener_place o_blockOpener_start o_blockOpener_end o_blockOpener_next o_blockOpener_length o_blockOpener_sort o_blockOpener_body o_blockOpener_size o_blockOpener_back o_blockOpener_given_count o_blockOpener_given_row_n o_blockOpener_given_row_c o_blockOpener_elements_count o_blockOpener_elements_marked o_blockOpener_elements_cells_n o_blockOpener_elements_cells_c o_streamOpener_fault o_streamOpener_place o_streamOpener_next o_streamOpener_type o_streamOpener_body o_streamOpener_size o_streamOpener_given_count o_streamOpener_given_row_n o_streamOpener_given_row_c o_streamOpener_chunks_count o_streamOpener_chunks_marked o_streamOpener_chunks_cells_n o_streamOpener_chunks_cells_c o_keptElements_count o_keptElements_marked o_keptElements_cells_n o_keptElements_cells_c o_keptChunks_count o_keptChunks_marked o_keptChunks_cells_n o_keptChunks_cells_c) 0 0 := by
  refine x_start (cc := cX6_fill) (maxL := 4) (ret := (some .int)) (by decide) rfl (Nat.le_of_ble_eq_true rfl) ?_
  intro p e s m below meth c ls C0 hW hl
  have hl : lv_has ls 4 [(0, .ref h_o), (1, .int p1), (2, .int p2)] := hl
  unfold f_X6_fill at hF
  refine lv_iload_n C0.x C0.b dX6_fill_0 rfl (lv_at hl 1 rfl) ?_
  obtain ⟨r1, e2, hF⟩ := ob hF
  refine go_i C0 hW [] [0, 1, 2, 3, 4, 5, 6, 7, 8, 9, 10, 11, 12, 13, 14, 15, 16, 17, 18, 19, 20, 21, 22, 23, 24, 25] [0, 1, 2, 3, 4, 5, 6, 7, 8, 9, 10, 11, 12, 13, 14, 15, 16, 17, 18, 19, 20, 21, 22, 23, 24, 25] (va_runS (As := [.int p1]) (rest := []) C0.fix (c_X6_isByte l g e2 _) (va_cwS 1 C0.ts (gw_S wl_158 wl_159 wl_2 wl_160) rfl rfl rfl (by decide +kernel) ⟨Nat.le_of_ble_eq_true rfl, Nat.le_of_ble_eq_true rfl⟩) (pcc_of C0 hW [] rfl (by decide)) rfl rfl hl.1 rfl (lv_room (Nat.le_of_ble_eq_true rfl)) dX6_fill_1 ⟨Nat.le_of_ble_eq_true rfl, Nat.le_of_ble_eq_true rfl⟩) rfl rfl (by decide) (by decide) (ws' := (wF_SnapHouse g h_o h_o_theTape h_o_theTape_row h_o_theOut h_o_theOut_row h_o_presser h_o_presser_block h_o_presser_block_row h_o_presser_slots h_o_streamMaker h_o_streamMaker_made h_o_streamMaker_made_row h_o_blockOpener h_o_blockOpener_given h_o_blockOpener_given_row h_o_blockOpener_elements h_o_blockOpener_elements_cells h_o_streamOpener h_o_streamOpener_given h_o_streamOpener_given_row h_o_streamOpener_chunks h_o_streamOpener_chunks_cells h_o_keptElements h_o_keptElements_cells h_o_keptChunks h_o_keptChunks_cells o_faultNumber o_faultPlace o_faultOfBlock o_faultPlaceInBlock o_theTape_count o_theTape_row_n o_theTape_row_c o_theOut_count o_theOut_row_n o_theOut_row_c o_presser_slotMask o_presser_block_count o_presser_block_row_n o_presser_block_row_c o_presser_slots_n o_presser_slots_c o_streamMaker_made_count o_streamMaker_made_row_n o_streamMaker_made_row_c o_blockOpener_fault o_blockOpener_place o_blockOpener_start o_blockOpener_end o_blockOpener_next o_blockOpener_length o_blockOpener_sort o_blockOpener_body o_blockOpener_size o_blockOpener_back o_blockOpener_given_count o_blockOpener_given_row_n o_blockOpener_given_row_c o_blockOpener_elements_count o_blockOpener_elements_marked o_blockOpener_elements_cells_n o_blockOpener_elements_cells_c o_streamOpener_fault o_streamOpener_place o_streamOpener_next o_streamOpener_type o_streamOpener_body o_streamOpener_size o_streamOpener_given_count o_streamOpener_given_row_n o_streamOpener_given_row_c o_streamOpener_chunks_count o_streamOpener_chunks_marked o_streamOpener_chunks_cells_n o_streamOpener_chunks_cells_c o_keptElements_count o_keptElements_marked o_keptElements_cells_n o_keptElements_cells_c o_keptChunks_count o_keptChunks_marked o_keptChunks_cells_n o_keptChunks_cells_c)) rfl (by decide) (fun H locs hW => ?_)
  refine lv_if_eq (tgt := 18) C0.x C0.b dX6_fill_4 (by decide) (fun c3 => ?_) (fun c3 => ?_)
  · have hF := it_t hF c3
    refine lv_iconst (v := (-1 : Int32)) C0.x C0.b dX6_fill_18 (by decide) ?_
    obtain rfl := Option.some.inj hF
    exact x_iret C0 hW rfl rfl dX6_fill_19
  · have hF := it_f hF c3
    refine lv_aload_n C0.x C0.b dX6_fill_7 rfl (lv_at hl 0 rfl) ?_
    refine x_get C0 hW iw_X6 0 rfl rfl 0 (by decide) (List.mem_cons_of_mem _ wl_16) (v := .ref h_o_theTape) rfl dX6_fill_8 ?_
    refine lv_iload_n C0.x C0.b dX6_fill_11 rfl (lv_at hl 2 rfl) ?_
    obtain ⟨r4, e5, hF⟩ := ob hF
    refine go_i C0 hW [1, 2] [0, 3, 4, 5, 6, 7, 8, 9, 10, 11, 12, 13, 14, 15, 16, 17, 18, 19, 20, 21, 22, 23, 24, 25] [0, 24, 25, 1, 2, 3, 4, 5, 6, 7, 8, 9, 10, 11, 12, 13, 14, 15, 16, 17, 18, 19, 20, 21, 22, 23] (va_runV (As := [.int p2]) (rest := []) C0.fix (c_X1_hasRoomFor l g h_o_theTape h_o_theTape_row o_theTape_row_c e5 _) (cwV 1 C0.ts (gw_V wl_132 wl_133 wl_134 wl_15 wl_135) rfl rfl rfl (by decide +kernel) ⟨Nat.le_of_ble_eq_true rfl, Nat.le_of_ble_eq_true rfl⟩) (pcv_of C0 hW [1, 2] rfl (by decide) (q0 := 1) rfl rfl) rfl rfl hl.1 rfl (lv_room (Nat.le_of_ble_eq_true rfl)) dX6_fill_12 ⟨Nat.le_of_ble_eq_true rfl, Nat.le_of_ble_eq_true rfl⟩) rfl rfl (by decide) (by decide) (ws' := (wF_SnapHouse g h_o h_o_theTape h_o_theTape_row h_o_theOut h_o_theOut_row h_o_presser h_o_presser_block h_o_presser_block_row h_o_presser_slots h_o_streamMaker h_o_streamMaker_made h_o_streamMaker_made_row h_o_blockOpener h_o_blockOpener_given h_o_blockOpener_given_row h_o_blockOpener_elements h_o_blockOpener_elements_cells h_o_streamOpener h_o_streamOpener_given h_o_streamOpener_given_row h_o_streamOpener_chunks h_o_streamOpener_chunks_cells h_o_keptElements h_o_keptElements_cells h_o_keptChunks h_o_keptChunks_cells o_faultNumber o_faultPlace o_faultOfBlock o_faultPlaceInBlock o_theTape_count o_theTape_row_n o_theTape_row_c o_theOut_count o_theOut_row_n o_theOut_row_c o_presser_slotMask o_presser_block_count o_presser_block_row_n o_presser_block_row_c o_presser_slots_n o_presser_slots_c o_streamMaker_made_count o_streamMaker_made_row_n o_streamMaker_made_row_c o_blockOpener_fault o_blockOpener_place o_blockOpener_start o_blockOpener_end o_blockOpener_next o_blockOpener_length o_blockOpener_sort o_blockOpener_body o_blockOpener_size o_blockOpener_back o_blockOpener_given_count o_blockOpener_given_row_n o_blockOpener_given_row_c o_blockOpener_elements_count o_blockOpener_elements_marked o_blockOpener_elements_cells_n o_blockOpener_elements_cells_c o_streamOpener_fault o_streamOpener_place o_streamOpener_next o_streamOpener_type o_streamOpener_body o_streamOpener_size o_streamOpener_given_count o_streamOpener_given_row_n o_streamOpener_given_row_c o_streamOpener_chunks_count o_streamOpener_chunks_marked o_streamOpener_chunks_cells_n o_streamOpener_chunks_cells_c o_keptElements_count o_keptElements_marked o_keptElements_cells_n o_keptElements_cells_c o_keptChunks_count o_keptChunks_marked o_keptChunks_cells_n o_keptChunks_cells_c)) rfl (by decide) (fun H locs hW => ?_)
    refine lv_if_ne (tgt := 20) C0.x C0.b dX6_fill_15 (by decide) (fun c6 => ?_) (fun c6 => ?_)
    · have hF := it_f hF c6
      refine lv_iconst (v := (0 : Int32)) C0.x C0.b dX6_fill_20 (by decide) ?_
      refine lv_istore_n (lv' := [(3, .int (0 : Int32)), (0, .ref h_o), (1, .int p1), (2, .int p2)]) C0.x C0.b dX6_fill_21 rfl hl (by decide) rfl (fun ls hl => ?_)
      exact w_X6_fill_b22 l g h_o h_o_theTape h_o_theTape_row h_o_theOut h_o_theOut_row h_o_presser h_o_presser_block h_o_presser_block_row h_o_presser_slots h_o_streamMaker h_o_streamMaker_made h_o_streamMaker_made_row h_o_blockOpener h_o_blockOpener_given h_o_blockOpener_given_row h_o_blockOpener_elements h_o_blockOpener_elements_cells h_o_streamOpener h_o_streamOpener_given h_o_streamOpener_given_row h_o_streamOpener_chunks h_o_streamOpener_chunks_cells h_o_keptElements h_o_keptElements_cells h_o_keptChunks h_o_keptChunks_cells C0 K o_theTape_count o_theTape_row_c (0 : Int32) hF _ _ _ hW (lv_sub hl [1, 2, 3, 0] rfl)
    · have hF := it_t hF c6
      refine lv_iconst (v := (-1 : Int32)) C0.x C0.b dX6_fill_18 (by decide) ?_
      obtain rfl := Option.some.inj hF
      exact x_iret C0 hW rfl rfl dX6_fill_19

abbrev rm_X1_hasPlace : Room := { frames := 0, cells := 0, slots := 0, locals := 0 }

set_option maxHeartbeats 4000000 in
set_option maxRecDepth 100000 in
/-- SnapHouse$Bytes.hasPlace(I)Z -/
theorem c_X1_hasPlace (l : Launch) (g : GX) (h_o h_o_row : Nat) {K : Nat} (o_row_n : Nat) (o_row_c : Nat → Int32) {o_count : Int32} {p1 : Int32} {o : Int32} (hF : f_X1_hasPlace K o_count p1 = some o) : mcI g l yX1_hasPlace wA_X1_hasPlace rm_X1_hasPlace [.ref h_o, .int p1] (wF_Bytes g h_o h_o_row o_count o_row_n o_row_c) o (wF_Bytes g h_o h_o_row o_count o_row_n o_row_c) 0 0 := by
  refine x_start (cc := cX1_hasPlace) (maxL := 2) (ret := (some .boolean)) (by decide) rfl (Nat.le_of_ble_eq_true rfl) ?_
  intro p e s m below meth c ls C0 hW hl
  have hl : lv_has ls 2 [(0, .ref h_o), (1, .int p1)] := hl
  unfold f_X1_hasPlace at hF
  refine lv_iload_n C0.x C0.b dX1_hasPlace_0 rfl (lv_at hl 1 rfl) ?_
  refine lv_if_lt (tgt := 16) C0.x C0.b dX1_hasPlace_1 (by decide) (fun c1 => ?_) (fun c1 => ?_)
  · have hF := it_t hF c1
    refine lv_iconst (v := (0 : Int32)) C0.x C0.b dX1_hasPlace_16 (by decide) ?_
    obtain rfl := Option.some.inj hF
    exact x_iret C0 hW (by decide) rfl dX1_hasPlace_17
  · have hF := it_f hF c1
    refine lv_iload_n C0.x C0.b dX1_hasPlace_4 rfl (lv_at hl 1 rfl) ?_
    refine lv_aload_n C0.x C0.b dX1_hasPlace_5 rfl (lv_at hl 0 rfl) ?_
    refine x_get C0 hW iw_X1 0 rfl rfl 1 (by decide) (List.mem_cons_of_mem _ wl_47) (v := .int o_count) rfl dX1_hasPlace_6 ?_
    refine lv_icmp_ge (tgt := 16) C0.x C0.b dX1_hasPlace_9 (by decide) (fun c2 => ?_) (fun c2 => ?_)
    · have hF := it_t hF c2
      refine lv_iconst (v := (0 : Int32)) C0.x C0.b dX1_hasPlace_16 (by decide) ?_
      obtain rfl := Option.some.inj hF
      exact x_iret C0 hW (by decide) rfl dX1_hasPlace_17
    · have hF := it_f hF c2
      refine lv_iconst (v := (1 : Int32)) C0.x C0.b dX1_hasPlace_12 (by decide) ?_
      refine lv_goto (tgt := 17) C0.x C0.b dX1_hasPlace_13 (by decide) ?_
      obtain rfl := Option.some.inj hF
      exact x_iret C0 hW (by decide) rfl dX1_hasPlace_17

abbrev rm_X1_putOwn : Room := { frames := 1, cells := 0, slots := 0, locals := 21 }

set_option maxHeartbeats 4000000 in
set_option maxRecDepth 100000 in
theorem w_X1_putOwn_b19 (l : Launch) (g : GX) (h_o h_o_row : Nat) {K : Nat} {o_row_n : Nat} {p1 : Int32} {p2 : Int32} {o : Int32 × (Nat → Int32)} {wc : va_W} {p : Program} {e : Env} {s : State} {m : MethodId} {args : Array Value} {below : List Frame} {meth : Method} {c : Code} (C0 : bx g p s m meth c args cX1_putOwn 4 none yX1_putOwn wA_X1_putOwn (va_A wc s.heap.size)) :
    ∀ (n : Nat) (o_count : Int32) (o_row_c : Nat → Int32) (x3 : Int32), f_X1_putOwn_b19 K o_row_n p1 p2 n o_count o_row_c x3 = some o → ∀ (H : Heap) (locs : List Loc) (ls : Array Slot), ww g (va_A wc s.heap.size) s (wF_Bytes g h_o h_o_row o_count o_row_n o_row_c) H locs → lv_has ls 4 [(0, .ref h_o), (1, .int p1), (2, .int p2), (3, .int x3)] → W p l e rm_X1_putOwn s m args below meth c H locs 0 0 (MQ below (qcV g wc s.heap.size (wF_Bytes g h_o h_o_row o.1 o_row_n o.2)) args s 0 0 (va_A wc s.heap.size)) (F0 m 19 ls []) := by
  intro n
  induction n with
  | zero => intro o_count o_row_c x3 hF; cases (show (none : Option (Int32 × (Nat → Int32))) = some o from hF)
  | succ n ih =>
    intro o_count o_row_c x3 hF H locs ls hW hl
    rw [f_X1_putOwn_b19] at hF
    refine lv_iload_n C0.x C0.b dX1_putOwn_19 rfl (lv_at hl 3 rfl) ?_
    refine lv_iload_n C0.x C0.b dX1_putOwn_20 rfl (lv_at hl 2 rfl) ?_
    refine lv_icmp_ge (tgt := 57) C0.x C0.b dX1_putOwn_21 (by decide) (fun c1 => ?_) (fun c1 => ?_)
    · have hF := it_t hF c1
      obtain rfl := Option.some.inj hF
      exact x_vret C0 hW dX1_putOwn_57
    · have hF := it_f hF c1
      refine lv_aload_n C0.x C0.b dX1_putOwn_24 rfl (lv_at hl 0 rfl) ?_
      refine x_get C0 hW iw_X1 0 rfl rfl 0 (by decide) (List.mem_cons_of_mem _ wl_53) (v := .ref h_o_row) rfl dX1_putOwn_25 ?_
      refine lv_aload_n C0.x C0.b dX1_putOwn_28 rfl (lv_at hl 0 rfl) ?_
      refine x_get C0 hW iw_X1 0 rfl rfl 1 (by decide) (List.mem_cons_of_mem _ wl_47) (v := .int o_count) rfl dX1_putOwn_29 ?_
      refine lv_aload_n C0.x C0.b dX1_putOwn_32 rfl (lv_at hl 0 rfl) ?_
      refine x_get C0 hW iw_X1 0 rfl rfl 0 (by decide) (List.mem_cons_of_mem _ wl_53) (v := .ref h_o_row) rfl dX1_putOwn_33 ?_
      refine lv_iload_n C0.x C0.b dX1_putOwn_36 rfl (lv_at hl 1 rfl) ?_
      refine lv_iload_n C0.x C0.b dX1_putOwn_37 rfl (lv_at hl 3 rfl) ?_
      refine lv_iadd C0.x C0.b dX1_putOwn_38 ?_
      obtain ⟨h2, hF⟩ := ck_some hF
      refine x_iald C0 hW 1 0 rfl rfl h2 dX1_putOwn_39 ?_
      obtain ⟨h3, hF⟩ := ck_some hF
      refine x_iast C0 hW 1 0 rfl rfl h3 dX1_putOwn_40 (ws' := (wF_Bytes g h_o h_o_row o_count o_row_n (upd o_row_c o_count.toNatClampNeg (o_row_c (p1 + x3).toNatClampNeg)))) rfl (fun H locs hW => ?_)
      refine lv_aload_n C0.x C0.b dX1_putOwn_41 rfl (lv_at hl 0 rfl) ?_
      refine lv_dup C0.x C0.b dX1_putOwn_42 rfl ?_
      refine x_get C0 hW iw_X1 0 rfl rfl 1 (by decide) (List.mem_cons_of_mem _ wl_47) (v := .int o_count) rfl dX1_putOwn_43 ?_
      refine lv_iconst (v := (1 : Int32)) C0.x C0.b dX1_putOwn_46 (by decide) ?_
      refine lv_iadd C0.x C0.b dX1_putOwn_47 ?_
      refine x_put C0 hW iw_X1 tyX1 tyX1_ok nmX1 0 rfl rfl 1 (by decide) (List.mem_cons_of_mem _ wl_47) rfl (ty := .int) (v := .int (o_count + (1 : Int32))) (by decide +kernel) rfl rfl (Nat.le_of_ble_eq_true rfl) dX1_putOwn_48 (ws' := (wF_Bytes g h_o h_o_row (o_count + (1 : Int32)) o_row_n (upd o_row_c o_count.toNatClampNeg (o_row_c (p1 + x3).toNatClampNeg)))) rfl (fun H locs hW => ?_)
      refine lv_iinc (v := (x3 + (1 : Int32))) (lv' := [(3, .int (x3 + (1 : Int32))), (0, .ref h_o), (1, .int p1), (2, .int p2)]) C0.x C0.b dX1_putOwn_51 hl (k := 3) rfl rfl (by decide) rfl (fun ls hl => ?_)
      refine lv_goto (tgt := 19) C0.x C0.b dX1_putOwn_54 (by decide) ?_
      exact ih (o_count + (1 : Int32)) (upd o_row_c o_count.toNatClampNeg (o_row_c (p1 + x3).toNatClampNeg)) (x3 + (1 : Int32)) hF _ _ _ hW (lv_sub hl [1, 2, 3, 0] rfl)

set_option maxHeartbeats 4000000 in
set_option maxRecDepth 100000 in
/-- SnapHouse$Bytes.putOwn(II)V -/
theorem c_X1_putOwn (l : Launch) (g : GX) (h_o h_o_row : Nat) {K : Nat} {o_count : Int32} {o_row_n : Nat} {o_row_c : Nat → Int32} {p1 : Int32} {p2 : Int32} {o : Int32 × (Nat → Int32)} (hF : f_X1_putOwn K o_count o_row_n o_row_c p1 p2 = some o) : mcV g l yX1_putOwn wA_X1_putOwn rm_X1_putOwn [.ref h_o, .int p1, .int p2] (wF_Bytes g h_o h_o_row o_count o_row_n o_row_c) (wF_Bytes g h_o h_o_row o.1 o_row_n o.2) 0 0 := by
  refine x_start (cc := cX1_putOwn) (maxL := 4) (ret := none) (by decide) rfl (Nat.le_of_ble_eq_true rfl) ?_
  intro p e s m below meth c ls C0 hW hl
  have hl : lv_has ls 4 [(0, .ref h_o), (1, .int p1), (2, .int p2)] := hl
  unfold f_X1_putOwn at hF
  refine lv_aload_n C0.x C0.b dX1_putOwn_0 rfl (lv_at hl 0 rfl) ?_
  refine lv_iload_n C0.x C0.b dX1_putOwn_1 rfl (lv_at hl 1 rfl) ?_
  obtain ⟨r1, e2, hF⟩ := ob hF
  refine go_i C0 hW [0, 1] [] [0, 1] (va_runV (As := [.int p1]) (rest := []) C0.fix (c_X1_hasPlace l g h_o h_o_row o_row_n o_row_c e2 _) (cwV 1 C0.ts (gw_V wl_178 wl_171 wl_172 wl_15 wl_173) rfl rfl rfl (by decide +kernel) ⟨Nat.le_of_ble_eq_true rfl, Nat.le_of_ble_eq_true rfl⟩) (pcv_of C0 hW [0, 1] rfl (by decide) (q0 := 0) rfl rfl) rfl rfl hl.1 rfl (lv_room (Nat.le_of_ble_eq_true rfl)) dX1_putOwn_2 ⟨Nat.le_of_ble_eq_true rfl, Nat.le_of_ble_eq_true rfl⟩) rfl rfl (by decide) (by decide) (ws' := (wF_Bytes g h_o h_o_row o_count o_row_n o_row_c)) rfl (by decide) (fun H locs hW => ?_)
  refine lv_if_eq (tgt := 16) C0.x C0.b dX1_putOwn_5 (by decide) (fun c3 => ?_) (fun c3 => ?_)
  · have hF := it_t hF c3
    obtain rfl := Option.some.inj hF
    exact x_vret C0 hW dX1_putOwn_16
  · have hF := it_f hF c3
    refine lv_aload_n C0.x C0.b dX1_putOwn_8 rfl (lv_at hl 0 rfl) ?_
    refine lv_iload_n C0.x C0.b dX1_putOwn_9 rfl (lv_at hl 2 rfl) ?_
    obtain ⟨r4, e5, hF⟩ := ob hF
    refine go_i C0 hW [0, 1] [] [0, 1] (va_runV (As := [.int p2]) (rest := []) C0.fix (c_X1_hasRoomFor l g h_o h_o_row o_row_c e5 _) (cwV 1 C0.ts (gw_V wl_179 wl_133 wl_134 wl_15 wl_135) rfl rfl rfl (by decide +kernel) ⟨Nat.le_of_ble_eq_true rfl, Nat.le_of_ble_eq_true rfl⟩) (pcv_of C0 hW [0, 1] rfl (by decide) (q0 := 0) rfl rfl) rfl rfl hl.1 rfl (lv_room (Nat.le_of_ble_eq_true rfl)) dX1_putOwn_10 ⟨Nat.le_of_ble_eq_true rfl, Nat.le_of_ble_eq_true rfl⟩) rfl rfl (by decide) (by decide) (ws' := (wF_Bytes g h_o h_o_row o_count o_row_n o_row_c)) rfl (by decide) (fun H locs hW => ?_)
    refine lv_if_ne (tgt := 17) C0.x C0.b dX1_putOwn_13 (by decide) (fun c6 => ?_) (fun c6 => ?_)
    · have hF := it_f hF c6
      refine lv_iconst (v := (0 : Int32)) C0.x C0.b dX1_putOwn_17 (by decide) ?_
      refine lv_istore_n (lv' := [(3, .int (0 : Int32)), (0, .ref h_o), (1, .int p1), (2, .int p2)]) C0.x C0.b dX1_putOwn_18 rfl hl (by decide) rfl (fun ls hl => ?_)
      exact w_X1_putOwn_b19 l g h_o h_o_row C0 K o_count o_row_c (0 : Int32) hF _ _ _ hW (lv_sub hl [1, 2, 3, 0] rfl)
    · have hF := it_t hF c6
      obtain rfl := Option.some.inj hF
      exact x_vret C0 hW dX1_putOwn_16

abbrev rm_X6_again : Room := { frames := 2, cells := 0, slots := 0, locals := 44 }

set_option maxHeartbeats 4000000 in
set_option maxRecDepth 100000 in
/-- SnapHouse.again(II)I -/
theorem c_X6_again (l : Launch) (g : GX) (h_o h_o_theTape h_o_theTape_row h_o_theOut h_o_theOut_row h_o_presser h_o_presser_block h_o_presser_block_row h_o_presser_slots h_o_streamMaker h_o_streamMaker_made h_o_streamMaker_made_row h_o_blockOpener h_o_blockOpener_given h_o_blockOpener_given_row h_o_blockOpener_elements h_o_blockOpener_elements_cells h_o_streamOpener h_o_streamOpener_given h_o_streamOpener_given_row h_o_streamOpener_chunks h_o_streamOpener_chunks_cells h_o_keptElements h_o_keptElements_cells h_o_keptChunks h_o_keptChunks_cells : Nat) {K : Nat} (o_faultNumber : Int32) (o_faultPlace : Int32) (o_faultOfBlock : Int32) (o_faultPlaceInBlock : Int32) (o_theOut_count : Int32) (o_theOut_row_n : Nat) (o_theOut_row_c : Nat → Int32) (o_presser_slotMask : Int32) (o_presser_block_count : Int32) (o_presser_block_row_n : Nat) (o_presser_block_row_c : Nat → Int32) (o_presser_slots_n : Nat) (o_presser_slots_c : Nat → Int32) (o_streamMaker_made_count : Int32) (o_streamMaker_made_row_n : Nat) (o_streamMaker_made_row_c : Nat → Int32) (o_blockOpener_fault : Int32) (o_blockOpener_place : Int32) (o_blockOpener_start : Int32) (o_blockOpener_end : Int32) (o_blockOpener_next : Int32) (o_blockOpener_length : Int32) (o_blockOpener_sort : Int32) (o_blockOpener_body : Int32) (o_blockOpener_size : Int64) (o_blockOpener_back : Int64) (o_blockOpener_given_count : Int32) (o_blockOpener_given_row_n : Nat) (o_blockOpener_given_row_c : Nat → Int32) (o_blockOpener_elements_count : Int32) (o_blockOpener_elements_marked : Int32) (o_blockOpener_elements_cells_n : Nat) (o_blockOpener_elements_cells_c : Nat → Int32) (o_streamOpener_fault : Int32) (o_streamOpener_place : Int32) (o_streamOpener_next : Int32) (o_streamOpener_type : Int32) (o_streamOpener_body : Int32) (o_streamOpener_size : Int32) (o_streamOpener_given_count : Int32) (o_streamOpener_given_row_n : Nat) (o_streamOpener_given_row_c : Nat → Int32) (o_streamOpener_chunks_count : Int32) (o_streamOpener_chunks_marked : Int32) (o_streamOpener_chunks_cells_n : Nat) (o_streamOpener_chunks_cells_c : Nat → Int32) (o_keptElements_count : Int32) (o_keptElements_marked : Int32) (o_keptElements_cells_n : Nat) (o_keptElements_cells_c : Nat → Int32) (o_keptChunks_count : Int32) (o_keptChunks_marked : Int32) (o_keptChunks_cells_n : Nat) (o_keptChunks_cells_c : Nat → Int32) {o_theTape_count : Int32} {o_theTape_row_n : Nat} {o_theTape_row_c : Nat → Int32} {p1 : Int32} {p2 : Int32} {o : Int32 × Int32 × (Nat → Int32)} (hF : f_X6_again K o_theTape_count o_theTape_row_n o_theTape_row_c p1 p2 = some o) : mcI g l yX6_again wA_X6_again rm_X6_again [.ref h_o, .int p1, .int p2] (wF_SnapHouse g h_o h_o_theTape h_o_theTape_row h_o_theOut h_o_theOut_row h_o_presser h_o_presser_block h_o_presser_block_row h_o_presser_slots h_o_streamMaker h_o_streamMaker_made h_o_streamMaker_made_row h_o_blockOpener h_o_blockOpener_given h_o_blockOpener_given_row h_o_blockOpener_elements h_o_blockOpener_elements_cells h_o_streamOpener h_o_streamOpener_given h_o_streamOpener_given_row h_o_streamOpener_chunks h_o_streamOpener_chunks_cells h_o_keptElements h_o_keptElements_cells h_o_keptChunks h_o_keptChunks_cells o_faultNumber o_faultPlace o_faultOfBlock o_faultPlaceInBlock o_theTape_count o_theTape_row_n o_theTape_row_c o_theOut_count o_theOut_row_n o_theOut_row_c o_presser_slotMask o_presser_block_count o_presser_block_row_n o_presser_block_row_c o_presser_slots_n o_presser_slots_c o_streamMaker_made_count o_streamMaker_made_row_n o_streamMaker_made_row_c o_blockOpener_fault o_blockOpener_place o_blockOpener_start o_blockOpener_end o_blockOpener_next o_blockOpener_length o_blockOpener_sort o_blockOpener_body o_blockOpener_size o_blockOpener_back o_blockOpener_given_count o_blockOpener_given_row_n o_blockOpener_given_row_c o_blockOpener_elements_count o_blockOpener_elements_marked o_blockOpener_elements_cells_n o_blockOpener_elements_cells_c o_streamOpener_fault o_streamOpener_place o_streamOpener_next o_streamOpener_type o_streamOpener_body o_streamOpener_size o_streamOpener_given_count o_streamOpener_given_row_n o_streamOpener_given_row_c o_streamOpener_chunks_count o_streamOpener_chunks_marked o_streamOpener_chunks_cells_n o_streamOpener_chunks_cells_c o_keptElements_count o_keptElements_marked o_keptElements_cells_n o_keptElements_cells_c o_keptChunks_count o_keptChunks_marked o_keptChunks_cells_n o_keptChunks_cells_c) o.1 (wF_SnapHouse g h_o h_o_theTape h_o_theTape_row h_o_theOut h_o_theOut_row h_o_presser h_o_presser_block h_o_presser_block_row h_o_presser_slots h_o_streamMaker h_o_streamMaker_made h_o_streamMaker_made_row h_o_blockOpener h_o_blockOpener_given h_o_blockOpener_given_row h_o_blockOpener_elements h_o_blockOpener_elements_cells h_o_streamOpener h_o_streamOpener_given h_o_streamOpener_given_row h_o_streamOpener_chunks h_o_streamOpener_chunks_cells h_o_keptElements h_o_keptElements_cells h_o_keptChunks h_o_keptChunks_cells o_faultNumber o_faultPlace o_faultOfBlock o_faultPlaceInBlock o.2.1 o_theTape_row_n o.2.2 o_theOut_count o_theOut_row_n o_theOut_row_c o_presser_slotMask o_presser_block_count o_presser_block_row_n o_presser_block_row_c o_presser_slots_n o_presser_slots_c o_streamMaker_made_count o_streamMaker_made_row_n o_streamMaker_made_row_c o_blockOpener_fault o_blockOpener_place o_blockOpener_start o_blockOpener_end o_blockOpener_next o_blockOpener_length o_blockOpener_sort o_blockOpener_body o_blockOpener_size o_blockOpener_back o_blockOpener_given_count o_blockOpener_given_row_n o_blockOpener_given_row_c o_blockOpener_elements_count o_blockOpener_elements_marked o_blockOpener_elements_cells_n o_blockOpener_elements_cells_c o_streamOpener_fault o_streamOpener_place o_streamOpener_next o_streamOpener_type o_streamOpener_body o_streamOpener_size o_streamOpener_given_count o_streamOpener_given_row_n o_streamOpener_given_row_c o_streamOpener_chunks_count o_streamOpener_chunks_marked o_streamOpener_chunks_cells_n o_streamOpener_chunks_cells_c o_keptElements_count o_keptElements_marked o_keptElements_cells_n o_keptElements_cells_c o_keptChunks_count o_keptChunks_marked o_keptChunks_cells_n o_keptChunks_cells_c) 0 0 := by
  refine x_start (cc := cX6_again) (maxL := 3) (ret := (some .int)) (by decide) rfl (Nat.le_of_ble_eq_true rfl) ?_
  intro p e s m below meth c ls C0 hW hl
  have hl : lv_has ls 3 [(0, .ref h_o), (1, .int p1), (2, .int p2)] := hl
  unfold f_X6_again at hF
  refine lv_aload_n C0.x C0.b dX6_again_0 rfl (lv_at hl 0 rfl) ?_
  refine x_get C0 hW iw_X6 0 rfl rfl 0 (by decide) (List.mem_cons_of_mem _ wl_16) (v := .ref h_o_theTape) rfl dX6_again_1 ?_
  refine lv_iload_n C0.x C0.b dX6_again_4 rfl (lv_at hl 1 rfl) ?_
  obtain ⟨r1, e2, hF⟩ := ob hF
  refine go_i C0 hW [1, 2] [0, 3, 4, 5, 6, 7, 8, 9, 10, 11, 12, 13, 14, 15, 16, 17, 18, 19, 20, 21, 22, 23, 24, 25] [0, 24, 25, 1, 2, 3, 4, 5, 6, 7, 8, 9, 10, 11, 12, 13, 14, 15, 16, 17, 18, 19, 20, 21, 22, 23] (va_runV (As := [.int p1]) (rest := []) C0.fix (c_X1_hasPlace l g h_o_theTape h_o_theTape_row o_theTape_row_n o_theTape_row_c e2 _) (cwV 1 C0.ts (gw_V wl_170 wl_171 wl_172 wl_15 wl_173) rfl rfl rfl (by decide +kernel) ⟨Nat.le_of_ble_eq_true rfl, Nat.le_of_ble_eq_true rfl⟩) (pcv_of C0 hW [1, 2] rfl (by decide) (q0 := 1) rfl rfl) rfl rfl hl.1 rfl (lv_room (Nat.le_of_ble_eq_true rfl)) dX6_again_5 ⟨Nat.le_of_ble_eq_true rfl, Nat.le_of_ble_eq_true rfl⟩) rfl rfl (by decide) (by decide) (ws' := (wF_SnapHouse g h_o h_o_theTape h_o_theTape_row h_o_theOut h_o_theOut_row h_o_presser h_o_presser_block h_o_presser_block_row h_o_presser_slots h_o_streamMaker h_o_streamMaker_made h_o_streamMaker_made_row h_o_blockOpener h_o_blockOpener_given h_o_blockOpener_given_row h_o_blockOpener_elements h_o_blockOpener_elements_cells h_o_streamOpener h_o_streamOpener_given h_o_streamOpener_given_row h_o_streamOpener_chunks h_o_streamOpener_chunks_cells h_o_keptElements h_o_keptElements_cells h_o_keptChunks h_o_keptChunks_cells o_faultNumber o_faultPlace o_faultOfBlock o_faultPlaceInBlock o_theTape_count o_theTape_row_n o_theTape_row_c o_theOut_count o_theOut_row_n o_theOut_row_c o_presser_slotMask o_presser_block_count o_presser_block_row_n o_presser_block_row_c o_presser_slots_n o_presser_slots_c o_streamMaker_made_count o_streamMaker_made_row_n o_streamMaker_made_row_c o_blockOpener_fault o_blockOpener_place o_blockOpener_start o_blockOpener_end o_blockOpener_next o_blockOpener_length o_blockOpener_sort o_blockOpener_body o_blockOpener_size o_blockOpener_back o_blockOpener_given_count o_blockOpener_given_row_n o_blockOpener_given_row_c o_blockOpener_elements_count o_blockOpener_elements_marked o_blockOpener_elements_cells_n o_blockOpener_elements_cells_c o_streamOpener_fault o_streamOpener_place o_streamOpener_next o_streamOpener_type o_streamOpener_body o_streamOpener_size o_streamOpener_given_count o_streamOpener_given_row_n o_streamOpener_given_row_c o_streamOpener_chunks_count o_streamOpener_chunks_marked o_streamOpener_chunks_cells_n o_streamOpener_chunks_cells_c o_keptElements_count o_keptElements_marked o_keptElements_cells_n o_keptElements_cells_c o_keptChunks_count o_keptChunks_marked o_keptChunks_cells_n o_keptChunks_cells_c)) rfl (by decide) (fun H locs hW => ?_)
  refine lv_if_eq (tgt := 22) C0.x C0.b dX6_again_8 (by decide) (fun c3 => ?_) (fun c3 => ?_)
  · have hF := it_t hF c3
    refine lv_iconst (v := (-1 : Int32)) C0.x C0.b dX6_again_22 (by decide) ?_
    obtain rfl := Option.some.inj hF
    exact x_iret C0 hW rfl rfl dX6_again_23
  · have hF := it_f hF c3
    refine lv_aload_n C0.x C0.b dX6_again_11 rfl (lv_at hl 0 rfl) ?_
    refine x_get C0 hW iw_X6 0 rfl rfl 0 (by decide) (List.mem_cons_of_mem _ wl_16) (v := .ref h_o_theTape) rfl dX6_again_12 ?_
    refine lv_iload_n C0.x C0.b dX6_again_15 rfl (lv_at hl 2 rfl) ?_
    obtain ⟨r4, e5, hF⟩ := ob hF
    refine go_i C0 hW [1, 2] [0, 3, 4, 5, 6, 7, 8, 9, 10, 11, 12, 13, 14, 15, 16, 17, 18, 19, 20, 21, 22, 23, 24, 25] [0, 24, 25, 1, 2, 3, 4, 5, 6, 7, 8, 9, 10, 11, 12, 13, 14, 15, 16, 17, 18, 19, 20, 21, 22, 23] (va_runV (As := [.int p2]) (rest := []) C0.fix (c_X1_hasRoomFor l g h_o_theTape h_o_theTape_row o_theTape_row_c e5 _) (cwV 1 C0.ts (gw_V wl_132 wl_133 wl_134 wl_15 wl_135) rfl rfl rfl (by decide +kernel) ⟨Nat.le_of_ble_eq_true rfl, Nat.le_of_ble_eq_true rfl⟩) (pcv_of C0 hW [1, 2] rfl (by decide) (q0 := 1) rfl rfl) rfl rfl hl.1 rfl (lv_room (Nat.le_of_ble_eq_true rfl)) dX6_again_16 ⟨Nat.le_of_ble_eq_true rfl, Nat.le_of_ble_eq_true rfl⟩) rfl rfl (by decide) (by decide) (ws' := (wF_SnapHouse g h_o h_o_theTape h_o_theTape_row h_o_theOut h_o_theOut_row h_o_presser h_o_presser_block h_o_presser_block_row h_o_presser_slots h_o_streamMaker h_o_streamMaker_made h_o_streamMaker_made_row h_o_blockOpener h_o_blockOpener_given h_o_blockOpener_given_row h_o_blockOpener_elements h_o_blockOpener_elements_cells h_o_streamOpener h_o_streamOpener_given h_o_streamOpener_given_row h_o_streamOpener_chunks h_o_streamOpener_chunks_cells h_o_keptElements h_o_keptElements_cells h_o_keptChunks h_o_keptChunks_cells o_faultNumber o_faultPlace o_faultOfBlock o_faultPlaceInBlock o_theTape_count o_theTape_row_n o_theTape_row_c o_theOut_count o_theOut_row_n o_theOut_row_c o_presser_slotMask o_presser_block_count o_presser_block_row_n o_presser_block_row_c o_presser_slots_n o_presser_slots_c o_streamMaker_made_count o_streamMaker_made_row_n o_streamMaker_made_row_c o_blockOpener_fault o_blockOpener_place o_blockOpener_start o_blockOpener_end o_blockOpener_next o_blockOpener_length o_blockOpener_sort o_blockOpener_body o_blockOpener_size o_blockOpener_back o_blockOpener_given_count o_blockOpener_given_row_n o_blockOpener_given_row_c o_blockOpener_elements_count o_blockOpener_elements_marked o_blockOpener_elements_cells_n o_blockOpener_elements_cells_c o_streamOpener_fault o_streamOpener_place o_streamOpener_next o_streamOpener_type o_streamOpener_body o_streamOpener_size o_streamOpener_given_count o_streamOpener_given_row_n o_streamOpener_given_row_c o_streamOpener_chunks_count o_streamOpener_chunks_marked o_streamOpener_chunks_cells_n o_streamOpener_chunks_cells_c o_keptElements_count o_keptElements_marked o_keptElements_cells_n o_keptElements_cells_c o_keptChunks_count o_keptChunks_marked o_keptChunks_cells_n o_keptChunks_cells_c)) rfl (by decide) (fun H locs hW => ?_)
    refine lv_if_ne (tgt := 24) C0.x C0.b dX6_again_19 (by decide) (fun c6 => ?_) (fun c6 => ?_)
    · have hF := it_f hF c6
      refine lv_aload_n C0.x C0.b dX6_again_24 rfl (lv_at hl 0 rfl) ?_
      refine x_get C0 hW iw_X6 0 rfl rfl 0 (by decide) (List.mem_cons_of_mem _ wl_16) (v := .ref h_o_theTape) rfl dX6_again_25 ?_
      refine lv_iload_n C0.x C0.b dX6_again_28 rfl (lv_at hl 1 rfl) ?_
      refine lv_iload_n C0.x C0.b dX6_again_29 rfl (lv_at hl 2 rfl) ?_
      obtain ⟨r7, e8, hF⟩ := ob hF
      refine go_v C0 hW [1, 2] [0, 3, 4, 5, 6, 7, 8, 9, 10, 11, 12, 13, 14, 15, 16, 17, 18, 19, 20, 21, 22, 23, 24, 25] [0, 24, 25, 1, 2, 3, 4, 5, 6, 7, 8, 9, 10, 11, 12, 13, 14, 15, 16, 17, 18, 19, 20, 21, 22, 23] (va_runV (As := [.int p1, .int p2]) (rest := []) C0.fix (c_X1_putOwn l g h_o_theTape h_o_theTape_row e8 _) (cwV 2 C0.ts (gw_V wl_174 wl_175 wl_176 wl_15 wl_177) rfl rfl rfl (by decide +kernel) ⟨Nat.le_of_ble_eq_true rfl, Nat.le_of_ble_eq_true rfl⟩) (pcv_of C0 hW [1, 2] rfl (by decide) (q0 := 1) rfl rfl) rfl rfl hl.1 rfl (lv_room (Nat.le_of_ble_eq_true rfl)) dX6_again_30 ⟨Nat.le_of_ble_eq_true rfl, Nat.le_of_ble_eq_true rfl⟩) rfl rfl (by decide) (by decide) (ws' := (wF_SnapHouse g h_o h_o_theTape h_o_theTape_row h_o_theOut h_o_theOut_row h_o_presser h_o_presser_block h_o_presser_block_row h_o_presser_slots h_o_streamMaker h_o_streamMaker_made h_o_streamMaker_made_row h_o_blockOpener h_o_blockOpener_given h_o_blockOpener_given_row h_o_blockOpener_elements h_o_blockOpener_elements_cells h_o_streamOpener h_o_streamOpener_given h_o_streamOpener_given_row h_o_streamOpener_chunks h_o_streamOpener_chunks_cells h_o_keptElements h_o_keptElements_cells h_o_keptChunks h_o_keptChunks_cells o_faultNumber o_faultPlace o_faultOfBlock o_faultPlaceInBlock r7.1 o_theTape_row_n r7.2 o_theOut_count o_theOut_row_n o_theOut_row_c o_presser_slotMask o_presser_block_count o_presser_block_row_n o_presser_block_row_c o_presser_slots_n o_presser_slots_c o_streamMaker_made_count o_streamMaker_made_row_n o_streamMaker_made_row_c o_blockOpener_fault o_blockOpener_place o_blockOpener_start o_blockOpener_end o_blockOpener_next o_blockOpener_length o_blockOpener_sort o_blockOpener_body o_blockOpener_size o_blockOpener_back o_blockOpener_given_count o_blockOpener_given_row_n o_blockOpener_given_row_c o_blockOpener_elements_count o_blockOpener_elements_marked o_blockOpener_elements_cells_n o_blockOpener_elements_cells_c o_streamOpener_fault o_streamOpener_place o_streamOpener_next o_streamOpener_type o_streamOpener_body o_streamOpener_size o_streamOpener_given_count o_streamOpener_given_row_n o_streamOpener_given_row_c o_streamOpener_chunks_count o_streamOpener_chunks_marked o_streamOpener_chunks_cells_n o_streamOpener_chunks_cells_c o_keptElements_count o_keptElements_marked o_keptElements_cells_n o_keptElements_cells_c o_keptChunks_count o_keptChunks_marked o_keptChunks_cells_n o_keptChunks_cells_c)) rfl (by decide) (fun H locs hW => ?_)
      refine lv_aload_n C0.x C0.b dX6_again_33 rfl (lv_at hl 0 rfl) ?_
      refine x_get C0 hW iw_X6 0 rfl rfl 0 (by decide) (List.mem_cons_of_mem _ wl_16) (v := .ref h_o_theTape) rfl dX6_again_34 ?_
      refine x_getN C0 hW iw_X1 1 rfl rfl 1 (by decide) (List.mem_of_getElem? (i := 0) rfl) (v := .int r7.1) rfl dX6_again_37 ?_
      obtain rfl := Option.some.inj hF
      exact x_iret C0 hW rfl rfl dX6_again_40
    · have hF := it_t hF c6
      refine lv_iconst (v := (-1 : Int32)) C0.x C0.b dX6_again_22 (by decide) ?_
      obtain rfl := Option.some.inj hF
      exact x_iret C0 hW rfl rfl dX6_again_23

abbrev rm_X1_has : Room := { frames := 0, cells := 0, slots := 0, locals := 0 }

set_option maxHeartbeats 4000000 in
set_option maxRecDepth 100000 in
/-- SnapHouse$Bytes.has(II)Z -/
theorem c_X1_has (l : Launch) (g : GX) (h_o h_o_row : Nat) {K : Nat} (o_row_n : Nat) (o_row_c : Nat → Int32) {o_count : Int32} {p1 : Int32} {p2 : Int32} {o : Int32} (hF : f_X1_has K o_count p1 p2 = some o) : mcI g l yX1_has wA_X1_has rm_X1_has [.ref h_o, .int p1, .int p2] (wF_Bytes g h_o h_o_row o_count o_row_n o_row_c) o (wF_Bytes g h_o h_o_row o_count o_row_n o_row_c) 0 0 := by
  refine x_start (cc := cX1_has) (maxL := 3) (ret := (some .boolean)) (by decide) rfl (Nat.le_of_ble_eq_true rfl) ?_
  intro p e s m below meth c ls C0 hW hl
  have hl : lv_has ls 3 [(0, .ref h_o), (1, .int p1), (2, .int p2)] := hl
  unfold f_X1_has at hF
  refine lv_iload_n C0.x C0.b dX1_has_0 rfl (lv_at hl 1 rfl) ?_
  refine lv_if_lt (tgt := 22) C0.x C0.b dX1_has_1 (by decide) (fun c1 => ?_) (fun c1 => ?_)
  · have hF := it_t hF c1
    refine lv_iconst (v := (0 : Int32)) C0.x C0.b dX1_has_22 (by decide) ?_
    obtain rfl := Option.some.inj hF
    exact x_iret C0 hW (by decide) rfl dX1_has_23
  · have hF := it_f hF c1
    refine lv_iload_n C0.x C0.b dX1_has_4 rfl (lv_at hl 2 rfl) ?_
    refine lv_if_lt (tgt := 22) C0.x C0.b dX1_has_5 (by decide) (fun c2 => ?_) (fun c2 => ?_)
    · have hF := it_t hF c2
      refine lv_iconst (v := (0 : Int32)) C0.x C0.b dX1_has_22 (by decide) ?_
      obtain rfl := Option.some.inj hF
      exact x_iret C0 hW (by decide) rfl dX1_has_23
    · have hF := it_f hF c2
      refine lv_iload_n C0.x C0.b dX1_has_8 rfl (lv_at hl 1 rfl) ?_
      refine lv_aload_n C0.x C0.b dX1_has_9 rfl (lv_at hl 0 rfl) ?_
      refine x_get C0 hW iw_X1 0 rfl rfl 1 (by decide) (List.mem_cons_of_mem _ wl_47) (v := .int o_count) rfl dX1_has_10 ?_
      refine lv_iload_n C0.x C0.b dX1_has_13 rfl (lv_at hl 2 rfl) ?_
      refine lv_isub C0.x C0.b dX1_has_14 ?_
      refine lv_icmp_gt (tgt := 22) C0.x C0.b dX1_has_15 (by decide) (fun c3 => ?_) (fun c3 => ?_)
      · have hF := it_t hF c3
        refine lv_iconst (v := (0 : Int32)) C0.x C0.b dX1_has_22 (by decide) ?_
        obtain rfl := Option.some.inj hF
        exact x_iret C0 hW (by decide) rfl dX1_has_23
      · have hF := it_f hF c3
        refine lv_iconst (v := (1 : Int32)) C0.x C0.b dX1_has_18 (by decide) ?_
        refine lv_goto (tgt := 23) C0.x C0.b dX1_has_19 (by decide) ?_
        obtain rfl := Option.some.inj hF
        exact x_iret C0 hW (by decide) rfl dX1_has_23

