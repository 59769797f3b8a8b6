abbrev rm_X7_open : Room := { frames := 3, cells := 0, slots := 0, locals := 86 }

set_option maxHeartbeats 4000000 in
set_option maxRecDepth 100000 in
theorem w_X7_open_b73 (l : Launch) (g : GX) (h_o h_o_tape h_o_out h_o_made h_o_packed h_o_latest h_o_ahead h_o_notes h_o_elements h_o_chunks h_o_sums h_o_found h_o_before : Nat) {K : Nat} {o_taped : Int32} {o_tape_n : Nat} {o_tape_c : Nat → Int32} {o_out_n : Nat} {o_made_n : Nat} {o_notes_n : Nat} {o_elements_n : Nat} {o_packs : Int32} {o_chunkMany : Int32} {o_skippedMany : Int32} {o_foundMany : Int32} {o_skips : Int32} {o_isFull : Int32} {o_packed_n : Nat} {o_packed_c : Nat → Int32} {o_latest_n : Nat} {o_latest_c : Nat → Int32} {o_ahead_n : Nat} {o_ahead_c : Nat → Int32} {o_chunks_n : Nat} {o_chunks_c : Nat → Int32} {o_sums_n : Nat} {o_sums_c : Nat → Int32} {o_found_n : Nat} {o_found_c : Nat → Int32} {o_before_n : Nat} {o_before_c : Nat → Int32} {o : Int32 × Int32 × Int32 × Int32 × Int32 × Int32 × Int32 × Int32 × Int32 × Int32 × Int32 × Int32 × Int32 × Int32 × Int32 × (Nat → Int32) × (Nat → Int32) × (Nat → Int32) × (Nat → Int32)} {wc : va_W} {p : Program} {e : Env} {s : State} {m : MethodId} {args : Array Value} {below : List Frame} {meth : Method} {c : Code} (C0 : bx g p s m meth c args cX7_open 2 (some .int) yX7_open wA_X7_open (va_A wc s.heap.size)) :
    ∀ (n : Nat) (o_outs : Int32) (o_mades : Int32) (o_thrown : Int32) (o_blockFault : Int32) (o_blockPlace : Int32) (o_opened : Int32) (o_literals : Int32) (o_wanted : Int32) (o_elementMany : Int32) (o_literalMany : Int32) (o_faultNumber : Int32) (o_faultPlace : Int32) (o_faultInner : Int32) (o_faultInnerPlace : Int32) (o_out_c : Nat → Int32) (o_made_c : Nat → Int32) (o_notes_c : Nat → Int32) (o_elements_c : Nat → Int32) (x1 : Int32), f_X7_open_b73 K o_taped o_tape_n o_tape_c o_out_n o_made_n o_notes_n o_elements_n n o_outs o_mades o_thrown o_blockFault o_blockPlace o_opened o_literals o_wanted o_elementMany o_literalMany o_faultNumber o_faultPlace o_faultInner o_faultInnerPlace o_out_c o_made_c o_notes_c o_elements_c x1 = some o → ∀ (H : Heap) (locs : List Loc) (ls : Array Slot), ww g (va_A wc s.heap.size) s (wF_SnapHouseModel g h_o h_o_tape h_o_out h_o_made h_o_packed h_o_latest h_o_ahead h_o_notes h_o_elements h_o_chunks h_o_sums h_o_found h_o_before o_taped o_outs o_mades o_packs o_thrown o_blockFault o_blockPlace o_opened o_literals o_wanted o_elementMany o_literalMany o_chunkMany o_skippedMany o_faultNumber o_faultPlace o_faultInner o_faultInnerPlace o_foundMany o_skips o_isFull o_tape_n o_tape_c o_out_n o_out_c o_made_n o_made_c o_packed_n o_packed_c o_latest_n o_latest_c o_ahead_n o_ahead_c o_notes_n o_notes_c o_elements_n o_elements_c o_chunks_n o_chunks_c o_sums_n o_sums_c o_found_n o_found_c o_before_n o_before_c) H locs → lv_has ls 2 [(0, .ref h_o), (1, .int x1)] → W p l e rm_X7_open s m args below meth c H locs 0 0 (MQ below (qcI g wc s.heap.size o.1 (wF_SnapHouseModel g h_o h_o_tape h_o_out h_o_made h_o_packed h_o_latest h_o_ahead h_o_notes h_o_elements h_o_chunks h_o_sums h_o_found h_o_before o_taped o.2.1 o.2.2.1 o_packs o.2.2.2.1 o.2.2.2.2.1 o.2.2.2.2.2.1 o.2.2.2.2.2.2.1 o.2.2.2.2.2.2.2.1 o.2.2.2.2.2.2.2.2.1 o.2.2.2.2.2.2.2.2.2.1 o.2.2.2.2.2.2.2.2.2.2.1 o_chunkMany o_skippedMany o.2.2.2.2.2.2.2.2.2.2.2.1 o.2.2.2.2.2.2.2.2.2.2.2.2.1 o.2.2.2.2.2.2.2.2.2.2.2.2.2.1 o.2.2.2.2.2.2.2.2.2.2.2.2.2.2.1 o_foundMany o_skips o_isFull o_tape_n o_tape_c o_out_n o.2.2.2.2.2.2.2.2.2.2.2.2.2.2.2.1 o_made_n o.2.2.2.2.2.2.2.2.2.2.2.2.2.2.2.2.1 o_packed_n o_packed_c o_latest_n o_latest_c o_ahead_n o_ahead_c o_notes_n o.2.2.2.2.2.2.2.2.2.2.2.2.2.2.2.2.2.1 o_elements_n o.2.2.2.2.2.2.2.2.2.2.2.2.2.2.2.2.2.2 o_chunks_n o_chunks_c o_sums_n o_sums_c o_found_n o_found_c o_before_n o_before_c)) args s 0 0 (va_A wc s.heap.size)) (F0 m 73 ls []) := by
  intro n
  induction n with
  | zero => intro o_outs o_mades o_thrown o_blockFault o_blockPlace o_opened o_literals o_wanted o_elementMany o_literalMany o_faultNumber o_faultPlace o_faultInner o_faultInnerPlace o_out_c o_made_c o_notes_c o_elements_c x1 hF; cases (show (none : Option (Int32 × Int32 × Int32 × Int32 × Int32 × Int32 × Int32 × Int32 × Int32 × Int32 × Int32 × Int32 × Int32 × Int32 × Int32 × (Nat → Int32) × (Nat → Int32) × (Nat → Int32) × (Nat → Int32))) = some o from hF)
  | succ n ih =>
    intro o_outs o_mades o_thrown o_blockFault o_blockPlace o_opened o_literals o_wanted o_elementMany o_literalMany o_faultNumber o_faultPlace o_faultInner o_faultInnerPlace o_out_c o_made_c o_notes_c o_elements_c x1 hF H locs ls hW hl
    rw [f_X7_open_b73] at hF
    refine lv_iload_n C0.x C0.b dX7_open_73 rfl (lv_at hl 1 rfl) ?_
    refine lv_iconst (v := (5 : Int32)) C0.x C0.b dX7_open_74 (by decide) ?_
    refine lv_aload_n C0.x C0.b dX7_open_75 rfl (lv_at hl 0 rfl) ?_
    refine x_get C0 hW iw_X7 0 rfl rfl 13 (by decide) (List.mem_cons_of_mem _ wl_412) (v := .int o_opened) rfl dX7_open_76 ?_
    refine lv_imul C0.x C0.b dX7_open_79 ?_
    refine lv_icmp_ge (tgt := 108) C0.x C0.b dX7_open_80 (by decide) (fun c1 => ?_) (fun c1 => ?_)
    · have hF := it_t hF c1
      refine lv_aload_n C0.x C0.b dX7_open_108 rfl (lv_at hl 0 rfl) ?_
      refine x_get C0 hW iw_X7 0 rfl rfl 5 (by decide) (List.mem_cons_of_mem _ wl_237) (v := .int o_outs) rfl dX7_open_109 ?_
      obtain rfl := Option.some.inj hF
      exact x_iret C0 hW rfl rfl dX7_open_112
    · have hF := it_f hF c1
      refine lv_iload_n C0.x C0.b dX7_open_83 rfl (lv_at hl 1 rfl) ?_
      refine lv_sipush (v := (5000 : Int32)) C0.x C0.b dX7_open_84 (by decide) ?_
      refine lv_icmp_ge (tgt := 108) C0.x C0.b dX7_open_87 (by decide) (fun c2 => ?_) (fun c2 => ?_)
      · have hF := it_t hF c2
        refine lv_aload_n C0.x C0.b dX7_open_108 rfl (lv_at hl 0 rfl) ?_
        refine x_get C0 hW iw_X7 0 rfl rfl 5 (by decide) (List.mem_cons_of_mem _ wl_237) (v := .int o_outs) rfl dX7_open_109 ?_
        obtain rfl := Option.some.inj hF
        exact x_iret C0 hW rfl rfl dX7_open_112
      · have hF := it_f hF c2
        refine lv_aload_n C0.x C0.b dX7_open_90 rfl (lv_at hl 0 rfl) ?_
        refine x_get C0 hW iw_X7 0 rfl rfl 17 (by decide) (List.mem_cons_of_mem _ wl_119) (v := .ref h_o_elements) rfl dX7_open_91 ?_
        refine lv_iload_n C0.x C0.b dX7_open_94 rfl (lv_at hl 1 rfl) ?_
        refine lv_aload_n C0.x C0.b dX7_open_95 rfl (lv_at hl 0 rfl) ?_
        refine x_get C0 hW iw_X7 0 rfl rfl 15 (by decide) (List.mem_cons_of_mem _ wl_118) (v := .ref h_o_notes) rfl dX7_open_96 ?_
        refine lv_iload_n C0.x C0.b dX7_open_99 rfl (lv_at hl 1 rfl) ?_
        obtain ⟨h3, hF⟩ := ck_some hF
        refine x_iald C0 hW 7 0 rfl rfl h3 dX7_open_100 ?_
        obtain ⟨h4, hF⟩ := ck_some hF
        refine x_iast C0 hW 8 0 rfl rfl h4 dX7_open_101 (ws' := (wF_SnapHouseModel g h_o h_o_tape h_o_out h_o_made h_o_packed h_o_latest h_o_ahead h_o_notes h_o_elements h_o_chunks h_o_sums h_o_found h_o_before o_taped o_outs o_mades o_packs o_thrown o_blockFault o_blockPlace o_opened o_literals o_wanted o_elementMany o_literalMany o_chunkMany o_skippedMany o_faultNumber o_faultPlace o_faultInner o_faultInnerPlace o_foundMany o_skips o_isFull o_tape_n o_tape_c o_out_n o_out_c o_made_n o_made_c o_packed_n o_packed_c o_latest_n o_latest_c o_ahead_n o_ahead_c o_notes_n o_notes_c o_elements_n (upd o_elements_c x1.toNatClampNeg (o_notes_c x1.toNatClampNeg)) o_chunks_n o_chunks_c o_sums_n o_sums_c o_found_n o_found_c o_before_n o_before_c)) rfl (fun H locs hW => ?_)
        refine lv_iinc (v := (x1 + (1 : Int32))) (lv' := [(1, .int (x1 + (1 : Int32))), (0, .ref h_o)]) C0.x C0.b dX7_open_102 hl (k := 1) rfl rfl (by decide) rfl (fun ls hl => ?_)
        refine lv_goto (tgt := 73) C0.x C0.b dX7_open_105 (by decide) ?_
        exact ih o_outs o_mades o_thrown o_blockFault o_blockPlace o_opened o_literals o_wanted o_elementMany o_literalMany o_faultNumber o_faultPlace o_faultInner o_faultInnerPlace o_out_c o_made_c o_notes_c (upd o_elements_c x1.toNatClampNeg (o_notes_c x1.toNatClampNeg)) (x1 + (1 : Int32)) hF _ _ _ hW (lv_sub hl [1, 0] rfl)

set_option maxHeartbeats 4000000 in
set_option maxRecDepth 100000 in
/-- SnapHouseModel.open()I -/
theorem c_X7_open (l : Launch) (g : GX) (h_o h_o_tape h_o_out h_o_made h_o_packed h_o_latest h_o_ahead h_o_notes h_o_elements h_o_chunks h_o_sums h_o_found h_o_before : Nat) {K : Nat} (o_packs : Int32) (o_chunkMany : Int32) (o_skippedMany : Int32) (o_foundMany : Int32) (o_skips : Int32) (o_isFull : Int32) (o_packed_n : Nat) (o_packed_c : Nat → Int32) (o_latest_n : Nat) (o_latest_c : Nat → Int32) (o_ahead_n : Nat) (o_ahead_c : Nat → Int32) (o_chunks_n : Nat) (o_chunks_c : Nat → Int32) (o_sums_n : Nat) (o_sums_c : Nat → Int32) (o_found_n : Nat) (o_found_c : Nat → Int32) (o_before_n : Nat) (o_before_c : Nat → Int32) {o_taped : Int32} {o_outs : Int32} {o_mades : Int32} {o_thrown : Int32} {o_blockFault : Int32} {o_blockPlace : Int32} {o_opened : Int32} {o_literals : Int32} {o_wanted : Int32} {o_elementMany : Int32} {o_literalMany : Int32} {o_faultNumber : Int32} {o_faultPlace : Int32} {o_faultInner : Int32} {o_faultInnerPlace : Int32} {o_tape_n : Nat} {o_tape_c : Nat → Int32} {o_out_n : Nat} {o_out_c : Nat → Int32} {o_made_n : Nat} {o_made_c : Nat → Int32} {o_notes_n : Nat} {o_notes_c : Nat → Int32} {o_elements_n : Nat} {o_elements_c : Nat → Int32} {o : Int32 × Int32 × Int32 × Int32 × Int32 × Int32 × Int32 × Int32 × Int32 × Int32 × Int32 × Int32 × Int32 × Int32 × Int32 × (Nat → Int32) × (Nat → Int32) × (Nat → Int32) × (Nat → Int32)} (hF : f_X7_open K o_taped o_outs o_mades o_thrown o_blockFault o_blockPlace o_opened o_literals o_wanted o_elementMany o_literalMany o_faultNumber o_faultPlace o_faultInner o_faultInnerPlace o_tape_n o_tape_c o_out_n o_out_c o_made_n o_made_c o_notes_n o_notes_c o_elements_n o_elements_c = some o) : mcI g l yX7_open wA_X7_open rm_X7_open [.ref h_o] (wF_SnapHouseModel g h_o h_o_tape h_o_out h_o_made h_o_packed h_o_latest h_o_ahead h_o_notes h_o_elements h_o_chunks h_o_sums h_o_found h_o_before o_taped o_outs o_mades o_packs o_thrown o_blockFault o_blockPlace o_opened o_literals o_wanted o_elementMany o_literalMany o_chunkMany o_skippedMany o_faultNumber o_faultPlace o_faultInner o_faultInnerPlace o_foundMany o_skips o_isFull o_tape_n o_tape_c o_out_n o_out_c o_made_n o_made_c o_packed_n o_packed_c o_latest_n o_latest_c o_ahead_n o_ahead_c o_notes_n o_notes_c o_elements_n o_elements_c o_chunks_n o_chunks_c o_sums_n o_sums_c o_found_n o_found_c o_before_n o_before_c) o.1 (wF_SnapHouseModel g h_o h_o_tape h_o_out h_o_made h_o_packed h_o_latest h_o_ahead h_o_notes h_o_elements h_o_chunks h_o_sums h_o_found h_o_before o_taped o.2.1 o.2.2.1 o_packs o.2.2.2.1 o.2.2.2.2.1 o.2.2.2.2.2.1 o.2.2.2.2.2.2.1 o.2.2.2.2.2.2.2.1 o.2.2.2.2.2.2.2.2.1 o.2.2.2.2.2.2.2.2.2.1 o.2.2.2.2.2.2.2.2.2.2.1 o_chunkMany o_skippedMany o.2.2.2.2.2.2.2.2.2.2.2.1 o.2.2.2.2.2.2.2.2.2.2.2.2.1 o.2.2.2.2.2.2.2.2.2.2.2.2.2.1 o.2.2.2.2.2.2.2.2.2.2.2.2.2.2.1 o_foundMany o_skips o_isFull o_tape_n o_tape_c o_out_n o.2.2.2.2.2.2.2.2.2.2.2.2.2.2.2.1 o_made_n o.2.2.2.2.2.2.2.2.2.2.2.2.2.2.2.2.1 o_packed_n o_packed_c o_latest_n o_latest_c o_ahead_n o_ahead_c o_notes_n o.2.2.2.2.2.2.2.2.2.2.2.2.2.2.2.2.2.1 o_elements_n o.2.2.2.2.2.2.2.2.2.2.2.2.2.2.2.2.2.2 o_chunks_n o_chunks_c o_sums_n o_sums_c o_found_n o_found_c o_before_n o_before_c) 0 0 := by
  refine x_start (cc := cX7_open) (maxL := 2) (ret := (some .int)) (by decide) rfl (Nat.le_of_ble_eq_true rfl) ?_
  intro p e s m below meth c ls C0 hW hl
  have hl : lv_has ls 2 [(0, .ref h_o)] := hl
  unfold f_X7_open at hF
  refine lv_aload_n C0.x C0.b dX7_open_0 rfl (lv_at hl 0 rfl) ?_
  refine lv_iconst (v := (0 : Int32)) C0.x C0.b dX7_open_1 (by decide) ?_
  refine x_put C0 hW iw_X7 tyX7 tyX7_ok nmX7 0 rfl rfl 8 (by decide) (List.mem_cons_of_mem _ wl_148) rfl (ty := .int) (v := .int (0 : Int32)) (by decide +kernel) rfl rfl (Nat.le_of_ble_eq_true rfl) dX7_open_2 (ws' := (wF_SnapHouseModel g h_o h_o_tape h_o_out h_o_made h_o_packed h_o_latest h_o_ahead h_o_notes h_o_elements h_o_chunks h_o_sums h_o_found h_o_before o_taped o_outs o_mades o_packs (0 : Int32) o_blockFault o_blockPlace o_opened o_literals o_wanted o_elementMany o_literalMany o_chunkMany o_skippedMany o_faultNumber o_faultPlace o_faultInner o_faultInnerPlace o_foundMany o_skips o_isFull o_tape_n o_tape_c o_out_n o_out_c o_made_n o_made_c o_packed_n o_packed_c o_latest_n o_latest_c o_ahead_n o_ahead_c o_notes_n o_notes_c o_elements_n o_elements_c o_chunks_n o_chunks_c o_sums_n o_sums_c o_found_n o_found_c o_before_n o_before_c)) rfl (fun H locs hW => ?_)
  refine lv_aload_n C0.x C0.b dX7_open_5 rfl (lv_at hl 0 rfl) ?_
  refine lv_iconst (v := (0 : Int32)) C0.x C0.b dX7_open_6 (by decide) ?_
  refine x_put C0 hW iw_X7 tyX7 tyX7_ok nmX7 0 rfl rfl 6 (by decide) (List.mem_cons_of_mem _ wl_409) rfl (ty := .int) (v := .int (0 : Int32)) (by decide +kernel) rfl rfl (Nat.le_of_ble_eq_true rfl) dX7_open_7 (ws' := (wF_SnapHouseModel g h_o h_o_tape h_o_out h_o_made h_o_packed h_o_latest h_o_ahead h_o_notes h_o_elements h_o_chunks h_o_sums h_o_found h_o_before o_taped o_outs (0 : Int32) o_packs (0 : Int32) o_blockFault o_blockPlace o_opened o_literals o_wanted o_elementMany o_literalMany o_chunkMany o_skippedMany o_faultNumber o_faultPlace o_faultInner o_faultInnerPlace o_foundMany o_skips o_isFull o_tape_n o_tape_c o_out_n o_out_c o_made_n o_made_c o_packed_n o_packed_c o_latest_n o_latest_c o_ahead_n o_ahead_c o_notes_n o_notes_c o_elements_n o_elements_c o_chunks_n o_chunks_c o_sums_n o_sums_c o_found_n o_found_c o_before_n o_before_c)) rfl (fun H locs hW => ?_)
  refine lv_aload_n C0.x C0.b dX7_open_10 rfl (lv_at hl 0 rfl) ?_
  refine lv_iconst (v := (0 : Int32)) C0.x C0.b dX7_open_11 (by decide) ?_
  refine lv_aload_n C0.x C0.b dX7_open_12 rfl (lv_at hl 0 rfl) ?_
  refine x_get C0 hW iw_X7 0 rfl rfl 4 (by decide) (List.mem_cons_of_mem _ wl_149) (v := .int o_taped) rfl dX7_open_13 ?_
  obtain ⟨r1, e2, hF⟩ := ob hF
  refine go_v C0 hW [0, 1, 2, 3, 4, 5, 6, 7, 8, 9, 10, 11, 12] [] [0, 1, 2, 3, 4, 5, 6, 7, 8, 9, 10, 11, 12] (va_runV (As := [.int (0 : Int32), .int o_taped]) (rest := []) C0.fix (c_X7_openPart l g h_o h_o_tape h_o_out h_o_made h_o_packed h_o_latest h_o_ahead h_o_notes h_o_elements h_o_chunks h_o_sums h_o_found h_o_before o_taped o_outs o_packs (0 : Int32) o_elementMany o_literalMany o_chunkMany o_skippedMany o_faultNumber o_faultPlace o_faultInner o_faultInnerPlace o_foundMany o_skips o_isFull o_out_n o_out_c o_packed_n o_packed_c o_latest_n o_latest_c o_ahead_n o_ahead_c o_elements_n o_elements_c o_chunks_n o_chunks_c o_sums_n o_sums_c o_found_n o_found_c o_before_n o_before_c e2 _) (cwV 2 C0.ts (gw_V wl_416 wl_417 wl_418 wl_5 wl_419) rfl rfl rfl (by decide +kernel) ⟨Nat.le_of_ble_eq_true rfl, Nat.le_of_ble_eq_true rfl⟩) (pcv_of C0 hW [0, 1, 2, 3, 4, 5, 6, 7, 8, 9, 10, 11, 12] rfl (by decide) (q0 := 0) rfl rfl) rfl rfl hl.1 rfl (lv_room (Nat.le_of_ble_eq_true rfl)) dX7_open_16 ⟨Nat.le_of_ble_eq_true rfl, Nat.le_of_ble_eq_true rfl⟩) rfl rfl (by decide) (by decide) (ws' := (wF_SnapHouseModel g h_o h_o_tape h_o_out h_o_made h_o_packed h_o_latest h_o_ahead h_o_notes h_o_elements h_o_chunks h_o_sums h_o_found h_o_before o_taped o_outs r1.1 o_packs (0 : Int32) r1.2.1 r1.2.2.1 r1.2.2.2.1 r1.2.2.2.2.1 r1.2.2.2.2.2.1 o_elementMany o_literalMany o_chunkMany o_skippedMany o_faultNumber o_faultPlace o_faultInner o_faultInnerPlace o_foundMany o_skips o_isFull o_tape_n o_tape_c o_out_n o_out_c o_made_n r1.2.2.2.2.2.2.1 o_packed_n o_packed_c o_latest_n o_latest_c o_ahead_n o_ahead_c o_notes_n r1.2.2.2.2.2.2.2 o_elements_n o_elements_c o_chunks_n o_chunks_c o_sums_n o_sums_c o_found_n o_found_c o_before_n o_before_c)) rfl (by decide) (fun H locs hW => ?_)
  refine lv_aload_n C0.x C0.b dX7_open_19 rfl (lv_at hl 0 rfl) ?_
  refine lv_aload_n C0.x C0.b dX7_open_20 rfl (lv_at hl 0 rfl) ?_
  refine x_get C0 hW iw_X7 0 rfl rfl 11 (by decide) (List.mem_cons_of_mem _ wl_410) (v := .int r1.2.1) rfl dX7_open_21 ?_
  refine lv_aload_n C0.x C0.b dX7_open_24 rfl (lv_at hl 0 rfl) ?_
  refine x_get C0 hW iw_X7 0 rfl rfl 12 (by decide) (List.mem_cons_of_mem _ wl_411) (v := .int r1.2.2.1) rfl dX7_open_25 ?_
  refine lv_iconst (v := (0 : Int32)) C0.x C0.b dX7_open_28 (by decide) ?_
  refine lv_iconst (v := (-1 : Int32)) C0.x C0.b dX7_open_29 (by decide) ?_
  obtain ⟨r3, e4, hF⟩ := ob hF
  refine go_v C0 hW [0, 1, 2, 3, 4, 5, 6, 7, 8, 9, 10, 11, 12] [] [0, 1, 2, 3, 4, 5, 6, 7, 8, 9, 10, 11, 12] (va_runV (As := [.int r1.2.1, .int r1.2.2.1, .int (0 : Int32), .int (-1 : Int32)]) (rest := []) C0.fix (c_X7_told l g h_o h_o_tape h_o_out h_o_made h_o_packed h_o_latest h_o_ahead h_o_notes h_o_elements h_o_chunks h_o_sums h_o_found h_o_before o_taped o_outs r1.1 o_packs (0 : Int32) r1.2.1 r1.2.2.1 r1.2.2.2.1 r1.2.2.2.2.1 r1.2.2.2.2.2.1 o_elementMany o_literalMany o_chunkMany o_skippedMany o_foundMany o_skips o_isFull o_tape_n o_tape_c o_out_n o_out_c o_made_n r1.2.2.2.2.2.2.1 o_packed_n o_packed_c o_latest_n o_latest_c o_ahead_n o_ahead_c o_notes_n r1.2.2.2.2.2.2.2 o_elements_n o_elements_c o_chunks_n o_chunks_c o_sums_n o_sums_c o_found_n o_found_c o_before_n o_before_c e4 _) (cwV 4 C0.ts (gw_V wl_432 wl_433 wl_434 wl_5 wl_435) rfl rfl rfl (by decide +kernel) ⟨Nat.le_of_ble_eq_true rfl, Nat.le_of_ble_eq_true rfl⟩) (pcv_of C0 hW [0, 1, 2, 3, 4, 5, 6, 7, 8, 9, 10, 11, 12] rfl (by decide) (q0 := 0) rfl rfl) rfl rfl hl.1 rfl (lv_room (Nat.le_of_ble_eq_true rfl)) dX7_open_30 ⟨Nat.le_of_ble_eq_true rfl, Nat.le_of_ble_eq_true rfl⟩) rfl rfl (by decide) (by decide) (ws' := (wF_SnapHouseModel g h_o h_o_tape h_o_out h_o_made h_o_packed h_o_latest h_o_ahead h_o_notes h_o_elements h_o_chunks h_o_sums h_o_found h_o_before o_taped o_outs r1.1 o_packs (0 : Int32) r1.2.1 r1.2.2.1 r1.2.2.2.1 r1.2.2.2.2.1 r1.2.2.2.2.2.1 o_elementMany o_literalMany o_chunkMany o_skippedMany r3.1 r3.2.1 r3.2.2.1 r3.2.2.2 o_foundMany o_skips o_isFull o_tape_n o_tape_c o_out_n o_out_c o_made_n r1.2.2.2.2.2.2.1 o_packed_n o_packed_c o_latest_n o_latest_c o_ahead_n o_ahead_c o_notes_n r1.2.2.2.2.2.2.2 o_elements_n o_elements_c o_chunks_n o_chunks_c o_sums_n o_sums_c o_found_n o_found_c o_before_n o_before_c)) rfl (by decide) (fun H locs hW => ?_)
  refine lv_aload_n C0.x C0.b dX7_open_33 rfl (lv_at hl 0 rfl) ?_
  refine x_get C0 hW iw_X7 0 rfl rfl 11 (by decide) (List.mem_cons_of_mem _ wl_410) (v := .int r1.2.1) rfl dX7_open_34 ?_
  refine lv_if_le (tgt := 43) C0.x C0.b dX7_open_37 (by decide) (fun c5 => ?_) (fun c5 => ?_)
  · have hF := it_t hF c5
    refine lv_aload_n C0.x C0.b dX7_open_43 rfl (lv_at hl 0 rfl) ?_
    refine lv_aload_n C0.x C0.b dX7_open_44 rfl (lv_at hl 0 rfl) ?_
    refine x_get C0 hW iw_X7 0 rfl rfl 2 (by decide) (List.mem_cons_of_mem _ wl_114) (v := .ref h_o_made) rfl dX7_open_45 ?_
    refine lv_aload_n C0.x C0.b dX7_open_48 rfl (lv_at hl 0 rfl) ?_
    refine x_get C0 hW iw_X7 0 rfl rfl 6 (by decide) (List.mem_cons_of_mem _ wl_409) (v := .int r1.1) rfl dX7_open_49 ?_
    obtain ⟨r6, e7, hF⟩ := ob hF
    refine go_v C0 hW [0, 1, 2, 3, 4, 5, 6, 7, 8, 9, 10, 11, 12] [] [0, 1, 2, 3, 4, 5, 6, 7, 8, 9, 10, 11, 12] (va_runV (As := [.ref h_o_made, .int r1.1]) (rest := []) C0.fix (c_X7_give_o_made l g h_o h_o_tape h_o_out h_o_made h_o_packed h_o_latest h_o_ahead h_o_notes h_o_elements h_o_chunks h_o_sums h_o_found h_o_before o_taped r1.1 o_packs (0 : Int32) r1.2.1 r1.2.2.1 r1.2.2.2.1 r1.2.2.2.2.1 r1.2.2.2.2.2.1 o_elementMany o_literalMany o_chunkMany o_skippedMany r3.1 r3.2.1 r3.2.2.1 r3.2.2.2 o_foundMany o_skips o_isFull o_tape_n o_tape_c o_packed_n o_packed_c o_latest_n o_latest_c o_ahead_n o_ahead_c o_notes_n r1.2.2.2.2.2.2.2 o_elements_n o_elements_c o_chunks_n o_chunks_c o_sums_n o_sums_c o_found_n o_found_c o_before_n o_before_c e7 _) (cwV 2 C0.ts (gw_V wl_333 wl_334 wl_335 wl_5 wl_336) rfl rfl rfl (by decide +kernel) ⟨Nat.le_of_ble_eq_true rfl, Nat.le_of_ble_eq_true rfl⟩) (pcv_of C0 hW [0, 1, 2, 3, 4, 5, 6, 7, 8, 9, 10, 11, 12] rfl (by decide) (q0 := 0) rfl rfl) rfl rfl hl.1 rfl (lv_room (Nat.le_of_ble_eq_true rfl)) dX7_open_52 ⟨Nat.le_of_ble_eq_true rfl, Nat.le_of_ble_eq_true rfl⟩) rfl rfl (by decide) (by decide) (ws' := (wF_SnapHouseModel g h_o h_o_tape h_o_out h_o_made h_o_packed h_o_latest h_o_ahead h_o_notes h_o_elements h_o_chunks h_o_sums h_o_found h_o_before o_taped r6.1 r1.1 o_packs (0 : Int32) r1.2.1 r1.2.2.1 r1.2.2.2.1 r1.2.2.2.2.1 r1.2.2.2.2.2.1 o_elementMany o_literalMany o_chunkMany o_skippedMany r3.1 r3.2.1 r3.2.2.1 r3.2.2.2 o_foundMany o_skips o_isFull o_tape_n o_tape_c o_out_n r6.2 o_made_n r1.2.2.2.2.2.2.1 o_packed_n o_packed_c o_latest_n o_latest_c o_ahead_n o_ahead_c o_notes_n r1.2.2.2.2.2.2.2 o_elements_n o_elements_c o_chunks_n o_chunks_c o_sums_n o_sums_c o_found_n o_found_c o_before_n o_before_c)) rfl (by decide) (fun H locs hW => ?_)
    refine lv_aload_n C0.x C0.b dX7_open_55 rfl (lv_at hl 0 rfl) ?_
    refine lv_aload_n C0.x C0.b dX7_open_56 rfl (lv_at hl 0 rfl) ?_
    refine x_get C0 hW iw_X7 0 rfl rfl 13 (by decide) (List.mem_cons_of_mem _ wl_412) (v := .int r1.2.2.2.1) rfl dX7_open_57 ?_
    refine x_put C0 hW iw_X7 tyX7 tyX7_ok nmX7 0 rfl rfl 19 (by decide) (List.mem_cons_of_mem _ wl_413) rfl (ty := .int) (v := .int r1.2.2.2.1) (by decide +kernel) rfl rfl (Nat.le_of_ble_eq_true rfl) dX7_open_60 (ws' := (wF_SnapHouseModel g h_o h_o_tape h_o_out h_o_made h_o_packed h_o_latest h_o_ahead h_o_notes h_o_elements h_o_chunks h_o_sums h_o_found h_o_before o_taped r6.1 r1.1 o_packs (0 : Int32) r1.2.1 r1.2.2.1 r1.2.2.2.1 r1.2.2.2.2.1 r1.2.2.2.2.2.1 r1.2.2.2.1 o_literalMany o_chunkMany o_skippedMany r3.1 r3.2.1 r3.2.2.1 r3.2.2.2 o_foundMany o_skips o_isFull o_tape_n o_tape_c o_out_n r6.2 o_made_n r1.2.2.2.2.2.2.1 o_packed_n o_packed_c o_latest_n o_latest_c o_ahead_n o_ahead_c o_notes_n r1.2.2.2.2.2.2.2 o_elements_n o_elements_c o_chunks_n o_chunks_c o_sums_n o_sums_c o_found_n o_found_c o_before_n o_before_c)) rfl (fun H locs hW => ?_)
    refine lv_aload_n C0.x C0.b dX7_open_63 rfl (lv_at hl 0 rfl) ?_
    refine lv_aload_n C0.x C0.b dX7_open_64 rfl (lv_at hl 0 rfl) ?_
    refine x_get C0 hW iw_X7 0 rfl rfl 14 (by decide) (List.mem_cons_of_mem _ wl_414) (v := .int r1.2.2.2.2.1) rfl dX7_open_65 ?_
    refine x_put C0 hW iw_X7 tyX7 tyX7_ok nmX7 0 rfl rfl 20 (by decide) (List.mem_cons_of_mem _ wl_415) rfl (ty := .int) (v := .int r1.2.2.2.2.1) (by decide +kernel) rfl rfl (Nat.le_of_ble_eq_true rfl) dX7_open_68 (ws' := (wF_SnapHouseModel g h_o h_o_tape h_o_out h_o_made h_o_packed h_o_latest h_o_ahead h_o_notes h_o_elements h_o_chunks h_o_sums h_o_found h_o_before o_taped r6.1 r1.1 o_packs (0 : Int32) r1.2.1 r1.2.2.1 r1.2.2.2.1 r1.2.2.2.2.1 r1.2.2.2.2.2.1 r1.2.2.2.1 r1.2.2.2.2.1 o_chunkMany o_skippedMany r3.1 r3.2.1 r3.2.2.1 r3.2.2.2 o_foundMany o_skips o_isFull o_tape_n o_tape_c o_out_n r6.2 o_made_n r1.2.2.2.2.2.2.1 o_packed_n o_packed_c o_latest_n o_latest_c o_ahead_n o_ahead_c o_notes_n r1.2.2.2.2.2.2.2 o_elements_n o_elements_c o_chunks_n o_chunks_c o_sums_n o_sums_c o_found_n o_found_c o_before_n o_before_c)) rfl (fun H locs hW => ?_)
    refine lv_iconst (v := (0 : Int32)) C0.x C0.b dX7_open_71 (by decide) ?_
    refine lv_istore_n (lv' := [(1, .int (0 : Int32)), (0, .ref h_o)]) C0.x C0.b dX7_open_72 rfl hl (by decide) rfl (fun ls hl => ?_)
    exact w_X7_open_b73 l g h_o h_o_tape h_o_out h_o_made h_o_packed h_o_latest h_o_ahead h_o_notes h_o_elements h_o_chunks h_o_sums h_o_found h_o_before C0 K r6.1 r1.1 (0 : Int32) r1.2.1 r1.2.2.1 r1.2.2.2.1 r1.2.2.2.2.1 r1.2.2.2.2.2.1 r1.2.2.2.1 r1.2.2.2.2.1 r3.1 r3.2.1 r3.2.2.1 r3.2.2.2 r6.2 r1.2.2.2.2.2.2.1 r1.2.2.2.2.2.2.2 o_elements_c (0 : Int32) hF _ _ _ hW (lv_sub hl [1, 0] rfl)
  · have hF := it_f hF c5
    refine lv_bipush (v := (-2 : Int32)) C0.x C0.b dX7_open_40 (by decide) ?_
    obtain rfl := Option.some.inj hF
    exact x_iret C0 hW rfl rfl dX7_open_42

abbrev rm_X7_add : Room := { frames := 0, cells := 0, slots := 0, locals := 0 }

set_option maxHeartbeats 4000000 in
set_option maxRecDepth 100000 in
/-- SnapHouseModel.add(I)V -/
theorem c_X7_add (l : Launch) (g : GX) (h_o h_o_tape h_o_out h_o_made h_o_packed h_o_latest h_o_ahead h_o_notes h_o_elements h_o_chunks h_o_sums h_o_found h_o_before : Nat) {K : Nat} (o_taped : Int32) (o_outs : Int32) (o_packs : Int32) (o_thrown : Int32) (o_blockFault : Int32) (o_blockPlace : Int32) (o_opened : Int32) (o_literals : Int32) (o_wanted : Int32) (o_elementMany : Int32) (o_literalMany : Int32) (o_chunkMany : Int32) (o_skippedMany : Int32) (o_faultNumber : Int32) (o_faultPlace : Int32) (o_faultInner : Int32) (o_faultInnerPlace : Int32) (o_foundMany : Int32) (o_skips : Int32) (o_tape_n : Nat) (o_tape_c : Nat → Int32) (o_out_n : Nat) (o_out_c : Nat → Int32) (o_packed_n : Nat) (o_packed_c : Nat → Int32) (o_latest_n : Nat) (o_latest_c : Nat → Int32) (o_ahead_n : Nat) (o_ahead_c : Nat → Int32) (o_notes_n : Nat) (o_notes_c : Nat → Int32) (o_elements_n : Nat) (o_elements_c : Nat → Int32) (o_chunks_n : Nat) (o_chunks_c : Nat → Int32) (o_sums_n : Nat) (o_sums_c : Nat → Int32) (o_found_n : Nat) (o_found_c : Nat → Int32) (o_before_n : Nat) (o_before_c : Nat → Int32) {o_mades : Int32} {o_isFull : Int32} {o_made_n : Nat} {o_made_c : Nat → Int32} {p1 : Int32} {o : Int32 × Int32 × (Nat → Int32)} (hF : f_X7_add K o_mades o_isFull o_made_n o_made_c p1 = some o) : mcV g l yX7_add wA_X7_add rm_X7_add [.ref h_o, .int p1] (wF_SnapHouseModel g h_o h_o_tape h_o_out h_o_made h_o_packed h_o_latest h_o_ahead h_o_notes h_o_elements h_o_chunks h_o_sums h_o_found h_o_before o_taped o_outs o_mades o_packs o_thrown o_blockFault o_blockPlace o_opened o_literals o_wanted o_elementMany o_literalMany o_chunkMany o_skippedMany o_faultNumber o_faultPlace o_faultInner o_faultInnerPlace o_foundMany o_skips o_isFull o_tape_n o_tape_c o_out_n o_out_c o_made_n o_made_c o_packed_n o_packed_c o_latest_n o_latest_c o_ahead_n o_ahead_c o_notes_n o_notes_c o_elements_n o_elements_c o_chunks_n o_chunks_c o_sums_n o_sums_c o_found_n o_found_c o_before_n o_before_c) (wF_SnapHouseModel g h_o h_o_tape h_o_out h_o_made h_o_packed h_o_latest h_o_ahead h_o_notes h_o_elements h_o_chunks h_o_sums h_o_found h_o_before o_taped o_outs o.1 o_packs o_thrown o_blockFault o_blockPlace o_opened o_literals o_wanted o_elementMany o_literalMany o_chunkMany o_skippedMany o_faultNumber o_faultPlace o_faultInner o_faultInnerPlace o_foundMany o_skips o.2.1 o_tape_n o_tape_c o_out_n o_out_c o_made_n o.2.2 o_packed_n o_packed_c o_latest_n o_latest_c o_ahead_n o_ahead_c o_notes_n o_notes_c o_elements_n o_elements_c o_chunks_n o_chunks_c o_sums_n o_sums_c o_found_n o_found_c o_before_n o_before_c) 0 0 := by
  refine x_start (cc := cX7_add) (maxL := 2) (ret := none) (by decide) rfl (Nat.le_of_ble_eq_true rfl) ?_
  intro p e s m below meth c ls C0 hW hl
  have hl : lv_has ls 2 [(0, .ref h_o), (1, .int p1)] := hl
  unfold f_X7_add at hF
  refine lv_aload_n C0.x C0.b dX7_add_0 rfl (lv_at hl 0 rfl) ?_
  refine x_get C0 hW iw_X7 0 rfl rfl 6 (by decide) (List.mem_cons_of_mem _ wl_409) (v := .int o_mades) rfl dX7_add_1 ?_
  refine lv_sipush (v := (24000 : Int32)) C0.x C0.b dX7_add_4 (by decide) ?_
  refine lv_icmp_ne (tgt := 16) C0.x C0.b dX7_add_7 (by decide) (fun c1 => ?_) (fun c1 => ?_)
  · have hF := it_f hF c1
    refine lv_aload_n C0.x C0.b dX7_add_16 rfl (lv_at hl 0 rfl) ?_
    refine x_get C0 hW iw_X7 0 rfl rfl 2 (by decide) (List.mem_cons_of_mem _ wl_114) (v := .ref h_o_made) rfl dX7_add_17 ?_
    refine lv_aload_n C0.x C0.b dX7_add_20 rfl (lv_at hl 0 rfl) ?_
    refine x_get C0 hW iw_X7 0 rfl rfl 6 (by decide) (List.mem_cons_of_mem _ wl_409) (v := .int o_mades) rfl dX7_add_21 ?_
    refine lv_iload_n C0.x C0.b dX7_add_24 rfl (lv_at hl 1 rfl) ?_
    refine lv_i2b (v := (p1.toInt8.toInt32)) C0.x C0.b dX7_add_25 rfl ?_
    obtain ⟨h2, hF⟩ := ck_some hF
    refine x_bast C0 hW 3 1 rfl rfl h2 dX7_add_26 (ws' := (wF_SnapHouseModel g h_o h_o_tape h_o_out h_o_made h_o_packed h_o_latest h_o_ahead h_o_notes h_o_elements h_o_chunks h_o_sums h_o_found h_o_before o_taped o_outs o_mades o_packs o_thrown o_blockFault o_blockPlace o_opened o_literals o_wanted o_elementMany o_literalMany o_chunkMany o_skippedMany o_faultNumber o_faultPlace o_faultInner o_faultInnerPlace o_foundMany o_skips o_isFull o_tape_n o_tape_c o_out_n o_out_c o_made_n (upd o_made_c o_mades.toNatClampNeg (vp_nar .byte (p1.toInt8.toInt32))) o_packed_n o_packed_c o_latest_n o_latest_c o_ahead_n o_ahead_c o_notes_n o_notes_c o_elements_n o_elements_c o_chunks_n o_chunks_c o_sums_n o_sums_c o_found_n o_found_c o_before_n o_before_c)) rfl (fun H locs hW => ?_)
    refine lv_aload_n C0.x C0.b dX7_add_27 rfl (lv_at hl 0 rfl) ?_
    refine lv_dup C0.x C0.b dX7_add_28 rfl ?_
    refine x_get C0 hW iw_X7 0 rfl rfl 6 (by decide) (List.mem_cons_of_mem _ wl_409) (v := .int o_mades) rfl dX7_add_29 ?_
    refine lv_iconst (v := (1 : Int32)) C0.x C0.b dX7_add_32 (by decide) ?_
    refine lv_iadd C0.x C0.b dX7_add_33 ?_
    refine x_put C0 hW iw_X7 tyX7 tyX7_ok nmX7 0 rfl rfl 6 (by decide) (List.mem_cons_of_mem _ wl_409) rfl (ty := .int) (v := .int (o_mades + (1 : Int32))) (by decide +kernel) rfl rfl (Nat.le_of_ble_eq_true rfl) dX7_add_34 (ws' := (wF_SnapHouseModel g h_o h_o_tape h_o_out h_o_made h_o_packed h_o_latest h_o_ahead h_o_notes h_o_elements h_o_chunks h_o_sums h_o_found h_o_before o_taped o_outs (o_mades + (1 : Int32)) o_packs o_thrown o_blockFault o_blockPlace o_opened o_literals o_wanted o_elementMany o_literalMany o_chunkMany o_skippedMany o_faultNumber o_faultPlace o_faultInner o_faultInnerPlace o_foundMany o_skips o_isFull o_tape_n o_tape_c o_out_n o_out_c o_made_n (upd o_made_c o_mades.toNatClampNeg (vp_nar .byte (p1.toInt8.toInt32))) o_packed_n o_packed_c o_latest_n o_latest_c o_ahead_n o_ahead_c o_notes_n o_notes_c o_elements_n o_elements_c o_chunks_n o_chunks_c o_sums_n o_sums_c o_found_n o_found_c o_before_n o_before_c)) rfl (fun H locs hW => ?_)
    obtain rfl := Option.some.inj hF
    exact x_vret C0 hW dX7_add_37
  · have hF := it_t hF c1
    refine lv_aload_n C0.x C0.b dX7_add_10 rfl (lv_at hl 0 rfl) ?_
    refine lv_iconst (v := (1 : Int32)) C0.x C0.b dX7_add_11 (by decide) ?_
    refine x_put C0 hW iw_X7 tyX7 tyX7_ok nmX7 0 rfl rfl 32 (by decide) (List.mem_cons_of_mem _ wl_479) rfl (ty := .boolean) (v := .int (1 : Int32)) (by decide +kernel) (by decide) (by decide) (Nat.le_of_ble_eq_true rfl) dX7_add_12 (ws' := (wF_SnapHouseModel g h_o h_o_tape h_o_out h_o_made h_o_packed h_o_latest h_o_ahead h_o_notes h_o_elements h_o_chunks h_o_sums h_o_found h_o_before o_taped o_outs o_mades o_packs o_thrown o_blockFault o_blockPlace o_opened o_literals o_wanted o_elementMany o_literalMany o_chunkMany o_skippedMany o_faultNumber o_faultPlace o_faultInner o_faultInnerPlace o_foundMany o_skips (1 : Int32) o_tape_n o_tape_c o_out_n o_out_c o_made_n o_made_c o_packed_n o_packed_c o_latest_n o_latest_c o_ahead_n o_ahead_c o_notes_n o_notes_c o_elements_n o_elements_c o_chunks_n o_chunks_c o_sums_n o_sums_c o_found_n o_found_c o_before_n o_before_c)) rfl (fun H locs hW => ?_)
    obtain rfl := Option.some.inj hF
    exact x_vret C0 hW dX7_add_15

abbrev rm_X7_name : Room := { frames := 0, cells := 0, slots := 0, locals := 0 }

set_option maxHeartbeats 4000000 in
set_option maxRecDepth 100000 in
/-- SnapHouseModel.name(I)I -/
theorem c_X7_name (l : Launch) (g : GX) (h_o h_o_tape h_o_out h_o_made h_o_packed h_o_latest h_o_ahead h_o_notes h_o_elements h_o_chunks h_o_sums h_o_found h_o_before : Nat) {K : Nat} (o_taped : Int32) (o_outs : Int32) (o_mades : Int32) (o_packs : Int32) (o_thrown : Int32) (o_blockFault : Int32) (o_blockPlace : Int32) (o_opened : Int32) (o_literals : Int32) (o_wanted : Int32) (o_elementMany : Int32) (o_literalMany : Int32) (o_chunkMany : Int32) (o_skippedMany : Int32) (o_faultNumber : Int32) (o_faultPlace : Int32) (o_faultInner : Int32) (o_faultInnerPlace : Int32) (o_foundMany : Int32) (o_skips : Int32) (o_isFull : Int32) (o_tape_n : Nat) (o_tape_c : Nat → Int32) (o_out_n : Nat) (o_out_c : Nat → Int32) (o_made_n : Nat) (o_made_c : Nat → Int32) (o_packed_n : Nat) (o_packed_c : Nat → Int32) (o_latest_n : Nat) (o_latest_c : Nat → Int32) (o_ahead_n : Nat) (o_ahead_c : Nat → Int32) (o_notes_n : Nat) (o_notes_c : Nat → Int32) (o_elements_n : Nat) (o_elements_c : Nat → Int32) (o_chunks_n : Nat) (o_chunks_c : Nat → Int32) (o_sums_n : Nat) (o_sums_c : Nat → Int32) (o_found_n : Nat) (o_found_c : Nat → Int32) (o_before_n : Nat) (o_before_c : Nat → Int32) {p1 : Int32} {o : Int32} (hF : f_X7_name K p1 = some o) : mcI g l yX7_name wA_X7_name rm_X7_name [.ref h_o, .int p1] (wF_SnapHouseModel g h_o h_o_tape h_o_out h_o_made h_o_packed h_o_latest h_o_ahead h_o_notes h_o_elements h_o_chunks h_o_sums h_o_found h_o_before o_taped o_outs o_mades o_packs o_thrown o_blockFault o_blockPlace o_opened o_literals o_wanted o_elementMany o_literalMany o_chunkMany o_skippedMany o_faultNumber o_faultPlace o_faultInner o_faultInnerPlace o_foundMany o_skips o_isFull o_tape_n o_tape_c o_out_n o_out_c o_made_n o_made_c o_packed_n o_packed_c o_latest_n o_latest_c o_ahead_n o_ahead_c o_notes_n o_notes_c o_elements_n o_elements_c o_chunks_n o_chunks_c o_sums_n o_sums_c o_found_n o_found_c o_before_n o_before_c) o (wF_SnapHouseModel g h_o h_o_tape h_o_out h_o_made h_o_packed h_o_latest h_o_ahead h_o_notes h_o_elements h_o_chunks h_o_sums h_o_found h_o_before o_taped o_outs o_mades o_packs o_thrown o_blockFault o_blockPlace o_opened o_literals o_wanted o_elementMany o_literalMany o_chunkMany o_skippedMany o_faultNumber o_faultPlace o_faultInner o_faultInnerPlace o_foundMany o_skips o_isFull o_tape_n o_tape_c o_out_n o_out_c o_made_n o_made_c o_packed_n o_packed_c o_latest_n o_latest_c o_ahead_n o_ahead_c o_notes_n o_notes_c o_elements_n o_elements_c o_chunks_n o_chunks_c o_sums_n o_sums_c o_found_n o_found_c o_before_n o_before_c) 0 0 := by
  refine x_start (cc := cX7_name) (maxL := 2) (ret := (some .int)) (by decide) rfl (Nat.le_of_ble_eq_true rfl) ?_
  intro p e s m below meth c ls C0 hW hl
  have hl : lv_has ls 2 [(0, .ref h_o), (1, .int p1)] := hl
  unfold f_X7_name at hF
  refine lv_iload_n C0.x C0.b dX7_name_0 rfl (lv_at hl 1 rfl) ?_
  by_cases c1 : p1 = (0 : Int32)
  · have hF := it_t hF c1
    refine lv_tableIn (tgt := 36) C0.x C0.b dX7_name_1 (by rw [c1]; decide) (by rw [c1]; decide) (by rw [c1]; rfl) (by decide) ?_
    refine lv_bipush (v := (115 : Int32)) C0.x C0.b dX7_name_36 (by decide) ?_
    obtain rfl := Option.some.inj hF
    exact x_iret C0 hW rfl rfl dX7_name_38
  have hF := it_f hF c1
  by_cases c2 : p1 = (1 : Int32)
  · have hF := it_t hF c2
    refine lv_tableIn (tgt := 39) C0.x C0.b dX7_name_1 (by rw [c2]; decide) (by rw [c2]; decide) (by rw [c2]; rfl) (by decide) ?_
    refine lv_bipush (v := (78 : Int32)) C0.x C0.b dX7_name_39 (by decide) ?_
    obtain rfl := Option.some.inj hF
    exact x_iret C0 hW rfl rfl dX7_name_41
  have hF := it_f hF c2
  by_cases c3 : p1 = (2 : Int32)
  · have hF := it_t hF c3
    refine lv_tableIn (tgt := 42) C0.x C0.b dX7_name_1 (by rw [c3]; decide) (by rw [c3]; decide) (by rw [c3]; rfl) (by decide) ?_
    refine lv_bipush (v := (97 : Int32)) C0.x C0.b dX7_name_42 (by decide) ?_
    obtain rfl := Option.some.inj hF
    exact x_iret C0 hW rfl rfl dX7_name_44
  have hF := it_f hF c3
  by_cases c4 : p1 = (3 : Int32)
  · have hF := it_t hF c4
    refine lv_tableIn (tgt := 45) C0.x C0.b dX7_name_1 (by rw [c4]; decide) (by rw [c4]; decide) (by rw [c4]; rfl) (by decide) ?_
    refine lv_bipush (v := (80 : Int32)) C0.x C0.b dX7_name_45 (by decide) ?_
    obtain rfl := Option.some.inj hF
    exact x_iret C0 hW rfl rfl dX7_name_47
  have hF := it_f hF c4
  by_cases c5 : p1 = (4 : Int32)
  · have hF := it_t hF c5
    refine lv_tableIn (tgt := 48) C0.x C0.b dX7_name_1 (by rw [c5]; decide) (by rw [c5]; decide) (by rw [c5]; rfl) (by decide) ?_
    refine lv_bipush (v := (112 : Int32)) C0.x C0.b dX7_name_48 (by decide) ?_
    obtain rfl := Option.some.inj hF
    exact x_iret C0 hW rfl rfl dX7_name_50
  have hF := it_f hF c5
  refine lv_tableOut (tgt := 51) C0.x C0.b dX7_name_1 (by have hc1 := lv_neT c1 (a := 0) rfl; have hc2 := lv_neT c2 (a := 1) rfl; have hc3 := lv_neT c3 (a := 2) rfl; have hc4 := lv_neT c4 (a := 3) rfl; have hc5 := lv_neT c5 (a := 4) rfl; omega) (by decide) ?_
  refine lv_bipush (v := (89 : Int32)) C0.x C0.b dX7_name_51 (by decide) ?_
  obtain rfl := Option.some.inj hF
  exact x_iret C0 hW rfl rfl dX7_name_53

abbrev rm_X7_sumOf_o_tape : Room := { frames := 0, cells := 0, slots := 0, locals := 0 }

set_option maxHeartbeats 4000000 in
set_option maxRecDepth 100000 in
theorem w_X7_sumOf_o_tape_b6 (l : Launch) (g : GX) (h_o h_o_tape h_o_out h_o_made h_o_packed h_o_latest h_o_ahead h_o_notes h_o_elements h_o_chunks h_o_sums h_o_found h_o_before : Nat) {K : Nat} {o_tape_n : Nat} {o_tape_c : Nat → Int32} {o_sums_n : Nat} {o_sums_c : Nat → Int32} {o_taped : Int32} {o_outs : Int32} {o_mades : Int32} {o_packs : Int32} {o_thrown : Int32} {o_blockFault : Int32} {o_blockPlace : Int32} {o_opened : Int32} {o_literals : Int32} {o_wanted : Int32} {o_elementMany : Int32} {o_literalMany : Int32} {o_chunkMany : Int32} {o_skippedMany : Int32} {o_faultNumber : Int32} {o_faultPlace : Int32} {o_faultInner : Int32} {o_faultInnerPlace : Int32} {o_foundMany : Int32} {o_skips : Int32} {o_isFull : Int32} {o_out_n : Nat} {o_out_c : Nat → Int32} {o_made_n : Nat} {o_made_c : Nat → Int32} {o_packed_n : Nat} {o_packed_c : Nat → Int32} {o_latest_n : Nat} {o_latest_c : Nat → Int32} {o_ahead_n : Nat} {o_ahead_c : Nat → Int32} {o_notes_n : Nat} {o_notes_c : Nat → Int32} {o_elements_n : Nat} {o_elements_c : Nat → Int32} {o_chunks_n : Nat} {o_chunks_c : Nat → Int32} {o_found_n : Nat} {o_found_c : Nat → Int32} {o_before_n : Nat} {o_before_c : Nat → Int32} {p2 : Int32} {p3 : Int32} {o : Int32} {wc : va_W} {p : Program} {e : Env} {s : State} {m : MethodId} {args : Array Value} {below : List Frame} {meth : Method} {c : Code} (C0 : bx g p s m meth c args cX7_sumOf 6 (some .int) yX7_sumOf wA_X7_sumOf (va_A wc s.heap.size)) :
    ∀ (n : Nat) (x4 : Int32) (x5 : Int32), f_X7_sumOf_o_tape_b6 K o_tape_n o_tape_c o_sums_n o_sums_c p2 p3 n x4 x5 = some o → ∀ (H : Heap) (locs : List Loc) (ls : Array Slot), ww g (va_A wc s.heap.size) s (wF_SnapHouseModel g h_o h_o_tape h_o_out h_o_made h_o_packed h_o_latest h_o_ahead h_o_notes h_o_elements h_o_chunks h_o_sums h_o_found h_o_before o_taped o_outs o_mades o_packs o_thrown o_blockFault o_blockPlace o_opened o_literals o_wanted o_elementMany o_literalMany o_chunkMany o_skippedMany o_faultNumber o_faultPlace o_faultInner o_faultInnerPlace o_foundMany o_skips o_isFull o_tape_n o_tape_c o_out_n o_out_c o_made_n o_made_c o_packed_n o_packed_c o_latest_n o_latest_c o_ahead_n o_ahead_c o_notes_n o_notes_c o_elements_n o_elements_c o_chunks_n o_chunks_c o_sums_n o_sums_c o_found_n o_found_c o_before_n o_before_c) H locs → lv_has ls 6 [(0, .ref h_o), (1, .ref h_o_tape), (3, .int p3), (4, .int x4), (5, .int x5)] → W p l e rm_X7_sumOf_o_tape s m args below meth c H locs 0 0 (MQ below (qcI g wc s.heap.size o (wF_SnapHouseModel g h_o h_o_tape h_o_out h_o_made h_o_packed h_o_latest h_o_ahead h_o_notes h_o_elements h_o_chunks h_o_sums h_o_found h_o_before o_taped o_outs o_mades o_packs o_thrown o_blockFault o_blockPlace o_opened o_literals o_wanted o_elementMany o_literalMany o_chunkMany o_skippedMany o_faultNumber o_faultPlace o_faultInner o_faultInnerPlace o_foundMany o_skips o_isFull o_tape_n o_tape_c o_out_n o_out_c o_made_n o_made_c o_packed_n o_packed_c o_latest_n o_latest_c o_ahead_n o_ahead_c o_notes_n o_notes_c o_elements_n o_elements_c o_chunks_n o_chunks_c o_sums_n o_sums_c o_found_n o_found_c o_before_n o_before_c)) args s 0 0 (va_A wc s.heap.size)) (F0 m 6 ls []) := by
  intro n
  induction n with
  | zero => intro x4 x5 hF; cases (show (none : Option (Int32)) = some o from hF)
  | succ n ih =>
    intro x4 x5 hF H locs ls hW hl
    rw [f_X7_sumOf_o_tape_b6] at hF
    refine lv_iload C0.x C0.b dX7_sumOf_6 (lv_at hl 4 rfl) ?_
    refine lv_iload_n C0.x C0.b dX7_sumOf_8 rfl (lv_at hl 2 rfl) ?_
    refine lv_icmp_ge (tgt := 42) C0.x C0.b dX7_sumOf_9 (by decide) (fun c1 => ?_) (fun c1 => ?_)
    · have hF := it_t hF c1
      refine lv_iload C0.x C0.b dX7_sumOf_42 (lv_at hl 3 rfl) ?_
      refine lv_iconst (v := (-1 : Int32)) C0.x C0.b dX7_sumOf_44 (by decide) ?_
      refine lv_ixor C0.x C0.b dX7_sumOf_45 ?_
      obtain rfl := Option.some.inj hF
      exact x_iret C0 hW rfl rfl dX7_sumOf_46
    · have hF := it_f hF c1
      refine lv_aload_n C0.x C0.b dX7_sumOf_12 rfl (lv_at hl 0 rfl) ?_
      refine x_get C0 hW iw_X7 0 rfl rfl 27 (by decide) (List.mem_cons_of_mem _ wl_124) (v := .ref h_o_sums) rfl dX7_sumOf_13 ?_
      refine lv_iload C0.x C0.b dX7_sumOf_16 (lv_at hl 3 rfl) ?_
      refine lv_aload_n C0.x C0.b dX7_sumOf_18 rfl (lv_at hl 1 rfl) ?_
      refine lv_iload C0.x C0.b dX7_sumOf_19 (lv_at hl 4 rfl) ?_
      obtain ⟨h2, hF⟩ := ck_some hF
      refine x_bald C0 hW 1 1 rfl rfl h2 dX7_sumOf_21 ?_
      refine lv_ixor C0.x C0.b dX7_sumOf_22 ?_
      refine lv_sipush (v := (255 : Int32)) C0.x C0.b dX7_sumOf_23 (by decide) ?_
      refine lv_iand C0.x C0.b dX7_sumOf_26 ?_
      obtain ⟨h3, hF⟩ := ck_some hF
      refine x_iald C0 hW 10 0 rfl rfl h3 dX7_sumOf_27 ?_
      refine lv_iload C0.x C0.b dX7_sumOf_28 (lv_at hl 3 rfl) ?_
      refine lv_bipush (v := (8 : Int32)) C0.x C0.b dX7_sumOf_30 (by decide) ?_
      refine lv_iushr (v := (ushr x4 (8 : Int32))) C0.x C0.b dX7_sumOf_32 rfl ?_
      refine lv_ixor C0.x C0.b dX7_sumOf_33 ?_
      refine lv_istore (lv' := [(4, .int ((o_sums_c ((x4 ^^^ (o_tape_c x5.toNatClampNeg)) &&& (255 : Int32)).toNatClampNeg) ^^^ (ushr x4 (8 : Int32)))), (0, .ref h_o), (1, .ref h_o_tape), (3, .int p3), (5, .int x5)]) C0.x C0.b dX7_sumOf_34 hl (by decide) rfl (fun ls hl => ?_)
      refine lv_iinc (v := (x5 + (1 : Int32))) (lv' := [(5, .int (x5 + (1 : Int32))), (4, .int ((o_sums_c ((x4 ^^^ (o_tape_c x5.toNatClampNeg)) &&& (255 : Int32)).toNatClampNeg) ^^^ (ushr x4 (8 : Int32)))), (0, .ref h_o), (1, .ref h_o_tape), (3, .int p3)]) C0.x C0.b dX7_sumOf_36 hl (k := 4) rfl rfl (by decide) rfl (fun ls hl => ?_)
      refine lv_goto (tgt := 6) C0.x C0.b dX7_sumOf_39 (by decide) ?_
      exact ih ((o_sums_c ((x4 ^^^ (o_tape_c x5.toNatClampNeg)) &&& (255 : Int32)).toNatClampNeg) ^^^ (ushr x4 (8 : Int32))) (x5 + (1 : Int32)) hF _ _ _ hW (lv_sub hl [2, 3, 4, 1, 0] rfl)

set_option maxHeartbeats 4000000 in
set_option maxRecDepth 100000 in
/-- SnapHouseModel.sumOf([BII)I -/
theorem c_X7_sumOf_o_tape (l : Launch) (g : GX) (h_o h_o_tape h_o_out h_o_made h_o_packed h_o_latest h_o_ahead h_o_notes h_o_elements h_o_chunks h_o_sums h_o_found h_o_before : Nat) {K : Nat} (o_taped : Int32) (o_outs : Int32) (o_mades : Int32) (o_packs : Int32) (o_thrown : Int32) (o_blockFault : Int32) (o_blockPlace : Int32) (o_opened : Int32) (o_literals : Int32) (o_wanted : Int32) (o_elementMany : Int32) (o_literalMany : Int32) (o_chunkMany : Int32) (o_skippedMany : Int32) (o_faultNumber : Int32) (o_faultPlace : Int32) (o_faultInner : Int32) (o_faultInnerPlace : Int32) (o_foundMany : Int32) (o_skips : Int32) (o_isFull : Int32) (o_out_n : Nat) (o_out_c : Nat → Int32) (o_made_n : Nat) (o_made_c : Nat → Int32) (o_packed_n : Nat) (o_packed_c : Nat → Int32) (o_latest_n : Nat) (o_latest_c : Nat → Int32) (o_ahead_n : Nat) (o_ahead_c : Nat → Int32) (o_notes_n : Nat) (o_notes_c : Nat → Int32) (o_elements_n : Nat) (o_elements_c : Nat → Int32) (o_chunks_n : Nat) (o_chunks_c : Nat → Int32) (o_found_n : Nat) (o_found_c : Nat → Int32) (o_before_n : Nat) (o_before_c : Nat → Int32) {o_tape_n : Nat} {o_tape_c : Nat → Int32} {o_sums_n : Nat} {o_sums_c : Nat → Int32} {p2 : Int32} {p3 : Int32} {o : Int32} (hF : f_X7_sumOf_o_tape K o_tape_n o_tape_c o_sums_n o_sums_c p2 p3 = some o) : mcI g l yX7_sumOf wA_X7_sumOf rm_X7_sumOf_o_tape [.ref h_o, .ref h_o_tape, .int p2, .int p3] (wF_SnapHouseModel g h_o h_o_tape h_o_out h_o_made h_o_packed h_o_latest h_o_ahead h_o_notes h_o_elements h_o_chunks h_o_sums h_o_found h_o_before o_taped o_outs o_mades o_packs o_thrown o_blockFault o_blockPlace o_opened o_literals o_wanted o_elementMany o_literalMany o_chunkMany o_skippedMany o_faultNumber o_faultPlace o_faultInner o_faultInnerPlace o_foundMany o_skips o_isFull o_tape_n o_tape_c o_out_n o_out_c o_made_n o_made_c o_packed_n o_packed_c o_latest_n o_latest_c o_ahead_n o_ahead_c o_notes_n o_notes_c o_elements_n o_elements_c o_chunks_n o_chunks_c o_sums_n o_sums_c o_found_n o_found_c o_before_n o_before_c) o (wF_SnapHouseModel g h_o h_o_tape h_o_out h_o_made h_o_packed h_o_latest h_o_ahead h_o_notes h_o_elements h_o_chunks h_o_sums h_o_found h_o_before o_taped o_outs o_mades o_packs o_thrown o_blockFault o_blockPlace o_opened o_literals o_wanted o_elementMany o_literalMany o_chunkMany o_skippedMany o_faultNumber o_faultPlace o_faultInner o_faultInnerPlace o_foundMany o_skips o_isFull o_tape_n o_tape_c o_out_n o_out_c o_made_n o_made_c o_packed_n o_packed_c o_latest_n o_latest_c o_ahead_n o_ahead_c o_notes_n o_notes_c o_elements_n o_elements_c o_chunks_n o_chunks_c o_sums_n o_sums_c o_found_n o_found_c o_before_n o_before_c) 0 0 := by
  refine x_start (cc := cX7_sumOf) (maxL := 6) (ret := (some .int)) (by decide) rfl (Nat.le_of_ble_eq_true rfl) ?_
  intro p e s m below meth c ls C0 hW hl
  have hl : lv_has ls 6 [(0, .ref h_o), (1, .ref h_o_tape), (2, .int p2), (3, .int p3)] := hl
  unfold f_X7_sumOf_o_tape at hF
  refine lv_iconst (v := (-1 : Int32)) C0.x C0.b dX7_sumOf_0 (by decide) ?_
  refine lv_istore (lv' := [(4, .int (-1 : Int32)), (0, .ref h_o), (1, .ref h_o_tape), (2, .int p2), (3, .int p3)]) C0.x C0.b dX7_sumOf_1 hl (by decide) rfl (fun ls hl => ?_)
  refine lv_iload_n C0.x C0.b dX7_sumOf_3 rfl (lv_at hl 3 rfl) ?_
  refine lv_istore (lv' := [(5, .int p2), (4, .int (-1 : Int32)), (0, .ref h_o), (1, .ref h_o_tape), (2, .int p2), (3, .int p3)]) C0.x C0.b dX7_sumOf_4 hl (by decide) rfl (fun ls hl => ?_)
  exact w_X7_sumOf_o_tape_b6 l g h_o h_o_tape h_o_out h_o_made h_o_packed h_o_latest h_o_ahead h_o_notes h_o_elements h_o_chunks h_o_sums h_o_found h_o_before C0 K (-1 : Int32) p2 hF _ _ _ hW (lv_sub hl [2, 3, 5, 1, 0] rfl)

abbrev rm_X7_masked : Room := { frames := 0, cells := 0, slots := 0, locals := 0 }

set_option maxHeartbeats 4000000 in
set_option maxRecDepth 100000 in
/-- SnapHouseModel.masked(I)I -/
theorem c_X7_masked (l : Launch) (g : GX) (h_o h_o_tape h_o_out h_o_made h_o_packed h_o_latest h_o_ahead h_o_notes h_o_elements h_o_chunks h_o_sums h_o_found h_o_before : Nat) {K : Nat} (o_taped : Int32) (o_outs : Int32) (o_mades : Int32) (o_packs : Int32) (o_thrown : Int32) (o_blockFault : Int32) (o_blockPlace : Int32) (o_opened : Int32) (o_literals : Int32) (o_wanted : Int32) (o_elementMany : Int32) (o_literalMany : Int32) (o_chunkMany : Int32) (o_skippedMany : Int32) (o_faultNumber : Int32) (o_faultPlace : Int32) (o_faultInner : Int32) (o_faultInnerPlace : Int32) (o_foundMany : Int32) (o_skips : Int32) (o_isFull : Int32) (o_tape_n : Nat) (o_tape_c : Nat → Int32) (o_out_n : Nat) (o_out_c : Nat → Int32) (o_made_n : Nat) (o_made_c : Nat → Int32) (o_packed_n : Nat) (o_packed_c : Nat → Int32) (o_latest_n : Nat) (o_latest_c : Nat → Int32) (o_ahead_n : Nat) (o_ahead_c : Nat → Int32) (o_notes_n : Nat) (o_notes_c : Nat → Int32) (o_elements_n : Nat) (o_elements_c : Nat → Int32) (o_chunks_n : Nat) (o_chunks_c : Nat → Int32) (o_sums_n : Nat) (o_sums_c : Nat → Int32) (o_found_n : Nat) (o_found_c : Nat → Int32) (o_before_n : Nat) (o_before_c : Nat → Int32) {p1 : Int32} {o : Int32} (hF : f_X7_masked K p1 = some o) : mcI g l yX7_masked wA_X7_masked rm_X7_masked [.ref h_o, .int p1] (wF_SnapHouseModel g h_o h_o_tape h_o_out h_o_made h_o_packed h_o_latest h_o_ahead h_o_notes h_o_elements h_o_chunks h_o_sums h_o_found h_o_before o_taped o_outs o_mades o_packs o_thrown o_blockFault o_blockPlace o_opened o_literals o_wanted o_elementMany o_literalMany o_chunkMany o_skippedMany o_faultNumber o_faultPlace o_faultInner o_faultInnerPlace o_foundMany o_skips o_isFull o_tape_n o_tape_c o_out_n o_out_c o_made_n o_made_c o_packed_n o_packed_c o_latest_n o_latest_c o_ahead_n o_ahead_c o_notes_n o_notes_c o_elements_n o_elements_c o_chunks_n o_chunks_c o_sums_n o_sums_c o_found_n o_found_c o_before_n o_before_c) o (wF_SnapHouseModel g h_o h_o_tape h_o_out h_o_made h_o_packed h_o_latest h_o_ahead h_o_notes h_o_elements h_o_chunks h_o_sums h_o_found h_o_before o_taped o_outs o_mades o_packs o_thrown o_blockFault o_blockPlace o_opened o_literals o_wanted o_elementMany o_literalMany o_chunkMany o_skippedMany o_faultNumber o_faultPlace o_faultInner o_faultInnerPlace o_foundMany o_skips o_isFull o_tape_n o_tape_c o_out_n o_out_c o_made_n o_made_c o_packed_n o_packed_c o_latest_n o_latest_c o_ahead_n o_ahead_c o_notes_n o_notes_c o_elements_n o_elements_c o_chunks_n o_chunks_c o_sums_n o_sums_c o_found_n o_found_c o_before_n o_before_c) 0 0 := by
  refine x_start (cc := cX7_masked) (maxL := 2) (ret := (some .int)) (by decide) rfl (Nat.le_of_ble_eq_true rfl) ?_
  intro p e s m below meth c ls C0 hW hl
  have hl : lv_has ls 2 [(0, .ref h_o), (1, .int p1)] := hl
  unfold f_X7_masked at hF
  refine lv_iload_n C0.x C0.b dX7_masked_0 rfl (lv_at hl 1 rfl) ?_
  refine lv_bipush (v := (15 : Int32)) C0.x C0.b dX7_masked_1 (by decide) ?_
  refine lv_iushr (v := (ushr p1 (15 : Int32))) C0.x C0.b dX7_masked_3 rfl ?_
  refine lv_iload_n C0.x C0.b dX7_masked_4 rfl (lv_at hl 1 rfl) ?_
  refine lv_bipush (v := (17 : Int32)) C0.x C0.b dX7_masked_5 (by decide) ?_
  refine lv_ishl C0.x C0.b dX7_masked_7 ?_
  refine lv_ior C0.x C0.b dX7_masked_8 ?_
  refine lv_ldc (v := (-1568478504 : Int32)) C0.x C0.b C0.own (C0.ts _ (List.mem_cons_of_mem _ wl_500)) dX7_masked_9 ?_
  refine lv_iadd C0.x C0.b dX7_masked_11 ?_
  obtain rfl := Option.some.inj hF
  exact x_iret C0 hW rfl rfl dX7_masked_12

