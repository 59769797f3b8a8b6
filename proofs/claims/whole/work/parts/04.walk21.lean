abbrev rm_X7_unstream : Room := { frames := 5, cells := 0, slots := 0, locals := 139 }

set_option maxHeartbeats 4000000 in
set_option maxRecDepth 100000 in
theorem w_X7_unstream_b110 (l : Launch) (g : GX) (h_o h_o_tape h_o_out h_o_made h_o_packed h_o_latest h_o_ahead h_o_notes h_o_elements h_o_chunks h_o_sums h_o_found h_o_before : Nat) {K : Nat} {o_taped : Int32} {o_tape_n : Nat} {o_tape_c : Nat → Int32} {o_out_n : Nat} {o_made_n : Nat} {o_notes_n : Nat} {o_chunks_n : Nat} {o_sums_n : Nat} {o_sums_c : Nat → Int32} {o_found_n : Nat} {o_before_n : Nat} {o_packs : Int32} {o_elementMany : Int32} {o_literalMany : Int32} {o_isFull : Int32} {o_packed_n : Nat} {o_packed_c : Nat → Int32} {o_latest_n : Nat} {o_latest_c : Nat → Int32} {o_ahead_n : Nat} {o_ahead_c : Nat → Int32} {o_elements_n : Nat} {o_elements_c : Nat → Int32} {o : Int32 × Int32 × Int32 × Int32 × Int32 × Int32 × Int32 × Int32 × Int32 × Int32 × Int32 × Int32 × Int32 × Int32 × Int32 × Int32 × Int32 × (Nat → Int32) × (Nat → Int32) × (Nat → Int32) × (Nat → Int32) × (Nat → Int32) × (Nat → Int32)} {wc : va_W} {p : Program} {e : Env} {s : State} {m : MethodId} {args : Array Value} {below : List Frame} {meth : Method} {c : Code} (C0 : bx g p s m meth c args cX7_unstream 3 (some .int) yX7_unstream wA_X7_unstream (va_A wc s.heap.size)) :
    ∀ (n : Nat) (o_outs : Int32) (o_mades : Int32) (o_thrown : Int32) (o_blockFault : Int32) (o_blockPlace : Int32) (o_opened : Int32) (o_literals : Int32) (o_wanted : Int32) (o_chunkMany : Int32) (o_skippedMany : Int32) (o_faultNumber : Int32) (o_faultPlace : Int32) (o_faultInner : Int32) (o_faultInnerPlace : Int32) (o_foundMany : Int32) (o_skips : Int32) (o_out_c : Nat → Int32) (o_made_c : Nat → Int32) (o_notes_c : Nat → Int32) (o_chunks_c : Nat → Int32) (o_found_c : Nat → Int32) (o_before_c : Nat → Int32) (x2 : Int32), f_X7_unstream_b110 K o_taped o_tape_n o_tape_c o_out_n o_made_n o_notes_n o_chunks_n o_sums_n o_sums_c o_found_n o_before_n n o_outs o_mades o_thrown o_blockFault o_blockPlace o_opened o_literals o_wanted o_chunkMany o_skippedMany o_faultNumber o_faultPlace o_faultInner o_faultInnerPlace o_foundMany o_skips o_out_c o_made_c o_notes_c o_chunks_c o_found_c o_before_c x2 = some o → ∀ (H : Heap) (locs : List Loc) (ls : Array Slot), ww g (va_A wc s.heap.size) s (wF_SnapHouseModel g h_o h_o_tape h_o_out h_o_made h_o_packed h_o_latest h_o_ahead h_o_notes h_o_elements h_o_chunks h_o_sums h_o_found h_o_before o_taped o_outs o_mades o_packs o_thrown o_blockFault o_blockPlace o_opened o_literals o_wanted o_elementMany o_literalMany o_chunkMany o_skippedMany o_faultNumber o_faultPlace o_faultInner o_faultInnerPlace o_foundMany o_skips o_isFull o_tape_n o_tape_c o_out_n o_out_c o_made_n o_made_c o_packed_n o_packed_c o_latest_n o_latest_c o_ahead_n o_ahead_c o_notes_n o_notes_c o_elements_n o_elements_c o_chunks_n o_chunks_c o_sums_n o_sums_c o_found_n o_found_c o_before_n o_before_c) H locs → lv_has ls 3 [(0, .ref h_o), (2, .int x2)] → W p l e rm_X7_unstream s m args below meth c H locs 0 0 (MQ below (qcI g wc s.heap.size o.1 (wF_SnapHouseModel g h_o h_o_tape h_o_out h_o_made h_o_packed h_o_latest h_o_ahead h_o_notes h_o_elements h_o_chunks h_o_sums h_o_found h_o_before o_taped o.2.1 o.2.2.1 o_packs o.2.2.2.1 o.2.2.2.2.1 o.2.2.2.2.2.1 o.2.2.2.2.2.2.1 o.2.2.2.2.2.2.2.1 o.2.2.2.2.2.2.2.2.1 o_elementMany o_literalMany o.2.2.2.2.2.2.2.2.2.1 o.2.2.2.2.2.2.2.2.2.2.1 o.2.2.2.2.2.2.2.2.2.2.2.1 o.2.2.2.2.2.2.2.2.2.2.2.2.1 o.2.2.2.2.2.2.2.2.2.2.2.2.2.1 o.2.2.2.2.2.2.2.2.2.2.2.2.2.2.1 o.2.2.2.2.2.2.2.2.2.2.2.2.2.2.2.1 o.2.2.2.2.2.2.2.2.2.2.2.2.2.2.2.2.1 o_isFull o_tape_n o_tape_c o_out_n o.2.2.2.2.2.2.2.2.2.2.2.2.2.2.2.2.2.1 o_made_n o.2.2.2.2.2.2.2.2.2.2.2.2.2.2.2.2.2.2.1 o_packed_n o_packed_c o_latest_n o_latest_c o_ahead_n o_ahead_c o_notes_n o.2.2.2.2.2.2.2.2.2.2.2.2.2.2.2.2.2.2.2.1 o_elements_n o_elements_c o_chunks_n o.2.2.2.2.2.2.2.2.2.2.2.2.2.2.2.2.2.2.2.2.1 o_sums_n o_sums_c o_found_n o.2.2.2.2.2.2.2.2.2.2.2.2.2.2.2.2.2.2.2.2.2.1 o_before_n o.2.2.2.2.2.2.2.2.2.2.2.2.2.2.2.2.2.2.2.2.2.2)) args s 0 0 (va_A wc s.heap.size)) (F0 m 110 ls []) := by
  intro n
  induction n with
  | zero => intro o_outs o_mades o_thrown o_blockFault o_blockPlace o_opened o_literals o_wanted o_chunkMany o_skippedMany o_faultNumber o_faultPlace o_faultInner o_faultInnerPlace o_foundMany o_skips o_out_c o_made_c o_notes_c o_chunks_c o_found_c o_before_c x2 hF; cases (show (none : Option (Int32 × Int32 × Int32 × Int32 × Int32 × Int32 × Int32 × Int32 × Int32 × Int32 × Int32 × Int32 × Int32 × Int32 × Int32 × Int32 × Int32 × (Nat → Int32) × (Nat → Int32) × (Nat → Int32) × (Nat → Int32) × (Nat → Int32) × (Nat → Int32))) = some o from hF)
  | succ n ih =>
    intro o_outs o_mades o_thrown o_blockFault o_blockPlace o_opened o_literals o_wanted o_chunkMany o_skippedMany o_faultNumber o_faultPlace o_faultInner o_faultInnerPlace o_foundMany o_skips o_out_c o_made_c o_notes_c o_chunks_c o_found_c o_before_c x2 hF H locs ls hW hl
    rw [f_X7_unstream_b110] at hF
    refine lv_iload_n C0.x C0.b dX7_unstream_110 rfl (lv_at hl 1 rfl) ?_
    refine lv_iconst (v := (5 : Int32)) C0.x C0.b dX7_unstream_111 (by decide) ?_
    refine lv_aload_n C0.x C0.b dX7_unstream_112 rfl (lv_at hl 0 rfl) ?_
    refine x_get C0 hW iw_X7 0 rfl rfl 29 (by decide) (List.mem_cons_of_mem _ wl_554) (v := .int o_foundMany) rfl dX7_unstream_113 ?_
    refine lv_imul C0.x C0.b dX7_unstream_116 ?_
    refine lv_icmp_ge (tgt := 145) C0.x C0.b dX7_unstream_117 (by decide) (fun c1 => ?_) (fun c1 => ?_)
    · have hF := it_t hF c1
      refine lv_aload_n C0.x C0.b dX7_unstream_145 rfl (lv_at hl 0 rfl) ?_
      refine x_get C0 hW iw_X7 0 rfl rfl 5 (by decide) (List.mem_cons_of_mem _ wl_237) (v := .int o_outs) rfl dX7_unstream_146 ?_
      obtain rfl := Option.some.inj hF
      exact x_iret C0 hW rfl rfl dX7_unstream_149
    · have hF := it_f hF c1
      refine lv_iload_n C0.x C0.b dX7_unstream_120 rfl (lv_at hl 1 rfl) ?_
      refine lv_sipush (v := (5000 : Int32)) C0.x C0.b dX7_unstream_121 (by decide) ?_
      refine lv_icmp_ge (tgt := 145) C0.x C0.b dX7_unstream_124 (by decide) (fun c2 => ?_) (fun c2 => ?_)
      · have hF := it_t hF c2
        refine lv_aload_n C0.x C0.b dX7_unstream_145 rfl (lv_at hl 0 rfl) ?_
        refine x_get C0 hW iw_X7 0 rfl rfl 5 (by decide) (List.mem_cons_of_mem _ wl_237) (v := .int o_outs) rfl dX7_unstream_146 ?_
        obtain rfl := Option.some.inj hF
        exact x_iret C0 hW rfl rfl dX7_unstream_149
      · have hF := it_f hF c2
        refine lv_aload_n C0.x C0.b dX7_unstream_127 rfl (lv_at hl 0 rfl) ?_
        refine x_get C0 hW iw_X7 0 rfl rfl 18 (by decide) (List.mem_cons_of_mem _ wl_120) (v := .ref h_o_chunks) rfl dX7_unstream_128 ?_
        refine lv_iload_n C0.x C0.b dX7_unstream_131 rfl (lv_at hl 1 rfl) ?_
        refine lv_aload_n C0.x C0.b dX7_unstream_132 rfl (lv_at hl 0 rfl) ?_
        refine x_get C0 hW iw_X7 0 rfl rfl 28 (by decide) (List.mem_cons_of_mem _ wl_125) (v := .ref h_o_found) rfl dX7_unstream_133 ?_
        refine lv_iload_n C0.x C0.b dX7_unstream_136 rfl (lv_at hl 1 rfl) ?_
        obtain ⟨h3, hF⟩ := ck_some hF
        refine x_iald C0 hW 11 0 rfl rfl h3 dX7_unstream_137 ?_
        obtain ⟨h4, hF⟩ := ck_some hF
        refine x_iast C0 hW 9 0 rfl rfl h4 dX7_unstream_138 (ws' := (wF_SnapHouseModel g h_o h_o_tape h_o_out h_o_made h_o_packed h_o_latest h_o_ahead h_o_notes h_o_elements h_o_chunks h_o_sums h_o_found h_o_before o_taped o_outs o_mades o_packs o_thrown o_blockFault o_blockPlace o_opened o_literals o_wanted o_elementMany o_literalMany o_chunkMany o_skippedMany o_faultNumber o_faultPlace o_faultInner o_faultInnerPlace o_foundMany o_skips o_isFull o_tape_n o_tape_c o_out_n o_out_c o_made_n o_made_c o_packed_n o_packed_c o_latest_n o_latest_c o_ahead_n o_ahead_c o_notes_n o_notes_c o_elements_n o_elements_c o_chunks_n (upd o_chunks_c x2.toNatClampNeg (o_found_c x2.toNatClampNeg)) o_sums_n o_sums_c o_found_n o_found_c o_before_n o_before_c)) rfl (fun H locs hW => ?_)
        refine lv_iinc (v := (x2 + (1 : Int32))) (lv' := [(2, .int (x2 + (1 : Int32))), (0, .ref h_o)]) C0.x C0.b dX7_unstream_139 hl (k := 1) rfl rfl (by decide) rfl (fun ls hl => ?_)
        refine lv_goto (tgt := 110) C0.x C0.b dX7_unstream_142 (by decide) ?_
        exact ih o_outs o_mades o_thrown o_blockFault o_blockPlace o_opened o_literals o_wanted o_chunkMany o_skippedMany o_faultNumber o_faultPlace o_faultInner o_faultInnerPlace o_foundMany o_skips o_out_c o_made_c o_notes_c (upd o_chunks_c x2.toNatClampNeg (o_found_c x2.toNatClampNeg)) o_found_c o_before_c (x2 + (1 : Int32)) hF _ _ _ hW (lv_sub hl [1, 0] rfl)

set_option maxHeartbeats 4000000 in
set_option maxRecDepth 100000 in
theorem w_X7_unstream_b70 (l : Launch) (g : GX) (h_o h_o_tape h_o_out h_o_made h_o_packed h_o_latest h_o_ahead h_o_notes h_o_elements h_o_chunks h_o_sums h_o_found h_o_before : Nat) {K : Nat} {o_taped : Int32} {o_tape_n : Nat} {o_tape_c : Nat → Int32} {o_out_n : Nat} {o_made_n : Nat} {o_notes_n : Nat} {o_chunks_n : Nat} {o_sums_n : Nat} {o_sums_c : Nat → Int32} {o_found_n : Nat} {o_before_n : Nat} {o_packs : Int32} {o_elementMany : Int32} {o_literalMany : Int32} {o_isFull : Int32} {o_packed_n : Nat} {o_packed_c : Nat → Int32} {o_latest_n : Nat} {o_latest_c : Nat → Int32} {o_ahead_n : Nat} {o_ahead_c : Nat → Int32} {o_elements_n : Nat} {o_elements_c : Nat → Int32} {o : Int32 × Int32 × Int32 × Int32 × Int32 × Int32 × Int32 × Int32 × Int32 × Int32 × Int32 × Int32 × Int32 × Int32 × Int32 × Int32 × Int32 × (Nat → Int32) × (Nat → Int32) × (Nat → Int32) × (Nat → Int32) × (Nat → Int32) × (Nat → Int32)} {wc : va_W} {p : Program} {e : Env} {s : State} {m : MethodId} {args : Array Value} {below : List Frame} {meth : Method} {c : Code} (C0 : bx g p s m meth c args cX7_unstream 3 (some .int) yX7_unstream wA_X7_unstream (va_A wc s.heap.size)) :
    ∀ (o_outs : Int32) (o_mades : Int32) (o_thrown : Int32) (o_blockFault : Int32) (o_blockPlace : Int32) (o_opened : Int32) (o_literals : Int32) (o_wanted : Int32) (o_chunkMany : Int32) (o_skippedMany : Int32) (o_faultNumber : Int32) (o_faultPlace : Int32) (o_faultInner : Int32) (o_faultInnerPlace : Int32) (o_foundMany : Int32) (o_skips : Int32) (o_out_c : Nat → Int32) (o_made_c : Nat → Int32) (o_notes_c : Nat → Int32) (o_chunks_c : Nat → Int32) (o_found_c : Nat → Int32) (o_before_c : Nat → Int32), f_X7_unstream_b70 K o_taped o_tape_n o_tape_c o_out_n o_made_n o_notes_n o_chunks_n o_sums_n o_sums_c o_found_n o_before_n o_outs o_mades o_thrown o_blockFault o_blockPlace o_opened o_literals o_wanted o_chunkMany o_skippedMany o_faultNumber o_faultPlace o_faultInner o_faultInnerPlace o_foundMany o_skips o_out_c o_made_c o_notes_c o_chunks_c o_found_c o_before_c = some o → ∀ (H : Heap) (locs : List Loc) (ls : Array Slot), ww g (va_A wc s.heap.size) s (wF_SnapHouseModel g h_o h_o_tape h_o_out h_o_made h_o_packed h_o_latest h_o_ahead h_o_notes h_o_elements h_o_chunks h_o_sums h_o_found h_o_before o_taped o_outs o_mades o_packs o_thrown o_blockFault o_blockPlace o_opened o_literals o_wanted o_elementMany o_literalMany o_chunkMany o_skippedMany o_faultNumber o_faultPlace o_faultInner o_faultInnerPlace o_foundMany o_skips o_isFull o_tape_n o_tape_c o_out_n o_out_c o_made_n o_made_c o_packed_n o_packed_c o_latest_n o_latest_c o_ahead_n o_ahead_c o_notes_n o_notes_c o_elements_n o_elements_c o_chunks_n o_chunks_c o_sums_n o_sums_c o_found_n o_found_c o_before_n o_before_c) H locs → lv_has ls 3 [(0, .ref h_o)] → W p l e rm_X7_unstream s m args below meth c H locs 0 0 (MQ below (qcI g wc s.heap.size o.1 (wF_SnapHouseModel g h_o h_o_tape h_o_out h_o_made h_o_packed h_o_latest h_o_ahead h_o_notes h_o_elements h_o_chunks h_o_sums h_o_found h_o_before o_taped o.2.1 o.2.2.1 o_packs o.2.2.2.1 o.2.2.2.2.1 o.2.2.2.2.2.1 o.2.2.2.2.2.2.1 o.2.2.2.2.2.2.2.1 o.2.2.2.2.2.2.2.2.1 o_elementMany o_literalMany o.2.2.2.2.2.2.2.2.2.1 o.2.2.2.2.2.2.2.2.2.2.1 o.2.2.2.2.2.2.2.2.2.2.2.1 o.2.2.2.2.2.2.2.2.2.2.2.2.1 o.2.2.2.2.2.2.2.2.2.2.2.2.2.1 o.2.2.2.2.2.2.2.2.2.2.2.2.2.2.1 o.2.2.2.2.2.2.2.2.2.2.2.2.2.2.2.1 o.2.2.2.2.2.2.2.2.2.2.2.2.2.2.2.2.1 o_isFull o_tape_n o_tape_c o_out_n o.2.2.2.2.2.2.2.2.2.2.2.2.2.2.2.2.2.1 o_made_n o.2.2.2.2.2.2.2.2.2.2.2.2.2.2.2.2.2.2.1 o_packed_n o_packed_c o_latest_n o_latest_c o_ahead_n o_ahead_c o_notes_n o.2.2.2.2.2.2.2.2.2.2.2.2.2.2.2.2.2.2.2.1 o_elements_n o_elements_c o_chunks_n o.2.2.2.2.2.2.2.2.2.2.2.2.2.2.2.2.2.2.2.2.1 o_sums_n o_sums_c o_found_n o.2.2.2.2.2.2.2.2.2.2.2.2.2.2.2.2.2.2.2.2.2.1 o_before_n o.2.2.2.2.2.2.2.2.2.2.2.2.2.2.2.2.2.2.2.2.2.2)) args s 0 0 (va_A wc s.heap.size)) (F0 m 70 ls []) := by
  intro o_outs o_mades o_thrown o_blockFault o_blockPlace o_opened o_literals o_wanted o_chunkMany o_skippedMany o_faultNumber o_faultPlace o_faultInner o_faultInnerPlace o_foundMany o_skips o_out_c o_made_c o_notes_c o_chunks_c o_found_c o_before_c hF H locs ls hW hl
  unfold f_X7_unstream_b70 at hF
  refine lv_aload_n C0.x C0.b dX7_unstream_70 rfl (lv_at hl 0 rfl) ?_
  refine x_get C0 hW iw_X7 0 rfl rfl 23 (by decide) (List.mem_cons_of_mem _ wl_121) (v := .int o_faultNumber) rfl dX7_unstream_71 ?_
  refine lv_if_le (tgt := 80) C0.x C0.b dX7_unstream_74 (by decide) (fun c1 => ?_) (fun c1 => ?_)
  · have hF := it_t hF c1
    refine lv_aload_n C0.x C0.b dX7_unstream_80 rfl (lv_at hl 0 rfl) ?_
    refine lv_aload_n C0.x C0.b dX7_unstream_81 rfl (lv_at hl 0 rfl) ?_
    refine x_get C0 hW iw_X7 0 rfl rfl 2 (by decide) (List.mem_cons_of_mem _ wl_114) (v := .ref h_o_made) rfl dX7_unstream_82 ?_
    refine lv_aload_n C0.x C0.b dX7_unstream_85 rfl (lv_at hl 0 rfl) ?_
    refine x_get C0 hW iw_X7 0 rfl rfl 6 (by decide) (List.mem_cons_of_mem _ wl_409) (v := .int o_mades) rfl dX7_unstream_86 ?_
    obtain ⟨r2, e3, hF⟩ := ob hF
    refine go_v C0 hW [0, 1, 2, 3, 4, 5, 6, 7, 8, 9, 10, 11, 12] [] [0, 1, 2, 3, 4, 5, 6, 7, 8, 9, 10, 11, 12] (va_runV (As := [.ref h_o_made, .int o_mades]) (rest := []) C0.fix (c_X7_give_o_made l g h_o h_o_tape h_o_out h_o_made h_o_packed h_o_latest h_o_ahead h_o_notes h_o_elements h_o_chunks h_o_sums h_o_found h_o_before o_taped o_mades o_packs o_thrown o_blockFault o_blockPlace o_opened o_literals o_wanted o_elementMany o_literalMany o_chunkMany o_skippedMany o_faultNumber o_faultPlace o_faultInner o_faultInnerPlace o_foundMany o_skips o_isFull o_tape_n o_tape_c o_packed_n o_packed_c o_latest_n o_latest_c o_ahead_n o_ahead_c o_notes_n o_notes_c o_elements_n o_elements_c o_chunks_n o_chunks_c o_sums_n o_sums_c o_found_n o_found_c o_before_n o_before_c e3 _) (cwV 2 C0.ts (gw_V wl_333 wl_334 wl_335 wl_5 wl_336) rfl rfl rfl (by decide +kernel) ⟨Nat.le_of_ble_eq_true rfl, Nat.le_of_ble_eq_true rfl⟩) (pcv_of C0 hW [0, 1, 2, 3, 4, 5, 6, 7, 8, 9, 10, 11, 12] rfl (by decide) (q0 := 0) rfl rfl) rfl rfl hl.1 rfl (lv_room (Nat.le_of_ble_eq_true rfl)) dX7_unstream_89 ⟨Nat.le_of_ble_eq_true rfl, Nat.le_of_ble_eq_true rfl⟩) rfl rfl (by decide) (by decide) (ws' := (wF_SnapHouseModel g h_o h_o_tape h_o_out h_o_made h_o_packed h_o_latest h_o_ahead h_o_notes h_o_elements h_o_chunks h_o_sums h_o_found h_o_before o_taped r2.1 o_mades o_packs o_thrown o_blockFault o_blockPlace o_opened o_literals o_wanted o_elementMany o_literalMany o_chunkMany o_skippedMany o_faultNumber o_faultPlace o_faultInner o_faultInnerPlace o_foundMany o_skips o_isFull o_tape_n o_tape_c o_out_n r2.2 o_made_n o_made_c o_packed_n o_packed_c o_latest_n o_latest_c o_ahead_n o_ahead_c o_notes_n o_notes_c o_elements_n o_elements_c o_chunks_n o_chunks_c o_sums_n o_sums_c o_found_n o_found_c o_before_n o_before_c)) rfl (by decide) (fun H locs hW => ?_)
    refine lv_aload_n C0.x C0.b dX7_unstream_92 rfl (lv_at hl 0 rfl) ?_
    refine lv_aload_n C0.x C0.b dX7_unstream_93 rfl (lv_at hl 0 rfl) ?_
    refine x_get C0 hW iw_X7 0 rfl rfl 29 (by decide) (List.mem_cons_of_mem _ wl_554) (v := .int o_foundMany) rfl dX7_unstream_94 ?_
    refine x_put C0 hW iw_X7 tyX7 tyX7_ok nmX7 0 rfl rfl 21 (by decide) (List.mem_cons_of_mem _ wl_556) rfl (ty := .int) (v := .int o_foundMany) (by decide +kernel) rfl rfl (Nat.le_of_ble_eq_true rfl) dX7_unstream_97 (ws' := (wF_SnapHouseModel g h_o h_o_tape h_o_out h_o_made h_o_packed h_o_latest h_o_ahead h_o_notes h_o_elements h_o_chunks h_o_sums h_o_found h_o_before o_taped r2.1 o_mades o_packs o_thrown o_blockFault o_blockPlace o_opened o_literals o_wanted o_elementMany o_literalMany o_foundMany o_skippedMany o_faultNumber o_faultPlace o_faultInner o_faultInnerPlace o_foundMany o_skips o_isFull o_tape_n o_tape_c o_out_n r2.2 o_made_n o_made_c o_packed_n o_packed_c o_latest_n o_latest_c o_ahead_n o_ahead_c o_notes_n o_notes_c o_elements_n o_elements_c o_chunks_n o_chunks_c o_sums_n o_sums_c o_found_n o_found_c o_before_n o_before_c)) rfl (fun H locs hW => ?_)
    refine lv_aload_n C0.x C0.b dX7_unstream_100 rfl (lv_at hl 0 rfl) ?_
    refine lv_aload_n C0.x C0.b dX7_unstream_101 rfl (lv_at hl 0 rfl) ?_
    refine x_get C0 hW iw_X7 0 rfl rfl 30 (by decide) (List.mem_cons_of_mem _ wl_555) (v := .int o_skips) rfl dX7_unstream_102 ?_
    refine x_put C0 hW iw_X7 tyX7 tyX7_ok nmX7 0 rfl rfl 22 (by decide) (List.mem_cons_of_mem _ wl_557) rfl (ty := .int) (v := .int o_skips) (by decide +kernel) rfl rfl (Nat.le_of_ble_eq_true rfl) dX7_unstream_105 (ws' := (wF_SnapHouseModel g h_o h_o_tape h_o_out h_o_made h_o_packed h_o_latest h_o_ahead h_o_notes h_o_elements h_o_chunks h_o_sums h_o_found h_o_before o_taped r2.1 o_mades o_packs o_thrown o_blockFault o_blockPlace o_opened o_literals o_wanted o_elementMany o_literalMany o_foundMany o_skips o_faultNumber o_faultPlace o_faultInner o_faultInnerPlace o_foundMany o_skips o_isFull o_tape_n o_tape_c o_out_n r2.2 o_made_n o_made_c o_packed_n o_packed_c o_latest_n o_latest_c o_ahead_n o_ahead_c o_notes_n o_notes_c o_elements_n o_elements_c o_chunks_n o_chunks_c o_sums_n o_sums_c o_found_n o_found_c o_before_n o_before_c)) rfl (fun H locs hW => ?_)
    refine lv_iconst (v := (0 : Int32)) C0.x C0.b dX7_unstream_108 (by decide) ?_
    refine lv_istore_n (lv' := [(2, .int (0 : Int32)), (0, .ref h_o)]) C0.x C0.b dX7_unstream_109 rfl hl (by decide) rfl (fun ls hl => ?_)
    exact w_X7_unstream_b110 l g h_o h_o_tape h_o_out h_o_made h_o_packed h_o_latest h_o_ahead h_o_notes h_o_elements h_o_chunks h_o_sums h_o_found h_o_before C0 K r2.1 o_mades o_thrown o_blockFault o_blockPlace o_opened o_literals o_wanted o_foundMany o_skips o_faultNumber o_faultPlace o_faultInner o_faultInnerPlace o_foundMany o_skips r2.2 o_made_c o_notes_c o_chunks_c o_found_c o_before_c (0 : Int32) hF _ _ _ hW (lv_sub hl [1, 0] rfl)
  · have hF := it_f hF c1
    refine lv_bipush (v := (-2 : Int32)) C0.x C0.b dX7_unstream_77 (by decide) ?_
    obtain rfl := Option.some.inj hF
    exact x_iret C0 hW rfl rfl dX7_unstream_79

set_option maxHeartbeats 4000000 in
set_option maxRecDepth 100000 in
theorem w_X7_unstream_b46 (l : Launch) (g : GX) (h_o h_o_tape h_o_out h_o_made h_o_packed h_o_latest h_o_ahead h_o_notes h_o_elements h_o_chunks h_o_sums h_o_found h_o_before : Nat) {K : Nat} {o_taped : Int32} {o_tape_n : Nat} {o_tape_c : Nat → Int32} {o_out_n : Nat} {o_made_n : Nat} {o_notes_n : Nat} {o_chunks_n : Nat} {o_sums_n : Nat} {o_sums_c : Nat → Int32} {o_found_n : Nat} {o_before_n : Nat} {o_packs : Int32} {o_elementMany : Int32} {o_literalMany : Int32} {o_isFull : Int32} {o_packed_n : Nat} {o_packed_c : Nat → Int32} {o_latest_n : Nat} {o_latest_c : Nat → Int32} {o_ahead_n : Nat} {o_ahead_c : Nat → Int32} {o_elements_n : Nat} {o_elements_c : Nat → Int32} {o : Int32 × Int32 × Int32 × Int32 × Int32 × Int32 × Int32 × Int32 × Int32 × Int32 × Int32 × Int32 × Int32 × Int32 × Int32 × Int32 × Int32 × (Nat → Int32) × (Nat → Int32) × (Nat → Int32) × (Nat → Int32) × (Nat → Int32) × (Nat → Int32)} {wc : va_W} {p : Program} {e : Env} {s : State} {m : MethodId} {args : Array Value} {below : List Frame} {meth : Method} {c : Code} (C0 : bx g p s m meth c args cX7_unstream 3 (some .int) yX7_unstream wA_X7_unstream (va_A wc s.heap.size)) :
    ∀ (n : Nat) (o_outs : Int32) (o_mades : Int32) (o_thrown : Int32) (o_blockFault : Int32) (o_blockPlace : Int32) (o_opened : Int32) (o_literals : Int32) (o_wanted : Int32) (o_chunkMany : Int32) (o_skippedMany : Int32) (o_faultNumber : Int32) (o_faultPlace : Int32) (o_faultInner : Int32) (o_faultInnerPlace : Int32) (o_foundMany : Int32) (o_skips : Int32) (o_out_c : Nat → Int32) (o_made_c : Nat → Int32) (o_notes_c : Nat → Int32) (o_chunks_c : Nat → Int32) (o_found_c : Nat → Int32) (o_before_c : Nat → Int32) (x1 : Int32), f_X7_unstream_b46 K o_taped o_tape_n o_tape_c o_out_n o_made_n o_notes_n o_chunks_n o_sums_n o_sums_c o_found_n o_before_n n o_outs o_mades o_thrown o_blockFault o_blockPlace o_opened o_literals o_wanted o_chunkMany o_skippedMany o_faultNumber o_faultPlace o_faultInner o_faultInnerPlace o_foundMany o_skips o_out_c o_made_c o_notes_c o_chunks_c o_found_c o_before_c x1 = some o → ∀ (H : Heap) (locs : List Loc) (ls : Array Slot), ww g (va_A wc s.heap.size) s (wF_SnapHouseModel g h_o h_o_tape h_o_out h_o_made h_o_packed h_o_latest h_o_ahead h_o_notes h_o_elements h_o_chunks h_o_sums h_o_found h_o_before o_taped o_outs o_mades o_packs o_thrown o_blockFault o_blockPlace o_opened o_literals o_wanted o_elementMany o_literalMany o_chunkMany o_skippedMany o_faultNumber o_faultPlace o_faultInner o_faultInnerPlace o_foundMany o_skips o_isFull o_tape_n o_tape_c o_out_n o_out_c o_made_n o_made_c o_packed_n o_packed_c o_latest_n o_latest_c o_ahead_n o_ahead_c o_notes_n o_notes_c o_elements_n o_elements_c o_chunks_n o_chunks_c o_sums_n o_sums_c o_found_n o_found_c o_before_n o_before_c) H locs → lv_has ls 3 [(0, .ref h_o), (1, .int x1)] → W p l e rm_X7_unstream s m args below meth c H locs 0 0 (MQ below (qcI g wc s.heap.size o.1 (wF_SnapHouseModel g h_o h_o_tape h_o_out h_o_made h_o_packed h_o_latest h_o_ahead h_o_notes h_o_elements h_o_chunks h_o_sums h_o_found h_o_before o_taped o.2.1 o.2.2.1 o_packs o.2.2.2.1 o.2.2.2.2.1 o.2.2.2.2.2.1 o.2.2.2.2.2.2.1 o.2.2.2.2.2.2.2.1 o.2.2.2.2.2.2.2.2.1 o_elementMany o_literalMany o.2.2.2.2.2.2.2.2.2.1 o.2.2.2.2.2.2.2.2.2.2.1 o.2.2.2.2.2.2.2.2.2.2.2.1 o.2.2.2.2.2.2.2.2.2.2.2.2.1 o.2.2.2.2.2.2.2.2.2.2.2.2.2.1 o.2.2.2.2.2.2.2.2.2.2.2.2.2.2.1 o.2.2.2.2.2.2.2.2.2.2.2.2.2.2.2.1 o.2.2.2.2.2.2.2.2.2.2.2.2.2.2.2.2.1 o_isFull o_tape_n o_tape_c o_out_n o.2.2.2.2.2.2.2.2.2.2.2.2.2.2.2.2.2.1 o_made_n o.2.2.2.2.2.2.2.2.2.2.2.2.2.2.2.2.2.2.1 o_packed_n o_packed_c o_latest_n o_latest_c o_ahead_n o_ahead_c o_notes_n o.2.2.2.2.2.2.2.2.2.2.2.2.2.2.2.2.2.2.2.1 o_elements_n o_elements_c o_chunks_n o.2.2.2.2.2.2.2.2.2.2.2.2.2.2.2.2.2.2.2.2.1 o_sums_n o_sums_c o_found_n o.2.2.2.2.2.2.2.2.2.2.2.2.2.2.2.2.2.2.2.2.2.1 o_before_n o.2.2.2.2.2.2.2.2.2.2.2.2.2.2.2.2.2.2.2.2.2.2)) args s 0 0 (va_A wc s.heap.size)) (F0 m 46 ls []) := by
  intro n
  induction n with
  | zero => intro o_outs o_mades o_thrown o_blockFault o_blockPlace o_opened o_literals o_wanted o_chunkMany o_skippedMany o_faultNumber o_faultPlace o_faultInner o_faultInnerPlace o_foundMany o_skips o_out_c o_made_c o_notes_c o_chunks_c o_found_c o_before_c x1 hF; cases (show (none : Option (Int32 × Int32 × Int32 × Int32 × Int32 × Int32 × Int32 × Int32 × Int32 × Int32 × Int32 × Int32 × Int32 × Int32 × Int32 × Int32 × Int32 × (Nat → Int32) × (Nat → Int32) × (Nat → Int32) × (Nat → Int32) × (Nat → Int32) × (Nat → Int32))) = some o from hF)
  | succ n ih =>
    intro o_outs o_mades o_thrown o_blockFault o_blockPlace o_opened o_literals o_wanted o_chunkMany o_skippedMany o_faultNumber o_faultPlace o_faultInner o_faultInnerPlace o_foundMany o_skips o_out_c o_made_c o_notes_c o_chunks_c o_found_c o_before_c x1 hF H locs ls hW hl
    rw [f_X7_unstream_b46] at hF
    refine lv_iload_n C0.x C0.b dX7_unstream_46 rfl (lv_at hl 1 rfl) ?_
    refine lv_aload_n C0.x C0.b dX7_unstream_47 rfl (lv_at hl 0 rfl) ?_
    refine x_get C0 hW iw_X7 0 rfl rfl 4 (by decide) (List.mem_cons_of_mem _ wl_149) (v := .int o_taped) rfl dX7_unstream_48 ?_
    refine lv_icmp_ge (tgt := 70) C0.x C0.b dX7_unstream_51 (by decide) (fun c1 => ?_) (fun c1 => ?_)
    · have hF := it_t hF c1
      exact w_X7_unstream_b70 l g h_o h_o_tape h_o_out h_o_made h_o_packed h_o_latest h_o_ahead h_o_notes h_o_elements h_o_chunks h_o_sums h_o_found h_o_before C0 o_outs o_mades o_thrown o_blockFault o_blockPlace o_opened o_literals o_wanted o_chunkMany o_skippedMany o_faultNumber o_faultPlace o_faultInner o_faultInnerPlace o_foundMany o_skips o_out_c o_made_c o_notes_c o_chunks_c o_found_c o_before_c hF _ _ _ hW (lv_sub hl [0] rfl)
    · have hF := it_f hF c1
      refine lv_aload_n C0.x C0.b dX7_unstream_54 rfl (lv_at hl 0 rfl) ?_
      refine x_get C0 hW iw_X7 0 rfl rfl 23 (by decide) (List.mem_cons_of_mem _ wl_121) (v := .int o_faultNumber) rfl dX7_unstream_55 ?_
      refine lv_if_ne (tgt := 70) C0.x C0.b dX7_unstream_58 (by decide) (fun c2 => ?_) (fun c2 => ?_)
      · have hF := it_f hF c2
        exact w_X7_unstream_b70 l g h_o h_o_tape h_o_out h_o_made h_o_packed h_o_latest h_o_ahead h_o_notes h_o_elements h_o_chunks h_o_sums h_o_found h_o_before C0 o_outs o_mades o_thrown o_blockFault o_blockPlace o_opened o_literals o_wanted o_chunkMany o_skippedMany o_faultNumber o_faultPlace o_faultInner o_faultInnerPlace o_foundMany o_skips o_out_c o_made_c o_notes_c o_chunks_c o_found_c o_before_c hF _ _ _ hW (lv_sub hl [0] rfl)
      · have hF := it_t hF c2
        refine lv_aload_n C0.x C0.b dX7_unstream_61 rfl (lv_at hl 0 rfl) ?_
        refine lv_iload_n C0.x C0.b dX7_unstream_62 rfl (lv_at hl 1 rfl) ?_
        obtain ⟨r3, e4, hF⟩ := ob hF
        refine go_i C0 hW [0, 1, 2, 3, 4, 5, 6, 7, 8, 9, 10, 11, 12] [] [0, 1, 2, 3, 4, 5, 6, 7, 8, 9, 10, 11, 12] (va_runV (As := [.int x1]) (rest := []) C0.fix (c_X7_chunkAt l g h_o h_o_tape h_o_out h_o_made h_o_packed h_o_latest h_o_ahead h_o_notes h_o_elements h_o_chunks h_o_sums h_o_found h_o_before o_outs o_packs o_thrown o_elementMany o_literalMany o_chunkMany o_skippedMany o_isFull o_out_n o_out_c o_packed_n o_packed_c o_latest_n o_latest_c o_ahead_n o_ahead_c o_elements_n o_elements_c o_chunks_n o_chunks_c e4 _) (cwV 1 C0.ts (gw_V wl_558 wl_559 wl_560 wl_5 wl_561) rfl rfl rfl (by decide +kernel) ⟨Nat.le_of_ble_eq_true rfl, Nat.le_of_ble_eq_true rfl⟩) (pcv_of C0 hW [0, 1, 2, 3, 4, 5, 6, 7, 8, 9, 10, 11, 12] rfl (by decide) (q0 := 0) rfl rfl) rfl rfl hl.1 rfl (lv_room (Nat.le_of_ble_eq_true rfl)) dX7_unstream_63 ⟨Nat.le_of_ble_eq_true rfl, Nat.le_of_ble_eq_true rfl⟩) rfl rfl (by decide) (by decide) (ws' := (wF_SnapHouseModel g h_o h_o_tape h_o_out h_o_made h_o_packed h_o_latest h_o_ahead h_o_notes h_o_elements h_o_chunks h_o_sums h_o_found h_o_before o_taped o_outs r3.2.1 o_packs o_thrown r3.2.2.1 r3.2.2.2.1 r3.2.2.2.2.1 r3.2.2.2.2.2.1 r3.2.2.2.2.2.2.1 o_elementMany o_literalMany o_chunkMany o_skippedMany r3.2.2.2.2.2.2.2.1 r3.2.2.2.2.2.2.2.2.1 r3.2.2.2.2.2.2.2.2.2.1 r3.2.2.2.2.2.2.2.2.2.2.1 r3.2.2.2.2.2.2.2.2.2.2.2.1 r3.2.2.2.2.2.2.2.2.2.2.2.2.1 o_isFull o_tape_n o_tape_c o_out_n o_out_c o_made_n r3.2.2.2.2.2.2.2.2.2.2.2.2.2.1 o_packed_n o_packed_c o_latest_n o_latest_c o_ahead_n o_ahead_c o_notes_n r3.2.2.2.2.2.2.2.2.2.2.2.2.2.2.1 o_elements_n o_elements_c o_chunks_n o_chunks_c o_sums_n o_sums_c o_found_n r3.2.2.2.2.2.2.2.2.2.2.2.2.2.2.2.1 o_before_n r3.2.2.2.2.2.2.2.2.2.2.2.2.2.2.2.2)) rfl (by decide) (fun H locs hW => ?_)
        refine lv_istore_n (lv' := [(1, .int r3.1), (0, .ref h_o)]) C0.x C0.b dX7_unstream_66 rfl hl (by decide) rfl (fun ls hl => ?_)
        refine lv_goto (tgt := 46) C0.x C0.b dX7_unstream_67 (by decide) ?_
        exact ih o_outs r3.2.1 o_thrown r3.2.2.1 r3.2.2.2.1 r3.2.2.2.2.1 r3.2.2.2.2.2.1 r3.2.2.2.2.2.2.1 o_chunkMany o_skippedMany r3.2.2.2.2.2.2.2.1 r3.2.2.2.2.2.2.2.2.1 r3.2.2.2.2.2.2.2.2.2.1 r3.2.2.2.2.2.2.2.2.2.2.1 r3.2.2.2.2.2.2.2.2.2.2.2.1 r3.2.2.2.2.2.2.2.2.2.2.2.2.1 o_out_c r3.2.2.2.2.2.2.2.2.2.2.2.2.2.1 r3.2.2.2.2.2.2.2.2.2.2.2.2.2.2.1 o_chunks_c r3.2.2.2.2.2.2.2.2.2.2.2.2.2.2.2.1 r3.2.2.2.2.2.2.2.2.2.2.2.2.2.2.2.2 r3.1 hF _ _ _ hW (lv_sub hl [1, 0] rfl)

set_option maxHeartbeats 4000000 in
set_option maxRecDepth 100000 in
/-- SnapHouseModel.unstream()I -/
theorem c_X7_unstream (l : Launch) (g : GX) (h_o h_o_tape h_o_out h_o_made h_o_packed h_o_latest h_o_ahead h_o_notes h_o_elements h_o_chunks h_o_sums h_o_found h_o_before : Nat) {K : Nat} (o_packs : Int32) (o_elementMany : Int32) (o_literalMany : Int32) (o_isFull : Int32) (o_packed_n : Nat) (o_packed_c : Nat → Int32) (o_latest_n : Nat) (o_latest_c : Nat → Int32) (o_ahead_n : Nat) (o_ahead_c : Nat → Int32) (o_elements_n : Nat) (o_elements_c : Nat → Int32) {o_taped : Int32} {o_outs : Int32} {o_mades : Int32} {o_thrown : Int32} {o_blockFault : Int32} {o_blockPlace : Int32} {o_opened : Int32} {o_literals : Int32} {o_wanted : Int32} {o_chunkMany : Int32} {o_skippedMany : Int32} {o_faultNumber : Int32} {o_faultPlace : Int32} {o_faultInner : Int32} {o_faultInnerPlace : Int32} {o_foundMany : Int32} {o_skips : Int32} {o_tape_n : Nat} {o_tape_c : Nat → Int32} {o_out_n : Nat} {o_out_c : Nat → Int32} {o_made_n : Nat} {o_made_c : Nat → Int32} {o_notes_n : Nat} {o_notes_c : Nat → Int32} {o_chunks_n : Nat} {o_chunks_c : Nat → Int32} {o_sums_n : Nat} {o_sums_c : Nat → Int32} {o_found_n : Nat} {o_found_c : Nat → Int32} {o_before_n : Nat} {o_before_c : Nat → Int32} {o : Int32 × Int32 × Int32 × Int32 × Int32 × Int32 × Int32 × Int32 × Int32 × Int32 × Int32 × Int32 × Int32 × Int32 × Int32 × Int32 × Int32 × (Nat → Int32) × (Nat → Int32) × (Nat → Int32) × (Nat → Int32) × (Nat → Int32) × (Nat → Int32)} (hF : f_X7_unstream K o_taped o_outs o_mades o_thrown o_blockFault o_blockPlace o_opened o_literals o_wanted o_chunkMany o_skippedMany o_faultNumber o_faultPlace o_faultInner o_faultInnerPlace o_foundMany o_skips o_tape_n o_tape_c o_out_n o_out_c o_made_n o_made_c o_notes_n o_notes_c o_chunks_n o_chunks_c o_sums_n o_sums_c o_found_n o_found_c o_before_n o_before_c = some o) : mcI g l yX7_unstream wA_X7_unstream rm_X7_unstream [.ref h_o] (wF_SnapHouseModel g h_o h_o_tape h_o_out h_o_made h_o_packed h_o_latest h_o_ahead h_o_notes h_o_elements h_o_chunks h_o_sums h_o_found h_o_before o_taped o_outs o_mades o_packs o_thrown o_blockFault o_blockPlace o_opened o_literals o_wanted o_elementMany o_literalMany o_chunkMany o_skippedMany o_faultNumber o_faultPlace o_faultInner o_faultInnerPlace o_foundMany o_skips o_isFull o_tape_n o_tape_c o_out_n o_out_c o_made_n o_made_c o_packed_n o_packed_c o_latest_n o_latest_c o_ahead_n o_ahead_c o_notes_n o_notes_c o_elements_n o_elements_c o_chunks_n o_chunks_c o_sums_n o_sums_c o_found_n o_found_c o_before_n o_before_c) o.1 (wF_SnapHouseModel g h_o h_o_tape h_o_out h_o_made h_o_packed h_o_latest h_o_ahead h_o_notes h_o_elements h_o_chunks h_o_sums h_o_found h_o_before o_taped o.2.1 o.2.2.1 o_packs o.2.2.2.1 o.2.2.2.2.1 o.2.2.2.2.2.1 o.2.2.2.2.2.2.1 o.2.2.2.2.2.2.2.1 o.2.2.2.2.2.2.2.2.1 o_elementMany o_literalMany o.2.2.2.2.2.2.2.2.2.1 o.2.2.2.2.2.2.2.2.2.2.1 o.2.2.2.2.2.2.2.2.2.2.2.1 o.2.2.2.2.2.2.2.2.2.2.2.2.1 o.2.2.2.2.2.2.2.2.2.2.2.2.2.1 o.2.2.2.2.2.2.2.2.2.2.2.2.2.2.1 o.2.2.2.2.2.2.2.2.2.2.2.2.2.2.2.1 o.2.2.2.2.2.2.2.2.2.2.2.2.2.2.2.2.1 o_isFull o_tape_n o_tape_c o_out_n o.2.2.2.2.2.2.2.2.2.2.2.2.2.2.2.2.2.1 o_made_n o.2.2.2.2.2.2.2.2.2.2.2.2.2.2.2.2.2.2.1 o_packed_n o_packed_c o_latest_n o_latest_c o_ahead_n o_ahead_c o_notes_n o.2.2.2.2.2.2.2.2.2.2.2.2.2.2.2.2.2.2.2.1 o_elements_n o_elements_c o_chunks_n o.2.2.2.2.2.2.2.2.2.2.2.2.2.2.2.2.2.2.2.2.1 o_sums_n o_sums_c o_found_n o.2.2.2.2.2.2.2.2.2.2.2.2.2.2.2.2.2.2.2.2.2.1 o_before_n o.2.2.2.2.2.2.2.2.2.2.2.2.2.2.2.2.2.2.2.2.2.2) 0 0 := by
  refine x_start (cc := cX7_unstream) (maxL := 3) (ret := (some .int)) (by decide) rfl (Nat.le_of_ble_eq_true rfl) ?_
  intro p e s m below meth c ls C0 hW hl
  have hl : lv_has ls 3 [(0, .ref h_o)] := hl
  unfold f_X7_unstream at hF
  refine lv_aload_n C0.x C0.b dX7_unstream_0 rfl (lv_at hl 0 rfl) ?_
  refine lv_iconst (v := (0 : Int32)) C0.x C0.b dX7_unstream_1 (by decide) ?_
  refine x_put C0 hW iw_X7 tyX7 tyX7_ok nmX7 0 rfl rfl 8 (by decide) (List.mem_cons_of_mem _ wl_148) rfl (ty := .int) (v := .int (0 : Int32)) (by decide +kernel) rfl rfl (Nat.le_of_ble_eq_true rfl) dX7_unstream_2 (ws' := (wF_SnapHouseModel g h_o h_o_tape h_o_out h_o_made h_o_packed h_o_latest h_o_ahead h_o_notes h_o_elements h_o_chunks h_o_sums h_o_found h_o_before o_taped o_outs o_mades o_packs (0 : Int32) o_blockFault o_blockPlace o_opened o_literals o_wanted o_elementMany o_literalMany o_chunkMany o_skippedMany o_faultNumber o_faultPlace o_faultInner o_faultInnerPlace o_foundMany o_skips o_isFull o_tape_n o_tape_c o_out_n o_out_c o_made_n o_made_c o_packed_n o_packed_c o_latest_n o_latest_c o_ahead_n o_ahead_c o_notes_n o_notes_c o_elements_n o_elements_c o_chunks_n o_chunks_c o_sums_n o_sums_c o_found_n o_found_c o_before_n o_before_c)) rfl (fun H locs hW => ?_)
  refine lv_aload_n C0.x C0.b dX7_unstream_5 rfl (lv_at hl 0 rfl) ?_
  refine lv_iconst (v := (0 : Int32)) C0.x C0.b dX7_unstream_6 (by decide) ?_
  refine x_put C0 hW iw_X7 tyX7 tyX7_ok nmX7 0 rfl rfl 6 (by decide) (List.mem_cons_of_mem _ wl_409) rfl (ty := .int) (v := .int (0 : Int32)) (by decide +kernel) rfl rfl (Nat.le_of_ble_eq_true rfl) dX7_unstream_7 (ws' := (wF_SnapHouseModel g h_o h_o_tape h_o_out h_o_made h_o_packed h_o_latest h_o_ahead h_o_notes h_o_elements h_o_chunks h_o_sums h_o_found h_o_before o_taped o_outs (0 : Int32) o_packs (0 : Int32) o_blockFault o_blockPlace o_opened o_literals o_wanted o_elementMany o_literalMany o_chunkMany o_skippedMany o_faultNumber o_faultPlace o_faultInner o_faultInnerPlace o_foundMany o_skips o_isFull o_tape_n o_tape_c o_out_n o_out_c o_made_n o_made_c o_packed_n o_packed_c o_latest_n o_latest_c o_ahead_n o_ahead_c o_notes_n o_notes_c o_elements_n o_elements_c o_chunks_n o_chunks_c o_sums_n o_sums_c o_found_n o_found_c o_before_n o_before_c)) rfl (fun H locs hW => ?_)
  refine lv_aload_n C0.x C0.b dX7_unstream_10 rfl (lv_at hl 0 rfl) ?_
  refine lv_iconst (v := (0 : Int32)) C0.x C0.b dX7_unstream_11 (by decide) ?_
  refine x_put C0 hW iw_X7 tyX7 tyX7_ok nmX7 0 rfl rfl 29 (by decide) (List.mem_cons_of_mem _ wl_554) rfl (ty := .int) (v := .int (0 : Int32)) (by decide +kernel) rfl rfl (Nat.le_of_ble_eq_true rfl) dX7_unstream_12 (ws' := (wF_SnapHouseModel g h_o h_o_tape h_o_out h_o_made h_o_packed h_o_latest h_o_ahead h_o_notes h_o_elements h_o_chunks h_o_sums h_o_found h_o_before o_taped o_outs (0 : Int32) o_packs (0 : Int32) o_blockFault o_blockPlace o_opened o_literals o_wanted o_elementMany o_literalMany o_chunkMany o_skippedMany o_faultNumber o_faultPlace o_faultInner o_faultInnerPlace (0 : Int32) o_skips o_isFull o_tape_n o_tape_c o_out_n o_out_c o_made_n o_made_c o_packed_n o_packed_c o_latest_n o_latest_c o_ahead_n o_ahead_c o_notes_n o_notes_c o_elements_n o_elements_c o_chunks_n o_chunks_c o_sums_n o_sums_c o_found_n o_found_c o_before_n o_before_c)) rfl (fun H locs hW => ?_)
  refine lv_aload_n C0.x C0.b dX7_unstream_15 rfl (lv_at hl 0 rfl) ?_
  refine lv_iconst (v := (0 : Int32)) C0.x C0.b dX7_unstream_16 (by decide) ?_
  refine x_put C0 hW iw_X7 tyX7 tyX7_ok nmX7 0 rfl rfl 30 (by decide) (List.mem_cons_of_mem _ wl_555) rfl (ty := .int) (v := .int (0 : Int32)) (by decide +kernel) rfl rfl (Nat.le_of_ble_eq_true rfl) dX7_unstream_17 (ws' := (wF_SnapHouseModel g h_o h_o_tape h_o_out h_o_made h_o_packed h_o_latest h_o_ahead h_o_notes h_o_elements h_o_chunks h_o_sums h_o_found h_o_before o_taped o_outs (0 : Int32) o_packs (0 : Int32) o_blockFault o_blockPlace o_opened o_literals o_wanted o_elementMany o_literalMany o_chunkMany o_skippedMany o_faultNumber o_faultPlace o_faultInner o_faultInnerPlace (0 : Int32) (0 : Int32) o_isFull o_tape_n o_tape_c o_out_n o_out_c o_made_n o_made_c o_packed_n o_packed_c o_latest_n o_latest_c o_ahead_n o_ahead_c o_notes_n o_notes_c o_elements_n o_elements_c o_chunks_n o_chunks_c o_sums_n o_sums_c o_found_n o_found_c o_before_n o_before_c)) rfl (fun H locs hW => ?_)
  refine lv_aload_n C0.x C0.b dX7_unstream_20 rfl (lv_at hl 0 rfl) ?_
  refine lv_iconst (v := (0 : Int32)) C0.x C0.b dX7_unstream_21 (by decide) ?_
  refine lv_iconst (v := (-1 : Int32)) C0.x C0.b dX7_unstream_22 (by decide) ?_
  refine lv_iconst (v := (0 : Int32)) C0.x C0.b dX7_unstream_23 (by decide) ?_
  refine lv_iconst (v := (-1 : Int32)) C0.x C0.b dX7_unstream_24 (by decide) ?_
  obtain ⟨r1, e2, hF⟩ := ob hF
  refine go_v C0 hW [0, 1, 2, 3, 4, 5, 6, 7, 8, 9, 10, 11, 12] [] [0, 1, 2, 3, 4, 5, 6, 7, 8, 9, 10, 11, 12] (va_runV (As := [.int (0 : Int32), .int (-1 : Int32), .int (0 : Int32), .int (-1 : Int32)]) (rest := []) C0.fix (c_X7_told l g h_o h_o_tape h_o_out h_o_made h_o_packed h_o_latest h_o_ahead h_o_notes h_o_elements h_o_chunks h_o_sums h_o_found h_o_before o_taped o_outs (0 : Int32) o_packs (0 : Int32) o_blockFault o_blockPlace o_opened o_literals o_wanted o_elementMany o_literalMany o_chunkMany o_skippedMany (0 : Int32) (0 : Int32) o_isFull o_tape_n o_tape_c o_out_n o_out_c o_made_n o_made_c o_packed_n o_packed_c o_latest_n o_latest_c o_ahead_n o_ahead_c o_notes_n o_notes_c o_elements_n o_elements_c o_chunks_n o_chunks_c o_sums_n o_sums_c o_found_n o_found_c o_before_n o_before_c e2 _) (cwV 4 C0.ts (gw_V wl_432 wl_433 wl_434 wl_5 wl_435) rfl rfl rfl (by decide +kernel) ⟨Nat.le_of_ble_eq_true rfl, Nat.le_of_ble_eq_true rfl⟩) (pcv_of C0 hW [0, 1, 2, 3, 4, 5, 6, 7, 8, 9, 10, 11, 12] rfl (by decide) (q0 := 0) rfl rfl) rfl rfl hl.1 rfl (lv_room (Nat.le_of_ble_eq_true rfl)) dX7_unstream_25 ⟨Nat.le_of_ble_eq_true rfl, Nat.le_of_ble_eq_true rfl⟩) rfl rfl (by decide) (by decide) (ws' := (wF_SnapHouseModel g h_o h_o_tape h_o_out h_o_made h_o_packed h_o_latest h_o_ahead h_o_notes h_o_elements h_o_chunks h_o_sums h_o_found h_o_before o_taped o_outs (0 : Int32) o_packs (0 : Int32) o_blockFault o_blockPlace o_opened o_literals o_wanted o_elementMany o_literalMany o_chunkMany o_skippedMany r1.1 r1.2.1 r1.2.2.1 r1.2.2.2 (0 : Int32) (0 : Int32) o_isFull o_tape_n o_tape_c o_out_n o_out_c o_made_n o_made_c o_packed_n o_packed_c o_latest_n o_latest_c o_ahead_n o_ahead_c o_notes_n o_notes_c o_elements_n o_elements_c o_chunks_n o_chunks_c o_sums_n o_sums_c o_found_n o_found_c o_before_n o_before_c)) rfl (by decide) (fun H locs hW => ?_)
  refine lv_iconst (v := (0 : Int32)) C0.x C0.b dX7_unstream_28 (by decide) ?_
  refine lv_istore_n (lv' := [(1, .int (0 : Int32)), (0, .ref h_o)]) C0.x C0.b dX7_unstream_29 rfl hl (by decide) rfl (fun ls hl => ?_)
  refine lv_aload_n C0.x C0.b dX7_unstream_30 rfl (lv_at hl 1 rfl) ?_
  refine x_get C0 hW iw_X7 0 rfl rfl 4 (by decide) (List.mem_cons_of_mem _ wl_149) (v := .int o_taped) rfl dX7_unstream_31 ?_
  refine lv_if_ne (tgt := 46) C0.x C0.b dX7_unstream_34 (by decide) (fun c3 => ?_) (fun c3 => ?_)
  · have hF := it_f hF c3
    exact w_X7_unstream_b46 l g h_o h_o_tape h_o_out h_o_made h_o_packed h_o_latest h_o_ahead h_o_notes h_o_elements h_o_chunks h_o_sums h_o_found h_o_before C0 K o_outs (0 : Int32) (0 : Int32) o_blockFault o_blockPlace o_opened o_literals o_wanted o_chunkMany o_skippedMany r1.1 r1.2.1 r1.2.2.1 r1.2.2.2 (0 : Int32) (0 : Int32) o_out_c o_made_c o_notes_c o_chunks_c o_found_c o_before_c (0 : Int32) hF _ _ _ hW (lv_sub hl [1, 0] rfl)
  · have hF := it_t hF c3
    refine lv_aload_n C0.x C0.b dX7_unstream_37 rfl (lv_at hl 1 rfl) ?_
    refine lv_bipush (v := (11 : Int32)) C0.x C0.b dX7_unstream_38 (by decide) ?_
    refine lv_iconst (v := (0 : Int32)) C0.x C0.b dX7_unstream_40 (by decide) ?_
    refine lv_iconst (v := (0 : Int32)) C0.x C0.b dX7_unstream_41 (by decide) ?_
    refine lv_iconst (v := (-1 : Int32)) C0.x C0.b dX7_unstream_42 (by decide) ?_
    obtain ⟨r4, e5, hF⟩ := ob hF
    refine go_v C0 hW [0, 1, 2, 3, 4, 5, 6, 7, 8, 9, 10, 11, 12] [] [0, 1, 2, 3, 4, 5, 6, 7, 8, 9, 10, 11, 12] (va_runV (As := [.int (11 : Int32), .int (0 : Int32), .int (0 : Int32), .int (-1 : Int32)]) (rest := []) C0.fix (c_X7_told l g h_o h_o_tape h_o_out h_o_made h_o_packed h_o_latest h_o_ahead h_o_notes h_o_elements h_o_chunks h_o_sums h_o_found h_o_before o_taped o_outs (0 : Int32) o_packs (0 : Int32) o_blockFault o_blockPlace o_opened o_literals o_wanted o_elementMany o_literalMany o_chunkMany o_skippedMany (0 : Int32) (0 : Int32) o_isFull o_tape_n o_tape_c o_out_n o_out_c o_made_n o_made_c o_packed_n o_packed_c o_latest_n o_latest_c o_ahead_n o_ahead_c o_notes_n o_notes_c o_elements_n o_elements_c o_chunks_n o_chunks_c o_sums_n o_sums_c o_found_n o_found_c o_before_n o_before_c e5 _) (cwV 4 C0.ts (gw_V wl_432 wl_433 wl_434 wl_5 wl_435) rfl rfl rfl (by decide +kernel) ⟨Nat.le_of_ble_eq_true rfl, Nat.le_of_ble_eq_true rfl⟩) (pcv_of C0 hW [0, 1, 2, 3, 4, 5, 6, 7, 8, 9, 10, 11, 12] rfl (by decide) (q0 := 0) rfl rfl) rfl rfl hl.1 rfl (lv_room (Nat.le_of_ble_eq_true rfl)) dX7_unstream_43 ⟨Nat.le_of_ble_eq_true rfl, Nat.le_of_ble_eq_true rfl⟩) rfl rfl (by decide) (by decide) (ws' := (wF_SnapHouseModel g h_o h_o_tape h_o_out h_o_made h_o_packed h_o_latest h_o_ahead h_o_notes h_o_elements h_o_chunks h_o_sums h_o_found h_o_before o_taped o_outs (0 : Int32) o_packs (0 : Int32) o_blockFault o_blockPlace o_opened o_literals o_wanted o_elementMany o_literalMany o_chunkMany o_skippedMany r4.1 r4.2.1 r4.2.2.1 r4.2.2.2 (0 : Int32) (0 : Int32) o_isFull o_tape_n o_tape_c o_out_n o_out_c o_made_n o_made_c o_packed_n o_packed_c o_latest_n o_latest_c o_ahead_n o_ahead_c o_notes_n o_notes_c o_elements_n o_elements_c o_chunks_n o_chunks_c o_sums_n o_sums_c o_found_n o_found_c o_before_n o_before_c)) rfl (by decide) (fun H locs hW => ?_)
    exact w_X7_unstream_b46 l g h_o h_o_tape h_o_out h_o_made h_o_packed h_o_latest h_o_ahead h_o_notes h_o_elements h_o_chunks h_o_sums h_o_found h_o_before C0 K o_outs (0 : Int32) (0 : Int32) o_blockFault o_blockPlace o_opened o_literals o_wanted o_chunkMany o_skippedMany r4.1 r4.2.1 r4.2.2.1 r4.2.2.2 (0 : Int32) (0 : Int32) o_out_c o_made_c o_notes_c o_chunks_c o_found_c o_before_c (0 : Int32) hF _ _ _ hW (lv_sub hl [1, 0] rfl)

abbrev rm_X7_fault : Room := { frames := 0, cells := 0, slots := 0, locals := 0 }

set_option maxHeartbeats 4000000 in
set_option maxRecDepth 100000 in
/-- SnapHouseModel.fault(I)I -/
theorem c_X7_fault (l : Launch) (g : GX) (h_o h_o_tape h_o_out h_o_made h_o_packed h_o_latest h_o_ahead h_o_notes h_o_elements h_o_chunks h_o_sums h_o_found h_o_before : Nat) {K : Nat} (o_taped : Int32) (o_outs : Int32) (o_mades : Int32) (o_packs : Int32) (o_blockFault : Int32) (o_blockPlace : Int32) (o_opened : Int32) (o_literals : Int32) (o_wanted : Int32) (o_elementMany : Int32) (o_literalMany : Int32) (o_chunkMany : Int32) (o_skippedMany : Int32) (o_foundMany : Int32) (o_skips : Int32) (o_isFull : Int32) (o_tape_n : Nat) (o_tape_c : Nat → Int32) (o_out_n : Nat) (o_out_c : Nat → Int32) (o_made_n : Nat) (o_made_c : Nat → Int32) (o_packed_n : Nat) (o_packed_c : Nat → Int32) (o_latest_n : Nat) (o_latest_c : Nat → Int32) (o_ahead_n : Nat) (o_ahead_c : Nat → Int32) (o_notes_n : Nat) (o_notes_c : Nat → Int32) (o_elements_n : Nat) (o_elements_c : Nat → Int32) (o_chunks_n : Nat) (o_chunks_c : Nat → Int32) (o_sums_n : Nat) (o_sums_c : Nat → Int32) (o_found_n : Nat) (o_found_c : Nat → Int32) (o_before_n : Nat) (o_before_c : Nat → Int32) {o_thrown : Int32} {o_faultNumber : Int32} {o_faultPlace : Int32} {o_faultInner : Int32} {o_faultInnerPlace : Int32} {p1 : Int32} {o : Int32 × Int32} (hF : f_X7_fault K o_thrown o_faultNumber o_faultPlace o_faultInner o_faultInnerPlace p1 = some o) : mcI g l yX7_fault wA_X7_fault rm_X7_fault [.ref h_o, .int p1] (wF_SnapHouseModel g h_o h_o_tape h_o_out h_o_made h_o_packed h_o_latest h_o_ahead h_o_notes h_o_elements h_o_chunks h_o_sums h_o_found h_o_before o_taped o_outs o_mades o_packs o_thrown o_blockFault o_blockPlace o_opened o_literals o_wanted o_elementMany o_literalMany o_chunkMany o_skippedMany o_faultNumber o_faultPlace o_faultInner o_faultInnerPlace o_foundMany o_skips o_isFull o_tape_n o_tape_c o_out_n o_out_c o_made_n o_made_c o_packed_n o_packed_c o_latest_n o_latest_c o_ahead_n o_ahead_c o_notes_n o_notes_c o_elements_n o_elements_c o_chunks_n o_chunks_c o_sums_n o_sums_c o_found_n o_found_c o_before_n o_before_c) o.1 (wF_SnapHouseModel g h_o h_o_tape h_o_out h_o_made h_o_packed h_o_latest h_o_ahead h_o_notes h_o_elements h_o_chunks h_o_sums h_o_found h_o_before o_taped o_outs o_mades o_packs o.2 o_blockFault o_blockPlace o_opened o_literals o_wanted o_elementMany o_literalMany o_chunkMany o_skippedMany o_faultNumber o_faultPlace o_faultInner o_faultInnerPlace o_foundMany o_skips o_isFull o_tape_n o_tape_c o_out_n o_out_c o_made_n o_made_c o_packed_n o_packed_c o_latest_n o_latest_c o_ahead_n o_ahead_c o_notes_n o_notes_c o_elements_n o_elements_c o_chunks_n o_chunks_c o_sums_n o_sums_c o_found_n o_found_c o_before_n o_before_c) 0 0 := by
  refine x_start (cc := cX7_fault) (maxL := 2) (ret := (some .int)) (by decide) rfl (Nat.le_of_ble_eq_true rfl) ?_
  intro p e s m below meth c ls C0 hW hl
  have hl : lv_has ls 2 [(0, .ref h_o), (1, .int p1)] := hl
  unfold f_X7_fault at hF
  refine lv_aload_n C0.x C0.b dX7_fault_0 rfl (lv_at hl 0 rfl) ?_
  refine lv_iconst (v := (0 : Int32)) C0.x C0.b dX7_fault_1 (by decide) ?_
  refine x_put C0 hW iw_X7 tyX7 tyX7_ok nmX7 0 rfl rfl 8 (by decide) (List.mem_cons_of_mem _ wl_148) rfl (ty := .int) (v := .int (0 : Int32)) (by decide +kernel) rfl rfl (Nat.le_of_ble_eq_true rfl) dX7_fault_2 (ws' := (wF_SnapHouseModel g h_o h_o_tape h_o_out h_o_made h_o_packed h_o_latest h_o_ahead h_o_notes h_o_elements h_o_chunks h_o_sums h_o_found h_o_before o_taped o_outs o_mades o_packs (0 : Int32) o_blockFault o_blockPlace o_opened o_literals o_wanted o_elementMany o_literalMany o_chunkMany o_skippedMany o_faultNumber o_faultPlace o_faultInner o_faultInnerPlace o_foundMany o_skips o_isFull o_tape_n o_tape_c o_out_n o_out_c o_made_n o_made_c o_packed_n o_packed_c o_latest_n o_latest_c o_ahead_n o_ahead_c o_notes_n o_notes_c o_elements_n o_elements_c o_chunks_n o_chunks_c o_sums_n o_sums_c o_found_n o_found_c o_before_n o_before_c)) rfl (fun H locs hW => ?_)
  refine lv_aload_n C0.x C0.b dX7_fault_5 rfl (lv_at hl 0 rfl) ?_
  refine x_get C0 hW iw_X7 0 rfl rfl 23 (by decide) (List.mem_cons_of_mem _ wl_121) (v := .int o_faultNumber) rfl dX7_fault_6 ?_
  refine lv_if_ge (tgt := 14) C0.x C0.b dX7_fault_9 (by decide) (fun c1 => ?_) (fun c1 => ?_)
  · have hF := it_t hF c1
    refine lv_iload_n C0.x C0.b dX7_fault_14 rfl (lv_at hl 1 rfl) ?_
    by_cases c2 : p1 = (0 : Int32)
    · have hF := it_t hF c2
      refine lv_tableIn (tgt := 44) C0.x C0.b dX7_fault_15 (by rw [c2]; decide) (by rw [c2]; decide) (by rw [c2]; rfl) (by decide) ?_
      refine lv_aload_n C0.x C0.b dX7_fault_44 rfl (lv_at hl 0 rfl) ?_
      refine x_get C0 hW iw_X7 0 rfl rfl 23 (by decide) (List.mem_cons_of_mem _ wl_121) (v := .int o_faultNumber) rfl dX7_fault_45 ?_
      obtain rfl := Option.some.inj hF
      exact x_iret C0 hW rfl rfl dX7_fault_48
    have hF := it_f hF c2
    by_cases c3 : p1 = (1 : Int32)
    · have hF := it_t hF c3
      refine lv_tableIn (tgt := 49) C0.x C0.b dX7_fault_15 (by rw [c3]; decide) (by rw [c3]; decide) (by rw [c3]; rfl) (by decide) ?_
      refine lv_aload_n C0.x C0.b dX7_fault_49 rfl (lv_at hl 0 rfl) ?_
      refine x_get C0 hW iw_X7 0 rfl rfl 24 (by decide) (List.mem_cons_of_mem _ wl_122) (v := .int o_faultPlace) rfl dX7_fault_50 ?_
      obtain rfl := Option.some.inj hF
      exact x_iret C0 hW rfl rfl dX7_fault_53
    have hF := it_f hF c3
    by_cases c4 : p1 = (2 : Int32)
    · have hF := it_t hF c4
      refine lv_tableIn (tgt := 54) C0.x C0.b dX7_fault_15 (by rw [c4]; decide) (by rw [c4]; decide) (by rw [c4]; rfl) (by decide) ?_
      refine lv_aload_n C0.x C0.b dX7_fault_54 rfl (lv_at hl 0 rfl) ?_
      refine x_get C0 hW iw_X7 0 rfl rfl 25 (by decide) (List.mem_cons_of_mem _ wl_436) (v := .int o_faultInner) rfl dX7_fault_55 ?_
      obtain rfl := Option.some.inj hF
      exact x_iret C0 hW rfl rfl dX7_fault_58
    have hF := it_f hF c4
    by_cases c5 : p1 = (3 : Int32)
    · have hF := it_t hF c5
      refine lv_tableIn (tgt := 59) C0.x C0.b dX7_fault_15 (by rw [c5]; decide) (by rw [c5]; decide) (by rw [c5]; rfl) (by decide) ?_
      refine lv_aload_n C0.x C0.b dX7_fault_59 rfl (lv_at hl 0 rfl) ?_
      refine x_get C0 hW iw_X7 0 rfl rfl 26 (by decide) (List.mem_cons_of_mem _ wl_123) (v := .int o_faultInnerPlace) rfl dX7_fault_60 ?_
      obtain rfl := Option.some.inj hF
      exact x_iret C0 hW rfl rfl dX7_fault_63
    have hF := it_f hF c5
    refine lv_tableOut (tgt := 64) C0.x C0.b dX7_fault_15 (by have hc2 := lv_neT c2 (a := 0) rfl; have hc3 := lv_neT c3 (a := 1) rfl; have hc4 := lv_neT c4 (a := 2) rfl; have hc5 := lv_neT c5 (a := 3) rfl; omega) (by decide) ?_
    refine lv_iconst (v := (-1 : Int32)) C0.x C0.b dX7_fault_64 (by decide) ?_
    obtain rfl := Option.some.inj hF
    exact x_iret C0 hW rfl rfl dX7_fault_65
  · have hF := it_f hF c1
    refine lv_iconst (v := (-1 : Int32)) C0.x C0.b dX7_fault_12 (by decide) ?_
    obtain rfl := Option.some.inj hF
    exact x_iret C0 hW rfl rfl dX7_fault_13

abbrev rm_X7_element : Room := { frames := 0, cells := 0, slots := 0, locals := 0 }

set_option maxHeartbeats 4000000 in
set_option maxRecDepth 100000 in
/-- SnapHouseModel.element(II)I -/
theorem c_X7_element (l : Launch) (g : GX) (h_o h_o_tape h_o_out h_o_made h_o_packed h_o_latest h_o_ahead h_o_notes h_o_elements h_o_chunks h_o_sums h_o_found h_o_before : Nat) {K : Nat} (o_taped : Int32) (o_outs : Int32) (o_mades : Int32) (o_packs : Int32) (o_blockFault : Int32) (o_blockPlace : Int32) (o_opened : Int32) (o_literals : Int32) (o_wanted : Int32) (o_literalMany : Int32) (o_chunkMany : Int32) (o_skippedMany : Int32) (o_faultNumber : Int32) (o_faultPlace : Int32) (o_faultInner : Int32) (o_faultInnerPlace : Int32) (o_foundMany : Int32) (o_skips : Int32) (o_isFull : Int32) (o_tape_n : Nat) (o_tape_c : Nat → Int32) (o_out_n : Nat) (o_out_c : Nat → Int32) (o_made_n : Nat) (o_made_c : Nat → Int32) (o_packed_n : Nat) (o_packed_c : Nat → Int32) (o_latest_n : Nat) (o_latest_c : Nat → Int32) (o_ahead_n : Nat) (o_ahead_c : Nat → Int32) (o_notes_n : Nat) (o_notes_c : Nat → Int32) (o_chunks_n : Nat) (o_chunks_c : Nat → Int32) (o_sums_n : Nat) (o_sums_c : Nat → Int32) (o_found_n : Nat) (o_found_c : Nat → Int32) (o_before_n : Nat) (o_before_c : Nat → Int32) {o_thrown : Int32} {o_elementMany : Int32} {o_elements_n : Nat} {o_elements_c : Nat → Int32} {p1 : Int32} {p2 : Int32} {o : Int32 × Int32} (hF : f_X7_element K o_thrown o_elementMany o_elements_n o_elements_c p1 p2 = some o) : mcI g l yX7_element wA_X7_element rm_X7_element [.ref h_o, .int p1, .int p2] (wF_SnapHouseModel g h_o h_o_tape h_o_out h_o_made h_o_packed h_o_latest h_o_ahead h_o_notes h_o_elements h_o_chunks h_o_sums h_o_found h_o_before o_taped o_outs o_mades o_packs o_thrown o_blockFault o_blockPlace o_opened o_literals o_wanted o_elementMany o_literalMany o_chunkMany o_skippedMany o_faultNumber o_faultPlace o_faultInner o_faultInnerPlace o_foundMany o_skips o_isFull o_tape_n o_tape_c o_out_n o_out_c o_made_n o_made_c o_packed_n o_packed_c o_latest_n o_latest_c o_ahead_n o_ahead_c o_notes_n o_notes_c o_elements_n o_elements_c o_chunks_n o_chunks_c o_sums_n o_sums_c o_found_n o_found_c o_before_n o_before_c) o.1 (wF_SnapHouseModel g h_o h_o_tape h_o_out h_o_made h_o_packed h_o_latest h_o_ahead h_o_notes h_o_elements h_o_chunks h_o_sums h_o_found h_o_before o_taped o_outs o_mades o_packs o.2 o_blockFault o_blockPlace o_opened o_literals o_wanted o_elementMany o_literalMany o_chunkMany o_skippedMany o_faultNumber o_faultPlace o_faultInner o_faultInnerPlace o_foundMany o_skips o_isFull o_tape_n o_tape_c o_out_n o_out_c o_made_n o_made_c o_packed_n o_packed_c o_latest_n o_latest_c o_ahead_n o_ahead_c o_notes_n o_notes_c o_elements_n o_elements_c o_chunks_n o_chunks_c o_sums_n o_sums_c o_found_n o_found_c o_before_n o_before_c) 0 0 := by
  refine x_start (cc := cX7_element) (maxL := 3) (ret := (some .int)) (by decide) rfl (Nat.le_of_ble_eq_true rfl) ?_
  intro p e s m below meth c ls C0 hW hl
  have hl : lv_has ls 3 [(0, .ref h_o), (1, .int p1), (2, .int p2)] := hl
  unfold f_X7_element at hF
  refine lv_aload_n C0.x C0.b dX7_element_0 rfl (lv_at hl 0 rfl) ?_
  refine lv_iconst (v := (0 : Int32)) C0.x C0.b dX7_element_1 (by decide) ?_
  refine x_put C0 hW iw_X7 tyX7 tyX7_ok nmX7 0 rfl rfl 8 (by decide) (List.mem_cons_of_mem _ wl_148) rfl (ty := .int) (v := .int (0 : Int32)) (by decide +kernel) rfl rfl (Nat.le_of_ble_eq_true rfl) dX7_element_2 (ws' := (wF_SnapHouseModel g h_o h_o_tape h_o_out h_o_made h_o_packed h_o_latest h_o_ahead h_o_notes h_o_elements h_o_chunks h_o_sums h_o_found h_o_before o_taped o_outs o_mades o_packs (0 : Int32) o_blockFault o_blockPlace o_opened o_literals o_wanted o_elementMany o_literalMany o_chunkMany o_skippedMany o_faultNumber o_faultPlace o_faultInner o_faultInnerPlace o_foundMany o_skips o_isFull o_tape_n o_tape_c o_out_n o_out_c o_made_n o_made_c o_packed_n o_packed_c o_latest_n o_latest_c o_ahead_n o_ahead_c o_notes_n o_notes_c o_elements_n o_elements_c o_chunks_n o_chunks_c o_sums_n o_sums_c o_found_n o_found_c o_before_n o_before_c)) rfl (fun H locs hW => ?_)
  refine lv_iload_n C0.x C0.b dX7_element_5 rfl (lv_at hl 1 rfl) ?_
  refine lv_if_lt (tgt := 46) C0.x C0.b dX7_element_6 (by decide) (fun c1 => ?_) (fun c1 => ?_)
  · have hF := it_t hF c1
    refine lv_iconst (v := (-1 : Int32)) C0.x C0.b dX7_element_46 (by decide) ?_
    obtain rfl := Option.some.inj hF
    exact x_iret C0 hW rfl rfl dX7_element_47
  · have hF := it_f hF c1
    refine lv_iload_n C0.x C0.b dX7_element_9 rfl (lv_at hl 1 rfl) ?_
    refine lv_aload_n C0.x C0.b dX7_element_10 rfl (lv_at hl 0 rfl) ?_
    refine x_get C0 hW iw_X7 0 rfl rfl 19 (by decide) (List.mem_cons_of_mem _ wl_413) (v := .int o_elementMany) rfl dX7_element_11 ?_
    refine lv_icmp_ge (tgt := 46) C0.x C0.b dX7_element_14 (by decide) (fun c2 => ?_) (fun c2 => ?_)
    · have hF := it_t hF c2
      refine lv_iconst (v := (-1 : Int32)) C0.x C0.b dX7_element_46 (by decide) ?_
      obtain rfl := Option.some.inj hF
      exact x_iret C0 hW rfl rfl dX7_element_47
    · have hF := it_f hF c2
      refine lv_iload_n C0.x C0.b dX7_element_17 rfl (lv_at hl 1 rfl) ?_
      refine lv_sipush (v := (1000 : Int32)) C0.x C0.b dX7_element_18 (by decide) ?_
      refine lv_icmp_ge (tgt := 46) C0.x C0.b dX7_element_21 (by decide) (fun c3 => ?_) (fun c3 => ?_)
      · have hF := it_t hF c3
        refine lv_iconst (v := (-1 : Int32)) C0.x C0.b dX7_element_46 (by decide) ?_
        obtain rfl := Option.some.inj hF
        exact x_iret C0 hW rfl rfl dX7_element_47
      · have hF := it_f hF c3
        refine lv_iload_n C0.x C0.b dX7_element_24 rfl (lv_at hl 2 rfl) ?_
        refine lv_if_lt (tgt := 46) C0.x C0.b dX7_element_25 (by decide) (fun c4 => ?_) (fun c4 => ?_)
        · have hF := it_t hF c4
          refine lv_iconst (v := (-1 : Int32)) C0.x C0.b dX7_element_46 (by decide) ?_
          obtain rfl := Option.some.inj hF
          exact x_iret C0 hW rfl rfl dX7_element_47
        · have hF := it_f hF c4
          refine lv_iload_n C0.x C0.b dX7_element_28 rfl (lv_at hl 2 rfl) ?_
          refine lv_iconst (v := (5 : Int32)) C0.x C0.b dX7_element_29 (by decide) ?_
          refine lv_icmp_ge (tgt := 46) C0.x C0.b dX7_element_30 (by decide) (fun c5 => ?_) (fun c5 => ?_)
          · have hF := it_t hF c5
            refine lv_iconst (v := (-1 : Int32)) C0.x C0.b dX7_element_46 (by decide) ?_
            obtain rfl := Option.some.inj hF
            exact x_iret C0 hW rfl rfl dX7_element_47
          · have hF := it_f hF c5
            refine lv_aload_n C0.x C0.b dX7_element_33 rfl (lv_at hl 0 rfl) ?_
            refine x_get C0 hW iw_X7 0 rfl rfl 17 (by decide) (List.mem_cons_of_mem _ wl_119) (v := .ref h_o_elements) rfl dX7_element_34 ?_
            refine lv_iconst (v := (5 : Int32)) C0.x C0.b dX7_element_37 (by decide) ?_
            refine lv_iload_n C0.x C0.b dX7_element_38 rfl (lv_at hl 1 rfl) ?_
            refine lv_imul C0.x C0.b dX7_element_39 ?_
            refine lv_iload_n C0.x C0.b dX7_element_40 rfl (lv_at hl 2 rfl) ?_
            refine lv_iadd C0.x C0.b dX7_element_41 ?_
            obtain ⟨h6, hF⟩ := ck_some hF
            refine x_iald C0 hW 8 0 rfl rfl h6 dX7_element_42 ?_
            refine lv_goto (tgt := 47) C0.x C0.b dX7_element_43 (by decide) ?_
            obtain rfl := Option.some.inj hF
            exact x_iret C0 hW rfl rfl dX7_element_47

abbrev rm_X7_chunk : Room := { frames := 0, cells := 0, slots := 0, locals := 0 }

set_option maxHeartbeats 4000000 in
set_option maxRecDepth 100000 in
/-- SnapHouseModel.chunk(II)I -/
theorem c_X7_chunk (l : Launch) (g : GX) (h_o h_o_tape h_o_out h_o_made h_o_packed h_o_latest h_o_ahead h_o_notes h_o_elements h_o_chunks h_o_sums h_o_found h_o_before : Nat) {K : Nat} (o_taped : Int32) (o_outs : Int32) (o_mades : Int32) (o_packs : Int32) (o_blockFault : Int32) (o_blockPlace : Int32) (o_opened : Int32) (o_literals : Int32) (o_wanted : Int32) (o_elementMany : Int32) (o_literalMany : Int32) (o_skippedMany : Int32) (o_faultNumber : Int32) (o_faultPlace : Int32) (o_faultInner : Int32) (o_faultInnerPlace : Int32) (o_foundMany : Int32) (o_skips : Int32) (o_isFull : Int32) (o_tape_n : Nat) (o_tape_c : Nat → Int32) (o_out_n : Nat) (o_out_c : Nat → Int32) (o_made_n : Nat) (o_made_c : Nat → Int32) (o_packed_n : Nat) (o_packed_c : Nat → Int32) (o_latest_n : Nat) (o_latest_c : Nat → Int32) (o_ahead_n : Nat) (o_ahead_c : Nat → Int32) (o_notes_n : Nat) (o_notes_c : Nat → Int32) (o_elements_n : Nat) (o_elements_c : Nat → Int32) (o_sums_n : Nat) (o_sums_c : Nat → Int32) (o_found_n : Nat) (o_found_c : Nat → Int32) (o_before_n : Nat) (o_before_c : Nat → Int32) {o_thrown : Int32} {o_chunkMany : Int32} {o_chunks_n : Nat} {o_chunks_c : Nat → Int32} {p1 : Int32} {p2 : Int32} {o : Int32 × Int32} (hF : f_X7_chunk K o_thrown o_chunkMany o_chunks_n o_chunks_c p1 p2 = some o) : mcI g l yX7_chunk wA_X7_chunk rm_X7_chunk [.ref h_o, .int p1, .int p2] (wF_SnapHouseModel g h_o h_o_tape h_o_out h_o_made h_o_packed h_o_latest h_o_ahead h_o_notes h_o_elements h_o_chunks h_o_sums h_o_found h_o_before o_taped o_outs o_mades o_packs o_thrown o_blockFault o_blockPlace o_opened o_literals o_wanted o_elementMany o_literalMany o_chunkMany o_skippedMany o_faultNumber o_faultPlace o_faultInner o_faultInnerPlace o_foundMany o_skips o_isFull o_tape_n o_tape_c o_out_n o_out_c o_made_n o_made_c o_packed_n o_packed_c o_latest_n o_latest_c o_ahead_n o_ahead_c o_notes_n o_notes_c o_elements_n o_elements_c o_chunks_n o_chunks_c o_sums_n o_sums_c o_found_n o_found_c o_before_n o_before_c) o.1 (wF_SnapHouseModel g h_o h_o_tape h_o_out h_o_made h_o_packed h_o_latest h_o_ahead h_o_notes h_o_elements h_o_chunks h_o_sums h_o_found h_o_before o_taped o_outs o_mades o_packs o.2 o_blockFault o_blockPlace o_opened o_literals o_wanted o_elementMany o_literalMany o_chunkMany o_skippedMany o_faultNumber o_faultPlace o_faultInner o_faultInnerPlace o_foundMany o_skips o_isFull o_tape_n o_tape_c o_out_n o_out_c o_made_n o_made_c o_packed_n o_packed_c o_latest_n o_latest_c o_ahead_n o_ahead_c o_notes_n o_notes_c o_elements_n o_elements_c o_chunks_n o_chunks_c o_sums_n o_sums_c o_found_n o_found_c o_before_n o_before_c) 0 0 := by
  refine x_start (cc := cX7_chunk) (maxL := 3) (ret := (some .int)) (by decide) rfl (Nat.le_of_ble_eq_true rfl) ?_
  intro p e s m below meth c ls C0 hW hl
  have hl : lv_has ls 3 [(0, .ref h_o), (1, .int p1), (2, .int p2)] := hl
  unfold f_X7_chunk at hF
  refine lv_aload_n C0.x C0.b dX7_chunk_0 rfl (lv_at hl 0 rfl) ?_
  refine lv_iconst (v := (0 : Int32)) C0.x C0.b dX7_chunk_1 (by decide) ?_
  refine x_put C0 hW iw_X7 tyX7 tyX7_ok nmX7 0 rfl rfl 8 (by decide) (List.mem_cons_of_mem _ wl_148) rfl (ty := .int) (v := .int (0 : Int32)) (by decide +kernel) rfl rfl (Nat.le_of_ble_eq_true rfl) dX7_chunk_2 (ws' := (wF_SnapHouseModel g h_o h_o_tape h_o_out h_o_made h_o_packed h_o_latest h_o_ahead h_o_notes h_o_elements h_o_chunks h_o_sums h_o_found h_o_before o_taped o_outs o_mades o_packs (0 : Int32) o_blockFault o_blockPlace o_opened o_literals o_wanted o_elementMany o_literalMany o_chunkMany o_skippedMany o_faultNumber o_faultPlace o_faultInner o_faultInnerPlace o_foundMany o_skips o_isFull o_tape_n o_tape_c o_out_n o_out_c o_made_n o_made_c o_packed_n o_packed_c o_latest_n o_latest_c o_ahead_n o_ahead_c o_notes_n o_notes_c o_elements_n o_elements_c o_chunks_n o_chunks_c o_sums_n o_sums_c o_found_n o_found_c o_before_n o_before_c)) rfl (fun H locs hW => ?_)
  refine lv_iload_n C0.x C0.b dX7_chunk_5 rfl (lv_at hl 1 rfl) ?_
  refine lv_if_lt (tgt := 46) C0.x C0.b dX7_chunk_6 (by decide) (fun c1 => ?_) (fun c1 => ?_)
  · have hF := it_t hF c1
    refine lv_iconst (v := (-1 : Int32)) C0.x C0.b dX7_chunk_46 (by decide) ?_
    obtain rfl := Option.some.inj hF
    exact x_iret C0 hW rfl rfl dX7_chunk_47
  · have hF := it_f hF c1
    refine lv_iload_n C0.x C0.b dX7_chunk_9 rfl (lv_at hl 1 rfl) ?_
    refine lv_aload_n C0.x C0.b dX7_chunk_10 rfl (lv_at hl 0 rfl) ?_
    refine x_get C0 hW iw_X7 0 rfl rfl 21 (by decide) (List.mem_cons_of_mem _ wl_556) (v := .int o_chunkMany) rfl dX7_chunk_11 ?_
    refine lv_icmp_ge (tgt := 46) C0.x C0.b dX7_chunk_14 (by decide) (fun c2 => ?_) (fun c2 => ?_)
    · have hF := it_t hF c2
      refine lv_iconst (v := (-1 : Int32)) C0.x C0.b dX7_chunk_46 (by decide) ?_
      obtain rfl := Option.some.inj hF
      exact x_iret C0 hW rfl rfl dX7_chunk_47
    · have hF := it_f hF c2
      refine lv_iload_n C0.x C0.b dX7_chunk_17 rfl (lv_at hl 1 rfl) ?_
      refine lv_sipush (v := (1000 : Int32)) C0.x C0.b dX7_chunk_18 (by decide) ?_
      refine lv_icmp_ge (tgt := 46) C0.x C0.b dX7_chunk_21 (by decide) (fun c3 => ?_) (fun c3 => ?_)
      · have hF := it_t hF c3
        refine lv_iconst (v := (-1 : Int32)) C0.x C0.b dX7_chunk_46 (by decide) ?_
        obtain rfl := Option.some.inj hF
        exact x_iret C0 hW rfl rfl dX7_chunk_47
      · have hF := it_f hF c3
        refine lv_iload_n C0.x C0.b dX7_chunk_24 rfl (lv_at hl 2 rfl) ?_
        refine lv_if_lt (tgt := 46) C0.x C0.b dX7_chunk_25 (by decide) (fun c4 => ?_) (fun c4 => ?_)
        · have hF := it_t hF c4
          refine lv_iconst (v := (-1 : Int32)) C0.x C0.b dX7_chunk_46 (by decide) ?_
          obtain rfl := Option.some.inj hF
          exact x_iret C0 hW rfl rfl dX7_chunk_47
        · have hF := it_f hF c4
          refine lv_iload_n C0.x C0.b dX7_chunk_28 rfl (lv_at hl 2 rfl) ?_
          refine lv_iconst (v := (5 : Int32)) C0.x C0.b dX7_chunk_29 (by decide) ?_
          refine lv_icmp_ge (tgt := 46) C0.x C0.b dX7_chunk_30 (by decide) (fun c5 => ?_) (fun c5 => ?_)
          · have hF := it_t hF c5
            refine lv_iconst (v := (-1 : Int32)) C0.x C0.b dX7_chunk_46 (by decide) ?_
            obtain rfl := Option.some.inj hF
            exact x_iret C0 hW rfl rfl dX7_chunk_47
          · have hF := it_f hF c5
            refine lv_aload_n C0.x C0.b dX7_chunk_33 rfl (lv_at hl 0 rfl) ?_
            refine x_get C0 hW iw_X7 0 rfl rfl 18 (by decide) (List.mem_cons_of_mem _ wl_120) (v := .ref h_o_chunks) rfl dX7_chunk_34 ?_
            refine lv_iconst (v := (5 : Int32)) C0.x C0.b dX7_chunk_37 (by decide) ?_
            refine lv_iload_n C0.x C0.b dX7_chunk_38 rfl (lv_at hl 1 rfl) ?_
            refine lv_imul C0.x C0.b dX7_chunk_39 ?_
            refine lv_iload_n C0.x C0.b dX7_chunk_40 rfl (lv_at hl 2 rfl) ?_
            refine lv_iadd C0.x C0.b dX7_chunk_41 ?_
            obtain ⟨h6, hF⟩ := ck_some hF
            refine x_iald C0 hW 9 0 rfl rfl h6 dX7_chunk_42 ?_
            refine lv_goto (tgt := 47) C0.x C0.b dX7_chunk_43 (by decide) ?_
            obtain rfl := Option.some.inj hF
            exact x_iret C0 hW rfl rfl dX7_chunk_47

abbrev rm_X7_sum : Room := { frames := 1, cells := 0, slots := 0, locals := 25 }

set_option maxHeartbeats 4000000 in
set_option maxRecDepth 100000 in
/-- SnapHouseModel.sum(IIZ)I -/
theorem c_X7_sum (l : Launch) (g : GX) (h_o h_o_tape h_o_out h_o_made h_o_packed h_o_latest h_o_ahead h_o_notes h_o_elements h_o_chunks h_o_sums h_o_found h_o_before : Nat) {K : Nat} (o_outs : Int32) (o_mades : Int32) (o_packs : Int32) (o_blockFault : Int32) (o_blockPlace : Int32) (o_opened : Int32) (o_literals : Int32) (o_wanted : Int32) (o_elementMany : Int32) (o_literalMany : Int32) (o_chunkMany : Int32) (o_skippedMany : Int32) (o_faultNumber : Int32) (o_faultPlace : Int32) (o_faultInner : Int32) (o_faultInnerPlace : Int32) (o_foundMany : Int32) (o_skips : Int32) (o_isFull : Int32) (o_out_n : Nat) (o_out_c : Nat → Int32) (o_made_n : Nat) (o_made_c : Nat → Int32) (o_packed_n : Nat) (o_packed_c : Nat → Int32) (o_latest_n : Nat) (o_latest_c : Nat → Int32) (o_ahead_n : Nat) (o_ahead_c : Nat → Int32) (o_notes_n : Nat) (o_notes_c : Nat → Int32) (o_elements_n : Nat) (o_elements_c : Nat → Int32) (o_chunks_n : Nat) (o_chunks_c : Nat → Int32) (o_found_n : Nat) (o_found_c : Nat → Int32) (o_before_n : Nat) (o_before_c : Nat → Int32) {o_taped : Int32} {o_thrown : Int32} {o_tape_n : Nat} {o_tape_c : Nat → Int32} {o_sums_n : Nat} {o_sums_c : Nat → Int32} {p1 : Int32} {p2 : Int32} {p3 : Int32} {o : Int32 × Int32} (hF : f_X7_sum K o_taped o_thrown o_tape_n o_tape_c o_sums_n o_sums_c p1 p2 p3 = some o) : mcI g l yX7_sum wA_X7_sum rm_X7_sum [.ref h_o, .int p1, .int p2, .int p3] (wF_SnapHouseModel g h_o h_o_tape h_o_out h_o_made h_o_packed h_o_latest h_o_ahead h_o_notes h_o_elements h_o_chunks h_o_sums h_o_found h_o_before o_taped o_outs o_mades o_packs o_thrown o_blockFault o_blockPlace o_opened o_literals o_wanted o_elementMany o_literalMany o_chunkMany o_skippedMany o_faultNumber o_faultPlace o_faultInner o_faultInnerPlace o_foundMany o_skips o_isFull o_tape_n o_tape_c o_out_n o_out_c o_made_n o_made_c o_packed_n o_packed_c o_latest_n o_latest_c o_ahead_n o_ahead_c o_notes_n o_notes_c o_elements_n o_elements_c o_chunks_n o_chunks_c o_sums_n o_sums_c o_found_n o_found_c o_before_n o_before_c) o.1 (wF_SnapHouseModel g h_o h_o_tape h_o_out h_o_made h_o_packed h_o_latest h_o_ahead h_o_notes h_o_elements h_o_chunks h_o_sums h_o_found h_o_before o_taped o_outs o_mades o_packs o.2 o_blockFault o_blockPlace o_opened o_literals o_wanted o_elementMany o_literalMany o_chunkMany o_skippedMany o_faultNumber o_faultPlace o_faultInner o_faultInnerPlace o_foundMany o_skips o_isFull o_tape_n o_tape_c o_out_n o_out_c o_made_n o_made_c o_packed_n o_packed_c o_latest_n o_latest_c o_ahead_n o_ahead_c o_notes_n o_notes_c o_elements_n o_elements_c o_chunks_n o_chunks_c o_sums_n o_sums_c o_found_n o_found_c o_before_n o_before_c) 0 0 := by
  refine x_start (cc := cX7_sum) (maxL := 5) (ret := (some .int)) (by decide) rfl (Nat.le_of_ble_eq_true rfl) ?_
  intro p e s m below meth c ls C0 hW hl
  have hl : lv_has ls 5 [(0, .ref h_o), (1, .int p1), (2, .int p2), (3, .int p3)] := hl
  unfold f_X7_sum at hF
  refine lv_aload_n C0.x C0.b dX7_sum_0 rfl (lv_at hl 0 rfl) ?_
  refine lv_iconst (v := (0 : Int32)) C0.x C0.b dX7_sum_1 (by decide) ?_
  refine x_put C0 hW iw_X7 tyX7 tyX7_ok nmX7 0 rfl rfl 8 (by decide) (List.mem_cons_of_mem _ wl_148) rfl (ty := .int) (v := .int (0 : Int32)) (by decide +kernel) rfl rfl (Nat.le_of_ble_eq_true rfl) dX7_sum_2 (ws' := (wF_SnapHouseModel g h_o h_o_tape h_o_out h_o_made h_o_packed h_o_latest h_o_ahead h_o_notes h_o_elements h_o_chunks h_o_sums h_o_found h_o_before o_taped o_outs o_mades o_packs (0 : Int32) o_blockFault o_blockPlace o_opened o_literals o_wanted o_elementMany o_literalMany o_chunkMany o_skippedMany o_faultNumber o_faultPlace o_faultInner o_faultInnerPlace o_foundMany o_skips o_isFull o_tape_n o_tape_c o_out_n o_out_c o_made_n o_made_c o_packed_n o_packed_c o_latest_n o_latest_c o_ahead_n o_ahead_c o_notes_n o_notes_c o_elements_n o_elements_c o_chunks_n o_chunks_c o_sums_n o_sums_c o_found_n o_found_c o_before_n o_before_c)) rfl (fun H locs hW => ?_)
  refine lv_iload_n C0.x C0.b dX7_sum_5 rfl (lv_at hl 1 rfl) ?_
  refine lv_if_lt (tgt := 31) C0.x C0.b dX7_sum_6 (by decide) (fun c1 => ?_) (fun c1 => ?_)
  · have hF := it_t hF c1
    refine lv_iconst (v := (0 : Int32)) C0.x C0.b dX7_sum_31 (by decide) ?_
    obtain rfl := Option.some.inj hF
    exact x_iret C0 hW rfl rfl dX7_sum_32
  · have hF := it_f hF c1
    refine lv_iload_n C0.x C0.b dX7_sum_9 rfl (lv_at hl 2 rfl) ?_
    refine lv_if_lt (tgt := 31) C0.x C0.b dX7_sum_10 (by decide) (fun c2 => ?_) (fun c2 => ?_)
    · have hF := it_t hF c2
      refine lv_iconst (v := (0 : Int32)) C0.x C0.b dX7_sum_31 (by decide) ?_
      obtain rfl := Option.some.inj hF
      exact x_iret C0 hW rfl rfl dX7_sum_32
    · have hF := it_f hF c2
      refine lv_iload_n C0.x C0.b dX7_sum_13 rfl (lv_at hl 1 rfl) ?_
      refine lv_aload_n C0.x C0.b dX7_sum_14 rfl (lv_at hl 0 rfl) ?_
      refine x_get C0 hW iw_X7 0 rfl rfl 4 (by decide) (List.mem_cons_of_mem _ wl_149) (v := .int o_taped) rfl dX7_sum_15 ?_
      refine lv_icmp_gt (tgt := 31) C0.x C0.b dX7_sum_18 (by decide) (fun c3 => ?_) (fun c3 => ?_)
      · have hF := it_t hF c3
        refine lv_iconst (v := (0 : Int32)) C0.x C0.b dX7_sum_31 (by decide) ?_
        obtain rfl := Option.some.inj hF
        exact x_iret C0 hW rfl rfl dX7_sum_32
      · have hF := it_f hF c3
        refine lv_iload_n C0.x C0.b dX7_sum_21 rfl (lv_at hl 2 rfl) ?_
        refine lv_aload_n C0.x C0.b dX7_sum_22 rfl (lv_at hl 0 rfl) ?_
        refine x_get C0 hW iw_X7 0 rfl rfl 4 (by decide) (List.mem_cons_of_mem _ wl_149) (v := .int o_taped) rfl dX7_sum_23 ?_
        refine lv_iload_n C0.x C0.b dX7_sum_26 rfl (lv_at hl 1 rfl) ?_
        refine lv_isub C0.x C0.b dX7_sum_27 ?_
        refine lv_icmp_le (tgt := 33) C0.x C0.b dX7_sum_28 (by decide) (fun c4 => ?_) (fun c4 => ?_)
        · have hF := it_t hF c4
          refine lv_aload_n C0.x C0.b dX7_sum_33 rfl (lv_at hl 0 rfl) ?_
          refine lv_aload_n C0.x C0.b dX7_sum_34 rfl (lv_at hl 0 rfl) ?_
          refine x_get C0 hW iw_X7 0 rfl rfl 0 (by decide) (List.mem_cons_of_mem _ wl_112) (v := .ref h_o_tape) rfl dX7_sum_35 ?_
          refine lv_iload_n C0.x C0.b dX7_sum_38 rfl (lv_at hl 1 rfl) ?_
          refine lv_iload_n C0.x C0.b dX7_sum_39 rfl (lv_at hl 1 rfl) ?_
          refine lv_iload_n C0.x C0.b dX7_sum_40 rfl (lv_at hl 2 rfl) ?_
          refine lv_iadd C0.x C0.b dX7_sum_41 ?_
          obtain ⟨r5, e6, hF⟩ := ob hF
          refine go_i C0 hW [0, 1, 2, 3, 4, 5, 6, 7, 8, 9, 10, 11, 12] [] [0, 1, 2, 3, 4, 5, 6, 7, 8, 9, 10, 11, 12] (va_runV (As := [.ref h_o_tape, .int p1, .int (p1 + p2)]) (rest := []) C0.fix (c_X7_sumOf_o_tape l g h_o h_o_tape h_o_out h_o_made h_o_packed h_o_latest h_o_ahead h_o_notes h_o_elements h_o_chunks h_o_sums h_o_found h_o_before o_taped o_outs o_mades o_packs (0 : Int32) o_blockFault o_blockPlace o_opened o_literals o_wanted o_elementMany o_literalMany o_chunkMany o_skippedMany o_faultNumber o_faultPlace o_faultInner o_faultInnerPlace o_foundMany o_skips o_isFull o_out_n o_out_c o_made_n o_made_c o_packed_n o_packed_c o_latest_n o_latest_c o_ahead_n o_ahead_c o_notes_n o_notes_c o_elements_n o_elements_c o_chunks_n o_chunks_c o_found_n o_found_c o_before_n o_before_c e6 _) (cwV 3 C0.ts (gw_V wl_492 wl_493 wl_494 wl_5 wl_495) rfl rfl rfl (by decide +kernel) ⟨Nat.le_of_ble_eq_true rfl, Nat.le_of_ble_eq_true rfl⟩) (pcv_of C0 hW [0, 1, 2, 3, 4, 5, 6, 7, 8, 9, 10, 11, 12] rfl (by decide) (q0 := 0) rfl rfl) rfl rfl hl.1 rfl (lv_room (Nat.le_of_ble_eq_true rfl)) dX7_sum_42 ⟨Nat.le_of_ble_eq_true rfl, Nat.le_of_ble_eq_true rfl⟩) rfl rfl (by decide) (by decide) (ws' := (wF_SnapHouseModel g h_o h_o_tape h_o_out h_o_made h_o_packed h_o_latest h_o_ahead h_o_notes h_o_elements h_o_chunks h_o_sums h_o_found h_o_before o_taped o_outs o_mades o_packs (0 : Int32) o_blockFault o_blockPlace o_opened o_literals o_wanted o_elementMany o_literalMany o_chunkMany o_skippedMany o_faultNumber o_faultPlace o_faultInner o_faultInnerPlace o_foundMany o_skips o_isFull o_tape_n o_tape_c o_out_n o_out_c o_made_n o_made_c o_packed_n o_packed_c o_latest_n o_latest_c o_ahead_n o_ahead_c o_notes_n o_notes_c o_elements_n o_elements_c o_chunks_n o_chunks_c o_sums_n o_sums_c o_found_n o_found_c o_before_n o_before_c)) rfl (by decide) (fun H locs hW => ?_)
          refine lv_istore (lv' := [(4, .int r5), (0, .ref h_o), (1, .int p1), (2, .int p2), (3, .int p3)]) C0.x C0.b dX7_sum_45 hl (by decide) rfl (fun ls hl => ?_)
          refine lv_iload_n C0.x C0.b dX7_sum_47 rfl (lv_at hl 4 rfl) ?_
          refine lv_if_eq (tgt := 60) C0.x C0.b dX7_sum_48 (by decide) (fun c7 => ?_) (fun c7 => ?_)
          · have hF := it_t hF c7
            refine lv_iload C0.x C0.b dX7_sum_60 (lv_at hl 0 rfl) ?_
            obtain rfl := Option.some.inj hF
            exact x_iret C0 hW rfl rfl dX7_sum_62
          · have hF := it_f hF c7
            refine lv_aload_n C0.x C0.b dX7_sum_51 rfl (lv_at hl 1 rfl) ?_
            refine lv_iload C0.x C0.b dX7_sum_52 (lv_at hl 0 rfl) ?_
            obtain ⟨r8, e9, hF⟩ := ob hF
            refine go_i C0 hW [0, 1, 2, 3, 4, 5, 6, 7, 8, 9, 10, 11, 12] [] [0, 1, 2, 3, 4, 5, 6, 7, 8, 9, 10, 11, 12] (va_runV (As := [.int r5]) (rest := []) C0.fix (c_X7_masked l g h_o h_o_tape h_o_out h_o_made h_o_packed h_o_latest h_o_ahead h_o_notes h_o_elements h_o_chunks h_o_sums h_o_found h_o_before o_taped o_outs o_mades o_packs (0 : Int32) o_blockFault o_blockPlace o_opened o_literals o_wanted o_elementMany o_literalMany o_chunkMany o_skippedMany o_faultNumber o_faultPlace o_faultInner o_faultInnerPlace o_foundMany o_skips o_isFull o_tape_n o_tape_c o_out_n o_out_c o_made_n o_made_c o_packed_n o_packed_c o_latest_n o_latest_c o_ahead_n o_ahead_c o_notes_n o_notes_c o_elements_n o_elements_c o_chunks_n o_chunks_c o_sums_n o_sums_c o_found_n o_found_c o_before_n o_before_c e9 _) (cwV 1 C0.ts (gw_V wl_496 wl_497 wl_498 wl_5 wl_499) rfl rfl rfl (by decide +kernel) ⟨Nat.le_of_ble_eq_true rfl, Nat.le_of_ble_eq_true rfl⟩) (pcv_of C0 hW [0, 1, 2, 3, 4, 5, 6, 7, 8, 9, 10, 11, 12] rfl (by decide) (q0 := 0) rfl rfl) rfl rfl hl.1 rfl (lv_room (Nat.le_of_ble_eq_true rfl)) dX7_sum_54 ⟨Nat.le_of_ble_eq_true rfl, Nat.le_of_ble_eq_true rfl⟩) rfl rfl (by decide) (by decide) (ws' := (wF_SnapHouseModel g h_o h_o_tape h_o_out h_o_made h_o_packed h_o_latest h_o_ahead h_o_notes h_o_elements h_o_chunks h_o_sums h_o_found h_o_before o_taped o_outs o_mades o_packs (0 : Int32) o_blockFault o_blockPlace o_opened o_literals o_wanted o_elementMany o_literalMany o_chunkMany o_skippedMany o_faultNumber o_faultPlace o_faultInner o_faultInnerPlace o_foundMany o_skips o_isFull o_tape_n o_tape_c o_out_n o_out_c o_made_n o_made_c o_packed_n o_packed_c o_latest_n o_latest_c o_ahead_n o_ahead_c o_notes_n o_notes_c o_elements_n o_elements_c o_chunks_n o_chunks_c o_sums_n o_sums_c o_found_n o_found_c o_before_n o_before_c)) rfl (by decide) (fun H locs hW => ?_)
            refine lv_goto (tgt := 62) C0.x C0.b dX7_sum_57 (by decide) ?_
            obtain rfl := Option.some.inj hF
            exact x_iret C0 hW rfl rfl dX7_sum_62
        · have hF := it_f hF c4
          refine lv_iconst (v := (0 : Int32)) C0.x C0.b dX7_sum_31 (by decide) ?_
          obtain rfl := Option.some.inj hF
          exact x_iret C0 hW rfl rfl dX7_sum_32

abbrev rm_X7_about : Room := { frames := 0, cells := 0, slots := 0, locals := 0 }

set_option maxHeartbeats 4000000 in
set_option maxRecDepth 100000 in
/-- SnapHouseModel.about(I)I -/
theorem c_X7_about (l : Launch) (g : GX) (h_o h_o_tape h_o_out h_o_made h_o_packed h_o_latest h_o_ahead h_o_notes h_o_elements h_o_chunks h_o_sums h_o_found h_o_before : Nat) {K : Nat} (o_mades : Int32) (o_packs : Int32) (o_blockFault : Int32) (o_blockPlace : Int32) (o_opened : Int32) (o_literals : Int32) (o_wanted : Int32) (o_faultNumber : Int32) (o_faultPlace : Int32) (o_faultInner : Int32) (o_faultInnerPlace : Int32) (o_foundMany : Int32) (o_skips : Int32) (o_isFull : Int32) (o_tape_n : Nat) (o_tape_c : Nat → Int32) (o_out_n : Nat) (o_out_c : Nat → Int32) (o_made_n : Nat) (o_made_c : Nat → Int32) (o_packed_n : Nat) (o_packed_c : Nat → Int32) (o_latest_n : Nat) (o_latest_c : Nat → Int32) (o_ahead_n : Nat) (o_ahead_c : Nat → Int32) (o_notes_n : Nat) (o_notes_c : Nat → Int32) (o_elements_n : Nat) (o_elements_c : Nat → Int32) (o_chunks_n : Nat) (o_chunks_c : Nat → Int32) (o_sums_n : Nat) (o_sums_c : Nat → Int32) (o_found_n : Nat) (o_found_c : Nat → Int32) (o_before_n : Nat) (o_before_c : Nat → Int32) {o_taped : Int32} {o_outs : Int32} {o_thrown : Int32} {o_elementMany : Int32} {o_literalMany : Int32} {o_chunkMany : Int32} {o_skippedMany : Int32} {p1 : Int32} {o : Int32 × Int32} (hF : f_X7_about K o_taped o_outs o_thrown o_elementMany o_literalMany o_chunkMany o_skippedMany p1 = some o) : mcI g l yX7_about wA_X7_about rm_X7_about [.ref h_o, .int p1] (wF_SnapHouseModel g h_o h_o_tape h_o_out h_o_made h_o_packed h_o_latest h_o_ahead h_o_notes h_o_elements h_o_chunks h_o_sums h_o_found h_o_before o_taped o_outs o_mades o_packs o_thrown o_blockFault o_blockPlace o_opened o_literals o_wanted o_elementMany o_literalMany o_chunkMany o_skippedMany o_faultNumber o_faultPlace o_faultInner o_faultInnerPlace o_foundMany o_skips o_isFull o_tape_n o_tape_c o_out_n o_out_c o_made_n o_made_c o_packed_n o_packed_c o_latest_n o_latest_c o_ahead_n o_ahead_c o_notes_n o_notes_c o_elements_n o_elements_c o_chunks_n o_chunks_c o_sums_n o_sums_c o_found_n o_found_c o_before_n o_before_c) o.1 (wF_SnapHouseModel g h_o h_o_tape h_o_out h_o_made h_o_packed h_o_latest h_o_ahead h_o_notes h_o_elements h_o_chunks h_o_sums h_o_found h_o_before o_taped o_outs o_mades o_packs o.2 o_blockFault o_blockPlace o_opened o_literals o_wanted o_elementMany o_literalMany o_chunkMany o_skippedMany o_faultNumber o_faultPlace o_faultInner o_faultInnerPlace o_foundMany o_skips o_isFull o_tape_n o_tape_c o_out_n o_out_c o_made_n o_made_c o_packed_n o_packed_c o_latest_n o_latest_c o_ahead_n o_ahead_c o_notes_n o_notes_c o_elements_n o_elements_c o_chunks_n o_chunks_c o_sums_n o_sums_c o_found_n o_found_c o_before_n o_before_c) 0 0 := by
  refine x_start (cc := cX7_about) (maxL := 2) (ret := (some .int)) (by decide) rfl (Nat.le_of_ble_eq_true rfl) ?_
  intro p e s m below meth c ls C0 hW hl
  have hl : lv_has ls 2 [(0, .ref h_o), (1, .int p1)] := hl
  unfold f_X7_about at hF
  refine lv_aload_n C0.x C0.b dX7_about_0 rfl (lv_at hl 0 rfl) ?_
  refine lv_iconst (v := (0 : Int32)) C0.x C0.b dX7_about_1 (by decide) ?_
  refine x_put C0 hW iw_X7 tyX7 tyX7_ok nmX7 0 rfl rfl 8 (by decide) (List.mem_cons_of_mem _ wl_148) rfl (ty := .int) (v := .int (0 : Int32)) (by decide +kernel) rfl rfl (Nat.le_of_ble_eq_true rfl) dX7_about_2 (ws' := (wF_SnapHouseModel g h_o h_o_tape h_o_out h_o_made h_o_packed h_o_latest h_o_ahead h_o_notes h_o_elements h_o_chunks h_o_sums h_o_found h_o_before o_taped o_outs o_mades o_packs (0 : Int32) o_blockFault o_blockPlace o_opened o_literals o_wanted o_elementMany o_literalMany o_chunkMany o_skippedMany o_faultNumber o_faultPlace o_faultInner o_faultInnerPlace o_foundMany o_skips o_isFull o_tape_n o_tape_c o_out_n o_out_c o_made_n o_made_c o_packed_n o_packed_c o_latest_n o_latest_c o_ahead_n o_ahead_c o_notes_n o_notes_c o_elements_n o_elements_c o_chunks_n o_chunks_c o_sums_n o_sums_c o_found_n o_found_c o_before_n o_before_c)) rfl (fun H locs hW => ?_)
  refine lv_iload_n C0.x C0.b dX7_about_5 rfl (lv_at hl 1 rfl) ?_
  by_cases c1 : p1 = (0 : Int32)
  · have hF := it_t hF c1
    refine lv_tableIn (tgt := 44) C0.x C0.b dX7_about_6 (by rw [c1]; decide) (by rw [c1]; decide) (by rw [c1]; rfl) (by decide) ?_
    refine lv_aload_n C0.x C0.b dX7_about_44 rfl (lv_at hl 0 rfl) ?_
    refine x_get C0 hW iw_X7 0 rfl rfl 4 (by decide) (List.mem_cons_of_mem _ wl_149) (v := .int o_taped) rfl dX7_about_45 ?_
    obtain rfl := Option.some.inj hF
    exact x_iret C0 hW rfl rfl dX7_about_48
  have hF := it_f hF c1
  by_cases c2 : p1 = (1 : Int32)
  · have hF := it_t hF c2
    refine lv_tableIn (tgt := 49) C0.x C0.b dX7_about_6 (by rw [c2]; decide) (by rw [c2]; decide) (by rw [c2]; rfl) (by decide) ?_
    refine lv_aload_n C0.x C0.b dX7_about_49 rfl (lv_at hl 0 rfl) ?_
    refine x_get C0 hW iw_X7 0 rfl rfl 5 (by decide) (List.mem_cons_of_mem _ wl_237) (v := .int o_outs) rfl dX7_about_50 ?_
    obtain rfl := Option.some.inj hF
    exact x_iret C0 hW rfl rfl dX7_about_53
  have hF := it_f hF c2
  by_cases c3 : p1 = (2 : Int32)
  · have hF := it_t hF c3
    refine lv_tableIn (tgt := 54) C0.x C0.b dX7_about_6 (by rw [c3]; decide) (by rw [c3]; decide) (by rw [c3]; rfl) (by decide) ?_
    refine lv_aload_n C0.x C0.b dX7_about_54 rfl (lv_at hl 0 rfl) ?_
    refine x_get C0 hW iw_X7 0 rfl rfl 19 (by decide) (List.mem_cons_of_mem _ wl_413) (v := .int o_elementMany) rfl dX7_about_55 ?_
    obtain rfl := Option.some.inj hF
    exact x_iret C0 hW rfl rfl dX7_about_58
  have hF := it_f hF c3
  by_cases c4 : p1 = (3 : Int32)
  · have hF := it_t hF c4
    refine lv_tableIn (tgt := 59) C0.x C0.b dX7_about_6 (by rw [c4]; decide) (by rw [c4]; decide) (by rw [c4]; rfl) (by decide) ?_
    refine lv_aload_n C0.x C0.b dX7_about_59 rfl (lv_at hl 0 rfl) ?_
    refine x_get C0 hW iw_X7 0 rfl rfl 20 (by decide) (List.mem_cons_of_mem _ wl_415) (v := .int o_literalMany) rfl dX7_about_60 ?_
    obtain rfl := Option.some.inj hF
    exact x_iret C0 hW rfl rfl dX7_about_63
  have hF := it_f hF c4
  by_cases c5 : p1 = (4 : Int32)
  · have hF := it_t hF c5
    refine lv_tableIn (tgt := 64) C0.x C0.b dX7_about_6 (by rw [c5]; decide) (by rw [c5]; decide) (by rw [c5]; rfl) (by decide) ?_
    refine lv_aload_n C0.x C0.b dX7_about_64 rfl (lv_at hl 0 rfl) ?_
    refine x_get C0 hW iw_X7 0 rfl rfl 21 (by decide) (List.mem_cons_of_mem _ wl_556) (v := .int o_chunkMany) rfl dX7_about_65 ?_
    obtain rfl := Option.some.inj hF
    exact x_iret C0 hW rfl rfl dX7_about_68
  have hF := it_f hF c5
  by_cases c6 : p1 = (5 : Int32)
  · have hF := it_t hF c6
    refine lv_tableIn (tgt := 69) C0.x C0.b dX7_about_6 (by rw [c6]; decide) (by rw [c6]; decide) (by rw [c6]; rfl) (by decide) ?_
    refine lv_aload_n C0.x C0.b dX7_about_69 rfl (lv_at hl 0 rfl) ?_
    refine x_get C0 hW iw_X7 0 rfl rfl 22 (by decide) (List.mem_cons_of_mem _ wl_557) (v := .int o_skippedMany) rfl dX7_about_70 ?_
    obtain rfl := Option.some.inj hF
    exact x_iret C0 hW rfl rfl dX7_about_73
  have hF := it_f hF c6
  refine lv_tableOut (tgt := 74) C0.x C0.b dX7_about_6 (by have hc1 := lv_neT c1 (a := 0) rfl; have hc2 := lv_neT c2 (a := 1) rfl; have hc3 := lv_neT c3 (a := 2) rfl; have hc4 := lv_neT c4 (a := 3) rfl; have hc5 := lv_neT c5 (a := 4) rfl; have hc6 := lv_neT c6 (a := 5) rfl; omega) (by decide) ?_
  refine lv_iconst (v := (-1 : Int32)) C0.x C0.b dX7_about_74 (by decide) ?_
  obtain rfl := Option.some.inj hF
  exact x_iret C0 hW rfl rfl dX7_about_75

abbrev rm_X7_thrown : Room := { frames := 0, cells := 0, slots := 0, locals := 0 }

set_option maxHeartbeats 4000000 in
set_option maxRecDepth 100000 in
/-- SnapHouseModel.thrown()I -/
theorem c_X7_thrown (l : Launch) (g : GX) (h_o h_o_tape h_o_out h_o_made h_o_packed h_o_latest h_o_ahead h_o_notes h_o_elements h_o_chunks h_o_sums h_o_found h_o_before : Nat) {K : Nat} (o_taped : Int32) (o_outs : Int32) (o_mades : Int32) (o_packs : Int32) (o_blockFault : Int32) (o_blockPlace : Int32) (o_opened : Int32) (o_literals : Int32) (o_wanted : Int32) (o_elementMany : Int32) (o_literalMany : Int32) (o_chunkMany : Int32) (o_skippedMany : Int32) (o_faultNumber : Int32) (o_faultPlace : Int32) (o_faultInner : Int32) (o_faultInnerPlace : Int32) (o_foundMany : Int32) (o_skips : Int32) (o_isFull : Int32) (o_tape_n : Nat) (o_tape_c : Nat → Int32) (o_out_n : Nat) (o_out_c : Nat → Int32) (o_made_n : Nat) (o_made_c : Nat → Int32) (o_packed_n : Nat) (o_packed_c : Nat → Int32) (o_latest_n : Nat) (o_latest_c : Nat → Int32) (o_ahead_n : Nat) (o_ahead_c : Nat → Int32) (o_notes_n : Nat) (o_notes_c : Nat → Int32) (o_elements_n : Nat) (o_elements_c : Nat → Int32) (o_chunks_n : Nat) (o_chunks_c : Nat → Int32) (o_sums_n : Nat) (o_sums_c : Nat → Int32) (o_found_n : Nat) (o_found_c : Nat → Int32) (o_before_n : Nat) (o_before_c : Nat → Int32) {o_thrown : Int32} {o : Int32} (hF : f_X7_thrown K o_thrown = some o) : mcI g l yX7_thrown wA_X7_thrown rm_X7_thrown [.ref h_o] (wF_SnapHouseModel g h_o h_o_tape h_o_out h_o_made h_o_packed h_o_latest h_o_ahead h_o_notes h_o_elements h_o_chunks h_o_sums h_o_found h_o_before o_taped o_outs o_mades o_packs o_thrown o_blockFault o_blockPlace o_opened o_literals o_wanted o_elementMany o_literalMany o_chunkMany o_skippedMany o_faultNumber o_faultPlace o_faultInner o_faultInnerPlace o_foundMany o_skips o_isFull o_tape_n o_tape_c o_out_n o_out_c o_made_n o_made_c o_packed_n o_packed_c o_latest_n o_latest_c o_ahead_n o_ahead_c o_notes_n o_notes_c o_elements_n o_elements_c o_chunks_n o_chunks_c o_sums_n o_sums_c o_found_n o_found_c o_before_n o_before_c) o (wF_SnapHouseModel g h_o h_o_tape h_o_out h_o_made h_o_packed h_o_latest h_o_ahead h_o_notes h_o_elements h_o_chunks h_o_sums h_o_found h_o_before o_taped o_outs o_mades o_packs o_thrown o_blockFault o_blockPlace o_opened o_literals o_wanted o_elementMany o_literalMany o_chunkMany o_skippedMany o_faultNumber o_faultPlace o_faultInner o_faultInnerPlace o_foundMany o_skips o_isFull o_tape_n o_tape_c o_out_n o_out_c o_made_n o_made_c o_packed_n o_packed_c o_latest_n o_latest_c o_ahead_n o_ahead_c o_notes_n o_notes_c o_elements_n o_elements_c o_chunks_n o_chunks_c o_sums_n o_sums_c o_found_n o_found_c o_before_n o_before_c) 0 0 := by
  refine x_start (cc := cX7_thrown) (maxL := 1) (ret := (some .int)) (by decide) rfl (Nat.le_of_ble_eq_true rfl) ?_
  intro p e s m below meth c ls C0 hW hl
  have hl : lv_has ls 1 [(0, .ref h_o)] := hl
  unfold f_X7_thrown at hF
  refine lv_aload_n C0.x C0.b dX7_thrown_0 rfl (lv_at hl 0 rfl) ?_
  refine x_get C0 hW iw_X7 0 rfl rfl 8 (by decide) (List.mem_cons_of_mem _ wl_148) (v := .int o_thrown) rfl dX7_thrown_1 ?_
  obtain rfl := Option.some.inj hF
  exact x_iret C0 hW rfl rfl dX7_thrown_4

