abbrev rm_X7_set : Room := { frames := 0, cells := 0, slots := 0, locals := 0 }

set_option maxHeartbeats 4000000 in
set_option maxRecDepth 100000 in
/-- SnapHouseModel.set(II)I -/
theorem c_X7_set (l : Launch) (g : GX) (h_o h_o_tape h_o_out h_o_made h_o_packed h_o_latest h_o_ahead h_o_notes h_o_elements h_o_chunks h_o_sums h_o_found h_o_before : Nat) {K : Nat} (o_outs : Int32) (o_mades : Int32) (o_packs : Int32) (o_blockFault : Int32) (o_blockPlace : Int32) (o_opened : Int32) (o_literals : Int32) (o_wanted : Int32) (o_elementMany : Int32) (o_literalMany : Int32) (o_chunkMany : Int32) (o_skippedMany : Int32) (o_faultNumber : Int32) (o_faultPlace : Int32) (o_faultInner : Int32) (o_faultInnerPlace : Int32) (o_foundMany : Int32) (o_skips : Int32) (o_isFull : Int32) (o_out_n : Nat) (o_out_c : Nat → Int32) (o_made_n : Nat) (o_made_c : Nat → Int32) (o_packed_n : Nat) (o_packed_c : Nat → Int32) (o_latest_n : Nat) (o_latest_c : Nat → Int32) (o_ahead_n : Nat) (o_ahead_c : Nat → Int32) (o_notes_n : Nat) (o_notes_c : Nat → Int32) (o_elements_n : Nat) (o_elements_c : Nat → Int32) (o_chunks_n : Nat) (o_chunks_c : Nat → Int32) (o_sums_n : Nat) (o_sums_c : Nat → Int32) (o_found_n : Nat) (o_found_c : Nat → Int32) (o_before_n : Nat) (o_before_c : Nat → Int32) {o_taped : Int32} {o_thrown : Int32} {o_tape_n : Nat} {o_tape_c : Nat → Int32} {p1 : Int32} {p2 : Int32} {o : Int32 × Int32 × (Nat → Int32)} (hF : f_X7_set K o_taped o_thrown o_tape_n o_tape_c p1 p2 = some o) : mcI g l yX7_set wA_X7_set rm_X7_set [.ref h_o, .int p1, .int p2] (wF_SnapHouseModel g h_o h_o_tape h_o_out h_o_made h_o_packed h_o_latest h_o_ahead h_o_notes h_o_elements h_o_chunks h_o_sums h_o_found h_o_before o_taped o_outs o_mades o_packs o_thrown o_blockFault o_blockPlace o_opened o_literals o_wanted o_elementMany o_literalMany o_chunkMany o_skippedMany o_faultNumber o_faultPlace o_faultInner o_faultInnerPlace o_foundMany o_skips o_isFull o_tape_n o_tape_c o_out_n o_out_c o_made_n o_made_c o_packed_n o_packed_c o_latest_n o_latest_c o_ahead_n o_ahead_c o_notes_n o_notes_c o_elements_n o_elements_c o_chunks_n o_chunks_c o_sums_n o_sums_c o_found_n o_found_c o_before_n o_before_c) o.1 (wF_SnapHouseModel g h_o h_o_tape h_o_out h_o_made h_o_packed h_o_latest h_o_ahead h_o_notes h_o_elements h_o_chunks h_o_sums h_o_found h_o_before o_taped o_outs o_mades o_packs o.2.1 o_blockFault o_blockPlace o_opened o_literals o_wanted o_elementMany o_literalMany o_chunkMany o_skippedMany o_faultNumber o_faultPlace o_faultInner o_faultInnerPlace o_foundMany o_skips o_isFull o_tape_n o.2.2 o_out_n o_out_c o_made_n o_made_c o_packed_n o_packed_c o_latest_n o_latest_c o_ahead_n o_ahead_c o_notes_n o_notes_c o_elements_n o_elements_c o_chunks_n o_chunks_c o_sums_n o_sums_c o_found_n o_found_c o_before_n o_before_c) 0 0 := by
  refine x_start (cc := cX7_set) (maxL := 4) (ret := (some .int)) (by decide) rfl (Nat.le_of_ble_eq_true rfl) ?_
  intro p e s m below meth c ls C0 hW hl
  have hl : lv_has ls 4 [(0, .ref h_o), (1, .int p1), (2, .int p2)] := hl
  unfold f_X7_set at hF
  refine lv_aload_n C0.x C0.b dX7_set_0 rfl (lv_at hl 0 rfl) ?_
  refine lv_iconst (v := (0 : Int32)) C0.x C0.b dX7_set_1 (by decide) ?_
  refine x_put C0 hW iw_X7 tyX7 tyX7_ok nmX7 0 rfl rfl 8 (by decide) (List.mem_cons_of_mem _ wl_148) rfl (ty := .int) (v := .int (0 : Int32)) (by decide +kernel) rfl rfl (Nat.le_of_ble_eq_true rfl) dX7_set_2 (ws' := (wF_SnapHouseModel g h_o h_o_tape h_o_out h_o_made h_o_packed h_o_latest h_o_ahead h_o_notes h_o_elements h_o_chunks h_o_sums h_o_found h_o_before o_taped o_outs o_mades o_packs (0 : Int32) o_blockFault o_blockPlace o_opened o_literals o_wanted o_elementMany o_literalMany o_chunkMany o_skippedMany o_faultNumber o_faultPlace o_faultInner o_faultInnerPlace o_foundMany o_skips o_isFull o_tape_n o_tape_c o_out_n o_out_c o_made_n o_made_c o_packed_n o_packed_c o_latest_n o_latest_c o_ahead_n o_ahead_c o_notes_n o_notes_c o_elements_n o_elements_c o_chunks_n o_chunks_c o_sums_n o_sums_c o_found_n o_found_c o_before_n o_before_c)) rfl (fun H locs hW => ?_)
  refine lv_iload_n C0.x C0.b dX7_set_5 rfl (lv_at hl 1 rfl) ?_
  refine lv_if_lt (tgt := 28) C0.x C0.b dX7_set_6 (by decide) (fun c1 => ?_) (fun c1 => ?_)
  · have hF := it_t hF c1
    refine lv_iconst (v := (-1 : Int32)) C0.x C0.b dX7_set_28 (by decide) ?_
    obtain rfl := Option.some.inj hF
    exact x_iret C0 hW rfl rfl dX7_set_29
  · have hF := it_f hF c1
    refine lv_iload_n C0.x C0.b dX7_set_9 rfl (lv_at hl 1 rfl) ?_
    refine lv_aload_n C0.x C0.b dX7_set_10 rfl (lv_at hl 0 rfl) ?_
    refine x_get C0 hW iw_X7 0 rfl rfl 4 (by decide) (List.mem_cons_of_mem _ wl_149) (v := .int o_taped) rfl dX7_set_11 ?_
    refine lv_icmp_ge (tgt := 28) C0.x C0.b dX7_set_14 (by decide) (fun c2 => ?_) (fun c2 => ?_)
    · have hF := it_t hF c2
      refine lv_iconst (v := (-1 : Int32)) C0.x C0.b dX7_set_28 (by decide) ?_
      obtain rfl := Option.some.inj hF
      exact x_iret C0 hW rfl rfl dX7_set_29
    · have hF := it_f hF c2
      refine lv_iload_n C0.x C0.b dX7_set_17 rfl (lv_at hl 2 rfl) ?_
      refine lv_if_lt (tgt := 28) C0.x C0.b dX7_set_18 (by decide) (fun c3 => ?_) (fun c3 => ?_)
      · have hF := it_t hF c3
        refine lv_iconst (v := (-1 : Int32)) C0.x C0.b dX7_set_28 (by decide) ?_
        obtain rfl := Option.some.inj hF
        exact x_iret C0 hW rfl rfl dX7_set_29
      · have hF := it_f hF c3
        refine lv_iload_n C0.x C0.b dX7_set_21 rfl (lv_at hl 2 rfl) ?_
        refine lv_sipush (v := (255 : Int32)) C0.x C0.b dX7_set_22 (by decide) ?_
        refine lv_icmp_le (tgt := 30) C0.x C0.b dX7_set_25 (by decide) (fun c4 => ?_) (fun c4 => ?_)
        · have hF := it_t hF c4
          refine lv_aload_n C0.x C0.b dX7_set_30 rfl (lv_at hl 0 rfl) ?_
          refine x_get C0 hW iw_X7 0 rfl rfl 0 (by decide) (List.mem_cons_of_mem _ wl_112) (v := .ref h_o_tape) rfl dX7_set_31 ?_
          refine lv_iload_n C0.x C0.b dX7_set_34 rfl (lv_at hl 1 rfl) ?_
          obtain ⟨h5, hF⟩ := ck_some hF
          refine x_bald C0 hW 1 1 rfl rfl h5 dX7_set_35 ?_
          refine lv_sipush (v := (255 : Int32)) C0.x C0.b dX7_set_36 (by decide) ?_
          refine lv_iand C0.x C0.b dX7_set_39 ?_
          refine lv_istore_n (lv' := [(3, .int ((o_tape_c p1.toNatClampNeg) &&& (255 : Int32))), (0, .ref h_o), (1, .int p1), (2, .int p2)]) C0.x C0.b dX7_set_40 rfl hl (by decide) rfl (fun ls hl => ?_)
          refine lv_aload_n C0.x C0.b dX7_set_41 rfl (lv_at hl 1 rfl) ?_
          refine x_get C0 hW iw_X7 0 rfl rfl 0 (by decide) (List.mem_cons_of_mem _ wl_112) (v := .ref h_o_tape) rfl dX7_set_42 ?_
          refine lv_iload_n C0.x C0.b dX7_set_45 rfl (lv_at hl 2 rfl) ?_
          refine lv_iload_n C0.x C0.b dX7_set_46 rfl (lv_at hl 3 rfl) ?_
          refine lv_i2b (v := (p2.toInt8.toInt32)) C0.x C0.b dX7_set_47 rfl ?_
          obtain ⟨h6, hF⟩ := ck_some hF
          refine x_bast C0 hW 1 1 rfl rfl h6 dX7_set_48 (ws' := (wF_SnapHouseModel g h_o h_o_tape h_o_out h_o_made h_o_packed h_o_latest h_o_ahead h_o_notes h_o_elements h_o_chunks h_o_sums h_o_found h_o_before o_taped o_outs o_mades o_packs (0 : Int32) o_blockFault o_blockPlace o_opened o_literals o_wanted o_elementMany o_literalMany o_chunkMany o_skippedMany o_faultNumber o_faultPlace o_faultInner o_faultInnerPlace o_foundMany o_skips o_isFull o_tape_n (upd o_tape_c p1.toNatClampNeg (vp_nar .byte (p2.toInt8.toInt32))) o_out_n o_out_c o_made_n o_made_c o_packed_n o_packed_c o_latest_n o_latest_c o_ahead_n o_ahead_c o_notes_n o_notes_c o_elements_n o_elements_c o_chunks_n o_chunks_c o_sums_n o_sums_c o_found_n o_found_c o_before_n o_before_c)) rfl (fun H locs hW => ?_)
          refine lv_iload_n C0.x C0.b dX7_set_49 rfl (lv_at hl 0 rfl) ?_
          obtain rfl := Option.some.inj hF
          exact x_iret C0 hW rfl rfl dX7_set_50
        · have hF := it_f hF c4
          refine lv_iconst (v := (-1 : Int32)) C0.x C0.b dX7_set_28 (by decide) ?_
          obtain rfl := Option.some.inj hF
          exact x_iret C0 hW rfl rfl dX7_set_29

abbrev rm_X7_take : Room := { frames := 0, cells := 0, slots := 0, locals := 0 }

set_option maxHeartbeats 4000000 in
set_option maxRecDepth 100000 in
theorem w_X7_take_b19 (l : Launch) (g : GX) (h_o h_o_tape h_o_out h_o_made h_o_packed h_o_latest h_o_ahead h_o_notes h_o_elements h_o_chunks h_o_sums h_o_found h_o_before : Nat) {K : Nat} {o_outs : Int32} {o_tape_n : Nat} {o_out_n : Nat} {o_out_c : Nat → Int32} {o_mades : Int32} {o_packs : Int32} {o_blockFault : Int32} {o_blockPlace : Int32} {o_opened : Int32} {o_literals : Int32} {o_wanted : Int32} {o_elementMany : Int32} {o_literalMany : Int32} {o_chunkMany : Int32} {o_skippedMany : Int32} {o_faultNumber : Int32} {o_faultPlace : Int32} {o_faultInner : Int32} {o_faultInnerPlace : Int32} {o_foundMany : Int32} {o_skips : Int32} {o_isFull : Int32} {o_made_n : Nat} {o_made_c : Nat → Int32} {o_packed_n : Nat} {o_packed_c : Nat → Int32} {o_latest_n : Nat} {o_latest_c : Nat → Int32} {o_ahead_n : Nat} {o_ahead_c : Nat → Int32} {o_notes_n : Nat} {o_notes_c : Nat → Int32} {o_elements_n : Nat} {o_elements_c : Nat → Int32} {o_chunks_n : Nat} {o_chunks_c : Nat → Int32} {o_sums_n : Nat} {o_sums_c : Nat → Int32} {o_found_n : Nat} {o_found_c : Nat → Int32} {o_before_n : Nat} {o_before_c : Nat → Int32} {o : Int32 × Int32 × Int32 × (Nat → Int32)} {wc : va_W} {p : Program} {e : Env} {s : State} {m : MethodId} {args : Array Value} {below : List Frame} {meth : Method} {c : Code} (C0 : bx g p s m meth c args cX7_take 2 (some .int) yX7_take wA_X7_take (va_A wc s.heap.size)) :
    ∀ (n : Nat) (o_taped : Int32) (o_thrown : Int32) (o_tape_c : Nat → Int32) (x1 : Int32), f_X7_take_b19 K o_outs o_tape_n o_out_n o_out_c n o_taped o_thrown o_tape_c x1 = some o → ∀ (H : Heap) (locs : List Loc) (ls : Array Slot), ww g (va_A wc s.heap.size) s (wF_SnapHouseModel g h_o h_o_tape h_o_out h_o_made h_o_packed h_o_latest h_o_ahead h_o_notes h_o_elements h_o_chunks h_o_sums h_o_found h_o_before o_taped o_outs o_mades o_packs o_thrown o_blockFault o_blockPlace o_opened o_literals o_wanted o_elementMany o_literalMany o_chunkMany o_skippedMany o_faultNumber o_faultPlace o_faultInner o_faultInnerPlace o_foundMany o_skips o_isFull o_tape_n o_tape_c o_out_n o_out_c o_made_n o_made_c o_packed_n o_packed_c o_latest_n o_latest_c o_ahead_n o_ahead_c o_notes_n o_notes_c o_elements_n o_elements_c o_chunks_n o_chunks_c o_sums_n o_sums_c o_found_n o_found_c o_before_n o_before_c) H locs → lv_has ls 2 [(0, .ref h_o), (1, .int x1)] → W p l e rm_X7_take s m args below meth c H locs 0 0 (MQ below (qcI g wc s.heap.size o.1 (wF_SnapHouseModel g h_o h_o_tape h_o_out h_o_made h_o_packed h_o_latest h_o_ahead h_o_notes h_o_elements h_o_chunks h_o_sums h_o_found h_o_before o.2.1 o_outs o_mades o_packs o.2.2.1 o_blockFault o_blockPlace o_opened o_literals o_wanted o_elementMany o_literalMany o_chunkMany o_skippedMany o_faultNumber o_faultPlace o_faultInner o_faultInnerPlace o_foundMany o_skips o_isFull o_tape_n o.2.2.2 o_out_n o_out_c o_made_n o_made_c o_packed_n o_packed_c o_latest_n o_latest_c o_ahead_n o_ahead_c o_notes_n o_notes_c o_elements_n o_elements_c o_chunks_n o_chunks_c o_sums_n o_sums_c o_found_n o_found_c o_before_n o_before_c)) args s 0 0 (va_A wc s.heap.size)) (F0 m 19 ls []) := by
  intro n
  induction n with
  | zero => intro o_taped o_thrown o_tape_c x1 hF; cases (show (none : Option (Int32 × Int32 × Int32 × (Nat → Int32))) = some o from hF)
  | succ n ih =>
    intro o_taped o_thrown o_tape_c x1 hF H locs ls hW hl
    rw [f_X7_take_b19] at hF
    refine lv_iload_n C0.x C0.b dX7_take_19 rfl (lv_at hl 1 rfl) ?_
    refine lv_aload_n C0.x C0.b dX7_take_20 rfl (lv_at hl 0 rfl) ?_
    refine x_get C0 hW iw_X7 0 rfl rfl 5 (by decide) (List.mem_cons_of_mem _ wl_237) (v := .int o_outs) rfl dX7_take_21 ?_
    refine lv_icmp_ge (tgt := 45) C0.x C0.b dX7_take_24 (by decide) (fun c1 => ?_) (fun c1 => ?_)
    · have hF := it_t hF c1
      refine lv_aload_n C0.x C0.b dX7_take_45 rfl (lv_at hl 0 rfl) ?_
      refine lv_aload_n C0.x C0.b dX7_take_46 rfl (lv_at hl 0 rfl) ?_
      refine x_get C0 hW iw_X7 0 rfl rfl 5 (by decide) (List.mem_cons_of_mem _ wl_237) (v := .int o_outs) rfl dX7_take_47 ?_
      refine x_put C0 hW iw_X7 tyX7 tyX7_ok nmX7 0 rfl rfl 4 (by decide) (List.mem_cons_of_mem _ wl_149) rfl (ty := .int) (v := .int o_outs) (by decide +kernel) rfl rfl (Nat.le_of_ble_eq_true rfl) dX7_take_50 (ws' := (wF_SnapHouseModel g h_o h_o_tape h_o_out h_o_made h_o_packed h_o_latest h_o_ahead h_o_notes h_o_elements h_o_chunks h_o_sums h_o_found h_o_before o_outs o_outs o_mades o_packs o_thrown o_blockFault o_blockPlace o_opened o_literals o_wanted o_elementMany o_literalMany o_chunkMany o_skippedMany o_faultNumber o_faultPlace o_faultInner o_faultInnerPlace o_foundMany o_skips o_isFull o_tape_n o_tape_c o_out_n o_out_c o_made_n o_made_c o_packed_n o_packed_c o_latest_n o_latest_c o_ahead_n o_ahead_c o_notes_n o_notes_c o_elements_n o_elements_c o_chunks_n o_chunks_c o_sums_n o_sums_c o_found_n o_found_c o_before_n o_before_c)) rfl (fun H locs hW => ?_)
      refine lv_aload_n C0.x C0.b dX7_take_53 rfl (lv_at hl 0 rfl) ?_
      refine x_get C0 hW iw_X7 0 rfl rfl 4 (by decide) (List.mem_cons_of_mem _ wl_149) (v := .int o_outs) rfl dX7_take_54 ?_
      obtain rfl := Option.some.inj hF
      exact x_iret C0 hW rfl rfl dX7_take_57
    · have hF := it_f hF c1
      refine lv_aload_n C0.x C0.b dX7_take_27 rfl (lv_at hl 0 rfl) ?_
      refine x_get C0 hW iw_X7 0 rfl rfl 0 (by decide) (List.mem_cons_of_mem _ wl_112) (v := .ref h_o_tape) rfl dX7_take_28 ?_
      refine lv_iload_n C0.x C0.b dX7_take_31 rfl (lv_at hl 1 rfl) ?_
      refine lv_aload_n C0.x C0.b dX7_take_32 rfl (lv_at hl 0 rfl) ?_
      refine x_get C0 hW iw_X7 0 rfl rfl 1 (by decide) (List.mem_cons_of_mem _ wl_113) (v := .ref h_o_out) rfl dX7_take_33 ?_
      refine lv_iload_n C0.x C0.b dX7_take_36 rfl (lv_at hl 1 rfl) ?_
      obtain ⟨h2, hF⟩ := ck_some hF
      refine x_bald C0 hW 2 1 rfl rfl h2 dX7_take_37 ?_
      obtain ⟨h3, hF⟩ := ck_some hF
      refine x_bast C0 hW 1 1 rfl rfl h3 dX7_take_38 (ws' := (wF_SnapHouseModel g h_o h_o_tape h_o_out h_o_made h_o_packed h_o_latest h_o_ahead h_o_notes h_o_elements h_o_chunks h_o_sums h_o_found h_o_before o_taped o_outs o_mades o_packs o_thrown o_blockFault o_blockPlace o_opened o_literals o_wanted o_elementMany o_literalMany o_chunkMany o_skippedMany o_faultNumber o_faultPlace o_faultInner o_faultInnerPlace o_foundMany o_skips o_isFull o_tape_n (upd o_tape_c x1.toNatClampNeg (vp_nar .byte (o_out_c x1.toNatClampNeg))) o_out_n o_out_c o_made_n o_made_c o_packed_n o_packed_c o_latest_n o_latest_c o_ahead_n o_ahead_c o_notes_n o_notes_c o_elements_n o_elements_c o_chunks_n o_chunks_c o_sums_n o_sums_c o_found_n o_found_c o_before_n o_before_c)) rfl (fun H locs hW => ?_)
      refine lv_iinc (v := (x1 + (1 : Int32))) (lv' := [(1, .int (x1 + (1 : Int32))), (0, .ref h_o)]) C0.x C0.b dX7_take_39 hl (k := 1) rfl rfl (by decide) rfl (fun ls hl => ?_)
      refine lv_goto (tgt := 19) C0.x C0.b dX7_take_42 (by decide) ?_
      exact ih o_taped o_thrown (upd o_tape_c x1.toNatClampNeg (vp_nar .byte (o_out_c x1.toNatClampNeg))) (x1 + (1 : Int32)) hF _ _ _ hW (lv_sub hl [1, 0] rfl)

set_option maxHeartbeats 4000000 in
set_option maxRecDepth 100000 in
/-- SnapHouseModel.take()I -/
theorem c_X7_take (l : Launch) (g : GX) (h_o h_o_tape h_o_out h_o_made h_o_packed h_o_latest h_o_ahead h_o_notes h_o_elements h_o_chunks h_o_sums h_o_found h_o_before : Nat) {K : Nat} (o_mades : Int32) (o_packs : Int32) (o_blockFault : Int32) (o_blockPlace : Int32) (o_opened : Int32) (o_literals : Int32) (o_wanted : Int32) (o_elementMany : Int32) (o_literalMany : Int32) (o_chunkMany : Int32) (o_skippedMany : Int32) (o_faultNumber : Int32) (o_faultPlace : Int32) (o_faultInner : Int32) (o_faultInnerPlace : Int32) (o_foundMany : Int32) (o_skips : Int32) (o_isFull : Int32) (o_made_n : Nat) (o_made_c : Nat → Int32) (o_packed_n : Nat) (o_packed_c : Nat → Int32) (o_latest_n : Nat) (o_latest_c : Nat → Int32) (o_ahead_n : Nat) (o_ahead_c : Nat → Int32) (o_notes_n : Nat) (o_notes_c : Nat → Int32) (o_elements_n : Nat) (o_elements_c : Nat → Int32) (o_chunks_n : Nat) (o_chunks_c : Nat → Int32) (o_sums_n : Nat) (o_sums_c : Nat → Int32) (o_found_n : Nat) (o_found_c : Nat → Int32) (o_before_n : Nat) (o_before_c : Nat → Int32) {o_taped : Int32} {o_outs : Int32} {o_thrown : Int32} {o_tape_n : Nat} {o_tape_c : Nat → Int32} {o_out_n : Nat} {o_out_c : Nat → Int32} {o : Int32 × Int32 × Int32 × (Nat → Int32)} (hF : f_X7_take K o_taped o_outs o_thrown o_tape_n o_tape_c o_out_n o_out_c = some o) : mcI g l yX7_take wA_X7_take rm_X7_take [.ref h_o] (wF_SnapHouseModel g h_o h_o_tape h_o_out h_o_made h_o_packed h_o_latest h_o_ahead h_o_notes h_o_elements h_o_chunks h_o_sums h_o_found h_o_before o_taped o_outs o_mades o_packs o_thrown o_blockFault o_blockPlace o_opened o_literals o_wanted o_elementMany o_literalMany o_chunkMany o_skippedMany o_faultNumber o_faultPlace o_faultInner o_faultInnerPlace o_foundMany o_skips o_isFull o_tape_n o_tape_c o_out_n o_out_c o_made_n o_made_c o_packed_n o_packed_c o_latest_n o_latest_c o_ahead_n o_ahead_c o_notes_n o_notes_c o_elements_n o_elements_c o_chunks_n o_chunks_c o_sums_n o_sums_c o_found_n o_found_c o_before_n o_before_c) o.1 (wF_SnapHouseModel g h_o h_o_tape h_o_out h_o_made h_o_packed h_o_latest h_o_ahead h_o_notes h_o_elements h_o_chunks h_o_sums h_o_found h_o_before o.2.1 o_outs o_mades o_packs o.2.2.1 o_blockFault o_blockPlace o_opened o_literals o_wanted o_elementMany o_literalMany o_chunkMany o_skippedMany o_faultNumber o_faultPlace o_faultInner o_faultInnerPlace o_foundMany o_skips o_isFull o_tape_n o.2.2.2 o_out_n o_out_c o_made_n o_made_c o_packed_n o_packed_c o_latest_n o_latest_c o_ahead_n o_ahead_c o_notes_n o_notes_c o_elements_n o_elements_c o_chunks_n o_chunks_c o_sums_n o_sums_c o_found_n o_found_c o_before_n o_before_c) 0 0 := by
  refine x_start (cc := cX7_take) (maxL := 2) (ret := (some .int)) (by decide) rfl (Nat.le_of_ble_eq_true rfl) ?_
  intro p e s m below meth c ls C0 hW hl
  have hl : lv_has ls 2 [(0, .ref h_o)] := hl
  unfold f_X7_take at hF
  refine lv_aload_n C0.x C0.b dX7_take_0 rfl (lv_at hl 0 rfl) ?_
  refine lv_iconst (v := (0 : Int32)) C0.x C0.b dX7_take_1 (by decide) ?_
  refine x_put C0 hW iw_X7 tyX7 tyX7_ok nmX7 0 rfl rfl 8 (by decide) (List.mem_cons_of_mem _ wl_148) rfl (ty := .int) (v := .int (0 : Int32)) (by decide +kernel) rfl rfl (Nat.le_of_ble_eq_true rfl) dX7_take_2 (ws' := (wF_SnapHouseModel g h_o h_o_tape h_o_out h_o_made h_o_packed h_o_latest h_o_ahead h_o_notes h_o_elements h_o_chunks h_o_sums h_o_found h_o_before o_taped o_outs o_mades o_packs (0 : Int32) o_blockFault o_blockPlace o_opened o_literals o_wanted o_elementMany o_literalMany o_chunkMany o_skippedMany o_faultNumber o_faultPlace o_faultInner o_faultInnerPlace o_foundMany o_skips o_isFull o_tape_n o_tape_c o_out_n o_out_c o_made_n o_made_c o_packed_n o_packed_c o_latest_n o_latest_c o_ahead_n o_ahead_c o_notes_n o_notes_c o_elements_n o_elements_c o_chunks_n o_chunks_c o_sums_n o_sums_c o_found_n o_found_c o_before_n o_before_c)) rfl (fun H locs hW => ?_)
  refine lv_aload_n C0.x C0.b dX7_take_5 rfl (lv_at hl 0 rfl) ?_
  refine x_get C0 hW iw_X7 0 rfl rfl 5 (by decide) (List.mem_cons_of_mem _ wl_237) (v := .int o_outs) rfl dX7_take_6 ?_
  refine lv_sipush (v := (20000 : Int32)) C0.x C0.b dX7_take_9 (by decide) ?_
  refine lv_icmp_le (tgt := 17) C0.x C0.b dX7_take_12 (by decide) (fun c1 => ?_) (fun c1 => ?_)
  · have hF := it_t hF c1
    refine lv_iconst (v := (0 : Int32)) C0.x C0.b dX7_take_17 (by decide) ?_
    refine lv_istore_n (lv' := [(1, .int (0 : Int32)), (0, .ref h_o)]) C0.x C0.b dX7_take_18 rfl hl (by decide) rfl (fun ls hl => ?_)
    exact w_X7_take_b19 l g h_o h_o_tape h_o_out h_o_made h_o_packed h_o_latest h_o_ahead h_o_notes h_o_elements h_o_chunks h_o_sums h_o_found h_o_before C0 K o_taped (0 : Int32) o_tape_c (0 : Int32) hF _ _ _ hW (lv_sub hl [1, 0] rfl)
  · have hF := it_f hF c1
    refine lv_iconst (v := (-1 : Int32)) C0.x C0.b dX7_take_15 (by decide) ?_
    obtain rfl := Option.some.inj hF
    exact x_iret C0 hW rfl rfl dX7_take_16

abbrev rm_X7_tape : Room := { frames := 0, cells := 0, slots := 0, locals := 0 }

set_option maxHeartbeats 4000000 in
set_option maxRecDepth 100000 in
/-- SnapHouseModel.tape(I)I -/
theorem c_X7_tape (l : Launch) (g : GX) (h_o h_o_tape h_o_out h_o_made h_o_packed h_o_latest h_o_ahead h_o_notes h_o_elements h_o_chunks h_o_sums h_o_found h_o_before : Nat) {K : Nat} (o_outs : Int32) (o_mades : Int32) (o_packs : Int32) (o_blockFault : Int32) (o_blockPlace : Int32) (o_opened : Int32) (o_literals : Int32) (o_wanted : Int32) (o_elementMany : Int32) (o_literalMany : Int32) (o_chunkMany : Int32) (o_skippedMany : Int32) (o_faultNumber : Int32) (o_faultPlace : Int32) (o_faultInner : Int32) (o_faultInnerPlace : Int32) (o_foundMany : Int32) (o_skips : Int32) (o_isFull : Int32) (o_out_n : Nat) (o_out_c : Nat → Int32) (o_made_n : Nat) (o_made_c : Nat → Int32) (o_packed_n : Nat) (o_packed_c : Nat → Int32) (o_latest_n : Nat) (o_latest_c : Nat → Int32) (o_ahead_n : Nat) (o_ahead_c : Nat → Int32) (o_notes_n : Nat) (o_notes_c : Nat → Int32) (o_elements_n : Nat) (o_elements_c : Nat → Int32) (o_chunks_n : Nat) (o_chunks_c : Nat → Int32) (o_sums_n : Nat) (o_sums_c : Nat → Int32) (o_found_n : Nat) (o_found_c : Nat → Int32) (o_before_n : Nat) (o_before_c : Nat → Int32) {o_taped : Int32} {o_thrown : Int32} {o_tape_n : Nat} {o_tape_c : Nat → Int32} {p1 : Int32} {o : Int32 × Int32} (hF : f_X7_tape K o_taped o_thrown o_tape_n o_tape_c p1 = some o) : mcI g l yX7_tape wA_X7_tape rm_X7_tape [.ref h_o, .int p1] (wF_SnapHouseModel g h_o h_o_tape h_o_out h_o_made h_o_packed h_o_latest h_o_ahead h_o_notes h_o_elements h_o_chunks h_o_sums h_o_found h_o_before o_taped o_outs o_mades o_packs o_thrown o_blockFault o_blockPlace o_opened o_literals o_wanted o_elementMany o_literalMany o_chunkMany o_skippedMany o_faultNumber o_faultPlace o_faultInner o_faultInnerPlace o_foundMany o_skips o_isFull o_tape_n o_tape_c o_out_n o_out_c o_made_n o_made_c o_packed_n o_packed_c o_latest_n o_latest_c o_ahead_n o_ahead_c o_notes_n o_notes_c o_elements_n o_elements_c o_chunks_n o_chunks_c o_sums_n o_sums_c o_found_n o_found_c o_before_n o_before_c) o.1 (wF_SnapHouseModel g h_o h_o_tape h_o_out h_o_made h_o_packed h_o_latest h_o_ahead h_o_notes h_o_elements h_o_chunks h_o_sums h_o_found h_o_before o_taped o_outs o_mades o_packs o.2 o_blockFault o_blockPlace o_opened o_literals o_wanted o_elementMany o_literalMany o_chunkMany o_skippedMany o_faultNumber o_faultPlace o_faultInner o_faultInnerPlace o_foundMany o_skips o_isFull o_tape_n o_tape_c o_out_n o_out_c o_made_n o_made_c o_packed_n o_packed_c o_latest_n o_latest_c o_ahead_n o_ahead_c o_notes_n o_notes_c o_elements_n o_elements_c o_chunks_n o_chunks_c o_sums_n o_sums_c o_found_n o_found_c o_before_n o_before_c) 0 0 := by
  refine x_start (cc := cX7_tape) (maxL := 2) (ret := (some .int)) (by decide) rfl (Nat.le_of_ble_eq_true rfl) ?_
  intro p e s m below meth c ls C0 hW hl
  have hl : lv_has ls 2 [(0, .ref h_o), (1, .int p1)] := hl
  unfold f_X7_tape at hF
  refine lv_aload_n C0.x C0.b dX7_tape_0 rfl (lv_at hl 0 rfl) ?_
  refine lv_iconst (v := (0 : Int32)) C0.x C0.b dX7_tape_1 (by decide) ?_
  refine x_put C0 hW iw_X7 tyX7 tyX7_ok nmX7 0 rfl rfl 8 (by decide) (List.mem_cons_of_mem _ wl_148) rfl (ty := .int) (v := .int (0 : Int32)) (by decide +kernel) rfl rfl (Nat.le_of_ble_eq_true rfl) dX7_tape_2 (ws' := (wF_SnapHouseModel g h_o h_o_tape h_o_out h_o_made h_o_packed h_o_latest h_o_ahead h_o_notes h_o_elements h_o_chunks h_o_sums h_o_found h_o_before o_taped o_outs o_mades o_packs (0 : Int32) o_blockFault o_blockPlace o_opened o_literals o_wanted o_elementMany o_literalMany o_chunkMany o_skippedMany o_faultNumber o_faultPlace o_faultInner o_faultInnerPlace o_foundMany o_skips o_isFull o_tape_n o_tape_c o_out_n o_out_c o_made_n o_made_c o_packed_n o_packed_c o_latest_n o_latest_c o_ahead_n o_ahead_c o_notes_n o_notes_c o_elements_n o_elements_c o_chunks_n o_chunks_c o_sums_n o_sums_c o_found_n o_found_c o_before_n o_before_c)) rfl (fun H locs hW => ?_)
  refine lv_iload_n C0.x C0.b dX7_tape_5 rfl (lv_at hl 1 rfl) ?_
  refine lv_if_lt (tgt := 30) C0.x C0.b dX7_tape_6 (by decide) (fun c1 => ?_) (fun c1 => ?_)
  · have hF := it_t hF c1
    refine lv_iconst (v := (-1 : Int32)) C0.x C0.b dX7_tape_30 (by decide) ?_
    obtain rfl := Option.some.inj hF
    exact x_iret C0 hW rfl rfl dX7_tape_31
  · have hF := it_f hF c1
    refine lv_iload_n C0.x C0.b dX7_tape_9 rfl (lv_at hl 1 rfl) ?_
    refine lv_aload_n C0.x C0.b dX7_tape_10 rfl (lv_at hl 0 rfl) ?_
    refine x_get C0 hW iw_X7 0 rfl rfl 4 (by decide) (List.mem_cons_of_mem _ wl_149) (v := .int o_taped) rfl dX7_tape_11 ?_
    refine lv_icmp_ge (tgt := 30) C0.x C0.b dX7_tape_14 (by decide) (fun c2 => ?_) (fun c2 => ?_)
    · have hF := it_t hF c2
      refine lv_iconst (v := (-1 : Int32)) C0.x C0.b dX7_tape_30 (by decide) ?_
      obtain rfl := Option.some.inj hF
      exact x_iret C0 hW rfl rfl dX7_tape_31
    · have hF := it_f hF c2
      refine lv_aload_n C0.x C0.b dX7_tape_17 rfl (lv_at hl 0 rfl) ?_
      refine x_get C0 hW iw_X7 0 rfl rfl 0 (by decide) (List.mem_cons_of_mem _ wl_112) (v := .ref h_o_tape) rfl dX7_tape_18 ?_
      refine lv_iload_n C0.x C0.b dX7_tape_21 rfl (lv_at hl 1 rfl) ?_
      obtain ⟨h3, hF⟩ := ck_some hF
      refine x_bald C0 hW 1 1 rfl rfl h3 dX7_tape_22 ?_
      refine lv_sipush (v := (255 : Int32)) C0.x C0.b dX7_tape_23 (by decide) ?_
      refine lv_iand C0.x C0.b dX7_tape_26 ?_
      refine lv_goto (tgt := 31) C0.x C0.b dX7_tape_27 (by decide) ?_
      obtain rfl := Option.some.inj hF
      exact x_iret C0 hW rfl rfl dX7_tape_31

abbrev rm_X7_pack : Room := { frames := 0, cells := 0, slots := 0, locals := 0 }

set_option maxHeartbeats 4000000 in
set_option maxRecDepth 100000 in
/-- SnapHouseModel.pack(I)V -/
theorem c_X7_pack (l : Launch) (g : GX) (h_o h_o_tape h_o_out h_o_made h_o_packed h_o_latest h_o_ahead h_o_notes h_o_elements h_o_chunks h_o_sums h_o_found h_o_before : Nat) {K : Nat} (o_taped : Int32) (o_outs : Int32) (o_mades : Int32) (o_thrown : Int32) (o_blockFault : Int32) (o_blockPlace : Int32) (o_opened : Int32) (o_literals : Int32) (o_wanted : Int32) (o_elementMany : Int32) (o_literalMany : Int32) (o_chunkMany : Int32) (o_skippedMany : Int32) (o_faultNumber : Int32) (o_faultPlace : Int32) (o_faultInner : Int32) (o_faultInnerPlace : Int32) (o_foundMany : Int32) (o_skips : Int32) (o_isFull : Int32) (o_tape_n : Nat) (o_tape_c : Nat → Int32) (o_out_n : Nat) (o_out_c : Nat → Int32) (o_made_n : Nat) (o_made_c : Nat → Int32) (o_latest_n : Nat) (o_latest_c : Nat → Int32) (o_ahead_n : Nat) (o_ahead_c : Nat → Int32) (o_notes_n : Nat) (o_notes_c : Nat → Int32) (o_elements_n : Nat) (o_elements_c : Nat → Int32) (o_chunks_n : Nat) (o_chunks_c : Nat → Int32) (o_sums_n : Nat) (o_sums_c : Nat → Int32) (o_found_n : Nat) (o_found_c : Nat → Int32) (o_before_n : Nat) (o_before_c : Nat → Int32) {o_packs : Int32} {o_packed_n : Nat} {o_packed_c : Nat → Int32} {p1 : Int32} {o : Int32 × (Nat → Int32)} (hF : f_X7_pack K o_packs o_packed_n o_packed_c p1 = some o) : mcV g l yX7_pack wA_X7_pack rm_X7_pack [.ref h_o, .int p1] (wF_SnapHouseModel g h_o h_o_tape h_o_out h_o_made h_o_packed h_o_latest h_o_ahead h_o_notes h_o_elements h_o_chunks h_o_sums h_o_found h_o_before o_taped o_outs o_mades o_packs o_thrown o_blockFault o_blockPlace o_opened o_literals o_wanted o_elementMany o_literalMany o_chunkMany o_skippedMany o_faultNumber o_faultPlace o_faultInner o_faultInnerPlace o_foundMany o_skips o_isFull o_tape_n o_tape_c o_out_n o_out_c o_made_n o_made_c o_packed_n o_packed_c o_latest_n o_latest_c o_ahead_n o_ahead_c o_notes_n o_notes_c o_elements_n o_elements_c o_chunks_n o_chunks_c o_sums_n o_sums_c o_found_n o_found_c o_before_n o_before_c) (wF_SnapHouseModel g h_o h_o_tape h_o_out h_o_made h_o_packed h_o_latest h_o_ahead h_o_notes h_o_elements h_o_chunks h_o_sums h_o_found h_o_before o_taped o_outs o_mades o.1 o_thrown o_blockFault o_blockPlace o_opened o_literals o_wanted o_elementMany o_literalMany o_chunkMany o_skippedMany o_faultNumber o_faultPlace o_faultInner o_faultInnerPlace o_foundMany o_skips o_isFull o_tape_n o_tape_c o_out_n o_out_c o_made_n o_made_c o_packed_n o.2 o_latest_n o_latest_c o_ahead_n o_ahead_c o_notes_n o_notes_c o_elements_n o_elements_c o_chunks_n o_chunks_c o_sums_n o_sums_c o_found_n o_found_c o_before_n o_before_c) 0 0 := by
  refine x_start (cc := cX7_pack) (maxL := 2) (ret := none) (by decide) rfl (Nat.le_of_ble_eq_true rfl) ?_
  intro p e s m below meth c ls C0 hW hl
  have hl : lv_has ls 2 [(0, .ref h_o), (1, .int p1)] := hl
  unfold f_X7_pack at hF
  refine lv_aload_n C0.x C0.b dX7_pack_0 rfl (lv_at hl 0 rfl) ?_
  refine x_get C0 hW iw_X7 0 rfl rfl 3 (by decide) (List.mem_cons_of_mem _ wl_115) (v := .ref h_o_packed) rfl dX7_pack_1 ?_
  refine lv_aload_n C0.x C0.b dX7_pack_4 rfl (lv_at hl 0 rfl) ?_
  refine x_get C0 hW iw_X7 0 rfl rfl 7 (by decide) (List.mem_cons_of_mem _ wl_298) (v := .int o_packs) rfl dX7_pack_5 ?_
  refine lv_iload_n C0.x C0.b dX7_pack_8 rfl (lv_at hl 1 rfl) ?_
  refine lv_i2b (v := (p1.toInt8.toInt32)) C0.x C0.b dX7_pack_9 rfl ?_
  obtain ⟨h1, hF⟩ := ck_some hF
  refine x_bast C0 hW 4 1 rfl rfl h1 dX7_pack_10 (ws' := (wF_SnapHouseModel g h_o h_o_tape h_o_out h_o_made h_o_packed h_o_latest h_o_ahead h_o_notes h_o_elements h_o_chunks h_o_sums h_o_found h_o_before o_taped o_outs o_mades o_packs o_thrown o_blockFault o_blockPlace o_opened o_literals o_wanted o_elementMany o_literalMany o_chunkMany o_skippedMany o_faultNumber o_faultPlace o_faultInner o_faultInnerPlace o_foundMany o_skips o_isFull o_tape_n o_tape_c o_out_n o_out_c o_made_n o_made_c o_packed_n (upd o_packed_c o_packs.toNatClampNeg (vp_nar .byte (p1.toInt8.toInt32))) o_latest_n o_latest_c o_ahead_n o_ahead_c o_notes_n o_notes_c o_elements_n o_elements_c o_chunks_n o_chunks_c o_sums_n o_sums_c o_found_n o_found_c o_before_n o_before_c)) rfl (fun H locs hW => ?_)
  refine lv_aload_n C0.x C0.b dX7_pack_11 rfl (lv_at hl 0 rfl) ?_
  refine lv_dup C0.x C0.b dX7_pack_12 rfl ?_
  refine x_get C0 hW iw_X7 0 rfl rfl 7 (by decide) (List.mem_cons_of_mem _ wl_298) (v := .int o_packs) rfl dX7_pack_13 ?_
  refine lv_iconst (v := (1 : Int32)) C0.x C0.b dX7_pack_16 (by decide) ?_
  refine lv_iadd C0.x C0.b dX7_pack_17 ?_
  refine x_put C0 hW iw_X7 tyX7 tyX7_ok nmX7 0 rfl rfl 7 (by decide) (List.mem_cons_of_mem _ wl_298) rfl (ty := .int) (v := .int (o_packs + (1 : Int32))) (by decide +kernel) rfl rfl (Nat.le_of_ble_eq_true rfl) dX7_pack_18 (ws' := (wF_SnapHouseModel g h_o h_o_tape h_o_out h_o_made h_o_packed h_o_latest h_o_ahead h_o_notes h_o_elements h_o_chunks h_o_sums h_o_found h_o_before o_taped o_outs o_mades (o_packs + (1 : Int32)) o_thrown o_blockFault o_blockPlace o_opened o_literals o_wanted o_elementMany o_literalMany o_chunkMany o_skippedMany o_faultNumber o_faultPlace o_faultInner o_faultInnerPlace o_foundMany o_skips o_isFull o_tape_n o_tape_c o_out_n o_out_c o_made_n o_made_c o_packed_n (upd o_packed_c o_packs.toNatClampNeg (vp_nar .byte (p1.toInt8.toInt32))) o_latest_n o_latest_c o_ahead_n o_ahead_c o_notes_n o_notes_c o_elements_n o_elements_c o_chunks_n o_chunks_c o_sums_n o_sums_c o_found_n o_found_c o_before_n o_before_c)) rfl (fun H locs hW => ?_)
  obtain rfl := Option.some.inj hF
  exact x_vret C0 hW dX7_pack_21

abbrev rm_X7_literal : Room := { frames := 1, cells := 0, slots := 0, locals := 21 }

set_option maxHeartbeats 4000000 in
set_option maxRecDepth 100000 in
theorem w_X7_literal_b104 (l : Launch) (g : GX) (h_o h_o_tape h_o_out h_o_made h_o_packed h_o_latest h_o_ahead h_o_notes h_o_elements h_o_chunks h_o_sums h_o_found h_o_before : Nat) {K : Nat} {o_tape_n : Nat} {o_tape_c : Nat → Int32} {o_packed_n : Nat} {o_taped : Int32} {o_outs : Int32} {o_mades : Int32} {o_thrown : Int32} {o_blockFault : Int32} {o_blockPlace : Int32} {o_opened : Int32} {o_literals : Int32} {o_wanted : Int32} {o_elementMany : Int32} {o_literalMany : Int32} {o_chunkMany : Int32} {o_skippedMany : Int32} {o_faultNumber : Int32} {o_faultPlace : Int32} {o_faultInner : Int32} {o_faultInnerPlace : Int32} {o_foundMany : Int32} {o_skips : Int32} {o_isFull : Int32} {o_out_n : Nat} {o_out_c : Nat → Int32} {o_made_n : Nat} {o_made_c : Nat → Int32} {o_latest_n : Nat} {o_latest_c : Nat → Int32} {o_ahead_n : Nat} {o_ahead_c : Nat → Int32} {o_notes_n : Nat} {o_notes_c : Nat → Int32} {o_elements_n : Nat} {o_elements_c : Nat → Int32} {o_chunks_n : Nat} {o_chunks_c : Nat → Int32} {o_sums_n : Nat} {o_sums_c : Nat → Int32} {o_found_n : Nat} {o_found_c : Nat → Int32} {o_before_n : Nat} {o_before_c : Nat → Int32} {p1 : Int32} {p2 : Int32} {o : Int32 × (Nat → Int32)} {wc : va_W} {p : Program} {e : Env} {s : State} {m : MethodId} {args : Array Value} {below : List Frame} {meth : Method} {c : Code} (C0 : bx g p s m meth c args cX7_literal 7 none yX7_literal wA_X7_literal (va_A wc s.heap.size)) :
    ∀ (n : Nat) (o_packs : Int32) (o_packed_c : Nat → Int32) (x5 : Int32), f_X7_literal_b104 K o_tape_n o_tape_c o_packed_n p1 p2 n o_packs o_packed_c x5 = some o → ∀ (H : Heap) (locs : List Loc) (ls : Array Slot), ww g (va_A wc s.heap.size) s (wF_SnapHouseModel g h_o h_o_tape h_o_out h_o_made h_o_packed h_o_latest h_o_ahead h_o_notes h_o_elements h_o_chunks h_o_sums h_o_found h_o_before o_taped o_outs o_mades o_packs o_thrown o_blockFault o_blockPlace o_opened o_literals o_wanted o_elementMany o_literalMany o_chunkMany o_skippedMany o_faultNumber o_faultPlace o_faultInner o_faultInnerPlace o_foundMany o_skips o_isFull o_tape_n o_tape_c o_out_n o_out_c o_made_n o_made_c o_packed_n o_packed_c o_latest_n o_latest_c o_ahead_n o_ahead_c o_notes_n o_notes_c o_elements_n o_elements_c o_chunks_n o_chunks_c o_sums_n o_sums_c o_found_n o_found_c o_before_n o_before_c) H locs → lv_has ls 7 [(0, .ref h_o), (2, .int p2), (5, .int x5)] → W p l e rm_X7_literal s m args below meth c H locs 0 0 (MQ below (qcV g wc s.heap.size (wF_SnapHouseModel g h_o h_o_tape h_o_out h_o_made h_o_packed h_o_latest h_o_ahead h_o_notes h_o_elements h_o_chunks h_o_sums h_o_found h_o_before o_taped o_outs o_mades o.1 o_thrown o_blockFault o_blockPlace o_opened o_literals o_wanted o_elementMany o_literalMany o_chunkMany o_skippedMany o_faultNumber o_faultPlace o_faultInner o_faultInnerPlace o_foundMany o_skips o_isFull o_tape_n o_tape_c o_out_n o_out_c o_made_n o_made_c o_packed_n o.2 o_latest_n o_latest_c o_ahead_n o_ahead_c o_notes_n o_notes_c o_elements_n o_elements_c o_chunks_n o_chunks_c o_sums_n o_sums_c o_found_n o_found_c o_before_n o_before_c)) args s 0 0 (va_A wc s.heap.size)) (F0 m 104 ls []) := by
  intro n
  induction n with
  | zero => intro o_packs o_packed_c x5 hF; cases (show (none : Option (Int32 × (Nat → Int32))) = some o from hF)
  | succ n ih =>
    intro o_packs o_packed_c x5 hF H locs ls hW hl
    rw [f_X7_literal_b104] at hF
    refine lv_iload C0.x C0.b dX7_literal_104 (lv_at hl 2 rfl) ?_
    refine lv_iload_n C0.x C0.b dX7_literal_106 rfl (lv_at hl 1 rfl) ?_
    refine lv_icmp_ge (tgt := 127) C0.x C0.b dX7_literal_107 (by decide) (fun c1 => ?_) (fun c1 => ?_)
    · have hF := it_t hF c1
      obtain rfl := Option.some.inj hF
      exact x_vret C0 hW dX7_literal_127
    · have hF := it_f hF c1
      refine lv_aload_n C0.x C0.b dX7_literal_110 rfl (lv_at hl 0 rfl) ?_
      refine lv_aload_n C0.x C0.b dX7_literal_111 rfl (lv_at hl 0 rfl) ?_
      refine x_get C0 hW iw_X7 0 rfl rfl 0 (by decide) (List.mem_cons_of_mem _ wl_112) (v := .ref h_o_tape) rfl dX7_literal_112 ?_
      refine lv_iload C0.x C0.b dX7_literal_115 (lv_at hl 2 rfl) ?_
      obtain ⟨h2, hF⟩ := ck_some hF
      refine x_bald C0 hW 1 1 rfl rfl h2 dX7_literal_117 ?_
      obtain ⟨r3, e4, hF⟩ := ob hF
      refine go_v C0 hW [0, 1, 2, 3, 4, 5, 6, 7, 8, 9, 10, 11, 12] [] [0, 1, 2, 3, 4, 5, 6, 7, 8, 9, 10, 11, 12] (va_runV (As := [.int (o_tape_c x5.toNatClampNeg)]) (rest := []) C0.fix (c_X7_pack l g h_o h_o_tape h_o_out h_o_made h_o_packed h_o_latest h_o_ahead h_o_notes h_o_elements h_o_chunks h_o_sums h_o_found h_o_before o_taped o_outs o_mades o_thrown o_blockFault o_blockPlace o_opened o_literals o_wanted o_elementMany o_literalMany o_chunkMany o_skippedMany o_faultNumber o_faultPlace o_faultInner o_faultInnerPlace o_foundMany o_skips o_isFull o_tape_n o_tape_c o_out_n o_out_c o_made_n o_made_c o_latest_n o_latest_c o_ahead_n o_ahead_c o_notes_n o_notes_c o_elements_n o_elements_c o_chunks_n o_chunks_c o_sums_n o_sums_c o_found_n o_found_c o_before_n o_before_c e4 _) (cwV 1 C0.ts (gw_V wl_303 wl_304 wl_305 wl_5 wl_306) rfl rfl rfl (by decide +kernel) ⟨Nat.le_of_ble_eq_true rfl, Nat.le_of_ble_eq_true rfl⟩) (pcv_of C0 hW [0, 1, 2, 3, 4, 5, 6, 7, 8, 9, 10, 11, 12] rfl (by decide) (q0 := 0) rfl rfl) rfl rfl hl.1 rfl (lv_room (Nat.le_of_ble_eq_true rfl)) dX7_literal_118 ⟨Nat.le_of_ble_eq_true rfl, Nat.le_of_ble_eq_true rfl⟩) rfl rfl (by decide) (by decide) (ws' := (wF_SnapHouseModel g h_o h_o_tape h_o_out h_o_made h_o_packed h_o_latest h_o_ahead h_o_notes h_o_elements h_o_chunks h_o_sums h_o_found h_o_before o_taped o_outs o_mades r3.1 o_thrown o_blockFault o_blockPlace o_opened o_literals o_wanted o_elementMany o_literalMany o_chunkMany o_skippedMany o_faultNumber o_faultPlace o_faultInner o_faultInnerPlace o_foundMany o_skips o_isFull o_tape_n o_tape_c o_out_n o_out_c o_made_n o_made_c o_packed_n r3.2 o_latest_n o_latest_c o_ahead_n o_ahead_c o_notes_n o_notes_c o_elements_n o_elements_c o_chunks_n o_chunks_c o_sums_n o_sums_c o_found_n o_found_c o_before_n o_before_c)) rfl (by decide) (fun H locs hW => ?_)
      refine lv_iinc (v := (x5 + (1 : Int32))) (lv' := [(5, .int (x5 + (1 : Int32))), (0, .ref h_o), (2, .int p2)]) C0.x C0.b dX7_literal_121 hl (k := 2) rfl rfl (by decide) rfl (fun ls hl => ?_)
      refine lv_goto (tgt := 104) C0.x C0.b dX7_literal_124 (by decide) ?_
      exact ih r3.1 r3.2 (x5 + (1 : Int32)) hF _ _ _ hW (lv_sub hl [1, 2, 0] rfl)

set_option maxHeartbeats 4000000 in
set_option maxRecDepth 100000 in
theorem w_X7_literal_b72 (l : Launch) (g : GX) (h_o h_o_tape h_o_out h_o_made h_o_packed h_o_latest h_o_ahead h_o_notes h_o_elements h_o_chunks h_o_sums h_o_found h_o_before : Nat) {K : Nat} {o_tape_n : Nat} {o_tape_c : Nat → Int32} {o_packed_n : Nat} {o_taped : Int32} {o_outs : Int32} {o_mades : Int32} {o_thrown : Int32} {o_blockFault : Int32} {o_blockPlace : Int32} {o_opened : Int32} {o_literals : Int32} {o_wanted : Int32} {o_elementMany : Int32} {o_literalMany : Int32} {o_chunkMany : Int32} {o_skippedMany : Int32} {o_faultNumber : Int32} {o_faultPlace : Int32} {o_faultInner : Int32} {o_faultInnerPlace : Int32} {o_foundMany : Int32} {o_skips : Int32} {o_isFull : Int32} {o_out_n : Nat} {o_out_c : Nat → Int32} {o_made_n : Nat} {o_made_c : Nat → Int32} {o_latest_n : Nat} {o_latest_c : Nat → Int32} {o_ahead_n : Nat} {o_ahead_c : Nat → Int32} {o_notes_n : Nat} {o_notes_c : Nat → Int32} {o_elements_n : Nat} {o_elements_c : Nat → Int32} {o_chunks_n : Nat} {o_chunks_c : Nat → Int32} {o_sums_n : Nat} {o_sums_c : Nat → Int32} {o_found_n : Nat} {o_found_c : Nat → Int32} {o_before_n : Nat} {o_before_c : Nat → Int32} {p1 : Int32} {p2 : Int32} {o : Int32 × (Nat → Int32)} {wc : va_W} {p : Program} {e : Env} {s : State} {m : MethodId} {args : Array Value} {below : List Frame} {meth : Method} {c : Code} (C0 : bx g p s m meth c args cX7_literal 7 none yX7_literal wA_X7_literal (va_A wc s.heap.size)) :
    ∀ (n : Nat) (o_packs : Int32) (o_packed_c : Nat → Int32) (x4 : Int32) (x5 : Int32) (x6 : Int32), f_X7_literal_b72 K o_tape_n o_tape_c o_packed_n p1 p2 n o_packs o_packed_c x4 x5 x6 = some o → ∀ (H : Heap) (locs : List Loc) (ls : Array Slot), ww g (va_A wc s.heap.size) s (wF_SnapHouseModel g h_o h_o_tape h_o_out h_o_made h_o_packed h_o_latest h_o_ahead h_o_notes h_o_elements h_o_chunks h_o_sums h_o_found h_o_before o_taped o_outs o_mades o_packs o_thrown o_blockFault o_blockPlace o_opened o_literals o_wanted o_elementMany o_literalMany o_chunkMany o_skippedMany o_faultNumber o_faultPlace o_faultInner o_faultInnerPlace o_foundMany o_skips o_isFull o_tape_n o_tape_c o_out_n o_out_c o_made_n o_made_c o_packed_n o_packed_c o_latest_n o_latest_c o_ahead_n o_ahead_c o_notes_n o_notes_c o_elements_n o_elements_c o_chunks_n o_chunks_c o_sums_n o_sums_c o_found_n o_found_c o_before_n o_before_c) H locs → lv_has ls 7 [(0, .ref h_o), (1, .int p1), (2, .int p2), (4, .int x4), (5, .int x5), (6, .int x6)] → W p l e rm_X7_literal s m args below meth c H locs 0 0 (MQ below (qcV g wc s.heap.size (wF_SnapHouseModel g h_o h_o_tape h_o_out h_o_made h_o_packed h_o_latest h_o_ahead h_o_notes h_o_elements h_o_chunks h_o_sums h_o_found h_o_before o_taped o_outs o_mades o.1 o_thrown o_blockFault o_blockPlace o_opened o_literals o_wanted o_elementMany o_literalMany o_chunkMany o_skippedMany o_faultNumber o_faultPlace o_faultInner o_faultInnerPlace o_foundMany o_skips o_isFull o_tape_n o_tape_c o_out_n o_out_c o_made_n o_made_c o_packed_n o.2 o_latest_n o_latest_c o_ahead_n o_ahead_c o_notes_n o_notes_c o_elements_n o_elements_c o_chunks_n o_chunks_c o_sums_n o_sums_c o_found_n o_found_c o_before_n o_before_c)) args s 0 0 (va_A wc s.heap.size)) (F0 m 72 ls []) := by
  intro n
  induction n with
  | zero => intro o_packs o_packed_c x4 x5 x6 hF; cases (show (none : Option (Int32 × (Nat → Int32))) = some o from hF)
  | succ n ih =>
    intro o_packs o_packed_c x4 x5 x6 hF H locs ls hW hl
    rw [f_X7_literal_b72] at hF
    refine lv_iload C0.x C0.b dX7_literal_72 (lv_at hl 5 rfl) ?_
    refine lv_iload C0.x C0.b dX7_literal_74 (lv_at hl 4 rfl) ?_
    refine lv_icmp_ge (tgt := 101) C0.x C0.b dX7_literal_76 (by decide) (fun c1 => ?_) (fun c1 => ?_)
    · have hF := it_t hF c1
      refine lv_iload_n C0.x C0.b dX7_literal_101 rfl (lv_at hl 1 rfl) ?_
      refine lv_istore (lv' := [(5, .int p1), (0, .ref h_o), (1, .int p1), (2, .int p2), (4, .int x4), (6, .int x6)]) C0.x C0.b dX7_literal_102 hl (by decide) rfl (fun ls hl => ?_)
      exact w_X7_literal_b104 l g h_o h_o_tape h_o_out h_o_made h_o_packed h_o_latest h_o_ahead h_o_notes h_o_elements h_o_chunks h_o_sums h_o_found h_o_before C0 K o_packs o_packed_c p1 hF _ _ _ hW (lv_sub hl [1, 3, 0] rfl)
    · have hF := it_f hF c1
      refine lv_aload_n C0.x C0.b dX7_literal_79 rfl (lv_at hl 0 rfl) ?_
      refine lv_iload C0.x C0.b dX7_literal_80 (lv_at hl 3 rfl) ?_
      refine lv_bipush (v := (8 : Int32)) C0.x C0.b dX7_literal_82 (by decide) ?_
      refine lv_iload C0.x C0.b dX7_literal_84 (lv_at hl 5 rfl) ?_
      refine lv_imul C0.x C0.b dX7_literal_86 ?_
      refine lv_ishr C0.x C0.b dX7_literal_87 ?_
      refine lv_sipush (v := (255 : Int32)) C0.x C0.b dX7_literal_88 (by decide) ?_
      refine lv_iand C0.x C0.b dX7_literal_91 ?_
      obtain ⟨r2, e3, hF⟩ := ob hF
      refine go_v C0 hW [0, 1, 2, 3, 4, 5, 6, 7, 8, 9, 10, 11, 12] [] [0, 1, 2, 3, 4, 5, 6, 7, 8, 9, 10, 11, 12] (va_runV (As := [.int ((x4 >>> (((8 : Int32) * x6) &&& 31)) &&& (255 : Int32))]) (rest := []) C0.fix (c_X7_pack l g h_o h_o_tape h_o_out h_o_made h_o_packed h_o_latest h_o_ahead h_o_notes h_o_elements h_o_chunks h_o_sums h_o_found h_o_before o_taped o_outs o_mades o_thrown o_blockFault o_blockPlace o_opened o_literals o_wanted o_elementMany o_literalMany o_chunkMany o_skippedMany o_faultNumber o_faultPlace o_faultInner o_faultInnerPlace o_foundMany o_skips o_isFull o_tape_n o_tape_c o_out_n o_out_c o_made_n o_made_c o_latest_n o_latest_c o_ahead_n o_ahead_c o_notes_n o_notes_c o_elements_n o_elements_c o_chunks_n o_chunks_c o_sums_n o_sums_c o_found_n o_found_c o_before_n o_before_c e3 _) (cwV 1 C0.ts (gw_V wl_303 wl_304 wl_305 wl_5 wl_306) rfl rfl rfl (by decide +kernel) ⟨Nat.le_of_ble_eq_true rfl, Nat.le_of_ble_eq_true rfl⟩) (pcv_of C0 hW [0, 1, 2, 3, 4, 5, 6, 7, 8, 9, 10, 11, 12] rfl (by decide) (q0 := 0) rfl rfl) rfl rfl hl.1 rfl (lv_room (Nat.le_of_ble_eq_true rfl)) dX7_literal_92 ⟨Nat.le_of_ble_eq_true rfl, Nat.le_of_ble_eq_true rfl⟩) rfl rfl (by decide) (by decide) (ws' := (wF_SnapHouseModel g h_o h_o_tape h_o_out h_o_made h_o_packed h_o_latest h_o_ahead h_o_notes h_o_elements h_o_chunks h_o_sums h_o_found h_o_before o_taped o_outs o_mades r2.1 o_thrown o_blockFault o_blockPlace o_opened o_literals o_wanted o_elementMany o_literalMany o_chunkMany o_skippedMany o_faultNumber o_faultPlace o_faultInner o_faultInnerPlace o_foundMany o_skips o_isFull o_tape_n o_tape_c o_out_n o_out_c o_made_n o_made_c o_packed_n r2.2 o_latest_n o_latest_c o_ahead_n o_ahead_c o_notes_n o_notes_c o_elements_n o_elements_c o_chunks_n o_chunks_c o_sums_n o_sums_c o_found_n o_found_c o_before_n o_before_c)) rfl (by decide) (fun H locs hW => ?_)
      refine lv_iinc (v := (x6 + (1 : Int32))) (lv' := [(6, .int (x6 + (1 : Int32))), (0, .ref h_o), (1, .int p1), (2, .int p2), (4, .int x4), (5, .int x5)]) C0.x C0.b dX7_literal_95 hl (k := 5) rfl rfl (by decide) rfl (fun ls hl => ?_)
      refine lv_goto (tgt := 72) C0.x C0.b dX7_literal_98 (by decide) ?_
      exact ih r2.1 r2.2 x4 x5 (x6 + (1 : Int32)) hF _ _ _ hW (lv_sub hl [1, 2, 3, 4, 5, 0] rfl)

set_option maxHeartbeats 4000000 in
set_option maxRecDepth 100000 in
theorem w_X7_literal_b56 (l : Launch) (g : GX) (h_o h_o_tape h_o_out h_o_made h_o_packed h_o_latest h_o_ahead h_o_notes h_o_elements h_o_chunks h_o_sums h_o_found h_o_before : Nat) {K : Nat} {o_tape_n : Nat} {o_tape_c : Nat → Int32} {o_packed_n : Nat} {o_taped : Int32} {o_outs : Int32} {o_mades : Int32} {o_thrown : Int32} {o_blockFault : Int32} {o_blockPlace : Int32} {o_opened : Int32} {o_literals : Int32} {o_wanted : Int32} {o_elementMany : Int32} {o_literalMany : Int32} {o_chunkMany : Int32} {o_skippedMany : Int32} {o_faultNumber : Int32} {o_faultPlace : Int32} {o_faultInner : Int32} {o_faultInnerPlace : Int32} {o_foundMany : Int32} {o_skips : Int32} {o_isFull : Int32} {o_out_n : Nat} {o_out_c : Nat → Int32} {o_made_n : Nat} {o_made_c : Nat → Int32} {o_latest_n : Nat} {o_latest_c : Nat → Int32} {o_ahead_n : Nat} {o_ahead_c : Nat → Int32} {o_notes_n : Nat} {o_notes_c : Nat → Int32} {o_elements_n : Nat} {o_elements_c : Nat → Int32} {o_chunks_n : Nat} {o_chunks_c : Nat → Int32} {o_sums_n : Nat} {o_sums_c : Nat → Int32} {o_found_n : Nat} {o_found_c : Nat → Int32} {o_before_n : Nat} {o_before_c : Nat → Int32} {p1 : Int32} {p2 : Int32} {o : Int32 × (Nat → Int32)} {wc : va_W} {p : Program} {e : Env} {s : State} {m : MethodId} {args : Array Value} {below : List Frame} {meth : Method} {c : Code} (C0 : bx g p s m meth c args cX7_literal 7 none yX7_literal wA_X7_literal (va_A wc s.heap.size)) :
    ∀ (o_packs : Int32) (o_packed_c : Nat → Int32) (x4 : Int32) (t0 : Int32), f_X7_literal_b56 K o_tape_n o_tape_c o_packed_n p1 p2 o_packs o_packed_c x4 t0 = some o → ∀ (H : Heap) (locs : List Loc) (ls : Array Slot), ww g (va_A wc s.heap.size) s (wF_SnapHouseModel g h_o h_o_tape h_o_out h_o_made h_o_packed h_o_latest h_o_ahead h_o_notes h_o_elements h_o_chunks h_o_sums h_o_found h_o_before o_taped o_outs o_mades o_packs o_thrown o_blockFault o_blockPlace o_opened o_literals o_wanted o_elementMany o_literalMany o_chunkMany o_skippedMany o_faultNumber o_faultPlace o_faultInner o_faultInnerPlace o_foundMany o_skips o_isFull o_tape_n o_tape_c o_out_n o_out_c o_made_n o_made_c o_packed_n o_packed_c o_latest_n o_latest_c o_ahead_n o_ahead_c o_notes_n o_notes_c o_elements_n o_elements_c o_chunks_n o_chunks_c o_sums_n o_sums_c o_found_n o_found_c o_before_n o_before_c) H locs → lv_has ls 7 [(0, .ref h_o), (1, .int p1), (2, .int p2), (4, .int x4)] → W p l e rm_X7_literal s m args below meth c H locs 0 0 (MQ below (qcV g wc s.heap.size (wF_SnapHouseModel g h_o h_o_tape h_o_out h_o_made h_o_packed h_o_latest h_o_ahead h_o_notes h_o_elements h_o_chunks h_o_sums h_o_found h_o_before o_taped o_outs o_mades o.1 o_thrown o_blockFault o_blockPlace o_opened o_literals o_wanted o_elementMany o_literalMany o_chunkMany o_skippedMany o_faultNumber o_faultPlace o_faultInner o_faultInnerPlace o_foundMany o_skips o_isFull o_tape_n o_tape_c o_out_n o_out_c o_made_n o_made_c o_packed_n o.2 o_latest_n o_latest_c o_ahead_n o_ahead_c o_notes_n o_notes_c o_elements_n o_elements_c o_chunks_n o_chunks_c o_sums_n o_sums_c o_found_n o_found_c o_before_n o_before_c)) args s 0 0 (va_A wc s.heap.size)) (F0 m 56 ls [.int t0]) := by
  intro o_packs o_packed_c x4 t0 hF H locs ls hW hl
  unfold f_X7_literal_b56 at hF
  refine lv_istore (lv' := [(5, .int t0), (0, .ref h_o), (1, .int p1), (2, .int p2), (4, .int x4)]) C0.x C0.b dX7_literal_56 hl (by decide) rfl (fun ls hl => ?_)
  refine lv_aload_n C0.x C0.b dX7_literal_58 rfl (lv_at hl 1 rfl) ?_
  refine lv_bipush (v := (59 : Int32)) C0.x C0.b dX7_literal_59 (by decide) ?_
  refine lv_iload C0.x C0.b dX7_literal_61 (lv_at hl 0 rfl) ?_
  refine lv_iadd C0.x C0.b dX7_literal_63 ?_
  refine lv_iconst (v := (2 : Int32)) C0.x C0.b dX7_literal_64 (by decide) ?_
  refine lv_ishl C0.x C0.b dX7_literal_65 ?_
  obtain ⟨r1, e2, hF⟩ := ob hF
  refine go_v C0 hW [0, 1, 2, 3, 4, 5, 6, 7, 8, 9, 10, 11, 12] [] [0, 1, 2, 3, 4, 5, 6, 7, 8, 9, 10, 11, 12] (va_runV (As := [.int (((59 : Int32) + t0) <<< ((2 : Int32) &&& 31))]) (rest := []) C0.fix (c_X7_pack l g h_o h_o_tape h_o_out h_o_made h_o_packed h_o_latest h_o_ahead h_o_notes h_o_elements h_o_chunks h_o_sums h_o_found h_o_before o_taped o_outs o_mades o_thrown o_blockFault o_blockPlace o_opened o_literals o_wanted o_elementMany o_literalMany o_chunkMany o_skippedMany o_faultNumber o_faultPlace o_faultInner o_faultInnerPlace o_foundMany o_skips o_isFull o_tape_n o_tape_c o_out_n o_out_c o_made_n o_made_c o_latest_n o_latest_c o_ahead_n o_ahead_c o_notes_n o_notes_c o_elements_n o_elements_c o_chunks_n o_chunks_c o_sums_n o_sums_c o_found_n o_found_c o_before_n o_before_c e2 _) (cwV 1 C0.ts (gw_V wl_303 wl_304 wl_305 wl_5 wl_306) rfl rfl rfl (by decide +kernel) ⟨Nat.le_of_ble_eq_true rfl, Nat.le_of_ble_eq_true rfl⟩) (pcv_of C0 hW [0, 1, 2, 3, 4, 5, 6, 7, 8, 9, 10, 11, 12] rfl (by decide) (q0 := 0) rfl rfl) rfl rfl hl.1 rfl (lv_room (Nat.le_of_ble_eq_true rfl)) dX7_literal_66 ⟨Nat.le_of_ble_eq_true rfl, Nat.le_of_ble_eq_true rfl⟩) rfl rfl (by decide) (by decide) (ws' := (wF_SnapHouseModel g h_o h_o_tape h_o_out h_o_made h_o_packed h_o_latest h_o_ahead h_o_notes h_o_elements h_o_chunks h_o_sums h_o_found h_o_before o_taped o_outs o_mades r1.1 o_thrown o_blockFault o_blockPlace o_opened o_literals o_wanted o_elementMany o_literalMany o_chunkMany o_skippedMany o_faultNumber o_faultPlace o_faultInner o_faultInnerPlace o_foundMany o_skips o_isFull o_tape_n o_tape_c o_out_n o_out_c o_made_n o_made_c o_packed_n r1.2 o_latest_n o_latest_c o_ahead_n o_ahead_c o_notes_n o_notes_c o_elements_n o_elements_c o_chunks_n o_chunks_c o_sums_n o_sums_c o_found_n o_found_c o_before_n o_before_c)) rfl (by decide) (fun H locs hW => ?_)
  refine lv_iconst (v := (0 : Int32)) C0.x C0.b dX7_literal_69 (by decide) ?_
  refine lv_istore (lv' := [(6, .int (0 : Int32)), (5, .int t0), (0, .ref h_o), (1, .int p1), (2, .int p2), (4, .int x4)]) C0.x C0.b dX7_literal_70 hl (by decide) rfl (fun ls hl => ?_)
  exact w_X7_literal_b72 l g h_o h_o_tape h_o_out h_o_made h_o_packed h_o_latest h_o_ahead h_o_notes h_o_elements h_o_chunks h_o_sums h_o_found h_o_before C0 K r1.1 r1.2 x4 t0 (0 : Int32) hF _ _ _ hW (lv_sub hl [2, 3, 4, 5, 1, 0] rfl)

set_option maxHeartbeats 4000000 in
set_option maxRecDepth 100000 in
/-- SnapHouseModel.literal(II)V -/
theorem c_X7_literal (l : Launch) (g : GX) (h_o h_o_tape h_o_out h_o_made h_o_packed h_o_latest h_o_ahead h_o_notes h_o_elements h_o_chunks h_o_sums h_o_found h_o_before : Nat) {K : Nat} (o_taped : Int32) (o_outs : Int32) (o_mades : Int32) (o_thrown : Int32) (o_blockFault : Int32) (o_blockPlace : Int32) (o_opened : Int32) (o_literals : Int32) (o_wanted : Int32) (o_elementMany : Int32) (o_literalMany : Int32) (o_chunkMany : Int32) (o_skippedMany : Int32) (o_faultNumber : Int32) (o_faultPlace : Int32) (o_faultInner : Int32) (o_faultInnerPlace : Int32) (o_foundMany : Int32) (o_skips : Int32) (o_isFull : Int32) (o_out_n : Nat) (o_out_c : Nat → Int32) (o_made_n : Nat) (o_made_c : Nat → Int32) (o_latest_n : Nat) (o_latest_c : Nat → Int32) (o_ahead_n : Nat) (o_ahead_c : Nat → Int32) (o_notes_n : Nat) (o_notes_c : Nat → Int32) (o_elements_n : Nat) (o_elements_c : Nat → Int32) (o_chunks_n : Nat) (o_chunks_c : Nat → Int32) (o_sums_n : Nat) (o_sums_c : Nat → Int32) (o_found_n : Nat) (o_found_c : Nat → Int32) (o_before_n : Nat) (o_before_c : Nat → Int32) {o_packs : Int32} {o_tape_n : Nat} {o_tape_c : Nat → Int32} {o_packed_n : Nat} {o_packed_c : Nat → Int32} {p1 : Int32} {p2 : Int32} {o : Int32 × (Nat → Int32)} (hF : f_X7_literal K o_packs o_tape_n o_tape_c o_packed_n o_packed_c p1 p2 = some o) : mcV g l yX7_literal wA_X7_literal rm_X7_literal [.ref h_o, .int p1, .int p2] (wF_SnapHouseModel g h_o h_o_tape h_o_out h_o_made h_o_packed h_o_latest h_o_ahead h_o_notes h_o_elements h_o_chunks h_o_sums h_o_found h_o_before o_taped o_outs o_mades o_packs o_thrown o_blockFault o_blockPlace o_opened o_literals o_wanted o_elementMany o_literalMany o_chunkMany o_skippedMany o_faultNumber o_faultPlace o_faultInner o_faultInnerPlace o_foundMany o_skips o_isFull o_tape_n o_tape_c o_out_n o_out_c o_made_n o_made_c o_packed_n o_packed_c o_latest_n o_latest_c o_ahead_n o_ahead_c o_notes_n o_notes_c o_elements_n o_elements_c o_chunks_n o_chunks_c o_sums_n o_sums_c o_found_n o_found_c o_before_n o_before_c) (wF_SnapHouseModel g h_o h_o_tape h_o_out h_o_made h_o_packed h_o_latest h_o_ahead h_o_notes h_o_elements h_o_chunks h_o_sums h_o_found h_o_before o_taped o_outs o_mades o.1 o_thrown o_blockFault o_blockPlace o_opened o_literals o_wanted o_elementMany o_literalMany o_chunkMany o_skippedMany o_faultNumber o_faultPlace o_faultInner o_faultInnerPlace o_foundMany o_skips o_isFull o_tape_n o_tape_c o_out_n o_out_c o_made_n o_made_c o_packed_n o.2 o_latest_n o_latest_c o_ahead_n o_ahead_c o_notes_n o_notes_c o_elements_n o_elements_c o_chunks_n o_chunks_c o_sums_n o_sums_c o_found_n o_found_c o_before_n o_before_c) 0 0 := by
  refine x_start (cc := cX7_literal) (maxL := 7) (ret := none) (by decide) rfl (Nat.le_of_ble_eq_true rfl) ?_
  intro p e s m below meth c ls C0 hW hl
  have hl : lv_has ls 7 [(0, .ref h_o), (1, .int p1), (2, .int p2)] := hl
  unfold f_X7_literal at hF
  refine lv_iload_n C0.x C0.b dX7_literal_0 rfl (lv_at hl 2 rfl) ?_
  refine lv_iload_n C0.x C0.b dX7_literal_1 rfl (lv_at hl 1 rfl) ?_
  refine lv_isub C0.x C0.b dX7_literal_2 ?_
  refine lv_istore_n (lv' := [(3, .int (p2 - p1)), (0, .ref h_o), (1, .int p1), (2, .int p2)]) C0.x C0.b dX7_literal_3 rfl hl (by decide) rfl (fun ls hl => ?_)
  refine lv_iload_n C0.x C0.b dX7_literal_4 rfl (lv_at hl 0 rfl) ?_
  refine lv_if_ne (tgt := 9) C0.x C0.b dX7_literal_5 (by decide) (fun c1 => ?_) (fun c1 => ?_)
  · have hF := it_f hF c1
    refine lv_iload_n C0.x C0.b dX7_literal_9 rfl (lv_at hl 0 rfl) ?_
    refine lv_iconst (v := (1 : Int32)) C0.x C0.b dX7_literal_10 (by decide) ?_
    refine lv_isub C0.x C0.b dX7_literal_11 ?_
    refine lv_istore (lv' := [(4, .int ((p2 - p1) - (1 : Int32))), (3, .int (p2 - p1)), (0, .ref h_o), (1, .int p1), (2, .int p2)]) C0.x C0.b dX7_literal_12 hl (by decide) rfl (fun ls hl => ?_)
    refine lv_iload C0.x C0.b dX7_literal_14 (lv_at hl 0 rfl) ?_
    refine lv_bipush (v := (60 : Int32)) C0.x C0.b dX7_literal_16 (by decide) ?_
    refine lv_icmp_ge (tgt := 32) C0.x C0.b dX7_literal_18 (by decide) (fun c2 => ?_) (fun c2 => ?_)
    · have hF := it_t hF c2
      refine lv_iload C0.x C0.b dX7_literal_32 (lv_at hl 0 rfl) ?_
      refine lv_sipush (v := (256 : Int32)) C0.x C0.b dX7_literal_34 (by decide) ?_
      refine lv_icmp_ge (tgt := 44) C0.x C0.b dX7_literal_37 (by decide) (fun c3 => ?_) (fun c3 => ?_)
      · have hF := it_t hF c3
        refine lv_iload C0.x C0.b dX7_literal_44 (lv_at hl 0 rfl) ?_
        refine lv_ldc (v := (65536 : Int32)) C0.x C0.b C0.own (C0.ts _ (List.mem_cons_of_mem _ wl_324)) dX7_literal_46 ?_
        refine lv_icmp_ge (tgt := 55) C0.x C0.b dX7_literal_48 (by decide) (fun c4 => ?_) (fun c4 => ?_)
        · have hF := it_t hF c4
          refine lv_iconst (v := (3 : Int32)) C0.x C0.b dX7_literal_55 (by decide) ?_
          exact w_X7_literal_b56 l g h_o h_o_tape h_o_out h_o_made h_o_packed h_o_latest h_o_ahead h_o_notes h_o_elements h_o_chunks h_o_sums h_o_found h_o_before C0 o_packs o_packed_c ((p2 - p1) - (1 : Int32)) (3 : Int32) hF _ _ _ hW (lv_sub hl [2, 3, 4, 0] rfl)
        · have hF := it_f hF c4
          refine lv_iconst (v := (2 : Int32)) C0.x C0.b dX7_literal_51 (by decide) ?_
          refine lv_goto (tgt := 56) C0.x C0.b dX7_literal_52 (by decide) ?_
          exact w_X7_literal_b56 l g h_o h_o_tape h_o_out h_o_made h_o_packed h_o_latest h_o_ahead h_o_notes h_o_elements h_o_chunks h_o_sums h_o_found h_o_before C0 o_packs o_packed_c ((p2 - p1) - (1 : Int32)) (2 : Int32) hF _ _ _ hW (lv_sub hl [2, 3, 4, 0] rfl)
      · have hF := it_f hF c3
        refine lv_iconst (v := (1 : Int32)) C0.x C0.b dX7_literal_40 (by decide) ?_
        refine lv_goto (tgt := 56) C0.x C0.b dX7_literal_41 (by decide) ?_
        exact w_X7_literal_b56 l g h_o h_o_tape h_o_out h_o_made h_o_packed h_o_latest h_o_ahead h_o_notes h_o_elements h_o_chunks h_o_sums h_o_found h_o_before C0 o_packs o_packed_c ((p2 - p1) - (1 : Int32)) (1 : Int32) hF _ _ _ hW (lv_sub hl [2, 3, 4, 0] rfl)
    · have hF := it_f hF c2
      refine lv_aload_n C0.x C0.b dX7_literal_21 rfl (lv_at hl 2 rfl) ?_
      refine lv_iload C0.x C0.b dX7_literal_22 (lv_at hl 0 rfl) ?_
      refine lv_iconst (v := (2 : Int32)) C0.x C0.b dX7_literal_24 (by decide) ?_
      refine lv_ishl C0.x C0.b dX7_literal_25 ?_
      obtain ⟨r5, e6, hF⟩ := ob hF
      refine go_v C0 hW [0, 1, 2, 3, 4, 5, 6, 7, 8, 9, 10, 11, 12] [] [0, 1, 2, 3, 4, 5, 6, 7, 8, 9, 10, 11, 12] (va_runV (As := [.int (((p2 - p1) - (1 : Int32)) <<< ((2 : Int32) &&& 31))]) (rest := []) C0.fix (c_X7_pack l g h_o h_o_tape h_o_out h_o_made h_o_packed h_o_latest h_o_ahead h_o_notes h_o_elements h_o_chunks h_o_sums h_o_found h_o_before o_taped o_outs o_mades o_thrown o_blockFault o_blockPlace o_opened o_literals o_wanted o_elementMany o_literalMany o_chunkMany o_skippedMany o_faultNumber o_faultPlace o_faultInner o_faultInnerPlace o_foundMany o_skips o_isFull o_tape_n o_tape_c o_out_n o_out_c o_made_n o_made_c o_latest_n o_latest_c o_ahead_n o_ahead_c o_notes_n o_notes_c o_elements_n o_elements_c o_chunks_n o_chunks_c o_sums_n o_sums_c o_found_n o_found_c o_before_n o_before_c e6 _) (cwV 1 C0.ts (gw_V wl_303 wl_304 wl_305 wl_5 wl_306) rfl rfl rfl (by decide +kernel) ⟨Nat.le_of_ble_eq_true rfl, Nat.le_of_ble_eq_true rfl⟩) (pcv_of C0 hW [0, 1, 2, 3, 4, 5, 6, 7, 8, 9, 10, 11, 12] rfl (by decide) (q0 := 0) rfl rfl) rfl rfl hl.1 rfl (lv_room (Nat.le_of_ble_eq_true rfl)) dX7_literal_26 ⟨Nat.le_of_ble_eq_true rfl, Nat.le_of_ble_eq_true rfl⟩) rfl rfl (by decide) (by decide) (ws' := (wF_SnapHouseModel g h_o h_o_tape h_o_out h_o_made h_o_packed h_o_latest h_o_ahead h_o_notes h_o_elements h_o_chunks h_o_sums h_o_found h_o_before o_taped o_outs o_mades r5.1 o_thrown o_blockFault o_blockPlace o_opened o_literals o_wanted o_elementMany o_literalMany o_chunkMany o_skippedMany o_faultNumber o_faultPlace o_faultInner o_faultInnerPlace o_foundMany o_skips o_isFull o_tape_n o_tape_c o_out_n o_out_c o_made_n o_made_c o_packed_n r5.2 o_latest_n o_latest_c o_ahead_n o_ahead_c o_notes_n o_notes_c o_elements_n o_elements_c o_chunks_n o_chunks_c o_sums_n o_sums_c o_found_n o_found_c o_before_n o_before_c)) rfl (by decide) (fun H locs hW => ?_)
      refine lv_goto (tgt := 101) C0.x C0.b dX7_literal_29 (by decide) ?_
      refine lv_iload_n C0.x C0.b dX7_literal_101 rfl (lv_at hl 3 rfl) ?_
      refine lv_istore (lv' := [(5, .int p1), (4, .int ((p2 - p1) - (1 : Int32))), (3, .int (p2 - p1)), (0, .ref h_o), (1, .int p1), (2, .int p2)]) C0.x C0.b dX7_literal_102 hl (by decide) rfl (fun ls hl => ?_)
      exact w_X7_literal_b104 l g h_o h_o_tape h_o_out h_o_made h_o_packed h_o_latest h_o_ahead h_o_notes h_o_elements h_o_chunks h_o_sums h_o_found h_o_before C0 K r5.1 r5.2 p1 hF _ _ _ hW (lv_sub hl [3, 5, 0] rfl)
  · have hF := it_t hF c1
    obtain rfl := Option.some.inj hF
    exact x_vret C0 hW dX7_literal_8

abbrev rm_X7_at : Room := { frames := 0, cells := 0, slots := 0, locals := 0 }

set_option maxHeartbeats 4000000 in
set_option maxRecDepth 100000 in
/-- SnapHouseModel.at(I)I -/
theorem c_X7_at (l : Launch) (g : GX) (h_o h_o_tape h_o_out h_o_made h_o_packed h_o_latest h_o_ahead h_o_notes h_o_elements h_o_chunks h_o_sums h_o_found h_o_before : Nat) {K : Nat} (o_taped : Int32) (o_outs : Int32) (o_mades : Int32) (o_packs : Int32) (o_thrown : Int32) (o_blockFault : Int32) (o_blockPlace : Int32) (o_opened : Int32) (o_literals : Int32) (o_wanted : Int32) (o_elementMany : Int32) (o_literalMany : Int32) (o_chunkMany : Int32) (o_skippedMany : Int32) (o_faultNumber : Int32) (o_faultPlace : Int32) (o_faultInner : Int32) (o_faultInnerPlace : Int32) (o_foundMany : Int32) (o_skips : Int32) (o_isFull : Int32) (o_out_n : Nat) (o_out_c : Nat → Int32) (o_made_n : Nat) (o_made_c : Nat → Int32) (o_packed_n : Nat) (o_packed_c : Nat → Int32) (o_latest_n : Nat) (o_latest_c : Nat → Int32) (o_ahead_n : Nat) (o_ahead_c : Nat → Int32) (o_notes_n : Nat) (o_notes_c : Nat → Int32) (o_elements_n : Nat) (o_elements_c : Nat → Int32) (o_chunks_n : Nat) (o_chunks_c : Nat → Int32) (o_sums_n : Nat) (o_sums_c : Nat → Int32) (o_found_n : Nat) (o_found_c : Nat → Int32) (o_before_n : Nat) (o_before_c : Nat → Int32) {o_tape_n : Nat} {o_tape_c : Nat → Int32} {p1 : Int32} {o : Int32} (hF : f_X7_at K o_tape_n o_tape_c p1 = some o) : mcI g l yX7_at wA_X7_at rm_X7_at [.ref h_o, .int p1] (wF_SnapHouseModel g h_o h_o_tape h_o_out h_o_made h_o_packed h_o_latest h_o_ahead h_o_notes h_o_elements h_o_chunks h_o_sums h_o_found h_o_before o_taped o_outs o_mades o_packs o_thrown o_blockFault o_blockPlace o_opened o_literals o_wanted o_elementMany o_literalMany o_chunkMany o_skippedMany o_faultNumber o_faultPlace o_faultInner o_faultInnerPlace o_foundMany o_skips o_isFull o_tape_n o_tape_c o_out_n o_out_c o_made_n o_made_c o_packed_n o_packed_c o_latest_n o_latest_c o_ahead_n o_ahead_c o_notes_n o_notes_c o_elements_n o_elements_c o_chunks_n o_chunks_c o_sums_n o_sums_c o_found_n o_found_c o_before_n o_before_c) o (wF_SnapHouseModel g h_o h_o_tape h_o_out h_o_made h_o_packed h_o_latest h_o_ahead h_o_notes h_o_elements h_o_chunks h_o_sums h_o_found h_o_before o_taped o_outs o_mades o_packs o_thrown o_blockFault o_blockPlace o_opened o_literals o_wanted o_elementMany o_literalMany o_chunkMany o_skippedMany o_faultNumber o_faultPlace o_faultInner o_faultInnerPlace o_foundMany o_skips o_isFull o_tape_n o_tape_c o_out_n o_out_c o_made_n o_made_c o_packed_n o_packed_c o_latest_n o_latest_c o_ahead_n o_ahead_c o_notes_n o_notes_c o_elements_n o_elements_c o_chunks_n o_chunks_c o_sums_n o_sums_c o_found_n o_found_c o_before_n o_before_c) 0 0 := by
  refine x_start (cc := cX7_at) (maxL := 2) (ret := (some .int)) (by decide) rfl (Nat.le_of_ble_eq_true rfl) ?_
  intro p e s m below meth c ls C0 hW hl
  have hl : lv_has ls 2 [(0, .ref h_o), (1, .int p1)] := hl
  unfold f_X7_at at hF
  refine lv_aload_n C0.x C0.b dX7_at_0 rfl (lv_at hl 0 rfl) ?_
  refine x_get C0 hW iw_X7 0 rfl rfl 0 (by decide) (List.mem_cons_of_mem _ wl_112) (v := .ref h_o_tape) rfl dX7_at_1 ?_
  refine lv_iload_n C0.x C0.b dX7_at_4 rfl (lv_at hl 1 rfl) ?_
  obtain ⟨h1, hF⟩ := ck_some hF
  refine x_bald C0 hW 1 1 rfl rfl h1 dX7_at_5 ?_
  refine lv_sipush (v := (255 : Int32)) C0.x C0.b dX7_at_6 (by decide) ?_
  refine lv_iand C0.x C0.b dX7_at_9 ?_
  obtain rfl := Option.some.inj hF
  exact x_iret C0 hW rfl rfl dX7_at_10

abbrev rm_X7_keyOf : Room := { frames := 1, cells := 0, slots := 0, locals := 21 }

set_option maxHeartbeats 4000000 in
set_option maxRecDepth 100000 in
/-- SnapHouseModel.keyOf(I)I -/
theorem c_X7_keyOf (l : Launch) (g : GX) (h_o h_o_tape h_o_out h_o_made h_o_packed h_o_latest h_o_ahead h_o_notes h_o_elements h_o_chunks h_o_sums h_o_found h_o_before : Nat) {K : Nat} (o_taped : Int32) (o_outs : Int32) (o_mades : Int32) (o_packs : Int32) (o_thrown : Int32) (o_blockFault : Int32) (o_blockPlace : Int32) (o_opened : Int32) (o_literals : Int32) (o_wanted : Int32) (o_elementMany : Int32) (o_literalMany : Int32) (o_chunkMany : Int32) (o_skippedMany : Int32) (o_faultNumber : Int32) (o_faultPlace : Int32) (o_faultInner : Int32) (o_faultInnerPlace : Int32) (o_foundMany : Int32) (o_skips : Int32) (o_isFull : Int32) (o_out_n : Nat) (o_out_c : Nat → Int32) (o_made_n : Nat) (o_made_c : Nat → Int32) (o_packed_n : Nat) (o_packed_c : Nat → Int32) (o_latest_n : Nat) (o_latest_c : Nat → Int32) (o_ahead_n : Nat) (o_ahead_c : Nat → Int32) (o_notes_n : Nat) (o_notes_c : Nat → Int32) (o_elements_n : Nat) (o_elements_c : Nat → Int32) (o_chunks_n : Nat) (o_chunks_c : Nat → Int32) (o_sums_n : Nat) (o_sums_c : Nat → Int32) (o_found_n : Nat) (o_found_c : Nat → Int32) (o_before_n : Nat) (o_before_c : Nat → Int32) {o_tape_n : Nat} {o_tape_c : Nat → Int32} {p1 : Int32} {o : Int32} (hF : f_X7_keyOf K o_tape_n o_tape_c p1 = some o) : mcI g l yX7_keyOf wA_X7_keyOf rm_X7_keyOf [.ref h_o, .int p1] (wF_SnapHouseModel g h_o h_o_tape h_o_out h_o_made h_o_packed h_o_latest h_o_ahead h_o_notes h_o_elements h_o_chunks h_o_sums h_o_found h_o_before o_taped o_outs o_mades o_packs o_thrown o_blockFault o_blockPlace o_opened o_literals o_wanted o_elementMany o_literalMany o_chunkMany o_skippedMany o_faultNumber o_faultPlace o_faultInner o_faultInnerPlace o_foundMany o_skips o_isFull o_tape_n o_tape_c o_out_n o_out_c o_made_n o_made_c o_packed_n o_packed_c o_latest_n o_latest_c o_ahead_n o_ahead_c o_notes_n o_notes_c o_elements_n o_elements_c o_chunks_n o_chunks_c o_sums_n o_sums_c o_found_n o_found_c o_before_n o_before_c) o (wF_SnapHouseModel g h_o h_o_tape h_o_out h_o_made h_o_packed h_o_latest h_o_ahead h_o_notes h_o_elements h_o_chunks h_o_sums h_o_found h_o_before o_taped o_outs o_mades o_packs o_thrown o_blockFault o_blockPlace o_opened o_literals o_wanted o_elementMany o_literalMany o_chunkMany o_skippedMany o_faultNumber o_faultPlace o_faultInner o_faultInnerPlace o_foundMany o_skips o_isFull o_tape_n o_tape_c o_out_n o_out_c o_made_n o_made_c o_packed_n o_packed_c o_latest_n o_latest_c o_ahead_n o_ahead_c o_notes_n o_notes_c o_elements_n o_elements_c o_chunks_n o_chunks_c o_sums_n o_sums_c o_found_n o_found_c o_before_n o_before_c) 0 0 := by
  refine x_start (cc := cX7_keyOf) (maxL := 3) (ret := (some .int)) (by decide) rfl (Nat.le_of_ble_eq_true rfl) ?_
  intro p e s m below meth c ls C0 hW hl
  have hl : lv_has ls 3 [(0, .ref h_o), (1, .int p1)] := hl
  unfold f_X7_keyOf at hF
  refine lv_aload_n C0.x C0.b dX7_keyOf_0 rfl (lv_at hl 0 rfl) ?_
  refine lv_iload_n C0.x C0.b dX7_keyOf_1 rfl (lv_at hl 1 rfl) ?_
  obtain ⟨r1, e2, hF⟩ := ob hF
  refine go_i C0 hW [0, 1, 2, 3, 4, 5, 6, 7, 8, 9, 10, 11, 12] [] [0, 1, 2, 3, 4, 5, 6, 7, 8, 9, 10, 11, 12] (va_runV (As := [.int p1]) (rest := []) C0.fix (c_X7_at l g h_o h_o_tape h_o_out h_o_made h_o_packed h_o_latest h_o_ahead h_o_notes h_o_elements h_o_chunks h_o_sums h_o_found h_o_before o_taped o_outs o_mades o_packs o_thrown o_blockFault o_blockPlace o_opened o_literals o_wanted o_elementMany o_literalMany o_chunkMany o_skippedMany o_faultNumber o_faultPlace o_faultInner o_faultInnerPlace o_foundMany o_skips o_isFull o_out_n o_out_c o_made_n o_made_c o_packed_n o_packed_c o_latest_n o_latest_c o_ahead_n o_ahead_c o_notes_n o_notes_c o_elements_n o_elements_c o_chunks_n o_chunks_c o_sums_n o_sums_c o_found_n o_found_c o_before_n o_before_c e2 _) (cwV 1 C0.ts (gw_V wl_312 wl_313 wl_314 wl_5 wl_315) rfl rfl rfl (by decide +kernel) ⟨Nat.le_of_ble_eq_true rfl, Nat.le_of_ble_eq_true rfl⟩) (pcv_of C0 hW [0, 1, 2, 3, 4, 5, 6, 7, 8, 9, 10, 11, 12] rfl (by decide) (q0 := 0) rfl rfl) rfl rfl hl.1 rfl (lv_room (Nat.le_of_ble_eq_true rfl)) dX7_keyOf_2 ⟨Nat.le_of_ble_eq_true rfl, Nat.le_of_ble_eq_true rfl⟩) rfl rfl (by decide) (by decide) (ws' := (wF_SnapHouseModel g h_o h_o_tape h_o_out h_o_made h_o_packed h_o_latest h_o_ahead h_o_notes h_o_elements h_o_chunks h_o_sums h_o_found h_o_before o_taped o_outs o_mades o_packs o_thrown o_blockFault o_blockPlace o_opened o_literals o_wanted o_elementMany o_literalMany o_chunkMany o_skippedMany o_faultNumber o_faultPlace o_faultInner o_faultInnerPlace o_foundMany o_skips o_isFull o_tape_n o_tape_c o_out_n o_out_c o_made_n o_made_c o_packed_n o_packed_c o_latest_n o_latest_c o_ahead_n o_ahead_c o_notes_n o_notes_c o_elements_n o_elements_c o_chunks_n o_chunks_c o_sums_n o_sums_c o_found_n o_found_c o_before_n o_before_c)) rfl (by decide) (fun H locs hW => ?_)
  refine lv_aload_n C0.x C0.b dX7_keyOf_5 rfl (lv_at hl 0 rfl) ?_
  refine lv_iload_n C0.x C0.b dX7_keyOf_6 rfl (lv_at hl 1 rfl) ?_
  refine lv_iconst (v := (1 : Int32)) C0.x C0.b dX7_keyOf_7 (by decide) ?_
  refine lv_iadd C0.x C0.b dX7_keyOf_8 ?_
  obtain ⟨r3, e4, hF⟩ := ob hF
  refine go_i C0 hW [0, 1, 2, 3, 4, 5, 6, 7, 8, 9, 10, 11, 12] [] [0, 1, 2, 3, 4, 5, 6, 7, 8, 9, 10, 11, 12] (va_runV (As := [.int (p1 + (1 : Int32))]) (rest := [.int r1]) C0.fix (c_X7_at l g h_o h_o_tape h_o_out h_o_made h_o_packed h_o_latest h_o_ahead h_o_notes h_o_elements h_o_chunks h_o_sums h_o_found h_o_before o_taped o_outs o_mades o_packs o_thrown o_blockFault o_blockPlace o_opened o_literals o_wanted o_elementMany o_literalMany o_chunkMany o_skippedMany o_faultNumber o_faultPlace o_faultInner o_faultInnerPlace o_foundMany o_skips o_isFull o_out_n o_out_c o_made_n o_made_c o_packed_n o_packed_c o_latest_n o_latest_c o_ahead_n o_ahead_c o_notes_n o_notes_c o_elements_n o_elements_c o_chunks_n o_chunks_c o_sums_n o_sums_c o_found_n o_found_c o_before_n o_before_c e4 _) (cwV 1 C0.ts (gw_V wl_312 wl_313 wl_314 wl_5 wl_315) rfl rfl rfl (by decide +kernel) ⟨Nat.le_of_ble_eq_true rfl, Nat.le_of_ble_eq_true rfl⟩) (pcv_of C0 hW [0, 1, 2, 3, 4, 5, 6, 7, 8, 9, 10, 11, 12] rfl (by decide) (q0 := 0) rfl rfl) rfl rfl hl.1 rfl (lv_room (Nat.le_of_ble_eq_true rfl)) dX7_keyOf_9 ⟨Nat.le_of_ble_eq_true rfl, Nat.le_of_ble_eq_true rfl⟩) rfl rfl (by decide) (by decide) (ws' := (wF_SnapHouseModel g h_o h_o_tape h_o_out h_o_made h_o_packed h_o_latest h_o_ahead h_o_notes h_o_elements h_o_chunks h_o_sums h_o_found h_o_before o_taped o_outs o_mades o_packs o_thrown o_blockFault o_blockPlace o_opened o_literals o_wanted o_elementMany o_literalMany o_chunkMany o_skippedMany o_faultNumber o_faultPlace o_faultInner o_faultInnerPlace o_foundMany o_skips o_isFull o_tape_n o_tape_c o_out_n o_out_c o_made_n o_made_c o_packed_n o_packed_c o_latest_n o_latest_c o_ahead_n o_ahead_c o_notes_n o_notes_c o_elements_n o_elements_c o_chunks_n o_chunks_c o_sums_n o_sums_c o_found_n o_found_c o_before_n o_before_c)) rfl (by decide) (fun H locs hW => ?_)
  refine lv_bipush (v := (8 : Int32)) C0.x C0.b dX7_keyOf_12 (by decide) ?_
  refine lv_ishl C0.x C0.b dX7_keyOf_14 ?_
  refine lv_ior C0.x C0.b dX7_keyOf_15 ?_
  refine lv_aload_n C0.x C0.b dX7_keyOf_16 rfl (lv_at hl 0 rfl) ?_
  refine lv_iload_n C0.x C0.b dX7_keyOf_17 rfl (lv_at hl 1 rfl) ?_
  refine lv_iconst (v := (2 : Int32)) C0.x C0.b dX7_keyOf_18 (by decide) ?_
  refine lv_iadd C0.x C0.b dX7_keyOf_19 ?_
  obtain ⟨r5, e6, hF⟩ := ob hF
  refine go_i C0 hW [0, 1, 2, 3, 4, 5, 6, 7, 8, 9, 10, 11, 12] [] [0, 1, 2, 3, 4, 5, 6, 7, 8, 9, 10, 11, 12] (va_runV (As := [.int (p1 + (2 : Int32))]) (rest := [.int (r1 ||| (r3 <<< ((8 : Int32) &&& 31)))]) C0.fix (c_X7_at l g h_o h_o_tape h_o_out h_o_made h_o_packed h_o_latest h_o_ahead h_o_notes h_o_elements h_o_chunks h_o_sums h_o_found h_o_before o_taped o_outs o_mades o_packs o_thrown o_blockFault o_blockPlace o_opened o_literals o_wanted o_elementMany o_literalMany o_chunkMany o_skippedMany o_faultNumber o_faultPlace o_faultInner o_faultInnerPlace o_foundMany o_skips o_isFull o_out_n o_out_c o_made_n o_made_c o_packed_n o_packed_c o_latest_n o_latest_c o_ahead_n o_ahead_c o_notes_n o_notes_c o_elements_n o_elements_c o_chunks_n o_chunks_c o_sums_n o_sums_c o_found_n o_found_c o_before_n o_before_c e6 _) (cwV 1 C0.ts (gw_V wl_312 wl_313 wl_314 wl_5 wl_315) rfl rfl rfl (by decide +kernel) ⟨Nat.le_of_ble_eq_true rfl, Nat.le_of_ble_eq_true rfl⟩) (pcv_of C0 hW [0, 1, 2, 3, 4, 5, 6, 7, 8, 9, 10, 11, 12] rfl (by decide) (q0 := 0) rfl rfl) rfl rfl hl.1 rfl (lv_room (Nat.le_of_ble_eq_true rfl)) dX7_keyOf_20 ⟨Nat.le_of_ble_eq_true rfl, Nat.le_of_ble_eq_true rfl⟩) rfl rfl (by decide) (by decide) (ws' := (wF_SnapHouseModel g h_o h_o_tape h_o_out h_o_made h_o_packed h_o_latest h_o_ahead h_o_notes h_o_elements h_o_chunks h_o_sums h_o_found h_o_before o_taped o_outs o_mades o_packs o_thrown o_blockFault o_blockPlace o_opened o_literals o_wanted o_elementMany o_literalMany o_chunkMany o_skippedMany o_faultNumber o_faultPlace o_faultInner o_faultInnerPlace o_foundMany o_skips o_isFull o_tape_n o_tape_c o_out_n o_out_c o_made_n o_made_c o_packed_n o_packed_c o_latest_n o_latest_c o_ahead_n o_ahead_c o_notes_n o_notes_c o_elements_n o_elements_c o_chunks_n o_chunks_c o_sums_n o_sums_c o_found_n o_found_c o_before_n o_before_c)) rfl (by decide) (fun H locs hW => ?_)
  refine lv_bipush (v := (16 : Int32)) C0.x C0.b dX7_keyOf_23 (by decide) ?_
  refine lv_ishl C0.x C0.b dX7_keyOf_25 ?_
  refine lv_ior C0.x C0.b dX7_keyOf_26 ?_
  refine lv_aload_n C0.x C0.b dX7_keyOf_27 rfl (lv_at hl 0 rfl) ?_
  refine lv_iload_n C0.x C0.b dX7_keyOf_28 rfl (lv_at hl 1 rfl) ?_
  refine lv_iconst (v := (3 : Int32)) C0.x C0.b dX7_keyOf_29 (by decide) ?_
  refine lv_iadd C0.x C0.b dX7_keyOf_30 ?_
  obtain ⟨r7, e8, hF⟩ := ob hF
  refine go_i C0 hW [0, 1, 2, 3, 4, 5, 6, 7, 8, 9, 10, 11, 12] [] [0, 1, 2, 3, 4, 5, 6, 7, 8, 9, 10, 11, 12] (va_runV (As := [.int (p1 + (3 : Int32))]) (rest := [.int ((r1 ||| (r3 <<< ((8 : Int32) &&& 31))) ||| (r5 <<< ((16 : Int32) &&& 31)))]) C0.fix (c_X7_at l g h_o h_o_tape h_o_out h_o_made h_o_packed h_o_latest h_o_ahead h_o_notes h_o_elements h_o_chunks h_o_sums h_o_found h_o_before o_taped o_outs o_mades o_packs o_thrown o_blockFault o_blockPlace o_opened o_literals o_wanted o_elementMany o_literalMany o_chunkMany o_skippedMany o_faultNumber o_faultPlace o_faultInner o_faultInnerPlace o_foundMany o_skips o_isFull o_out_n o_out_c o_made_n o_made_c o_packed_n o_packed_c o_latest_n o_latest_c o_ahead_n o_ahead_c o_notes_n o_notes_c o_elements_n o_elements_c o_chunks_n o_chunks_c o_sums_n o_sums_c o_found_n o_found_c o_before_n o_before_c e8 _) (cwV 1 C0.ts (gw_V wl_312 wl_313 wl_314 wl_5 wl_315) rfl rfl rfl (by decide +kernel) ⟨Nat.le_of_ble_eq_true rfl, Nat.le_of_ble_eq_true rfl⟩) (pcv_of C0 hW [0, 1, 2, 3, 4, 5, 6, 7, 8, 9, 10, 11, 12] rfl (by decide) (q0 := 0) rfl rfl) rfl rfl hl.1 rfl (lv_room (Nat.le_of_ble_eq_true rfl)) dX7_keyOf_31 ⟨Nat.le_of_ble_eq_true rfl, Nat.le_of_ble_eq_true rfl⟩) rfl rfl (by decide) (by decide) (ws' := (wF_SnapHouseModel g h_o h_o_tape h_o_out h_o_made h_o_packed h_o_latest h_o_ahead h_o_notes h_o_elements h_o_chunks h_o_sums h_o_found h_o_before o_taped o_outs o_mades o_packs o_thrown o_blockFault o_blockPlace o_opened o_literals o_wanted o_elementMany o_literalMany o_chunkMany o_skippedMany o_faultNumber o_faultPlace o_faultInner o_faultInnerPlace o_foundMany o_skips o_isFull o_tape_n o_tape_c o_out_n o_out_c o_made_n o_made_c o_packed_n o_packed_c o_latest_n o_latest_c o_ahead_n o_ahead_c o_notes_n o_notes_c o_elements_n o_elements_c o_chunks_n o_chunks_c o_sums_n o_sums_c o_found_n o_found_c o_before_n o_before_c)) rfl (by decide) (fun H locs hW => ?_)
  refine lv_bipush (v := (24 : Int32)) C0.x C0.b dX7_keyOf_34 (by decide) ?_
  refine lv_ishl C0.x C0.b dX7_keyOf_36 ?_
  refine lv_ior C0.x C0.b dX7_keyOf_37 ?_
  refine lv_istore_n (lv' := [(2, .int (((r1 ||| (r3 <<< ((8 : Int32) &&& 31))) ||| (r5 <<< ((16 : Int32) &&& 31))) ||| (r7 <<< ((24 : Int32) &&& 31)))), (0, .ref h_o), (1, .int p1)]) C0.x C0.b dX7_keyOf_38 rfl hl (by decide) rfl (fun ls hl => ?_)
  refine lv_iload_n C0.x C0.b dX7_keyOf_39 rfl (lv_at hl 0 rfl) ?_
  refine lv_ldc (v := (506832829 : Int32)) C0.x C0.b C0.own (C0.ts _ (List.mem_cons_of_mem _ wl_311)) dX7_keyOf_40 ?_
  refine lv_imul C0.x C0.b dX7_keyOf_42 ?_
  refine lv_bipush (v := (18 : Int32)) C0.x C0.b dX7_keyOf_43 (by decide) ?_
  refine lv_iushr (v := (ushr ((((r1 ||| (r3 <<< ((8 : Int32) &&& 31))) ||| (r5 <<< ((16 : Int32) &&& 31))) ||| (r7 <<< ((24 : Int32) &&& 31))) * (506832829 : Int32)) (18 : Int32))) C0.x C0.b dX7_keyOf_45 rfl ?_
  obtain rfl := Option.some.inj hF
  exact x_iret C0 hW rfl rfl dX7_keyOf_46

abbrev rm_X7_areFour : Room := { frames := 0, cells := 0, slots := 0, locals := 0 }

set_option maxHeartbeats 4000000 in
set_option maxRecDepth 100000 in
/-- SnapHouseModel.areFour(II)Z -/
theorem c_X7_areFour (l : Launch) (g : GX) (h_o h_o_tape h_o_out h_o_made h_o_packed h_o_latest h_o_ahead h_o_notes h_o_elements h_o_chunks h_o_sums h_o_found h_o_before : Nat) {K : Nat} (o_taped : Int32) (o_outs : Int32) (o_mades : Int32) (o_packs : Int32) (o_thrown : Int32) (o_blockFault : Int32) (o_blockPlace : Int32) (o_opened : Int32) (o_literals : Int32) (o_wanted : Int32) (o_elementMany : Int32) (o_literalMany : Int32) (o_chunkMany : Int32) (o_skippedMany : Int32) (o_faultNumber : Int32) (o_faultPlace : Int32) (o_faultInner : Int32) (o_faultInnerPlace : Int32) (o_foundMany : Int32) (o_skips : Int32) (o_isFull : Int32) (o_out_n : Nat) (o_out_c : Nat → Int32) (o_made_n : Nat) (o_made_c : Nat → Int32) (o_packed_n : Nat) (o_packed_c : Nat → Int32) (o_latest_n : Nat) (o_latest_c : Nat → Int32) (o_ahead_n : Nat) (o_ahead_c : Nat → Int32) (o_notes_n : Nat) (o_notes_c : Nat → Int32) (o_elements_n : Nat) (o_elements_c : Nat → Int32) (o_chunks_n : Nat) (o_chunks_c : Nat → Int32) (o_sums_n : Nat) (o_sums_c : Nat → Int32) (o_found_n : Nat) (o_found_c : Nat → Int32) (o_before_n : Nat) (o_before_c : Nat → Int32) {o_tape_n : Nat} {o_tape_c : Nat → Int32} {p1 : Int32} {p2 : Int32} {o : Int32} (hF : f_X7_areFour K o_tape_n o_tape_c p1 p2 = some o) : mcI g l yX7_areFour wA_X7_areFour rm_X7_areFour [.ref h_o, .int p1, .int p2] (wF_SnapHouseModel g h_o h_o_tape h_o_out h_o_made h_o_packed h_o_latest h_o_ahead h_o_notes h_o_elements h_o_chunks h_o_sums h_o_found h_o_before o_taped o_outs o_mades o_packs o_thrown o_blockFault o_blockPlace o_opened o_literals o_wanted o_elementMany o_literalMany o_chunkMany o_skippedMany o_faultNumber o_faultPlace o_faultInner o_faultInnerPlace o_foundMany o_skips o_isFull o_tape_n o_tape_c o_out_n o_out_c o_made_n o_made_c o_packed_n o_packed_c o_latest_n o_latest_c o_ahead_n o_ahead_c o_notes_n o_notes_c o_elements_n o_elements_c o_chunks_n o_chunks_c o_sums_n o_sums_c o_found_n o_found_c o_before_n o_before_c) o (wF_SnapHouseModel g h_o h_o_tape h_o_out h_o_made h_o_packed h_o_latest h_o_ahead h_o_notes h_o_elements h_o_chunks h_o_sums h_o_found h_o_before o_taped o_outs o_mades o_packs o_thrown o_blockFault o_blockPlace o_opened o_literals o_wanted o_elementMany o_literalMany o_chunkMany o_skippedMany o_faultNumber o_faultPlace o_faultInner o_faultInnerPlace o_foundMany o_skips o_isFull o_tape_n o_tape_c o_out_n o_out_c o_made_n o_made_c o_packed_n o_packed_c o_latest_n o_latest_c o_ahead_n o_ahead_c o_notes_n o_notes_c o_elements_n o_elements_c o_chunks_n o_chunks_c o_sums_n o_sums_c o_found_n o_found_c o_before_n o_before_c) 0 0 := by
  refine x_start (cc := cX7_areFour) (maxL := 3) (ret := (some .boolean)) (by decide) rfl (Nat.le_of_ble_eq_true rfl) ?_
  intro p e s m below meth c ls C0 hW hl
  have hl : lv_has ls 3 [(0, .ref h_o), (1, .int p1), (2, .int p2)] := hl
  unfold f_X7_areFour at hF
  refine lv_aload_n C0.x C0.b dX7_areFour_0 rfl (lv_at hl 0 rfl) ?_
  refine x_get C0 hW iw_X7 0 rfl rfl 0 (by decide) (List.mem_cons_of_mem _ wl_112) (v := .ref h_o_tape) rfl dX7_areFour_1 ?_
  refine lv_iload_n C0.x C0.b dX7_areFour_4 rfl (lv_at hl 1 rfl) ?_
  obtain ⟨h1, hF⟩ := ck_some hF
  refine x_bald C0 hW 1 1 rfl rfl h1 dX7_areFour_5 ?_
  refine lv_aload_n C0.x C0.b dX7_areFour_6 rfl (lv_at hl 0 rfl) ?_
  refine x_get C0 hW iw_X7 0 rfl rfl 0 (by decide) (List.mem_cons_of_mem _ wl_112) (v := .ref h_o_tape) rfl dX7_areFour_7 ?_
  refine lv_iload_n C0.x C0.b dX7_areFour_10 rfl (lv_at hl 2 rfl) ?_
  obtain ⟨h2, hF⟩ := ck_some hF
  refine x_bald C0 hW 1 1 rfl rfl h2 dX7_areFour_11 ?_
  refine lv_icmp_ne (tgt := 76) C0.x C0.b dX7_areFour_12 (by decide) (fun c3 => ?_) (fun c3 => ?_)
  · have hF := it_f hF c3
    refine lv_iconst (v := (0 : Int32)) C0.x C0.b dX7_areFour_76 (by decide) ?_
    obtain rfl := Option.some.inj hF
    exact x_iret C0 hW (by decide) rfl dX7_areFour_77
  · have hF := it_t hF c3
    refine lv_aload_n C0.x C0.b dX7_areFour_15 rfl (lv_at hl 0 rfl) ?_
    refine x_get C0 hW iw_X7 0 rfl rfl 0 (by decide) (List.mem_cons_of_mem _ wl_112) (v := .ref h_o_tape) rfl dX7_areFour_16 ?_
    refine lv_iload_n C0.x C0.b dX7_areFour_19 rfl (lv_at hl 1 rfl) ?_
    refine lv_iconst (v := (1 : Int32)) C0.x C0.b dX7_areFour_20 (by decide) ?_
    refine lv_iadd C0.x C0.b dX7_areFour_21 ?_
    obtain ⟨h4, hF⟩ := ck_some hF
    refine x_bald C0 hW 1 1 rfl rfl h4 dX7_areFour_22 ?_
    refine lv_aload_n C0.x C0.b dX7_areFour_23 rfl (lv_at hl 0 rfl) ?_
    refine x_get C0 hW iw_X7 0 rfl rfl 0 (by decide) (List.mem_cons_of_mem _ wl_112) (v := .ref h_o_tape) rfl dX7_areFour_24 ?_
    refine lv_iload_n C0.x C0.b dX7_areFour_27 rfl (lv_at hl 2 rfl) ?_
    refine lv_iconst (v := (1 : Int32)) C0.x C0.b dX7_areFour_28 (by decide) ?_
    refine lv_iadd C0.x C0.b dX7_areFour_29 ?_
    obtain ⟨h5, hF⟩ := ck_some hF
    refine x_bald C0 hW 1 1 rfl rfl h5 dX7_areFour_30 ?_
    refine lv_icmp_ne (tgt := 76) C0.x C0.b dX7_areFour_31 (by decide) (fun c6 => ?_) (fun c6 => ?_)
    · have hF := it_f hF c6
      refine lv_iconst (v := (0 : Int32)) C0.x C0.b dX7_areFour_76 (by decide) ?_
      obtain rfl := Option.some.inj hF
      exact x_iret C0 hW (by decide) rfl dX7_areFour_77
    · have hF := it_t hF c6
      refine lv_aload_n C0.x C0.b dX7_areFour_34 rfl (lv_at hl 0 rfl) ?_
      refine x_get C0 hW iw_X7 0 rfl rfl 0 (by decide) (List.mem_cons_of_mem _ wl_112) (v := .ref h_o_tape) rfl dX7_areFour_35 ?_
      refine lv_iload_n C0.x C0.b dX7_areFour_38 rfl (lv_at hl 1 rfl) ?_
      refine lv_iconst (v := (2 : Int32)) C0.x C0.b dX7_areFour_39 (by decide) ?_
      refine lv_iadd C0.x C0.b dX7_areFour_40 ?_
      obtain ⟨h7, hF⟩ := ck_some hF
      refine x_bald C0 hW 1 1 rfl rfl h7 dX7_areFour_41 ?_
      refine lv_aload_n C0.x C0.b dX7_areFour_42 rfl (lv_at hl 0 rfl) ?_
      refine x_get C0 hW iw_X7 0 rfl rfl 0 (by decide) (List.mem_cons_of_mem _ wl_112) (v := .ref h_o_tape) rfl dX7_areFour_43 ?_
      refine lv_iload_n C0.x C0.b dX7_areFour_46 rfl (lv_at hl 2 rfl) ?_
      refine lv_iconst (v := (2 : Int32)) C0.x C0.b dX7_areFour_47 (by decide) ?_
      refine lv_iadd C0.x C0.b dX7_areFour_48 ?_
      obtain ⟨h8, hF⟩ := ck_some hF
      refine x_bald C0 hW 1 1 rfl rfl h8 dX7_areFour_49 ?_
      refine lv_icmp_ne (tgt := 76) C0.x C0.b dX7_areFour_50 (by decide) (fun c9 => ?_) (fun c9 => ?_)
      · have hF := it_f hF c9
        refine lv_iconst (v := (0 : Int32)) C0.x C0.b dX7_areFour_76 (by decide) ?_
        obtain rfl := Option.some.inj hF
        exact x_iret C0 hW (by decide) rfl dX7_areFour_77
      · have hF := it_t hF c9
        refine lv_aload_n C0.x C0.b dX7_areFour_53 rfl (lv_at hl 0 rfl) ?_
        refine x_get C0 hW iw_X7 0 rfl rfl 0 (by decide) (List.mem_cons_of_mem _ wl_112) (v := .ref h_o_tape) rfl dX7_areFour_54 ?_
        refine lv_iload_n C0.x C0.b dX7_areFour_57 rfl (lv_at hl 1 rfl) ?_
        refine lv_iconst (v := (3 : Int32)) C0.x C0.b dX7_areFour_58 (by decide) ?_
        refine lv_iadd C0.x C0.b dX7_areFour_59 ?_
        obtain ⟨h10, hF⟩ := ck_some hF
        refine x_bald C0 hW 1 1 rfl rfl h10 dX7_areFour_60 ?_
        refine lv_aload_n C0.x C0.b dX7_areFour_61 rfl (lv_at hl 0 rfl) ?_
        refine x_get C0 hW iw_X7 0 rfl rfl 0 (by decide) (List.mem_cons_of_mem _ wl_112) (v := .ref h_o_tape) rfl dX7_areFour_62 ?_
        refine lv_iload_n C0.x C0.b dX7_areFour_65 rfl (lv_at hl 2 rfl) ?_
        refine lv_iconst (v := (3 : Int32)) C0.x C0.b dX7_areFour_66 (by decide) ?_
        refine lv_iadd C0.x C0.b dX7_areFour_67 ?_
        obtain ⟨h11, hF⟩ := ck_some hF
        refine x_bald C0 hW 1 1 rfl rfl h11 dX7_areFour_68 ?_
        refine lv_icmp_ne (tgt := 76) C0.x C0.b dX7_areFour_69 (by decide) (fun c12 => ?_) (fun c12 => ?_)
        · have hF := it_f hF c12
          refine lv_iconst (v := (0 : Int32)) C0.x C0.b dX7_areFour_76 (by decide) ?_
          obtain rfl := Option.some.inj hF
          exact x_iret C0 hW (by decide) rfl dX7_areFour_77
        · have hF := it_t hF c12
          refine lv_iconst (v := (1 : Int32)) C0.x C0.b dX7_areFour_72 (by decide) ?_
          refine lv_goto (tgt := 77) C0.x C0.b dX7_areFour_73 (by decide) ?_
          obtain rfl := Option.some.inj hF
          exact x_iret C0 hW (by decide) rfl dX7_areFour_77

