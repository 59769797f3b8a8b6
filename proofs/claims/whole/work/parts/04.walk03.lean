abbrev rm_X0_readLength : Room := { frames := 1, cells := 0, slots := 0, locals := 22 }

set_option maxHeartbeats 4000000 in
set_option maxRecDepth 100000 in
theorem w_X0_readLength_b99 (l : Launch) (g : GX) (h_o h_o_given h_o_given_row h_o_elements h_o_elements_cells h_a h_a_row : Nat) {K : Nat} {o_start : Int32} {o_end : Int32} {a_count : Int32} {a_row_n : Nat} {a_row_c : Nat → Int32} {o_sort : Int32} {o_body : Int32} {o_size : Int64} {o_back : Int64} {o_given_count : Int32} {o_given_row_n : Nat} {o_given_row_c : Nat → Int32} {o_elements_count : Int32} {o_elements_marked : Int32} {o_elements_cells_n : Nat} {o_elements_cells_c : Nat → Int32} {o : Int32 × Int32 × Int32 × Int32} {wc : va_W} {p : Program} {e : Env} {s : State} {m : MethodId} {args : Array Value} {below : List Frame} {meth : Method} {c : Code} (C0 : bx g p s m meth c args cX0_readLength 7 none yX0_readLength wA_X0_readLength (va_A wc s.heap.size)) :
    ∀ (o_fault : Int32) (o_place : Int32) (o_next : Int32) (o_length : Int32), f_X0_readLength_b99 K o_start o_end a_count a_row_n a_row_c o_fault o_place o_next o_length = some o → ∀ (H : Heap) (locs : List Loc) (ls : Array Slot), ww g (va_A wc s.heap.size) s (wF_BlockOpener_Bytes g h_o h_o_given h_o_given_row h_o_elements h_o_elements_cells h_a h_a_row o_fault o_place o_start o_end o_next o_length o_sort o_body o_size o_back o_given_count o_given_row_n o_given_row_c o_elements_count o_elements_marked o_elements_cells_n o_elements_cells_c a_count a_row_n a_row_c) H locs → lv_has ls 7 [(0, .ref h_o)] → W p l e rm_X0_readLength s m args below meth c H locs 0 0 (MQ below (qcV g wc s.heap.size (wF_BlockOpener_Bytes g h_o h_o_given h_o_given_row h_o_elements h_o_elements_cells h_a h_a_row o.1 o.2.1 o_start o_end o.2.2.1 o.2.2.2 o_sort o_body o_size o_back o_given_count o_given_row_n o_given_row_c o_elements_count o_elements_marked o_elements_cells_n o_elements_cells_c a_count a_row_n a_row_c)) args s 0 0 (va_A wc s.heap.size)) (F0 m 99 ls []) := by
  intro o_fault o_place o_next o_length hF H locs ls hW hl
  unfold f_X0_readLength_b99 at hF
  refine lv_aload_n C0.x C0.b dX0_readLength_99 rfl (lv_at hl 0 rfl) ?_
  refine lv_iconst (v := (1 : Int32)) C0.x C0.b dX0_readLength_100 (by decide) ?_
  refine lv_aload_n C0.x C0.b dX0_readLength_101 rfl (lv_at hl 0 rfl) ?_
  refine x_get C0 hW iw_X0 0 rfl rfl 4 (by decide) (List.mem_cons_of_mem _ wl_78) (v := .int o_start) rfl dX0_readLength_102 ?_
  obtain ⟨r1, e2, hF⟩ := ob hF
  refine go_v C0 hW [0, 1, 2, 3, 4] [5, 6] [2, 3, 4, 5, 6, 0, 1] (va_runV (As := [.int (1 : Int32), .int o_start]) (rest := []) C0.fix (c_X0_fail l g h_o h_o_given h_o_given_row h_o_elements h_o_elements_cells o_end o_next o_length o_sort o_body o_size o_back o_given_count o_given_row_n o_given_row_c o_elements_count o_elements_marked o_elements_cells_n o_elements_cells_c e2 _) (cwV 2 C0.ts (gw_V wl_357 wl_358 wl_359 wl_28 wl_360) rfl rfl rfl (by decide +kernel) ⟨Nat.le_of_ble_eq_true rfl, Nat.le_of_ble_eq_true rfl⟩) (pcv_of C0 hW [0, 1, 2, 3, 4] rfl (by decide) (q0 := 0) rfl rfl) rfl rfl hl.1 rfl (lv_room (Nat.le_of_ble_eq_true rfl)) dX0_readLength_105 ⟨Nat.le_of_ble_eq_true rfl, Nat.le_of_ble_eq_true rfl⟩) rfl rfl (by decide) (by decide) (ws' := (wF_BlockOpener_Bytes g h_o h_o_given h_o_given_row h_o_elements h_o_elements_cells h_a h_a_row r1.1 r1.2 o_start o_end o_next o_length o_sort o_body o_size o_back o_given_count o_given_row_n o_given_row_c o_elements_count o_elements_marked o_elements_cells_n o_elements_cells_c a_count a_row_n a_row_c)) rfl (by decide) (fun H locs hW => ?_)
  refine lv_goto (tgt := 137) C0.x C0.b dX0_readLength_108 (by decide) ?_
  obtain rfl := Option.some.inj hF
  exact x_vret C0 hW dX0_readLength_137

set_option maxHeartbeats 4000000 in
set_option maxRecDepth 100000 in
theorem w_X0_readLength_b86 (l : Launch) (g : GX) (h_o h_o_given h_o_given_row h_o_elements h_o_elements_cells h_a h_a_row : Nat) {K : Nat} {o_start : Int32} {o_end : Int32} {a_count : Int32} {a_row_n : Nat} {a_row_c : Nat → Int32} {o_sort : Int32} {o_body : Int32} {o_size : Int64} {o_back : Int64} {o_given_count : Int32} {o_given_row_n : Nat} {o_given_row_c : Nat → Int32} {o_elements_count : Int32} {o_elements_marked : Int32} {o_elements_cells_n : Nat} {o_elements_cells_c : Nat → Int32} {o : Int32 × Int32 × Int32 × Int32} {wc : va_W} {p : Program} {e : Env} {s : State} {m : MethodId} {args : Array Value} {below : List Frame} {meth : Method} {c : Code} (C0 : bx g p s m meth c args cX0_readLength 7 none yX0_readLength wA_X0_readLength (va_A wc s.heap.size)) :
    ∀ (o_fault : Int32) (o_place : Int32) (o_next : Int32) (o_length : Int32) (x2 : Int64) (x4 : Int32), f_X0_readLength_b86 K o_start o_end a_count a_row_n a_row_c o_fault o_place o_next o_length x2 x4 = some o → ∀ (H : Heap) (locs : List Loc) (ls : Array Slot), ww g (va_A wc s.heap.size) s (wF_BlockOpener_Bytes g h_o h_o_given h_o_given_row h_o_elements h_o_elements_cells h_a h_a_row o_fault o_place o_start o_end o_next o_length o_sort o_body o_size o_back o_given_count o_given_row_n o_given_row_c o_elements_count o_elements_marked o_elements_cells_n o_elements_cells_c a_count a_row_n a_row_c) H locs → lv_has ls 7 [(0, .ref h_o), (2, .long x2), (4, .int x4)] → W p l e rm_X0_readLength s m args below meth c H locs 0 0 (MQ below (qcV g wc s.heap.size (wF_BlockOpener_Bytes g h_o h_o_given h_o_given_row h_o_elements h_o_elements_cells h_a h_a_row o.1 o.2.1 o_start o_end o.2.2.1 o.2.2.2 o_sort o_body o_size o_back o_given_count o_given_row_n o_given_row_c o_elements_count o_elements_marked o_elements_cells_n o_elements_cells_c a_count a_row_n a_row_c)) args s 0 0 (va_A wc s.heap.size)) (F0 m 86 ls []) := by
  intro o_fault o_place o_next o_length x2 x4 hF H locs ls hW hl
  unfold f_X0_readLength_b86 at hF
  refine lv_iload C0.x C0.b dX0_readLength_86 (lv_at hl 2 rfl) ?_
  refine lv_if_eq (tgt := 99) C0.x C0.b dX0_readLength_88 (by decide) (fun c1 => ?_) (fun c1 => ?_)
  · have hF := it_t hF c1
    exact w_X0_readLength_b99 l g h_o h_o_given h_o_given_row h_o_elements h_o_elements_cells h_a h_a_row C0 o_fault o_place o_next o_length hF _ _ _ hW (lv_sub hl [0] rfl)
  · have hF := it_f hF c1
    refine lv_lload_n C0.x C0.b dX0_readLength_91 rfl (lv_at hl 1 rfl) ?_
    refine lv_ldc2 (v := (4294967296 : Int64)) C0.x C0.b C0.own (C0.ts _ (List.mem_cons_of_mem _ wl_354)) dX0_readLength_92 ?_
    refine W.lcmp C0.x C0.b dX0_readLength_95 ?_
    refine lv_if_lt (tgt := 111) C0.x C0.b dX0_readLength_96 (by decide) (fun c2 => ?_) (fun c2 => ?_)
    · have hF := it_t hF c2
      refine lv_lload_n C0.x C0.b dX0_readLength_111 rfl (lv_at hl 1 rfl) ?_
      refine lv_ldc2 (v := (20000 : Int64)) C0.x C0.b C0.own (C0.ts _ (List.mem_cons_of_mem _ wl_355)) dX0_readLength_112 ?_
      refine W.lcmp C0.x C0.b dX0_readLength_115 ?_
      refine lv_if_le (tgt := 131) C0.x C0.b dX0_readLength_116 (by decide) (fun c3 => ?_) (fun c3 => ?_)
      · have hF := it_t hF c3
        refine lv_aload_n C0.x C0.b dX0_readLength_131 rfl (lv_at hl 0 rfl) ?_
        refine lv_lload_n C0.x C0.b dX0_readLength_132 rfl (lv_at hl 1 rfl) ?_
        refine lv_l2i (v := (x2.toInt32)) C0.x C0.b dX0_readLength_133 rfl ?_
        refine x_put C0 hW iw_X0 tyX0 tyX0_ok nmX0 0 rfl rfl 7 (by decide) (List.mem_cons_of_mem _ wl_81) rfl (ty := .int) (v := .int (x2.toInt32)) (by decide +kernel) rfl rfl (Nat.le_of_ble_eq_true rfl) dX0_readLength_134 (ws' := (wF_BlockOpener_Bytes g h_o h_o_given h_o_given_row h_o_elements h_o_elements_cells h_a h_a_row o_fault o_place o_start o_end o_next (x2.toInt32) o_sort o_body o_size o_back o_given_count o_given_row_n o_given_row_c o_elements_count o_elements_marked o_elements_cells_n o_elements_cells_c a_count a_row_n a_row_c)) rfl (fun H locs hW => ?_)
        obtain rfl := Option.some.inj hF
        exact x_vret C0 hW dX0_readLength_137
      · have hF := it_f hF c3
        refine lv_aload_n C0.x C0.b dX0_readLength_119 rfl (lv_at hl 0 rfl) ?_
        refine lv_iconst (v := (2 : Int32)) C0.x C0.b dX0_readLength_120 (by decide) ?_
        refine lv_aload_n C0.x C0.b dX0_readLength_121 rfl (lv_at hl 0 rfl) ?_
        refine x_get C0 hW iw_X0 0 rfl rfl 4 (by decide) (List.mem_cons_of_mem _ wl_78) (v := .int o_start) rfl dX0_readLength_122 ?_
        obtain ⟨r4, e5, hF⟩ := ob hF
        refine go_v C0 hW [0, 1, 2, 3, 4] [5, 6] [2, 3, 4, 5, 6, 0, 1] (va_runV (As := [.int (2 : Int32), .int o_start]) (rest := []) C0.fix (c_X0_fail l g h_o h_o_given h_o_given_row h_o_elements h_o_elements_cells o_end o_next o_length o_sort o_body o_size o_back o_given_count o_given_row_n o_given_row_c o_elements_count o_elements_marked o_elements_cells_n o_elements_cells_c e5 _) (cwV 2 C0.ts (gw_V wl_357 wl_358 wl_359 wl_28 wl_360) rfl rfl rfl (by decide +kernel) ⟨Nat.le_of_ble_eq_true rfl, Nat.le_of_ble_eq_true rfl⟩) (pcv_of C0 hW [0, 1, 2, 3, 4] rfl (by decide) (q0 := 0) rfl rfl) rfl rfl hl.1 rfl (lv_room (Nat.le_of_ble_eq_true rfl)) dX0_readLength_125 ⟨Nat.le_of_ble_eq_true rfl, Nat.le_of_ble_eq_true rfl⟩) rfl rfl (by decide) (by decide) (ws' := (wF_BlockOpener_Bytes g h_o h_o_given h_o_given_row h_o_elements h_o_elements_cells h_a h_a_row r4.1 r4.2 o_start o_end o_next o_length o_sort o_body o_size o_back o_given_count o_given_row_n o_given_row_c o_elements_count o_elements_marked o_elements_cells_n o_elements_cells_c a_count a_row_n a_row_c)) rfl (by decide) (fun H locs hW => ?_)
        refine lv_goto (tgt := 137) C0.x C0.b dX0_readLength_128 (by decide) ?_
        obtain rfl := Option.some.inj hF
        exact x_vret C0 hW dX0_readLength_137
    · have hF := it_f hF c2
      exact w_X0_readLength_b99 l g h_o h_o_given h_o_given_row h_o_elements h_o_elements_cells h_a h_a_row C0 o_fault o_place o_next o_length hF _ _ _ hW (lv_sub hl [0] rfl)

set_option maxHeartbeats 4000000 in
set_option maxRecDepth 100000 in
theorem w_X0_readLength_b8 (l : Launch) (g : GX) (h_o h_o_given h_o_given_row h_o_elements h_o_elements_cells h_a h_a_row : Nat) {K : Nat} {o_start : Int32} {o_end : Int32} {a_count : Int32} {a_row_n : Nat} {a_row_c : Nat → Int32} {o_sort : Int32} {o_body : Int32} {o_size : Int64} {o_back : Int64} {o_given_count : Int32} {o_given_row_n : Nat} {o_given_row_c : Nat → Int32} {o_elements_count : Int32} {o_elements_marked : Int32} {o_elements_cells_n : Nat} {o_elements_cells_c : Nat → Int32} {o : Int32 × Int32 × Int32 × Int32} {wc : va_W} {p : Program} {e : Env} {s : State} {m : MethodId} {args : Array Value} {below : List Frame} {meth : Method} {c : Code} (C0 : bx g p s m meth c args cX0_readLength 7 none yX0_readLength wA_X0_readLength (va_A wc s.heap.size)) :
    ∀ (n : Nat) (o_fault : Int32) (o_place : Int32) (o_next : Int32) (o_length : Int32) (x2 : Int64) (x4 : Int32) (x5 : Int32), f_X0_readLength_b8 K o_start o_end a_count a_row_n a_row_c n o_fault o_place o_next o_length x2 x4 x5 = some o → ∀ (H : Heap) (locs : List Loc) (ls : Array Slot), ww g (va_A wc s.heap.size) s (wF_BlockOpener_Bytes g h_o h_o_given h_o_given_row h_o_elements h_o_elements_cells h_a h_a_row o_fault o_place o_start o_end o_next o_length o_sort o_body o_size o_back o_given_count o_given_row_n o_given_row_c o_elements_count o_elements_marked o_elements_cells_n o_elements_cells_c a_count a_row_n a_row_c) H locs → lv_has ls 7 [(0, .ref h_o), (1, .ref h_a), (2, .long x2), (4, .int x4), (5, .int x5)] → W p l e rm_X0_readLength s m args below meth c H locs 0 0 (MQ below (qcV g wc s.heap.size (wF_BlockOpener_Bytes g h_o h_o_given h_o_given_row h_o_elements h_o_elements_cells h_a h_a_row o.1 o.2.1 o_start o_end o.2.2.1 o.2.2.2 o_sort o_body o_size o_back o_given_count o_given_row_n o_given_row_c o_elements_count o_elements_marked o_elements_cells_n o_elements_cells_c a_count a_row_n a_row_c)) args s 0 0 (va_A wc s.heap.size)) (F0 m 8 ls []) := by
  intro n
  induction n with
  | zero => intro o_fault o_place o_next o_length x2 x4 x5 hF; cases (show (none : Option (Int32 × Int32 × Int32 × Int32)) = some o from hF)
  | succ n ih =>
    intro o_fault o_place o_next o_length x2 x4 x5 hF H locs ls hW hl
    rw [f_X0_readLength_b8] at hF
    refine lv_iload C0.x C0.b dX0_readLength_8 (lv_at hl 4 rfl) ?_
    refine lv_iconst (v := (5 : Int32)) C0.x C0.b dX0_readLength_10 (by decide) ?_
    refine lv_icmp_ge (tgt := 86) C0.x C0.b dX0_readLength_11 (by decide) (fun c1 => ?_) (fun c1 => ?_)
    · have hF := it_t hF c1
      exact w_X0_readLength_b86 l g h_o h_o_given h_o_given_row h_o_elements h_o_elements_cells h_a h_a_row C0 o_fault o_place o_next o_length x2 x4 hF _ _ _ hW (lv_sub hl [0, 2, 3] rfl)
    · have hF := it_f hF c1
      refine lv_aload_n C0.x C0.b dX0_readLength_14 rfl (lv_at hl 0 rfl) ?_
      refine x_get C0 hW iw_X0 0 rfl rfl 6 (by decide) (List.mem_cons_of_mem _ wl_80) (v := .int o_next) rfl dX0_readLength_15 ?_
      refine lv_aload_n C0.x C0.b dX0_readLength_18 rfl (lv_at hl 0 rfl) ?_
      refine x_get C0 hW iw_X0 0 rfl rfl 5 (by decide) (List.mem_cons_of_mem _ wl_79) (v := .int o_end) rfl dX0_readLength_19 ?_
      refine lv_icmp_ge (tgt := 86) C0.x C0.b dX0_readLength_22 (by decide) (fun c2 => ?_) (fun c2 => ?_)
      · have hF := it_t hF c2
        exact w_X0_readLength_b86 l g h_o h_o_given h_o_given_row h_o_elements h_o_elements_cells h_a h_a_row C0 o_fault o_place o_next o_length x2 x4 hF _ _ _ hW (lv_sub hl [0, 2, 3] rfl)
      · have hF := it_f hF c2
        refine lv_iload C0.x C0.b dX0_readLength_25 (lv_at hl 3 rfl) ?_
        refine lv_if_ne (tgt := 86) C0.x C0.b dX0_readLength_27 (by decide) (fun c3 => ?_) (fun c3 => ?_)
        · have hF := it_f hF c3
          exact w_X0_readLength_b86 l g h_o h_o_given h_o_given_row h_o_elements h_o_elements_cells h_a h_a_row C0 o_fault o_place o_next o_length x2 x4 hF _ _ _ hW (lv_sub hl [0, 2, 3] rfl)
        · have hF := it_t hF c3
          refine lv_aload_n C0.x C0.b dX0_readLength_30 rfl (lv_at hl 1 rfl) ?_
          refine lv_aload_n C0.x C0.b dX0_readLength_31 rfl (lv_at hl 0 rfl) ?_
          refine x_get C0 hW iw_X0 0 rfl rfl 6 (by decide) (List.mem_cons_of_mem _ wl_80) (v := .int o_next) rfl dX0_readLength_32 ?_
          obtain ⟨r4, e5, hF⟩ := ob hF
          refine go_i C0 hW [5, 6] [0, 1, 2, 3, 4] [0, 1, 2, 3, 4, 5, 6] (va_runV (As := [.int o_next]) (rest := []) C0.fix (c_X1_at l g h_a h_a_row e5 _) (cwV 1 C0.ts (gw_V wl_356 wl_206 wl_207 wl_15 wl_208) rfl rfl rfl (by decide +kernel) ⟨Nat.le_of_ble_eq_true rfl, Nat.le_of_ble_eq_true rfl⟩) (pcv_of C0 hW [5, 6] rfl (by decide) (q0 := 5) rfl rfl) rfl rfl hl.1 rfl (lv_room (Nat.le_of_ble_eq_true rfl)) dX0_readLength_35 ⟨Nat.le_of_ble_eq_true rfl, Nat.le_of_ble_eq_true rfl⟩) rfl rfl (by decide) (by decide) (ws' := (wF_BlockOpener_Bytes g h_o h_o_given h_o_given_row h_o_elements h_o_elements_cells h_a h_a_row o_fault o_place o_start o_end o_next o_length o_sort o_body o_size o_back o_given_count o_given_row_n o_given_row_c o_elements_count o_elements_marked o_elements_cells_n o_elements_cells_c a_count a_row_n a_row_c)) rfl (by decide) (fun H locs hW => ?_)
          refine lv_istore (lv' := [(6, .int r4), (0, .ref h_o), (1, .ref h_a), (2, .long x2), (4, .int x4), (5, .int x5)]) C0.x C0.b dX0_readLength_38 hl (by decide) rfl (fun ls hl => ?_)
          refine lv_aload_n C0.x C0.b dX0_readLength_40 rfl (lv_at hl 1 rfl) ?_
          refine lv_dup C0.x C0.b dX0_readLength_41 rfl ?_
          refine x_get C0 hW iw_X0 0 rfl rfl 6 (by decide) (List.mem_cons_of_mem _ wl_80) (v := .int o_next) rfl dX0_readLength_42 ?_
          refine lv_iconst (v := (1 : Int32)) C0.x C0.b dX0_readLength_45 (by decide) ?_
          refine lv_iadd C0.x C0.b dX0_readLength_46 ?_
          refine x_put C0 hW iw_X0 tyX0 tyX0_ok nmX0 0 rfl rfl 6 (by decide) (List.mem_cons_of_mem _ wl_80) rfl (ty := .int) (v := .int (o_next + (1 : Int32))) (by decide +kernel) rfl rfl (Nat.le_of_ble_eq_true rfl) dX0_readLength_47 (ws' := (wF_BlockOpener_Bytes g h_o h_o_given h_o_given_row h_o_elements h_o_elements_cells h_a h_a_row o_fault o_place o_start o_end (o_next + (1 : Int32)) o_length o_sort o_body o_size o_back o_given_count o_given_row_n o_given_row_c o_elements_count o_elements_marked o_elements_cells_n o_elements_cells_c a_count a_row_n a_row_c)) rfl (fun H locs hW => ?_)
          refine lv_lload_n C0.x C0.b dX0_readLength_50 rfl (lv_at hl 3 rfl) ?_
          refine lv_iload C0.x C0.b dX0_readLength_51 (lv_at hl 0 rfl) ?_
          refine lv_bipush (v := (127 : Int32)) C0.x C0.b dX0_readLength_53 (by decide) ?_
          refine lv_iand C0.x C0.b dX0_readLength_55 ?_
          refine lv_i2l (v := ((r4 &&& (127 : Int32)).toInt64)) C0.x C0.b dX0_readLength_56 rfl ?_
          refine lv_bipush (v := (7 : Int32)) C0.x C0.b dX0_readLength_57 (by decide) ?_
          refine lv_iload C0.x C0.b dX0_readLength_59 (lv_at hl 5 rfl) ?_
          refine lv_imul C0.x C0.b dX0_readLength_61 ?_
          refine lv_lshl (v := (((r4 &&& (127 : Int32)).toInt64) <<< (((7 : Int32) * x5).toInt64 &&& 63))) C0.x C0.b dX0_readLength_62 rfl ?_
          refine lv_lor C0.x C0.b dX0_readLength_63 ?_
          refine lv_lstore_n (lv' := [(2, .long (x2 ||| (((r4 &&& (127 : Int32)).toInt64) <<< (((7 : Int32) * x5).toInt64 &&& 63)))), (6, .int r4), (0, .ref h_o), (1, .ref h_a), (4, .int x4), (5, .int x5)]) C0.x C0.b dX0_readLength_64 rfl hl (by decide) rfl (fun ls hl => ?_)
          refine lv_iload C0.x C0.b dX0_readLength_65 (lv_at hl 1 rfl) ?_
          refine lv_sipush (v := (128 : Int32)) C0.x C0.b dX0_readLength_67 (by decide) ?_
          refine lv_icmp_ge (tgt := 77) C0.x C0.b dX0_readLength_70 (by decide) (fun c6 => ?_) (fun c6 => ?_)
          · have hF := it_t hF c6
            refine lv_iconst (v := (0 : Int32)) C0.x C0.b dX0_readLength_77 (by decide) ?_
            refine lv_istore (lv' := [(4, .int (0 : Int32)), (2, .long (x2 ||| (((r4 &&& (127 : Int32)).toInt64) <<< (((7 : Int32) * x5).toInt64 &&& 63)))), (6, .int r4), (0, .ref h_o), (1, .ref h_a), (5, .int x5)]) C0.x C0.b dX0_readLength_78 hl (by decide) rfl (fun ls hl => ?_)
            refine lv_iinc (v := (x5 + (1 : Int32))) (lv' := [(5, .int (x5 + (1 : Int32))), (4, .int (0 : Int32)), (2, .long (x2 ||| (((r4 &&& (127 : Int32)).toInt64) <<< (((7 : Int32) * x5).toInt64 &&& 63)))), (6, .int r4), (0, .ref h_o), (1, .ref h_a)]) C0.x C0.b dX0_readLength_80 hl (k := 5) rfl rfl (by decide) rfl (fun ls hl => ?_)
            refine lv_goto (tgt := 8) C0.x C0.b dX0_readLength_83 (by decide) ?_
            exact ih o_fault o_place (o_next + (1 : Int32)) o_length (x2 ||| (((r4 &&& (127 : Int32)).toInt64) <<< (((7 : Int32) * x5).toInt64 &&& 63))) (0 : Int32) (x5 + (1 : Int32)) hF _ _ _ hW (lv_sub hl [4, 5, 2, 1, 0] rfl)
          · have hF := it_f hF c6
            refine lv_iconst (v := (1 : Int32)) C0.x C0.b dX0_readLength_73 (by decide) ?_
            refine lv_goto (tgt := 78) C0.x C0.b dX0_readLength_74 (by decide) ?_
            refine lv_istore (lv' := [(4, .int (1 : Int32)), (2, .long (x2 ||| (((r4 &&& (127 : Int32)).toInt64) <<< (((7 : Int32) * x5).toInt64 &&& 63)))), (6, .int r4), (0, .ref h_o), (1, .ref h_a), (5, .int x5)]) C0.x C0.b dX0_readLength_78 hl (by decide) rfl (fun ls hl => ?_)
            refine lv_iinc (v := (x5 + (1 : Int32))) (lv' := [(5, .int (x5 + (1 : Int32))), (4, .int (1 : Int32)), (2, .long (x2 ||| (((r4 &&& (127 : Int32)).toInt64) <<< (((7 : Int32) * x5).toInt64 &&& 63)))), (6, .int r4), (0, .ref h_o), (1, .ref h_a)]) C0.x C0.b dX0_readLength_80 hl (k := 5) rfl rfl (by decide) rfl (fun ls hl => ?_)
            refine lv_goto (tgt := 8) C0.x C0.b dX0_readLength_83 (by decide) ?_
            exact ih o_fault o_place (o_next + (1 : Int32)) o_length (x2 ||| (((r4 &&& (127 : Int32)).toInt64) <<< (((7 : Int32) * x5).toInt64 &&& 63))) (1 : Int32) (x5 + (1 : Int32)) hF _ _ _ hW (lv_sub hl [4, 5, 2, 1, 0] rfl)

set_option maxHeartbeats 4000000 in
set_option maxRecDepth 100000 in
/-- SnapHouse$BlockOpener.readLength(LSnapHouse$Bytes;)V -/
theorem c_X0_readLength (l : Launch) (g : GX) (h_o h_o_given h_o_given_row h_o_elements h_o_elements_cells h_a h_a_row : Nat) {K : Nat} (o_sort : Int32) (o_body : Int32) (o_size : Int64) (o_back : Int64) (o_given_count : Int32) (o_given_row_n : Nat) (o_given_row_c : Nat → Int32) (o_elements_count : Int32) (o_elements_marked : Int32) (o_elements_cells_n : Nat) (o_elements_cells_c : Nat → Int32) {o_fault : Int32} {o_place : Int32} {o_start : Int32} {o_end : Int32} {o_next : Int32} {o_length : Int32} {a_count : Int32} {a_row_n : Nat} {a_row_c : Nat → Int32} {o : Int32 × Int32 × Int32 × Int32} (hF : f_X0_readLength K o_fault o_place o_start o_end o_next o_length a_count a_row_n a_row_c = some o) : mcV g l yX0_readLength wA_X0_readLength rm_X0_readLength [.ref h_o, .ref h_a] (wF_BlockOpener_Bytes g h_o h_o_given h_o_given_row h_o_elements h_o_elements_cells h_a h_a_row o_fault o_place o_start o_end o_next o_length o_sort o_body o_size o_back o_given_count o_given_row_n o_given_row_c o_elements_count o_elements_marked o_elements_cells_n o_elements_cells_c a_count a_row_n a_row_c) (wF_BlockOpener_Bytes g h_o h_o_given h_o_given_row h_o_elements h_o_elements_cells h_a h_a_row o.1 o.2.1 o_start o_end o.2.2.1 o.2.2.2 o_sort o_body o_size o_back o_given_count o_given_row_n o_given_row_c o_elements_count o_elements_marked o_elements_cells_n o_elements_cells_c a_count a_row_n a_row_c) 0 0 := by
  refine x_start (cc := cX0_readLength) (maxL := 7) (ret := none) (by decide) rfl (Nat.le_of_ble_eq_true rfl) ?_
  intro p e s m below meth c ls C0 hW hl
  have hl : lv_has ls 7 [(0, .ref h_o), (1, .ref h_a)] := hl
  unfold f_X0_readLength at hF
  refine lv_lconst (v := (0 : Int64)) C0.x C0.b dX0_readLength_0 (by decide) ?_
  refine lv_lstore_n (lv' := [(2, .long (0 : Int64)), (0, .ref h_o), (1, .ref h_a)]) C0.x C0.b dX0_readLength_1 rfl hl (by decide) rfl (fun ls hl => ?_)
  refine lv_iconst (v := (0 : Int32)) C0.x C0.b dX0_readLength_2 (by decide) ?_
  refine lv_istore (lv' := [(4, .int (0 : Int32)), (2, .long (0 : Int64)), (0, .ref h_o), (1, .ref h_a)]) C0.x C0.b dX0_readLength_3 hl (by decide) rfl (fun ls hl => ?_)
  refine lv_iconst (v := (0 : Int32)) C0.x C0.b dX0_readLength_5 (by decide) ?_
  refine lv_istore (lv' := [(5, .int (0 : Int32)), (4, .int (0 : Int32)), (2, .long (0 : Int64)), (0, .ref h_o), (1, .ref h_a)]) C0.x C0.b dX0_readLength_6 hl (by decide) rfl (fun ls hl => ?_)
  exact w_X0_readLength_b8 l g h_o h_o_given h_o_given_row h_o_elements h_o_elements_cells h_a h_a_row C0 K o_fault o_place o_next o_length (0 : Int64) (0 : Int32) (0 : Int32) hF _ _ _ hW (lv_sub hl [3, 4, 2, 1, 0] rfl)

abbrev rm_X0_bytesBehindTag : Room := { frames := 0, cells := 0, slots := 0, locals := 0 }

set_option maxHeartbeats 4000000 in
set_option maxRecDepth 100000 in
/-- SnapHouse$BlockOpener.bytesBehindTag(II)I -/
theorem c_X0_bytesBehindTag (l : Launch) (g : GX) {K : Nat} {p0 : Int32} {p1 : Int32} {o : Int32} (hF : f_X0_bytesBehindTag K p0 p1 = some o) : mcI g l yX0_bytesBehindTag wA_X0_bytesBehindTag rm_X0_bytesBehindTag [.int p0, .int p1] (wF_ g) o (wF_ g) 0 0 := by
  refine x_start (cc := cX0_bytesBehindTag) (maxL := 2) (ret := (some .int)) (by decide) rfl (Nat.le_of_ble_eq_true rfl) ?_
  intro p e s m below meth c ls C0 hW hl
  have hl : lv_has ls 2 [(0, .int p0), (1, .int p1)] := hl
  unfold f_X0_bytesBehindTag at hF
  refine lv_iload_n C0.x C0.b dX0_bytesBehindTag_0 rfl (lv_at hl 0 rfl) ?_
  by_cases c1 : p0 = (0 : Int32)
  · have hF := it_t hF c1
    refine lv_tableIn (tgt := 28) C0.x C0.b dX0_bytesBehindTag_1 (by rw [c1]; decide) (by rw [c1]; decide) (by rw [c1]; rfl) (by decide) ?_
    refine lv_iload_n C0.x C0.b dX0_bytesBehindTag_28 rfl (lv_at hl 1 rfl) ?_
    refine lv_bipush (v := (60 : Int32)) C0.x C0.b dX0_bytesBehindTag_29 (by decide) ?_
    refine lv_icmp_ge (tgt := 38) C0.x C0.b dX0_bytesBehindTag_31 (by decide) (fun c2 => ?_) (fun c2 => ?_)
    · have hF := it_t hF c2
      refine lv_iload_n C0.x C0.b dX0_bytesBehindTag_38 rfl (lv_at hl 1 rfl) ?_
      refine lv_bipush (v := (59 : Int32)) C0.x C0.b dX0_bytesBehindTag_39 (by decide) ?_
      refine lv_isub C0.x C0.b dX0_bytesBehindTag_41 ?_
      obtain rfl := Option.some.inj hF
      exact x_iret C0 hW rfl rfl dX0_bytesBehindTag_42
    · have hF := it_f hF c2
      refine lv_iconst (v := (0 : Int32)) C0.x C0.b dX0_bytesBehindTag_34 (by decide) ?_
      refine lv_goto (tgt := 42) C0.x C0.b dX0_bytesBehindTag_35 (by decide) ?_
      obtain rfl := Option.some.inj hF
      exact x_iret C0 hW rfl rfl dX0_bytesBehindTag_42
  have hF := it_f hF c1
  by_cases c3 : p0 = (1 : Int32)
  · have hF := it_t hF c3
    refine lv_tableIn (tgt := 43) C0.x C0.b dX0_bytesBehindTag_1 (by rw [c3]; decide) (by rw [c3]; decide) (by rw [c3]; rfl) (by decide) ?_
    refine lv_iconst (v := (1 : Int32)) C0.x C0.b dX0_bytesBehindTag_43 (by decide) ?_
    obtain rfl := Option.some.inj hF
    exact x_iret C0 hW rfl rfl dX0_bytesBehindTag_44
  have hF := it_f hF c3
  by_cases c4 : p0 = (2 : Int32)
  · have hF := it_t hF c4
    refine lv_tableIn (tgt := 45) C0.x C0.b dX0_bytesBehindTag_1 (by rw [c4]; decide) (by rw [c4]; decide) (by rw [c4]; rfl) (by decide) ?_
    refine lv_iconst (v := (2 : Int32)) C0.x C0.b dX0_bytesBehindTag_45 (by decide) ?_
    obtain rfl := Option.some.inj hF
    exact x_iret C0 hW rfl rfl dX0_bytesBehindTag_46
  have hF := it_f hF c4
  refine lv_tableOut (tgt := 47) C0.x C0.b dX0_bytesBehindTag_1 (by have hc1 := lv_neT c1 (a := 0) rfl; have hc3 := lv_neT c3 (a := 1) rfl; have hc4 := lv_neT c4 (a := 2) rfl; omega) (by decide) ?_
  refine lv_iconst (v := (4 : Int32)) C0.x C0.b dX0_bytesBehindTag_47 (by decide) ?_
  obtain rfl := Option.some.inj hF
  exact x_iret C0 hW rfl rfl dX0_bytesBehindTag_48

abbrev rm_X1_lowestFirst : Room := { frames := 1, cells := 0, slots := 0, locals := 21 }

set_option maxHeartbeats 4000000 in
set_option maxRecDepth 100000 in
theorem w_X1_lowestFirst_b5 (l : Launch) (g : GX) (h_o h_o_row : Nat) {K : Nat} {o_count : Int32} {o_row_n : Nat} {o_row_c : Nat → Int32} {p1 : Int32} {p2 : Int32} {o : Int64} {wc : va_W} {p : Program} {e : Env} {s : State} {m : MethodId} {args : Array Value} {below : List Frame} {meth : Method} {c : Code} (C0 : bx g p s m meth c args cX1_lowestFirst 6 (some .long) yX1_lowestFirst wA_X1_lowestFirst (va_A wc s.heap.size)) :
    ∀ (n : Nat) (x3 : Int64) (x5 : Int32), f_X1_lowestFirst_b5 K o_count o_row_n o_row_c p1 p2 n x3 x5 = some o → ∀ (H : Heap) (locs : List Loc) (ls : Array Slot), ww g (va_A wc s.heap.size) s (wF_Bytes g h_o h_o_row o_count o_row_n o_row_c) H locs → lv_has ls 6 [(0, .ref h_o), (1, .int p1), (2, .int p2), (3, .long x3), (5, .int x5)] → W p l e rm_X1_lowestFirst s m args below meth c H locs 0 0 (MQ below (qcL g wc s.heap.size o (wF_Bytes g h_o h_o_row o_count o_row_n o_row_c)) args s 0 0 (va_A wc s.heap.size)) (F0 m 5 ls []) := by
  intro n
  induction n with
  | zero => intro x3 x5 hF; cases (show (none : Option (Int64)) = some o from hF)
  | succ n ih =>
    intro x3 x5 hF H locs ls hW hl
    rw [f_X1_lowestFirst_b5] at hF
    refine lv_iload C0.x C0.b dX1_lowestFirst_5 (lv_at hl 4 rfl) ?_
    refine lv_iload_n C0.x C0.b dX1_lowestFirst_7 rfl (lv_at hl 2 rfl) ?_
    refine lv_icmp_ge (tgt := 35) C0.x C0.b dX1_lowestFirst_8 (by decide) (fun c1 => ?_) (fun c1 => ?_)
    · have hF := it_t hF c1
      refine lv_lload_n C0.x C0.b dX1_lowestFirst_35 rfl (lv_at hl 3 rfl) ?_
      obtain rfl := Option.some.inj hF
      exact x_lret C0 hW rfl dX1_lowestFirst_36
    · have hF := it_f hF c1
      refine lv_lload_n C0.x C0.b dX1_lowestFirst_11 rfl (lv_at hl 3 rfl) ?_
      refine lv_aload_n C0.x C0.b dX1_lowestFirst_12 rfl (lv_at hl 0 rfl) ?_
      refine lv_iload_n C0.x C0.b dX1_lowestFirst_13 rfl (lv_at hl 1 rfl) ?_
      refine lv_iload C0.x C0.b dX1_lowestFirst_14 (lv_at hl 4 rfl) ?_
      refine lv_iadd C0.x C0.b dX1_lowestFirst_16 ?_
      obtain ⟨r2, e3, hF⟩ := ob hF
      refine go_i C0 hW [0, 1] [] [0, 1] (va_runV (As := [.int (p1 + x5)]) (rest := [.long x3]) C0.fix (c_X1_at l g h_o h_o_row e3 _) (cwV 1 C0.ts (gw_V wl_372 wl_206 wl_207 wl_15 wl_208) rfl rfl rfl (by decide +kernel) ⟨Nat.le_of_ble_eq_true rfl, Nat.le_of_ble_eq_true rfl⟩) (pcv_of C0 hW [0, 1] rfl (by decide) (q0 := 0) rfl rfl) rfl rfl hl.1 rfl (lv_room (Nat.le_of_ble_eq_true rfl)) dX1_lowestFirst_17 ⟨Nat.le_of_ble_eq_true rfl, Nat.le_of_ble_eq_true rfl⟩) rfl rfl (by decide) (by decide) (ws' := (wF_Bytes g h_o h_o_row o_count o_row_n o_row_c)) rfl (by decide) (fun H locs hW => ?_)
      refine lv_i2l (v := (r2.toInt64)) C0.x C0.b dX1_lowestFirst_20 rfl ?_
      refine lv_bipush (v := (8 : Int32)) C0.x C0.b dX1_lowestFirst_21 (by decide) ?_
      refine lv_iload C0.x C0.b dX1_lowestFirst_23 (lv_at hl 4 rfl) ?_
      refine lv_imul C0.x C0.b dX1_lowestFirst_25 ?_
      refine lv_lshl (v := ((r2.toInt64) <<< (((8 : Int32) * x5).toInt64 &&& 63))) C0.x C0.b dX1_lowestFirst_26 rfl ?_
      refine lv_lor C0.x C0.b dX1_lowestFirst_27 ?_
      refine lv_lstore_n (lv' := [(3, .long (x3 ||| ((r2.toInt64) <<< (((8 : Int32) * x5).toInt64 &&& 63)))), (0, .ref h_o), (1, .int p1), (2, .int p2), (5, .int x5)]) C0.x C0.b dX1_lowestFirst_28 rfl hl (by decide) rfl (fun ls hl => ?_)
      refine lv_iinc (v := (x5 + (1 : Int32))) (lv' := [(5, .int (x5 + (1 : Int32))), (3, .long (x3 ||| ((r2.toInt64) <<< (((8 : Int32) * x5).toInt64 &&& 63)))), (0, .ref h_o), (1, .int p1), (2, .int p2)]) C0.x C0.b dX1_lowestFirst_29 hl (k := 4) rfl rfl (by decide) rfl (fun ls hl => ?_)
      refine lv_goto (tgt := 5) C0.x C0.b dX1_lowestFirst_32 (by decide) ?_
      exact ih (x3 ||| ((r2.toInt64) <<< (((8 : Int32) * x5).toInt64 &&& 63))) (x5 + (1 : Int32)) hF _ _ _ hW (lv_sub hl [2, 3, 4, 1, 0] rfl)

set_option maxHeartbeats 4000000 in
set_option maxRecDepth 100000 in
/-- SnapHouse$Bytes.lowestFirst(II)J -/
theorem c_X1_lowestFirst (l : Launch) (g : GX) (h_o h_o_row : Nat) {K : Nat} {o_count : Int32} {o_row_n : Nat} {o_row_c : Nat → Int32} {p1 : Int32} {p2 : Int32} {o : Int64} (hF : f_X1_lowestFirst K o_count o_row_n o_row_c p1 p2 = some o) : mcL g l yX1_lowestFirst wA_X1_lowestFirst rm_X1_lowestFirst [.ref h_o, .int p1, .int p2] (wF_Bytes g h_o h_o_row o_count o_row_n o_row_c) o (wF_Bytes g h_o h_o_row o_count o_row_n o_row_c) 0 0 := by
  refine x_start (cc := cX1_lowestFirst) (maxL := 6) (ret := (some .long)) (by decide) rfl (Nat.le_of_ble_eq_true rfl) ?_
  intro p e s m below meth c ls C0 hW hl
  have hl : lv_has ls 6 [(0, .ref h_o), (1, .int p1), (2, .int p2)] := hl
  unfold f_X1_lowestFirst at hF
  refine lv_lconst (v := (0 : Int64)) C0.x C0.b dX1_lowestFirst_0 (by decide) ?_
  refine lv_lstore_n (lv' := [(3, .long (0 : Int64)), (0, .ref h_o), (1, .int p1), (2, .int p2)]) C0.x C0.b dX1_lowestFirst_1 rfl hl (by decide) rfl (fun ls hl => ?_)
  refine lv_iconst (v := (0 : Int32)) C0.x C0.b dX1_lowestFirst_2 (by decide) ?_
  refine lv_istore (lv' := [(5, .int (0 : Int32)), (3, .long (0 : Int64)), (0, .ref h_o), (1, .int p1), (2, .int p2)]) C0.x C0.b dX1_lowestFirst_3 hl (by decide) rfl (fun ls hl => ?_)
  exact w_X1_lowestFirst_b5 l g h_o h_o_row C0 K (0 : Int64) (0 : Int32) hF _ _ _ hW (lv_sub hl [2, 3, 4, 1, 0] rfl)

abbrev rm_X0_sizeOf : Room := { frames := 0, cells := 0, slots := 0, locals := 0 }

set_option maxHeartbeats 4000000 in
set_option maxRecDepth 100000 in
/-- SnapHouse$BlockOpener.sizeOf(IIJ)J -/
theorem c_X0_sizeOf (l : Launch) (g : GX) {K : Nat} {p0 : Int32} {p1 : Int32} {p2 : Int64} {o : Int64} (hF : f_X0_sizeOf K p0 p1 p2 = some o) : mcL g l yX0_sizeOf wA_X0_sizeOf rm_X0_sizeOf [.int p0, .int p1, .long p2] (wF_ g) o (wF_ g) 0 0 := by
  refine x_start (cc := cX0_sizeOf) (maxL := 4) (ret := (some .long)) (by decide) rfl (Nat.le_of_ble_eq_true rfl) ?_
  intro p e s m below meth c ls C0 hW hl
  have hl : lv_has ls 4 [(0, .int p0), (1, .int p1), (2, .long p2)] := hl
  unfold f_X0_sizeOf at hF
  refine lv_iload_n C0.x C0.b dX0_sizeOf_0 rfl (lv_at hl 0 rfl) ?_
  by_cases c1 : p0 = (0 : Int32)
  · have hF := it_t hF c1
    refine lv_lookup (off := 27) (tgt := 28) C0.x C0.b dX0_sizeOf_1 (by decide) (by rw [c1]; first | done | rfl) (by decide) ?_
    refine lv_iload_n C0.x C0.b dX0_sizeOf_28 rfl (lv_at hl 1 rfl) ?_
    refine lv_bipush (v := (60 : Int32)) C0.x C0.b dX0_sizeOf_29 (by decide) ?_
    refine lv_icmp_ge (tgt := 41) C0.x C0.b dX0_sizeOf_31 (by decide) (fun c2 => ?_) (fun c2 => ?_)
    · have hF := it_t hF c2
      refine lv_lload_n C0.x C0.b dX0_sizeOf_41 rfl (lv_at hl 2 rfl) ?_
      refine lv_lconst (v := (1 : Int64)) C0.x C0.b dX0_sizeOf_42 (by decide) ?_
      refine lv_ladd C0.x C0.b dX0_sizeOf_43 ?_
      obtain rfl := Option.some.inj hF
      exact x_lret C0 hW rfl dX0_sizeOf_44
    · have hF := it_f hF c2
      refine lv_iload_n C0.x C0.b dX0_sizeOf_34 rfl (lv_at hl 1 rfl) ?_
      refine lv_iconst (v := (1 : Int32)) C0.x C0.b dX0_sizeOf_35 (by decide) ?_
      refine lv_iadd C0.x C0.b dX0_sizeOf_36 ?_
      refine lv_i2l (v := ((p1 + (1 : Int32)).toInt64)) C0.x C0.b dX0_sizeOf_37 rfl ?_
      refine lv_goto (tgt := 44) C0.x C0.b dX0_sizeOf_38 (by decide) ?_
      obtain rfl := Option.some.inj hF
      exact x_lret C0 hW rfl dX0_sizeOf_44
  have hF := it_f hF c1
  by_cases c3 : p0 = (1 : Int32)
  · have hF := it_t hF c3
    refine lv_lookup (off := 44) (tgt := 45) C0.x C0.b dX0_sizeOf_1 (by decide) (by rw [c3]; first | done | rfl) (by decide) ?_
    refine lv_iload_n C0.x C0.b dX0_sizeOf_45 rfl (lv_at hl 1 rfl) ?_
    refine lv_bipush (v := (7 : Int32)) C0.x C0.b dX0_sizeOf_46 (by decide) ?_
    refine lv_iand C0.x C0.b dX0_sizeOf_48 ?_
    refine lv_iconst (v := (4 : Int32)) C0.x C0.b dX0_sizeOf_49 (by decide) ?_
    refine lv_iadd C0.x C0.b dX0_sizeOf_50 ?_
    refine lv_i2l (v := (((p1 &&& (7 : Int32)) + (4 : Int32)).toInt64)) C0.x C0.b dX0_sizeOf_51 rfl ?_
    obtain rfl := Option.some.inj hF
    exact x_lret C0 hW rfl dX0_sizeOf_52
  have hF := it_f hF c3
  refine lv_lookup (off := 52) (tgt := 53) C0.x C0.b dX0_sizeOf_1 (by decide) ((lv_osw c1 (by decide)).trans ((lv_osw c3 (by decide)).trans (rfl))) (by decide) ?_
  refine lv_iload_n C0.x C0.b dX0_sizeOf_53 rfl (lv_at hl 1 rfl) ?_
  refine lv_iconst (v := (1 : Int32)) C0.x C0.b dX0_sizeOf_54 (by decide) ?_
  refine lv_iadd C0.x C0.b dX0_sizeOf_55 ?_
  refine lv_i2l (v := ((p1 + (1 : Int32)).toInt64)) C0.x C0.b dX0_sizeOf_56 rfl ?_
  obtain rfl := Option.some.inj hF
  exact x_lret C0 hW rfl dX0_sizeOf_57

abbrev rm_X0_backOf : Room := { frames := 0, cells := 0, slots := 0, locals := 0 }

set_option maxHeartbeats 4000000 in
set_option maxRecDepth 100000 in
/-- SnapHouse$BlockOpener.backOf(IIJ)J -/
theorem c_X0_backOf (l : Launch) (g : GX) {K : Nat} {p0 : Int32} {p1 : Int32} {p2 : Int64} {o : Int64} (hF : f_X0_backOf K p0 p1 p2 = some o) : mcL g l yX0_backOf wA_X0_backOf rm_X0_backOf [.int p0, .int p1, .long p2] (wF_ g) o (wF_ g) 0 0 := by
  refine x_start (cc := cX0_backOf) (maxL := 4) (ret := (some .long)) (by decide) rfl (Nat.le_of_ble_eq_true rfl) ?_
  intro p e s m below meth c ls C0 hW hl
  have hl : lv_has ls 4 [(0, .int p0), (1, .int p1), (2, .long p2)] := hl
  unfold f_X0_backOf at hF
  refine lv_iload_n C0.x C0.b dX0_backOf_0 rfl (lv_at hl 0 rfl) ?_
  by_cases c1 : p0 = (0 : Int32)
  · have hF := it_t hF c1
    refine lv_lookup (off := 27) (tgt := 28) C0.x C0.b dX0_backOf_1 (by decide) (by rw [c1]; first | done | rfl) (by decide) ?_
    refine lv_lconst (v := (0 : Int64)) C0.x C0.b dX0_backOf_28 (by decide) ?_
    obtain rfl := Option.some.inj hF
    exact x_lret C0 hW rfl dX0_backOf_29
  have hF := it_f hF c1
  by_cases c2 : p0 = (1 : Int32)
  · have hF := it_t hF c2
    refine lv_lookup (off := 29) (tgt := 30) C0.x C0.b dX0_backOf_1 (by decide) (by rw [c2]; first | done | rfl) (by decide) ?_
    refine lv_iload_n C0.x C0.b dX0_backOf_30 rfl (lv_at hl 1 rfl) ?_
    refine lv_iconst (v := (3 : Int32)) C0.x C0.b dX0_backOf_31 (by decide) ?_
    refine lv_ishr C0.x C0.b dX0_backOf_32 ?_
    refine lv_sipush (v := (256 : Int32)) C0.x C0.b dX0_backOf_33 (by decide) ?_
    refine lv_imul C0.x C0.b dX0_backOf_36 ?_
    refine lv_i2l (v := (((p1 >>> ((3 : Int32) &&& 31)) * (256 : Int32)).toInt64)) C0.x C0.b dX0_backOf_37 rfl ?_
    refine lv_lload_n C0.x C0.b dX0_backOf_38 rfl (lv_at hl 2 rfl) ?_
    refine lv_ladd C0.x C0.b dX0_backOf_39 ?_
    obtain rfl := Option.some.inj hF
    exact x_lret C0 hW rfl dX0_backOf_40
  have hF := it_f hF c2
  refine lv_lookup (off := 40) (tgt := 41) C0.x C0.b dX0_backOf_1 (by decide) ((lv_osw c1 (by decide)).trans ((lv_osw c2 (by decide)).trans (rfl))) (by decide) ?_
  refine lv_lload_n C0.x C0.b dX0_backOf_41 rfl (lv_at hl 2 rfl) ?_
  obtain rfl := Option.some.inj hF
  exact x_lret C0 hW rfl dX0_backOf_42

abbrev rm_X0_readElement : Room := { frames := 2, cells := 0, slots := 0, locals := 46 }

set_option maxHeartbeats 4000000 in
set_option maxRecDepth 100000 in
/-- SnapHouse$BlockOpener.readElement(LSnapHouse$Bytes;)V -/
theorem c_X0_readElement (l : Launch) (g : GX) (h_o h_o_given h_o_given_row h_o_elements h_o_elements_cells h_a h_a_row : Nat) {K : Nat} (o_length : Int32) (o_given_count : Int32) (o_given_row_n : Nat) (o_given_row_c : Nat → Int32) (o_elements_count : Int32) (o_elements_marked : Int32) (o_elements_cells_n : Nat) (o_elements_cells_c : Nat → Int32) {o_fault : Int32} {o_place : Int32} {o_start : Int32} {o_end : Int32} {o_next : Int32} {o_sort : Int32} {o_body : Int32} {o_size : Int64} {o_back : Int64} {a_count : Int32} {a_row_n : Nat} {a_row_c : Nat → Int32} {o : Int32 × Int32 × Int32 × Int32 × Int64 × Int64} (hF : f_X0_readElement K o_fault o_place o_start o_end o_next o_sort o_body o_size o_back a_count a_row_n a_row_c = some o) : mcV g l yX0_readElement wA_X0_readElement rm_X0_readElement [.ref h_o, .ref h_a] (wF_BlockOpener_Bytes g h_o h_o_given h_o_given_row h_o_elements h_o_elements_cells h_a h_a_row o_fault o_place o_start o_end o_next o_length o_sort o_body o_size o_back o_given_count o_given_row_n o_given_row_c o_elements_count o_elements_marked o_elements_cells_n o_elements_cells_c a_count a_row_n a_row_c) (wF_BlockOpener_Bytes g h_o h_o_given h_o_given_row h_o_elements h_o_elements_cells h_a h_a_row o.1 o.2.1 o_start o_end o_next o_length o.2.2.1 o.2.2.2.1 o.2.2.2.2.1 o.2.2.2.2.2 o_given_count o_given_row_n o_given_row_c o_elements_count o_elements_marked o_elements_cells_n o_elements_cells_c a_count a_row_n a_row_c) 0 0 := by
  refine x_start (cc := cX0_readElement) (maxL := 7) (ret := none) (by decide) rfl (Nat.le_of_ble_eq_true rfl) ?_
  intro p e s m below meth c ls C0 hW hl
  have hl : lv_has ls 7 [(0, .ref h_o), (1, .ref h_a)] := hl
  unfold f_X0_readElement at hF
  refine lv_aload_n C0.x C0.b dX0_readElement_0 rfl (lv_at hl 1 rfl) ?_
  refine lv_aload_n C0.x C0.b dX0_readElement_1 rfl (lv_at hl 0 rfl) ?_
  refine x_get C0 hW iw_X0 0 rfl rfl 6 (by decide) (List.mem_cons_of_mem _ wl_80) (v := .int o_next) rfl dX0_readElement_2 ?_
  obtain ⟨r1, e2, hF⟩ := ob hF
  refine go_i C0 hW [5, 6] [0, 1, 2, 3, 4] [0, 1, 2, 3, 4, 5, 6] (va_runV (As := [.int o_next]) (rest := []) C0.fix (c_X1_at l g h_a h_a_row e2 _) (cwV 1 C0.ts (gw_V wl_356 wl_206 wl_207 wl_15 wl_208) rfl rfl rfl (by decide +kernel) ⟨Nat.le_of_ble_eq_true rfl, Nat.le_of_ble_eq_true rfl⟩) (pcv_of C0 hW [5, 6] rfl (by decide) (q0 := 5) rfl rfl) rfl rfl hl.1 rfl (lv_room (Nat.le_of_ble_eq_true rfl)) dX0_readElement_5 ⟨Nat.le_of_ble_eq_true rfl, Nat.le_of_ble_eq_true rfl⟩) rfl rfl (by decide) (by decide) (ws' := (wF_BlockOpener_Bytes g h_o h_o_given h_o_given_row h_o_elements h_o_elements_cells h_a h_a_row o_fault o_place o_start o_end o_next o_length o_sort o_body o_size o_back o_given_count o_given_row_n o_given_row_c o_elements_count o_elements_marked o_elements_cells_n o_elements_cells_c a_count a_row_n a_row_c)) rfl (by decide) (fun H locs hW => ?_)
  refine lv_istore_n (lv' := [(2, .int r1), (0, .ref h_o), (1, .ref h_a)]) C0.x C0.b dX0_readElement_8 rfl hl (by decide) rfl (fun ls hl => ?_)
  refine lv_iload_n C0.x C0.b dX0_readElement_9 rfl (lv_at hl 0 rfl) ?_
  refine lv_iconst (v := (2 : Int32)) C0.x C0.b dX0_readElement_10 (by decide) ?_
  refine lv_ishr C0.x C0.b dX0_readElement_11 ?_
  refine lv_istore_n (lv' := [(3, .int (r1 >>> ((2 : Int32) &&& 31))), (2, .int r1), (0, .ref h_o), (1, .ref h_a)]) C0.x C0.b dX0_readElement_12 rfl hl (by decide) rfl (fun ls hl => ?_)
  refine lv_aload_n C0.x C0.b dX0_readElement_13 rfl (lv_at hl 2 rfl) ?_
  refine lv_iload_n C0.x C0.b dX0_readElement_14 rfl (lv_at hl 1 rfl) ?_
  refine lv_iconst (v := (3 : Int32)) C0.x C0.b dX0_readElement_15 (by decide) ?_
  refine lv_iand C0.x C0.b dX0_readElement_16 ?_
  refine x_put C0 hW iw_X0 tyX0 tyX0_ok nmX0 0 rfl rfl 8 (by decide) (List.mem_cons_of_mem _ wl_82) rfl (ty := .int) (v := .int (r1 &&& (3 : Int32))) (by decide +kernel) rfl rfl (Nat.le_of_ble_eq_true rfl) dX0_readElement_17 (ws' := (wF_BlockOpener_Bytes g h_o h_o_given h_o_given_row h_o_elements h_o_elements_cells h_a h_a_row o_fault o_place o_start o_end o_next o_length (r1 &&& (3 : Int32)) o_body o_size o_back o_given_count o_given_row_n o_given_row_c o_elements_count o_elements_marked o_elements_cells_n o_elements_cells_c a_count a_row_n a_row_c)) rfl (fun H locs hW => ?_)
  refine lv_aload_n C0.x C0.b dX0_readElement_20 rfl (lv_at hl 2 rfl) ?_
  refine x_get C0 hW iw_X0 0 rfl rfl 8 (by decide) (List.mem_cons_of_mem _ wl_82) (v := .int (r1 &&& (3 : Int32))) rfl dX0_readElement_21 ?_
  refine lv_iload_n C0.x C0.b dX0_readElement_24 rfl (lv_at hl 0 rfl) ?_
  obtain ⟨r3, e4, hF⟩ := ob hF
  refine go_i C0 hW [] [0, 1, 2, 3, 4, 5, 6] [0, 1, 2, 3, 4, 5, 6] (va_runS (As := [.int (r1 &&& (3 : Int32)), .int (r1 >>> ((2 : Int32) &&& 31))]) (rest := []) C0.fix (c_X0_bytesBehindTag l g e4 _) (va_cwS 2 C0.ts (gw_S wl_365 wl_366 wl_28 wl_367) rfl rfl rfl (by decide +kernel) ⟨Nat.le_of_ble_eq_true rfl, Nat.le_of_ble_eq_true rfl⟩) (pcc_of C0 hW [] rfl (by decide)) rfl rfl hl.1 rfl (lv_room (Nat.le_of_ble_eq_true rfl)) dX0_readElement_25 ⟨Nat.le_of_ble_eq_true rfl, Nat.le_of_ble_eq_true rfl⟩) rfl rfl (by decide) (by decide) (ws' := (wF_BlockOpener_Bytes g h_o h_o_given h_o_given_row h_o_elements h_o_elements_cells h_a h_a_row o_fault o_place o_start o_end o_next o_length (r1 &&& (3 : Int32)) o_body o_size o_back o_given_count o_given_row_n o_given_row_c o_elements_count o_elements_marked o_elements_cells_n o_elements_cells_c a_count a_row_n a_row_c)) rfl (by decide) (fun H locs hW => ?_)
  refine lv_istore (lv' := [(4, .int r3), (3, .int (r1 >>> ((2 : Int32) &&& 31))), (2, .int r1), (0, .ref h_o), (1, .ref h_a)]) C0.x C0.b dX0_readElement_28 hl (by decide) rfl (fun ls hl => ?_)
  refine lv_aload_n C0.x C0.b dX0_readElement_30 rfl (lv_at hl 3 rfl) ?_
  refine lv_aload_n C0.x C0.b dX0_readElement_31 rfl (lv_at hl 3 rfl) ?_
  refine x_get C0 hW iw_X0 0 rfl rfl 6 (by decide) (List.mem_cons_of_mem _ wl_80) (v := .int o_next) rfl dX0_readElement_32 ?_
  refine lv_iconst (v := (1 : Int32)) C0.x C0.b dX0_readElement_35 (by decide) ?_
  refine lv_iadd C0.x C0.b dX0_readElement_36 ?_
  refine lv_iload C0.x C0.b dX0_readElement_37 (lv_at hl 0 rfl) ?_
  refine lv_iadd C0.x C0.b dX0_readElement_39 ?_
  refine x_put C0 hW iw_X0 tyX0 tyX0_ok nmX0 0 rfl rfl 9 (by decide) (List.mem_cons_of_mem _ wl_83) rfl (ty := .int) (v := .int ((o_next + (1 : Int32)) + r3)) (by decide +kernel) rfl rfl (Nat.le_of_ble_eq_true rfl) dX0_readElement_40 (ws' := (wF_BlockOpener_Bytes g h_o h_o_given h_o_given_row h_o_elements h_o_elements_cells h_a h_a_row o_fault o_place o_start o_end o_next o_length (r1 &&& (3 : Int32)) ((o_next + (1 : Int32)) + r3) o_size o_back o_given_count o_given_row_n o_given_row_c o_elements_count o_elements_marked o_elements_cells_n o_elements_cells_c a_count a_row_n a_row_c)) rfl (fun H locs hW => ?_)
  refine lv_aload_n C0.x C0.b dX0_readElement_43 rfl (lv_at hl 3 rfl) ?_
  refine x_get C0 hW iw_X0 0 rfl rfl 9 (by decide) (List.mem_cons_of_mem _ wl_83) (v := .int ((o_next + (1 : Int32)) + r3)) rfl dX0_readElement_44 ?_
  refine lv_aload_n C0.x C0.b dX0_readElement_47 rfl (lv_at hl 3 rfl) ?_
  refine x_get C0 hW iw_X0 0 rfl rfl 5 (by decide) (List.mem_cons_of_mem _ wl_79) (v := .int o_end) rfl dX0_readElement_48 ?_
  refine lv_icmp_le (tgt := 64) C0.x C0.b dX0_readElement_51 (by decide) (fun c5 => ?_) (fun c5 => ?_)
  · have hF := it_t hF c5
    refine lv_aload_n C0.x C0.b dX0_readElement_64 rfl (lv_at hl 4 rfl) ?_
    refine lv_aload_n C0.x C0.b dX0_readElement_65 rfl (lv_at hl 3 rfl) ?_
    refine x_get C0 hW iw_X0 0 rfl rfl 6 (by decide) (List.mem_cons_of_mem _ wl_80) (v := .int o_next) rfl dX0_readElement_66 ?_
    refine lv_iconst (v := (1 : Int32)) C0.x C0.b dX0_readElement_69 (by decide) ?_
    refine lv_iadd C0.x C0.b dX0_readElement_70 ?_
    refine lv_iload C0.x C0.b dX0_readElement_71 (lv_at hl 0 rfl) ?_
    obtain ⟨r6, e7, hF⟩ := ob hF
    refine go_l C0 hW [5, 6] [0, 1, 2, 3, 4] [0, 1, 2, 3, 4, 5, 6] (va_runV (As := [.int (o_next + (1 : Int32)), .int r3]) (rest := []) C0.fix (c_X1_lowestFirst l g h_a h_a_row e7 _) (cwV 2 C0.ts (gw_V wl_368 wl_369 wl_370 wl_15 wl_371) rfl rfl rfl (by decide +kernel) ⟨Nat.le_of_ble_eq_true rfl, Nat.le_of_ble_eq_true rfl⟩) (pcv_of C0 hW [5, 6] rfl (by decide) (q0 := 5) rfl rfl) rfl rfl hl.1 rfl (lv_room (Nat.le_of_ble_eq_true rfl)) dX0_readElement_73 ⟨Nat.le_of_ble_eq_true rfl, Nat.le_of_ble_eq_true rfl⟩) rfl rfl (by decide) (by decide) (ws' := (wF_BlockOpener_Bytes g h_o h_o_given h_o_given_row h_o_elements h_o_elements_cells h_a h_a_row o_fault o_place o_start o_end o_next o_length (r1 &&& (3 : Int32)) ((o_next + (1 : Int32)) + r3) o_size o_back o_given_count o_given_row_n o_given_row_c o_elements_count o_elements_marked o_elements_cells_n o_elements_cells_c a_count a_row_n a_row_c)) rfl (by decide) (fun H locs hW => ?_)
    refine lv_lstore (lv' := [(5, .long r6), (4, .int r3), (3, .int (r1 >>> ((2 : Int32) &&& 31))), (2, .int r1), (0, .ref h_o), (1, .ref h_a)]) C0.x C0.b dX0_readElement_76 hl (by decide) rfl (fun ls hl => ?_)
    refine lv_aload_n C0.x C0.b dX0_readElement_78 rfl (lv_at hl 4 rfl) ?_
    refine lv_aload_n C0.x C0.b dX0_readElement_79 rfl (lv_at hl 4 rfl) ?_
    refine x_get C0 hW iw_X0 0 rfl rfl 8 (by decide) (List.mem_cons_of_mem _ wl_82) (v := .int (r1 &&& (3 : Int32))) rfl dX0_readElement_80 ?_
    refine lv_iload_n C0.x C0.b dX0_readElement_83 rfl (lv_at hl 2 rfl) ?_
    refine lv_lload C0.x C0.b dX0_readElement_84 (lv_at hl 0 rfl) ?_
    obtain ⟨r8, e9, hF⟩ := ob hF
    refine go_l C0 hW [] [0, 1, 2, 3, 4, 5, 6] [0, 1, 2, 3, 4, 5, 6] (va_runS (As := [.int (r1 &&& (3 : Int32)), .int (r1 >>> ((2 : Int32) &&& 31)), .long r6]) (rest := [.ref h_o]) C0.fix (c_X0_sizeOf l g e9 _) (va_cwS 3 C0.ts (gw_S wl_373 wl_374 wl_28 wl_375) rfl rfl rfl (by decide +kernel) ⟨Nat.le_of_ble_eq_true rfl, Nat.le_of_ble_eq_true rfl⟩) (pcc_of C0 hW [] rfl (by decide)) rfl rfl hl.1 rfl (lv_room (Nat.le_of_ble_eq_true rfl)) dX0_readElement_86 ⟨Nat.le_of_ble_eq_true rfl, Nat.le_of_ble_eq_true rfl⟩) rfl rfl (by decide) (by decide) (ws' := (wF_BlockOpener_Bytes g h_o h_o_given h_o_given_row h_o_elements h_o_elements_cells h_a h_a_row o_fault o_place o_start o_end o_next o_length (r1 &&& (3 : Int32)) ((o_next + (1 : Int32)) + r3) o_size o_back o_given_count o_given_row_n o_given_row_c o_elements_count o_elements_marked o_elements_cells_n o_elements_cells_c a_count a_row_n a_row_c)) rfl (by decide) (fun H locs hW => ?_)
    refine x_put C0 hW iw_X0 tyX0 tyX0_ok nmX0 0 rfl rfl 10 (by decide) (List.mem_cons_of_mem _ wl_84) rfl (ty := .long) (v := .long r8) (by decide +kernel) rfl rfl (Nat.le_of_ble_eq_true rfl) dX0_readElement_89 (ws' := (wF_BlockOpener_Bytes g h_o h_o_given h_o_given_row h_o_elements h_o_elements_cells h_a h_a_row o_fault o_place o_start o_end o_next o_length (r1 &&& (3 : Int32)) ((o_next + (1 : Int32)) + r3) r8 o_back o_given_count o_given_row_n o_given_row_c o_elements_count o_elements_marked o_elements_cells_n o_elements_cells_c a_count a_row_n a_row_c)) rfl (fun H locs hW => ?_)
    refine lv_aload_n C0.x C0.b dX0_readElement_92 rfl (lv_at hl 4 rfl) ?_
    refine lv_aload_n C0.x C0.b dX0_readElement_93 rfl (lv_at hl 4 rfl) ?_
    refine x_get C0 hW iw_X0 0 rfl rfl 8 (by decide) (List.mem_cons_of_mem _ wl_82) (v := .int (r1 &&& (3 : Int32))) rfl dX0_readElement_94 ?_
    refine lv_iload_n C0.x C0.b dX0_readElement_97 rfl (lv_at hl 2 rfl) ?_
    refine lv_lload C0.x C0.b dX0_readElement_98 (lv_at hl 0 rfl) ?_
    obtain ⟨r10, e11, hF⟩ := ob hF
    refine go_l C0 hW [] [0, 1, 2, 3, 4, 5, 6] [0, 1, 2, 3, 4, 5, 6] (va_runS (As := [.int (r1 &&& (3 : Int32)), .int (r1 >>> ((2 : Int32) &&& 31)), .long r6]) (rest := [.ref h_o]) C0.fix (c_X0_backOf l g e11 _) (va_cwS 3 C0.ts (gw_S wl_376 wl_377 wl_28 wl_378) rfl rfl rfl (by decide +kernel) ⟨Nat.le_of_ble_eq_true rfl, Nat.le_of_ble_eq_true rfl⟩) (pcc_of C0 hW [] rfl (by decide)) rfl rfl hl.1 rfl (lv_room (Nat.le_of_ble_eq_true rfl)) dX0_readElement_100 ⟨Nat.le_of_ble_eq_true rfl, Nat.le_of_ble_eq_true rfl⟩) rfl rfl (by decide) (by decide) (ws' := (wF_BlockOpener_Bytes g h_o h_o_given h_o_given_row h_o_elements h_o_elements_cells h_a h_a_row o_fault o_place o_start o_end o_next o_length (r1 &&& (3 : Int32)) ((o_next + (1 : Int32)) + r3) r8 o_back o_given_count o_given_row_n o_given_row_c o_elements_count o_elements_marked o_elements_cells_n o_elements_cells_c a_count a_row_n a_row_c)) rfl (by decide) (fun H locs hW => ?_)
    refine x_put C0 hW iw_X0 tyX0 tyX0_ok nmX0 0 rfl rfl 11 (by decide) (List.mem_cons_of_mem _ wl_85) rfl (ty := .long) (v := .long r10) (by decide +kernel) rfl rfl (Nat.le_of_ble_eq_true rfl) dX0_readElement_103 (ws' := (wF_BlockOpener_Bytes g h_o h_o_given h_o_given_row h_o_elements h_o_elements_cells h_a h_a_row o_fault o_place o_start o_end o_next o_length (r1 &&& (3 : Int32)) ((o_next + (1 : Int32)) + r3) r8 r10 o_given_count o_given_row_n o_given_row_c o_elements_count o_elements_marked o_elements_cells_n o_elements_cells_c a_count a_row_n a_row_c)) rfl (fun H locs hW => ?_)
    obtain rfl := Option.some.inj hF
    exact x_vret C0 hW dX0_readElement_106
  · have hF := it_f hF c5
    refine lv_aload_n C0.x C0.b dX0_readElement_54 rfl (lv_at hl 3 rfl) ?_
    refine lv_iconst (v := (3 : Int32)) C0.x C0.b dX0_readElement_55 (by decide) ?_
    refine lv_aload_n C0.x C0.b dX0_readElement_56 rfl (lv_at hl 3 rfl) ?_
    refine x_get C0 hW iw_X0 0 rfl rfl 6 (by decide) (List.mem_cons_of_mem _ wl_80) (v := .int o_next) rfl dX0_readElement_57 ?_
    obtain ⟨r12, e13, hF⟩ := ob hF
    refine go_v C0 hW [0, 1, 2, 3, 4] [5, 6] [2, 3, 4, 5, 6, 0, 1] (va_runV (As := [.int (3 : Int32), .int o_next]) (rest := []) C0.fix (c_X0_fail l g h_o h_o_given h_o_given_row h_o_elements h_o_elements_cells o_end o_next o_length (r1 &&& (3 : Int32)) ((o_next + (1 : Int32)) + r3) o_size o_back o_given_count o_given_row_n o_given_row_c o_elements_count o_elements_marked o_elements_cells_n o_elements_cells_c e13 _) (cwV 2 C0.ts (gw_V wl_357 wl_358 wl_359 wl_28 wl_360) rfl rfl rfl (by decide +kernel) ⟨Nat.le_of_ble_eq_true rfl, Nat.le_of_ble_eq_true rfl⟩) (pcv_of C0 hW [0, 1, 2, 3, 4] rfl (by decide) (q0 := 0) rfl rfl) rfl rfl hl.1 rfl (lv_room (Nat.le_of_ble_eq_true rfl)) dX0_readElement_60 ⟨Nat.le_of_ble_eq_true rfl, Nat.le_of_ble_eq_true rfl⟩) rfl rfl (by decide) (by decide) (ws' := (wF_BlockOpener_Bytes g h_o h_o_given h_o_given_row h_o_elements h_o_elements_cells h_a h_a_row r12.1 r12.2 o_start o_end o_next o_length (r1 &&& (3 : Int32)) ((o_next + (1 : Int32)) + r3) o_size o_back o_given_count o_given_row_n o_given_row_c o_elements_count o_elements_marked o_elements_cells_n o_elements_cells_c a_count a_row_n a_row_c)) rfl (by decide) (fun H locs hW => ?_)
    obtain rfl := Option.some.inj hF
    exact x_vret C0 hW dX0_readElement_63

abbrev rm_X0_checkElement : Room := { frames := 1, cells := 0, slots := 0, locals := 22 }

set_option maxHeartbeats 4000000 in
set_option maxRecDepth 100000 in
theorem w_X0_checkElement_b81 (l : Launch) (g : GX) (h_o h_o_given h_o_given_row h_o_elements h_o_elements_cells : Nat) {K : Nat} {o_start : Int32} {o_end : Int32} {o_next : Int32} {o_length : Int32} {o_sort : Int32} {o_body : Int32} {o_size : Int64} {o_back : Int64} {o_given_count : Int32} {o_given_row_n : Nat} {o_given_row_c : Nat → Int32} {o_elements_count : Int32} {o_elements_marked : Int32} {o_elements_cells_n : Nat} {o_elements_cells_c : Nat → Int32} {o : Int32 × Int32} {wc : va_W} {p : Program} {e : Env} {s : State} {m : MethodId} {args : Array Value} {below : List Frame} {meth : Method} {c : Code} (C0 : bx g p s m meth c args cX0_checkElement 1 none yX0_checkElement wA_X0_checkElement (va_A wc s.heap.size)) :
    ∀ (o_fault : Int32) (o_place : Int32), f_X0_checkElement_b81 K o_start o_end o_next o_length o_sort o_body o_size o_back o_given_count o_fault o_place = some o → ∀ (H : Heap) (locs : List Loc) (ls : Array Slot), ww g (va_A wc s.heap.size) s (wF_BlockOpener g h_o h_o_given h_o_given_row h_o_elements h_o_elements_cells o_fault o_place o_start o_end o_next o_length o_sort o_body o_size o_back o_given_count o_given_row_n o_given_row_c o_elements_count o_elements_marked o_elements_cells_n o_elements_cells_c) H locs → lv_has ls 1 [(0, .ref h_o)] → W p l e rm_X0_checkElement s m args below meth c H locs 0 0 (MQ below (qcV g wc s.heap.size (wF_BlockOpener g h_o h_o_given h_o_given_row h_o_elements h_o_elements_cells o.1 o.2 o_start o_end o_next o_length o_sort o_body o_size o_back o_given_count o_given_row_n o_given_row_c o_elements_count o_elements_marked o_elements_cells_n o_elements_cells_c)) args s 0 0 (va_A wc s.heap.size)) (F0 m 81 ls []) := by
  intro o_fault o_place hF H locs ls hW hl
  unfold f_X0_checkElement_b81 at hF
  refine lv_aload_n C0.x C0.b dX0_checkElement_81 rfl (lv_at hl 0 rfl) ?_
  refine x_get C0 hW iw_X0 0 rfl rfl 10 (by decide) (List.mem_cons_of_mem _ wl_84) (v := .long o_size) rfl dX0_checkElement_82 ?_
  refine lv_aload_n C0.x C0.b dX0_checkElement_85 rfl (lv_at hl 0 rfl) ?_
  refine x_get C0 hW iw_X0 0 rfl rfl 7 (by decide) (List.mem_cons_of_mem _ wl_81) (v := .int o_length) rfl dX0_checkElement_86 ?_
  refine lv_aload_n C0.x C0.b dX0_checkElement_89 rfl (lv_at hl 0 rfl) ?_
  refine x_get C0 hW iw_X0 0 rfl rfl 0 (by decide) (List.mem_cons_of_mem _ wl_73) (v := .ref h_o_given) rfl dX0_checkElement_90 ?_
  refine x_getN C0 hW iw_X1 1 rfl rfl 1 (by decide) (List.mem_of_getElem? (i := 13) rfl) (v := .int o_given_count) rfl dX0_checkElement_93 ?_
  refine lv_isub C0.x C0.b dX0_checkElement_96 ?_
  refine lv_i2l (v := ((o_length - o_given_count).toInt64)) C0.x C0.b dX0_checkElement_97 rfl ?_
  refine W.lcmp C0.x C0.b dX0_checkElement_98 ?_
  refine lv_if_le (tgt := 111) C0.x C0.b dX0_checkElement_99 (by decide) (fun c1 => ?_) (fun c1 => ?_)
  · have hF := it_t hF c1
    obtain rfl := Option.some.inj hF
    exact x_vret C0 hW dX0_checkElement_111
  · have hF := it_f hF c1
    refine lv_aload_n C0.x C0.b dX0_checkElement_102 rfl (lv_at hl 0 rfl) ?_
    refine lv_iconst (v := (5 : Int32)) C0.x C0.b dX0_checkElement_103 (by decide) ?_
    refine lv_aload_n C0.x C0.b dX0_checkElement_104 rfl (lv_at hl 0 rfl) ?_
    refine x_get C0 hW iw_X0 0 rfl rfl 6 (by decide) (List.mem_cons_of_mem _ wl_80) (v := .int o_next) rfl dX0_checkElement_105 ?_
    obtain ⟨r2, e3, hF⟩ := ob hF
    refine go_v C0 hW [0, 1, 2, 3, 4] [] [0, 1, 2, 3, 4] (va_runV (As := [.int (5 : Int32), .int o_next]) (rest := []) C0.fix (c_X0_fail l g h_o h_o_given h_o_given_row h_o_elements h_o_elements_cells o_end o_next o_length o_sort o_body o_size o_back o_given_count o_given_row_n o_given_row_c o_elements_count o_elements_marked o_elements_cells_n o_elements_cells_c e3 _) (cwV 2 C0.ts (gw_V wl_357 wl_358 wl_359 wl_28 wl_360) rfl rfl rfl (by decide +kernel) ⟨Nat.le_of_ble_eq_true rfl, Nat.le_of_ble_eq_true rfl⟩) (pcv_of C0 hW [0, 1, 2, 3, 4] rfl (by decide) (q0 := 0) rfl rfl) rfl rfl hl.1 rfl (lv_room (Nat.le_of_ble_eq_true rfl)) dX0_checkElement_108 ⟨Nat.le_of_ble_eq_true rfl, Nat.le_of_ble_eq_true rfl⟩) rfl rfl (by decide) (by decide) (ws' := (wF_BlockOpener g h_o h_o_given h_o_given_row h_o_elements h_o_elements_cells r2.1 r2.2 o_start o_end o_next o_length o_sort o_body o_size o_back o_given_count o_given_row_n o_given_row_c o_elements_count o_elements_marked o_elements_cells_n o_elements_cells_c)) rfl (by decide) (fun H locs hW => ?_)
    obtain rfl := Option.some.inj hF
    exact x_vret C0 hW dX0_checkElement_111

set_option maxHeartbeats 4000000 in
set_option maxRecDepth 100000 in
theorem w_X0_checkElement_b69 (l : Launch) (g : GX) (h_o h_o_given h_o_given_row h_o_elements h_o_elements_cells : Nat) {K : Nat} {o_start : Int32} {o_end : Int32} {o_next : Int32} {o_length : Int32} {o_sort : Int32} {o_body : Int32} {o_size : Int64} {o_back : Int64} {o_given_count : Int32} {o_given_row_n : Nat} {o_given_row_c : Nat → Int32} {o_elements_count : Int32} {o_elements_marked : Int32} {o_elements_cells_n : Nat} {o_elements_cells_c : Nat → Int32} {o : Int32 × Int32} {wc : va_W} {p : Program} {e : Env} {s : State} {m : MethodId} {args : Array Value} {below : List Frame} {meth : Method} {c : Code} (C0 : bx g p s m meth c args cX0_checkElement 1 none yX0_checkElement wA_X0_checkElement (va_A wc s.heap.size)) :
    ∀ (o_fault : Int32) (o_place : Int32), f_X0_checkElement_b69 K o_start o_end o_next o_length o_sort o_body o_size o_back o_given_count o_fault o_place = some o → ∀ (H : Heap) (locs : List Loc) (ls : Array Slot), ww g (va_A wc s.heap.size) s (wF_BlockOpener g h_o h_o_given h_o_given_row h_o_elements h_o_elements_cells o_fault o_place o_start o_end o_next o_length o_sort o_body o_size o_back o_given_count o_given_row_n o_given_row_c o_elements_count o_elements_marked o_elements_cells_n o_elements_cells_c) H locs → lv_has ls 1 [(0, .ref h_o)] → W p l e rm_X0_checkElement s m args below meth c H locs 0 0 (MQ below (qcV g wc s.heap.size (wF_BlockOpener g h_o h_o_given h_o_given_row h_o_elements h_o_elements_cells o.1 o.2 o_start o_end o_next o_length o_sort o_body o_size o_back o_given_count o_given_row_n o_given_row_c o_elements_count o_elements_marked o_elements_cells_n o_elements_cells_c)) args s 0 0 (va_A wc s.heap.size)) (F0 m 69 ls []) := by
  intro o_fault o_place hF H locs ls hW hl
  unfold f_X0_checkElement_b69 at hF
  refine lv_aload_n C0.x C0.b dX0_checkElement_69 rfl (lv_at hl 0 rfl) ?_
  refine lv_iconst (v := (4 : Int32)) C0.x C0.b dX0_checkElement_70 (by decide) ?_
  refine lv_aload_n C0.x C0.b dX0_checkElement_71 rfl (lv_at hl 0 rfl) ?_
  refine x_get C0 hW iw_X0 0 rfl rfl 6 (by decide) (List.mem_cons_of_mem _ wl_80) (v := .int o_next) rfl dX0_checkElement_72 ?_
  obtain ⟨r1, e2, hF⟩ := ob hF
  refine go_v C0 hW [0, 1, 2, 3, 4] [] [0, 1, 2, 3, 4] (va_runV (As := [.int (4 : Int32), .int o_next]) (rest := []) C0.fix (c_X0_fail l g h_o h_o_given h_o_given_row h_o_elements h_o_elements_cells o_end o_next o_length o_sort o_body o_size o_back o_given_count o_given_row_n o_given_row_c o_elements_count o_elements_marked o_elements_cells_n o_elements_cells_c e2 _) (cwV 2 C0.ts (gw_V wl_357 wl_358 wl_359 wl_28 wl_360) rfl rfl rfl (by decide +kernel) ⟨Nat.le_of_ble_eq_true rfl, Nat.le_of_ble_eq_true rfl⟩) (pcv_of C0 hW [0, 1, 2, 3, 4] rfl (by decide) (q0 := 0) rfl rfl) rfl rfl hl.1 rfl (lv_room (Nat.le_of_ble_eq_true rfl)) dX0_checkElement_75 ⟨Nat.le_of_ble_eq_true rfl, Nat.le_of_ble_eq_true rfl⟩) rfl rfl (by decide) (by decide) (ws' := (wF_BlockOpener g h_o h_o_given h_o_given_row h_o_elements h_o_elements_cells r1.1 r1.2 o_start o_end o_next o_length o_sort o_body o_size o_back o_given_count o_given_row_n o_given_row_c o_elements_count o_elements_marked o_elements_cells_n o_elements_cells_c)) rfl (by decide) (fun H locs hW => ?_)
  refine lv_goto (tgt := 111) C0.x C0.b dX0_checkElement_78 (by decide) ?_
  obtain rfl := Option.some.inj hF
  exact x_vret C0 hW dX0_checkElement_111

set_option maxHeartbeats 4000000 in
set_option maxRecDepth 100000 in
theorem w_X0_checkElement_b37 (l : Launch) (g : GX) (h_o h_o_given h_o_given_row h_o_elements h_o_elements_cells : Nat) {K : Nat} {o_start : Int32} {o_end : Int32} {o_next : Int32} {o_length : Int32} {o_sort : Int32} {o_body : Int32} {o_size : Int64} {o_back : Int64} {o_given_count : Int32} {o_given_row_n : Nat} {o_given_row_c : Nat → Int32} {o_elements_count : Int32} {o_elements_marked : Int32} {o_elements_cells_n : Nat} {o_elements_cells_c : Nat → Int32} {o : Int32 × Int32} {wc : va_W} {p : Program} {e : Env} {s : State} {m : MethodId} {args : Array Value} {below : List Frame} {meth : Method} {c : Code} (C0 : bx g p s m meth c args cX0_checkElement 1 none yX0_checkElement wA_X0_checkElement (va_A wc s.heap.size)) :
    ∀ (o_fault : Int32) (o_place : Int32), f_X0_checkElement_b37 K o_start o_end o_next o_length o_sort o_body o_size o_back o_given_count o_fault o_place = some o → ∀ (H : Heap) (locs : List Loc) (ls : Array Slot), ww g (va_A wc s.heap.size) s (wF_BlockOpener g h_o h_o_given h_o_given_row h_o_elements h_o_elements_cells o_fault o_place o_start o_end o_next o_length o_sort o_body o_size o_back o_given_count o_given_row_n o_given_row_c o_elements_count o_elements_marked o_elements_cells_n o_elements_cells_c) H locs → lv_has ls 1 [(0, .ref h_o)] → W p l e rm_X0_checkElement s m args below meth c H locs 0 0 (MQ below (qcV g wc s.heap.size (wF_BlockOpener g h_o h_o_given h_o_given_row h_o_elements h_o_elements_cells o.1 o.2 o_start o_end o_next o_length o_sort o_body o_size o_back o_given_count o_given_row_n o_given_row_c o_elements_count o_elements_marked o_elements_cells_n o_elements_cells_c)) args s 0 0 (va_A wc s.heap.size)) (F0 m 37 ls []) := by
  intro o_fault o_place hF H locs ls hW hl
  unfold f_X0_checkElement_b37 at hF
  refine lv_aload_n C0.x C0.b dX0_checkElement_37 rfl (lv_at hl 0 rfl) ?_
  refine x_get C0 hW iw_X0 0 rfl rfl 8 (by decide) (List.mem_cons_of_mem _ wl_82) (v := .int o_sort) rfl dX0_checkElement_38 ?_
  refine lv_if_eq (tgt := 81) C0.x C0.b dX0_checkElement_41 (by decide) (fun c1 => ?_) (fun c1 => ?_)
  · have hF := it_t hF c1
    exact w_X0_checkElement_b81 l g h_o h_o_given h_o_given_row h_o_elements h_o_elements_cells C0 o_fault o_place hF _ _ _ hW (lv_sub hl [0] rfl)
  · have hF := it_f hF c1
    refine lv_aload_n C0.x C0.b dX0_checkElement_44 rfl (lv_at hl 0 rfl) ?_
    refine x_get C0 hW iw_X0 0 rfl rfl 11 (by decide) (List.mem_cons_of_mem _ wl_85) (v := .long o_back) rfl dX0_checkElement_45 ?_
    refine lv_lconst (v := (0 : Int64)) C0.x C0.b dX0_checkElement_48 (by decide) ?_
    refine W.lcmp C0.x C0.b dX0_checkElement_49 ?_
    refine lv_if_eq (tgt := 69) C0.x C0.b dX0_checkElement_50 (by decide) (fun c2 => ?_) (fun c2 => ?_)
    · have hF := it_t hF c2
      exact w_X0_checkElement_b69 l g h_o h_o_given h_o_given_row h_o_elements h_o_elements_cells C0 o_fault o_place hF _ _ _ hW (lv_sub hl [0] rfl)
    · have hF := it_f hF c2
      refine lv_aload_n C0.x C0.b dX0_checkElement_53 rfl (lv_at hl 0 rfl) ?_
      refine x_get C0 hW iw_X0 0 rfl rfl 11 (by decide) (List.mem_cons_of_mem _ wl_85) (v := .long o_back) rfl dX0_checkElement_54 ?_
      refine lv_aload_n C0.x C0.b dX0_checkElement_57 rfl (lv_at hl 0 rfl) ?_
      refine x_get C0 hW iw_X0 0 rfl rfl 0 (by decide) (List.mem_cons_of_mem _ wl_73) (v := .ref h_o_given) rfl dX0_checkElement_58 ?_
      refine x_getN C0 hW iw_X1 1 rfl rfl 1 (by decide) (List.mem_of_getElem? (i := 13) rfl) (v := .int o_given_count) rfl dX0_checkElement_61 ?_
      refine lv_i2l (v := (o_given_count.toInt64)) C0.x C0.b dX0_checkElement_64 rfl ?_
      refine W.lcmp C0.x C0.b dX0_checkElement_65 ?_
      refine lv_if_le (tgt := 81) C0.x C0.b dX0_checkElement_66 (by decide) (fun c3 => ?_) (fun c3 => ?_)
      · have hF := it_t hF c3
        exact w_X0_checkElement_b81 l g h_o h_o_given h_o_given_row h_o_elements h_o_elements_cells C0 o_fault o_place hF _ _ _ hW (lv_sub hl [0] rfl)
      · have hF := it_f hF c3
        exact w_X0_checkElement_b69 l g h_o h_o_given h_o_given_row h_o_elements h_o_elements_cells C0 o_fault o_place hF _ _ _ hW (lv_sub hl [0] rfl)

set_option maxHeartbeats 4000000 in
set_option maxRecDepth 100000 in
/-- SnapHouse$BlockOpener.checkElement()V -/
theorem c_X0_checkElement (l : Launch) (g : GX) (h_o h_o_given h_o_given_row h_o_elements h_o_elements_cells : Nat) {K : Nat} (o_given_row_n : Nat) (o_given_row_c : Nat → Int32) (o_elements_count : Int32) (o_elements_marked : Int32) (o_elements_cells_n : Nat) (o_elements_cells_c : Nat → Int32) {o_fault : Int32} {o_place : Int32} {o_start : Int32} {o_end : Int32} {o_next : Int32} {o_length : Int32} {o_sort : Int32} {o_body : Int32} {o_size : Int64} {o_back : Int64} {o_given_count : Int32} {o : Int32 × Int32} (hF : f_X0_checkElement K o_fault o_place o_start o_end o_next o_length o_sort o_body o_size o_back o_given_count = some o) : mcV g l yX0_checkElement wA_X0_checkElement rm_X0_checkElement [.ref h_o] (wF_BlockOpener g h_o h_o_given h_o_given_row h_o_elements h_o_elements_cells o_fault o_place o_start o_end o_next o_length o_sort o_body o_size o_back o_given_count o_given_row_n o_given_row_c o_elements_count o_elements_marked o_elements_cells_n o_elements_cells_c) (wF_BlockOpener g h_o h_o_given h_o_given_row h_o_elements h_o_elements_cells o.1 o.2 o_start o_end o_next o_length o_sort o_body o_size o_back o_given_count o_given_row_n o_given_row_c o_elements_count o_elements_marked o_elements_cells_n o_elements_cells_c) 0 0 := by
  refine x_start (cc := cX0_checkElement) (maxL := 1) (ret := none) (by decide) rfl (Nat.le_of_ble_eq_true rfl) ?_
  intro p e s m below meth c ls C0 hW hl
  have hl : lv_has ls 1 [(0, .ref h_o)] := hl
  unfold f_X0_checkElement at hF
  refine lv_aload_n C0.x C0.b dX0_checkElement_0 rfl (lv_at hl 0 rfl) ?_
  refine x_get C0 hW iw_X0 0 rfl rfl 8 (by decide) (List.mem_cons_of_mem _ wl_82) (v := .int o_sort) rfl dX0_checkElement_1 ?_
  refine lv_if_ne (tgt := 37) C0.x C0.b dX0_checkElement_4 (by decide) (fun c1 => ?_) (fun c1 => ?_)
  · have hF := it_f hF c1
    exact w_X0_checkElement_b37 l g h_o h_o_given h_o_given_row h_o_elements h_o_elements_cells C0 o_fault o_place hF _ _ _ hW (lv_sub hl [0] rfl)
  · have hF := it_t hF c1
    refine lv_aload_n C0.x C0.b dX0_checkElement_7 rfl (lv_at hl 0 rfl) ?_
    refine x_get C0 hW iw_X0 0 rfl rfl 10 (by decide) (List.mem_cons_of_mem _ wl_84) (v := .long o_size) rfl dX0_checkElement_8 ?_
    refine lv_aload_n C0.x C0.b dX0_checkElement_11 rfl (lv_at hl 0 rfl) ?_
    refine x_get C0 hW iw_X0 0 rfl rfl 5 (by decide) (List.mem_cons_of_mem _ wl_79) (v := .int o_end) rfl dX0_checkElement_12 ?_
    refine lv_aload_n C0.x C0.b dX0_checkElement_15 rfl (lv_at hl 0 rfl) ?_
    refine x_get C0 hW iw_X0 0 rfl rfl 9 (by decide) (List.mem_cons_of_mem _ wl_83) (v := .int o_body) rfl dX0_checkElement_16 ?_
    refine lv_isub C0.x C0.b dX0_checkElement_19 ?_
    refine lv_i2l (v := ((o_end - o_body).toInt64)) C0.x C0.b dX0_checkElement_20 rfl ?_
    refine W.lcmp C0.x C0.b dX0_checkElement_21 ?_
    refine lv_if_le (tgt := 37) C0.x C0.b dX0_checkElement_22 (by decide) (fun c2 => ?_) (fun c2 => ?_)
    · have hF := it_t hF c2
      exact w_X0_checkElement_b37 l g h_o h_o_given h_o_given_row h_o_elements h_o_elements_cells C0 o_fault o_place hF _ _ _ hW (lv_sub hl [0] rfl)
    · have hF := it_f hF c2
      refine lv_aload_n C0.x C0.b dX0_checkElement_25 rfl (lv_at hl 0 rfl) ?_
      refine lv_iconst (v := (3 : Int32)) C0.x C0.b dX0_checkElement_26 (by decide) ?_
      refine lv_aload_n C0.x C0.b dX0_checkElement_27 rfl (lv_at hl 0 rfl) ?_
      refine x_get C0 hW iw_X0 0 rfl rfl 6 (by decide) (List.mem_cons_of_mem _ wl_80) (v := .int o_next) rfl dX0_checkElement_28 ?_
      obtain ⟨r3, e4, hF⟩ := ob hF
      refine go_v C0 hW [0, 1, 2, 3, 4] [] [0, 1, 2, 3, 4] (va_runV (As := [.int (3 : Int32), .int o_next]) (rest := []) C0.fix (c_X0_fail l g h_o h_o_given h_o_given_row h_o_elements h_o_elements_cells o_end o_next o_length o_sort o_body o_size o_back o_given_count o_given_row_n o_given_row_c o_elements_count o_elements_marked o_elements_cells_n o_elements_cells_c e4 _) (cwV 2 C0.ts (gw_V wl_357 wl_358 wl_359 wl_28 wl_360) rfl rfl rfl (by decide +kernel) ⟨Nat.le_of_ble_eq_true rfl, Nat.le_of_ble_eq_true rfl⟩) (pcv_of C0 hW [0, 1, 2, 3, 4] rfl (by decide) (q0 := 0) rfl rfl) rfl rfl hl.1 rfl (lv_room (Nat.le_of_ble_eq_true rfl)) dX0_checkElement_31 ⟨Nat.le_of_ble_eq_true rfl, Nat.le_of_ble_eq_true rfl⟩) rfl rfl (by decide) (by decide) (ws' := (wF_BlockOpener g h_o h_o_given h_o_given_row h_o_elements h_o_elements_cells r3.1 r3.2 o_start o_end o_next o_length o_sort o_body o_size o_back o_given_count o_given_row_n o_given_row_c o_elements_count o_elements_marked o_elements_cells_n o_elements_cells_c)) rfl (by decide) (fun H locs hW => ?_)
      refine lv_goto (tgt := 111) C0.x C0.b dX0_checkElement_34 (by decide) ?_
      obtain rfl := Option.some.inj hF
      exact x_vret C0 hW dX0_checkElement_111

abbrev rm_X3_add : Room := { frames := 0, cells := 0, slots := 0, locals := 0 }

set_option maxHeartbeats 4000000 in
set_option maxRecDepth 100000 in
theorem w_X3_add_b68 (l : Launch) (g : GX) (h_o h_o_cells : Nat) {K : Nat} {o_cells_n : Nat} {p1 : Int32} {p2 : Int32} {p3 : Int32} {p4 : Int32} {p5 : Int32} {p6 : Int32} {o : Int32 × Int32 × (Nat → Int32)} {wc : va_W} {p : Program} {e : Env} {s : State} {m : MethodId} {args : Array Value} {below : List Frame} {meth : Method} {c : Code} (C0 : bx g p s m meth c args cX3_add 8 none yX3_add wA_X3_add (va_A wc s.heap.size)) :
    ∀ (o_count : Int32) (o_marked : Int32) (o_cells_c : Nat → Int32), f_X3_add_b68 K o_cells_n p1 p2 p3 p4 p5 p6 o_count o_marked o_cells_c = some o → ∀ (H : Heap) (locs : List Loc) (ls : Array Slot), ww g (va_A wc s.heap.size) s (wF_Rows g h_o h_o_cells o_count o_marked o_cells_n o_cells_c) H locs → lv_has ls 8 [(0, .ref h_o), (6, .int p6)] → W p l e rm_X3_add s m args below meth c H locs 0 0 (MQ below (qcV g wc s.heap.size (wF_Rows g h_o h_o_cells o.1 o.2.1 o_cells_n o.2.2)) args s 0 0 (va_A wc s.heap.size)) (F0 m 68 ls []) := by
  intro o_count o_marked o_cells_c hF H locs ls hW hl
  unfold f_X3_add_b68 at hF
  refine lv_aload_n C0.x C0.b dX3_add_68 rfl (lv_at hl 0 rfl) ?_
  refine lv_dup C0.x C0.b dX3_add_69 rfl ?_
  refine x_get C0 hW iw_X3 0 rfl rfl 1 (by decide) (List.mem_cons_of_mem _ wl_91) (v := .int o_count) rfl dX3_add_70 ?_
  refine lv_iconst (v := (1 : Int32)) C0.x C0.b dX3_add_73 (by decide) ?_
  refine lv_iadd C0.x C0.b dX3_add_74 ?_
  refine x_put C0 hW iw_X3 tyX3 tyX3_ok nmX3 0 rfl rfl 1 (by decide) (List.mem_cons_of_mem _ wl_91) rfl (ty := .int) (v := .int (o_count + (1 : Int32))) (by decide +kernel) rfl rfl (Nat.le_of_ble_eq_true rfl) dX3_add_75 (ws' := (wF_Rows g h_o h_o_cells (o_count + (1 : Int32)) o_marked o_cells_n o_cells_c)) rfl (fun H locs hW => ?_)
  refine lv_iload C0.x C0.b dX3_add_78 (lv_at hl 1 rfl) ?_
  refine lv_if_eq (tgt := 93) C0.x C0.b dX3_add_80 (by decide) (fun c1 => ?_) (fun c1 => ?_)
  · have hF := it_t hF c1
    obtain rfl := Option.some.inj hF
    exact x_vret C0 hW dX3_add_93
  · have hF := it_f hF c1
    refine lv_aload_n C0.x C0.b dX3_add_83 rfl (lv_at hl 0 rfl) ?_
    refine lv_dup C0.x C0.b dX3_add_84 rfl ?_
    refine x_get C0 hW iw_X3 0 rfl rfl 2 (by decide) (List.mem_cons_of_mem _ wl_92) (v := .int o_marked) rfl dX3_add_85 ?_
    refine lv_iconst (v := (1 : Int32)) C0.x C0.b dX3_add_88 (by decide) ?_
    refine lv_iadd C0.x C0.b dX3_add_89 ?_
    refine x_put C0 hW iw_X3 tyX3 tyX3_ok nmX3 0 rfl rfl 2 (by decide) (List.mem_cons_of_mem _ wl_92) rfl (ty := .int) (v := .int (o_marked + (1 : Int32))) (by decide +kernel) rfl rfl (Nat.le_of_ble_eq_true rfl) dX3_add_90 (ws' := (wF_Rows g h_o h_o_cells (o_count + (1 : Int32)) (o_marked + (1 : Int32)) o_cells_n o_cells_c)) rfl (fun H locs hW => ?_)
    obtain rfl := Option.some.inj hF
    exact x_vret C0 hW dX3_add_93

set_option maxHeartbeats 4000000 in
set_option maxRecDepth 100000 in
/-- SnapHouse$Rows.add(IIIIIZ)V -/
theorem c_X3_add (l : Launch) (g : GX) (h_o h_o_cells : Nat) {K : Nat} {o_count : Int32} {o_marked : Int32} {o_cells_n : Nat} {o_cells_c : Nat → Int32} {p1 : Int32} {p2 : Int32} {p3 : Int32} {p4 : Int32} {p5 : Int32} {p6 : Int32} {o : Int32 × Int32 × (Nat → Int32)} (hF : f_X3_add K o_count o_marked o_cells_n o_cells_c p1 p2 p3 p4 p5 p6 = some o) : mcV g l yX3_add wA_X3_add rm_X3_add [.ref h_o, .int p1, .int p2, .int p3, .int p4, .int p5, .int p6] (wF_Rows g h_o h_o_cells o_count o_marked o_cells_n o_cells_c) (wF_Rows g h_o h_o_cells o.1 o.2.1 o_cells_n o.2.2) 0 0 := by
  refine x_start (cc := cX3_add) (maxL := 8) (ret := none) (by decide) rfl (Nat.le_of_ble_eq_true rfl) ?_
  intro p e s m below meth c ls C0 hW hl
  have hl : lv_has ls 8 [(0, .ref h_o), (1, .int p1), (2, .int p2), (3, .int p3), (4, .int p4), (5, .int p5), (6, .int p6)] := hl
  unfold f_X3_add at hF
  refine lv_aload_n C0.x C0.b dX3_add_0 rfl (lv_at hl 0 rfl) ?_
  refine x_get C0 hW iw_X3 0 rfl rfl 1 (by decide) (List.mem_cons_of_mem _ wl_91) (v := .int o_count) rfl dX3_add_1 ?_
  refine lv_sipush (v := (1000 : Int32)) C0.x C0.b dX3_add_4 (by decide) ?_
  refine lv_icmp_ge (tgt := 68) C0.x C0.b dX3_add_7 (by decide) (fun c1 => ?_) (fun c1 => ?_)
  · have hF := it_t hF c1
    exact w_X3_add_b68 l g h_o h_o_cells C0 o_count o_marked o_cells_c hF _ _ _ hW (lv_sub hl [0, 6] rfl)
  · have hF := it_f hF c1
    refine lv_aload_n C0.x C0.b dX3_add_10 rfl (lv_at hl 0 rfl) ?_
    refine x_get C0 hW iw_X3 0 rfl rfl 1 (by decide) (List.mem_cons_of_mem _ wl_91) (v := .int o_count) rfl dX3_add_11 ?_
    refine lv_iconst (v := (5 : Int32)) C0.x C0.b dX3_add_14 (by decide) ?_
    refine lv_imul C0.x C0.b dX3_add_15 ?_
    refine lv_istore (lv' := [(7, .int (o_count * (5 : Int32))), (0, .ref h_o), (1, .int p1), (2, .int p2), (3, .int p3), (4, .int p4), (5, .int p5), (6, .int p6)]) C0.x C0.b dX3_add_16 hl (by decide) rfl (fun ls hl => ?_)
    refine lv_aload_n C0.x C0.b dX3_add_18 rfl (lv_at hl 1 rfl) ?_
    refine x_get C0 hW iw_X3 0 rfl rfl 0 (by decide) (List.mem_cons_of_mem _ wl_90) (v := .ref h_o_cells) rfl dX3_add_19 ?_
    refine lv_iload C0.x C0.b dX3_add_22 (lv_at hl 0 rfl) ?_
    refine lv_iload_n C0.x C0.b dX3_add_24 rfl (lv_at hl 2 rfl) ?_
    obtain ⟨h2, hF⟩ := ck_some hF
    refine x_iast C0 hW 1 0 rfl rfl h2 dX3_add_25 (ws' := (wF_Rows g h_o h_o_cells o_count o_marked o_cells_n (upd o_cells_c (o_count * (5 : Int32)).toNatClampNeg p1))) rfl (fun H locs hW => ?_)
    refine lv_aload_n C0.x C0.b dX3_add_26 rfl (lv_at hl 1 rfl) ?_
    refine x_get C0 hW iw_X3 0 rfl rfl 0 (by decide) (List.mem_cons_of_mem _ wl_90) (v := .ref h_o_cells) rfl dX3_add_27 ?_
    refine lv_iload C0.x C0.b dX3_add_30 (lv_at hl 0 rfl) ?_
    refine lv_iconst (v := (1 : Int32)) C0.x C0.b dX3_add_32 (by decide) ?_
    refine lv_iadd C0.x C0.b dX3_add_33 ?_
    refine lv_iload_n C0.x C0.b dX3_add_34 rfl (lv_at hl 3 rfl) ?_
    obtain ⟨h3, hF⟩ := ck_some hF
    refine x_iast C0 hW 1 0 rfl rfl h3 dX3_add_35 (ws' := (wF_Rows g h_o h_o_cells o_count o_marked o_cells_n (upd (upd o_cells_c (o_count * (5 : Int32)).toNatClampNeg p1) ((o_count * (5 : Int32)) + (1 : Int32)).toNatClampNeg p2))) rfl (fun H locs hW => ?_)
    refine lv_aload_n C0.x C0.b dX3_add_36 rfl (lv_at hl 1 rfl) ?_
    refine x_get C0 hW iw_X3 0 rfl rfl 0 (by decide) (List.mem_cons_of_mem _ wl_90) (v := .ref h_o_cells) rfl dX3_add_37 ?_
    refine lv_iload C0.x C0.b dX3_add_40 (lv_at hl 0 rfl) ?_
    refine lv_iconst (v := (2 : Int32)) C0.x C0.b dX3_add_42 (by decide) ?_
    refine lv_iadd C0.x C0.b dX3_add_43 ?_
    refine lv_iload_n C0.x C0.b dX3_add_44 rfl (lv_at hl 4 rfl) ?_
    obtain ⟨h4, hF⟩ := ck_some hF
    refine x_iast C0 hW 1 0 rfl rfl h4 dX3_add_45 (ws' := (wF_Rows g h_o h_o_cells o_count o_marked o_cells_n (upd (upd (upd o_cells_c (o_count * (5 : Int32)).toNatClampNeg p1) ((o_count * (5 : Int32)) + (1 : Int32)).toNatClampNeg p2) ((o_count * (5 : Int32)) + (2 : Int32)).toNatClampNeg p3))) rfl (fun H locs hW => ?_)
    refine lv_aload_n C0.x C0.b dX3_add_46 rfl (lv_at hl 1 rfl) ?_
    refine x_get C0 hW iw_X3 0 rfl rfl 0 (by decide) (List.mem_cons_of_mem _ wl_90) (v := .ref h_o_cells) rfl dX3_add_47 ?_
    refine lv_iload C0.x C0.b dX3_add_50 (lv_at hl 0 rfl) ?_
    refine lv_iconst (v := (3 : Int32)) C0.x C0.b dX3_add_52 (by decide) ?_
    refine lv_iadd C0.x C0.b dX3_add_53 ?_
    refine lv_iload C0.x C0.b dX3_add_54 (lv_at hl 5 rfl) ?_
    obtain ⟨h5, hF⟩ := ck_some hF
    refine x_iast C0 hW 1 0 rfl rfl h5 dX3_add_56 (ws' := (wF_Rows g h_o h_o_cells o_count o_marked o_cells_n (upd (upd (upd (upd o_cells_c (o_count * (5 : Int32)).toNatClampNeg p1) ((o_count * (5 : Int32)) + (1 : Int32)).toNatClampNeg p2) ((o_count * (5 : Int32)) + (2 : Int32)).toNatClampNeg p3) ((o_count * (5 : Int32)) + (3 : Int32)).toNatClampNeg p4))) rfl (fun H locs hW => ?_)
    refine lv_aload_n C0.x C0.b dX3_add_57 rfl (lv_at hl 1 rfl) ?_
    refine x_get C0 hW iw_X3 0 rfl rfl 0 (by decide) (List.mem_cons_of_mem _ wl_90) (v := .ref h_o_cells) rfl dX3_add_58 ?_
    refine lv_iload C0.x C0.b dX3_add_61 (lv_at hl 0 rfl) ?_
    refine lv_iconst (v := (4 : Int32)) C0.x C0.b dX3_add_63 (by decide) ?_
    refine lv_iadd C0.x C0.b dX3_add_64 ?_
    refine lv_iload C0.x C0.b dX3_add_65 (lv_at hl 6 rfl) ?_
    obtain ⟨h6, hF⟩ := ck_some hF
    refine x_iast C0 hW 1 0 rfl rfl h6 dX3_add_67 (ws' := (wF_Rows g h_o h_o_cells o_count o_marked o_cells_n (upd (upd (upd (upd (upd o_cells_c (o_count * (5 : Int32)).toNatClampNeg p1) ((o_count * (5 : Int32)) + (1 : Int32)).toNatClampNeg p2) ((o_count * (5 : Int32)) + (2 : Int32)).toNatClampNeg p3) ((o_count * (5 : Int32)) + (3 : Int32)).toNatClampNeg p4) ((o_count * (5 : Int32)) + (4 : Int32)).toNatClampNeg p5))) rfl (fun H locs hW => ?_)
    exact w_X3_add_b68 l g h_o h_o_cells C0 o_count o_marked (upd (upd (upd (upd (upd o_cells_c (o_count * (5 : Int32)).toNatClampNeg p1) ((o_count * (5 : Int32)) + (1 : Int32)).toNatClampNeg p2) ((o_count * (5 : Int32)) + (2 : Int32)).toNatClampNeg p3) ((o_count * (5 : Int32)) + (3 : Int32)).toNatClampNeg p4) ((o_count * (5 : Int32)) + (4 : Int32)).toNatClampNeg p5) hF _ _ _ hW (lv_sub hl [1, 7] rfl)

