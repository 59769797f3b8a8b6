abbrev rm_X2_putLiteral : Room := { frames := 2, cells := 0, slots := 0, locals := 45 }

set_option maxHeartbeats 4000000 in
set_option maxRecDepth 100000 in
theorem w_X2_putLiteral_b75 (l : Launch) (g : GX) (h_o h_o_block h_o_block_row h_o_slots h_a h_a_row : Nat) {K : Nat} {o_block_row_n : Nat} {a_count : Int32} {a_row_n : Nat} {a_row_c : Nat → Int32} {o_slotMask : Int32} {o_slots_n : Nat} {o_slots_c : Nat → Int32} {p2 : Int32} {p3 : Int32} {o : Int32 × (Nat → Int32)} {wc : va_W} {p : Program} {e : Env} {s : State} {m : MethodId} {args : Array Value} {below : List Frame} {meth : Method} {c : Code} (C0 : bx g p s m meth c args cX2_putLiteral 6 none yX2_putLiteral wA_X2_putLiteral (va_A wc s.heap.size)) :
    ∀ (o_block_count : Int32) (o_block_row_c : Nat → Int32), f_X2_putLiteral_b75 K o_block_row_n a_count a_row_n a_row_c p2 p3 o_block_count o_block_row_c = some o → ∀ (H : Heap) (locs : List Loc) (ls : Array Slot), ww g (va_A wc s.heap.size) s (wF_Presser_Bytes g h_o h_o_block h_o_block_row h_o_slots h_a h_a_row o_slotMask o_block_count o_block_row_n o_block_row_c o_slots_n o_slots_c a_count a_row_n a_row_c) H locs → lv_has ls 6 [(0, .ref h_o), (1, .ref h_a), (2, .int p2), (3, .int p3)] → W p l e rm_X2_putLiteral s m args below meth c H locs 0 0 (MQ below (qcV g wc s.heap.size (wF_Presser_Bytes g h_o h_o_block h_o_block_row h_o_slots h_a h_a_row o_slotMask o.1 o_block_row_n o.2 o_slots_n o_slots_c a_count a_row_n a_row_c)) args s 0 0 (va_A wc s.heap.size)) (F0 m 75 ls []) := by
  intro o_block_count o_block_row_c hF H locs ls hW hl
  unfold f_X2_putLiteral_b75 at hF
  refine lv_aload_n C0.x C0.b dX2_putLiteral_75 rfl (lv_at hl 0 rfl) ?_
  refine x_get C0 hW iw_X2 0 rfl rfl 0 (by decide) (List.mem_cons_of_mem _ wl_58) (v := .ref h_o_block) rfl dX2_putLiteral_76 ?_
  refine lv_aload_n C0.x C0.b dX2_putLiteral_79 rfl (lv_at hl 1 rfl) ?_
  refine lv_iload_n C0.x C0.b dX2_putLiteral_80 rfl (lv_at hl 2 rfl) ?_
  refine lv_iload_n C0.x C0.b dX2_putLiteral_81 rfl (lv_at hl 3 rfl) ?_
  obtain ⟨r1, e2, hF⟩ := ob hF
  refine go_v C0 hW [1, 2, 4, 5] [0, 3] [0, 2, 3, 1, 4, 5] (va_runV (As := [.ref h_a, .int p2, .int p3]) (rest := []) C0.fix (c_X1_putAll l g h_o_block h_o_block_row h_a h_a_row e2 _) (cwV 3 C0.ts (gw_V wl_285 wl_226 wl_227 wl_15 wl_228) rfl rfl rfl (by decide +kernel) ⟨Nat.le_of_ble_eq_true rfl, Nat.le_of_ble_eq_true rfl⟩) (pcv_of C0 hW [1, 2, 4, 5] rfl (by decide) (q0 := 1) rfl rfl) rfl rfl hl.1 rfl (lv_room (Nat.le_of_ble_eq_true rfl)) dX2_putLiteral_82 ⟨Nat.le_of_ble_eq_true rfl, Nat.le_of_ble_eq_true rfl⟩) rfl rfl (by decide) (by decide) (ws' := (wF_Presser_Bytes g h_o h_o_block h_o_block_row h_o_slots h_a h_a_row o_slotMask r1.1 o_block_row_n r1.2 o_slots_n o_slots_c a_count a_row_n a_row_c)) rfl (by decide) (fun H locs hW => ?_)
  obtain rfl := Option.some.inj hF
  exact x_vret C0 hW dX2_putLiteral_85

set_option maxHeartbeats 4000000 in
set_option maxRecDepth 100000 in
theorem w_X2_putLiteral_b46 (l : Launch) (g : GX) (h_o h_o_block h_o_block_row h_o_slots h_a h_a_row : Nat) {K : Nat} {o_block_row_n : Nat} {a_count : Int32} {a_row_n : Nat} {a_row_c : Nat → Int32} {o_slotMask : Int32} {o_slots_n : Nat} {o_slots_c : Nat → Int32} {p2 : Int32} {p3 : Int32} {o : Int32 × (Nat → Int32)} {wc : va_W} {p : Program} {e : Env} {s : State} {m : MethodId} {args : Array Value} {below : List Frame} {meth : Method} {c : Code} (C0 : bx g p s m meth c args cX2_putLiteral 6 none yX2_putLiteral wA_X2_putLiteral (va_A wc s.heap.size)) :
    ∀ (o_block_count : Int32) (o_block_row_c : Nat → Int32) (x4 : Int32) (t0 : Int32), f_X2_putLiteral_b46 K o_block_row_n a_count a_row_n a_row_c p2 p3 o_block_count o_block_row_c x4 t0 = some o → ∀ (H : Heap) (locs : List Loc) (ls : Array Slot), ww g (va_A wc s.heap.size) s (wF_Presser_Bytes g h_o h_o_block h_o_block_row h_o_slots h_a h_a_row o_slotMask o_block_count o_block_row_n o_block_row_c o_slots_n o_slots_c a_count a_row_n a_row_c) H locs → lv_has ls 6 [(0, .ref h_o), (1, .ref h_a), (2, .int p2), (3, .int p3), (4, .int x4)] → W p l e rm_X2_putLiteral s m args below meth c H locs 0 0 (MQ below (qcV g wc s.heap.size (wF_Presser_Bytes g h_o h_o_block h_o_block_row h_o_slots h_a h_a_row o_slotMask o.1 o_block_row_n o.2 o_slots_n o_slots_c a_count a_row_n a_row_c)) args s 0 0 (va_A wc s.heap.size)) (F0 m 46 ls [.int t0]) := by
  intro o_block_count o_block_row_c x4 t0 hF H locs ls hW hl
  unfold f_X2_putLiteral_b46 at hF
  refine lv_istore (lv' := [(5, .int t0), (0, .ref h_o), (1, .ref h_a), (2, .int p2), (3, .int p3), (4, .int x4)]) C0.x C0.b dX2_putLiteral_46 hl (by decide) rfl (fun ls hl => ?_)
  refine lv_aload_n C0.x C0.b dX2_putLiteral_48 rfl (lv_at hl 1 rfl) ?_
  refine x_get C0 hW iw_X2 0 rfl rfl 0 (by decide) (List.mem_cons_of_mem _ wl_58) (v := .ref h_o_block) rfl dX2_putLiteral_49 ?_
  refine lv_bipush (v := (59 : Int32)) C0.x C0.b dX2_putLiteral_52 (by decide) ?_
  refine lv_iload C0.x C0.b dX2_putLiteral_54 (lv_at hl 0 rfl) ?_
  refine lv_iadd C0.x C0.b dX2_putLiteral_56 ?_
  refine lv_iconst (v := (2 : Int32)) C0.x C0.b dX2_putLiteral_57 (by decide) ?_
  refine lv_ishl C0.x C0.b dX2_putLiteral_58 ?_
  refine lv_iconst (v := (0 : Int32)) C0.x C0.b dX2_putLiteral_59 (by decide) ?_
  refine lv_ior C0.x C0.b dX2_putLiteral_60 ?_
  obtain ⟨r1, e2, hF⟩ := ob hF
  refine go_v C0 hW [1, 2] [0, 3, 4, 5] [0, 4, 5, 1, 2, 3] (va_runV (As := [.int ((((59 : Int32) + t0) <<< ((2 : Int32) &&& 31)) ||| (0 : Int32))]) (rest := []) C0.fix (c_X1_put l g h_o_block h_o_block_row e2 _) (cwV 1 C0.ts (gw_V wl_259 wl_141 wl_142 wl_15 wl_143) rfl rfl rfl (by decide +kernel) ⟨Nat.le_of_ble_eq_true rfl, Nat.le_of_ble_eq_true rfl⟩) (pcv_of C0 hW [1, 2] rfl (by decide) (q0 := 1) rfl rfl) rfl rfl hl.1 rfl (lv_room (Nat.le_of_ble_eq_true rfl)) dX2_putLiteral_61 ⟨Nat.le_of_ble_eq_true rfl, Nat.le_of_ble_eq_true rfl⟩) rfl rfl (by decide) (by decide) (ws' := (wF_Presser_Bytes g h_o h_o_block h_o_block_row h_o_slots h_a h_a_row o_slotMask r1.1 o_block_row_n r1.2 o_slots_n o_slots_c a_count a_row_n a_row_c)) rfl (by decide) (fun H locs hW => ?_)
  refine lv_aload_n C0.x C0.b dX2_putLiteral_64 rfl (lv_at hl 1 rfl) ?_
  refine x_get C0 hW iw_X2 0 rfl rfl 0 (by decide) (List.mem_cons_of_mem _ wl_58) (v := .ref h_o_block) rfl dX2_putLiteral_65 ?_
  refine lv_iload C0.x C0.b dX2_putLiteral_68 (lv_at hl 5 rfl) ?_
  refine lv_iload C0.x C0.b dX2_putLiteral_70 (lv_at hl 0 rfl) ?_
  obtain ⟨r3, e4, hF⟩ := ob hF
  refine go_v C0 hW [1, 2] [0, 3, 4, 5] [0, 4, 5, 1, 2, 3] (va_runV (As := [.int x4, .int t0]) (rest := []) C0.fix (c_X1_putLowestFirst l g h_o_block h_o_block_row e4 _) (cwV 2 C0.ts (gw_V wl_281 wl_282 wl_283 wl_15 wl_284) rfl rfl rfl (by decide +kernel) ⟨Nat.le_of_ble_eq_true rfl, Nat.le_of_ble_eq_true rfl⟩) (pcv_of C0 hW [1, 2] rfl (by decide) (q0 := 1) rfl rfl) rfl rfl hl.1 rfl (lv_room (Nat.le_of_ble_eq_true rfl)) dX2_putLiteral_72 ⟨Nat.le_of_ble_eq_true rfl, Nat.le_of_ble_eq_true rfl⟩) rfl rfl (by decide) (by decide) (ws' := (wF_Presser_Bytes g h_o h_o_block h_o_block_row h_o_slots h_a h_a_row o_slotMask r3.1 o_block_row_n r3.2 o_slots_n o_slots_c a_count a_row_n a_row_c)) rfl (by decide) (fun H locs hW => ?_)
  exact w_X2_putLiteral_b75 l g h_o h_o_block h_o_block_row h_o_slots h_a h_a_row C0 r3.1 r3.2 hF _ _ _ hW (lv_sub hl [1, 2, 3, 4] rfl)

set_option maxHeartbeats 4000000 in
set_option maxRecDepth 100000 in
/-- SnapHouse$Presser.putLiteral(LSnapHouse$Bytes;II)V -/
theorem c_X2_putLiteral (l : Launch) (g : GX) (h_o h_o_block h_o_block_row h_o_slots h_a h_a_row : Nat) {K : Nat} (o_slotMask : Int32) (o_slots_n : Nat) (o_slots_c : Nat → Int32) {o_block_count : Int32} {o_block_row_n : Nat} {o_block_row_c : Nat → Int32} {a_count : Int32} {a_row_n : Nat} {a_row_c : Nat → Int32} {p2 : Int32} {p3 : Int32} {o : Int32 × (Nat → Int32)} (hF : f_X2_putLiteral K o_block_count o_block_row_n o_block_row_c a_count a_row_n a_row_c p2 p3 = some o) : mcV g l yX2_putLiteral wA_X2_putLiteral rm_X2_putLiteral [.ref h_o, .ref h_a, .int p2, .int p3] (wF_Presser_Bytes g h_o h_o_block h_o_block_row h_o_slots h_a h_a_row o_slotMask o_block_count o_block_row_n o_block_row_c o_slots_n o_slots_c a_count a_row_n a_row_c) (wF_Presser_Bytes g h_o h_o_block h_o_block_row h_o_slots h_a h_a_row o_slotMask o.1 o_block_row_n o.2 o_slots_n o_slots_c a_count a_row_n a_row_c) 0 0 := by
  refine x_start (cc := cX2_putLiteral) (maxL := 6) (ret := none) (by decide) rfl (Nat.le_of_ble_eq_true rfl) ?_
  intro p e s m below meth c ls C0 hW hl
  have hl : lv_has ls 6 [(0, .ref h_o), (1, .ref h_a), (2, .int p2), (3, .int p3)] := hl
  unfold f_X2_putLiteral at hF
  refine lv_iload_n C0.x C0.b dX2_putLiteral_0 rfl (lv_at hl 3 rfl) ?_
  refine lv_if_gt (tgt := 5) C0.x C0.b dX2_putLiteral_1 (by decide) (fun c1 => ?_) (fun c1 => ?_)
  · have hF := it_t hF c1
    refine lv_iload_n C0.x C0.b dX2_putLiteral_5 rfl (lv_at hl 3 rfl) ?_
    refine lv_iconst (v := (1 : Int32)) C0.x C0.b dX2_putLiteral_6 (by decide) ?_
    refine lv_isub C0.x C0.b dX2_putLiteral_7 ?_
    refine lv_istore (lv' := [(4, .int (p3 - (1 : Int32))), (0, .ref h_o), (1, .ref h_a), (2, .int p2), (3, .int p3)]) C0.x C0.b dX2_putLiteral_8 hl (by decide) rfl (fun ls hl => ?_)
    refine lv_iload C0.x C0.b dX2_putLiteral_10 (lv_at hl 0 rfl) ?_
    refine lv_bipush (v := (60 : Int32)) C0.x C0.b dX2_putLiteral_12 (by decide) ?_
    refine lv_icmp_ge (tgt := 33) C0.x C0.b dX2_putLiteral_14 (by decide) (fun c2 => ?_) (fun c2 => ?_)
    · have hF := it_t hF c2
      refine lv_iload C0.x C0.b dX2_putLiteral_33 (lv_at hl 0 rfl) ?_
      refine lv_sipush (v := (256 : Int32)) C0.x C0.b dX2_putLiteral_35 (by decide) ?_
      refine lv_icmp_ge (tgt := 45) C0.x C0.b dX2_putLiteral_38 (by decide) (fun c3 => ?_) (fun c3 => ?_)
      · have hF := it_t hF c3
        refine lv_iconst (v := (2 : Int32)) C0.x C0.b dX2_putLiteral_45 (by decide) ?_
        exact w_X2_putLiteral_b46 l g h_o h_o_block h_o_block_row h_o_slots h_a h_a_row C0 o_block_count o_block_row_c (p3 - (1 : Int32)) (2 : Int32) hF _ _ _ hW (lv_sub hl [1, 2, 3, 4, 0] rfl)
      · have hF := it_f hF c3
        refine lv_iconst (v := (1 : Int32)) C0.x C0.b dX2_putLiteral_41 (by decide) ?_
        refine lv_goto (tgt := 46) C0.x C0.b dX2_putLiteral_42 (by decide) ?_
        exact w_X2_putLiteral_b46 l g h_o h_o_block h_o_block_row h_o_slots h_a h_a_row C0 o_block_count o_block_row_c (p3 - (1 : Int32)) (1 : Int32) hF _ _ _ hW (lv_sub hl [1, 2, 3, 4, 0] rfl)
    · have hF := it_f hF c2
      refine lv_aload_n C0.x C0.b dX2_putLiteral_17 rfl (lv_at hl 1 rfl) ?_
      refine x_get C0 hW iw_X2 0 rfl rfl 0 (by decide) (List.mem_cons_of_mem _ wl_58) (v := .ref h_o_block) rfl dX2_putLiteral_18 ?_
      refine lv_iload C0.x C0.b dX2_putLiteral_21 (lv_at hl 0 rfl) ?_
      refine lv_iconst (v := (2 : Int32)) C0.x C0.b dX2_putLiteral_23 (by decide) ?_
      refine lv_ishl C0.x C0.b dX2_putLiteral_24 ?_
      refine lv_iconst (v := (0 : Int32)) C0.x C0.b dX2_putLiteral_25 (by decide) ?_
      refine lv_ior C0.x C0.b dX2_putLiteral_26 ?_
      obtain ⟨r4, e5, hF⟩ := ob hF
      refine go_v C0 hW [1, 2] [0, 3, 4, 5] [0, 4, 5, 1, 2, 3] (va_runV (As := [.int (((p3 - (1 : Int32)) <<< ((2 : Int32) &&& 31)) ||| (0 : Int32))]) (rest := []) C0.fix (c_X1_put l g h_o_block h_o_block_row e5 _) (cwV 1 C0.ts (gw_V wl_259 wl_141 wl_142 wl_15 wl_143) rfl rfl rfl (by decide +kernel) ⟨Nat.le_of_ble_eq_true rfl, Nat.le_of_ble_eq_true rfl⟩) (pcv_of C0 hW [1, 2] rfl (by decide) (q0 := 1) rfl rfl) rfl rfl hl.1 rfl (lv_room (Nat.le_of_ble_eq_true rfl)) dX2_putLiteral_27 ⟨Nat.le_of_ble_eq_true rfl, Nat.le_of_ble_eq_true rfl⟩) rfl rfl (by decide) (by decide) (ws' := (wF_Presser_Bytes g h_o h_o_block h_o_block_row h_o_slots h_a h_a_row o_slotMask r4.1 o_block_row_n r4.2 o_slots_n o_slots_c a_count a_row_n a_row_c)) rfl (by decide) (fun H locs hW => ?_)
      refine lv_goto (tgt := 75) C0.x C0.b dX2_putLiteral_30 (by decide) ?_
      exact w_X2_putLiteral_b75 l g h_o h_o_block h_o_block_row h_o_slots h_a h_a_row C0 r4.1 r4.2 hF _ _ _ hW (lv_sub hl [1, 2, 3, 4] rfl)
  · have hF := it_f hF c1
    obtain rfl := Option.some.inj hF
    exact x_vret C0 hW dX2_putLiteral_4

abbrev rm_X1_fourFrom : Room := { frames := 1, cells := 0, slots := 0, locals := 22 }

set_option maxHeartbeats 4000000 in
set_option maxRecDepth 100000 in
/-- SnapHouse$Bytes.fourFrom(I)I -/
theorem c_X1_fourFrom (l : Launch) (g : GX) (h_o h_o_row : Nat) {K : Nat} {o_count : Int32} {o_row_n : Nat} {o_row_c : Nat → Int32} {p1 : Int32} {o : Int32} (hF : f_X1_fourFrom K o_count o_row_n o_row_c p1 = some o) : mcI g l yX1_fourFrom wA_X1_fourFrom rm_X1_fourFrom [.ref h_o, .int p1] (wF_Bytes g h_o h_o_row o_count o_row_n o_row_c) o (wF_Bytes g h_o h_o_row o_count o_row_n o_row_c) 0 0 := by
  refine x_start (cc := cX1_fourFrom) (maxL := 2) (ret := (some .int)) (by decide) rfl (Nat.le_of_ble_eq_true rfl) ?_
  intro p e s m below meth c ls C0 hW hl
  have hl : lv_has ls 2 [(0, .ref h_o), (1, .int p1)] := hl
  unfold f_X1_fourFrom at hF
  refine lv_aload_n C0.x C0.b dX1_fourFrom_0 rfl (lv_at hl 0 rfl) ?_
  refine lv_iload_n C0.x C0.b dX1_fourFrom_1 rfl (lv_at hl 1 rfl) ?_
  refine lv_iconst (v := (4 : Int32)) C0.x C0.b dX1_fourFrom_2 (by decide) ?_
  obtain ⟨r1, e2, hF⟩ := ob hF
  refine go_i C0 hW [0, 1] [] [0, 1] (va_runV (As := [.int p1, .int (4 : Int32)]) (rest := []) C0.fix (c_X1_has l g h_o h_o_row o_row_n o_row_c e2 _) (cwV 2 C0.ts (gw_V wl_196 wl_189 wl_190 wl_15 wl_191) rfl rfl rfl (by decide +kernel) ⟨Nat.le_of_ble_eq_true rfl, Nat.le_of_ble_eq_true rfl⟩) (pcv_of C0 hW [0, 1] rfl (by decide) (q0 := 0) rfl rfl) rfl rfl hl.1 rfl (lv_room (Nat.le_of_ble_eq_true rfl)) dX1_fourFrom_3 ⟨Nat.le_of_ble_eq_true rfl, Nat.le_of_ble_eq_true rfl⟩) rfl rfl (by decide) (by decide) (ws' := (wF_Bytes g h_o h_o_row o_count o_row_n o_row_c)) rfl (by decide) (fun H locs hW => ?_)
  refine lv_if_ne (tgt := 11) C0.x C0.b dX1_fourFrom_6 (by decide) (fun c3 => ?_) (fun c3 => ?_)
  · have hF := it_f hF c3
    refine lv_aload_n C0.x C0.b dX1_fourFrom_11 rfl (lv_at hl 0 rfl) ?_
    refine x_get C0 hW iw_X1 0 rfl rfl 0 (by decide) (List.mem_cons_of_mem _ wl_53) (v := .ref h_o_row) rfl dX1_fourFrom_12 ?_
    refine lv_iload_n C0.x C0.b dX1_fourFrom_15 rfl (lv_at hl 1 rfl) ?_
    obtain ⟨h4, hF⟩ := ck_some hF
    refine x_iald C0 hW 1 0 rfl rfl h4 dX1_fourFrom_16 ?_
    refine lv_aload_n C0.x C0.b dX1_fourFrom_17 rfl (lv_at hl 0 rfl) ?_
    refine x_get C0 hW iw_X1 0 rfl rfl 0 (by decide) (List.mem_cons_of_mem _ wl_53) (v := .ref h_o_row) rfl dX1_fourFrom_18 ?_
    refine lv_iload_n C0.x C0.b dX1_fourFrom_21 rfl (lv_at hl 1 rfl) ?_
    refine lv_iconst (v := (1 : Int32)) C0.x C0.b dX1_fourFrom_22 (by decide) ?_
    refine lv_iadd C0.x C0.b dX1_fourFrom_23 ?_
    obtain ⟨h5, hF⟩ := ck_some hF
    refine x_iald C0 hW 1 0 rfl rfl h5 dX1_fourFrom_24 ?_
    refine lv_bipush (v := (8 : Int32)) C0.x C0.b dX1_fourFrom_25 (by decide) ?_
    refine lv_ishl C0.x C0.b dX1_fourFrom_27 ?_
    refine lv_ior C0.x C0.b dX1_fourFrom_28 ?_
    refine lv_aload_n C0.x C0.b dX1_fourFrom_29 rfl (lv_at hl 0 rfl) ?_
    refine x_get C0 hW iw_X1 0 rfl rfl 0 (by decide) (List.mem_cons_of_mem _ wl_53) (v := .ref h_o_row) rfl dX1_fourFrom_30 ?_
    refine lv_iload_n C0.x C0.b dX1_fourFrom_33 rfl (lv_at hl 1 rfl) ?_
    refine lv_iconst (v := (2 : Int32)) C0.x C0.b dX1_fourFrom_34 (by decide) ?_
    refine lv_iadd C0.x C0.b dX1_fourFrom_35 ?_
    obtain ⟨h6, hF⟩ := ck_some hF
    refine x_iald C0 hW 1 0 rfl rfl h6 dX1_fourFrom_36 ?_
    refine lv_bipush (v := (16 : Int32)) C0.x C0.b dX1_fourFrom_37 (by decide) ?_
    refine lv_ishl C0.x C0.b dX1_fourFrom_39 ?_
    refine lv_ior C0.x C0.b dX1_fourFrom_40 ?_
    refine lv_aload_n C0.x C0.b dX1_fourFrom_41 rfl (lv_at hl 0 rfl) ?_
    refine x_get C0 hW iw_X1 0 rfl rfl 0 (by decide) (List.mem_cons_of_mem _ wl_53) (v := .ref h_o_row) rfl dX1_fourFrom_42 ?_
    refine lv_iload_n C0.x C0.b dX1_fourFrom_45 rfl (lv_at hl 1 rfl) ?_
    refine lv_iconst (v := (3 : Int32)) C0.x C0.b dX1_fourFrom_46 (by decide) ?_
    refine lv_iadd C0.x C0.b dX1_fourFrom_47 ?_
    obtain ⟨h7, hF⟩ := ck_some hF
    refine x_iald C0 hW 1 0 rfl rfl h7 dX1_fourFrom_48 ?_
    refine lv_bipush (v := (24 : Int32)) C0.x C0.b dX1_fourFrom_49 (by decide) ?_
    refine lv_ishl C0.x C0.b dX1_fourFrom_51 ?_
    refine lv_ior C0.x C0.b dX1_fourFrom_52 ?_
    obtain rfl := Option.some.inj hF
    exact x_iret C0 hW rfl rfl dX1_fourFrom_53
  · have hF := it_t hF c3
    refine lv_iconst (v := (-1 : Int32)) C0.x C0.b dX1_fourFrom_9 (by decide) ?_
    obtain rfl := Option.some.inj hF
    exact x_iret C0 hW rfl rfl dX1_fourFrom_10

abbrev rm_X2_noteAndFind : Room := { frames := 2, cells := 0, slots := 0, locals := 43 }

set_option maxHeartbeats 4000000 in
set_option maxRecDepth 100000 in
theorem w_X2_noteAndFind_b58 (l : Launch) (g : GX) (h_o h_o_block h_o_block_row h_o_slots h_a h_a_row : Nat) {K : Nat} {o_slotMask : Int32} {o_slots_n : Nat} {a_count : Int32} {a_row_n : Nat} {a_row_c : Nat → Int32} {o_block_count : Int32} {o_block_row_n : Nat} {o_block_row_c : Nat → Int32} {p2 : Int32} {o : Int32 × (Nat → Int32)} {wc : va_W} {p : Program} {e : Env} {s : State} {m : MethodId} {args : Array Value} {below : List Frame} {meth : Method} {c : Code} (C0 : bx g p s m meth c args cX2_noteAndFind 7 (some .int) yX2_noteAndFind wA_X2_noteAndFind (va_A wc s.heap.size)) :
    ∀ (o_slots_c : Nat → Int32) (x4 : Int32) (x6 : Int32), f_X2_noteAndFind_b58 K o_slotMask o_slots_n a_count a_row_n a_row_c p2 o_slots_c x4 x6 = some o → ∀ (H : Heap) (locs : List Loc) (ls : Array Slot), ww g (va_A wc s.heap.size) s (wF_Presser_Bytes g h_o h_o_block h_o_block_row h_o_slots h_a h_a_row o_slotMask o_block_count o_block_row_n o_block_row_c o_slots_n o_slots_c a_count a_row_n a_row_c) H locs → lv_has ls 7 [(0, .ref h_o), (2, .int p2), (4, .int x4), (6, .int x6)] → W p l e rm_X2_noteAndFind s m args below meth c H locs 0 0 (MQ below (qcI g wc s.heap.size o.1 (wF_Presser_Bytes g h_o h_o_block h_o_block_row h_o_slots h_a h_a_row o_slotMask o_block_count o_block_row_n o_block_row_c o_slots_n o.2 a_count a_row_n a_row_c)) args s 0 0 (va_A wc s.heap.size)) (F0 m 58 ls []) := by
  intro o_slots_c x4 x6 hF H locs ls hW hl
  unfold f_X2_noteAndFind_b58 at hF
  refine lv_aload_n C0.x C0.b dX2_noteAndFind_58 rfl (lv_at hl 0 rfl) ?_
  refine x_get C0 hW iw_X2 0 rfl rfl 1 (by decide) (List.mem_cons_of_mem _ wl_60) (v := .ref h_o_slots) rfl dX2_noteAndFind_59 ?_
  refine lv_iload C0.x C0.b dX2_noteAndFind_62 (lv_at hl 2 rfl) ?_
  refine lv_iload_n C0.x C0.b dX2_noteAndFind_64 rfl (lv_at hl 1 rfl) ?_
  refine lv_iconst (v := (1 : Int32)) C0.x C0.b dX2_noteAndFind_65 (by decide) ?_
  refine lv_iadd C0.x C0.b dX2_noteAndFind_66 ?_
  obtain ⟨h1, hF⟩ := ck_some hF
  refine x_iast C0 hW 3 0 rfl rfl h1 dX2_noteAndFind_67 (ws' := (wF_Presser_Bytes g h_o h_o_block h_o_block_row h_o_slots h_a h_a_row o_slotMask o_block_count o_block_row_n o_block_row_c o_slots_n (upd o_slots_c x4.toNatClampNeg (p2 + (1 : Int32))) a_count a_row_n a_row_c)) rfl (fun H locs hW => ?_)
  refine lv_iload C0.x C0.b dX2_noteAndFind_68 (lv_at hl 3 rfl) ?_
  obtain rfl := Option.some.inj hF
  exact x_iret C0 hW rfl rfl dX2_noteAndFind_70

set_option maxHeartbeats 4000000 in
set_option maxRecDepth 100000 in
theorem w_X2_noteAndFind_b23 (l : Launch) (g : GX) (h_o h_o_block h_o_block_row h_o_slots h_a h_a_row : Nat) {K : Nat} {o_slotMask : Int32} {o_slots_n : Nat} {a_count : Int32} {a_row_n : Nat} {a_row_c : Nat → Int32} {o_block_count : Int32} {o_block_row_n : Nat} {o_block_row_c : Nat → Int32} {p2 : Int32} {o : Int32 × (Nat → Int32)} {wc : va_W} {p : Program} {e : Env} {s : State} {m : MethodId} {args : Array Value} {below : List Frame} {meth : Method} {c : Code} (C0 : bx g p s m meth c args cX2_noteAndFind 7 (some .int) yX2_noteAndFind wA_X2_noteAndFind (va_A wc s.heap.size)) :
    ∀ (n : Nat) (o_slots_c : Nat → Int32) (x3 : Int32) (x4 : Int32) (x5 : Int32), f_X2_noteAndFind_b23 K o_slotMask o_slots_n a_count a_row_n a_row_c p2 n o_slots_c x3 x4 x5 = some o → ∀ (H : Heap) (locs : List Loc) (ls : Array Slot), ww g (va_A wc s.heap.size) s (wF_Presser_Bytes g h_o h_o_block h_o_block_row h_o_slots h_a h_a_row o_slotMask o_block_count o_block_row_n o_block_row_c o_slots_n o_slots_c a_count a_row_n a_row_c) H locs → lv_has ls 7 [(0, .ref h_o), (1, .ref h_a), (2, .int p2), (3, .int x3), (4, .int x4), (5, .int x5)] → W p l e rm_X2_noteAndFind s m args below meth c H locs 0 0 (MQ below (qcI g wc s.heap.size o.1 (wF_Presser_Bytes g h_o h_o_block h_o_block_row h_o_slots h_a h_a_row o_slotMask o_block_count o_block_row_n o_block_row_c o_slots_n o.2 a_count a_row_n a_row_c)) args s 0 0 (va_A wc s.heap.size)) (F0 m 23 ls []) := by
  intro n
  induction n with
  | zero => intro o_slots_c x3 x4 x5 hF; cases (show (none : Option (Int32 × (Nat → Int32))) = some o from hF)
  | succ n ih =>
    intro o_slots_c x3 x4 x5 hF H locs ls hW hl
    rw [f_X2_noteAndFind_b23] at hF
    refine lv_iload C0.x C0.b dX2_noteAndFind_23 (lv_at hl 5 rfl) ?_
    refine lv_aload_n C0.x C0.b dX2_noteAndFind_25 rfl (lv_at hl 0 rfl) ?_
    refine x_get C0 hW iw_X2 0 rfl rfl 2 (by decide) (List.mem_cons_of_mem _ wl_61) (v := .int o_slotMask) rfl dX2_noteAndFind_26 ?_
    refine lv_icmp_gt (tgt := 88) C0.x C0.b dX2_noteAndFind_29 (by decide) (fun c1 => ?_) (fun c1 => ?_)
    · have hF := it_t hF c1
      refine lv_iconst (v := (-1 : Int32)) C0.x C0.b dX2_noteAndFind_88 (by decide) ?_
      obtain rfl := Option.some.inj hF
      exact x_iret C0 hW rfl rfl dX2_noteAndFind_89
    · have hF := it_f hF c1
      refine lv_aload_n C0.x C0.b dX2_noteAndFind_32 rfl (lv_at hl 0 rfl) ?_
      refine x_get C0 hW iw_X2 0 rfl rfl 1 (by decide) (List.mem_cons_of_mem _ wl_60) (v := .ref h_o_slots) rfl dX2_noteAndFind_33 ?_
      refine lv_iload C0.x C0.b dX2_noteAndFind_36 (lv_at hl 4 rfl) ?_
      obtain ⟨h2, hF⟩ := ck_some hF
      refine x_iald C0 hW 3 0 rfl rfl h2 dX2_noteAndFind_38 ?_
      refine lv_iconst (v := (1 : Int32)) C0.x C0.b dX2_noteAndFind_39 (by decide) ?_
      refine lv_isub C0.x C0.b dX2_noteAndFind_40 ?_
      refine lv_istore (lv' := [(6, .int ((o_slots_c x4.toNatClampNeg) - (1 : Int32))), (0, .ref h_o), (1, .ref h_a), (2, .int p2), (3, .int x3), (4, .int x4), (5, .int x5)]) C0.x C0.b dX2_noteAndFind_41 hl (by decide) rfl (fun ls hl => ?_)
      refine lv_iload C0.x C0.b dX2_noteAndFind_43 (lv_at hl 0 rfl) ?_
      refine lv_if_lt (tgt := 58) C0.x C0.b dX2_noteAndFind_45 (by decide) (fun c3 => ?_) (fun c3 => ?_)
      · have hF := it_t hF c3
        exact w_X2_noteAndFind_b58 l g h_o h_o_block h_o_block_row h_o_slots h_a h_a_row C0 o_slots_c x4 ((o_slots_c x4.toNatClampNeg) - (1 : Int32)) hF _ _ _ hW (lv_sub hl [1, 3, 5, 0] rfl)
      · have hF := it_f hF c3
        refine lv_aload_n C0.x C0.b dX2_noteAndFind_48 rfl (lv_at hl 2 rfl) ?_
        refine lv_iload C0.x C0.b dX2_noteAndFind_49 (lv_at hl 0 rfl) ?_
        obtain ⟨r4, e5, hF⟩ := ob hF
        refine go_i C0 hW [4, 5] [0, 1, 2, 3] [0, 1, 2, 3, 4, 5] (va_runV (As := [.int ((o_slots_c x4.toNatClampNeg) - (1 : Int32))]) (rest := []) C0.fix (c_X1_fourFrom l g h_a h_a_row e5 _) (cwV 1 C0.ts (gw_V wl_269 wl_270 wl_271 wl_15 wl_272) rfl rfl rfl (by decide +kernel) ⟨Nat.le_of_ble_eq_true rfl, Nat.le_of_ble_eq_true rfl⟩) (pcv_of C0 hW [4, 5] rfl (by decide) (q0 := 4) rfl rfl) rfl rfl hl.1 rfl (lv_room (Nat.le_of_ble_eq_true rfl)) dX2_noteAndFind_51 ⟨Nat.le_of_ble_eq_true rfl, Nat.le_of_ble_eq_true rfl⟩) rfl rfl (by decide) (by decide) (ws' := (wF_Presser_Bytes g h_o h_o_block h_o_block_row h_o_slots h_a h_a_row o_slotMask o_block_count o_block_row_n o_block_row_c o_slots_n o_slots_c a_count a_row_n a_row_c)) rfl (by decide) (fun H locs hW => ?_)
        refine lv_iload_n C0.x C0.b dX2_noteAndFind_54 rfl (lv_at hl 4 rfl) ?_
        refine lv_icmp_ne (tgt := 71) C0.x C0.b dX2_noteAndFind_55 (by decide) (fun c6 => ?_) (fun c6 => ?_)
        · have hF := it_f hF c6
          refine lv_iload C0.x C0.b dX2_noteAndFind_71 (lv_at hl 5 rfl) ?_
          refine lv_iconst (v := (1 : Int32)) C0.x C0.b dX2_noteAndFind_73 (by decide) ?_
          refine lv_iadd C0.x C0.b dX2_noteAndFind_74 ?_
          refine lv_aload_n C0.x C0.b dX2_noteAndFind_75 rfl (lv_at hl 1 rfl) ?_
          refine x_get C0 hW iw_X2 0 rfl rfl 2 (by decide) (List.mem_cons_of_mem _ wl_61) (v := .int o_slotMask) rfl dX2_noteAndFind_76 ?_
          refine lv_iand C0.x C0.b dX2_noteAndFind_79 ?_
          refine lv_istore (lv' := [(4, .int ((x4 + (1 : Int32)) &&& o_slotMask)), (6, .int ((o_slots_c x4.toNatClampNeg) - (1 : Int32))), (0, .ref h_o), (1, .ref h_a), (2, .int p2), (3, .int x3), (5, .int x5)]) C0.x C0.b dX2_noteAndFind_80 hl (by decide) rfl (fun ls hl => ?_)
          refine lv_iinc (v := (x5 + (1 : Int32))) (lv' := [(5, .int (x5 + (1 : Int32))), (4, .int ((x4 + (1 : Int32)) &&& o_slotMask)), (6, .int ((o_slots_c x4.toNatClampNeg) - (1 : Int32))), (0, .ref h_o), (1, .ref h_a), (2, .int p2), (3, .int x3)]) C0.x C0.b dX2_noteAndFind_82 hl (k := 6) rfl rfl (by decide) rfl (fun ls hl => ?_)
          refine lv_goto (tgt := 23) C0.x C0.b dX2_noteAndFind_85 (by decide) ?_
          exact ih o_slots_c x3 ((x4 + (1 : Int32)) &&& o_slotMask) (x5 + (1 : Int32)) hF _ _ _ hW (lv_sub hl [3, 4, 5, 6, 1, 0] rfl)
        · have hF := it_t hF c6
          exact w_X2_noteAndFind_b58 l g h_o h_o_block h_o_block_row h_o_slots h_a h_a_row C0 o_slots_c x4 ((o_slots_c x4.toNatClampNeg) - (1 : Int32)) hF _ _ _ hW (lv_sub hl [1, 3, 5, 0] rfl)

set_option maxHeartbeats 4000000 in
set_option maxRecDepth 100000 in
/-- SnapHouse$Presser.noteAndFind(LSnapHouse$Bytes;I)I -/
theorem c_X2_noteAndFind (l : Launch) (g : GX) (h_o h_o_block h_o_block_row h_o_slots h_a h_a_row : Nat) {K : Nat} (o_block_count : Int32) (o_block_row_n : Nat) (o_block_row_c : Nat → Int32) {o_slotMask : Int32} {o_slots_n : Nat} {o_slots_c : Nat → Int32} {a_count : Int32} {a_row_n : Nat} {a_row_c : Nat → Int32} {p2 : Int32} {o : Int32 × (Nat → Int32)} (hF : f_X2_noteAndFind K o_slotMask o_slots_n o_slots_c a_count a_row_n a_row_c p2 = some o) : mcI g l yX2_noteAndFind wA_X2_noteAndFind rm_X2_noteAndFind [.ref h_o, .ref h_a, .int p2] (wF_Presser_Bytes g h_o h_o_block h_o_block_row h_o_slots h_a h_a_row o_slotMask o_block_count o_block_row_n o_block_row_c o_slots_n o_slots_c a_count a_row_n a_row_c) o.1 (wF_Presser_Bytes g h_o h_o_block h_o_block_row h_o_slots h_a h_a_row o_slotMask o_block_count o_block_row_n o_block_row_c o_slots_n o.2 a_count a_row_n a_row_c) 0 0 := by
  refine x_start (cc := cX2_noteAndFind) (maxL := 7) (ret := (some .int)) (by decide) rfl (Nat.le_of_ble_eq_true rfl) ?_
  intro p e s m below meth c ls C0 hW hl
  have hl : lv_has ls 7 [(0, .ref h_o), (1, .ref h_a), (2, .int p2)] := hl
  unfold f_X2_noteAndFind at hF
  refine lv_aload_n C0.x C0.b dX2_noteAndFind_0 rfl (lv_at hl 1 rfl) ?_
  refine lv_iload_n C0.x C0.b dX2_noteAndFind_1 rfl (lv_at hl 2 rfl) ?_
  obtain ⟨r1, e2, hF⟩ := ob hF
  refine go_i C0 hW [4, 5] [0, 1, 2, 3] [0, 1, 2, 3, 4, 5] (va_runV (As := [.int p2]) (rest := []) C0.fix (c_X1_fourFrom l g h_a h_a_row e2 _) (cwV 1 C0.ts (gw_V wl_269 wl_270 wl_271 wl_15 wl_272) rfl rfl rfl (by decide +kernel) ⟨Nat.le_of_ble_eq_true rfl, Nat.le_of_ble_eq_true rfl⟩) (pcv_of C0 hW [4, 5] rfl (by decide) (q0 := 4) rfl rfl) rfl rfl hl.1 rfl (lv_room (Nat.le_of_ble_eq_true rfl)) dX2_noteAndFind_2 ⟨Nat.le_of_ble_eq_true rfl, Nat.le_of_ble_eq_true rfl⟩) rfl rfl (by decide) (by decide) (ws' := (wF_Presser_Bytes g h_o h_o_block h_o_block_row h_o_slots h_a h_a_row o_slotMask o_block_count o_block_row_n o_block_row_c o_slots_n o_slots_c a_count a_row_n a_row_c)) rfl (by decide) (fun H locs hW => ?_)
  refine lv_istore_n (lv' := [(3, .int r1), (0, .ref h_o), (1, .ref h_a), (2, .int p2)]) C0.x C0.b dX2_noteAndFind_5 rfl hl (by decide) rfl (fun ls hl => ?_)
  refine lv_iload_n C0.x C0.b dX2_noteAndFind_6 rfl (lv_at hl 0 rfl) ?_
  refine lv_ldc (v := (-1640531535 : Int32)) C0.x C0.b C0.own (C0.ts _ (List.mem_cons_of_mem _ wl_268)) dX2_noteAndFind_7 ?_
  refine lv_imul C0.x C0.b dX2_noteAndFind_9 ?_
  refine lv_bipush (v := (15 : Int32)) C0.x C0.b dX2_noteAndFind_10 (by decide) ?_
  refine lv_iushr (v := (ushr (r1 * (-1640531535 : Int32)) (15 : Int32))) C0.x C0.b dX2_noteAndFind_12 rfl ?_
  refine lv_aload_n C0.x C0.b dX2_noteAndFind_13 rfl (lv_at hl 1 rfl) ?_
  refine x_get C0 hW iw_X2 0 rfl rfl 2 (by decide) (List.mem_cons_of_mem _ wl_61) (v := .int o_slotMask) rfl dX2_noteAndFind_14 ?_
  refine lv_iand C0.x C0.b dX2_noteAndFind_17 ?_
  refine lv_istore (lv' := [(4, .int ((ushr (r1 * (-1640531535 : Int32)) (15 : Int32)) &&& o_slotMask)), (3, .int r1), (0, .ref h_o), (1, .ref h_a), (2, .int p2)]) C0.x C0.b dX2_noteAndFind_18 hl (by decide) rfl (fun ls hl => ?_)
  refine lv_iconst (v := (0 : Int32)) C0.x C0.b dX2_noteAndFind_20 (by decide) ?_
  refine lv_istore (lv' := [(5, .int (0 : Int32)), (4, .int ((ushr (r1 * (-1640531535 : Int32)) (15 : Int32)) &&& o_slotMask)), (3, .int r1), (0, .ref h_o), (1, .ref h_a), (2, .int p2)]) C0.x C0.b dX2_noteAndFind_21 hl (by decide) rfl (fun ls hl => ?_)
  exact w_X2_noteAndFind_b23 l g h_o h_o_block h_o_block_row h_o_slots h_a h_a_row C0 K o_slots_c r1 ((ushr (r1 * (-1640531535 : Int32)) (15 : Int32)) &&& o_slotMask) (0 : Int32) hF _ _ _ hW (lv_sub hl [3, 4, 5, 2, 1, 0] rfl)

abbrev rm_X2_countAlike : Room := { frames := 1, cells := 0, slots := 0, locals := 21 }

set_option maxHeartbeats 4000000 in
set_option maxRecDepth 100000 in
theorem w_X2_countAlike_b3 (l : Launch) (g : GX) (h_o h_o_row : Nat) {K : Nat} {o_count : Int32} {o_row_n : Nat} {o_row_c : Nat → Int32} {p1 : Int32} {p2 : Int32} {p3 : Int32} {o : Int32} {wc : va_W} {p : Program} {e : Env} {s : State} {m : MethodId} {args : Array Value} {below : List Frame} {meth : Method} {c : Code} (C0 : bx g p s m meth c args cX2_countAlike 5 (some .int) yX2_countAlike wA_X2_countAlike (va_A wc s.heap.size)) :
    ∀ (n : Nat) (x4 : Int32), f_X2_countAlike_b3 K o_count o_row_n o_row_c p1 p2 p3 n x4 = some o → ∀ (H : Heap) (locs : List Loc) (ls : Array Slot), ww g (va_A wc s.heap.size) s (wF_Bytes g h_o h_o_row o_count o_row_n o_row_c) H locs → lv_has ls 5 [(0, .ref h_o), (1, .int p1), (2, .int p2), (3, .int p3), (4, .int x4)] → W p l e rm_X2_countAlike s m args below meth c H locs 0 0 (MQ below (qcI g wc s.heap.size o (wF_Bytes g h_o h_o_row o_count o_row_n o_row_c)) args s 0 0 (va_A wc s.heap.size)) (F0 m 3 ls []) := by
  intro n
  induction n with
  | zero => intro x4 hF; cases (show (none : Option (Int32)) = some o from hF)
  | succ n ih =>
    intro x4 hF H locs ls hW hl
    rw [f_X2_countAlike_b3] at hF
    refine lv_iload_n C0.x C0.b dX2_countAlike_3 rfl (lv_at hl 2 rfl) ?_
    refine lv_iload C0.x C0.b dX2_countAlike_4 (lv_at hl 4 rfl) ?_
    refine lv_iadd C0.x C0.b dX2_countAlike_6 ?_
    refine lv_iload_n C0.x C0.b dX2_countAlike_7 rfl (lv_at hl 3 rfl) ?_
    refine lv_icmp_ge (tgt := 36) C0.x C0.b dX2_countAlike_8 (by decide) (fun c1 => ?_) (fun c1 => ?_)
    · have hF := it_t hF c1
      refine lv_iload C0.x C0.b dX2_countAlike_36 (lv_at hl 4 rfl) ?_
      obtain rfl := Option.some.inj hF
      exact x_iret C0 hW rfl rfl dX2_countAlike_38
    · have hF := it_f hF c1
      refine lv_aload_n C0.x C0.b dX2_countAlike_11 rfl (lv_at hl 0 rfl) ?_
      refine lv_iload_n C0.x C0.b dX2_countAlike_12 rfl (lv_at hl 1 rfl) ?_
      refine lv_iload C0.x C0.b dX2_countAlike_13 (lv_at hl 4 rfl) ?_
      refine lv_iadd C0.x C0.b dX2_countAlike_15 ?_
      obtain ⟨r2, e3, hF⟩ := ob hF
      refine go_i C0 hW [0, 1] [] [0, 1] (va_runV (As := [.int (p1 + x4)]) (rest := []) C0.fix (c_X1_at l g h_o h_o_row e3 _) (cwV 1 C0.ts (gw_V wl_276 wl_206 wl_207 wl_15 wl_208) rfl rfl rfl (by decide +kernel) ⟨Nat.le_of_ble_eq_true rfl, Nat.le_of_ble_eq_true rfl⟩) (pcv_of C0 hW [0, 1] rfl (by decide) (q0 := 0) rfl rfl) rfl rfl hl.1 rfl (lv_room (Nat.le_of_ble_eq_true rfl)) dX2_countAlike_16 ⟨Nat.le_of_ble_eq_true rfl, Nat.le_of_ble_eq_true rfl⟩) rfl rfl (by decide) (by decide) (ws' := (wF_Bytes g h_o h_o_row o_count o_row_n o_row_c)) rfl (by decide) (fun H locs hW => ?_)
      refine lv_aload_n C0.x C0.b dX2_countAlike_19 rfl (lv_at hl 0 rfl) ?_
      refine lv_iload_n C0.x C0.b dX2_countAlike_20 rfl (lv_at hl 2 rfl) ?_
      refine lv_iload C0.x C0.b dX2_countAlike_21 (lv_at hl 4 rfl) ?_
      refine lv_iadd C0.x C0.b dX2_countAlike_23 ?_
      obtain ⟨r4, e5, hF⟩ := ob hF
      refine go_i C0 hW [0, 1] [] [0, 1] (va_runV (As := [.int (p2 + x4)]) (rest := [.int r2]) C0.fix (c_X1_at l g h_o h_o_row e5 _) (cwV 1 C0.ts (gw_V wl_276 wl_206 wl_207 wl_15 wl_208) rfl rfl rfl (by decide +kernel) ⟨Nat.le_of_ble_eq_true rfl, Nat.le_of_ble_eq_true rfl⟩) (pcv_of C0 hW [0, 1] rfl (by decide) (q0 := 0) rfl rfl) rfl rfl hl.1 rfl (lv_room (Nat.le_of_ble_eq_true rfl)) dX2_countAlike_24 ⟨Nat.le_of_ble_eq_true rfl, Nat.le_of_ble_eq_true rfl⟩) rfl rfl (by decide) (by decide) (ws' := (wF_Bytes g h_o h_o_row o_count o_row_n o_row_c)) rfl (by decide) (fun H locs hW => ?_)
      refine lv_icmp_ne (tgt := 36) C0.x C0.b dX2_countAlike_27 (by decide) (fun c6 => ?_) (fun c6 => ?_)
      · have hF := it_f hF c6
        refine lv_iload C0.x C0.b dX2_countAlike_36 (lv_at hl 4 rfl) ?_
        obtain rfl := Option.some.inj hF
        exact x_iret C0 hW rfl rfl dX2_countAlike_38
      · have hF := it_t hF c6
        refine lv_iinc (v := (x4 + (1 : Int32))) (lv' := [(4, .int (x4 + (1 : Int32))), (0, .ref h_o), (1, .int p1), (2, .int p2), (3, .int p3)]) C0.x C0.b dX2_countAlike_30 hl (k := 4) rfl rfl (by decide) rfl (fun ls hl => ?_)
        refine lv_goto (tgt := 3) C0.x C0.b dX2_countAlike_33 (by decide) ?_
        exact ih (x4 + (1 : Int32)) hF _ _ _ hW (lv_sub hl [1, 2, 3, 4, 0] rfl)

set_option maxHeartbeats 4000000 in
set_option maxRecDepth 100000 in
/-- SnapHouse$Presser.countAlike(LSnapHouse$Bytes;III)I -/
theorem c_X2_countAlike (l : Launch) (g : GX) (h_o h_o_row : Nat) {K : Nat} {o_count : Int32} {o_row_n : Nat} {o_row_c : Nat → Int32} {p1 : Int32} {p2 : Int32} {p3 : Int32} {o : Int32} (hF : f_X2_countAlike K o_count o_row_n o_row_c p1 p2 p3 = some o) : mcI g l yX2_countAlike wA_X2_countAlike rm_X2_countAlike [.ref h_o, .int p1, .int p2, .int p3] (wF_Bytes g h_o h_o_row o_count o_row_n o_row_c) o (wF_Bytes g h_o h_o_row o_count o_row_n o_row_c) 0 0 := by
  refine x_start (cc := cX2_countAlike) (maxL := 5) (ret := (some .int)) (by decide) rfl (Nat.le_of_ble_eq_true rfl) ?_
  intro p e s m below meth c ls C0 hW hl
  have hl : lv_has ls 5 [(0, .ref h_o), (1, .int p1), (2, .int p2), (3, .int p3)] := hl
  unfold f_X2_countAlike at hF
  refine lv_iconst (v := (0 : Int32)) C0.x C0.b dX2_countAlike_0 (by decide) ?_
  refine lv_istore (lv' := [(4, .int (0 : Int32)), (0, .ref h_o), (1, .int p1), (2, .int p2), (3, .int p3)]) C0.x C0.b dX2_countAlike_1 hl (by decide) rfl (fun ls hl => ?_)
  exact w_X2_countAlike_b3 l g h_o h_o_row C0 K (0 : Int32) hF _ _ _ hW (lv_sub hl [1, 2, 3, 4, 0] rfl)

abbrev rm_X2_putCopy : Room := { frames := 2, cells := 0, slots := 0, locals := 44 }

set_option maxHeartbeats 4000000 in
set_option maxRecDepth 100000 in
/-- SnapHouse$Presser.putCopy(II)V -/
theorem c_X2_putCopy (l : Launch) (g : GX) (h_o h_o_block h_o_block_row h_o_slots : Nat) {K : Nat} (o_slotMask : Int32) (o_slots_n : Nat) (o_slots_c : Nat → Int32) {o_block_count : Int32} {o_block_row_n : Nat} {o_block_row_c : Nat → Int32} {p1 : Int32} {p2 : Int32} {o : Int32 × (Nat → Int32)} (hF : f_X2_putCopy K o_block_count o_block_row_n o_block_row_c p1 p2 = some o) : mcV g l yX2_putCopy wA_X2_putCopy rm_X2_putCopy [.ref h_o, .int p1, .int p2] (wF_Presser g h_o h_o_block h_o_block_row h_o_slots o_slotMask o_block_count o_block_row_n o_block_row_c o_slots_n o_slots_c) (wF_Presser g h_o h_o_block h_o_block_row h_o_slots o_slotMask o.1 o_block_row_n o.2 o_slots_n o_slots_c) 0 0 := by
  refine x_start (cc := cX2_putCopy) (maxL := 3) (ret := none) (by decide) rfl (Nat.le_of_ble_eq_true rfl) ?_
  intro p e s m below meth c ls C0 hW hl
  have hl : lv_has ls 3 [(0, .ref h_o), (1, .int p1), (2, .int p2)] := hl
  unfold f_X2_putCopy at hF
  refine lv_aload_n C0.x C0.b dX2_putCopy_0 rfl (lv_at hl 0 rfl) ?_
  refine x_get C0 hW iw_X2 0 rfl rfl 0 (by decide) (List.mem_cons_of_mem _ wl_58) (v := .ref h_o_block) rfl dX2_putCopy_1 ?_
  refine lv_iload_n C0.x C0.b dX2_putCopy_4 rfl (lv_at hl 1 rfl) ?_
  refine lv_iconst (v := (1 : Int32)) C0.x C0.b dX2_putCopy_5 (by decide) ?_
  refine lv_isub C0.x C0.b dX2_putCopy_6 ?_
  refine lv_iconst (v := (2 : Int32)) C0.x C0.b dX2_putCopy_7 (by decide) ?_
  refine lv_ishl C0.x C0.b dX2_putCopy_8 ?_
  refine lv_iconst (v := (2 : Int32)) C0.x C0.b dX2_putCopy_9 (by decide) ?_
  refine lv_ior C0.x C0.b dX2_putCopy_10 ?_
  obtain ⟨r1, e2, hF⟩ := ob hF
  refine go_v C0 hW [1, 2] [0, 3] [0, 2, 3, 1] (va_runV (As := [.int (((p1 - (1 : Int32)) <<< ((2 : Int32) &&& 31)) ||| (2 : Int32))]) (rest := []) C0.fix (c_X1_put l g h_o_block h_o_block_row e2 _) (cwV 1 C0.ts (gw_V wl_259 wl_141 wl_142 wl_15 wl_143) rfl rfl rfl (by decide +kernel) ⟨Nat.le_of_ble_eq_true rfl, Nat.le_of_ble_eq_true rfl⟩) (pcv_of C0 hW [1, 2] rfl (by decide) (q0 := 1) rfl rfl) rfl rfl hl.1 rfl (lv_room (Nat.le_of_ble_eq_true rfl)) dX2_putCopy_11 ⟨Nat.le_of_ble_eq_true rfl, Nat.le_of_ble_eq_true rfl⟩) rfl rfl (by decide) (by decide) (ws' := (wF_Presser g h_o h_o_block h_o_block_row h_o_slots o_slotMask r1.1 o_block_row_n r1.2 o_slots_n o_slots_c)) rfl (by decide) (fun H locs hW => ?_)
  refine lv_aload_n C0.x C0.b dX2_putCopy_14 rfl (lv_at hl 0 rfl) ?_
  refine x_get C0 hW iw_X2 0 rfl rfl 0 (by decide) (List.mem_cons_of_mem _ wl_58) (v := .ref h_o_block) rfl dX2_putCopy_15 ?_
  refine lv_iload_n C0.x C0.b dX2_putCopy_18 rfl (lv_at hl 2 rfl) ?_
  refine lv_iconst (v := (2 : Int32)) C0.x C0.b dX2_putCopy_19 (by decide) ?_
  obtain ⟨r3, e4, hF⟩ := ob hF
  refine go_v C0 hW [1, 2] [0, 3] [0, 2, 3, 1] (va_runV (As := [.int p2, .int (2 : Int32)]) (rest := []) C0.fix (c_X1_putLowestFirst l g h_o_block h_o_block_row e4 _) (cwV 2 C0.ts (gw_V wl_281 wl_282 wl_283 wl_15 wl_284) rfl rfl rfl (by decide +kernel) ⟨Nat.le_of_ble_eq_true rfl, Nat.le_of_ble_eq_true rfl⟩) (pcv_of C0 hW [1, 2] rfl (by decide) (q0 := 1) rfl rfl) rfl rfl hl.1 rfl (lv_room (Nat.le_of_ble_eq_true rfl)) dX2_putCopy_20 ⟨Nat.le_of_ble_eq_true rfl, Nat.le_of_ble_eq_true rfl⟩) rfl rfl (by decide) (by decide) (ws' := (wF_Presser g h_o h_o_block h_o_block_row h_o_slots o_slotMask r3.1 o_block_row_n r3.2 o_slots_n o_slots_c)) rfl (by decide) (fun H locs hW => ?_)
  obtain rfl := Option.some.inj hF
  exact x_vret C0 hW dX2_putCopy_23

abbrev rm_X2_putCopies : Room := { frames := 3, cells := 0, slots := 0, locals := 66 }

set_option maxHeartbeats 4000000 in
set_option maxRecDepth 100000 in
theorem w_X2_putCopies_b86 (l : Launch) (g : GX) (h_o h_o_block h_o_block_row h_o_slots : Nat) {K : Nat} {o_block_row_n : Nat} {o_slotMask : Int32} {o_slots_n : Nat} {o_slots_c : Nat → Int32} {p1 : Int32} {p2 : Int32} {o : Int32 × (Nat → Int32)} {wc : va_W} {p : Program} {e : Env} {s : State} {m : MethodId} {args : Array Value} {below : List Frame} {meth : Method} {c : Code} (C0 : bx g p s m meth c args cX2_putCopies 4 none yX2_putCopies wA_X2_putCopies (va_A wc s.heap.size)) :
    ∀ (o_block_count : Int32) (o_block_row_c : Nat → Int32) (x3 : Int32), f_X2_putCopies_b86 K o_block_row_n p1 p2 o_block_count o_block_row_c x3 = some o → ∀ (H : Heap) (locs : List Loc) (ls : Array Slot), ww g (va_A wc s.heap.size) s (wF_Presser g h_o h_o_block h_o_block_row h_o_slots o_slotMask o_block_count o_block_row_n o_block_row_c o_slots_n o_slots_c) H locs → lv_has ls 4 [(0, .ref h_o), (2, .int p2), (3, .int x3)] → W p l e rm_X2_putCopies s m args below meth c H locs 0 0 (MQ below (qcV g wc s.heap.size (wF_Presser g h_o h_o_block h_o_block_row h_o_slots o_slotMask o.1 o_block_row_n o.2 o_slots_n o_slots_c)) args s 0 0 (va_A wc s.heap.size)) (F0 m 86 ls []) := by
  intro o_block_count o_block_row_c x3 hF H locs ls hW hl
  unfold f_X2_putCopies_b86 at hF
  refine lv_aload_n C0.x C0.b dX2_putCopies_86 rfl (lv_at hl 0 rfl) ?_
  refine lv_iload_n C0.x C0.b dX2_putCopies_87 rfl (lv_at hl 2 rfl) ?_
  refine lv_iload_n C0.x C0.b dX2_putCopies_88 rfl (lv_at hl 1 rfl) ?_
  obtain ⟨r1, e2, hF⟩ := ob hF
  refine go_v C0 hW [0, 1, 2, 3] [] [0, 1, 2, 3] (va_runV (As := [.int x3, .int p2]) (rest := []) C0.fix (c_X2_putCopy l g h_o h_o_block h_o_block_row h_o_slots o_slotMask o_slots_n o_slots_c e2 _) (cwV 2 C0.ts (gw_V wl_290 wl_291 wl_292 wl_20 wl_293) rfl rfl rfl (by decide +kernel) ⟨Nat.le_of_ble_eq_true rfl, Nat.le_of_ble_eq_true rfl⟩) (pcv_of C0 hW [0, 1, 2, 3] rfl (by decide) (q0 := 0) rfl rfl) rfl rfl hl.1 rfl (lv_room (Nat.le_of_ble_eq_true rfl)) dX2_putCopies_89 ⟨Nat.le_of_ble_eq_true rfl, Nat.le_of_ble_eq_true rfl⟩) rfl rfl (by decide) (by decide) (ws' := (wF_Presser g h_o h_o_block h_o_block_row h_o_slots o_slotMask r1.1 o_block_row_n r1.2 o_slots_n o_slots_c)) rfl (by decide) (fun H locs hW => ?_)
  obtain rfl := Option.some.inj hF
  exact x_vret C0 hW dX2_putCopies_92

set_option maxHeartbeats 4000000 in
set_option maxRecDepth 100000 in
theorem w_X2_putCopies_b37 (l : Launch) (g : GX) (h_o h_o_block h_o_block_row h_o_slots : Nat) {K : Nat} {o_block_row_n : Nat} {o_slotMask : Int32} {o_slots_n : Nat} {o_slots_c : Nat → Int32} {p1 : Int32} {p2 : Int32} {o : Int32 × (Nat → Int32)} {wc : va_W} {p : Program} {e : Env} {s : State} {m : MethodId} {args : Array Value} {below : List Frame} {meth : Method} {c : Code} (C0 : bx g p s m meth c args cX2_putCopies 4 none yX2_putCopies wA_X2_putCopies (va_A wc s.heap.size)) :
    ∀ (o_block_count : Int32) (o_block_row_c : Nat → Int32) (x3 : Int32), f_X2_putCopies_b37 K o_block_row_n p1 p2 o_block_count o_block_row_c x3 = some o → ∀ (H : Heap) (locs : List Loc) (ls : Array Slot), ww g (va_A wc s.heap.size) s (wF_Presser g h_o h_o_block h_o_block_row h_o_slots o_slotMask o_block_count o_block_row_n o_block_row_c o_slots_n o_slots_c) H locs → lv_has ls 4 [(0, .ref h_o), (2, .int p2), (3, .int x3)] → W p l e rm_X2_putCopies s m args below meth c H locs 0 0 (MQ below (qcV g wc s.heap.size (wF_Presser g h_o h_o_block h_o_block_row h_o_slots o_slotMask o.1 o_block_row_n o.2 o_slots_n o_slots_c)) args s 0 0 (va_A wc s.heap.size)) (F0 m 37 ls []) := by
  intro o_block_count o_block_row_c x3 hF H locs ls hW hl
  unfold f_X2_putCopies_b37 at hF
  refine lv_iload_n C0.x C0.b dX2_putCopies_37 rfl (lv_at hl 2 rfl) ?_
  refine lv_bipush (v := (12 : Int32)) C0.x C0.b dX2_putCopies_38 (by decide) ?_
  refine lv_icmp_ge (tgt := 86) C0.x C0.b dX2_putCopies_40 (by decide) (fun c1 => ?_) (fun c1 => ?_)
  · have hF := it_t hF c1
    exact w_X2_putCopies_b86 l g h_o h_o_block h_o_block_row h_o_slots C0 o_block_count o_block_row_c x3 hF _ _ _ hW (lv_sub hl [0, 1, 2] rfl)
  · have hF := it_f hF c1
    refine lv_iload_n C0.x C0.b dX2_putCopies_43 rfl (lv_at hl 1 rfl) ?_
    refine lv_sipush (v := (2048 : Int32)) C0.x C0.b dX2_putCopies_44 (by decide) ?_
    refine lv_icmp_ge (tgt := 86) C0.x C0.b dX2_putCopies_47 (by decide) (fun c2 => ?_) (fun c2 => ?_)
    · have hF := it_t hF c2
      exact w_X2_putCopies_b86 l g h_o h_o_block h_o_block_row h_o_slots C0 o_block_count o_block_row_c x3 hF _ _ _ hW (lv_sub hl [0, 1, 2] rfl)
    · have hF := it_f hF c2
      refine lv_aload_n C0.x C0.b dX2_putCopies_50 rfl (lv_at hl 0 rfl) ?_
      refine x_get C0 hW iw_X2 0 rfl rfl 0 (by decide) (List.mem_cons_of_mem _ wl_58) (v := .ref h_o_block) rfl dX2_putCopies_51 ?_
      refine lv_iload_n C0.x C0.b dX2_putCopies_54 rfl (lv_at hl 1 rfl) ?_
      refine lv_bipush (v := (8 : Int32)) C0.x C0.b dX2_putCopies_55 (by decide) ?_
      refine lv_ishr C0.x C0.b dX2_putCopies_57 ?_
      refine lv_iconst (v := (5 : Int32)) C0.x C0.b dX2_putCopies_58 (by decide) ?_
      refine lv_ishl C0.x C0.b dX2_putCopies_59 ?_
      refine lv_iload_n C0.x C0.b dX2_putCopies_60 rfl (lv_at hl 2 rfl) ?_
      refine lv_iconst (v := (4 : Int32)) C0.x C0.b dX2_putCopies_61 (by decide) ?_
      refine lv_isub C0.x C0.b dX2_putCopies_62 ?_
      refine lv_iconst (v := (2 : Int32)) C0.x C0.b dX2_putCopies_63 (by decide) ?_
      refine lv_ishl C0.x C0.b dX2_putCopies_64 ?_
      refine lv_ior C0.x C0.b dX2_putCopies_65 ?_
      refine lv_iconst (v := (1 : Int32)) C0.x C0.b dX2_putCopies_66 (by decide) ?_
      refine lv_ior C0.x C0.b dX2_putCopies_67 ?_
      obtain ⟨r3, e4, hF⟩ := ob hF
      refine go_v C0 hW [1, 2] [0, 3] [0, 2, 3, 1] (va_runV (As := [.int ((((p2 >>> ((8 : Int32) &&& 31)) <<< ((5 : Int32) &&& 31)) ||| ((x3 - (4 : Int32)) <<< ((2 : Int32) &&& 31))) ||| (1 : Int32))]) (rest := []) C0.fix (c_X1_put l g h_o_block h_o_block_row e4 _) (cwV 1 C0.ts (gw_V wl_259 wl_141 wl_142 wl_15 wl_143) rfl rfl rfl (by decide +kernel) ⟨Nat.le_of_ble_eq_true rfl, Nat.le_of_ble_eq_true rfl⟩) (pcv_of C0 hW [1, 2] rfl (by decide) (q0 := 1) rfl rfl) rfl rfl hl.1 rfl (lv_room (Nat.le_of_ble_eq_true rfl)) dX2_putCopies_68 ⟨Nat.le_of_ble_eq_true rfl, Nat.le_of_ble_eq_true rfl⟩) rfl rfl (by decide) (by decide) (ws' := (wF_Presser g h_o h_o_block h_o_block_row h_o_slots o_slotMask r3.1 o_block_row_n r3.2 o_slots_n o_slots_c)) rfl (by decide) (fun H locs hW => ?_)
      refine lv_aload_n C0.x C0.b dX2_putCopies_71 rfl (lv_at hl 0 rfl) ?_
      refine x_get C0 hW iw_X2 0 rfl rfl 0 (by decide) (List.mem_cons_of_mem _ wl_58) (v := .ref h_o_block) rfl dX2_putCopies_72 ?_
      refine lv_iload_n C0.x C0.b dX2_putCopies_75 rfl (lv_at hl 1 rfl) ?_
      refine lv_sipush (v := (255 : Int32)) C0.x C0.b dX2_putCopies_76 (by decide) ?_
      refine lv_iand C0.x C0.b dX2_putCopies_79 ?_
      obtain ⟨r5, e6, hF⟩ := ob hF
      refine go_v C0 hW [1, 2] [0, 3] [0, 2, 3, 1] (va_runV (As := [.int (p2 &&& (255 : Int32))]) (rest := []) C0.fix (c_X1_put l g h_o_block h_o_block_row e6 _) (cwV 1 C0.ts (gw_V wl_259 wl_141 wl_142 wl_15 wl_143) rfl rfl rfl (by decide +kernel) ⟨Nat.le_of_ble_eq_true rfl, Nat.le_of_ble_eq_true rfl⟩) (pcv_of C0 hW [1, 2] rfl (by decide) (q0 := 1) rfl rfl) rfl rfl hl.1 rfl (lv_room (Nat.le_of_ble_eq_true rfl)) dX2_putCopies_80 ⟨Nat.le_of_ble_eq_true rfl, Nat.le_of_ble_eq_true rfl⟩) rfl rfl (by decide) (by decide) (ws' := (wF_Presser g h_o h_o_block h_o_block_row h_o_slots o_slotMask r5.1 o_block_row_n r5.2 o_slots_n o_slots_c)) rfl (by decide) (fun H locs hW => ?_)
      refine lv_goto (tgt := 92) C0.x C0.b dX2_putCopies_83 (by decide) ?_
      obtain rfl := Option.some.inj hF
      exact x_vret C0 hW dX2_putCopies_92

set_option maxHeartbeats 4000000 in
set_option maxRecDepth 100000 in
theorem w_X2_putCopies_b2 (l : Launch) (g : GX) (h_o h_o_block h_o_block_row h_o_slots : Nat) {K : Nat} {o_block_row_n : Nat} {o_slotMask : Int32} {o_slots_n : Nat} {o_slots_c : Nat → Int32} {p1 : Int32} {p2 : Int32} {o : Int32 × (Nat → Int32)} {wc : va_W} {p : Program} {e : Env} {s : State} {m : MethodId} {args : Array Value} {below : List Frame} {meth : Method} {c : Code} (C0 : bx g p s m meth c args cX2_putCopies 4 none yX2_putCopies wA_X2_putCopies (va_A wc s.heap.size)) :
    ∀ (n : Nat) (o_block_count : Int32) (o_block_row_c : Nat → Int32) (x3 : Int32), f_X2_putCopies_b2 K o_block_row_n p1 p2 n o_block_count o_block_row_c x3 = some o → ∀ (H : Heap) (locs : List Loc) (ls : Array Slot), ww g (va_A wc s.heap.size) s (wF_Presser g h_o h_o_block h_o_block_row h_o_slots o_slotMask o_block_count o_block_row_n o_block_row_c o_slots_n o_slots_c) H locs → lv_has ls 4 [(0, .ref h_o), (2, .int p2), (3, .int x3)] → W p l e rm_X2_putCopies s m args below meth c H locs 0 0 (MQ below (qcV g wc s.heap.size (wF_Presser g h_o h_o_block h_o_block_row h_o_slots o_slotMask o.1 o_block_row_n o.2 o_slots_n o_slots_c)) args s 0 0 (va_A wc s.heap.size)) (F0 m 2 ls []) := by
  intro n
  induction n with
  | zero => intro o_block_count o_block_row_c x3 hF; cases (show (none : Option (Int32 × (Nat → Int32))) = some o from hF)
  | succ n ih =>
    intro o_block_count o_block_row_c x3 hF H locs ls hW hl
    rw [f_X2_putCopies_b2] at hF
    refine lv_iload_n C0.x C0.b dX2_putCopies_2 rfl (lv_at hl 2 rfl) ?_
    refine lv_bipush (v := (68 : Int32)) C0.x C0.b dX2_putCopies_3 (by decide) ?_
    refine lv_icmp_lt (tgt := 21) C0.x C0.b dX2_putCopies_5 (by decide) (fun c1 => ?_) (fun c1 => ?_)
    · have hF := it_t hF c1
      refine lv_iload_n C0.x C0.b dX2_putCopies_21 rfl (lv_at hl 2 rfl) ?_
      refine lv_bipush (v := (64 : Int32)) C0.x C0.b dX2_putCopies_22 (by decide) ?_
      refine lv_icmp_le (tgt := 37) C0.x C0.b dX2_putCopies_24 (by decide) (fun c2 => ?_) (fun c2 => ?_)
      · have hF := it_t hF c2
        exact w_X2_putCopies_b37 l g h_o h_o_block h_o_block_row h_o_slots C0 o_block_count o_block_row_c x3 hF _ _ _ hW (lv_sub hl [0, 1, 2] rfl)
      · have hF := it_f hF c2
        refine lv_aload_n C0.x C0.b dX2_putCopies_27 rfl (lv_at hl 0 rfl) ?_
        refine lv_bipush (v := (60 : Int32)) C0.x C0.b dX2_putCopies_28 (by decide) ?_
        refine lv_iload_n C0.x C0.b dX2_putCopies_30 rfl (lv_at hl 1 rfl) ?_
        obtain ⟨r3, e4, hF⟩ := ob hF
        refine go_v C0 hW [0, 1, 2, 3] [] [0, 1, 2, 3] (va_runV (As := [.int (60 : Int32), .int p2]) (rest := []) C0.fix (c_X2_putCopy l g h_o h_o_block h_o_block_row h_o_slots o_slotMask o_slots_n o_slots_c e4 _) (cwV 2 C0.ts (gw_V wl_290 wl_291 wl_292 wl_20 wl_293) rfl rfl rfl (by decide +kernel) ⟨Nat.le_of_ble_eq_true rfl, Nat.le_of_ble_eq_true rfl⟩) (pcv_of C0 hW [0, 1, 2, 3] rfl (by decide) (q0 := 0) rfl rfl) rfl rfl hl.1 rfl (lv_room (Nat.le_of_ble_eq_true rfl)) dX2_putCopies_31 ⟨Nat.le_of_ble_eq_true rfl, Nat.le_of_ble_eq_true rfl⟩) rfl rfl (by decide) (by decide) (ws' := (wF_Presser g h_o h_o_block h_o_block_row h_o_slots o_slotMask r3.1 o_block_row_n r3.2 o_slots_n o_slots_c)) rfl (by decide) (fun H locs hW => ?_)
        refine lv_iinc (v := (x3 + (-60 : Int32))) (lv' := [(3, .int (x3 + (-60 : Int32))), (0, .ref h_o), (2, .int p2)]) C0.x C0.b dX2_putCopies_34 hl (k := 2) rfl rfl (by decide) rfl (fun ls hl => ?_)
        exact w_X2_putCopies_b37 l g h_o h_o_block h_o_block_row h_o_slots C0 r3.1 r3.2 (x3 + (-60 : Int32)) hF _ _ _ hW (lv_sub hl [1, 2, 0] rfl)
    · have hF := it_f hF c1
      refine lv_aload_n C0.x C0.b dX2_putCopies_8 rfl (lv_at hl 0 rfl) ?_
      refine lv_bipush (v := (64 : Int32)) C0.x C0.b dX2_putCopies_9 (by decide) ?_
      refine lv_iload_n C0.x C0.b dX2_putCopies_11 rfl (lv_at hl 1 rfl) ?_
      obtain ⟨r5, e6, hF⟩ := ob hF
      refine go_v C0 hW [0, 1, 2, 3] [] [0, 1, 2, 3] (va_runV (As := [.int (64 : Int32), .int p2]) (rest := []) C0.fix (c_X2_putCopy l g h_o h_o_block h_o_block_row h_o_slots o_slotMask o_slots_n o_slots_c e6 _) (cwV 2 C0.ts (gw_V wl_290 wl_291 wl_292 wl_20 wl_293) rfl rfl rfl (by decide +kernel) ⟨Nat.le_of_ble_eq_true rfl, Nat.le_of_ble_eq_true rfl⟩) (pcv_of C0 hW [0, 1, 2, 3] rfl (by decide) (q0 := 0) rfl rfl) rfl rfl hl.1 rfl (lv_room (Nat.le_of_ble_eq_true rfl)) dX2_putCopies_12 ⟨Nat.le_of_ble_eq_true rfl, Nat.le_of_ble_eq_true rfl⟩) rfl rfl (by decide) (by decide) (ws' := (wF_Presser g h_o h_o_block h_o_block_row h_o_slots o_slotMask r5.1 o_block_row_n r5.2 o_slots_n o_slots_c)) rfl (by decide) (fun H locs hW => ?_)
      refine lv_iinc (v := (x3 + (-64 : Int32))) (lv' := [(3, .int (x3 + (-64 : Int32))), (0, .ref h_o), (2, .int p2)]) C0.x C0.b dX2_putCopies_15 hl (k := 2) rfl rfl (by decide) rfl (fun ls hl => ?_)
      refine lv_goto (tgt := 2) C0.x C0.b dX2_putCopies_18 (by decide) ?_
      exact ih r5.1 r5.2 (x3 + (-64 : Int32)) hF _ _ _ hW (lv_sub hl [1, 2, 0] rfl)

set_option maxHeartbeats 4000000 in
set_option maxRecDepth 100000 in
/-- SnapHouse$Presser.putCopies(II)V -/
theorem c_X2_putCopies (l : Launch) (g : GX) (h_o h_o_block h_o_block_row h_o_slots : Nat) {K : Nat} (o_slotMask : Int32) (o_slots_n : Nat) (o_slots_c : Nat → Int32) {o_block_count : Int32} {o_block_row_n : Nat} {o_block_row_c : Nat → Int32} {p1 : Int32} {p2 : Int32} {o : Int32 × (Nat → Int32)} (hF : f_X2_putCopies K o_block_count o_block_row_n o_block_row_c p1 p2 = some o) : mcV g l yX2_putCopies wA_X2_putCopies rm_X2_putCopies [.ref h_o, .int p1, .int p2] (wF_Presser g h_o h_o_block h_o_block_row h_o_slots o_slotMask o_block_count o_block_row_n o_block_row_c o_slots_n o_slots_c) (wF_Presser g h_o h_o_block h_o_block_row h_o_slots o_slotMask o.1 o_block_row_n o.2 o_slots_n o_slots_c) 0 0 := by
  refine x_start (cc := cX2_putCopies) (maxL := 4) (ret := none) (by decide) rfl (Nat.le_of_ble_eq_true rfl) ?_
  intro p e s m below meth c ls C0 hW hl
  have hl : lv_has ls 4 [(0, .ref h_o), (1, .int p1), (2, .int p2)] := hl
  unfold f_X2_putCopies at hF
  refine lv_iload_n C0.x C0.b dX2_putCopies_0 rfl (lv_at hl 1 rfl) ?_
  refine lv_istore_n (lv' := [(3, .int p1), (0, .ref h_o), (1, .int p1), (2, .int p2)]) C0.x C0.b dX2_putCopies_1 rfl hl (by decide) rfl (fun ls hl => ?_)
  exact w_X2_putCopies_b2 l g h_o h_o_block h_o_block_row h_o_slots C0 K o_block_count o_block_row_c p1 hF _ _ _ hW (lv_sub hl [1, 3, 0] rfl)

abbrev rm_X2_pressBlock : Room := { frames := 4, cells := 0, slots := 0, locals := 89 }

set_option maxHeartbeats 4000000 in
set_option maxRecDepth 100000 in
theorem w_X2_pressBlock_b29 (l : Launch) (g : GX) (h_o h_o_block h_o_block_row h_o_slots h_a h_a_row : Nat) {K : Nat} {o_block_row_n : Nat} {o_slots_n : Nat} {a_count : Int32} {a_row_n : Nat} {a_row_c : Nat → Int32} {p2 : Int32} {p3 : Int32} {o : Int32 × Int32 × (Nat → Int32) × (Nat → Int32)} {wc : va_W} {p : Program} {e : Env} {s : State} {m : MethodId} {args : Array Value} {below : List Frame} {meth : Method} {c : Code} (C0 : bx g p s m meth c args cX2_pressBlock 9 none yX2_pressBlock wA_X2_pressBlock (va_A wc s.heap.size)) :
    ∀ (n : Nat) (o_slotMask : Int32) (o_block_count : Int32) (o_block_row_c : Nat → Int32) (o_slots_c : Nat → Int32) (x4 : Int32) (x5 : Int32) (x6 : Int32), f_X2_pressBlock_b29 K o_block_row_n o_slots_n a_count a_row_n a_row_c p2 p3 n o_slotMask o_block_count o_block_row_c o_slots_c x4 x5 x6 = some o → ∀ (H : Heap) (locs : List Loc) (ls : Array Slot), ww g (va_A wc s.heap.size) s (wF_Presser_Bytes g h_o h_o_block h_o_block_row h_o_slots h_a h_a_row o_slotMask o_block_count o_block_row_n o_block_row_c o_slots_n o_slots_c a_count a_row_n a_row_c) H locs → lv_has ls 9 [(0, .ref h_o), (1, .ref h_a), (4, .int x4), (5, .int x5), (6, .int x6)] → W p l e rm_X2_pressBlock s m args below meth c H locs 0 0 (MQ below (qcV g wc s.heap.size (wF_Presser_Bytes g h_o h_o_block h_o_block_row h_o_slots h_a h_a_row o.1 o.2.1 o_block_row_n o.2.2.1 o_slots_n o.2.2.2 a_count a_row_n a_row_c)) args s 0 0 (va_A wc s.heap.size)) (F0 m 29 ls []) := by
  intro n
  induction n with
  | zero => intro o_slotMask o_block_count o_block_row_c o_slots_c x4 x5 x6 hF; cases (show (none : Option (Int32 × Int32 × (Nat → Int32) × (Nat → Int32))) = some o from hF)
  | succ n ih =>
    intro o_slotMask o_block_count o_block_row_c o_slots_c x4 x5 x6 hF H locs ls hW hl
    rw [f_X2_pressBlock_b29] at hF
    refine lv_iload C0.x C0.b dX2_pressBlock_29 (lv_at hl 4 rfl) ?_
    refine lv_iconst (v := (4 : Int32)) C0.x C0.b dX2_pressBlock_31 (by decide) ?_
    refine lv_iadd C0.x C0.b dX2_pressBlock_32 ?_
    refine lv_iload C0.x C0.b dX2_pressBlock_33 (lv_at hl 2 rfl) ?_
    refine lv_icmp_gt (tgt := 108) C0.x C0.b dX2_pressBlock_35 (by decide) (fun c1 => ?_) (fun c1 => ?_)
    · have hF := it_t hF c1
      refine lv_aload_n C0.x C0.b dX2_pressBlock_108 rfl (lv_at hl 0 rfl) ?_
      refine lv_aload_n C0.x C0.b dX2_pressBlock_109 rfl (lv_at hl 1 rfl) ?_
      refine lv_iload C0.x C0.b dX2_pressBlock_110 (lv_at hl 3 rfl) ?_
      refine lv_iload C0.x C0.b dX2_pressBlock_112 (lv_at hl 2 rfl) ?_
      refine lv_iload C0.x C0.b dX2_pressBlock_114 (lv_at hl 3 rfl) ?_
      refine lv_isub C0.x C0.b dX2_pressBlock_116 ?_
      obtain ⟨r2, e3, hF⟩ := ob hF
      refine go_v C0 hW [0, 1, 2, 3, 4, 5] [] [0, 1, 2, 3, 4, 5] (va_runV (As := [.ref h_a, .int x5, .int (x4 - x5)]) (rest := []) C0.fix (c_X2_putLiteral l g h_o h_o_block h_o_block_row h_o_slots h_a h_a_row o_slotMask o_slots_n o_slots_c e3 _) (cwV 3 C0.ts (gw_V wl_277 wl_278 wl_279 wl_20 wl_280) rfl rfl rfl (by decide +kernel) ⟨Nat.le_of_ble_eq_true rfl, Nat.le_of_ble_eq_true rfl⟩) (pcv_of C0 hW [0, 1, 2, 3, 4, 5] rfl (by decide) (q0 := 0) rfl rfl) rfl rfl hl.1 rfl (lv_room (Nat.le_of_ble_eq_true rfl)) dX2_pressBlock_117 ⟨Nat.le_of_ble_eq_true rfl, Nat.le_of_ble_eq_true rfl⟩) rfl rfl (by decide) (by decide) (ws' := (wF_Presser_Bytes g h_o h_o_block h_o_block_row h_o_slots h_a h_a_row o_slotMask r2.1 o_block_row_n r2.2 o_slots_n o_slots_c a_count a_row_n a_row_c)) rfl (by decide) (fun H locs hW => ?_)
      obtain rfl := Option.some.inj hF
      exact x_vret C0 hW dX2_pressBlock_120
    · have hF := it_f hF c1
      refine lv_aload_n C0.x C0.b dX2_pressBlock_38 rfl (lv_at hl 0 rfl) ?_
      refine lv_aload_n C0.x C0.b dX2_pressBlock_39 rfl (lv_at hl 1 rfl) ?_
      refine lv_iload C0.x C0.b dX2_pressBlock_40 (lv_at hl 4 rfl) ?_
      obtain ⟨r4, e5, hF⟩ := ob hF
      refine go_i C0 hW [0, 1, 2, 3, 4, 5] [] [0, 1, 2, 3, 4, 5] (va_runV (As := [.ref h_a, .int x6]) (rest := []) C0.fix (c_X2_noteAndFind l g h_o h_o_block h_o_block_row h_o_slots h_a h_a_row o_block_count o_block_row_n o_block_row_c e5 _) (cwV 2 C0.ts (gw_V wl_264 wl_265 wl_266 wl_20 wl_267) rfl rfl rfl (by decide +kernel) ⟨Nat.le_of_ble_eq_true rfl, Nat.le_of_ble_eq_true rfl⟩) (pcv_of C0 hW [0, 1, 2, 3, 4, 5] rfl (by decide) (q0 := 0) rfl rfl) rfl rfl hl.1 rfl (lv_room (Nat.le_of_ble_eq_true rfl)) dX2_pressBlock_42 ⟨Nat.le_of_ble_eq_true rfl, Nat.le_of_ble_eq_true rfl⟩) rfl rfl (by decide) (by decide) (ws' := (wF_Presser_Bytes g h_o h_o_block h_o_block_row h_o_slots h_a h_a_row o_slotMask o_block_count o_block_row_n o_block_row_c o_slots_n r4.2 a_count a_row_n a_row_c)) rfl (by decide) (fun H locs hW => ?_)
      refine lv_istore (lv' := [(7, .int r4.1), (0, .ref h_o), (1, .ref h_a), (4, .int x4), (5, .int x5), (6, .int x6)]) C0.x C0.b dX2_pressBlock_45 hl (by decide) rfl (fun ls hl => ?_)
      refine lv_iload C0.x C0.b dX2_pressBlock_47 (lv_at hl 0 rfl) ?_
      refine lv_iconst (v := (-1 : Int32)) C0.x C0.b dX2_pressBlock_49 (by decide) ?_
      refine lv_icmp_eq (tgt := 102) C0.x C0.b dX2_pressBlock_50 (by decide) (fun c6 => ?_) (fun c6 => ?_)
      · have hF := it_t hF c6
        refine lv_iinc (v := (x6 + (1 : Int32))) (lv' := [(6, .int (x6 + (1 : Int32))), (7, .int r4.1), (0, .ref h_o), (1, .ref h_a), (4, .int x4), (5, .int x5)]) C0.x C0.b dX2_pressBlock_102 hl (k := 5) rfl rfl (by decide) rfl (fun ls hl => ?_)
        refine lv_goto (tgt := 29) C0.x C0.b dX2_pressBlock_105 (by decide) ?_
        exact ih o_slotMask o_block_count o_block_row_c r4.2 x4 x5 (x6 + (1 : Int32)) hF _ _ _ hW (lv_sub hl [2, 3, 4, 5, 0] rfl)
      · have hF := it_f hF c6
        refine lv_iload C0.x C0.b dX2_pressBlock_53 (lv_at hl 5 rfl) ?_
        refine lv_iload C0.x C0.b dX2_pressBlock_55 (lv_at hl 4 rfl) ?_
        refine lv_icmp_lt (tgt := 102) C0.x C0.b dX2_pressBlock_57 (by decide) (fun c7 => ?_) (fun c7 => ?_)
        · have hF := it_t hF c7
          refine lv_iinc (v := (x6 + (1 : Int32))) (lv' := [(6, .int (x6 + (1 : Int32))), (7, .int r4.1), (0, .ref h_o), (1, .ref h_a), (4, .int x4), (5, .int x5)]) C0.x C0.b dX2_pressBlock_102 hl (k := 5) rfl rfl (by decide) rfl (fun ls hl => ?_)
          refine lv_goto (tgt := 29) C0.x C0.b dX2_pressBlock_105 (by decide) ?_
          exact ih o_slotMask o_block_count o_block_row_c r4.2 x4 x5 (x6 + (1 : Int32)) hF _ _ _ hW (lv_sub hl [2, 3, 4, 5, 0] rfl)
        · have hF := it_f hF c7
          refine lv_aload_n C0.x C0.b dX2_pressBlock_60 rfl (lv_at hl 2 rfl) ?_
          refine lv_iload C0.x C0.b dX2_pressBlock_61 (lv_at hl 0 rfl) ?_
          refine lv_iload C0.x C0.b dX2_pressBlock_63 (lv_at hl 5 rfl) ?_
          refine lv_iload C0.x C0.b dX2_pressBlock_65 (lv_at hl 3 rfl) ?_
          obtain ⟨r8, e9, hF⟩ := ob hF
          refine go_i C0 hW [4, 5] [0, 1, 2, 3] [0, 1, 2, 3, 4, 5] (va_runS (As := [.ref h_a, .int r4.1, .int x6, .int x4]) (rest := []) C0.fix (c_X2_countAlike l g h_a h_a_row e9 _) (va_cwS 4 C0.ts (gw_S wl_273 wl_274 wl_20 wl_275) rfl rfl rfl (by decide +kernel) ⟨Nat.le_of_ble_eq_true rfl, Nat.le_of_ble_eq_true rfl⟩) (pcc_of C0 hW [4, 5] rfl (by decide)) rfl rfl hl.1 rfl (lv_room (Nat.le_of_ble_eq_true rfl)) dX2_pressBlock_67 ⟨Nat.le_of_ble_eq_true rfl, Nat.le_of_ble_eq_true rfl⟩) rfl rfl (by decide) (by decide) (ws' := (wF_Presser_Bytes g h_o h_o_block h_o_block_row h_o_slots h_a h_a_row o_slotMask o_block_count o_block_row_n o_block_row_c o_slots_n r4.2 a_count a_row_n a_row_c)) rfl (by decide) (fun H locs hW => ?_)
          refine lv_istore (lv' := [(8, .int r8), (7, .int r4.1), (0, .ref h_o), (1, .ref h_a), (4, .int x4), (5, .int x5), (6, .int x6)]) C0.x C0.b dX2_pressBlock_70 hl (by decide) rfl (fun ls hl => ?_)
          refine lv_aload_n C0.x C0.b dX2_pressBlock_72 rfl (lv_at hl 2 rfl) ?_
          refine lv_aload_n C0.x C0.b dX2_pressBlock_73 rfl (lv_at hl 3 rfl) ?_
          refine lv_iload C0.x C0.b dX2_pressBlock_74 (lv_at hl 5 rfl) ?_
          refine lv_iload C0.x C0.b dX2_pressBlock_76 (lv_at hl 6 rfl) ?_
          refine lv_iload C0.x C0.b dX2_pressBlock_78 (lv_at hl 5 rfl) ?_
          refine lv_isub C0.x C0.b dX2_pressBlock_80 ?_
          obtain ⟨r10, e11, hF⟩ := ob hF
          refine go_v C0 hW [0, 1, 2, 3, 4, 5] [] [0, 1, 2, 3, 4, 5] (va_runV (As := [.ref h_a, .int x5, .int (x6 - x5)]) (rest := []) C0.fix (c_X2_putLiteral l g h_o h_o_block h_o_block_row h_o_slots h_a h_a_row o_slotMask o_slots_n r4.2 e11 _) (cwV 3 C0.ts (gw_V wl_277 wl_278 wl_279 wl_20 wl_280) rfl rfl rfl (by decide +kernel) ⟨Nat.le_of_ble_eq_true rfl, Nat.le_of_ble_eq_true rfl⟩) (pcv_of C0 hW [0, 1, 2, 3, 4, 5] rfl (by decide) (q0 := 0) rfl rfl) rfl rfl hl.1 rfl (lv_room (Nat.le_of_ble_eq_true rfl)) dX2_pressBlock_81 ⟨Nat.le_of_ble_eq_true rfl, Nat.le_of_ble_eq_true rfl⟩) rfl rfl (by decide) (by decide) (ws' := (wF_Presser_Bytes g h_o h_o_block h_o_block_row h_o_slots h_a h_a_row o_slotMask r10.1 o_block_row_n r10.2 o_slots_n r4.2 a_count a_row_n a_row_c)) rfl (by decide) (fun H locs hW => ?_)
          refine lv_aload_n C0.x C0.b dX2_pressBlock_84 rfl (lv_at hl 2 rfl) ?_
          refine lv_iload C0.x C0.b dX2_pressBlock_85 (lv_at hl 0 rfl) ?_
          refine lv_iload C0.x C0.b dX2_pressBlock_87 (lv_at hl 6 rfl) ?_
          refine lv_iload C0.x C0.b dX2_pressBlock_89 (lv_at hl 1 rfl) ?_
          refine lv_isub C0.x C0.b dX2_pressBlock_91 ?_
          obtain ⟨r12, e13, hF⟩ := ob hF
          refine go_v C0 hW [0, 1, 2, 3] [4, 5] [2, 3, 4, 5, 0, 1] (va_runV (As := [.int r8, .int (x6 - r4.1)]) (rest := []) C0.fix (c_X2_putCopies l g h_o h_o_block h_o_block_row h_o_slots o_slotMask o_slots_n r4.2 e13 _) (cwV 2 C0.ts (gw_V wl_286 wl_287 wl_288 wl_20 wl_289) rfl rfl rfl (by decide +kernel) ⟨Nat.le_of_ble_eq_true rfl, Nat.le_of_ble_eq_true rfl⟩) (pcv_of C0 hW [0, 1, 2, 3] rfl (by decide) (q0 := 0) rfl rfl) rfl rfl hl.1 rfl (lv_room (Nat.le_of_ble_eq_true rfl)) dX2_pressBlock_92 ⟨Nat.le_of_ble_eq_true rfl, Nat.le_of_ble_eq_true rfl⟩) rfl rfl (by decide) (by decide) (ws' := (wF_Presser_Bytes g h_o h_o_block h_o_block_row h_o_slots h_a h_a_row o_slotMask r12.1 o_block_row_n r12.2 o_slots_n r4.2 a_count a_row_n a_row_c)) rfl (by decide) (fun H locs hW => ?_)
          refine lv_iload C0.x C0.b dX2_pressBlock_95 (lv_at hl 6 rfl) ?_
          refine lv_iload C0.x C0.b dX2_pressBlock_97 (lv_at hl 0 rfl) ?_
          refine lv_iadd C0.x C0.b dX2_pressBlock_99 ?_
          refine lv_istore (lv' := [(5, .int (x6 + r8)), (8, .int r8), (7, .int r4.1), (0, .ref h_o), (1, .ref h_a), (4, .int x4), (6, .int x6)]) C0.x C0.b dX2_pressBlock_100 hl (by decide) rfl (fun ls hl => ?_)
          refine lv_iinc (v := (x6 + (1 : Int32))) (lv' := [(6, .int (x6 + (1 : Int32))), (5, .int (x6 + r8)), (8, .int r8), (7, .int r4.1), (0, .ref h_o), (1, .ref h_a), (4, .int x4)]) C0.x C0.b dX2_pressBlock_102 hl (k := 6) rfl rfl (by decide) rfl (fun ls hl => ?_)
          refine lv_goto (tgt := 29) C0.x C0.b dX2_pressBlock_105 (by decide) ?_
          exact ih o_slotMask r12.1 r12.2 r4.2 x4 (x6 + r8) (x6 + (1 : Int32)) hF _ _ _ hW (lv_sub hl [4, 5, 6, 1, 0] rfl)

set_option maxHeartbeats 4000000 in
set_option maxRecDepth 100000 in
/-- SnapHouse$Presser.pressBlock(LSnapHouse$Bytes;II)V -/
theorem c_X2_pressBlock (l : Launch) (g : GX) (h_o h_o_block h_o_block_row h_o_slots h_a h_a_row : Nat) {K : Nat} {o_slotMask : Int32} {o_block_count : Int32} {o_block_row_n : Nat} {o_block_row_c : Nat → Int32} {o_slots_n : Nat} {o_slots_c : Nat → Int32} {a_count : Int32} {a_row_n : Nat} {a_row_c : Nat → Int32} {p2 : Int32} {p3 : Int32} {o : Int32 × Int32 × (Nat → Int32) × (Nat → Int32)} (hF : f_X2_pressBlock K o_slotMask o_block_count o_block_row_n o_block_row_c o_slots_n o_slots_c a_count a_row_n a_row_c p2 p3 = some o) : mcV g l yX2_pressBlock wA_X2_pressBlock rm_X2_pressBlock [.ref h_o, .ref h_a, .int p2, .int p3] (wF_Presser_Bytes g h_o h_o_block h_o_block_row h_o_slots h_a h_a_row o_slotMask o_block_count o_block_row_n o_block_row_c o_slots_n o_slots_c a_count a_row_n a_row_c) (wF_Presser_Bytes g h_o h_o_block h_o_block_row h_o_slots h_a h_a_row o.1 o.2.1 o_block_row_n o.2.2.1 o_slots_n o.2.2.2 a_count a_row_n a_row_c) 0 0 := by
  refine x_start (cc := cX2_pressBlock) (maxL := 9) (ret := none) (by decide) rfl (Nat.le_of_ble_eq_true rfl) ?_
  intro p e s m below meth c ls C0 hW hl
  have hl : lv_has ls 9 [(0, .ref h_o), (1, .ref h_a), (2, .int p2), (3, .int p3)] := hl
  unfold f_X2_pressBlock at hF
  refine lv_aload_n C0.x C0.b dX2_pressBlock_0 rfl (lv_at hl 0 rfl) ?_
  refine x_get C0 hW iw_X2 0 rfl rfl 0 (by decide) (List.mem_cons_of_mem _ wl_58) (v := .ref h_o_block) rfl dX2_pressBlock_1 ?_
  refine lv_iconst (v := (0 : Int32)) C0.x C0.b dX2_pressBlock_4 (by decide) ?_
  obtain ⟨r1, e2, hF⟩ := ob hF
  refine go_v C0 hW [1, 2] [0, 3, 4, 5] [0, 4, 5, 1, 2, 3] (va_runV (As := [.int (0 : Int32)]) (rest := []) C0.fix (c_X1_shorten l g h_o_block h_o_block_row o_block_row_n o_block_row_c e2 _) (cwV 1 C0.ts (gw_V wl_254 wl_193 wl_194 wl_15 wl_195) rfl rfl rfl (by decide +kernel) ⟨Nat.le_of_ble_eq_true rfl, Nat.le_of_ble_eq_true rfl⟩) (pcv_of C0 hW [1, 2] rfl (by decide) (q0 := 1) rfl rfl) rfl rfl hl.1 rfl (lv_room (Nat.le_of_ble_eq_true rfl)) dX2_pressBlock_5 ⟨Nat.le_of_ble_eq_true rfl, Nat.le_of_ble_eq_true rfl⟩) rfl rfl (by decide) (by decide) (ws' := (wF_Presser_Bytes g h_o h_o_block h_o_block_row h_o_slots h_a h_a_row o_slotMask r1 o_block_row_n o_block_row_c o_slots_n o_slots_c a_count a_row_n a_row_c)) rfl (by decide) (fun H locs hW => ?_)
  refine lv_aload_n C0.x C0.b dX2_pressBlock_8 rfl (lv_at hl 0 rfl) ?_
  refine lv_iload_n C0.x C0.b dX2_pressBlock_9 rfl (lv_at hl 3 rfl) ?_
  obtain ⟨r3, e4, hF⟩ := ob hF
  refine go_v C0 hW [0, 1, 2, 3] [4, 5] [2, 3, 4, 5, 0, 1] (va_runV (As := [.int p3]) (rest := []) C0.fix (c_X2_putLength l g h_o h_o_block h_o_block_row h_o_slots o_slotMask o_slots_n o_slots_c e4 _) (cwV 1 C0.ts (gw_V wl_255 wl_256 wl_257 wl_20 wl_258) rfl rfl rfl (by decide +kernel) ⟨Nat.le_of_ble_eq_true rfl, Nat.le_of_ble_eq_true rfl⟩) (pcv_of C0 hW [0, 1, 2, 3] rfl (by decide) (q0 := 0) rfl rfl) rfl rfl hl.1 rfl (lv_room (Nat.le_of_ble_eq_true rfl)) dX2_pressBlock_10 ⟨Nat.le_of_ble_eq_true rfl, Nat.le_of_ble_eq_true rfl⟩) rfl rfl (by decide) (by decide) (ws' := (wF_Presser_Bytes g h_o h_o_block h_o_block_row h_o_slots h_a h_a_row o_slotMask r3.1 o_block_row_n r3.2 o_slots_n o_slots_c a_count a_row_n a_row_c)) rfl (by decide) (fun H locs hW => ?_)
  refine lv_aload_n C0.x C0.b dX2_pressBlock_13 rfl (lv_at hl 0 rfl) ?_
  refine lv_iload_n C0.x C0.b dX2_pressBlock_14 rfl (lv_at hl 3 rfl) ?_
  obtain ⟨r5, e6, hF⟩ := ob hF
  refine go_v C0 hW [0, 1, 2, 3] [4, 5] [2, 3, 4, 5, 0, 1] (va_runV (As := [.int p3]) (rest := []) C0.fix (c_X2_freeSlots l g h_o h_o_block h_o_block_row h_o_slots r3.1 o_block_row_n r3.2 e6 _) (cwV 1 C0.ts (gw_V wl_260 wl_261 wl_262 wl_20 wl_263) rfl rfl rfl (by decide +kernel) ⟨Nat.le_of_ble_eq_true rfl, Nat.le_of_ble_eq_true rfl⟩) (pcv_of C0 hW [0, 1, 2, 3] rfl (by decide) (q0 := 0) rfl rfl) rfl rfl hl.1 rfl (lv_room (Nat.le_of_ble_eq_true rfl)) dX2_pressBlock_15 ⟨Nat.le_of_ble_eq_true rfl, Nat.le_of_ble_eq_true rfl⟩) rfl rfl (by decide) (by decide) (ws' := (wF_Presser_Bytes g h_o h_o_block h_o_block_row h_o_slots h_a h_a_row r5.1 r3.1 o_block_row_n r3.2 o_slots_n r5.2 a_count a_row_n a_row_c)) rfl (by decide) (fun H locs hW => ?_)
  refine lv_iload_n C0.x C0.b dX2_pressBlock_18 rfl (lv_at hl 2 rfl) ?_
  refine lv_iload_n C0.x C0.b dX2_pressBlock_19 rfl (lv_at hl 3 rfl) ?_
  refine lv_iadd C0.x C0.b dX2_pressBlock_20 ?_
  refine lv_istore (lv' := [(4, .int (p2 + p3)), (0, .ref h_o), (1, .ref h_a), (2, .int p2), (3, .int p3)]) C0.x C0.b dX2_pressBlock_21 hl (by decide) rfl (fun ls hl => ?_)
  refine lv_iload_n C0.x C0.b dX2_pressBlock_23 rfl (lv_at hl 3 rfl) ?_
  refine lv_istore (lv' := [(5, .int p2), (4, .int (p2 + p3)), (0, .ref h_o), (1, .ref h_a), (2, .int p2), (3, .int p3)]) C0.x C0.b dX2_pressBlock_24 hl (by decide) rfl (fun ls hl => ?_)
  refine lv_iload_n C0.x C0.b dX2_pressBlock_26 rfl (lv_at hl 4 rfl) ?_
  refine lv_istore (lv' := [(6, .int p2), (5, .int p2), (4, .int (p2 + p3)), (0, .ref h_o), (1, .ref h_a), (2, .int p2), (3, .int p3)]) C0.x C0.b dX2_pressBlock_27 hl (by decide) rfl (fun ls hl => ?_)
  exact w_X2_pressBlock_b29 l g h_o h_o_block h_o_block_row h_o_slots h_a h_a_row C0 K r5.1 r3.1 r3.2 r5.2 (p2 + p3) p2 p2 hF _ _ _ hW (lv_sub hl [3, 4, 2, 1, 0] rfl)

abbrev rm_X6_press : Room := { frames := 5, cells := 0, slots := 0, locals := 117 }

set_option maxHeartbeats 4000000 in
set_option maxRecDepth 100000 in
/-- SnapHouse.press()I -/
theorem c_X6_press (l : Launch) (g : GX) (h_o h_o_theTape h_o_theTape_row h_o_theOut h_o_theOut_row h_o_presser h_o_presser_block h_o_presser_block_row h_o_presser_slots h_o_streamMaker h_o_streamMaker_made h_o_streamMaker_made_row h_o_blockOpener h_o_blockOpener_given h_o_blockOpener_given_row h_o_blockOpener_elements h_o_blockOpener_elements_cells h_o_streamOpener h_o_streamOpener_given h_o_streamOpener_given_row h_o_streamOpener_chunks h_o_streamOpener_chunks_cells h_o_keptElements h_o_keptElements_cells h_o_keptChunks h_o_keptChunks_cells : Nat) {K : Nat} (o_faultNumber : Int32) (o_faultPlace : Int32) (o_faultOfBlock : Int32) (o_faultPlaceInBlock : Int32) (o_streamMaker_made_count : Int32) (o_streamMaker_made_row_n : Nat) (o_streamMaker_made_row_c : Nat → Int32) (o_blockOpener_fault : Int32) (o_blockOpener_place : Int32) (o_blockOpener_start : Int32) (o_blockOpener_end : Int32) (o_blockOpener_next : Int32) (o_blockOpener_length : Int32) (o_blockOpener_sort : Int32) (o_blockOpener_body : Int32) (o_blockOpener_size : Int64) (o_blockOpener_back : Int64) (o_blockOpener_given_count : Int32) (o_blockOpener_given_row_n : Nat) (o_blockOpener_given_row_c : Nat → Int32) (o_blockOpener_elements_count : Int32) (o_blockOpener_elements_marked : Int32) (o_blockOpener_elements_cells_n : Nat) (o_blockOpener_elements_cells_c : Nat → Int32) (o_streamOpener_fault : Int32) (o_streamOpener_place : Int32) (o_streamOpener_next : Int32) (o_streamOpener_type : Int32) (o_streamOpener_body : Int32) (o_streamOpener_size : Int32) (o_streamOpener_given_count : Int32) (o_streamOpener_given_row_n : Nat) (o_streamOpener_given_row_c : Nat → Int32) (o_streamOpener_chunks_count : Int32) (o_streamOpener_chunks_marked : Int32) (o_streamOpener_chunks_cells_n : Nat) (o_streamOpener_chunks_cells_c : Nat → Int32) (o_keptElements_count : Int32) (o_keptElements_marked : Int32) (o_keptElements_cells_n : Nat) (o_keptElements_cells_c : Nat → Int32) (o_keptChunks_count : Int32) (o_keptChunks_marked : Int32) (o_keptChunks_cells_n : Nat) (o_keptChunks_cells_c : Nat → Int32) {o_theTape_count : Int32} {o_theTape_row_n : Nat} {o_theTape_row_c : Nat → Int32} {o_theOut_count : Int32} {o_theOut_row_n : Nat} {o_theOut_row_c : Nat → Int32} {o_presser_slotMask : Int32} {o_presser_block_count : Int32} {o_presser_block_row_n : Nat} {o_presser_block_row_c : Nat → Int32} {o_presser_slots_n : Nat} {o_presser_slots_c : Nat → Int32} {o : Int32 × Int32 × (Nat → Int32) × Int32 × Int32 × (Nat → Int32) × (Nat → Int32)} (hF : f_X6_press K o_theTape_count o_theTape_row_n o_theTape_row_c o_theOut_count o_theOut_row_n o_theOut_row_c o_presser_slotMask o_presser_block_count o_presser_block_row_n o_presser_block_row_c o_presser_slots_n o_presser_slots_c = some o) : mcI g l yX6_press wA_X6_press rm_X6_press [.ref h_o] (wF_SnapHouse g h_o h_o_theTape h_o_theTape_row h_o_theOut h_o_theOut_row h_o_presser h_o_presser_block h_o_presser_block_row h_o_presser_slots h_o_streamMaker h_o_streamMaker_made h_o_streamMaker_made_row h_o_blockOpener h_o_blockOpener_given h_o_blockOpener_given_row h_o_blockOpener_elements h_o_blockOpener_elements_cells h_o_streamOpener h_o_streamOpener_given h_o_streamOpener_given_row h_o_streamOpener_chunks h_o_streamOpener_chunks_cells h_o_keptElements h_o_keptElements_cells h_o_keptChunks h_o_keptChunks_cells o_faultNumber o_faultPlace o_faultOfBlock o_faultPlaceInBlock o_theTape_count o_theTape_row_n o_theTape_row_c o_theOut_count o_theOut_row_n o_theOut_row_c o_presser_slotMask o_presser_block_count o_presser_block_row_n o_presser_block_row_c o_presser_slots_n o_presser_slots_c o_streamMaker_made_count o_streamMaker_made_row_n o_streamMaker_made_row_c o_blockOpener_fault o_blockOpener_place o_blockOpener_start o_blockOpener_end o_blockOpener_next o_blockOpener_length o_blockOpener_sort o_blockOpener_body o_blockOpener_size o_blockOpener_back o_blockOpener_given_count o_blockOpener_given_row_n o_blockOpener_given_row_c o_blockOpener_elements_count o_blockOpener_elements_marked o_blockOpener_elements_cells_n o_blockOpener_elements_cells_c o_streamOpener_fault o_streamOpener_place o_streamOpener_next o_streamOpener_type o_streamOpener_body o_streamOpener_size o_streamOpener_given_count o_streamOpener_given_row_n o_streamOpener_given_row_c o_streamOpener_chunks_count o_streamOpener_chunks_marked o_streamOpener_chunks_cells_n o_streamOpener_chunks_cells_c o_keptElements_count o_keptElements_marked o_keptElements_cells_n o_keptElements_cells_c o_keptChunks_count o_keptChunks_marked o_keptChunks_cells_n o_keptChunks_cells_c) o.1 (wF_SnapHouse g h_o h_o_theTape h_o_theTape_row h_o_theOut h_o_theOut_row h_o_presser h_o_presser_block h_o_presser_block_row h_o_presser_slots h_o_streamMaker h_o_streamMaker_made h_o_streamMaker_made_row h_o_blockOpener h_o_blockOpener_given h_o_blockOpener_given_row h_o_blockOpener_elements h_o_blockOpener_elements_cells h_o_streamOpener h_o_streamOpener_given h_o_streamOpener_given_row h_o_streamOpener_chunks h_o_streamOpener_chunks_cells h_o_keptElements h_o_keptElements_cells h_o_keptChunks h_o_keptChunks_cells o_faultNumber o_faultPlace o_faultOfBlock o_faultPlaceInBlock o_theTape_count o_theTape_row_n o_theTape_row_c o.2.1 o_theOut_row_n o.2.2.1 o.2.2.2.1 o.2.2.2.2.1 o_presser_block_row_n o.2.2.2.2.2.1 o_presser_slots_n o.2.2.2.2.2.2 o_streamMaker_made_count o_streamMaker_made_row_n o_streamMaker_made_row_c o_blockOpener_fault o_blockOpener_place o_blockOpener_start o_blockOpener_end o_blockOpener_next o_blockOpener_length o_blockOpener_sort o_blockOpener_body o_blockOpener_size o_blockOpener_back o_blockOpener_given_count o_blockOpener_given_row_n o_blockOpener_given_row_c o_blockOpener_elements_count o_blockOpener_elements_marked o_blockOpener_elements_cells_n o_blockOpener_elements_cells_c o_streamOpener_fault o_streamOpener_place o_streamOpener_next o_streamOpener_type o_streamOpener_body o_streamOpener_size o_streamOpener_given_count o_streamOpener_given_row_n o_streamOpener_given_row_c o_streamOpener_chunks_count o_streamOpener_chunks_marked o_streamOpener_chunks_cells_n o_streamOpener_chunks_cells_c o_keptElements_count o_keptElements_marked o_keptElements_cells_n o_keptElements_cells_c o_keptChunks_count o_keptChunks_marked o_keptChunks_cells_n o_keptChunks_cells_c) 0 0 := by
  refine x_start (cc := cX6_press) (maxL := 1) (ret := (some .int)) (by decide) rfl (Nat.le_of_ble_eq_true rfl) ?_
  intro p e s m below meth c ls C0 hW hl
  have hl : lv_has ls 1 [(0, .ref h_o)] := hl
  unfold f_X6_press at hF
  refine lv_aload_n C0.x C0.b dX6_press_0 rfl (lv_at hl 0 rfl) ?_
  refine x_get C0 hW iw_X6 0 rfl rfl 2 (by decide) (List.mem_cons_of_mem _ wl_21) (v := .ref h_o_presser) rfl dX6_press_1 ?_
  refine lv_aload_n C0.x C0.b dX6_press_4 rfl (lv_at hl 0 rfl) ?_
  refine x_get C0 hW iw_X6 0 rfl rfl 0 (by decide) (List.mem_cons_of_mem _ wl_16) (v := .ref h_o_theTape) rfl dX6_press_5 ?_
  refine lv_iconst (v := (0 : Int32)) C0.x C0.b dX6_press_8 (by decide) ?_
  refine lv_aload_n C0.x C0.b dX6_press_9 rfl (lv_at hl 0 rfl) ?_
  refine x_get C0 hW iw_X6 0 rfl rfl 0 (by decide) (List.mem_cons_of_mem _ wl_16) (v := .ref h_o_theTape) rfl dX6_press_10 ?_
  refine x_getN C0 hW iw_X1 1 rfl rfl 1 (by decide) (List.mem_of_getElem? (i := 0) rfl) (v := .int o_theTape_count) rfl dX6_press_13 ?_
  obtain ⟨r1, e2, hF⟩ := ob hF
  refine go_v C0 hW [5, 6, 7, 8, 1, 2] [0, 3, 4, 9, 10, 11, 12, 13, 14, 15, 16, 17, 18, 19, 20, 21, 22, 23, 24, 25] [0, 24, 25, 1, 2, 20, 21, 22, 23, 3, 4, 5, 6, 7, 8, 9, 10, 11, 12, 13, 14, 15, 16, 17, 18, 19] (va_runV (As := [.ref h_o_theTape, .int (0 : Int32), .int o_theTape_count]) (rest := []) C0.fix (c_X2_pressBlock l g h_o_presser h_o_presser_block h_o_presser_block_row h_o_presser_slots h_o_theTape h_o_theTape_row e2 _) (cwV 3 C0.ts (gw_V wl_250 wl_251 wl_252 wl_20 wl_253) rfl rfl rfl (by decide +kernel) ⟨Nat.le_of_ble_eq_true rfl, Nat.le_of_ble_eq_true rfl⟩) (pcv_of C0 hW [5, 6, 7, 8, 1, 2] rfl (by decide) (q0 := 5) rfl rfl) rfl rfl hl.1 rfl (lv_room (Nat.le_of_ble_eq_true rfl)) dX6_press_16 ⟨Nat.le_of_ble_eq_true rfl, Nat.le_of_ble_eq_true rfl⟩) rfl rfl (by decide) (by decide) (ws' := (wF_SnapHouse g h_o h_o_theTape h_o_theTape_row h_o_theOut h_o_theOut_row h_o_presser h_o_presser_block h_o_presser_block_row h_o_presser_slots h_o_streamMaker h_o_streamMaker_made h_o_streamMaker_made_row h_o_blockOpener h_o_blockOpener_given h_o_blockOpener_given_row h_o_blockOpener_elements h_o_blockOpener_elements_cells h_o_streamOpener h_o_streamOpener_given h_o_streamOpener_given_row h_o_streamOpener_chunks h_o_streamOpener_chunks_cells h_o_keptElements h_o_keptElements_cells h_o_keptChunks h_o_keptChunks_cells o_faultNumber o_faultPlace o_faultOfBlock o_faultPlaceInBlock o_theTape_count o_theTape_row_n o_theTape_row_c o_theOut_count o_theOut_row_n o_theOut_row_c r1.1 r1.2.1 o_presser_block_row_n r1.2.2.1 o_presser_slots_n r1.2.2.2 o_streamMaker_made_count o_streamMaker_made_row_n o_streamMaker_made_row_c o_blockOpener_fault o_blockOpener_place o_blockOpener_start o_blockOpener_end o_blockOpener_next o_blockOpener_length o_blockOpener_sort o_blockOpener_body o_blockOpener_size o_blockOpener_back o_blockOpener_given_count o_blockOpener_given_row_n o_blockOpener_given_row_c o_blockOpener_elements_count o_blockOpener_elements_marked o_blockOpener_elements_cells_n o_blockOpener_elements_cells_c o_streamOpener_fault o_streamOpener_place o_streamOpener_next o_streamOpener_type o_streamOpener_body o_streamOpener_size o_streamOpener_given_count o_streamOpener_given_row_n o_streamOpener_given_row_c o_streamOpener_chunks_count o_streamOpener_chunks_marked o_streamOpener_chunks_cells_n o_streamOpener_chunks_cells_c o_keptElements_count o_keptElements_marked o_keptElements_cells_n o_keptElements_cells_c o_keptChunks_count o_keptChunks_marked o_keptChunks_cells_n o_keptChunks_cells_c)) rfl (by decide) (fun H locs hW => ?_)
  refine lv_aload_n C0.x C0.b dX6_press_19 rfl (lv_at hl 0 rfl) ?_
  refine x_get C0 hW iw_X6 0 rfl rfl 1 (by decide) (List.mem_cons_of_mem _ wl_17) (v := .ref h_o_theOut) rfl dX6_press_20 ?_
  refine lv_aload_n C0.x C0.b dX6_press_23 rfl (lv_at hl 0 rfl) ?_
  refine x_get C0 hW iw_X6 0 rfl rfl 2 (by decide) (List.mem_cons_of_mem _ wl_21) (v := .ref h_o_presser) rfl dX6_press_24 ?_
  refine x_getN C0 hW iw_X2 5 rfl rfl 0 (by decide) (List.mem_of_getElem? (i := 1) rfl) (v := .ref h_o_presser_block) rfl dX6_press_27 ?_
  obtain ⟨r3, e4, hF⟩ := ob hF
  refine go_v C0 hW [3, 4, 6, 7] [0, 1, 2, 5, 8, 9, 10, 11, 12, 13, 14, 15, 16, 17, 18, 19, 20, 21, 22, 23, 24, 25] [0, 1, 2, 22, 23, 3, 24, 25, 4, 5, 6, 7, 8, 9, 10, 11, 12, 13, 14, 15, 16, 17, 18, 19, 20, 21] (va_runV (As := [.ref h_o_presser_block]) (rest := []) C0.fix (c_X1_become l g h_o_theOut h_o_theOut_row h_o_presser_block h_o_presser_block_row e4 _) (cwV 1 C0.ts (gw_V wl_221 wl_222 wl_223 wl_15 wl_224) rfl rfl rfl (by decide +kernel) ⟨Nat.le_of_ble_eq_true rfl, Nat.le_of_ble_eq_true rfl⟩) (pcv_of C0 hW [3, 4, 6, 7] rfl (by decide) (q0 := 3) rfl rfl) rfl rfl hl.1 rfl (lv_room (Nat.le_of_ble_eq_true rfl)) dX6_press_30 ⟨Nat.le_of_ble_eq_true rfl, Nat.le_of_ble_eq_true rfl⟩) rfl rfl (by decide) (by decide) (ws' := (wF_SnapHouse g h_o h_o_theTape h_o_theTape_row h_o_theOut h_o_theOut_row h_o_presser h_o_presser_block h_o_presser_block_row h_o_presser_slots h_o_streamMaker h_o_streamMaker_made h_o_streamMaker_made_row h_o_blockOpener h_o_blockOpener_given h_o_blockOpener_given_row h_o_blockOpener_elements h_o_blockOpener_elements_cells h_o_streamOpener h_o_streamOpener_given h_o_streamOpener_given_row h_o_streamOpener_chunks h_o_streamOpener_chunks_cells h_o_keptElements h_o_keptElements_cells h_o_keptChunks h_o_keptChunks_cells o_faultNumber o_faultPlace o_faultOfBlock o_faultPlaceInBlock o_theTape_count o_theTape_row_n o_theTape_row_c r3.1 o_theOut_row_n r3.2 r1.1 r1.2.1 o_presser_block_row_n r1.2.2.1 o_presser_slots_n r1.2.2.2 o_streamMaker_made_count o_streamMaker_made_row_n o_streamMaker_made_row_c o_blockOpener_fault o_blockOpener_place o_blockOpener_start o_blockOpener_end o_blockOpener_next o_blockOpener_length o_blockOpener_sort o_blockOpener_body o_blockOpener_size o_blockOpener_back o_blockOpener_given_count o_blockOpener_given_row_n o_blockOpener_given_row_c o_blockOpener_elements_count o_blockOpener_elements_marked o_blockOpener_elements_cells_n o_blockOpener_elements_cells_c o_streamOpener_fault o_streamOpener_place o_streamOpener_next o_streamOpener_type o_streamOpener_body o_streamOpener_size o_streamOpener_given_count o_streamOpener_given_row_n o_streamOpener_given_row_c o_streamOpener_chunks_count o_streamOpener_chunks_marked o_streamOpener_chunks_cells_n o_streamOpener_chunks_cells_c o_keptElements_count o_keptElements_marked o_keptElements_cells_n o_keptElements_cells_c o_keptChunks_count o_keptChunks_marked o_keptChunks_cells_n o_keptChunks_cells_c)) rfl (by decide) (fun H locs hW => ?_)
  refine lv_aload_n C0.x C0.b dX6_press_33 rfl (lv_at hl 0 rfl) ?_
  refine x_get C0 hW iw_X6 0 rfl rfl 1 (by decide) (List.mem_cons_of_mem _ wl_17) (v := .ref h_o_theOut) rfl dX6_press_34 ?_
  refine x_getN C0 hW iw_X1 3 rfl rfl 1 (by decide) (List.mem_of_getElem? (i := 0) rfl) (v := .int r3.1) rfl dX6_press_37 ?_
  obtain rfl := Option.some.inj hF
  exact x_iret C0 hW rfl rfl dX6_press_40

abbrev rm_X3_clear : Room := { frames := 0, cells := 0, slots := 0, locals := 0 }

set_option maxHeartbeats 4000000 in
set_option maxRecDepth 100000 in
/-- SnapHouse$Rows.clear()V -/
theorem c_X3_clear (l : Launch) (g : GX) (h_o h_o_cells : Nat) {K : Nat} (o_cells_n : Nat) (o_cells_c : Nat → Int32) {o_count : Int32} {o_marked : Int32} {o : Int32 × Int32} (hF : f_X3_clear K o_count o_marked = some o) : mcV g l yX3_clear wA_X3_clear rm_X3_clear [.ref h_o] (wF_Rows g h_o h_o_cells o_count o_marked o_cells_n o_cells_c) (wF_Rows g h_o h_o_cells o.1 o.2 o_cells_n o_cells_c) 0 0 := by
  refine x_start (cc := cX3_clear) (maxL := 1) (ret := none) (by decide) rfl (Nat.le_of_ble_eq_true rfl) ?_
  intro p e s m below meth c ls C0 hW hl
  have hl : lv_has ls 1 [(0, .ref h_o)] := hl
  unfold f_X3_clear at hF
  refine lv_aload_n C0.x C0.b dX3_clear_0 rfl (lv_at hl 0 rfl) ?_
  refine lv_iconst (v := (0 : Int32)) C0.x C0.b dX3_clear_1 (by decide) ?_
  refine x_put C0 hW iw_X3 tyX3 tyX3_ok nmX3 0 rfl rfl 1 (by decide) (List.mem_cons_of_mem _ wl_91) rfl (ty := .int) (v := .int (0 : Int32)) (by decide +kernel) rfl rfl (Nat.le_of_ble_eq_true rfl) dX3_clear_2 (ws' := (wF_Rows g h_o h_o_cells (0 : Int32) o_marked o_cells_n o_cells_c)) rfl (fun H locs hW => ?_)
  refine lv_aload_n C0.x C0.b dX3_clear_5 rfl (lv_at hl 0 rfl) ?_
  refine lv_iconst (v := (0 : Int32)) C0.x C0.b dX3_clear_6 (by decide) ?_
  refine x_put C0 hW iw_X3 tyX3 tyX3_ok nmX3 0 rfl rfl 2 (by decide) (List.mem_cons_of_mem _ wl_92) rfl (ty := .int) (v := .int (0 : Int32)) (by decide +kernel) rfl rfl (Nat.le_of_ble_eq_true rfl) dX3_clear_7 (ws' := (wF_Rows g h_o h_o_cells (0 : Int32) (0 : Int32) o_cells_n o_cells_c)) rfl (fun H locs hW => ?_)
  obtain rfl := Option.some.inj hF
  exact x_vret C0 hW dX3_clear_10

abbrev rm_X0_fail : Room := { frames := 0, cells := 0, slots := 0, locals := 0 }

set_option maxHeartbeats 4000000 in
set_option maxRecDepth 100000 in
/-- SnapHouse$BlockOpener.fail(II)V -/
theorem c_X0_fail (l : Launch) (g : GX) (h_o h_o_given h_o_given_row h_o_elements h_o_elements_cells : Nat) {K : Nat} (o_end : Int32) (o_next : Int32) (o_length : Int32) (o_sort : Int32) (o_body : Int32) (o_size : Int64) (o_back : Int64) (o_given_count : Int32) (o_given_row_n : Nat) (o_given_row_c : Nat → Int32) (o_elements_count : Int32) (o_elements_marked : Int32) (o_elements_cells_n : Nat) (o_elements_cells_c : Nat → Int32) {o_fault : Int32} {o_place : Int32} {o_start : Int32} {p1 : Int32} {p2 : Int32} {o : Int32 × Int32} (hF : f_X0_fail K o_fault o_place o_start p1 p2 = some o) : mcV g l yX0_fail wA_X0_fail rm_X0_fail [.ref h_o, .int p1, .int p2] (wF_BlockOpener g h_o h_o_given h_o_given_row h_o_elements h_o_elements_cells o_fault o_place o_start o_end o_next o_length o_sort o_body o_size o_back o_given_count o_given_row_n o_given_row_c o_elements_count o_elements_marked o_elements_cells_n o_elements_cells_c) (wF_BlockOpener g h_o h_o_given h_o_given_row h_o_elements h_o_elements_cells o.1 o.2 o_start o_end o_next o_length o_sort o_body o_size o_back o_given_count o_given_row_n o_given_row_c o_elements_count o_elements_marked o_elements_cells_n o_elements_cells_c) 0 0 := by
  refine x_start (cc := cX0_fail) (maxL := 3) (ret := none) (by decide) rfl (Nat.le_of_ble_eq_true rfl) ?_
  intro p e s m below meth c ls C0 hW hl
  have hl : lv_has ls 3 [(0, .ref h_o), (1, .int p1), (2, .int p2)] := hl
  unfold f_X0_fail at hF
  refine lv_aload_n C0.x C0.b dX0_fail_0 rfl (lv_at hl 0 rfl) ?_
  refine lv_iload_n C0.x C0.b dX0_fail_1 rfl (lv_at hl 1 rfl) ?_
  refine x_put C0 hW iw_X0 tyX0 tyX0_ok nmX0 0 rfl rfl 2 (by decide) (List.mem_cons_of_mem _ wl_76) rfl (ty := .int) (v := .int p1) (by decide +kernel) rfl rfl (Nat.le_of_ble_eq_true rfl) dX0_fail_2 (ws' := (wF_BlockOpener g h_o h_o_given h_o_given_row h_o_elements h_o_elements_cells p1 o_place o_start o_end o_next o_length o_sort o_body o_size o_back o_given_count o_given_row_n o_given_row_c o_elements_count o_elements_marked o_elements_cells_n o_elements_cells_c)) rfl (fun H locs hW => ?_)
  refine lv_aload_n C0.x C0.b dX0_fail_5 rfl (lv_at hl 0 rfl) ?_
  refine lv_iload_n C0.x C0.b dX0_fail_6 rfl (lv_at hl 2 rfl) ?_
  refine lv_aload_n C0.x C0.b dX0_fail_7 rfl (lv_at hl 0 rfl) ?_
  refine x_get C0 hW iw_X0 0 rfl rfl 4 (by decide) (List.mem_cons_of_mem _ wl_78) (v := .int o_start) rfl dX0_fail_8 ?_
  refine lv_isub C0.x C0.b dX0_fail_11 ?_
  refine x_put C0 hW iw_X0 tyX0 tyX0_ok nmX0 0 rfl rfl 3 (by decide) (List.mem_cons_of_mem _ wl_77) rfl (ty := .int) (v := .int (p2 - o_start)) (by decide +kernel) rfl rfl (Nat.le_of_ble_eq_true rfl) dX0_fail_12 (ws' := (wF_BlockOpener g h_o h_o_given h_o_given_row h_o_elements h_o_elements_cells p1 (p2 - o_start) o_start o_end o_next o_length o_sort o_body o_size o_back o_given_count o_given_row_n o_given_row_c o_elements_count o_elements_marked o_elements_cells_n o_elements_cells_c)) rfl (fun H locs hW => ?_)
  obtain rfl := Option.some.inj hF
  exact x_vret C0 hW dX0_fail_15

