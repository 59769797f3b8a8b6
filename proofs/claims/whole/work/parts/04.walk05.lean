abbrev rm_X4_putHeader : Room := { frames := 2, cells := 0, slots := 0, locals := 44 }

set_option maxHeartbeats 4000000 in
set_option maxRecDepth 100000 in
/-- SnapHouse$StreamMaker.putHeader(II)V -/
theorem c_X4_putHeader (l : Launch) (g : GX) (h_o h_o_made h_o_made_row : Nat) {K : Nat} {o_made_count : Int32} {o_made_row_n : Nat} {o_made_row_c : Nat → Int32} {p1 : Int32} {p2 : Int32} {o : Int32 × (Nat → Int32)} (hF : f_X4_putHeader K o_made_count o_made_row_n o_made_row_c p1 p2 = some o) : mcV g l yX4_putHeader wA_X4_putHeader rm_X4_putHeader [.ref h_o, .int p1, .int p2] (wF_StreamMaker g h_o h_o_made h_o_made_row o_made_count o_made_row_n o_made_row_c) (wF_StreamMaker g h_o h_o_made h_o_made_row o.1 o_made_row_n o.2) 0 0 := by
  refine x_start (cc := cX4_putHeader) (maxL := 3) (ret := none) (by decide) rfl (Nat.le_of_ble_eq_true rfl) ?_
  intro p e s m below meth c ls C0 hW hl
  have hl : lv_has ls 3 [(0, .ref h_o), (1, .int p1), (2, .int p2)] := hl
  unfold f_X4_putHeader at hF
  refine lv_aload_n C0.x C0.b dX4_putHeader_0 rfl (lv_at hl 0 rfl) ?_
  refine x_get C0 hW iw_X4 0 rfl rfl 0 (by decide) (List.mem_cons_of_mem _ wl_67) (v := .ref h_o_made) rfl dX4_putHeader_1 ?_
  refine lv_iload_n C0.x C0.b dX4_putHeader_4 rfl (lv_at hl 1 rfl) ?_
  obtain ⟨r1, e2, hF⟩ := ob hF
  refine go_v C0 hW [1, 2] [0] [0, 1, 2] (va_runV (As := [.int p1]) (rest := []) C0.fix (c_X1_put l g h_o_made h_o_made_row e2 _) (cwV 1 C0.ts (gw_V wl_452 wl_141 wl_142 wl_15 wl_143) rfl rfl rfl (by decide +kernel) ⟨Nat.le_of_ble_eq_true rfl, Nat.le_of_ble_eq_true rfl⟩) (pcv_of C0 hW [1, 2] rfl (by decide) (q0 := 1) rfl rfl) rfl rfl hl.1 rfl (lv_room (Nat.le_of_ble_eq_true rfl)) dX4_putHeader_5 ⟨Nat.le_of_ble_eq_true rfl, Nat.le_of_ble_eq_true rfl⟩) rfl rfl (by decide) (by decide) (ws' := (wF_StreamMaker g h_o h_o_made h_o_made_row r1.1 o_made_row_n r1.2)) rfl (by decide) (fun H locs hW => ?_)
  refine lv_aload_n C0.x C0.b dX4_putHeader_8 rfl (lv_at hl 0 rfl) ?_
  refine x_get C0 hW iw_X4 0 rfl rfl 0 (by decide) (List.mem_cons_of_mem _ wl_67) (v := .ref h_o_made) rfl dX4_putHeader_9 ?_
  refine lv_iload_n C0.x C0.b dX4_putHeader_12 rfl (lv_at hl 2 rfl) ?_
  refine lv_iconst (v := (3 : Int32)) C0.x C0.b dX4_putHeader_13 (by decide) ?_
  obtain ⟨r3, e4, hF⟩ := ob hF
  refine go_v C0 hW [1, 2] [0] [0, 1, 2] (va_runV (As := [.int p2, .int (3 : Int32)]) (rest := []) C0.fix (c_X1_putLowestFirst l g h_o_made h_o_made_row e4 _) (cwV 2 C0.ts (gw_V wl_453 wl_282 wl_283 wl_15 wl_284) rfl rfl rfl (by decide +kernel) ⟨Nat.le_of_ble_eq_true rfl, Nat.le_of_ble_eq_true rfl⟩) (pcv_of C0 hW [1, 2] rfl (by decide) (q0 := 1) rfl rfl) rfl rfl hl.1 rfl (lv_room (Nat.le_of_ble_eq_true rfl)) dX4_putHeader_14 ⟨Nat.le_of_ble_eq_true rfl, Nat.le_of_ble_eq_true rfl⟩) rfl rfl (by decide) (by decide) (ws' := (wF_StreamMaker g h_o h_o_made h_o_made_row r3.1 o_made_row_n r3.2)) rfl (by decide) (fun H locs hW => ?_)
  obtain rfl := Option.some.inj hF
  exact x_vret C0 hW dX4_putHeader_17

abbrev rm_X1_crc : Room := { frames := 1, cells := 0, slots := 0, locals := 22 }

set_option maxHeartbeats 4000000 in
set_option maxRecDepth 100000 in
theorem w_X1_crc_b16 (l : Launch) (g : GX) (h_o h_o_row : Nat) {K : Nat} {o_count : Int32} {o_row_n : Nat} {o_row_c : Nat → Int32} {p1 : Int32} {p2 : Int32} {o : Int32} {wc : va_W} {p : Program} {e : Env} {s : State} {m : MethodId} {args : Array Value} {below : List Frame} {meth : Method} {c : Code} (C0 : bx g p s m meth c args cX1_crc 5 (some .int) yX1_crc wA_X1_crc (va_A wc s.heap.size)) :
    ∀ (n : Nat) (x3 : Int32) (x4 : Int32), f_X1_crc_b16 K o_count o_row_n o_row_c p1 p2 n x3 x4 = some o → ∀ (H : Heap) (locs : List Loc) (ls : Array Slot), ww g (va_A wc s.heap.size) s (wF_Bytes g h_o h_o_row o_count o_row_n o_row_c) H locs → lv_has ls 5 [(0, .ref h_o), (1, .int p1), (2, .int p2), (3, .int x3), (4, .int x4)] → W p l e rm_X1_crc s m args below meth c H locs 0 0 (MQ below (qcI g wc s.heap.size o (wF_Bytes g h_o h_o_row o_count o_row_n o_row_c)) args s 0 0 (va_A wc s.heap.size)) (F0 m 16 ls []) := by
  intro n
  induction n with
  | zero => intro x3 x4 hF; cases (show (none : Option (Int32)) = some o from hF)
  | succ n ih =>
    intro x3 x4 hF H locs ls hW hl
    rw [f_X1_crc_b16] at hF
    refine lv_iload C0.x C0.b dX1_crc_16 (lv_at hl 4 rfl) ?_
    refine lv_iload_n C0.x C0.b dX1_crc_18 rfl (lv_at hl 2 rfl) ?_
    refine lv_icmp_ge (tgt := 66) C0.x C0.b dX1_crc_19 (by decide) (fun c1 => ?_) (fun c1 => ?_)
    · have hF := it_t hF c1
      refine lv_iload_n C0.x C0.b dX1_crc_66 rfl (lv_at hl 3 rfl) ?_
      refine lv_iconst (v := (-1 : Int32)) C0.x C0.b dX1_crc_67 (by decide) ?_
      refine lv_ixor C0.x C0.b dX1_crc_68 ?_
      obtain rfl := Option.some.inj hF
      exact x_iret C0 hW rfl rfl dX1_crc_69
    · have hF := it_f hF c1
      refine lv_iload_n C0.x C0.b dX1_crc_22 rfl (lv_at hl 3 rfl) ?_
      refine lv_aload_n C0.x C0.b dX1_crc_23 rfl (lv_at hl 0 rfl) ?_
      refine x_get C0 hW iw_X1 0 rfl rfl 0 (by decide) (List.mem_cons_of_mem _ wl_53) (v := .ref h_o_row) rfl dX1_crc_24 ?_
      refine lv_iload_n C0.x C0.b dX1_crc_27 rfl (lv_at hl 1 rfl) ?_
      refine lv_iload C0.x C0.b dX1_crc_28 (lv_at hl 4 rfl) ?_
      refine lv_iadd C0.x C0.b dX1_crc_30 ?_
      obtain ⟨h2, hF⟩ := ck_some hF
      refine x_iald C0 hW 1 0 rfl rfl h2 dX1_crc_31 ?_
      refine lv_ixor C0.x C0.b dX1_crc_32 ?_
      refine lv_istore_n (lv' := [(3, .int (x3 ^^^ (o_row_c (p1 + x4).toNatClampNeg))), (0, .ref h_o), (1, .int p1), (2, .int p2), (4, .int x4)]) C0.x C0.b dX1_crc_33 rfl hl (by decide) rfl (fun ls hl => ?_)
      refine lv_iload_n C0.x C0.b dX1_crc_34 rfl (lv_at hl 0 rfl) ?_
      refine lv_iconst (v := (4 : Int32)) C0.x C0.b dX1_crc_35 (by decide) ?_
      refine lv_iushr (v := (ushr (x3 ^^^ (o_row_c (p1 + x4).toNatClampNeg)) (4 : Int32))) C0.x C0.b dX1_crc_36 rfl ?_
      refine x_crct C0 hW (List.mem_cons_of_mem _ wl_469) dX1_crc_37 ?_
      refine lv_iload_n C0.x C0.b dX1_crc_40 rfl (lv_at hl 0 rfl) ?_
      refine lv_bipush (v := (15 : Int32)) C0.x C0.b dX1_crc_41 (by decide) ?_
      refine lv_iand C0.x C0.b dX1_crc_43 ?_
      obtain ⟨h3, hF⟩ := ck_some hF
      refine x_crcld C0 hW h3 dX1_crc_44 ?_
      refine lv_ixor C0.x C0.b dX1_crc_45 ?_
      refine lv_istore_n (lv' := [(3, .int ((ushr (x3 ^^^ (o_row_c (p1 + x4).toNatClampNeg)) (4 : Int32)) ^^^ (tb_C.getD ((x3 ^^^ (o_row_c (p1 + x4).toNatClampNeg)) &&& (15 : Int32)).toNatClampNeg 0))), (0, .ref h_o), (1, .int p1), (2, .int p2), (4, .int x4)]) C0.x C0.b dX1_crc_46 rfl hl (by decide) rfl (fun ls hl => ?_)
      refine lv_iload_n C0.x C0.b dX1_crc_47 rfl (lv_at hl 0 rfl) ?_
      refine lv_iconst (v := (4 : Int32)) C0.x C0.b dX1_crc_48 (by decide) ?_
      refine lv_iushr (v := (ushr ((ushr (x3 ^^^ (o_row_c (p1 + x4).toNatClampNeg)) (4 : Int32)) ^^^ (tb_C.getD ((x3 ^^^ (o_row_c (p1 + x4).toNatClampNeg)) &&& (15 : Int32)).toNatClampNeg 0)) (4 : Int32))) C0.x C0.b dX1_crc_49 rfl ?_
      refine x_crct C0 hW (List.mem_cons_of_mem _ wl_469) dX1_crc_50 ?_
      refine lv_iload_n C0.x C0.b dX1_crc_53 rfl (lv_at hl 0 rfl) ?_
      refine lv_bipush (v := (15 : Int32)) C0.x C0.b dX1_crc_54 (by decide) ?_
      refine lv_iand C0.x C0.b dX1_crc_56 ?_
      obtain ⟨h4, hF⟩ := ck_some hF
      refine x_crcld C0 hW h4 dX1_crc_57 ?_
      refine lv_ixor C0.x C0.b dX1_crc_58 ?_
      refine lv_istore_n (lv' := [(3, .int ((ushr ((ushr (x3 ^^^ (o_row_c (p1 + x4).toNatClampNeg)) (4 : Int32)) ^^^ (tb_C.getD ((x3 ^^^ (o_row_c (p1 + x4).toNatClampNeg)) &&& (15 : Int32)).toNatClampNeg 0)) (4 : Int32)) ^^^ (tb_C.getD (((ushr (x3 ^^^ (o_row_c (p1 + x4).toNatClampNeg)) (4 : Int32)) ^^^ (tb_C.getD ((x3 ^^^ (o_row_c (p1 + x4).toNatClampNeg)) &&& (15 : Int32)).toNatClampNeg 0)) &&& (15 : Int32)).toNatClampNeg 0))), (0, .ref h_o), (1, .int p1), (2, .int p2), (4, .int x4)]) C0.x C0.b dX1_crc_59 rfl hl (by decide) rfl (fun ls hl => ?_)
      refine lv_iinc (v := (x4 + (1 : Int32))) (lv' := [(4, .int (x4 + (1 : Int32))), (3, .int ((ushr ((ushr (x3 ^^^ (o_row_c (p1 + x4).toNatClampNeg)) (4 : Int32)) ^^^ (tb_C.getD ((x3 ^^^ (o_row_c (p1 + x4).toNatClampNeg)) &&& (15 : Int32)).toNatClampNeg 0)) (4 : Int32)) ^^^ (tb_C.getD (((ushr (x3 ^^^ (o_row_c (p1 + x4).toNatClampNeg)) (4 : Int32)) ^^^ (tb_C.getD ((x3 ^^^ (o_row_c (p1 + x4).toNatClampNeg)) &&& (15 : Int32)).toNatClampNeg 0)) &&& (15 : Int32)).toNatClampNeg 0))), (0, .ref h_o), (1, .int p1), (2, .int p2)]) C0.x C0.b dX1_crc_60 hl (k := 4) rfl rfl (by decide) rfl (fun ls hl => ?_)
      refine lv_goto (tgt := 16) C0.x C0.b dX1_crc_63 (by decide) ?_
      exact ih ((ushr ((ushr (x3 ^^^ (o_row_c (p1 + x4).toNatClampNeg)) (4 : Int32)) ^^^ (tb_C.getD ((x3 ^^^ (o_row_c (p1 + x4).toNatClampNeg)) &&& (15 : Int32)).toNatClampNeg 0)) (4 : Int32)) ^^^ (tb_C.getD (((ushr (x3 ^^^ (o_row_c (p1 + x4).toNatClampNeg)) (4 : Int32)) ^^^ (tb_C.getD ((x3 ^^^ (o_row_c (p1 + x4).toNatClampNeg)) &&& (15 : Int32)).toNatClampNeg 0)) &&& (15 : Int32)).toNatClampNeg 0)) (x4 + (1 : Int32)) hF _ _ _ hW (lv_sub hl [2, 3, 4, 1, 0] rfl)

set_option maxHeartbeats 4000000 in
set_option maxRecDepth 100000 in
/-- SnapHouse$Bytes.crc(II)I -/
theorem c_X1_crc (l : Launch) (g : GX) (h_o h_o_row : Nat) {K : Nat} {o_count : Int32} {o_row_n : Nat} {o_row_c : Nat → Int32} {p1 : Int32} {p2 : Int32} {o : Int32} (hF : f_X1_crc K o_count o_row_n o_row_c p1 p2 = some o) : mcI g l yX1_crc wA_X1_crc rm_X1_crc [.ref h_o, .int p1, .int p2] (wF_Bytes g h_o h_o_row o_count o_row_n o_row_c) o (wF_Bytes g h_o h_o_row o_count o_row_n o_row_c) 0 0 := by
  refine x_start (cc := cX1_crc) (maxL := 5) (ret := (some .int)) (by decide) rfl (Nat.le_of_ble_eq_true rfl) ?_
  intro p e s m below meth c ls C0 hW hl
  have hl : lv_has ls 5 [(0, .ref h_o), (1, .int p1), (2, .int p2)] := hl
  unfold f_X1_crc at hF
  refine lv_aload_n C0.x C0.b dX1_crc_0 rfl (lv_at hl 0 rfl) ?_
  refine lv_iload_n C0.x C0.b dX1_crc_1 rfl (lv_at hl 1 rfl) ?_
  refine lv_iload_n C0.x C0.b dX1_crc_2 rfl (lv_at hl 2 rfl) ?_
  obtain ⟨r1, e2, hF⟩ := ob hF
  refine go_i C0 hW [0, 1] [] [0, 1] (va_runV (As := [.int p1, .int p2]) (rest := []) C0.fix (c_X1_has l g h_o h_o_row o_row_n o_row_c e2 _) (cwV 2 C0.ts (gw_V wl_196 wl_189 wl_190 wl_15 wl_191) rfl rfl rfl (by decide +kernel) ⟨Nat.le_of_ble_eq_true rfl, Nat.le_of_ble_eq_true rfl⟩) (pcv_of C0 hW [0, 1] rfl (by decide) (q0 := 0) rfl rfl) rfl rfl hl.1 rfl (lv_room (Nat.le_of_ble_eq_true rfl)) dX1_crc_3 ⟨Nat.le_of_ble_eq_true rfl, Nat.le_of_ble_eq_true rfl⟩) rfl rfl (by decide) (by decide) (ws' := (wF_Bytes g h_o h_o_row o_count o_row_n o_row_c)) rfl (by decide) (fun H locs hW => ?_)
  refine lv_if_ne (tgt := 11) C0.x C0.b dX1_crc_6 (by decide) (fun c3 => ?_) (fun c3 => ?_)
  · have hF := it_f hF c3
    refine lv_iconst (v := (-1 : Int32)) C0.x C0.b dX1_crc_11 (by decide) ?_
    refine lv_istore_n (lv' := [(3, .int (-1 : Int32)), (0, .ref h_o), (1, .int p1), (2, .int p2)]) C0.x C0.b dX1_crc_12 rfl hl (by decide) rfl (fun ls hl => ?_)
    refine lv_iconst (v := (0 : Int32)) C0.x C0.b dX1_crc_13 (by decide) ?_
    refine lv_istore (lv' := [(4, .int (0 : Int32)), (3, .int (-1 : Int32)), (0, .ref h_o), (1, .int p1), (2, .int p2)]) C0.x C0.b dX1_crc_14 hl (by decide) rfl (fun ls hl => ?_)
    exact w_X1_crc_b16 l g h_o h_o_row C0 K (-1 : Int32) (0 : Int32) hF _ _ _ hW (lv_sub hl [2, 3, 4, 1, 0] rfl)
  · have hF := it_t hF c3
    refine lv_iconst (v := (0 : Int32)) C0.x C0.b dX1_crc_9 (by decide) ?_
    obtain rfl := Option.some.inj hF
    exact x_iret C0 hW rfl rfl dX1_crc_10

abbrev rm_J6_rotateLeft_7cf53 : Room := { frames := 0, cells := 0, slots := 0, locals := 0 }

set_option maxHeartbeats 4000000 in
set_option maxRecDepth 100000 in
/-- java/lang/Integer.rotateLeft(II)I -/
theorem c_J6_rotateLeft_7cf53 (l : Launch) (g : GX) {K : Nat} {p0 : Int32} {p1 : Int32} {o : Int32} (hF : f_J6_rotateLeft_7cf53 K p0 p1 = some o) : mcI g l yJ6_rotateLeft_7cf53 wA_J6_rotateLeft_7cf53 rm_J6_rotateLeft_7cf53 [.int p0, .int p1] (wF_ g) o (wF_ g) 0 0 := by
  refine x_start (cc := cJ6_rotateLeft_7cf53) (maxL := 2) (ret := (some .int)) (by decide) rfl (Nat.le_of_ble_eq_true rfl) ?_
  intro p e s m below meth c ls C0 hW hl
  have hl : lv_has ls 2 [(0, .int p0), (1, .int p1)] := hl
  unfold f_J6_rotateLeft_7cf53 at hF
  refine lv_iload_n C0.x C0.b dJ6_rotateLeft_7cf53_0 rfl (lv_at hl 0 rfl) ?_
  refine lv_iload_n C0.x C0.b dJ6_rotateLeft_7cf53_1 rfl (lv_at hl 1 rfl) ?_
  refine lv_ishl C0.x C0.b dJ6_rotateLeft_7cf53_2 ?_
  refine lv_iload_n C0.x C0.b dJ6_rotateLeft_7cf53_3 rfl (lv_at hl 0 rfl) ?_
  refine lv_iload_n C0.x C0.b dJ6_rotateLeft_7cf53_4 rfl (lv_at hl 1 rfl) ?_
  refine lv_ineg C0.x C0.b dJ6_rotateLeft_7cf53_5 ?_
  refine lv_iushr (v := (ushr p0 (-p1))) C0.x C0.b dJ6_rotateLeft_7cf53_6 rfl ?_
  refine lv_ior C0.x C0.b dJ6_rotateLeft_7cf53_7 ?_
  obtain rfl := Option.some.inj hF
  exact x_iret C0 hW rfl rfl dJ6_rotateLeft_7cf53_8

abbrev rm_X1_maskedCrc : Room := { frames := 2, cells := 0, slots := 0, locals := 46 }

set_option maxHeartbeats 4000000 in
set_option maxRecDepth 100000 in
/-- SnapHouse$Bytes.maskedCrc(II)I -/
theorem c_X1_maskedCrc (l : Launch) (g : GX) (h_o h_o_row : Nat) {K : Nat} {o_count : Int32} {o_row_n : Nat} {o_row_c : Nat → Int32} {p1 : Int32} {p2 : Int32} {o : Int32} (hF : f_X1_maskedCrc K o_count o_row_n o_row_c p1 p2 = some o) : mcI g l yX1_maskedCrc wA_X1_maskedCrc rm_X1_maskedCrc [.ref h_o, .int p1, .int p2] (wF_Bytes g h_o h_o_row o_count o_row_n o_row_c) o (wF_Bytes g h_o h_o_row o_count o_row_n o_row_c) 0 0 := by
  refine x_start (cc := cX1_maskedCrc) (maxL := 3) (ret := (some .int)) (by decide) rfl (Nat.le_of_ble_eq_true rfl) ?_
  intro p e s m below meth c ls C0 hW hl
  have hl : lv_has ls 3 [(0, .ref h_o), (1, .int p1), (2, .int p2)] := hl
  unfold f_X1_maskedCrc at hF
  refine lv_aload_n C0.x C0.b dX1_maskedCrc_0 rfl (lv_at hl 0 rfl) ?_
  refine lv_iload_n C0.x C0.b dX1_maskedCrc_1 rfl (lv_at hl 1 rfl) ?_
  refine lv_iload_n C0.x C0.b dX1_maskedCrc_2 rfl (lv_at hl 2 rfl) ?_
  obtain ⟨r1, e2, hF⟩ := ob hF
  refine go_i C0 hW [0, 1] [] [0, 1] (va_runV (As := [.int p1, .int p2]) (rest := []) C0.fix (c_X1_crc l g h_o h_o_row e2 _) (cwV 2 C0.ts (gw_V wl_465 wl_466 wl_467 wl_15 wl_468) rfl rfl rfl (by decide +kernel) ⟨Nat.le_of_ble_eq_true rfl, Nat.le_of_ble_eq_true rfl⟩) (pcv_of C0 hW [0, 1] rfl (by decide) (q0 := 0) rfl rfl) rfl rfl hl.1 rfl (lv_room (Nat.le_of_ble_eq_true rfl)) dX1_maskedCrc_3 ⟨Nat.le_of_ble_eq_true rfl, Nat.le_of_ble_eq_true rfl⟩) rfl rfl (by decide) (by decide) (ws' := (wF_Bytes g h_o h_o_row o_count o_row_n o_row_c)) rfl (by decide) (fun H locs hW => ?_)
  refine lv_bipush (v := (17 : Int32)) C0.x C0.b dX1_maskedCrc_6 (by decide) ?_
  obtain ⟨r3, e4, hF⟩ := ob hF
  refine go_i C0 hW [] [0, 1] [0, 1] (va_runS (As := [.int r1, .int (17 : Int32)]) (rest := []) C0.fix (c_J6_rotateLeft_7cf53 l g e4 _) (va_cwS 2 C0.ts (gw_S wl_470 wl_471 wl_472 wl_473) rfl rfl rfl (by decide +kernel) ⟨Nat.le_of_ble_eq_true rfl, Nat.le_of_ble_eq_true rfl⟩) (pcc_of C0 hW [] rfl (by decide)) rfl rfl hl.1 rfl (lv_room (Nat.le_of_ble_eq_true rfl)) dX1_maskedCrc_8 ⟨Nat.le_of_ble_eq_true rfl, Nat.le_of_ble_eq_true rfl⟩) rfl rfl (by decide) (by decide) (ws' := (wF_Bytes g h_o h_o_row o_count o_row_n o_row_c)) rfl (by decide) (fun H locs hW => ?_)
  refine lv_ldc (v := (-1568478504 : Int32)) C0.x C0.b C0.own (C0.ts _ (List.mem_cons_of_mem _ wl_464)) dX1_maskedCrc_11 ?_
  refine lv_iadd C0.x C0.b dX1_maskedCrc_13 ?_
  obtain rfl := Option.some.inj hF
  exact x_iret C0 hW rfl rfl dX1_maskedCrc_14

abbrev rm_X4_putPiece : Room := { frames := 3, cells := 0, slots := 0, locals := 68 }

set_option maxHeartbeats 4000000 in
set_option maxRecDepth 100000 in
theorem w_X4_putPiece_b66 (l : Launch) (g : GX) (h_o h_o_made h_o_made_row h_a h_a_row h_b h_b_row : Nat) {K : Nat} {o_made_row_n : Nat} {a_count : Int32} {a_row_n : Nat} {a_row_c : Nat → Int32} {b_count : Int32} {b_row_n : Nat} {b_row_c : Nat → Int32} {p2 : Int32} {p3 : Int32} {o : Int32 × Int32 × (Nat → Int32)} {wc : va_W} {p : Program} {e : Env} {s : State} {m : MethodId} {args : Array Value} {below : List Frame} {meth : Method} {c : Code} (C0 : bx g p s m meth c args cX4_putPiece 7 (some .boolean) yX4_putPiece wA_X4_putPiece (va_A wc s.heap.size)) :
    ∀ (o_made_count : Int32) (o_made_row_c : Nat → Int32) (x5 : Int32) (x6 : Int32) (t0 : Int32), f_X4_putPiece_b66 K o_made_row_n a_count a_row_n a_row_c b_count b_row_n b_row_c p2 p3 o_made_count o_made_row_c x5 x6 t0 = some o → ∀ (H : Heap) (locs : List Loc) (ls : Array Slot), ww g (va_A wc s.heap.size) s (wF_StreamMaker_Bytes_Bytes g h_o h_o_made h_o_made_row h_a h_a_row h_b h_b_row o_made_count o_made_row_n o_made_row_c a_count a_row_n a_row_c b_count b_row_n b_row_c) H locs → lv_has ls 7 [(0, .ref h_o), (1, .ref h_a), (2, .int p2), (3, .int p3), (4, .ref h_b), (5, .int x5), (6, .int x6)] → W p l e rm_X4_putPiece s m args below meth c H locs 0 0 (MQ below (qcI g wc s.heap.size o.1 (wF_StreamMaker_Bytes_Bytes g h_o h_o_made h_o_made_row h_a h_a_row h_b h_b_row o.2.1 o_made_row_n o.2.2 a_count a_row_n a_row_c b_count b_row_n b_row_c)) args s 0 0 (va_A wc s.heap.size)) (F0 m 66 ls [.int t0, .ref h_o]) := by
  intro o_made_count o_made_row_c x5 x6 t0 hF H locs ls hW hl
  unfold f_X4_putPiece_b66 at hF
  refine lv_iload C0.x C0.b dX4_putPiece_66 (lv_at hl 6 rfl) ?_
  obtain ⟨r1, e2, hF⟩ := ob hF
  refine go_v C0 hW [0, 1, 2] [3, 4, 5, 6] [4, 5, 6, 0, 1, 2, 3] (va_runV (As := [.int t0, .int x6]) (rest := []) C0.fix (c_X4_putHeader l g h_o h_o_made h_o_made_row e2 _) (cwV 2 C0.ts (gw_V wl_448 wl_449 wl_450 wl_24 wl_451) rfl rfl rfl (by decide +kernel) ⟨Nat.le_of_ble_eq_true rfl, Nat.le_of_ble_eq_true rfl⟩) (pcv_of C0 hW [0, 1, 2] rfl (by decide) (q0 := 0) rfl rfl) rfl rfl hl.1 rfl (lv_room (Nat.le_of_ble_eq_true rfl)) dX4_putPiece_68 ⟨Nat.le_of_ble_eq_true rfl, Nat.le_of_ble_eq_true rfl⟩) rfl rfl (by decide) (by decide) (ws' := (wF_StreamMaker_Bytes_Bytes g h_o h_o_made h_o_made_row h_a h_a_row h_b h_b_row r1.1 o_made_row_n r1.2 a_count a_row_n a_row_c b_count b_row_n b_row_c)) rfl (by decide) (fun H locs hW => ?_)
  refine lv_aload_n C0.x C0.b dX4_putPiece_71 rfl (lv_at hl 0 rfl) ?_
  refine x_get C0 hW iw_X4 0 rfl rfl 0 (by decide) (List.mem_cons_of_mem _ wl_67) (v := .ref h_o_made) rfl dX4_putPiece_72 ?_
  refine lv_aload_n C0.x C0.b dX4_putPiece_75 rfl (lv_at hl 1 rfl) ?_
  refine lv_iload_n C0.x C0.b dX4_putPiece_76 rfl (lv_at hl 2 rfl) ?_
  refine lv_iload_n C0.x C0.b dX4_putPiece_77 rfl (lv_at hl 3 rfl) ?_
  obtain ⟨r3, e4, hF⟩ := ob hF
  refine go_i C0 hW [3, 4] [0, 1, 2, 5, 6] [0, 1, 2, 5, 6, 3, 4] (va_runV (As := [.int p2, .int p3]) (rest := [.ref h_o_made]) C0.fix (c_X1_maskedCrc l g h_a h_a_row e4 _) (cwV 2 C0.ts (gw_V wl_460 wl_461 wl_462 wl_15 wl_463) rfl rfl rfl (by decide +kernel) ⟨Nat.le_of_ble_eq_true rfl, Nat.le_of_ble_eq_true rfl⟩) (pcv_of C0 hW [3, 4] rfl (by decide) (q0 := 3) rfl rfl) rfl rfl hl.1 rfl (lv_room (Nat.le_of_ble_eq_true rfl)) dX4_putPiece_78 ⟨Nat.le_of_ble_eq_true rfl, Nat.le_of_ble_eq_true rfl⟩) rfl rfl (by decide) (by decide) (ws' := (wF_StreamMaker_Bytes_Bytes g h_o h_o_made h_o_made_row h_a h_a_row h_b h_b_row r1.1 o_made_row_n r1.2 a_count a_row_n a_row_c b_count b_row_n b_row_c)) rfl (by decide) (fun H locs hW => ?_)
  refine lv_iconst (v := (4 : Int32)) C0.x C0.b dX4_putPiece_81 (by decide) ?_
  obtain ⟨r5, e6, hF⟩ := ob hF
  refine go_v C0 hW [1, 2] [0, 3, 4, 5, 6] [0, 5, 6, 1, 2, 3, 4] (va_runV (As := [.int r3, .int (4 : Int32)]) (rest := []) C0.fix (c_X1_putLowestFirst l g h_o_made h_o_made_row e6 _) (cwV 2 C0.ts (gw_V wl_453 wl_282 wl_283 wl_15 wl_284) rfl rfl rfl (by decide +kernel) ⟨Nat.le_of_ble_eq_true rfl, Nat.le_of_ble_eq_true rfl⟩) (pcv_of C0 hW [1, 2] rfl (by decide) (q0 := 1) rfl rfl) rfl rfl hl.1 rfl (lv_room (Nat.le_of_ble_eq_true rfl)) dX4_putPiece_82 ⟨Nat.le_of_ble_eq_true rfl, Nat.le_of_ble_eq_true rfl⟩) rfl rfl (by decide) (by decide) (ws' := (wF_StreamMaker_Bytes_Bytes g h_o h_o_made h_o_made_row h_a h_a_row h_b h_b_row r5.1 o_made_row_n r5.2 a_count a_row_n a_row_c b_count b_row_n b_row_c)) rfl (by decide) (fun H locs hW => ?_)
  refine lv_iload C0.x C0.b dX4_putPiece_85 (lv_at hl 5 rfl) ?_
  refine lv_if_eq (tgt := 108) C0.x C0.b dX4_putPiece_87 (by decide) (fun c7 => ?_) (fun c7 => ?_)
  · have hF := it_t hF c7
    refine lv_aload_n C0.x C0.b dX4_putPiece_108 rfl (lv_at hl 0 rfl) ?_
    refine x_get C0 hW iw_X4 0 rfl rfl 0 (by decide) (List.mem_cons_of_mem _ wl_67) (v := .ref h_o_made) rfl dX4_putPiece_109 ?_
    refine lv_aload_n C0.x C0.b dX4_putPiece_112 rfl (lv_at hl 1 rfl) ?_
    refine lv_iload_n C0.x C0.b dX4_putPiece_113 rfl (lv_at hl 2 rfl) ?_
    refine lv_iload_n C0.x C0.b dX4_putPiece_114 rfl (lv_at hl 3 rfl) ?_
    obtain ⟨r8, e9, hF⟩ := ob hF
    refine go_v C0 hW [1, 2, 3, 4] [0, 5, 6] [0, 3, 4, 5, 6, 1, 2] (va_runV (As := [.ref h_a, .int p2, .int p3]) (rest := []) C0.fix (c_X1_putAll l g h_o_made h_o_made_row h_a h_a_row e9 _) (cwV 3 C0.ts (gw_V wl_474 wl_226 wl_227 wl_15 wl_228) rfl rfl rfl (by decide +kernel) ⟨Nat.le_of_ble_eq_true rfl, Nat.le_of_ble_eq_true rfl⟩) (pcv_of C0 hW [1, 2, 3, 4] rfl (by decide) (q0 := 1) rfl rfl) rfl rfl hl.1 rfl (lv_room (Nat.le_of_ble_eq_true rfl)) dX4_putPiece_115 ⟨Nat.le_of_ble_eq_true rfl, Nat.le_of_ble_eq_true rfl⟩) rfl rfl (by decide) (by decide) (ws' := (wF_StreamMaker_Bytes_Bytes g h_o h_o_made h_o_made_row h_a h_a_row h_b h_b_row r8.1 o_made_row_n r8.2 a_count a_row_n a_row_c b_count b_row_n b_row_c)) rfl (by decide) (fun H locs hW => ?_)
    refine lv_iconst (v := (1 : Int32)) C0.x C0.b dX4_putPiece_118 (by decide) ?_
    obtain rfl := Option.some.inj hF
    exact x_iret C0 hW (by decide) rfl dX4_putPiece_119
  · have hF := it_f hF c7
    refine lv_aload_n C0.x C0.b dX4_putPiece_90 rfl (lv_at hl 0 rfl) ?_
    refine x_get C0 hW iw_X4 0 rfl rfl 0 (by decide) (List.mem_cons_of_mem _ wl_67) (v := .ref h_o_made) rfl dX4_putPiece_91 ?_
    refine lv_aload C0.x C0.b dX4_putPiece_94 (lv_at hl 4 rfl) ?_
    refine lv_iconst (v := (0 : Int32)) C0.x C0.b dX4_putPiece_96 (by decide) ?_
    refine lv_aload C0.x C0.b dX4_putPiece_97 (lv_at hl 4 rfl) ?_
    refine x_getN C0 hW iw_X1 5 rfl rfl 1 (by decide) (List.mem_of_getElem? (i := 15) rfl) (v := .int b_count) rfl dX4_putPiece_99 ?_
    obtain ⟨r10, e11, hF⟩ := ob hF
    refine go_v C0 hW [1, 2, 5, 6] [0, 3, 4] [0, 3, 4, 1, 2, 5, 6] (va_runV (As := [.ref h_b, .int (0 : Int32), .int b_count]) (rest := []) C0.fix (c_X1_putAll l g h_o_made h_o_made_row h_b h_b_row e11 _) (cwV 3 C0.ts (gw_V wl_474 wl_226 wl_227 wl_15 wl_228) rfl rfl rfl (by decide +kernel) ⟨Nat.le_of_ble_eq_true rfl, Nat.le_of_ble_eq_true rfl⟩) (pcv_of C0 hW [1, 2, 5, 6] rfl (by decide) (q0 := 1) rfl rfl) rfl rfl hl.1 rfl (lv_room (Nat.le_of_ble_eq_true rfl)) dX4_putPiece_102 ⟨Nat.le_of_ble_eq_true rfl, Nat.le_of_ble_eq_true rfl⟩) rfl rfl (by decide) (by decide) (ws' := (wF_StreamMaker_Bytes_Bytes g h_o h_o_made h_o_made_row h_a h_a_row h_b h_b_row r10.1 o_made_row_n r10.2 a_count a_row_n a_row_c b_count b_row_n b_row_c)) rfl (by decide) (fun H locs hW => ?_)
    refine lv_goto (tgt := 118) C0.x C0.b dX4_putPiece_105 (by decide) ?_
    refine lv_iconst (v := (1 : Int32)) C0.x C0.b dX4_putPiece_118 (by decide) ?_
    obtain rfl := Option.some.inj hF
    exact x_iret C0 hW (by decide) rfl dX4_putPiece_119

set_option maxHeartbeats 4000000 in
set_option maxRecDepth 100000 in
theorem w_X4_putPiece_b36 (l : Launch) (g : GX) (h_o h_o_made h_o_made_row h_a h_a_row h_b h_b_row : Nat) {K : Nat} {o_made_row_n : Nat} {a_count : Int32} {a_row_n : Nat} {a_row_c : Nat → Int32} {b_count : Int32} {b_row_n : Nat} {b_row_c : Nat → Int32} {p2 : Int32} {p3 : Int32} {o : Int32 × Int32 × (Nat → Int32)} {wc : va_W} {p : Program} {e : Env} {s : State} {m : MethodId} {args : Array Value} {below : List Frame} {meth : Method} {c : Code} (C0 : bx g p s m meth c args cX4_putPiece 7 (some .boolean) yX4_putPiece wA_X4_putPiece (va_A wc s.heap.size)) :
    ∀ (o_made_count : Int32) (o_made_row_c : Nat → Int32) (x5 : Int32) (t0 : Int32) (t1 : Int32), f_X4_putPiece_b36 K o_made_row_n a_count a_row_n a_row_c b_count b_row_n b_row_c p2 p3 o_made_count o_made_row_c x5 t0 t1 = some o → ∀ (H : Heap) (locs : List Loc) (ls : Array Slot), ww g (va_A wc s.heap.size) s (wF_StreamMaker_Bytes_Bytes g h_o h_o_made h_o_made_row h_a h_a_row h_b h_b_row o_made_count o_made_row_n o_made_row_c a_count a_row_n a_row_c b_count b_row_n b_row_c) H locs → lv_has ls 7 [(0, .ref h_o), (1, .ref h_a), (2, .int p2), (3, .int p3), (4, .ref h_b), (5, .int x5)] → W p l e rm_X4_putPiece s m args below meth c H locs 0 0 (MQ below (qcI g wc s.heap.size o.1 (wF_StreamMaker_Bytes_Bytes g h_o h_o_made h_o_made_row h_a h_a_row h_b h_b_row o.2.1 o_made_row_n o.2.2 a_count a_row_n a_row_c b_count b_row_n b_row_c)) args s 0 0 (va_A wc s.heap.size)) (F0 m 36 ls [.int t0, .int t1]) := by
  intro o_made_count o_made_row_c x5 t0 t1 hF H locs ls hW hl
  unfold f_X4_putPiece_b36 at hF
  refine lv_iadd C0.x C0.b dX4_putPiece_36 ?_
  refine lv_istore (lv' := [(6, .int (t1 + t0)), (0, .ref h_o), (1, .ref h_a), (2, .int p2), (3, .int p3), (4, .ref h_b), (5, .int x5)]) C0.x C0.b dX4_putPiece_37 hl (by decide) rfl (fun ls hl => ?_)
  refine lv_aload_n C0.x C0.b dX4_putPiece_39 rfl (lv_at hl 1 rfl) ?_
  refine x_get C0 hW iw_X4 0 rfl rfl 0 (by decide) (List.mem_cons_of_mem _ wl_67) (v := .ref h_o_made) rfl dX4_putPiece_40 ?_
  refine lv_iconst (v := (4 : Int32)) C0.x C0.b dX4_putPiece_43 (by decide) ?_
  refine lv_iload C0.x C0.b dX4_putPiece_44 (lv_at hl 0 rfl) ?_
  refine lv_iadd C0.x C0.b dX4_putPiece_46 ?_
  obtain ⟨r1, e2, hF⟩ := ob hF
  refine go_i C0 hW [1, 2] [0, 3, 4, 5, 6] [0, 5, 6, 1, 2, 3, 4] (va_runV (As := [.int ((4 : Int32) + (t1 + t0))]) (rest := []) C0.fix (c_X1_hasRoomFor l g h_o_made h_o_made_row o_made_row_c e2 _) (cwV 1 C0.ts (gw_V wl_459 wl_133 wl_134 wl_15 wl_135) rfl rfl rfl (by decide +kernel) ⟨Nat.le_of_ble_eq_true rfl, Nat.le_of_ble_eq_true rfl⟩) (pcv_of C0 hW [1, 2] rfl (by decide) (q0 := 1) rfl rfl) rfl rfl hl.1 rfl (lv_room (Nat.le_of_ble_eq_true rfl)) dX4_putPiece_47 ⟨Nat.le_of_ble_eq_true rfl, Nat.le_of_ble_eq_true rfl⟩) rfl rfl (by decide) (by decide) (ws' := (wF_StreamMaker_Bytes_Bytes g h_o h_o_made h_o_made_row h_a h_a_row h_b h_b_row o_made_count o_made_row_n o_made_row_c a_count a_row_n a_row_c b_count b_row_n b_row_c)) rfl (by decide) (fun H locs hW => ?_)
  refine lv_if_ne (tgt := 55) C0.x C0.b dX4_putPiece_50 (by decide) (fun c3 => ?_) (fun c3 => ?_)
  · have hF := it_f hF c3
    refine lv_aload_n C0.x C0.b dX4_putPiece_55 rfl (lv_at hl 1 rfl) ?_
    refine lv_iload C0.x C0.b dX4_putPiece_56 (lv_at hl 6 rfl) ?_
    refine lv_if_eq (tgt := 65) C0.x C0.b dX4_putPiece_58 (by decide) (fun c4 => ?_) (fun c4 => ?_)
    · have hF := it_t hF c4
      refine lv_iconst (v := (1 : Int32)) C0.x C0.b dX4_putPiece_65 (by decide) ?_
      exact w_X4_putPiece_b66 l g h_o h_o_made h_o_made_row h_a h_a_row h_b h_b_row C0 o_made_count o_made_row_c x5 (t1 + t0) (1 : Int32) hF _ _ _ hW (lv_sub hl [1, 2, 3, 4, 5, 6, 0] rfl)
    · have hF := it_f hF c4
      refine lv_iconst (v := (0 : Int32)) C0.x C0.b dX4_putPiece_61 (by decide) ?_
      refine lv_goto (tgt := 66) C0.x C0.b dX4_putPiece_62 (by decide) ?_
      exact w_X4_putPiece_b66 l g h_o h_o_made h_o_made_row h_a h_a_row h_b h_b_row C0 o_made_count o_made_row_c x5 (t1 + t0) (0 : Int32) hF _ _ _ hW (lv_sub hl [1, 2, 3, 4, 5, 6, 0] rfl)
  · have hF := it_t hF c3
    refine lv_iconst (v := (0 : Int32)) C0.x C0.b dX4_putPiece_53 (by decide) ?_
    obtain rfl := Option.some.inj hF
    exact x_iret C0 hW (by decide) rfl dX4_putPiece_54

set_option maxHeartbeats 4000000 in
set_option maxRecDepth 100000 in
theorem w_X4_putPiece_b19 (l : Launch) (g : GX) (h_o h_o_made h_o_made_row h_a h_a_row h_b h_b_row : Nat) {K : Nat} {o_made_row_n : Nat} {a_count : Int32} {a_row_n : Nat} {a_row_c : Nat → Int32} {b_count : Int32} {b_row_n : Nat} {b_row_c : Nat → Int32} {p2 : Int32} {p3 : Int32} {o : Int32 × Int32 × (Nat → Int32)} {wc : va_W} {p : Program} {e : Env} {s : State} {m : MethodId} {args : Array Value} {below : List Frame} {meth : Method} {c : Code} (C0 : bx g p s m meth c args cX4_putPiece 7 (some .boolean) yX4_putPiece wA_X4_putPiece (va_A wc s.heap.size)) :
    ∀ (o_made_count : Int32) (o_made_row_c : Nat → Int32) (t0 : Int32), f_X4_putPiece_b19 K o_made_row_n a_count a_row_n a_row_c b_count b_row_n b_row_c p2 p3 o_made_count o_made_row_c t0 = some o → ∀ (H : Heap) (locs : List Loc) (ls : Array Slot), ww g (va_A wc s.heap.size) s (wF_StreamMaker_Bytes_Bytes g h_o h_o_made h_o_made_row h_a h_a_row h_b h_b_row o_made_count o_made_row_n o_made_row_c a_count a_row_n a_row_c b_count b_row_n b_row_c) H locs → lv_has ls 7 [(0, .ref h_o), (1, .ref h_a), (2, .int p2), (3, .int p3), (4, .ref h_b)] → W p l e rm_X4_putPiece s m args below meth c H locs 0 0 (MQ below (qcI g wc s.heap.size o.1 (wF_StreamMaker_Bytes_Bytes g h_o h_o_made h_o_made_row h_a h_a_row h_b h_b_row o.2.1 o_made_row_n o.2.2 a_count a_row_n a_row_c b_count b_row_n b_row_c)) args s 0 0 (va_A wc s.heap.size)) (F0 m 19 ls [.int t0]) := by
  intro o_made_count o_made_row_c t0 hF H locs ls hW hl
  unfold f_X4_putPiece_b19 at hF
  refine lv_istore (lv' := [(5, .int t0), (0, .ref h_o), (1, .ref h_a), (2, .int p2), (3, .int p3), (4, .ref h_b)]) C0.x C0.b dX4_putPiece_19 hl (by decide) rfl (fun ls hl => ?_)
  refine lv_iconst (v := (4 : Int32)) C0.x C0.b dX4_putPiece_21 (by decide) ?_
  refine lv_iload C0.x C0.b dX4_putPiece_22 (lv_at hl 0 rfl) ?_
  refine lv_if_eq (tgt := 35) C0.x C0.b dX4_putPiece_24 (by decide) (fun c1 => ?_) (fun c1 => ?_)
  · have hF := it_t hF c1
    refine lv_iload_n C0.x C0.b dX4_putPiece_35 rfl (lv_at hl 4 rfl) ?_
    exact w_X4_putPiece_b36 l g h_o h_o_made h_o_made_row h_a h_a_row h_b h_b_row C0 o_made_count o_made_row_c t0 p3 (4 : Int32) hF _ _ _ hW (lv_sub hl [1, 2, 3, 4, 5, 0] rfl)
  · have hF := it_f hF c1
    refine lv_aload C0.x C0.b dX4_putPiece_27 (lv_at hl 5 rfl) ?_
    refine x_getN C0 hW iw_X1 5 rfl rfl 1 (by decide) (List.mem_of_getElem? (i := 15) rfl) (v := .int b_count) rfl dX4_putPiece_29 ?_
    refine lv_goto (tgt := 36) C0.x C0.b dX4_putPiece_32 (by decide) ?_
    exact w_X4_putPiece_b36 l g h_o h_o_made h_o_made_row h_a h_a_row h_b h_b_row C0 o_made_count o_made_row_c t0 b_count (4 : Int32) hF _ _ _ hW (lv_sub hl [1, 2, 3, 4, 5, 0] rfl)

set_option maxHeartbeats 4000000 in
set_option maxRecDepth 100000 in
/-- SnapHouse$StreamMaker.putPiece(LSnapHouse$Bytes;IILSnapHouse$Bytes;)Z -/
theorem c_X4_putPiece (l : Launch) (g : GX) (h_o h_o_made h_o_made_row h_a h_a_row h_b h_b_row : Nat) {K : Nat} {o_made_count : Int32} {o_made_row_n : Nat} {o_made_row_c : Nat → Int32} {a_count : Int32} {a_row_n : Nat} {a_row_c : Nat → Int32} {b_count : Int32} {b_row_n : Nat} {b_row_c : Nat → Int32} {p2 : Int32} {p3 : Int32} {o : Int32 × Int32 × (Nat → Int32)} (hF : f_X4_putPiece K o_made_count o_made_row_n o_made_row_c a_count a_row_n a_row_c b_count b_row_n b_row_c p2 p3 = some o) : mcI g l yX4_putPiece wA_X4_putPiece rm_X4_putPiece [.ref h_o, .ref h_a, .int p2, .int p3, .ref h_b] (wF_StreamMaker_Bytes_Bytes g h_o h_o_made h_o_made_row h_a h_a_row h_b h_b_row o_made_count o_made_row_n o_made_row_c a_count a_row_n a_row_c b_count b_row_n b_row_c) o.1 (wF_StreamMaker_Bytes_Bytes g h_o h_o_made h_o_made_row h_a h_a_row h_b h_b_row o.2.1 o_made_row_n o.2.2 a_count a_row_n a_row_c b_count b_row_n b_row_c) 0 0 := by
  refine x_start (cc := cX4_putPiece) (maxL := 7) (ret := (some .boolean)) (by decide) rfl (Nat.le_of_ble_eq_true rfl) ?_
  intro p e s m below meth c ls C0 hW hl
  have hl : lv_has ls 7 [(0, .ref h_o), (1, .ref h_a), (2, .int p2), (3, .int p3), (4, .ref h_b)] := hl
  unfold f_X4_putPiece at hF
  refine lv_aload C0.x C0.b dX4_putPiece_0 (lv_at hl 4 rfl) ?_
  refine x_getN C0 hW iw_X1 5 rfl rfl 1 (by decide) (List.mem_of_getElem? (i := 15) rfl) (v := .int b_count) rfl dX4_putPiece_2 ?_
  refine lv_iload_n C0.x C0.b dX4_putPiece_5 rfl (lv_at hl 3 rfl) ?_
  refine lv_iload_n C0.x C0.b dX4_putPiece_6 rfl (lv_at hl 3 rfl) ?_
  refine lv_bipush (v := (8 : Int32)) C0.x C0.b dX4_putPiece_7 (by decide) ?_
  refine lv_idiv C0.x C0.b dX4_putPiece_9 (by decide) ?_
  refine lv_isub C0.x C0.b dX4_putPiece_10 ?_
  refine lv_icmp_ge (tgt := 18) C0.x C0.b dX4_putPiece_11 (by decide) (fun c1 => ?_) (fun c1 => ?_)
  · have hF := it_t hF c1
    refine lv_iconst (v := (0 : Int32)) C0.x C0.b dX4_putPiece_18 (by decide) ?_
    exact w_X4_putPiece_b19 l g h_o h_o_made h_o_made_row h_a h_a_row h_b h_b_row C0 o_made_count o_made_row_c (0 : Int32) hF _ _ _ hW (lv_sub hl [0, 1, 2, 3, 4] rfl)
  · have hF := it_f hF c1
    refine lv_iconst (v := (1 : Int32)) C0.x C0.b dX4_putPiece_14 (by decide) ?_
    refine lv_goto (tgt := 19) C0.x C0.b dX4_putPiece_15 (by decide) ?_
    exact w_X4_putPiece_b19 l g h_o h_o_made h_o_made_row h_a h_a_row h_b h_b_row C0 o_made_count o_made_row_c (1 : Int32) hF _ _ _ hW (lv_sub hl [0, 1, 2, 3, 4] rfl)

abbrev rm_X4_makeStream : Room := { frames := 5, cells := 0, slots := 0, locals := 117 }

set_option maxHeartbeats 4000000 in
set_option maxRecDepth 100000 in
theorem w_X4_makeStream_b69 (l : Launch) (g : GX) (h_o h_o_made h_o_made_row h_a h_a_row h_b h_b_block h_b_block_row h_b_slots : Nat) {K : Nat} {o_made_row_n : Nat} {a_count : Int32} {a_row_n : Nat} {a_row_c : Nat → Int32} {b_block_row_n : Nat} {b_slots_n : Nat} {p2 : Int32} {o : Int32 × Int32 × (Nat → Int32) × Int32 × Int32 × (Nat → Int32) × (Nat → Int32)} {wc : va_W} {p : Program} {e : Env} {s : State} {m : MethodId} {args : Array Value} {below : List Frame} {meth : Method} {c : Code} (C0 : bx g p s m meth c args cX4_makeStream 8 (some .boolean) yX4_makeStream wA_X4_makeStream (va_A wc s.heap.size)) :
    ∀ (n : Nat) (o_made_count : Int32) (o_made_row_c : Nat → Int32) (b_slotMask : Int32) (b_block_count : Int32) (b_block_row_c : Nat → Int32) (b_slots_c : Nat → Int32) (x4 : Int32) (x5 : Int32), f_X4_makeStream_b69 K o_made_row_n a_count a_row_n a_row_c b_block_row_n b_slots_n p2 n o_made_count o_made_row_c b_slotMask b_block_count b_block_row_c b_slots_c x4 x5 = some o → ∀ (H : Heap) (locs : List Loc) (ls : Array Slot), ww g (va_A wc s.heap.size) s (wF_StreamMaker_Bytes_Presser g h_o h_o_made h_o_made_row h_a h_a_row h_b h_b_block h_b_block_row h_b_slots o_made_count o_made_row_n o_made_row_c a_count a_row_n a_row_c b_slotMask b_block_count b_block_row_n b_block_row_c b_slots_n b_slots_c) H locs → lv_has ls 8 [(0, .ref h_o), (1, .ref h_a), (3, .ref h_b), (4, .int x4), (5, .int x5)] → W p l e rm_X4_makeStream s m args below meth c H locs 0 0 (MQ below (qcI g wc s.heap.size o.1 (wF_StreamMaker_Bytes_Presser g h_o h_o_made h_o_made_row h_a h_a_row h_b h_b_block h_b_block_row h_b_slots o.2.1 o_made_row_n o.2.2.1 a_count a_row_n a_row_c o.2.2.2.1 o.2.2.2.2.1 b_block_row_n o.2.2.2.2.2.1 b_slots_n o.2.2.2.2.2.2)) args s 0 0 (va_A wc s.heap.size)) (F0 m 69 ls []) := by
  intro n
  induction n with
  | zero => intro o_made_count o_made_row_c b_slotMask b_block_count b_block_row_c b_slots_c x4 x5 hF; cases (show (none : Option (Int32 × Int32 × (Nat → Int32) × Int32 × Int32 × (Nat → Int32) × (Nat → Int32))) = some o from hF)
  | succ n ih =>
    intro o_made_count o_made_row_c b_slotMask b_block_count b_block_row_c b_slots_c x4 x5 hF H locs ls hW hl
    rw [f_X4_makeStream_b69] at hF
    refine lv_iload C0.x C0.b dX4_makeStream_69 (lv_at hl 4 rfl) ?_
    refine lv_aload_n C0.x C0.b dX4_makeStream_71 rfl (lv_at hl 1 rfl) ?_
    refine x_getN C0 hW iw_X1 3 rfl rfl 1 (by decide) (List.mem_of_getElem? (i := 15) rfl) (v := .int a_count) rfl dX4_makeStream_72 ?_
    refine lv_icmp_ge (tgt := 129) C0.x C0.b dX4_makeStream_75 (by decide) (fun c1 => ?_) (fun c1 => ?_)
    · have hF := it_t hF c1
      refine lv_iconst (v := (1 : Int32)) C0.x C0.b dX4_makeStream_129 (by decide) ?_
      obtain rfl := Option.some.inj hF
      exact x_iret C0 hW (by decide) rfl dX4_makeStream_130
    · have hF := it_f hF c1
      refine lv_iload C0.x C0.b dX4_makeStream_78 (lv_at hl 3 rfl) ?_
      refine lv_aload_n C0.x C0.b dX4_makeStream_80 rfl (lv_at hl 1 rfl) ?_
      refine x_getN C0 hW iw_X1 3 rfl rfl 1 (by decide) (List.mem_of_getElem? (i := 15) rfl) (v := .int a_count) rfl dX4_makeStream_81 ?_
      refine lv_iload C0.x C0.b dX4_makeStream_84 (lv_at hl 4 rfl) ?_
      refine lv_isub C0.x C0.b dX4_makeStream_86 ?_
      refine x_min C0 hl.1 (List.mem_cons_of_mem _ wl_446) (List.mem_cons_of_mem _ wl_402) (List.mem_cons_of_mem _ wl_50) (List.mem_cons_of_mem _ wl_403) (Nat.le_of_ble_eq_true rfl) (Nat.le_of_ble_eq_true rfl) (Nat.le_of_ble_eq_true rfl) (Nat.le_of_ble_eq_true rfl) dX4_makeStream_87 ?_
      refine lv_istore (lv' := [(6, .int (if (a_count - x5) < x4 then (a_count - x5) else x4)), (0, .ref h_o), (1, .ref h_a), (3, .ref h_b), (4, .int x4), (5, .int x5)]) C0.x C0.b dX4_makeStream_90 hl (by decide) rfl (fun ls hl => ?_)
      refine lv_aload_n C0.x C0.b dX4_makeStream_92 rfl (lv_at hl 3 rfl) ?_
      refine lv_aload_n C0.x C0.b dX4_makeStream_93 rfl (lv_at hl 2 rfl) ?_
      refine lv_iload C0.x C0.b dX4_makeStream_94 (lv_at hl 5 rfl) ?_
      refine lv_iload C0.x C0.b dX4_makeStream_96 (lv_at hl 0 rfl) ?_
      obtain ⟨r2, e3, hF⟩ := ob hF
      refine go_v C0 hW [5, 6, 7, 8, 3, 4] [0, 1, 2] [0, 1, 2, 7, 8, 3, 4, 5, 6] (va_runV (As := [.ref h_a, .int x5, .int (if (a_count - x5) < x4 then (a_count - x5) else x4)]) (rest := []) C0.fix (c_X2_pressBlock l g h_b h_b_block h_b_block_row h_b_slots h_a h_a_row e3 _) (cwV 3 C0.ts (gw_V wl_454 wl_251 wl_252 wl_20 wl_253) rfl rfl rfl (by decide +kernel) ⟨Nat.le_of_ble_eq_true rfl, Nat.le_of_ble_eq_true rfl⟩) (pcv_of C0 hW [5, 6, 7, 8, 3, 4] rfl (by decide) (q0 := 5) rfl rfl) rfl rfl hl.1 rfl (lv_room (Nat.le_of_ble_eq_true rfl)) dX4_makeStream_98 ⟨Nat.le_of_ble_eq_true rfl, Nat.le_of_ble_eq_true rfl⟩) rfl rfl (by decide) (by decide) (ws' := (wF_StreamMaker_Bytes_Presser g h_o h_o_made h_o_made_row h_a h_a_row h_b h_b_block h_b_block_row h_b_slots o_made_count o_made_row_n o_made_row_c a_count a_row_n a_row_c r2.1 r2.2.1 b_block_row_n r2.2.2.1 b_slots_n r2.2.2.2)) rfl (by decide) (fun H locs hW => ?_)
      refine lv_aload_n C0.x C0.b dX4_makeStream_101 rfl (lv_at hl 1 rfl) ?_
      refine lv_aload_n C0.x C0.b dX4_makeStream_102 rfl (lv_at hl 2 rfl) ?_
      refine lv_iload C0.x C0.b dX4_makeStream_103 (lv_at hl 5 rfl) ?_
      refine lv_iload C0.x C0.b dX4_makeStream_105 (lv_at hl 0 rfl) ?_
      refine lv_aload_n C0.x C0.b dX4_makeStream_107 rfl (lv_at hl 3 rfl) ?_
      refine x_getN C0 hW iw_X2 5 rfl rfl 0 (by decide) (List.mem_of_getElem? (i := 16) rfl) (v := .ref h_b_block) rfl dX4_makeStream_108 ?_
      obtain ⟨r4, e5, hF⟩ := ob hF
      refine go_i C0 hW [0, 1, 2, 3, 4, 6, 7] [5, 8] [2, 3, 4, 5, 6, 0, 7, 8, 1] (va_runV (As := [.ref h_a, .int x5, .int (if (a_count - x5) < x4 then (a_count - x5) else x4), .ref h_b_block]) (rest := []) C0.fix (c_X4_putPiece l g h_o h_o_made h_o_made_row h_a h_a_row h_b_block h_b_block_row e5 _) (cwV 4 C0.ts (gw_V wl_455 wl_456 wl_457 wl_24 wl_458) rfl rfl rfl (by decide +kernel) ⟨Nat.le_of_ble_eq_true rfl, Nat.le_of_ble_eq_true rfl⟩) (pcv_of C0 hW [0, 1, 2, 3, 4, 6, 7] rfl (by decide) (q0 := 0) rfl rfl) rfl rfl hl.1 rfl (lv_room (Nat.le_of_ble_eq_true rfl)) dX4_makeStream_111 ⟨Nat.le_of_ble_eq_true rfl, Nat.le_of_ble_eq_true rfl⟩) rfl rfl (by decide) (by decide) (ws' := (wF_StreamMaker_Bytes_Presser g h_o h_o_made h_o_made_row h_a h_a_row h_b h_b_block h_b_block_row h_b_slots r4.2.1 o_made_row_n r4.2.2 a_count a_row_n a_row_c r2.1 r2.2.1 b_block_row_n r2.2.2.1 b_slots_n r2.2.2.2)) rfl (by decide) (fun H locs hW => ?_)
      refine lv_if_ne (tgt := 119) C0.x C0.b dX4_makeStream_114 (by decide) (fun c6 => ?_) (fun c6 => ?_)
      · have hF := it_f hF c6
        refine lv_iload C0.x C0.b dX4_makeStream_119 (lv_at hl 5 rfl) ?_
        refine lv_iload C0.x C0.b dX4_makeStream_121 (lv_at hl 4 rfl) ?_
        refine lv_iadd C0.x C0.b dX4_makeStream_123 ?_
        refine lv_istore (lv' := [(5, .int (x5 + x4)), (6, .int (if (a_count - x5) < x4 then (a_count - x5) else x4)), (0, .ref h_o), (1, .ref h_a), (3, .ref h_b), (4, .int x4)]) C0.x C0.b dX4_makeStream_124 hl (by decide) rfl (fun ls hl => ?_)
        refine lv_goto (tgt := 69) C0.x C0.b dX4_makeStream_126 (by decide) ?_
        exact ih r4.2.1 r4.2.2 r2.1 r2.2.1 r2.2.2.1 r2.2.2.2 x4 (x5 + x4) hF _ _ _ hW (lv_sub hl [2, 3, 4, 5, 0] rfl)
      · have hF := it_t hF c6
        refine lv_iconst (v := (0 : Int32)) C0.x C0.b dX4_makeStream_117 (by decide) ?_
        obtain rfl := Option.some.inj hF
        exact x_iret C0 hW (by decide) rfl dX4_makeStream_118

set_option maxHeartbeats 4000000 in
set_option maxRecDepth 100000 in
theorem w_X4_makeStream_b30 (l : Launch) (g : GX) (h_o h_o_made h_o_made_row h_a h_a_row h_b h_b_block h_b_block_row h_b_slots : Nat) {K : Nat} {o_made_row_n : Nat} {a_count : Int32} {a_row_n : Nat} {a_row_c : Nat → Int32} {b_block_row_n : Nat} {b_slots_n : Nat} {p2 : Int32} {o : Int32 × Int32 × (Nat → Int32) × Int32 × Int32 × (Nat → Int32) × (Nat → Int32)} {wc : va_W} {p : Program} {e : Env} {s : State} {m : MethodId} {args : Array Value} {below : List Frame} {meth : Method} {c : Code} (C0 : bx g p s m meth c args cX4_makeStream 8 (some .boolean) yX4_makeStream wA_X4_makeStream (va_A wc s.heap.size)) :
    ∀ (n : Nat) (o_made_count : Int32) (o_made_row_c : Nat → Int32) (b_slotMask : Int32) (b_block_count : Int32) (b_block_row_c : Nat → Int32) (b_slots_c : Nat → Int32) (x5 : Int32) (x6 : Int32), f_X4_makeStream_b30 K o_made_row_n a_count a_row_n a_row_c b_block_row_n b_slots_n p2 n o_made_count o_made_row_c b_slotMask b_block_count b_block_row_c b_slots_c x5 x6 = some o → ∀ (H : Heap) (locs : List Loc) (ls : Array Slot), ww g (va_A wc s.heap.size) s (wF_StreamMaker_Bytes_Presser g h_o h_o_made h_o_made_row h_a h_a_row h_b h_b_block h_b_block_row h_b_slots o_made_count o_made_row_n o_made_row_c a_count a_row_n a_row_c b_slotMask b_block_count b_block_row_n b_block_row_c b_slots_n b_slots_c) H locs → lv_has ls 8 [(0, .ref h_o), (1, .ref h_a), (2, .int p2), (3, .ref h_b), (4, .ref g.2.2.1), (5, .int x5), (6, .int x6)] → W p l e rm_X4_makeStream s m args below meth c H locs 0 0 (MQ below (qcI g wc s.heap.size o.1 (wF_StreamMaker_Bytes_Presser g h_o h_o_made h_o_made_row h_a h_a_row h_b h_b_block h_b_block_row h_b_slots o.2.1 o_made_row_n o.2.2.1 a_count a_row_n a_row_c o.2.2.2.1 o.2.2.2.2.1 b_block_row_n o.2.2.2.2.2.1 b_slots_n o.2.2.2.2.2.2)) args s 0 0 (va_A wc s.heap.size)) (F0 m 30 ls []) := by
  intro n
  induction n with
  | zero => intro o_made_count o_made_row_c b_slotMask b_block_count b_block_row_c b_slots_c x5 x6 hF; cases (show (none : Option (Int32 × Int32 × (Nat → Int32) × Int32 × Int32 × (Nat → Int32) × (Nat → Int32))) = some o from hF)
  | succ n ih =>
    intro o_made_count o_made_row_c b_slotMask b_block_count b_block_row_c b_slots_c x5 x6 hF H locs ls hW hl
    rw [f_X4_makeStream_b30] at hF
    refine lv_iload C0.x C0.b dX4_makeStream_30 (lv_at hl 6 rfl) ?_
    refine lv_iload C0.x C0.b dX4_makeStream_32 (lv_at hl 5 rfl) ?_
    refine lv_icmp_ge (tgt := 59) C0.x C0.b dX4_makeStream_34 (by decide) (fun c1 => ?_) (fun c1 => ?_)
    · have hF := it_t hF c1
      refine lv_iload_n C0.x C0.b dX4_makeStream_59 rfl (lv_at hl 2 rfl) ?_
      refine lv_iconst (v := (1 : Int32)) C0.x C0.b dX4_makeStream_60 (by decide) ?_
      refine x_max C0 hl.1 (List.mem_cons_of_mem _ wl_445) (List.mem_cons_of_mem _ wl_49) (List.mem_cons_of_mem _ wl_50) (List.mem_cons_of_mem _ wl_51) (Nat.le_of_ble_eq_true rfl) (Nat.le_of_ble_eq_true rfl) (Nat.le_of_ble_eq_true rfl) (Nat.le_of_ble_eq_true rfl) dX4_makeStream_61 ?_
      refine lv_istore (lv' := [(4, .int (if p2 < (1 : Int32) then (1 : Int32) else p2)), (0, .ref h_o), (1, .ref h_a), (2, .int p2), (3, .ref h_b), (5, .int x5), (6, .int x6)]) C0.x C0.b dX4_makeStream_64 hl (by decide) rfl (fun ls hl => ?_)
      refine lv_iconst (v := (0 : Int32)) C0.x C0.b dX4_makeStream_66 (by decide) ?_
      refine lv_istore (lv' := [(5, .int (0 : Int32)), (4, .int (if p2 < (1 : Int32) then (1 : Int32) else p2)), (0, .ref h_o), (1, .ref h_a), (2, .int p2), (3, .ref h_b), (6, .int x6)]) C0.x C0.b dX4_makeStream_67 hl (by decide) rfl (fun ls hl => ?_)
      exact w_X4_makeStream_b69 l g h_o h_o_made h_o_made_row h_a h_a_row h_b h_b_block h_b_block_row h_b_slots C0 K o_made_count o_made_row_c b_slotMask b_block_count b_block_row_c b_slots_c (if p2 < (1 : Int32) then (1 : Int32) else p2) (0 : Int32) hF _ _ _ hW (lv_sub hl [2, 3, 5, 1, 0] rfl)
    · have hF := it_f hF c1
      refine lv_aload C0.x C0.b dX4_makeStream_37 (lv_at hl 4 rfl) ?_
      refine lv_iload C0.x C0.b dX4_makeStream_39 (lv_at hl 6 rfl) ?_
      obtain ⟨h2, hF⟩ := ck_some hF
      refine x_nameld C0 hW h2 dX4_makeStream_41 ?_
      refine lv_istore (lv' := [(7, .int (tb_N.getD x6.toNatClampNeg 0)), (0, .ref h_o), (1, .ref h_a), (2, .int p2), (3, .ref h_b), (4, .ref g.2.2.1), (5, .int x5), (6, .int x6)]) C0.x C0.b dX4_makeStream_42 hl (by decide) rfl (fun ls hl => ?_)
      refine lv_aload_n C0.x C0.b dX4_makeStream_44 rfl (lv_at hl 1 rfl) ?_
      refine x_get C0 hW iw_X4 0 rfl rfl 0 (by decide) (List.mem_cons_of_mem _ wl_67) (v := .ref h_o_made) rfl dX4_makeStream_45 ?_
      refine lv_iload C0.x C0.b dX4_makeStream_48 (lv_at hl 0 rfl) ?_
      obtain ⟨r3, e4, hF⟩ := ob hF
      refine go_v C0 hW [1, 2] [0, 3, 4, 5, 6, 7, 8] [0, 7, 8, 1, 2, 3, 4, 5, 6] (va_runV (As := [.int (tb_N.getD x6.toNatClampNeg 0)]) (rest := []) C0.fix (c_X1_put l g h_o_made h_o_made_row e4 _) (cwV 1 C0.ts (gw_V wl_452 wl_141 wl_142 wl_15 wl_143) rfl rfl rfl (by decide +kernel) ⟨Nat.le_of_ble_eq_true rfl, Nat.le_of_ble_eq_true rfl⟩) (pcv_of C0 hW [1, 2] rfl (by decide) (q0 := 1) rfl rfl) rfl rfl hl.1 rfl (lv_room (Nat.le_of_ble_eq_true rfl)) dX4_makeStream_50 ⟨Nat.le_of_ble_eq_true rfl, Nat.le_of_ble_eq_true rfl⟩) rfl rfl (by decide) (by decide) (ws' := (wF_StreamMaker_Bytes_Presser g h_o h_o_made h_o_made_row h_a h_a_row h_b h_b_block h_b_block_row h_b_slots r3.1 o_made_row_n r3.2 a_count a_row_n a_row_c b_slotMask b_block_count b_block_row_n b_block_row_c b_slots_n b_slots_c)) rfl (by decide) (fun H locs hW => ?_)
      refine lv_iinc (v := (x6 + (1 : Int32))) (lv' := [(6, .int (x6 + (1 : Int32))), (7, .int (tb_N.getD x6.toNatClampNeg 0)), (0, .ref h_o), (1, .ref h_a), (2, .int p2), (3, .ref h_b), (4, .ref g.2.2.1), (5, .int x5)]) C0.x C0.b dX4_makeStream_53 hl (k := 7) rfl rfl (by decide) rfl (fun ls hl => ?_)
      refine lv_goto (tgt := 30) C0.x C0.b dX4_makeStream_56 (by decide) ?_
      exact ih r3.1 r3.2 b_slotMask b_block_count b_block_row_c b_slots_c x5 (x6 + (1 : Int32)) hF _ _ _ hW (lv_sub hl [2, 3, 4, 5, 6, 7, 0] rfl)

set_option maxHeartbeats 4000000 in
set_option maxRecDepth 100000 in
/-- SnapHouse$StreamMaker.makeStream(LSnapHouse$Bytes;ILSnapHouse$Presser;)Z -/
theorem c_X4_makeStream (l : Launch) (g : GX) (h_o h_o_made h_o_made_row h_a h_a_row h_b h_b_block h_b_block_row h_b_slots : Nat) {K : Nat} {o_made_count : Int32} {o_made_row_n : Nat} {o_made_row_c : Nat → Int32} {a_count : Int32} {a_row_n : Nat} {a_row_c : Nat → Int32} {b_slotMask : Int32} {b_block_count : Int32} {b_block_row_n : Nat} {b_block_row_c : Nat → Int32} {b_slots_n : Nat} {b_slots_c : Nat → Int32} {p2 : Int32} {o : Int32 × Int32 × (Nat → Int32) × Int32 × Int32 × (Nat → Int32) × (Nat → Int32)} (hF : f_X4_makeStream K o_made_count o_made_row_n o_made_row_c a_count a_row_n a_row_c b_slotMask b_block_count b_block_row_n b_block_row_c b_slots_n b_slots_c p2 = some o) : mcI g l yX4_makeStream wA_X4_makeStream rm_X4_makeStream [.ref h_o, .ref h_a, .int p2, .ref h_b] (wF_StreamMaker_Bytes_Presser g h_o h_o_made h_o_made_row h_a h_a_row h_b h_b_block h_b_block_row h_b_slots o_made_count o_made_row_n o_made_row_c a_count a_row_n a_row_c b_slotMask b_block_count b_block_row_n b_block_row_c b_slots_n b_slots_c) o.1 (wF_StreamMaker_Bytes_Presser g h_o h_o_made h_o_made_row h_a h_a_row h_b h_b_block h_b_block_row h_b_slots o.2.1 o_made_row_n o.2.2.1 a_count a_row_n a_row_c o.2.2.2.1 o.2.2.2.2.1 b_block_row_n o.2.2.2.2.2.1 b_slots_n o.2.2.2.2.2.2) 0 0 := by
  refine x_start (cc := cX4_makeStream) (maxL := 8) (ret := (some .boolean)) (by decide) rfl (Nat.le_of_ble_eq_true rfl) ?_
  intro p e s m below meth c ls C0 hW hl
  have hl : lv_has ls 8 [(0, .ref h_o), (1, .ref h_a), (2, .int p2), (3, .ref h_b)] := hl
  unfold f_X4_makeStream at hF
  refine lv_aload_n C0.x C0.b dX4_makeStream_0 rfl (lv_at hl 0 rfl) ?_
  refine x_get C0 hW iw_X4 0 rfl rfl 0 (by decide) (List.mem_cons_of_mem _ wl_67) (v := .ref h_o_made) rfl dX4_makeStream_1 ?_
  refine lv_iconst (v := (0 : Int32)) C0.x C0.b dX4_makeStream_4 (by decide) ?_
  obtain ⟨r1, e2, hF⟩ := ob hF
  refine go_v C0 hW [1, 2] [0, 3, 4, 5, 6, 7, 8] [0, 7, 8, 1, 2, 3, 4, 5, 6] (va_runV (As := [.int (0 : Int32)]) (rest := []) C0.fix (c_X1_shorten l g h_o_made h_o_made_row o_made_row_n o_made_row_c e2 _) (cwV 1 C0.ts (gw_V wl_447 wl_193 wl_194 wl_15 wl_195) rfl rfl rfl (by decide +kernel) ⟨Nat.le_of_ble_eq_true rfl, Nat.le_of_ble_eq_true rfl⟩) (pcv_of C0 hW [1, 2] rfl (by decide) (q0 := 1) rfl rfl) rfl rfl hl.1 rfl (lv_room (Nat.le_of_ble_eq_true rfl)) dX4_makeStream_5 ⟨Nat.le_of_ble_eq_true rfl, Nat.le_of_ble_eq_true rfl⟩) rfl rfl (by decide) (by decide) (ws' := (wF_StreamMaker_Bytes_Presser g h_o h_o_made h_o_made_row h_a h_a_row h_b h_b_block h_b_block_row h_b_slots r1 o_made_row_n o_made_row_c a_count a_row_n a_row_c b_slotMask b_block_count b_block_row_n b_block_row_c b_slots_n b_slots_c)) rfl (by decide) (fun H locs hW => ?_)
  refine lv_aload_n C0.x C0.b dX4_makeStream_8 rfl (lv_at hl 0 rfl) ?_
  refine lv_sipush (v := (255 : Int32)) C0.x C0.b dX4_makeStream_9 (by decide) ?_
  refine lv_bipush (v := (6 : Int32)) C0.x C0.b dX4_makeStream_12 (by decide) ?_
  obtain ⟨r3, e4, hF⟩ := ob hF
  refine go_v C0 hW [0, 1, 2] [3, 4, 5, 6, 7, 8] [6, 7, 8, 0, 1, 2, 3, 4, 5] (va_runV (As := [.int (255 : Int32), .int (6 : Int32)]) (rest := []) C0.fix (c_X4_putHeader l g h_o h_o_made h_o_made_row e4 _) (cwV 2 C0.ts (gw_V wl_448 wl_449 wl_450 wl_24 wl_451) rfl rfl rfl (by decide +kernel) ⟨Nat.le_of_ble_eq_true rfl, Nat.le_of_ble_eq_true rfl⟩) (pcv_of C0 hW [0, 1, 2] rfl (by decide) (q0 := 0) rfl rfl) rfl rfl hl.1 rfl (lv_room (Nat.le_of_ble_eq_true rfl)) dX4_makeStream_14 ⟨Nat.le_of_ble_eq_true rfl, Nat.le_of_ble_eq_true rfl⟩) rfl rfl (by decide) (by decide) (ws' := (wF_StreamMaker_Bytes_Presser g h_o h_o_made h_o_made_row h_a h_a_row h_b h_b_block h_b_block_row h_b_slots r3.1 o_made_row_n r3.2 a_count a_row_n a_row_c b_slotMask b_block_count b_block_row_n b_block_row_c b_slots_n b_slots_c)) rfl (by decide) (fun H locs hW => ?_)
  refine x_name C0 hW (List.mem_of_getElem? (i := 14) rfl) dX4_makeStream_17 ?_
  refine lv_astore (lv' := [(4, .ref g.2.2.1), (0, .ref h_o), (1, .ref h_a), (2, .int p2), (3, .ref h_b)]) C0.x C0.b dX4_makeStream_20 hl (by decide) rfl (fun ls hl => ?_)
  refine lv_aload C0.x C0.b dX4_makeStream_22 (lv_at hl 0 rfl) ?_
  refine x_namelen C0 hW dX4_makeStream_24 ?_
  refine lv_istore (lv' := [(5, .int (Int32.ofNat 6)), (4, .ref g.2.2.1), (0, .ref h_o), (1, .ref h_a), (2, .int p2), (3, .ref h_b)]) C0.x C0.b dX4_makeStream_25 hl (by decide) rfl (fun ls hl => ?_)
  refine lv_iconst (v := (0 : Int32)) C0.x C0.b dX4_makeStream_27 (by decide) ?_
  refine lv_istore (lv' := [(6, .int (0 : Int32)), (5, .int (Int32.ofNat 6)), (4, .ref g.2.2.1), (0, .ref h_o), (1, .ref h_a), (2, .int p2), (3, .ref h_b)]) C0.x C0.b dX4_makeStream_28 hl (by decide) rfl (fun ls hl => ?_)
  exact w_X4_makeStream_b30 l g h_o h_o_made h_o_made_row h_a h_a_row h_b h_b_block h_b_block_row h_b_slots C0 K r3.1 r3.2 b_slotMask b_block_count b_block_row_c b_slots_c (Int32.ofNat 6) (0 : Int32) hF _ _ _ hW (lv_sub hl [3, 4, 5, 6, 2, 1, 0] rfl)

abbrev rm_X6_stream : Room := { frames := 6, cells := 0, slots := 0, locals := 144 }

set_option maxHeartbeats 4000000 in
set_option maxRecDepth 100000 in
/-- SnapHouse.stream(I)I -/
theorem c_X6_stream (l : Launch) (g : GX) (h_o h_o_theTape h_o_theTape_row h_o_theOut h_o_theOut_row h_o_presser h_o_presser_block h_o_presser_block_row h_o_presser_slots h_o_streamMaker h_o_streamMaker_made h_o_streamMaker_made_row h_o_blockOpener h_o_blockOpener_given h_o_blockOpener_given_row h_o_blockOpener_elements h_o_blockOpener_elements_cells h_o_streamOpener h_o_streamOpener_given h_o_streamOpener_given_row h_o_streamOpener_chunks h_o_streamOpener_chunks_cells h_o_keptElements h_o_keptElements_cells h_o_keptChunks h_o_keptChunks_cells : Nat) {K : Nat} (o_faultNumber : Int32) (o_faultPlace : Int32) (o_faultOfBlock : Int32) (o_faultPlaceInBlock : Int32) (o_blockOpener_fault : Int32) (o_blockOpener_place : Int32) (o_blockOpener_start : Int32) (o_blockOpener_end : Int32) (o_blockOpener_next : Int32) (o_blockOpener_length : Int32) (o_blockOpener_sort : Int32) (o_blockOpener_body : Int32) (o_blockOpener_size : Int64) (o_blockOpener_back : Int64) (o_blockOpener_given_count : Int32) (o_blockOpener_given_row_n : Nat) (o_blockOpener_given_row_c : Nat → Int32) (o_blockOpener_elements_count : Int32) (o_blockOpener_elements_marked : Int32) (o_blockOpener_elements_cells_n : Nat) (o_blockOpener_elements_cells_c : Nat → Int32) (o_streamOpener_fault : Int32) (o_streamOpener_place : Int32) (o_streamOpener_next : Int32) (o_streamOpener_type : Int32) (o_streamOpener_body : Int32) (o_streamOpener_size : Int32) (o_streamOpener_given_count : Int32) (o_streamOpener_given_row_n : Nat) (o_streamOpener_given_row_c : Nat → Int32) (o_streamOpener_chunks_count : Int32) (o_streamOpener_chunks_marked : Int32) (o_streamOpener_chunks_cells_n : Nat) (o_streamOpener_chunks_cells_c : Nat → Int32) (o_keptElements_count : Int32) (o_keptElements_marked : Int32) (o_keptElements_cells_n : Nat) (o_keptElements_cells_c : Nat → Int32) (o_keptChunks_count : Int32) (o_keptChunks_marked : Int32) (o_keptChunks_cells_n : Nat) (o_keptChunks_cells_c : Nat → Int32) {o_theTape_count : Int32} {o_theTape_row_n : Nat} {o_theTape_row_c : Nat → Int32} {o_theOut_count : Int32} {o_theOut_row_n : Nat} {o_theOut_row_c : Nat → Int32} {o_presser_slotMask : Int32} {o_presser_block_count : Int32} {o_presser_block_row_n : Nat} {o_presser_block_row_c : Nat → Int32} {o_presser_slots_n : Nat} {o_presser_slots_c : Nat → Int32} {o_streamMaker_made_count : Int32} {o_streamMaker_made_row_n : Nat} {o_streamMaker_made_row_c : Nat → Int32} {p1 : Int32} {o : Int32 × Int32 × (Nat → Int32) × Int32 × Int32 × (Nat → Int32) × (Nat → Int32) × Int32 × (Nat → Int32)} (hF : f_X6_stream K o_theTape_count o_theTape_row_n o_theTape_row_c o_theOut_count o_theOut_row_n o_theOut_row_c o_presser_slotMask o_presser_block_count o_presser_block_row_n o_presser_block_row_c o_presser_slots_n o_presser_slots_c o_streamMaker_made_count o_streamMaker_made_row_n o_streamMaker_made_row_c p1 = some o) : mcI g l yX6_stream wA_X6_stream rm_X6_stream [.ref h_o, .int p1] (wF_SnapHouse g h_o h_o_theTape h_o_theTape_row h_o_theOut h_o_theOut_row h_o_presser h_o_presser_block h_o_presser_block_row h_o_presser_slots h_o_streamMaker h_o_streamMaker_made h_o_streamMaker_made_row h_o_blockOpener h_o_blockOpener_given h_o_blockOpener_given_row h_o_blockOpener_elements h_o_blockOpener_elements_cells h_o_streamOpener h_o_streamOpener_given h_o_streamOpener_given_row h_o_streamOpener_chunks h_o_streamOpener_chunks_cells h_o_keptElements h_o_keptElements_cells h_o_keptChunks h_o_keptChunks_cells o_faultNumber o_faultPlace o_faultOfBlock o_faultPlaceInBlock o_theTape_count o_theTape_row_n o_theTape_row_c o_theOut_count o_theOut_row_n o_theOut_row_c o_presser_slotMask o_presser_block_count o_presser_block_row_n o_presser_block_row_c o_presser_slots_n o_presser_slots_c o_streamMaker_made_count o_streamMaker_made_row_n o_streamMaker_made_row_c o_blockOpener_fault o_blockOpener_place o_blockOpener_start o_blockOpener_end o_blockOpener_next o_blockOpener_length o_blockOpener_sort o_blockOpener_body o_blockOpener_size o_blockOpener_back o_blockOpener_given_count o_blockOpener_given_row_n o_blockOpener_given_row_c o_blockOpener_elements_count o_blockOpener_elements_marked o_blockOpener_elements_cells_n o_blockOpener_elements_cells_c o_streamOpener_fault o_streamOpener_place o_streamOpener_next o_streamOpener_type o_streamOpener_body o_streamOpener_size o_streamOpener_given_count o_streamOpener_given_row_n o_streamOpener_given_row_c o_streamOpener_chunks_count o_streamOpener_chunks_marked o_streamOpener_chunks_cells_n o_streamOpener_chunks_cells_c o_keptElements_count o_keptElements_marked o_keptElements_cells_n o_keptElements_cells_c o_keptChunks_count o_keptChunks_marked o_keptChunks_cells_n o_keptChunks_cells_c) o.1 (wF_SnapHouse g h_o h_o_theTape h_o_theTape_row h_o_theOut h_o_theOut_row h_o_presser h_o_presser_block h_o_presser_block_row h_o_presser_slots h_o_streamMaker h_o_streamMaker_made h_o_streamMaker_made_row h_o_blockOpener h_o_blockOpener_given h_o_blockOpener_given_row h_o_blockOpener_elements h_o_blockOpener_elements_cells h_o_streamOpener h_o_streamOpener_given h_o_streamOpener_given_row h_o_streamOpener_chunks h_o_streamOpener_chunks_cells h_o_keptElements h_o_keptElements_cells h_o_keptChunks h_o_keptChunks_cells o_faultNumber o_faultPlace o_faultOfBlock o_faultPlaceInBlock o_theTape_count o_theTape_row_n o_theTape_row_c o.2.1 o_theOut_row_n o.2.2.1 o.2.2.2.1 o.2.2.2.2.1 o_presser_block_row_n o.2.2.2.2.2.1 o_presser_slots_n o.2.2.2.2.2.2.1 o.2.2.2.2.2.2.2.1 o_streamMaker_made_row_n o.2.2.2.2.2.2.2.2 o_blockOpener_fault o_blockOpener_place o_blockOpener_start o_blockOpener_end o_blockOpener_next o_blockOpener_length o_blockOpener_sort o_blockOpener_body o_blockOpener_size o_blockOpener_back o_blockOpener_given_count o_blockOpener_given_row_n o_blockOpener_given_row_c o_blockOpener_elements_count o_blockOpener_elements_marked o_blockOpener_elements_cells_n o_blockOpener_elements_cells_c o_streamOpener_fault o_streamOpener_place o_streamOpener_next o_streamOpener_type o_streamOpener_body o_streamOpener_size o_streamOpener_given_count o_streamOpener_given_row_n o_streamOpener_given_row_c o_streamOpener_chunks_count o_streamOpener_chunks_marked o_streamOpener_chunks_cells_n o_streamOpener_chunks_cells_c o_keptElements_count o_keptElements_marked o_keptElements_cells_n o_keptElements_cells_c o_keptChunks_count o_keptChunks_marked o_keptChunks_cells_n o_keptChunks_cells_c) 0 0 := by
  refine x_start (cc := cX6_stream) (maxL := 2) (ret := (some .int)) (by decide) rfl (Nat.le_of_ble_eq_true rfl) ?_
  intro p e s m below meth c ls C0 hW hl
  have hl : lv_has ls 2 [(0, .ref h_o), (1, .int p1)] := hl
  unfold f_X6_stream at hF
  refine lv_iload_n C0.x C0.b dX6_stream_0 rfl (lv_at hl 1 rfl) ?_
  refine lv_iconst (v := (1 : Int32)) C0.x C0.b dX6_stream_1 (by decide) ?_
  refine lv_icmp_lt (tgt := 12) C0.x C0.b dX6_stream_2 (by decide) (fun c1 => ?_) (fun c1 => ?_)
  · have hF := it_t hF c1
    refine lv_iconst (v := (-1 : Int32)) C0.x C0.b dX6_stream_12 (by decide) ?_
    obtain rfl := Option.some.inj hF
    exact x_iret C0 hW rfl rfl dX6_stream_13
  · have hF := it_f hF c1
    refine lv_iload_n C0.x C0.b dX6_stream_5 rfl (lv_at hl 1 rfl) ?_
    refine lv_sipush (v := (20000 : Int32)) C0.x C0.b dX6_stream_6 (by decide) ?_
    refine lv_icmp_le (tgt := 14) C0.x C0.b dX6_stream_9 (by decide) (fun c2 => ?_) (fun c2 => ?_)
    · have hF := it_t hF c2
      refine lv_aload_n C0.x C0.b dX6_stream_14 rfl (lv_at hl 0 rfl) ?_
      refine x_get C0 hW iw_X6 0 rfl rfl 3 (by decide) (List.mem_cons_of_mem _ wl_25) (v := .ref h_o_streamMaker) rfl dX6_stream_15 ?_
      refine lv_aload_n C0.x C0.b dX6_stream_18 rfl (lv_at hl 0 rfl) ?_
      refine x_get C0 hW iw_X6 0 rfl rfl 0 (by decide) (List.mem_cons_of_mem _ wl_16) (v := .ref h_o_theTape) rfl dX6_stream_19 ?_
      refine lv_iload_n C0.x C0.b dX6_stream_22 rfl (lv_at hl 1 rfl) ?_
      refine lv_aload_n C0.x C0.b dX6_stream_23 rfl (lv_at hl 0 rfl) ?_
      refine x_get C0 hW iw_X6 0 rfl rfl 2 (by decide) (List.mem_cons_of_mem _ wl_21) (v := .ref h_o_presser) rfl dX6_stream_24 ?_
      obtain ⟨r3, e4, hF⟩ := ob hF
      refine go_i C0 hW [9, 10, 11, 1, 2, 5, 6, 7, 8] [0, 3, 4, 12, 13, 14, 15, 16, 17, 18, 19, 20, 21, 22, 23, 24, 25] [0, 20, 21, 1, 2, 22, 23, 24, 25, 17, 18, 19, 3, 4, 5, 6, 7, 8, 9, 10, 11, 12, 13, 14, 15, 16] (va_runV (As := [.ref h_o_theTape, .int p1, .ref h_o_presser]) (rest := []) C0.fix (c_X4_makeStream l g h_o_streamMaker h_o_streamMaker_made h_o_streamMaker_made_row h_o_theTape h_o_theTape_row h_o_presser h_o_presser_block h_o_presser_block_row h_o_presser_slots e4 _) (cwV 3 C0.ts (gw_V wl_441 wl_442 wl_443 wl_24 wl_444) rfl rfl rfl (by decide +kernel) ⟨Nat.le_of_ble_eq_true rfl, Nat.le_of_ble_eq_true rfl⟩) (pcv_of C0 hW [9, 10, 11, 1, 2, 5, 6, 7, 8] rfl (by decide) (q0 := 9) rfl rfl) rfl rfl hl.1 rfl (lv_room (Nat.le_of_ble_eq_true rfl)) dX6_stream_27 ⟨Nat.le_of_ble_eq_true rfl, Nat.le_of_ble_eq_true rfl⟩) rfl rfl (by decide) (by decide) (ws' := (wF_SnapHouse g h_o h_o_theTape h_o_theTape_row h_o_theOut h_o_theOut_row h_o_presser h_o_presser_block h_o_presser_block_row h_o_presser_slots h_o_streamMaker h_o_streamMaker_made h_o_streamMaker_made_row h_o_blockOpener h_o_blockOpener_given h_o_blockOpener_given_row h_o_blockOpener_elements h_o_blockOpener_elements_cells h_o_streamOpener h_o_streamOpener_given h_o_streamOpener_given_row h_o_streamOpener_chunks h_o_streamOpener_chunks_cells h_o_keptElements h_o_keptElements_cells h_o_keptChunks h_o_keptChunks_cells o_faultNumber o_faultPlace o_faultOfBlock o_faultPlaceInBlock o_theTape_count o_theTape_row_n o_theTape_row_c o_theOut_count o_theOut_row_n o_theOut_row_c r3.2.2.2.1 r3.2.2.2.2.1 o_presser_block_row_n r3.2.2.2.2.2.1 o_presser_slots_n r3.2.2.2.2.2.2 r3.2.1 o_streamMaker_made_row_n r3.2.2.1 o_blockOpener_fault o_blockOpener_place o_blockOpener_start o_blockOpener_end o_blockOpener_next o_blockOpener_length o_blockOpener_sort o_blockOpener_body o_blockOpener_size o_blockOpener_back o_blockOpener_given_count o_blockOpener_given_row_n o_blockOpener_given_row_c o_blockOpener_elements_count o_blockOpener_elements_marked o_blockOpener_elements_cells_n o_blockOpener_elements_cells_c o_streamOpener_fault o_streamOpener_place o_streamOpener_next o_streamOpener_type o_streamOpener_body o_streamOpener_size o_streamOpener_given_count o_streamOpener_given_row_n o_streamOpener_given_row_c o_streamOpener_chunks_count o_streamOpener_chunks_marked o_streamOpener_chunks_cells_n o_streamOpener_chunks_cells_c o_keptElements_count o_keptElements_marked o_keptElements_cells_n o_keptElements_cells_c o_keptChunks_count o_keptChunks_marked o_keptChunks_cells_n o_keptChunks_cells_c)) rfl (by decide) (fun H locs hW => ?_)
      refine lv_if_ne (tgt := 35) C0.x C0.b dX6_stream_30 (by decide) (fun c5 => ?_) (fun c5 => ?_)
      · have hF := it_f hF c5
        refine lv_aload_n C0.x C0.b dX6_stream_35 rfl (lv_at hl 0 rfl) ?_
        refine x_get C0 hW iw_X6 0 rfl rfl 1 (by decide) (List.mem_cons_of_mem _ wl_17) (v := .ref h_o_theOut) rfl dX6_stream_36 ?_
        refine lv_aload_n C0.x C0.b dX6_stream_39 rfl (lv_at hl 0 rfl) ?_
        refine x_get C0 hW iw_X6 0 rfl rfl 3 (by decide) (List.mem_cons_of_mem _ wl_25) (v := .ref h_o_streamMaker) rfl dX6_stream_40 ?_
        refine x_getN C0 hW iw_X4 9 rfl rfl 0 (by decide) (List.mem_of_getElem? (i := 6) rfl) (v := .ref h_o_streamMaker_made) rfl dX6_stream_43 ?_
        obtain ⟨r6, e7, hF⟩ := ob hF
        refine go_v C0 hW [3, 4, 10, 11] [0, 1, 2, 5, 6, 7, 8, 9, 12, 13, 14, 15, 16, 17, 18, 19, 20, 21, 22, 23, 24, 25] [0, 1, 2, 22, 23, 3, 4, 5, 6, 7, 24, 25, 8, 9, 10, 11, 12, 13, 14, 15, 16, 17, 18, 19, 20, 21] (va_runV (As := [.ref h_o_streamMaker_made]) (rest := []) C0.fix (c_X1_become l g h_o_theOut h_o_theOut_row h_o_streamMaker_made h_o_streamMaker_made_row e7 _) (cwV 1 C0.ts (gw_V wl_221 wl_222 wl_223 wl_15 wl_224) rfl rfl rfl (by decide +kernel) ⟨Nat.le_of_ble_eq_true rfl, Nat.le_of_ble_eq_true rfl⟩) (pcv_of C0 hW [3, 4, 10, 11] rfl (by decide) (q0 := 3) rfl rfl) rfl rfl hl.1 rfl (lv_room (Nat.le_of_ble_eq_true rfl)) dX6_stream_46 ⟨Nat.le_of_ble_eq_true rfl, Nat.le_of_ble_eq_true rfl⟩) rfl rfl (by decide) (by decide) (ws' := (wF_SnapHouse g h_o h_o_theTape h_o_theTape_row h_o_theOut h_o_theOut_row h_o_presser h_o_presser_block h_o_presser_block_row h_o_presser_slots h_o_streamMaker h_o_streamMaker_made h_o_streamMaker_made_row h_o_blockOpener h_o_blockOpener_given h_o_blockOpener_given_row h_o_blockOpener_elements h_o_blockOpener_elements_cells h_o_streamOpener h_o_streamOpener_given h_o_streamOpener_given_row h_o_streamOpener_chunks h_o_streamOpener_chunks_cells h_o_keptElements h_o_keptElements_cells h_o_keptChunks h_o_keptChunks_cells o_faultNumber o_faultPlace o_faultOfBlock o_faultPlaceInBlock o_theTape_count o_theTape_row_n o_theTape_row_c r6.1 o_theOut_row_n r6.2 r3.2.2.2.1 r3.2.2.2.2.1 o_presser_block_row_n r3.2.2.2.2.2.1 o_presser_slots_n r3.2.2.2.2.2.2 r3.2.1 o_streamMaker_made_row_n r3.2.2.1 o_blockOpener_fault o_blockOpener_place o_blockOpener_start o_blockOpener_end o_blockOpener_next o_blockOpener_length o_blockOpener_sort o_blockOpener_body o_blockOpener_size o_blockOpener_back o_blockOpener_given_count o_blockOpener_given_row_n o_blockOpener_given_row_c o_blockOpener_elements_count o_blockOpener_elements_marked o_blockOpener_elements_cells_n o_blockOpener_elements_cells_c o_streamOpener_fault o_streamOpener_place o_streamOpener_next o_streamOpener_type o_streamOpener_body o_streamOpener_size o_streamOpener_given_count o_streamOpener_given_row_n o_streamOpener_given_row_c o_streamOpener_chunks_count o_streamOpener_chunks_marked o_streamOpener_chunks_cells_n o_streamOpener_chunks_cells_c o_keptElements_count o_keptElements_marked o_keptElements_cells_n o_keptElements_cells_c o_keptChunks_count o_keptChunks_marked o_keptChunks_cells_n o_keptChunks_cells_c)) rfl (by decide) (fun H locs hW => ?_)
        refine lv_aload_n C0.x C0.b dX6_stream_49 rfl (lv_at hl 0 rfl) ?_
        refine x_get C0 hW iw_X6 0 rfl rfl 1 (by decide) (List.mem_cons_of_mem _ wl_17) (v := .ref h_o_theOut) rfl dX6_stream_50 ?_
        refine x_getN C0 hW iw_X1 3 rfl rfl 1 (by decide) (List.mem_of_getElem? (i := 0) rfl) (v := .int r6.1) rfl dX6_stream_53 ?_
        obtain rfl := Option.some.inj hF
        exact x_iret C0 hW rfl rfl dX6_stream_56
      · have hF := it_t hF c5
        refine lv_iconst (v := (-1 : Int32)) C0.x C0.b dX6_stream_33 (by decide) ?_
        obtain rfl := Option.some.inj hF
        exact x_iret C0 hW rfl rfl dX6_stream_34
    · have hF := it_f hF c2
      refine lv_iconst (v := (-1 : Int32)) C0.x C0.b dX6_stream_12 (by decide) ?_
      obtain rfl := Option.some.inj hF
      exact x_iret C0 hW rfl rfl dX6_stream_13

abbrev rm_X5_fail : Room := { frames := 0, cells := 0, slots := 0, locals := 0 }

set_option maxHeartbeats 4000000 in
set_option maxRecDepth 100000 in
/-- SnapHouse$StreamOpener.fail(I)V -/
theorem c_X5_fail (l : Launch) (g : GX) (h_o h_o_given h_o_given_row h_o_chunks h_o_chunks_cells : Nat) {K : Nat} (o_type : Int32) (o_body : Int32) (o_size : Int32) (o_given_count : Int32) (o_given_row_n : Nat) (o_given_row_c : Nat → Int32) (o_chunks_count : Int32) (o_chunks_marked : Int32) (o_chunks_cells_n : Nat) (o_chunks_cells_c : Nat → Int32) {o_fault : Int32} {o_place : Int32} {o_next : Int32} {p1 : Int32} {o : Int32 × Int32} (hF : f_X5_fail K o_fault o_place o_next p1 = some o) : mcV g l yX5_fail wA_X5_fail rm_X5_fail [.ref h_o, .int p1] (wF_StreamOpener g h_o h_o_given h_o_given_row h_o_chunks h_o_chunks_cells o_fault o_place o_next o_type o_body o_size o_given_count o_given_row_n o_given_row_c o_chunks_count o_chunks_marked o_chunks_cells_n o_chunks_cells_c) (wF_StreamOpener g h_o h_o_given h_o_given_row h_o_chunks h_o_chunks_cells o.1 o.2 o_next o_type o_body o_size o_given_count o_given_row_n o_given_row_c o_chunks_count o_chunks_marked o_chunks_cells_n o_chunks_cells_c) 0 0 := by
  refine x_start (cc := cX5_fail) (maxL := 2) (ret := none) (by decide) rfl (Nat.le_of_ble_eq_true rfl) ?_
  intro p e s m below meth c ls C0 hW hl
  have hl : lv_has ls 2 [(0, .ref h_o), (1, .int p1)] := hl
  unfold f_X5_fail at hF
  refine lv_aload_n C0.x C0.b dX5_fail_0 rfl (lv_at hl 0 rfl) ?_
  refine lv_iload_n C0.x C0.b dX5_fail_1 rfl (lv_at hl 1 rfl) ?_
  refine x_put C0 hW iw_X5 tyX5 tyX5_ok nmX5 0 rfl rfl 2 (by decide) (List.mem_cons_of_mem _ wl_100) rfl (ty := .int) (v := .int p1) (by decide +kernel) rfl rfl (Nat.le_of_ble_eq_true rfl) dX5_fail_2 (ws' := (wF_StreamOpener g h_o h_o_given h_o_given_row h_o_chunks h_o_chunks_cells p1 o_place o_next o_type o_body o_size o_given_count o_given_row_n o_given_row_c o_chunks_count o_chunks_marked o_chunks_cells_n o_chunks_cells_c)) rfl (fun H locs hW => ?_)
  refine lv_aload_n C0.x C0.b dX5_fail_5 rfl (lv_at hl 0 rfl) ?_
  refine lv_aload_n C0.x C0.b dX5_fail_6 rfl (lv_at hl 0 rfl) ?_
  refine x_get C0 hW iw_X5 0 rfl rfl 4 (by decide) (List.mem_cons_of_mem _ wl_102) (v := .int o_next) rfl dX5_fail_7 ?_
  refine x_put C0 hW iw_X5 tyX5 tyX5_ok nmX5 0 rfl rfl 3 (by decide) (List.mem_cons_of_mem _ wl_101) rfl (ty := .int) (v := .int o_next) (by decide +kernel) rfl rfl (Nat.le_of_ble_eq_true rfl) dX5_fail_10 (ws' := (wF_StreamOpener g h_o h_o_given h_o_given_row h_o_chunks h_o_chunks_cells p1 o_next o_next o_type o_body o_size o_given_count o_given_row_n o_given_row_c o_chunks_count o_chunks_marked o_chunks_cells_n o_chunks_cells_c)) rfl (fun H locs hW => ?_)
  obtain rfl := Option.some.inj hF
  exact x_vret C0 hW dX5_fail_13

abbrev rm_X5_readHeader : Room := { frames := 2, cells := 0, slots := 0, locals := 46 }

set_option maxHeartbeats 4000000 in
set_option maxRecDepth 100000 in
/-- SnapHouse$StreamOpener.readHeader(LSnapHouse$Bytes;)V -/
theorem c_X5_readHeader (l : Launch) (g : GX) (h_o h_o_given h_o_given_row h_o_chunks h_o_chunks_cells h_a h_a_row : Nat) {K : Nat} (o_given_count : Int32) (o_given_row_n : Nat) (o_given_row_c : Nat → Int32) (o_chunks_count : Int32) (o_chunks_marked : Int32) (o_chunks_cells_n : Nat) (o_chunks_cells_c : Nat → Int32) {o_fault : Int32} {o_place : Int32} {o_next : Int32} {o_type : Int32} {o_body : Int32} {o_size : Int32} {a_count : Int32} {a_row_n : Nat} {a_row_c : Nat → Int32} {o : Int32 × Int32 × Int32 × Int32 × Int32} (hF : f_X5_readHeader K o_fault o_place o_next o_type o_body o_size a_count a_row_n a_row_c = some o) : mcV g l yX5_readHeader wA_X5_readHeader rm_X5_readHeader [.ref h_o, .ref h_a] (wF_StreamOpener_Bytes g h_o h_o_given h_o_given_row h_o_chunks h_o_chunks_cells h_a h_a_row o_fault o_place o_next o_type o_body o_size o_given_count o_given_row_n o_given_row_c o_chunks_count o_chunks_marked o_chunks_cells_n o_chunks_cells_c a_count a_row_n a_row_c) (wF_StreamOpener_Bytes g h_o h_o_given h_o_given_row h_o_chunks h_o_chunks_cells h_a h_a_row o.1 o.2.1 o_next o.2.2.1 o.2.2.2.1 o.2.2.2.2 o_given_count o_given_row_n o_given_row_c o_chunks_count o_chunks_marked o_chunks_cells_n o_chunks_cells_c a_count a_row_n a_row_c) 0 0 := by
  refine x_start (cc := cX5_readHeader) (maxL := 2) (ret := none) (by decide) rfl (Nat.le_of_ble_eq_true rfl) ?_
  intro p e s m below meth c ls C0 hW hl
  have hl : lv_has ls 2 [(0, .ref h_o), (1, .ref h_a)] := hl
  unfold f_X5_readHeader at hF
  refine lv_aload_n C0.x C0.b dX5_readHeader_0 rfl (lv_at hl 0 rfl) ?_
  refine lv_aload_n C0.x C0.b dX5_readHeader_1 rfl (lv_at hl 0 rfl) ?_
  refine x_get C0 hW iw_X5 0 rfl rfl 4 (by decide) (List.mem_cons_of_mem _ wl_102) (v := .int o_next) rfl dX5_readHeader_2 ?_
  refine lv_iconst (v := (4 : Int32)) C0.x C0.b dX5_readHeader_5 (by decide) ?_
  refine lv_iadd C0.x C0.b dX5_readHeader_6 ?_
  refine x_put C0 hW iw_X5 tyX5 tyX5_ok nmX5 0 rfl rfl 6 (by decide) (List.mem_cons_of_mem _ wl_104) rfl (ty := .int) (v := .int (o_next + (4 : Int32))) (by decide +kernel) rfl rfl (Nat.le_of_ble_eq_true rfl) dX5_readHeader_7 (ws' := (wF_StreamOpener_Bytes g h_o h_o_given h_o_given_row h_o_chunks h_o_chunks_cells h_a h_a_row o_fault o_place o_next o_type (o_next + (4 : Int32)) o_size o_given_count o_given_row_n o_given_row_c o_chunks_count o_chunks_marked o_chunks_cells_n o_chunks_cells_c a_count a_row_n a_row_c)) rfl (fun H locs hW => ?_)
  refine lv_aload_n C0.x C0.b dX5_readHeader_10 rfl (lv_at hl 0 rfl) ?_
  refine x_get C0 hW iw_X5 0 rfl rfl 6 (by decide) (List.mem_cons_of_mem _ wl_104) (v := .int (o_next + (4 : Int32))) rfl dX5_readHeader_11 ?_
  refine lv_aload_n C0.x C0.b dX5_readHeader_14 rfl (lv_at hl 1 rfl) ?_
  refine x_getN C0 hW iw_X1 5 rfl rfl 1 (by decide) (List.mem_of_getElem? (i := 17) rfl) (v := .int a_count) rfl dX5_readHeader_15 ?_
  refine lv_icmp_le (tgt := 28) C0.x C0.b dX5_readHeader_18 (by decide) (fun c1 => ?_) (fun c1 => ?_)
  · have hF := it_t hF c1
    refine lv_aload_n C0.x C0.b dX5_readHeader_28 rfl (lv_at hl 0 rfl) ?_
    refine lv_aload_n C0.x C0.b dX5_readHeader_29 rfl (lv_at hl 1 rfl) ?_
    refine lv_aload_n C0.x C0.b dX5_readHeader_30 rfl (lv_at hl 0 rfl) ?_
    refine x_get C0 hW iw_X5 0 rfl rfl 4 (by decide) (List.mem_cons_of_mem _ wl_102) (v := .int o_next) rfl dX5_readHeader_31 ?_
    obtain ⟨r2, e3, hF⟩ := ob hF
    refine go_i C0 hW [5, 6] [0, 1, 2, 3, 4] [0, 1, 2, 3, 4, 5, 6] (va_runV (As := [.int o_next]) (rest := [.ref h_o]) C0.fix (c_X1_at l g h_a h_a_row e3 _) (cwV 1 C0.ts (gw_V wl_511 wl_206 wl_207 wl_15 wl_208) rfl rfl rfl (by decide +kernel) ⟨Nat.le_of_ble_eq_true rfl, Nat.le_of_ble_eq_true rfl⟩) (pcv_of C0 hW [5, 6] rfl (by decide) (q0 := 5) rfl rfl) rfl rfl hl.1 rfl (lv_room (Nat.le_of_ble_eq_true rfl)) dX5_readHeader_34 ⟨Nat.le_of_ble_eq_true rfl, Nat.le_of_ble_eq_true rfl⟩) rfl rfl (by decide) (by decide) (ws' := (wF_StreamOpener_Bytes g h_o h_o_given h_o_given_row h_o_chunks h_o_chunks_cells h_a h_a_row o_fault o_place o_next o_type (o_next + (4 : Int32)) o_size o_given_count o_given_row_n o_given_row_c o_chunks_count o_chunks_marked o_chunks_cells_n o_chunks_cells_c a_count a_row_n a_row_c)) rfl (by decide) (fun H locs hW => ?_)
    refine x_put C0 hW iw_X5 tyX5 tyX5_ok nmX5 0 rfl rfl 5 (by decide) (List.mem_cons_of_mem _ wl_103) rfl (ty := .int) (v := .int r2) (by decide +kernel) rfl rfl (Nat.le_of_ble_eq_true rfl) dX5_readHeader_37 (ws' := (wF_StreamOpener_Bytes g h_o h_o_given h_o_given_row h_o_chunks h_o_chunks_cells h_a h_a_row o_fault o_place o_next r2 (o_next + (4 : Int32)) o_size o_given_count o_given_row_n o_given_row_c o_chunks_count o_chunks_marked o_chunks_cells_n o_chunks_cells_c a_count a_row_n a_row_c)) rfl (fun H locs hW => ?_)
    refine lv_aload_n C0.x C0.b dX5_readHeader_40 rfl (lv_at hl 0 rfl) ?_
    refine lv_aload_n C0.x C0.b dX5_readHeader_41 rfl (lv_at hl 1 rfl) ?_
    refine lv_aload_n C0.x C0.b dX5_readHeader_42 rfl (lv_at hl 0 rfl) ?_
    refine x_get C0 hW iw_X5 0 rfl rfl 4 (by decide) (List.mem_cons_of_mem _ wl_102) (v := .int o_next) rfl dX5_readHeader_43 ?_
    refine lv_iconst (v := (1 : Int32)) C0.x C0.b dX5_readHeader_46 (by decide) ?_
    refine lv_iadd C0.x C0.b dX5_readHeader_47 ?_
    refine lv_iconst (v := (3 : Int32)) C0.x C0.b dX5_readHeader_48 (by decide) ?_
    obtain ⟨r4, e5, hF⟩ := ob hF
    refine go_l C0 hW [5, 6] [0, 1, 2, 3, 4] [0, 1, 2, 3, 4, 5, 6] (va_runV (As := [.int (o_next + (1 : Int32)), .int (3 : Int32)]) (rest := [.ref h_o]) C0.fix (c_X1_lowestFirst l g h_a h_a_row e5 _) (cwV 2 C0.ts (gw_V wl_520 wl_369 wl_370 wl_15 wl_371) rfl rfl rfl (by decide +kernel) ⟨Nat.le_of_ble_eq_true rfl, Nat.le_of_ble_eq_true rfl⟩) (pcv_of C0 hW [5, 6] rfl (by decide) (q0 := 5) rfl rfl) rfl rfl hl.1 rfl (lv_room (Nat.le_of_ble_eq_true rfl)) dX5_readHeader_49 ⟨Nat.le_of_ble_eq_true rfl, Nat.le_of_ble_eq_true rfl⟩) rfl rfl (by decide) (by decide) (ws' := (wF_StreamOpener_Bytes g h_o h_o_given h_o_given_row h_o_chunks h_o_chunks_cells h_a h_a_row o_fault o_place o_next r2 (o_next + (4 : Int32)) o_size o_given_count o_given_row_n o_given_row_c o_chunks_count o_chunks_marked o_chunks_cells_n o_chunks_cells_c a_count a_row_n a_row_c)) rfl (by decide) (fun H locs hW => ?_)
    refine lv_l2i (v := (r4.toInt32)) C0.x C0.b dX5_readHeader_52 rfl ?_
    refine x_put C0 hW iw_X5 tyX5 tyX5_ok nmX5 0 rfl rfl 7 (by decide) (List.mem_cons_of_mem _ wl_105) rfl (ty := .int) (v := .int (r4.toInt32)) (by decide +kernel) rfl rfl (Nat.le_of_ble_eq_true rfl) dX5_readHeader_53 (ws' := (wF_StreamOpener_Bytes g h_o h_o_given h_o_given_row h_o_chunks h_o_chunks_cells h_a h_a_row o_fault o_place o_next r2 (o_next + (4 : Int32)) (r4.toInt32) o_given_count o_given_row_n o_given_row_c o_chunks_count o_chunks_marked o_chunks_cells_n o_chunks_cells_c a_count a_row_n a_row_c)) rfl (fun H locs hW => ?_)
    refine lv_aload_n C0.x C0.b dX5_readHeader_56 rfl (lv_at hl 0 rfl) ?_
    refine x_get C0 hW iw_X5 0 rfl rfl 7 (by decide) (List.mem_cons_of_mem _ wl_105) (v := .int (r4.toInt32)) rfl dX5_readHeader_57 ?_
    refine lv_aload_n C0.x C0.b dX5_readHeader_60 rfl (lv_at hl 1 rfl) ?_
    refine x_getN C0 hW iw_X1 5 rfl rfl 1 (by decide) (List.mem_of_getElem? (i := 17) rfl) (v := .int a_count) rfl dX5_readHeader_61 ?_
    refine lv_aload_n C0.x C0.b dX5_readHeader_64 rfl (lv_at hl 0 rfl) ?_
    refine x_get C0 hW iw_X5 0 rfl rfl 6 (by decide) (List.mem_cons_of_mem _ wl_104) (v := .int (o_next + (4 : Int32))) rfl dX5_readHeader_65 ?_
    refine lv_isub C0.x C0.b dX5_readHeader_68 ?_
    refine lv_icmp_le (tgt := 78) C0.x C0.b dX5_readHeader_69 (by decide) (fun c6 => ?_) (fun c6 => ?_)
    · have hF := it_t hF c6
      obtain rfl := Option.some.inj hF
      exact x_vret C0 hW dX5_readHeader_78
    · have hF := it_f hF c6
      refine lv_aload_n C0.x C0.b dX5_readHeader_72 rfl (lv_at hl 0 rfl) ?_
      refine lv_bipush (v := (12 : Int32)) C0.x C0.b dX5_readHeader_73 (by decide) ?_
      obtain ⟨r7, e8, hF⟩ := ob hF
      refine go_v C0 hW [0, 1, 2, 3, 4] [5, 6] [2, 3, 4, 5, 6, 0, 1] (va_runV (As := [.int (12 : Int32)]) (rest := []) C0.fix (c_X5_fail l g h_o h_o_given h_o_given_row h_o_chunks h_o_chunks_cells r2 (o_next + (4 : Int32)) (r4.toInt32) o_given_count o_given_row_n o_given_row_c o_chunks_count o_chunks_marked o_chunks_cells_n o_chunks_cells_c e8 _) (cwV 1 C0.ts (gw_V wl_512 wl_513 wl_514 wl_32 wl_515) rfl rfl rfl (by decide +kernel) ⟨Nat.le_of_ble_eq_true rfl, Nat.le_of_ble_eq_true rfl⟩) (pcv_of C0 hW [0, 1, 2, 3, 4] rfl (by decide) (q0 := 0) rfl rfl) rfl rfl hl.1 rfl (lv_room (Nat.le_of_ble_eq_true rfl)) dX5_readHeader_75 ⟨Nat.le_of_ble_eq_true rfl, Nat.le_of_ble_eq_true rfl⟩) rfl rfl (by decide) (by decide) (ws' := (wF_StreamOpener_Bytes g h_o h_o_given h_o_given_row h_o_chunks h_o_chunks_cells h_a h_a_row r7.1 r7.2 o_next r2 (o_next + (4 : Int32)) (r4.toInt32) o_given_count o_given_row_n o_given_row_c o_chunks_count o_chunks_marked o_chunks_cells_n o_chunks_cells_c a_count a_row_n a_row_c)) rfl (by decide) (fun H locs hW => ?_)
      obtain rfl := Option.some.inj hF
      exact x_vret C0 hW dX5_readHeader_78
  · have hF := it_f hF c1
    refine lv_aload_n C0.x C0.b dX5_readHeader_21 rfl (lv_at hl 0 rfl) ?_
    refine lv_bipush (v := (12 : Int32)) C0.x C0.b dX5_readHeader_22 (by decide) ?_
    obtain ⟨r9, e10, hF⟩ := ob hF
    refine go_v C0 hW [0, 1, 2, 3, 4] [5, 6] [2, 3, 4, 5, 6, 0, 1] (va_runV (As := [.int (12 : Int32)]) (rest := []) C0.fix (c_X5_fail l g h_o h_o_given h_o_given_row h_o_chunks h_o_chunks_cells o_type (o_next + (4 : Int32)) o_size o_given_count o_given_row_n o_given_row_c o_chunks_count o_chunks_marked o_chunks_cells_n o_chunks_cells_c e10 _) (cwV 1 C0.ts (gw_V wl_512 wl_513 wl_514 wl_32 wl_515) rfl rfl rfl (by decide +kernel) ⟨Nat.le_of_ble_eq_true rfl, Nat.le_of_ble_eq_true rfl⟩) (pcv_of C0 hW [0, 1, 2, 3, 4] rfl (by decide) (q0 := 0) rfl rfl) rfl rfl hl.1 rfl (lv_room (Nat.le_of_ble_eq_true rfl)) dX5_readHeader_24 ⟨Nat.le_of_ble_eq_true rfl, Nat.le_of_ble_eq_true rfl⟩) rfl rfl (by decide) (by decide) (ws' := (wF_StreamOpener_Bytes g h_o h_o_given h_o_given_row h_o_chunks h_o_chunks_cells h_a h_a_row r9.1 r9.2 o_next o_type (o_next + (4 : Int32)) o_size o_given_count o_given_row_n o_given_row_c o_chunks_count o_chunks_marked o_chunks_cells_n o_chunks_cells_c a_count a_row_n a_row_c)) rfl (by decide) (fun H locs hW => ?_)
    obtain rfl := Option.some.inj hF
    exact x_vret C0 hW dX5_readHeader_27

abbrev rm_X5_tellsBytes : Room := { frames := 0, cells := 0, slots := 0, locals := 0 }

set_option maxHeartbeats 4000000 in
set_option maxRecDepth 100000 in
/-- SnapHouse$StreamOpener.tellsBytes()Z -/
theorem c_X5_tellsBytes (l : Launch) (g : GX) (h_o h_o_given h_o_given_row h_o_chunks h_o_chunks_cells : Nat) {K : Nat} (o_fault : Int32) (o_place : Int32) (o_next : Int32) (o_body : Int32) (o_size : Int32) (o_given_count : Int32) (o_given_row_n : Nat) (o_given_row_c : Nat → Int32) (o_chunks_count : Int32) (o_chunks_marked : Int32) (o_chunks_cells_n : Nat) (o_chunks_cells_c : Nat → Int32) {o_type : Int32} {o : Int32} (hF : f_X5_tellsBytes K o_type = some o) : mcI g l yX5_tellsBytes wA_X5_tellsBytes rm_X5_tellsBytes [.ref h_o] (wF_StreamOpener g h_o h_o_given h_o_given_row h_o_chunks h_o_chunks_cells o_fault o_place o_next o_type o_body o_size o_given_count o_given_row_n o_given_row_c o_chunks_count o_chunks_marked o_chunks_cells_n o_chunks_cells_c) o (wF_StreamOpener g h_o h_o_given h_o_given_row h_o_chunks h_o_chunks_cells o_fault o_place o_next o_type o_body o_size o_given_count o_given_row_n o_given_row_c o_chunks_count o_chunks_marked o_chunks_cells_n o_chunks_cells_c) 0 0 := by
  refine x_start (cc := cX5_tellsBytes) (maxL := 1) (ret := (some .boolean)) (by decide) rfl (Nat.le_of_ble_eq_true rfl) ?_
  intro p e s m below meth c ls C0 hW hl
  have hl : lv_has ls 1 [(0, .ref h_o)] := hl
  unfold f_X5_tellsBytes at hF
  refine lv_aload_n C0.x C0.b dX5_tellsBytes_0 rfl (lv_at hl 0 rfl) ?_
  refine x_get C0 hW iw_X5 0 rfl rfl 5 (by decide) (List.mem_cons_of_mem _ wl_103) (v := .int o_type) rfl dX5_tellsBytes_1 ?_
  refine lv_if_eq (tgt := 15) C0.x C0.b dX5_tellsBytes_4 (by decide) (fun c1 => ?_) (fun c1 => ?_)
  · have hF := it_t hF c1
    refine lv_iconst (v := (1 : Int32)) C0.x C0.b dX5_tellsBytes_15 (by decide) ?_
    refine lv_goto (tgt := 20) C0.x C0.b dX5_tellsBytes_16 (by decide) ?_
    obtain rfl := Option.some.inj hF
    exact x_iret C0 hW (by decide) rfl dX5_tellsBytes_20
  · have hF := it_f hF c1
    refine lv_aload_n C0.x C0.b dX5_tellsBytes_7 rfl (lv_at hl 0 rfl) ?_
    refine x_get C0 hW iw_X5 0 rfl rfl 5 (by decide) (List.mem_cons_of_mem _ wl_103) (v := .int o_type) rfl dX5_tellsBytes_8 ?_
    refine lv_iconst (v := (1 : Int32)) C0.x C0.b dX5_tellsBytes_11 (by decide) ?_
    refine lv_icmp_ne (tgt := 19) C0.x C0.b dX5_tellsBytes_12 (by decide) (fun c2 => ?_) (fun c2 => ?_)
    · have hF := it_f hF c2
      refine lv_iconst (v := (0 : Int32)) C0.x C0.b dX5_tellsBytes_19 (by decide) ?_
      obtain rfl := Option.some.inj hF
      exact x_iret C0 hW (by decide) rfl dX5_tellsBytes_20
    · have hF := it_t hF c2
      refine lv_iconst (v := (1 : Int32)) C0.x C0.b dX5_tellsBytes_15 (by decide) ?_
      refine lv_goto (tgt := 20) C0.x C0.b dX5_tellsBytes_16 (by decide) ?_
      obtain rfl := Option.some.inj hF
      exact x_iret C0 hW (by decide) rfl dX5_tellsBytes_20

