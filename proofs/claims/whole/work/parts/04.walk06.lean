abbrev rm_X5_isName : Room := { frames := 1, cells := 0, slots := 0, locals := 21 }

set_option maxHeartbeats 4000000 in
set_option maxRecDepth 100000 in
theorem w_X5_isName_b65 (l : Launch) (g : GX) (h_o h_o_given h_o_given_row h_o_chunks h_o_chunks_cells h_a h_a_row : Nat) {K : Nat} {o_body : Int32} {o_size : Int32} {a_count : Int32} {a_row_n : Nat} {a_row_c : Nat → Int32} {o_fault : Int32} {o_place : Int32} {o_next : Int32} {o_type : Int32} {o_given_count : Int32} {o_given_row_n : Nat} {o_given_row_c : Nat → Int32} {o_chunks_count : Int32} {o_chunks_marked : Int32} {o_chunks_cells_n : Nat} {o_chunks_cells_c : Nat → Int32} {o : Int32} {wc : va_W} {p : Program} {e : Env} {s : State} {m : MethodId} {args : Array Value} {below : List Frame} {meth : Method} {c : Code} (C0 : bx g p s m meth c args cX5_isName 8 (some .boolean) yX5_isName wA_X5_isName (va_A wc s.heap.size)) {k33 : Int32 → Int32 → Int32 → Int32 → Option (Int32)} (hk33 : ∀ (x2 : Int32) (x3 : Int32) (x5 : Int32) (x6 : Int32), k33 x2 x3 x5 x6 = some o → ∀ (H : Heap) (locs : List Loc) (ls : Array Slot), ww g (va_A wc s.heap.size) s (wF_StreamOpener_Bytes g h_o h_o_given h_o_given_row h_o_chunks h_o_chunks_cells h_a h_a_row o_fault o_place o_next o_type o_body o_size o_given_count o_given_row_n o_given_row_c o_chunks_count o_chunks_marked o_chunks_cells_n o_chunks_cells_c a_count a_row_n a_row_c) H locs → lv_has ls 8 [(1, .ref h_a), (2, .int x2), (3, .int x3), (4, .ref g.2.2.1), (5, .int x5), (6, .int x6)] → W p l e rm_X5_isName s m args below meth c H locs 0 0 (MQ below (qcI g wc s.heap.size o (wF_StreamOpener_Bytes g h_o h_o_given h_o_given_row h_o_chunks h_o_chunks_cells h_a h_a_row o_fault o_place o_next o_type o_body o_size o_given_count o_given_row_n o_given_row_c o_chunks_count o_chunks_marked o_chunks_cells_n o_chunks_cells_c a_count a_row_n a_row_c)) args s 0 0 (va_A wc s.heap.size)) (F0 m 33 ls [])) :
    ∀ (x3 : Int32) (x5 : Int32) (x6 : Int32), f_X5_isName_b65 K o_body o_size a_count a_row_n a_row_c k33 x3 x5 x6 = some o → ∀ (H : Heap) (locs : List Loc) (ls : Array Slot), ww g (va_A wc s.heap.size) s (wF_StreamOpener_Bytes g h_o h_o_given h_o_given_row h_o_chunks h_o_chunks_cells h_a h_a_row o_fault o_place o_next o_type o_body o_size o_given_count o_given_row_n o_given_row_c o_chunks_count o_chunks_marked o_chunks_cells_n o_chunks_cells_c a_count a_row_n a_row_c) H locs → lv_has ls 8 [(1, .ref h_a), (3, .int x3), (4, .ref g.2.2.1), (5, .int x5), (6, .int x6)] → W p l e rm_X5_isName s m args below meth c H locs 0 0 (MQ below (qcI g wc s.heap.size o (wF_StreamOpener_Bytes g h_o h_o_given h_o_given_row h_o_chunks h_o_chunks_cells h_a h_a_row o_fault o_place o_next o_type o_body o_size o_given_count o_given_row_n o_given_row_c o_chunks_count o_chunks_marked o_chunks_cells_n o_chunks_cells_c a_count a_row_n a_row_c)) args s 0 0 (va_A wc s.heap.size)) (F0 m 65 ls []) := by
  intro x3 x5 x6 hF H locs ls hW hl
  unfold f_X5_isName_b65 at hF
  refine lv_iconst (v := (0 : Int32)) C0.x C0.b dX5_isName_65 (by decide) ?_
  refine lv_istore_n (lv' := [(2, .int (0 : Int32)), (1, .ref h_a), (3, .int x3), (4, .ref g.2.2.1), (5, .int x5), (6, .int x6)]) C0.x C0.b dX5_isName_66 rfl hl (by decide) rfl (fun ls hl => ?_)
  refine lv_iinc (v := (x3 + (1 : Int32))) (lv' := [(3, .int (x3 + (1 : Int32))), (2, .int (0 : Int32)), (1, .ref h_a), (4, .ref g.2.2.1), (5, .int x5), (6, .int x6)]) C0.x C0.b dX5_isName_67 hl (k := 2) rfl rfl (by decide) rfl (fun ls hl => ?_)
  refine lv_iinc (v := (x6 + (1 : Int32))) (lv' := [(6, .int (x6 + (1 : Int32))), (3, .int (x3 + (1 : Int32))), (2, .int (0 : Int32)), (1, .ref h_a), (4, .ref g.2.2.1), (5, .int x5)]) C0.x C0.b dX5_isName_70 hl (k := 5) rfl rfl (by decide) rfl (fun ls hl => ?_)
  refine lv_goto (tgt := 33) C0.x C0.b dX5_isName_73 (by decide) ?_
  exact hk33 (0 : Int32) (x3 + (1 : Int32)) x5 (x6 + (1 : Int32)) hF _ _ _ hW (lv_sub hl [3, 2, 1, 4, 5, 0] rfl)

set_option maxHeartbeats 4000000 in
set_option maxRecDepth 100000 in
theorem w_X5_isName_b33 (l : Launch) (g : GX) (h_o h_o_given h_o_given_row h_o_chunks h_o_chunks_cells h_a h_a_row : Nat) {K : Nat} {o_body : Int32} {o_size : Int32} {a_count : Int32} {a_row_n : Nat} {a_row_c : Nat → Int32} {o_fault : Int32} {o_place : Int32} {o_next : Int32} {o_type : Int32} {o_given_count : Int32} {o_given_row_n : Nat} {o_given_row_c : Nat → Int32} {o_chunks_count : Int32} {o_chunks_marked : Int32} {o_chunks_cells_n : Nat} {o_chunks_cells_c : Nat → Int32} {o : Int32} {wc : va_W} {p : Program} {e : Env} {s : State} {m : MethodId} {args : Array Value} {below : List Frame} {meth : Method} {c : Code} (C0 : bx g p s m meth c args cX5_isName 8 (some .boolean) yX5_isName wA_X5_isName (va_A wc s.heap.size)) :
    ∀ (n : Nat) (x2 : Int32) (x3 : Int32) (x5 : Int32) (x6 : Int32), f_X5_isName_b33 K o_body o_size a_count a_row_n a_row_c n x2 x3 x5 x6 = some o → ∀ (H : Heap) (locs : List Loc) (ls : Array Slot), ww g (va_A wc s.heap.size) s (wF_StreamOpener_Bytes g h_o h_o_given h_o_given_row h_o_chunks h_o_chunks_cells h_a h_a_row o_fault o_place o_next o_type o_body o_size o_given_count o_given_row_n o_given_row_c o_chunks_count o_chunks_marked o_chunks_cells_n o_chunks_cells_c a_count a_row_n a_row_c) H locs → lv_has ls 8 [(1, .ref h_a), (2, .int x2), (3, .int x3), (4, .ref g.2.2.1), (5, .int x5), (6, .int x6)] → W p l e rm_X5_isName s m args below meth c H locs 0 0 (MQ below (qcI g wc s.heap.size o (wF_StreamOpener_Bytes g h_o h_o_given h_o_given_row h_o_chunks h_o_chunks_cells h_a h_a_row o_fault o_place o_next o_type o_body o_size o_given_count o_given_row_n o_given_row_c o_chunks_count o_chunks_marked o_chunks_cells_n o_chunks_cells_c a_count a_row_n a_row_c)) args s 0 0 (va_A wc s.heap.size)) (F0 m 33 ls []) := by
  intro n
  induction n with
  | zero => intro x2 x3 x5 x6 hF; cases (show (none : Option (Int32)) = some o from hF)
  | succ n ih =>
    intro x2 x3 x5 x6 hF H locs ls hW hl
    rw [f_X5_isName_b33] at hF
    refine lv_iload C0.x C0.b dX5_isName_33 (lv_at hl 5 rfl) ?_
    refine lv_iload C0.x C0.b dX5_isName_35 (lv_at hl 4 rfl) ?_
    refine lv_icmp_ge (tgt := 76) C0.x C0.b dX5_isName_37 (by decide) (fun c1 => ?_) (fun c1 => ?_)
    · have hF := it_t hF c1
      refine lv_iload_n C0.x C0.b dX5_isName_76 rfl (lv_at hl 1 rfl) ?_
      obtain ⟨h2, hF⟩ := ckb_some hF
      obtain rfl := Option.some.inj hF
      exact x_iret C0 hW (ckb_nar h2) rfl dX5_isName_77
    · have hF := it_f hF c1
      refine lv_aload C0.x C0.b dX5_isName_40 (lv_at hl 3 rfl) ?_
      refine lv_iload C0.x C0.b dX5_isName_42 (lv_at hl 5 rfl) ?_
      obtain ⟨h3, hF⟩ := ck_some hF
      refine x_nameld C0 hW h3 dX5_isName_44 ?_
      refine lv_istore (lv' := [(7, .int (tb_N.getD x6.toNatClampNeg 0)), (1, .ref h_a), (2, .int x2), (3, .int x3), (4, .ref g.2.2.1), (5, .int x5), (6, .int x6)]) C0.x C0.b dX5_isName_45 hl (by decide) rfl (fun ls hl => ?_)
      refine lv_iload_n C0.x C0.b dX5_isName_47 rfl (lv_at hl 2 rfl) ?_
      refine lv_if_eq (tgt := 65) C0.x C0.b dX5_isName_48 (by decide) (fun c4 => ?_) (fun c4 => ?_)
      · have hF := it_t hF c4
        exact w_X5_isName_b65 l g h_o h_o_given h_o_given_row h_o_chunks h_o_chunks_cells h_a h_a_row C0 ih x3 x5 x6 hF _ _ _ hW (lv_sub hl [1, 3, 4, 5, 6] rfl)
      · have hF := it_f hF c4
        refine lv_aload_n C0.x C0.b dX5_isName_51 rfl (lv_at hl 1 rfl) ?_
        refine lv_iload_n C0.x C0.b dX5_isName_52 rfl (lv_at hl 3 rfl) ?_
        obtain ⟨r5, e6, hF⟩ := ob hF
        refine go_i C0 hW [5, 6] [0, 1, 2, 3, 4] [0, 1, 2, 3, 4, 5, 6] (va_runV (As := [.int x3]) (rest := []) C0.fix (c_X1_at l g h_a h_a_row e6 _) (cwV 1 C0.ts (gw_V wl_511 wl_206 wl_207 wl_15 wl_208) rfl rfl rfl (by decide +kernel) ⟨Nat.le_of_ble_eq_true rfl, Nat.le_of_ble_eq_true rfl⟩) (pcv_of C0 hW [5, 6] rfl (by decide) (q0 := 5) rfl rfl) rfl rfl hl.1 rfl (lv_room (Nat.le_of_ble_eq_true rfl)) dX5_isName_53 ⟨Nat.le_of_ble_eq_true rfl, Nat.le_of_ble_eq_true rfl⟩) rfl rfl (by decide) (by decide) (ws' := (wF_StreamOpener_Bytes g h_o h_o_given h_o_given_row h_o_chunks h_o_chunks_cells h_a h_a_row o_fault o_place o_next o_type o_body o_size o_given_count o_given_row_n o_given_row_c o_chunks_count o_chunks_marked o_chunks_cells_n o_chunks_cells_c a_count a_row_n a_row_c)) rfl (by decide) (fun H locs hW => ?_)
        refine lv_iload C0.x C0.b dX5_isName_56 (lv_at hl 0 rfl) ?_
        refine lv_icmp_ne (tgt := 65) C0.x C0.b dX5_isName_58 (by decide) (fun c7 => ?_) (fun c7 => ?_)
        · have hF := it_f hF c7
          exact w_X5_isName_b65 l g h_o h_o_given h_o_given_row h_o_chunks h_o_chunks_cells h_a h_a_row C0 ih x3 x5 x6 hF _ _ _ hW (lv_sub hl [1, 3, 4, 5, 6] rfl)
        · have hF := it_t hF c7
          refine lv_iconst (v := (1 : Int32)) C0.x C0.b dX5_isName_61 (by decide) ?_
          refine lv_goto (tgt := 66) C0.x C0.b dX5_isName_62 (by decide) ?_
          refine lv_istore_n (lv' := [(2, .int (1 : Int32)), (7, .int (tb_N.getD x6.toNatClampNeg 0)), (1, .ref h_a), (3, .int x3), (4, .ref g.2.2.1), (5, .int x5), (6, .int x6)]) C0.x C0.b dX5_isName_66 rfl hl (by decide) rfl (fun ls hl => ?_)
          refine lv_iinc (v := (x3 + (1 : Int32))) (lv' := [(3, .int (x3 + (1 : Int32))), (2, .int (1 : Int32)), (7, .int (tb_N.getD x6.toNatClampNeg 0)), (1, .ref h_a), (4, .ref g.2.2.1), (5, .int x5), (6, .int x6)]) C0.x C0.b dX5_isName_67 hl (k := 3) rfl rfl (by decide) rfl (fun ls hl => ?_)
          refine lv_iinc (v := (x6 + (1 : Int32))) (lv' := [(6, .int (x6 + (1 : Int32))), (3, .int (x3 + (1 : Int32))), (2, .int (1 : Int32)), (7, .int (tb_N.getD x6.toNatClampNeg 0)), (1, .ref h_a), (4, .ref g.2.2.1), (5, .int x5)]) C0.x C0.b dX5_isName_70 hl (k := 6) rfl rfl (by decide) rfl (fun ls hl => ?_)
          refine lv_goto (tgt := 33) C0.x C0.b dX5_isName_73 (by decide) ?_
          exact ih (1 : Int32) (x3 + (1 : Int32)) x5 (x6 + (1 : Int32)) hF _ _ _ hW (lv_sub hl [4, 2, 1, 5, 6, 0] rfl)

set_option maxHeartbeats 4000000 in
set_option maxRecDepth 100000 in
theorem w_X5_isName_b14 (l : Launch) (g : GX) (h_o h_o_given h_o_given_row h_o_chunks h_o_chunks_cells h_a h_a_row : Nat) {K : Nat} {o_body : Int32} {o_size : Int32} {a_count : Int32} {a_row_n : Nat} {a_row_c : Nat → Int32} {o_fault : Int32} {o_place : Int32} {o_next : Int32} {o_type : Int32} {o_given_count : Int32} {o_given_row_n : Nat} {o_given_row_c : Nat → Int32} {o_chunks_count : Int32} {o_chunks_marked : Int32} {o_chunks_cells_n : Nat} {o_chunks_cells_c : Nat → Int32} {o : Int32} {wc : va_W} {p : Program} {e : Env} {s : State} {m : MethodId} {args : Array Value} {below : List Frame} {meth : Method} {c : Code} (C0 : bx g p s m meth c args cX5_isName 8 (some .boolean) yX5_isName wA_X5_isName (va_A wc s.heap.size)) :
    ∀ (t0 : Int32), f_X5_isName_b14 K o_body o_size a_count a_row_n a_row_c t0 = some o → ∀ (H : Heap) (locs : List Loc) (ls : Array Slot), ww g (va_A wc s.heap.size) s (wF_StreamOpener_Bytes g h_o h_o_given h_o_given_row h_o_chunks h_o_chunks_cells h_a h_a_row o_fault o_place o_next o_type o_body o_size o_given_count o_given_row_n o_given_row_c o_chunks_count o_chunks_marked o_chunks_cells_n o_chunks_cells_c a_count a_row_n a_row_c) H locs → lv_has ls 8 [(0, .ref h_o), (1, .ref h_a)] → W p l e rm_X5_isName s m args below meth c H locs 0 0 (MQ below (qcI g wc s.heap.size o (wF_StreamOpener_Bytes g h_o h_o_given h_o_given_row h_o_chunks h_o_chunks_cells h_a h_a_row o_fault o_place o_next o_type o_body o_size o_given_count o_given_row_n o_given_row_c o_chunks_count o_chunks_marked o_chunks_cells_n o_chunks_cells_c a_count a_row_n a_row_c)) args s 0 0 (va_A wc s.heap.size)) (F0 m 14 ls [.int t0]) := by
  intro t0 hF H locs ls hW hl
  unfold f_X5_isName_b14 at hF
  refine lv_istore_n (lv' := [(2, .int t0), (0, .ref h_o), (1, .ref h_a)]) C0.x C0.b dX5_isName_14 rfl hl (by decide) rfl (fun ls hl => ?_)
  refine lv_aload_n C0.x C0.b dX5_isName_15 rfl (lv_at hl 1 rfl) ?_
  refine x_get C0 hW iw_X5 0 rfl rfl 6 (by decide) (List.mem_cons_of_mem _ wl_104) (v := .int o_body) rfl dX5_isName_16 ?_
  refine lv_istore_n (lv' := [(3, .int o_body), (2, .int t0), (0, .ref h_o), (1, .ref h_a)]) C0.x C0.b dX5_isName_19 rfl hl (by decide) rfl (fun ls hl => ?_)
  refine x_name C0 hW (List.mem_of_getElem? (i := 18) rfl) dX5_isName_20 ?_
  refine lv_astore (lv' := [(4, .ref g.2.2.1), (3, .int o_body), (2, .int t0), (0, .ref h_o), (1, .ref h_a)]) C0.x C0.b dX5_isName_23 hl (by decide) rfl (fun ls hl => ?_)
  refine lv_aload C0.x C0.b dX5_isName_25 (lv_at hl 0 rfl) ?_
  refine x_namelen C0 hW dX5_isName_27 ?_
  refine lv_istore (lv' := [(5, .int (Int32.ofNat 6)), (4, .ref g.2.2.1), (3, .int o_body), (2, .int t0), (0, .ref h_o), (1, .ref h_a)]) C0.x C0.b dX5_isName_28 hl (by decide) rfl (fun ls hl => ?_)
  refine lv_iconst (v := (0 : Int32)) C0.x C0.b dX5_isName_30 (by decide) ?_
  refine lv_istore (lv' := [(6, .int (0 : Int32)), (5, .int (Int32.ofNat 6)), (4, .ref g.2.2.1), (3, .int o_body), (2, .int t0), (0, .ref h_o), (1, .ref h_a)]) C0.x C0.b dX5_isName_31 hl (by decide) rfl (fun ls hl => ?_)
  exact w_X5_isName_b33 l g h_o h_o_given h_o_given_row h_o_chunks h_o_chunks_cells h_a h_a_row C0 K t0 o_body (Int32.ofNat 6) (0 : Int32) hF _ _ _ hW (lv_sub hl [6, 4, 3, 2, 1, 0] rfl)

set_option maxHeartbeats 4000000 in
set_option maxRecDepth 100000 in
/-- SnapHouse$StreamOpener.isName(LSnapHouse$Bytes;)Z -/
theorem c_X5_isName (l : Launch) (g : GX) (h_o h_o_given h_o_given_row h_o_chunks h_o_chunks_cells h_a h_a_row : Nat) {K : Nat} (o_fault : Int32) (o_place : Int32) (o_next : Int32) (o_type : Int32) (o_given_count : Int32) (o_given_row_n : Nat) (o_given_row_c : Nat → Int32) (o_chunks_count : Int32) (o_chunks_marked : Int32) (o_chunks_cells_n : Nat) (o_chunks_cells_c : Nat → Int32) {o_body : Int32} {o_size : Int32} {a_count : Int32} {a_row_n : Nat} {a_row_c : Nat → Int32} {o : Int32} (hF : f_X5_isName K o_body o_size a_count a_row_n a_row_c = some o) : mcI g l yX5_isName wA_X5_isName rm_X5_isName [.ref h_o, .ref h_a] (wF_StreamOpener_Bytes g h_o h_o_given h_o_given_row h_o_chunks h_o_chunks_cells h_a h_a_row o_fault o_place o_next o_type o_body o_size o_given_count o_given_row_n o_given_row_c o_chunks_count o_chunks_marked o_chunks_cells_n o_chunks_cells_c a_count a_row_n a_row_c) o (wF_StreamOpener_Bytes g h_o h_o_given h_o_given_row h_o_chunks h_o_chunks_cells h_a h_a_row o_fault o_place o_next o_type o_body o_size o_given_count o_given_row_n o_given_row_c o_chunks_count o_chunks_marked o_chunks_cells_n o_chunks_cells_c a_count a_row_n a_row_c) 0 0 := by
  refine x_start (cc := cX5_isName) (maxL := 8) (ret := (some .boolean)) (by decide) rfl (Nat.le_of_ble_eq_true rfl) ?_
  intro p e s m below meth c ls C0 hW hl
  have hl : lv_has ls 8 [(0, .ref h_o), (1, .ref h_a)] := hl
  unfold f_X5_isName at hF
  refine lv_aload_n C0.x C0.b dX5_isName_0 rfl (lv_at hl 0 rfl) ?_
  refine x_get C0 hW iw_X5 0 rfl rfl 7 (by decide) (List.mem_cons_of_mem _ wl_105) (v := .int o_size) rfl dX5_isName_1 ?_
  refine lv_bipush (v := (6 : Int32)) C0.x C0.b dX5_isName_4 (by decide) ?_
  refine lv_icmp_ne (tgt := 13) C0.x C0.b dX5_isName_6 (by decide) (fun c1 => ?_) (fun c1 => ?_)
  · have hF := it_f hF c1
    refine lv_iconst (v := (0 : Int32)) C0.x C0.b dX5_isName_13 (by decide) ?_
    exact w_X5_isName_b14 l g h_o h_o_given h_o_given_row h_o_chunks h_o_chunks_cells h_a h_a_row C0 (0 : Int32) hF _ _ _ hW (lv_sub hl [0, 1] rfl)
  · have hF := it_t hF c1
    refine lv_iconst (v := (1 : Int32)) C0.x C0.b dX5_isName_9 (by decide) ?_
    refine lv_goto (tgt := 14) C0.x C0.b dX5_isName_10 (by decide) ?_
    exact w_X5_isName_b14 l g h_o h_o_given h_o_given_row h_o_chunks h_o_chunks_cells h_a h_a_row C0 (1 : Int32) hF _ _ _ hW (lv_sub hl [0, 1] rfl)

abbrev rm_X5_checkChunk : Room := { frames := 2, cells := 0, slots := 0, locals := 48 }

set_option maxHeartbeats 4000000 in
set_option maxRecDepth 100000 in
/-- SnapHouse$StreamOpener.checkChunk(LSnapHouse$Bytes;)V -/
theorem c_X5_checkChunk (l : Launch) (g : GX) (h_o h_o_given h_o_given_row h_o_chunks h_o_chunks_cells h_a h_a_row : Nat) {K : Nat} (o_given_count : Int32) (o_given_row_n : Nat) (o_given_row_c : Nat → Int32) (o_chunks_count : Int32) (o_chunks_marked : Int32) (o_chunks_cells_n : Nat) (o_chunks_cells_c : Nat → Int32) {o_fault : Int32} {o_place : Int32} {o_next : Int32} {o_type : Int32} {o_body : Int32} {o_size : Int32} {a_count : Int32} {a_row_n : Nat} {a_row_c : Nat → Int32} {o : Int32 × Int32} (hF : f_X5_checkChunk K o_fault o_place o_next o_type o_body o_size a_count a_row_n a_row_c = some o) : mcV g l yX5_checkChunk wA_X5_checkChunk rm_X5_checkChunk [.ref h_o, .ref h_a] (wF_StreamOpener_Bytes g h_o h_o_given h_o_given_row h_o_chunks h_o_chunks_cells h_a h_a_row o_fault o_place o_next o_type o_body o_size o_given_count o_given_row_n o_given_row_c o_chunks_count o_chunks_marked o_chunks_cells_n o_chunks_cells_c a_count a_row_n a_row_c) (wF_StreamOpener_Bytes g h_o h_o_given h_o_given_row h_o_chunks h_o_chunks_cells h_a h_a_row o.1 o.2 o_next o_type o_body o_size o_given_count o_given_row_n o_given_row_c o_chunks_count o_chunks_marked o_chunks_cells_n o_chunks_cells_c a_count a_row_n a_row_c) 0 0 := by
  refine x_start (cc := cX5_checkChunk) (maxL := 2) (ret := none) (by decide) rfl (Nat.le_of_ble_eq_true rfl) ?_
  intro p e s m below meth c ls C0 hW hl
  have hl : lv_has ls 2 [(0, .ref h_o), (1, .ref h_a)] := hl
  unfold f_X5_checkChunk at hF
  refine lv_aload_n C0.x C0.b dX5_checkChunk_0 rfl (lv_at hl 0 rfl) ?_
  refine x_get C0 hW iw_X5 0 rfl rfl 5 (by decide) (List.mem_cons_of_mem _ wl_103) (v := .int o_type) rfl dX5_checkChunk_1 ?_
  refine lv_sipush (v := (255 : Int32)) C0.x C0.b dX5_checkChunk_4 (by decide) ?_
  refine lv_icmp_ne (tgt := 27) C0.x C0.b dX5_checkChunk_7 (by decide) (fun c1 => ?_) (fun c1 => ?_)
  · have hF := it_f hF c1
    refine lv_aload_n C0.x C0.b dX5_checkChunk_27 rfl (lv_at hl 0 rfl) ?_
    obtain ⟨r2, e3, hF⟩ := ob hF
    refine go_i C0 hW [0, 1, 2, 3, 4] [5, 6] [2, 3, 4, 5, 6, 0, 1] (va_runV (As := []) (rest := []) C0.fix (c_X5_tellsBytes l g h_o h_o_given h_o_given_row h_o_chunks h_o_chunks_cells o_fault o_place o_next o_body o_size o_given_count o_given_row_n o_given_row_c o_chunks_count o_chunks_marked o_chunks_cells_n o_chunks_cells_c e3 _) (cwV 0 C0.ts (gw_V wl_529 wl_530 wl_531 wl_32 wl_532) rfl rfl rfl (by decide +kernel) ⟨Nat.le_of_ble_eq_true rfl, Nat.le_of_ble_eq_true rfl⟩) (pcv_of C0 hW [0, 1, 2, 3, 4] rfl (by decide) (q0 := 0) rfl rfl) rfl rfl hl.1 rfl (lv_room (Nat.le_of_ble_eq_true rfl)) dX5_checkChunk_28 ⟨Nat.le_of_ble_eq_true rfl, Nat.le_of_ble_eq_true rfl⟩) rfl rfl (by decide) (by decide) (ws' := (wF_StreamOpener_Bytes g h_o h_o_given h_o_given_row h_o_chunks h_o_chunks_cells h_a h_a_row o_fault o_place o_next o_type o_body o_size o_given_count o_given_row_n o_given_row_c o_chunks_count o_chunks_marked o_chunks_cells_n o_chunks_cells_c a_count a_row_n a_row_c)) rfl (by decide) (fun H locs hW => ?_)
    refine lv_if_eq (tgt := 51) C0.x C0.b dX5_checkChunk_31 (by decide) (fun c4 => ?_) (fun c4 => ?_)
    · have hF := it_t hF c4
      refine lv_aload_n C0.x C0.b dX5_checkChunk_51 rfl (lv_at hl 0 rfl) ?_
      refine x_get C0 hW iw_X5 0 rfl rfl 5 (by decide) (List.mem_cons_of_mem _ wl_103) (v := .int o_type) rfl dX5_checkChunk_52 ?_
      refine lv_sipush (v := (128 : Int32)) C0.x C0.b dX5_checkChunk_55 (by decide) ?_
      refine lv_icmp_ge (tgt := 67) C0.x C0.b dX5_checkChunk_58 (by decide) (fun c5 => ?_) (fun c5 => ?_)
      · have hF := it_t hF c5
        obtain rfl := Option.some.inj hF
        exact x_vret C0 hW dX5_checkChunk_67
      · have hF := it_f hF c5
        refine lv_aload_n C0.x C0.b dX5_checkChunk_61 rfl (lv_at hl 0 rfl) ?_
        refine lv_bipush (v := (14 : Int32)) C0.x C0.b dX5_checkChunk_62 (by decide) ?_
        obtain ⟨r6, e7, hF⟩ := ob hF
        refine go_v C0 hW [0, 1, 2, 3, 4] [5, 6] [2, 3, 4, 5, 6, 0, 1] (va_runV (As := [.int (14 : Int32)]) (rest := []) C0.fix (c_X5_fail l g h_o h_o_given h_o_given_row h_o_chunks h_o_chunks_cells o_type o_body o_size o_given_count o_given_row_n o_given_row_c o_chunks_count o_chunks_marked o_chunks_cells_n o_chunks_cells_c e7 _) (cwV 1 C0.ts (gw_V wl_512 wl_513 wl_514 wl_32 wl_515) rfl rfl rfl (by decide +kernel) ⟨Nat.le_of_ble_eq_true rfl, Nat.le_of_ble_eq_true rfl⟩) (pcv_of C0 hW [0, 1, 2, 3, 4] rfl (by decide) (q0 := 0) rfl rfl) rfl rfl hl.1 rfl (lv_room (Nat.le_of_ble_eq_true rfl)) dX5_checkChunk_64 ⟨Nat.le_of_ble_eq_true rfl, Nat.le_of_ble_eq_true rfl⟩) rfl rfl (by decide) (by decide) (ws' := (wF_StreamOpener_Bytes g h_o h_o_given h_o_given_row h_o_chunks h_o_chunks_cells h_a h_a_row r6.1 r6.2 o_next o_type o_body o_size o_given_count o_given_row_n o_given_row_c o_chunks_count o_chunks_marked o_chunks_cells_n o_chunks_cells_c a_count a_row_n a_row_c)) rfl (by decide) (fun H locs hW => ?_)
        obtain rfl := Option.some.inj hF
        exact x_vret C0 hW dX5_checkChunk_67
    · have hF := it_f hF c4
      refine lv_aload_n C0.x C0.b dX5_checkChunk_34 rfl (lv_at hl 0 rfl) ?_
      refine x_get C0 hW iw_X5 0 rfl rfl 7 (by decide) (List.mem_cons_of_mem _ wl_105) (v := .int o_size) rfl dX5_checkChunk_35 ?_
      refine lv_iconst (v := (4 : Int32)) C0.x C0.b dX5_checkChunk_38 (by decide) ?_
      refine lv_icmp_ge (tgt := 67) C0.x C0.b dX5_checkChunk_39 (by decide) (fun c8 => ?_) (fun c8 => ?_)
      · have hF := it_t hF c8
        obtain rfl := Option.some.inj hF
        exact x_vret C0 hW dX5_checkChunk_67
      · have hF := it_f hF c8
        refine lv_aload_n C0.x C0.b dX5_checkChunk_42 rfl (lv_at hl 0 rfl) ?_
        refine lv_bipush (v := (15 : Int32)) C0.x C0.b dX5_checkChunk_43 (by decide) ?_
        obtain ⟨r9, e10, hF⟩ := ob hF
        refine go_v C0 hW [0, 1, 2, 3, 4] [5, 6] [2, 3, 4, 5, 6, 0, 1] (va_runV (As := [.int (15 : Int32)]) (rest := []) C0.fix (c_X5_fail l g h_o h_o_given h_o_given_row h_o_chunks h_o_chunks_cells o_type o_body o_size o_given_count o_given_row_n o_given_row_c o_chunks_count o_chunks_marked o_chunks_cells_n o_chunks_cells_c e10 _) (cwV 1 C0.ts (gw_V wl_512 wl_513 wl_514 wl_32 wl_515) rfl rfl rfl (by decide +kernel) ⟨Nat.le_of_ble_eq_true rfl, Nat.le_of_ble_eq_true rfl⟩) (pcv_of C0 hW [0, 1, 2, 3, 4] rfl (by decide) (q0 := 0) rfl rfl) rfl rfl hl.1 rfl (lv_room (Nat.le_of_ble_eq_true rfl)) dX5_checkChunk_45 ⟨Nat.le_of_ble_eq_true rfl, Nat.le_of_ble_eq_true rfl⟩) rfl rfl (by decide) (by decide) (ws' := (wF_StreamOpener_Bytes g h_o h_o_given h_o_given_row h_o_chunks h_o_chunks_cells h_a h_a_row r9.1 r9.2 o_next o_type o_body o_size o_given_count o_given_row_n o_given_row_c o_chunks_count o_chunks_marked o_chunks_cells_n o_chunks_cells_c a_count a_row_n a_row_c)) rfl (by decide) (fun H locs hW => ?_)
        refine lv_goto (tgt := 67) C0.x C0.b dX5_checkChunk_48 (by decide) ?_
        obtain rfl := Option.some.inj hF
        exact x_vret C0 hW dX5_checkChunk_67
  · have hF := it_t hF c1
    refine lv_aload_n C0.x C0.b dX5_checkChunk_10 rfl (lv_at hl 0 rfl) ?_
    refine lv_aload_n C0.x C0.b dX5_checkChunk_11 rfl (lv_at hl 1 rfl) ?_
    obtain ⟨r11, e12, hF⟩ := ob hF
    refine go_i C0 hW [0, 1, 2, 3, 4, 5, 6] [] [0, 1, 2, 3, 4, 5, 6] (va_runV (As := [.ref h_a]) (rest := []) C0.fix (c_X5_isName l g h_o h_o_given h_o_given_row h_o_chunks h_o_chunks_cells h_a h_a_row o_fault o_place o_next o_type o_given_count o_given_row_n o_given_row_c o_chunks_count o_chunks_marked o_chunks_cells_n o_chunks_cells_c e12 _) (cwV 1 C0.ts (gw_V wl_525 wl_526 wl_527 wl_32 wl_528) rfl rfl rfl (by decide +kernel) ⟨Nat.le_of_ble_eq_true rfl, Nat.le_of_ble_eq_true rfl⟩) (pcv_of C0 hW [0, 1, 2, 3, 4, 5, 6] rfl (by decide) (q0 := 0) rfl rfl) rfl rfl hl.1 rfl (lv_room (Nat.le_of_ble_eq_true rfl)) dX5_checkChunk_12 ⟨Nat.le_of_ble_eq_true rfl, Nat.le_of_ble_eq_true rfl⟩) rfl rfl (by decide) (by decide) (ws' := (wF_StreamOpener_Bytes g h_o h_o_given h_o_given_row h_o_chunks h_o_chunks_cells h_a h_a_row o_fault o_place o_next o_type o_body o_size o_given_count o_given_row_n o_given_row_c o_chunks_count o_chunks_marked o_chunks_cells_n o_chunks_cells_c a_count a_row_n a_row_c)) rfl (by decide) (fun H locs hW => ?_)
    refine lv_if_ne (tgt := 67) C0.x C0.b dX5_checkChunk_15 (by decide) (fun c13 => ?_) (fun c13 => ?_)
    · have hF := it_f hF c13
      obtain rfl := Option.some.inj hF
      exact x_vret C0 hW dX5_checkChunk_67
    · have hF := it_t hF c13
      refine lv_aload_n C0.x C0.b dX5_checkChunk_18 rfl (lv_at hl 0 rfl) ?_
      refine lv_bipush (v := (13 : Int32)) C0.x C0.b dX5_checkChunk_19 (by decide) ?_
      obtain ⟨r14, e15, hF⟩ := ob hF
      refine go_v C0 hW [0, 1, 2, 3, 4] [5, 6] [2, 3, 4, 5, 6, 0, 1] (va_runV (As := [.int (13 : Int32)]) (rest := []) C0.fix (c_X5_fail l g h_o h_o_given h_o_given_row h_o_chunks h_o_chunks_cells o_type o_body o_size o_given_count o_given_row_n o_given_row_c o_chunks_count o_chunks_marked o_chunks_cells_n o_chunks_cells_c e15 _) (cwV 1 C0.ts (gw_V wl_512 wl_513 wl_514 wl_32 wl_515) rfl rfl rfl (by decide +kernel) ⟨Nat.le_of_ble_eq_true rfl, Nat.le_of_ble_eq_true rfl⟩) (pcv_of C0 hW [0, 1, 2, 3, 4] rfl (by decide) (q0 := 0) rfl rfl) rfl rfl hl.1 rfl (lv_room (Nat.le_of_ble_eq_true rfl)) dX5_checkChunk_21 ⟨Nat.le_of_ble_eq_true rfl, Nat.le_of_ble_eq_true rfl⟩) rfl rfl (by decide) (by decide) (ws' := (wF_StreamOpener_Bytes g h_o h_o_given h_o_given_row h_o_chunks h_o_chunks_cells h_a h_a_row r14.1 r14.2 o_next o_type o_body o_size o_given_count o_given_row_n o_given_row_c o_chunks_count o_chunks_marked o_chunks_cells_n o_chunks_cells_c a_count a_row_n a_row_c)) rfl (by decide) (fun H locs hW => ?_)
      refine lv_goto (tgt := 67) C0.x C0.b dX5_checkChunk_24 (by decide) ?_
      obtain rfl := Option.some.inj hF
      exact x_vret C0 hW dX5_checkChunk_67

abbrev rm_X5_give : Room := { frames := 3, cells := 0, slots := 0, locals := 68 }

set_option maxHeartbeats 4000000 in
set_option maxRecDepth 100000 in
/-- SnapHouse$StreamOpener.give(LSnapHouse$Bytes;LSnapHouse$Bytes;II)V -/
theorem c_X5_give (l : Launch) (g : GX) (h_o h_o_given h_o_given_row h_o_chunks h_o_chunks_cells h_a h_a_row h_b h_b_row : Nat) {K : Nat} (o_type : Int32) (o_size : Int32) (o_chunks_count : Int32) (o_chunks_marked : Int32) (o_chunks_cells_n : Nat) (o_chunks_cells_c : Nat → Int32) {o_fault : Int32} {o_place : Int32} {o_next : Int32} {o_body : Int32} {o_given_count : Int32} {o_given_row_n : Nat} {o_given_row_c : Nat → Int32} {a_count : Int32} {a_row_n : Nat} {a_row_c : Nat → Int32} {b_count : Int32} {b_row_n : Nat} {b_row_c : Nat → Int32} {p3 : Int32} {p4 : Int32} {o : Int32 × Int32 × Int32 × (Nat → Int32)} (hF : f_X5_give K o_fault o_place o_next o_body o_given_count o_given_row_n o_given_row_c a_count a_row_n a_row_c b_count b_row_n b_row_c p3 p4 = some o) : mcV g l yX5_give wA_X5_give rm_X5_give [.ref h_o, .ref h_a, .ref h_b, .int p3, .int p4] (wF_StreamOpener_Bytes_Bytes g h_o h_o_given h_o_given_row h_o_chunks h_o_chunks_cells h_a h_a_row h_b h_b_row o_fault o_place o_next o_type o_body o_size o_given_count o_given_row_n o_given_row_c o_chunks_count o_chunks_marked o_chunks_cells_n o_chunks_cells_c a_count a_row_n a_row_c b_count b_row_n b_row_c) (wF_StreamOpener_Bytes_Bytes g h_o h_o_given h_o_given_row h_o_chunks h_o_chunks_cells h_a h_a_row h_b h_b_row o.1 o.2.1 o_next o_type o_body o_size o.2.2.1 o_given_row_n o.2.2.2 o_chunks_count o_chunks_marked o_chunks_cells_n o_chunks_cells_c a_count a_row_n a_row_c b_count b_row_n b_row_c) 0 0 := by
  refine x_start (cc := cX5_give) (maxL := 5) (ret := none) (by decide) rfl (Nat.le_of_ble_eq_true rfl) ?_
  intro p e s m below meth c ls C0 hW hl
  have hl : lv_has ls 5 [(0, .ref h_o), (1, .ref h_a), (2, .ref h_b), (3, .int p3), (4, .int p4)] := hl
  unfold f_X5_give at hF
  refine lv_aload_n C0.x C0.b dX5_give_0 rfl (lv_at hl 0 rfl) ?_
  refine x_get C0 hW iw_X5 0 rfl rfl 0 (by decide) (List.mem_cons_of_mem _ wl_97) (v := .ref h_o_given) rfl dX5_give_1 ?_
  refine lv_iload C0.x C0.b dX5_give_4 (lv_at hl 4 rfl) ?_
  obtain ⟨r1, e2, hF⟩ := ob hF
  refine go_i C0 hW [1, 2] [0, 3, 4, 5, 6, 7, 8] [0, 7, 8, 1, 2, 3, 4, 5, 6] (va_runV (As := [.int p4]) (rest := []) C0.fix (c_X1_hasRoomFor l g h_o_given h_o_given_row o_given_row_c e2 _) (cwV 1 C0.ts (gw_V wl_541 wl_133 wl_134 wl_15 wl_135) rfl rfl rfl (by decide +kernel) ⟨Nat.le_of_ble_eq_true rfl, Nat.le_of_ble_eq_true rfl⟩) (pcv_of C0 hW [1, 2] rfl (by decide) (q0 := 1) rfl rfl) rfl rfl hl.1 rfl (lv_room (Nat.le_of_ble_eq_true rfl)) dX5_give_6 ⟨Nat.le_of_ble_eq_true rfl, Nat.le_of_ble_eq_true rfl⟩) rfl rfl (by decide) (by decide) (ws' := (wF_StreamOpener_Bytes_Bytes g h_o h_o_given h_o_given_row h_o_chunks h_o_chunks_cells h_a h_a_row h_b h_b_row o_fault o_place o_next o_type o_body o_size o_given_count o_given_row_n o_given_row_c o_chunks_count o_chunks_marked o_chunks_cells_n o_chunks_cells_c a_count a_row_n a_row_c b_count b_row_n b_row_c)) rfl (by decide) (fun H locs hW => ?_)
  refine lv_if_ne (tgt := 21) C0.x C0.b dX5_give_9 (by decide) (fun c3 => ?_) (fun c3 => ?_)
  · have hF := it_f hF c3
    refine lv_aload_n C0.x C0.b dX5_give_21 rfl (lv_at hl 1 rfl) ?_
    refine lv_aload_n C0.x C0.b dX5_give_22 rfl (lv_at hl 0 rfl) ?_
    refine x_get C0 hW iw_X5 0 rfl rfl 6 (by decide) (List.mem_cons_of_mem _ wl_104) (v := .int o_body) rfl dX5_give_23 ?_
    refine lv_iconst (v := (4 : Int32)) C0.x C0.b dX5_give_26 (by decide) ?_
    obtain ⟨r4, e5, hF⟩ := ob hF
    refine go_l C0 hW [5, 6] [0, 1, 2, 3, 4, 7, 8] [0, 1, 2, 3, 4, 7, 8, 5, 6] (va_runV (As := [.int o_body, .int (4 : Int32)]) (rest := []) C0.fix (c_X1_lowestFirst l g h_a h_a_row e5 _) (cwV 2 C0.ts (gw_V wl_520 wl_369 wl_370 wl_15 wl_371) rfl rfl rfl (by decide +kernel) ⟨Nat.le_of_ble_eq_true rfl, Nat.le_of_ble_eq_true rfl⟩) (pcv_of C0 hW [5, 6] rfl (by decide) (q0 := 5) rfl rfl) rfl rfl hl.1 rfl (lv_room (Nat.le_of_ble_eq_true rfl)) dX5_give_27 ⟨Nat.le_of_ble_eq_true rfl, Nat.le_of_ble_eq_true rfl⟩) rfl rfl (by decide) (by decide) (ws' := (wF_StreamOpener_Bytes_Bytes g h_o h_o_given h_o_given_row h_o_chunks h_o_chunks_cells h_a h_a_row h_b h_b_row o_fault o_place o_next o_type o_body o_size o_given_count o_given_row_n o_given_row_c o_chunks_count o_chunks_marked o_chunks_cells_n o_chunks_cells_c a_count a_row_n a_row_c b_count b_row_n b_row_c)) rfl (by decide) (fun H locs hW => ?_)
    refine lv_l2i (v := (r4.toInt32)) C0.x C0.b dX5_give_30 rfl ?_
    refine lv_aload_n C0.x C0.b dX5_give_31 rfl (lv_at hl 2 rfl) ?_
    refine lv_iload_n C0.x C0.b dX5_give_32 rfl (lv_at hl 3 rfl) ?_
    refine lv_iload C0.x C0.b dX5_give_33 (lv_at hl 4 rfl) ?_
    obtain ⟨r6, e7, hF⟩ := ob hF
    refine go_i C0 hW [7, 8] [0, 1, 2, 3, 4, 5, 6] [0, 1, 2, 3, 4, 5, 6, 7, 8] (va_runV (As := [.int p3, .int p4]) (rest := [.int (r4.toInt32)]) C0.fix (c_X1_maskedCrc l g h_b h_b_row e7 _) (cwV 2 C0.ts (gw_V wl_542 wl_461 wl_462 wl_15 wl_463) rfl rfl rfl (by decide +kernel) ⟨Nat.le_of_ble_eq_true rfl, Nat.le_of_ble_eq_true rfl⟩) (pcv_of C0 hW [7, 8] rfl (by decide) (q0 := 7) rfl rfl) rfl rfl hl.1 rfl (lv_room (Nat.le_of_ble_eq_true rfl)) dX5_give_35 ⟨Nat.le_of_ble_eq_true rfl, Nat.le_of_ble_eq_true rfl⟩) rfl rfl (by decide) (by decide) (ws' := (wF_StreamOpener_Bytes_Bytes g h_o h_o_given h_o_given_row h_o_chunks h_o_chunks_cells h_a h_a_row h_b h_b_row o_fault o_place o_next o_type o_body o_size o_given_count o_given_row_n o_given_row_c o_chunks_count o_chunks_marked o_chunks_cells_n o_chunks_cells_c a_count a_row_n a_row_c b_count b_row_n b_row_c)) rfl (by decide) (fun H locs hW => ?_)
    refine lv_icmp_eq (tgt := 50) C0.x C0.b dX5_give_38 (by decide) (fun c8 => ?_) (fun c8 => ?_)
    · have hF := it_t hF c8
      refine lv_aload_n C0.x C0.b dX5_give_50 rfl (lv_at hl 0 rfl) ?_
      refine x_get C0 hW iw_X5 0 rfl rfl 0 (by decide) (List.mem_cons_of_mem _ wl_97) (v := .ref h_o_given) rfl dX5_give_51 ?_
      refine lv_aload_n C0.x C0.b dX5_give_54 rfl (lv_at hl 2 rfl) ?_
      refine lv_iload_n C0.x C0.b dX5_give_55 rfl (lv_at hl 3 rfl) ?_
      refine lv_iload C0.x C0.b dX5_give_56 (lv_at hl 4 rfl) ?_
      obtain ⟨r9, e10, hF⟩ := ob hF
      refine go_v C0 hW [1, 2, 7, 8] [0, 3, 4, 5, 6] [0, 5, 6, 1, 2, 3, 4, 7, 8] (va_runV (As := [.ref h_b, .int p3, .int p4]) (rest := []) C0.fix (c_X1_putAll l g h_o_given h_o_given_row h_b h_b_row e10 _) (cwV 3 C0.ts (gw_V wl_543 wl_226 wl_227 wl_15 wl_228) rfl rfl rfl (by decide +kernel) ⟨Nat.le_of_ble_eq_true rfl, Nat.le_of_ble_eq_true rfl⟩) (pcv_of C0 hW [1, 2, 7, 8] rfl (by decide) (q0 := 1) rfl rfl) rfl rfl hl.1 rfl (lv_room (Nat.le_of_ble_eq_true rfl)) dX5_give_58 ⟨Nat.le_of_ble_eq_true rfl, Nat.le_of_ble_eq_true rfl⟩) rfl rfl (by decide) (by decide) (ws' := (wF_StreamOpener_Bytes_Bytes g h_o h_o_given h_o_given_row h_o_chunks h_o_chunks_cells h_a h_a_row h_b h_b_row o_fault o_place o_next o_type o_body o_size r9.1 o_given_row_n r9.2 o_chunks_count o_chunks_marked o_chunks_cells_n o_chunks_cells_c a_count a_row_n a_row_c b_count b_row_n b_row_c)) rfl (by decide) (fun H locs hW => ?_)
      obtain rfl := Option.some.inj hF
      exact x_vret C0 hW dX5_give_61
    · have hF := it_f hF c8
      refine lv_aload_n C0.x C0.b dX5_give_41 rfl (lv_at hl 0 rfl) ?_
      refine lv_bipush (v := (18 : Int32)) C0.x C0.b dX5_give_42 (by decide) ?_
      obtain ⟨r11, e12, hF⟩ := ob hF
      refine go_v C0 hW [0, 1, 2, 3, 4] [5, 6, 7, 8] [4, 5, 6, 7, 8, 0, 1, 2, 3] (va_runV (As := [.int (18 : Int32)]) (rest := []) C0.fix (c_X5_fail l g h_o h_o_given h_o_given_row h_o_chunks h_o_chunks_cells o_type o_body o_size o_given_count o_given_row_n o_given_row_c o_chunks_count o_chunks_marked o_chunks_cells_n o_chunks_cells_c e12 _) (cwV 1 C0.ts (gw_V wl_512 wl_513 wl_514 wl_32 wl_515) rfl rfl rfl (by decide +kernel) ⟨Nat.le_of_ble_eq_true rfl, Nat.le_of_ble_eq_true rfl⟩) (pcv_of C0 hW [0, 1, 2, 3, 4] rfl (by decide) (q0 := 0) rfl rfl) rfl rfl hl.1 rfl (lv_room (Nat.le_of_ble_eq_true rfl)) dX5_give_44 ⟨Nat.le_of_ble_eq_true rfl, Nat.le_of_ble_eq_true rfl⟩) rfl rfl (by decide) (by decide) (ws' := (wF_StreamOpener_Bytes_Bytes g h_o h_o_given h_o_given_row h_o_chunks h_o_chunks_cells h_a h_a_row h_b h_b_row r11.1 r11.2 o_next o_type o_body o_size o_given_count o_given_row_n o_given_row_c o_chunks_count o_chunks_marked o_chunks_cells_n o_chunks_cells_c a_count a_row_n a_row_c b_count b_row_n b_row_c)) rfl (by decide) (fun H locs hW => ?_)
      refine lv_goto (tgt := 61) C0.x C0.b dX5_give_47 (by decide) ?_
      obtain rfl := Option.some.inj hF
      exact x_vret C0 hW dX5_give_61
  · have hF := it_t hF c3
    refine lv_aload_n C0.x C0.b dX5_give_12 rfl (lv_at hl 0 rfl) ?_
    refine lv_bipush (v := (17 : Int32)) C0.x C0.b dX5_give_13 (by decide) ?_
    obtain ⟨r13, e14, hF⟩ := ob hF
    refine go_v C0 hW [0, 1, 2, 3, 4] [5, 6, 7, 8] [4, 5, 6, 7, 8, 0, 1, 2, 3] (va_runV (As := [.int (17 : Int32)]) (rest := []) C0.fix (c_X5_fail l g h_o h_o_given h_o_given_row h_o_chunks h_o_chunks_cells o_type o_body o_size o_given_count o_given_row_n o_given_row_c o_chunks_count o_chunks_marked o_chunks_cells_n o_chunks_cells_c e14 _) (cwV 1 C0.ts (gw_V wl_512 wl_513 wl_514 wl_32 wl_515) rfl rfl rfl (by decide +kernel) ⟨Nat.le_of_ble_eq_true rfl, Nat.le_of_ble_eq_true rfl⟩) (pcv_of C0 hW [0, 1, 2, 3, 4] rfl (by decide) (q0 := 0) rfl rfl) rfl rfl hl.1 rfl (lv_room (Nat.le_of_ble_eq_true rfl)) dX5_give_15 ⟨Nat.le_of_ble_eq_true rfl, Nat.le_of_ble_eq_true rfl⟩) rfl rfl (by decide) (by decide) (ws' := (wF_StreamOpener_Bytes_Bytes g h_o h_o_given h_o_given_row h_o_chunks h_o_chunks_cells h_a h_a_row h_b h_b_row r13.1 r13.2 o_next o_type o_body o_size o_given_count o_given_row_n o_given_row_c o_chunks_count o_chunks_marked o_chunks_cells_n o_chunks_cells_c a_count a_row_n a_row_c b_count b_row_n b_row_c)) rfl (by decide) (fun H locs hW => ?_)
    refine lv_goto (tgt := 61) C0.x C0.b dX5_give_18 (by decide) ?_
    obtain rfl := Option.some.inj hF
    exact x_vret C0 hW dX5_give_61

abbrev rm_X5_give_same : Room := { frames := 3, cells := 0, slots := 0, locals := 68 }

set_option maxHeartbeats 4000000 in
set_option maxRecDepth 100000 in
/-- SnapHouse$StreamOpener.give(LSnapHouse$Bytes;LSnapHouse$Bytes;II)V -/
theorem c_X5_give_same (l : Launch) (g : GX) (h_o h_o_given h_o_given_row h_o_chunks h_o_chunks_cells h_a h_a_row : Nat) {K : Nat} (o_type : Int32) (o_size : Int32) (o_chunks_count : Int32) (o_chunks_marked : Int32) (o_chunks_cells_n : Nat) (o_chunks_cells_c : Nat → Int32) {o_fault : Int32} {o_place : Int32} {o_next : Int32} {o_body : Int32} {o_given_count : Int32} {o_given_row_n : Nat} {o_given_row_c : Nat → Int32} {a_count : Int32} {a_row_n : Nat} {a_row_c : Nat → Int32} {p3 : Int32} {p4 : Int32} {o : Int32 × Int32 × Int32 × (Nat → Int32)} (hF : f_X5_give_same K o_fault o_place o_next o_body o_given_count o_given_row_n o_given_row_c a_count a_row_n a_row_c p3 p4 = some o) : mcV g l yX5_give wA_X5_give rm_X5_give_same [.ref h_o, .ref h_a, .ref h_a, .int p3, .int p4] (wF_StreamOpener_Bytes g h_o h_o_given h_o_given_row h_o_chunks h_o_chunks_cells h_a h_a_row o_fault o_place o_next o_type o_body o_size o_given_count o_given_row_n o_given_row_c o_chunks_count o_chunks_marked o_chunks_cells_n o_chunks_cells_c a_count a_row_n a_row_c) (wF_StreamOpener_Bytes g h_o h_o_given h_o_given_row h_o_chunks h_o_chunks_cells h_a h_a_row o.1 o.2.1 o_next o_type o_body o_size o.2.2.1 o_given_row_n o.2.2.2 o_chunks_count o_chunks_marked o_chunks_cells_n o_chunks_cells_c a_count a_row_n a_row_c) 0 0 := by
  refine x_start (cc := cX5_give) (maxL := 5) (ret := none) (by decide) rfl (Nat.le_of_ble_eq_true rfl) ?_
  intro p e s m below meth c ls C0 hW hl
  have hl : lv_has ls 5 [(0, .ref h_o), (1, .ref h_a), (2, .ref h_a), (3, .int p3), (4, .int p4)] := hl
  unfold f_X5_give_same at hF
  refine lv_aload_n C0.x C0.b dX5_give_0 rfl (lv_at hl 0 rfl) ?_
  refine x_get C0 hW iw_X5 0 rfl rfl 0 (by decide) (List.mem_cons_of_mem _ wl_97) (v := .ref h_o_given) rfl dX5_give_1 ?_
  refine lv_iload C0.x C0.b dX5_give_4 (lv_at hl 4 rfl) ?_
  obtain ⟨r1, e2, hF⟩ := ob hF
  refine go_i C0 hW [1, 2] [0, 3, 4, 5, 6] [0, 5, 6, 1, 2, 3, 4] (va_runV (As := [.int p4]) (rest := []) C0.fix (c_X1_hasRoomFor l g h_o_given h_o_given_row o_given_row_c e2 _) (cwV 1 C0.ts (gw_V wl_541 wl_133 wl_134 wl_15 wl_135) rfl rfl rfl (by decide +kernel) ⟨Nat.le_of_ble_eq_true rfl, Nat.le_of_ble_eq_true rfl⟩) (pcv_of C0 hW [1, 2] rfl (by decide) (q0 := 1) rfl rfl) rfl rfl hl.1 rfl (lv_room (Nat.le_of_ble_eq_true rfl)) dX5_give_6 ⟨Nat.le_of_ble_eq_true rfl, Nat.le_of_ble_eq_true rfl⟩) rfl rfl (by decide) (by decide) (ws' := (wF_StreamOpener_Bytes g h_o h_o_given h_o_given_row h_o_chunks h_o_chunks_cells h_a h_a_row o_fault o_place o_next o_type o_body o_size o_given_count o_given_row_n o_given_row_c o_chunks_count o_chunks_marked o_chunks_cells_n o_chunks_cells_c a_count a_row_n a_row_c)) rfl (by decide) (fun H locs hW => ?_)
  refine lv_if_ne (tgt := 21) C0.x C0.b dX5_give_9 (by decide) (fun c3 => ?_) (fun c3 => ?_)
  · have hF := it_f hF c3
    refine lv_aload_n C0.x C0.b dX5_give_21 rfl (lv_at hl 1 rfl) ?_
    refine lv_aload_n C0.x C0.b dX5_give_22 rfl (lv_at hl 0 rfl) ?_
    refine x_get C0 hW iw_X5 0 rfl rfl 6 (by decide) (List.mem_cons_of_mem _ wl_104) (v := .int o_body) rfl dX5_give_23 ?_
    refine lv_iconst (v := (4 : Int32)) C0.x C0.b dX5_give_26 (by decide) ?_
    obtain ⟨r4, e5, hF⟩ := ob hF
    refine go_l C0 hW [5, 6] [0, 1, 2, 3, 4] [0, 1, 2, 3, 4, 5, 6] (va_runV (As := [.int o_body, .int (4 : Int32)]) (rest := []) C0.fix (c_X1_lowestFirst l g h_a h_a_row e5 _) (cwV 2 C0.ts (gw_V wl_520 wl_369 wl_370 wl_15 wl_371) rfl rfl rfl (by decide +kernel) ⟨Nat.le_of_ble_eq_true rfl, Nat.le_of_ble_eq_true rfl⟩) (pcv_of C0 hW [5, 6] rfl (by decide) (q0 := 5) rfl rfl) rfl rfl hl.1 rfl (lv_room (Nat.le_of_ble_eq_true rfl)) dX5_give_27 ⟨Nat.le_of_ble_eq_true rfl, Nat.le_of_ble_eq_true rfl⟩) rfl rfl (by decide) (by decide) (ws' := (wF_StreamOpener_Bytes g h_o h_o_given h_o_given_row h_o_chunks h_o_chunks_cells h_a h_a_row o_fault o_place o_next o_type o_body o_size o_given_count o_given_row_n o_given_row_c o_chunks_count o_chunks_marked o_chunks_cells_n o_chunks_cells_c a_count a_row_n a_row_c)) rfl (by decide) (fun H locs hW => ?_)
    refine lv_l2i (v := (r4.toInt32)) C0.x C0.b dX5_give_30 rfl ?_
    refine lv_aload_n C0.x C0.b dX5_give_31 rfl (lv_at hl 2 rfl) ?_
    refine lv_iload_n C0.x C0.b dX5_give_32 rfl (lv_at hl 3 rfl) ?_
    refine lv_iload C0.x C0.b dX5_give_33 (lv_at hl 4 rfl) ?_
    obtain ⟨r6, e7, hF⟩ := ob hF
    refine go_i C0 hW [5, 6] [0, 1, 2, 3, 4] [0, 1, 2, 3, 4, 5, 6] (va_runV (As := [.int p3, .int p4]) (rest := [.int (r4.toInt32)]) C0.fix (c_X1_maskedCrc l g h_a h_a_row e7 _) (cwV 2 C0.ts (gw_V wl_542 wl_461 wl_462 wl_15 wl_463) rfl rfl rfl (by decide +kernel) ⟨Nat.le_of_ble_eq_true rfl, Nat.le_of_ble_eq_true rfl⟩) (pcv_of C0 hW [5, 6] rfl (by decide) (q0 := 5) rfl rfl) rfl rfl hl.1 rfl (lv_room (Nat.le_of_ble_eq_true rfl)) dX5_give_35 ⟨Nat.le_of_ble_eq_true rfl, Nat.le_of_ble_eq_true rfl⟩) rfl rfl (by decide) (by decide) (ws' := (wF_StreamOpener_Bytes g h_o h_o_given h_o_given_row h_o_chunks h_o_chunks_cells h_a h_a_row o_fault o_place o_next o_type o_body o_size o_given_count o_given_row_n o_given_row_c o_chunks_count o_chunks_marked o_chunks_cells_n o_chunks_cells_c a_count a_row_n a_row_c)) rfl (by decide) (fun H locs hW => ?_)
    refine lv_icmp_eq (tgt := 50) C0.x C0.b dX5_give_38 (by decide) (fun c8 => ?_) (fun c8 => ?_)
    · have hF := it_t hF c8
      refine lv_aload_n C0.x C0.b dX5_give_50 rfl (lv_at hl 0 rfl) ?_
      refine x_get C0 hW iw_X5 0 rfl rfl 0 (by decide) (List.mem_cons_of_mem _ wl_97) (v := .ref h_o_given) rfl dX5_give_51 ?_
      refine lv_aload_n C0.x C0.b dX5_give_54 rfl (lv_at hl 2 rfl) ?_
      refine lv_iload_n C0.x C0.b dX5_give_55 rfl (lv_at hl 3 rfl) ?_
      refine lv_iload C0.x C0.b dX5_give_56 (lv_at hl 4 rfl) ?_
      obtain ⟨r9, e10, hF⟩ := ob hF
      refine go_v C0 hW [1, 2, 5, 6] [0, 3, 4] [0, 3, 4, 1, 2, 5, 6] (va_runV (As := [.ref h_a, .int p3, .int p4]) (rest := []) C0.fix (c_X1_putAll l g h_o_given h_o_given_row h_a h_a_row e10 _) (cwV 3 C0.ts (gw_V wl_543 wl_226 wl_227 wl_15 wl_228) rfl rfl rfl (by decide +kernel) ⟨Nat.le_of_ble_eq_true rfl, Nat.le_of_ble_eq_true rfl⟩) (pcv_of C0 hW [1, 2, 5, 6] rfl (by decide) (q0 := 1) rfl rfl) rfl rfl hl.1 rfl (lv_room (Nat.le_of_ble_eq_true rfl)) dX5_give_58 ⟨Nat.le_of_ble_eq_true rfl, Nat.le_of_ble_eq_true rfl⟩) rfl rfl (by decide) (by decide) (ws' := (wF_StreamOpener_Bytes g h_o h_o_given h_o_given_row h_o_chunks h_o_chunks_cells h_a h_a_row o_fault o_place o_next o_type o_body o_size r9.1 o_given_row_n r9.2 o_chunks_count o_chunks_marked o_chunks_cells_n o_chunks_cells_c a_count a_row_n a_row_c)) rfl (by decide) (fun H locs hW => ?_)
      obtain rfl := Option.some.inj hF
      exact x_vret C0 hW dX5_give_61
    · have hF := it_f hF c8
      refine lv_aload_n C0.x C0.b dX5_give_41 rfl (lv_at hl 0 rfl) ?_
      refine lv_bipush (v := (18 : Int32)) C0.x C0.b dX5_give_42 (by decide) ?_
      obtain ⟨r11, e12, hF⟩ := ob hF
      refine go_v C0 hW [0, 1, 2, 3, 4] [5, 6] [2, 3, 4, 5, 6, 0, 1] (va_runV (As := [.int (18 : Int32)]) (rest := []) C0.fix (c_X5_fail l g h_o h_o_given h_o_given_row h_o_chunks h_o_chunks_cells o_type o_body o_size o_given_count o_given_row_n o_given_row_c o_chunks_count o_chunks_marked o_chunks_cells_n o_chunks_cells_c e12 _) (cwV 1 C0.ts (gw_V wl_512 wl_513 wl_514 wl_32 wl_515) rfl rfl rfl (by decide +kernel) ⟨Nat.le_of_ble_eq_true rfl, Nat.le_of_ble_eq_true rfl⟩) (pcv_of C0 hW [0, 1, 2, 3, 4] rfl (by decide) (q0 := 0) rfl rfl) rfl rfl hl.1 rfl (lv_room (Nat.le_of_ble_eq_true rfl)) dX5_give_44 ⟨Nat.le_of_ble_eq_true rfl, Nat.le_of_ble_eq_true rfl⟩) rfl rfl (by decide) (by decide) (ws' := (wF_StreamOpener_Bytes g h_o h_o_given h_o_given_row h_o_chunks h_o_chunks_cells h_a h_a_row r11.1 r11.2 o_next o_type o_body o_size o_given_count o_given_row_n o_given_row_c o_chunks_count o_chunks_marked o_chunks_cells_n o_chunks_cells_c a_count a_row_n a_row_c)) rfl (by decide) (fun H locs hW => ?_)
      refine lv_goto (tgt := 61) C0.x C0.b dX5_give_47 (by decide) ?_
      obtain rfl := Option.some.inj hF
      exact x_vret C0 hW dX5_give_61
  · have hF := it_t hF c3
    refine lv_aload_n C0.x C0.b dX5_give_12 rfl (lv_at hl 0 rfl) ?_
    refine lv_bipush (v := (17 : Int32)) C0.x C0.b dX5_give_13 (by decide) ?_
    obtain ⟨r13, e14, hF⟩ := ob hF
    refine go_v C0 hW [0, 1, 2, 3, 4] [5, 6] [2, 3, 4, 5, 6, 0, 1] (va_runV (As := [.int (17 : Int32)]) (rest := []) C0.fix (c_X5_fail l g h_o h_o_given h_o_given_row h_o_chunks h_o_chunks_cells o_type o_body o_size o_given_count o_given_row_n o_given_row_c o_chunks_count o_chunks_marked o_chunks_cells_n o_chunks_cells_c e14 _) (cwV 1 C0.ts (gw_V wl_512 wl_513 wl_514 wl_32 wl_515) rfl rfl rfl (by decide +kernel) ⟨Nat.le_of_ble_eq_true rfl, Nat.le_of_ble_eq_true rfl⟩) (pcv_of C0 hW [0, 1, 2, 3, 4] rfl (by decide) (q0 := 0) rfl rfl) rfl rfl hl.1 rfl (lv_room (Nat.le_of_ble_eq_true rfl)) dX5_give_15 ⟨Nat.le_of_ble_eq_true rfl, Nat.le_of_ble_eq_true rfl⟩) rfl rfl (by decide) (by decide) (ws' := (wF_StreamOpener_Bytes g h_o h_o_given h_o_given_row h_o_chunks h_o_chunks_cells h_a h_a_row r13.1 r13.2 o_next o_type o_body o_size o_given_count o_given_row_n o_given_row_c o_chunks_count o_chunks_marked o_chunks_cells_n o_chunks_cells_c a_count a_row_n a_row_c)) rfl (by decide) (fun H locs hW => ?_)
    refine lv_goto (tgt := 61) C0.x C0.b dX5_give_18 (by decide) ?_
    obtain rfl := Option.some.inj hF
    exact x_vret C0 hW dX5_give_61

abbrev rm_X5_openBytes : Room := { frames := 4, cells := 0, slots := 0, locals := 96 }

set_option maxHeartbeats 4000000 in
set_option maxRecDepth 100000 in
/-- SnapHouse$StreamOpener.openBytes(LSnapHouse$Bytes;LSnapHouse$BlockOpener;)V -/
theorem c_X5_openBytes (l : Launch) (g : GX) (h_o h_o_given h_o_given_row h_o_chunks h_o_chunks_cells h_a h_a_row h_b h_b_given h_b_given_row h_b_elements h_b_elements_cells : Nat) {K : Nat} (o_chunks_count : Int32) (o_chunks_marked : Int32) (o_chunks_cells_n : Nat) (o_chunks_cells_c : Nat → Int32) {o_fault : Int32} {o_place : Int32} {o_next : Int32} {o_type : Int32} {o_body : Int32} {o_size : Int32} {o_given_count : Int32} {o_given_row_n : Nat} {o_given_row_c : Nat → Int32} {a_count : Int32} {a_row_n : Nat} {a_row_c : Nat → Int32} {b_fault : Int32} {b_place : Int32} {b_start : Int32} {b_end : Int32} {b_next : Int32} {b_length : Int32} {b_sort : Int32} {b_body : Int32} {b_size : Int64} {b_back : Int64} {b_given_count : Int32} {b_given_row_n : Nat} {b_given_row_c : Nat → Int32} {b_elements_count : Int32} {b_elements_marked : Int32} {b_elements_cells_n : Nat} {b_elements_cells_c : Nat → Int32} {o : Int32 × Int32 × Int32 × (Nat → Int32) × Int32 × Int32 × Int32 × Int32 × Int32 × Int32 × Int32 × Int32 × Int64 × Int64 × Int32 × (Nat → Int32) × Int32 × Int32 × (Nat → Int32)} (hF : f_X5_openBytes K o_fault o_place o_next o_type o_body o_size o_given_count o_given_row_n o_given_row_c a_count a_row_n a_row_c b_fault b_place b_start b_end b_next b_length b_sort b_body b_size b_back b_given_count b_given_row_n b_given_row_c b_elements_count b_elements_marked b_elements_cells_n b_elements_cells_c = some o) : mcV g l yX5_openBytes wA_X5_openBytes rm_X5_openBytes [.ref h_o, .ref h_a, .ref h_b] (wF_StreamOpener_Bytes_BlockOpener g h_o h_o_given h_o_given_row h_o_chunks h_o_chunks_cells h_a h_a_row h_b h_b_given h_b_given_row h_b_elements h_b_elements_cells o_fault o_place o_next o_type o_body o_size o_given_count o_given_row_n o_given_row_c o_chunks_count o_chunks_marked o_chunks_cells_n o_chunks_cells_c a_count a_row_n a_row_c b_fault b_place b_start b_end b_next b_length b_sort b_body b_size b_back b_given_count b_given_row_n b_given_row_c b_elements_count b_elements_marked b_elements_cells_n b_elements_cells_c) (wF_StreamOpener_Bytes_BlockOpener g h_o h_o_given h_o_given_row h_o_chunks h_o_chunks_cells h_a h_a_row h_b h_b_given h_b_given_row h_b_elements h_b_elements_cells o.1 o.2.1 o_next o_type o_body o_size o.2.2.1 o_given_row_n o.2.2.2.1 o_chunks_count o_chunks_marked o_chunks_cells_n o_chunks_cells_c a_count a_row_n a_row_c o.2.2.2.2.1 o.2.2.2.2.2.1 o.2.2.2.2.2.2.1 o.2.2.2.2.2.2.2.1 o.2.2.2.2.2.2.2.2.1 o.2.2.2.2.2.2.2.2.2.1 o.2.2.2.2.2.2.2.2.2.2.1 o.2.2.2.2.2.2.2.2.2.2.2.1 o.2.2.2.2.2.2.2.2.2.2.2.2.1 o.2.2.2.2.2.2.2.2.2.2.2.2.2.1 o.2.2.2.2.2.2.2.2.2.2.2.2.2.2.1 b_given_row_n o.2.2.2.2.2.2.2.2.2.2.2.2.2.2.2.1 o.2.2.2.2.2.2.2.2.2.2.2.2.2.2.2.2.1 o.2.2.2.2.2.2.2.2.2.2.2.2.2.2.2.2.2.1 b_elements_cells_n o.2.2.2.2.2.2.2.2.2.2.2.2.2.2.2.2.2.2) 0 0 := by
  refine x_start (cc := cX5_openBytes) (maxL := 5) (ret := none) (by decide) rfl (Nat.le_of_ble_eq_true rfl) ?_
  intro p e s m below meth c ls C0 hW hl
  have hl : lv_has ls 5 [(0, .ref h_o), (1, .ref h_a), (2, .ref h_b)] := hl
  unfold f_X5_openBytes at hF
  refine lv_aload_n C0.x C0.b dX5_openBytes_0 rfl (lv_at hl 0 rfl) ?_
  refine x_get C0 hW iw_X5 0 rfl rfl 6 (by decide) (List.mem_cons_of_mem _ wl_104) (v := .int o_body) rfl dX5_openBytes_1 ?_
  refine lv_iconst (v := (4 : Int32)) C0.x C0.b dX5_openBytes_4 (by decide) ?_
  refine lv_iadd C0.x C0.b dX5_openBytes_5 ?_
  refine lv_istore_n (lv' := [(3, .int (o_body + (4 : Int32))), (0, .ref h_o), (1, .ref h_a), (2, .ref h_b)]) C0.x C0.b dX5_openBytes_6 rfl hl (by decide) rfl (fun ls hl => ?_)
  refine lv_aload_n C0.x C0.b dX5_openBytes_7 rfl (lv_at hl 1 rfl) ?_
  refine x_get C0 hW iw_X5 0 rfl rfl 7 (by decide) (List.mem_cons_of_mem _ wl_105) (v := .int o_size) rfl dX5_openBytes_8 ?_
  refine lv_iconst (v := (4 : Int32)) C0.x C0.b dX5_openBytes_11 (by decide) ?_
  refine lv_isub C0.x C0.b dX5_openBytes_12 ?_
  refine lv_istore (lv' := [(4, .int (o_size - (4 : Int32))), (3, .int (o_body + (4 : Int32))), (0, .ref h_o), (1, .ref h_a), (2, .ref h_b)]) C0.x C0.b dX5_openBytes_13 hl (by decide) rfl (fun ls hl => ?_)
  refine lv_aload_n C0.x C0.b dX5_openBytes_15 rfl (lv_at hl 2 rfl) ?_
  refine x_get C0 hW iw_X5 0 rfl rfl 5 (by decide) (List.mem_cons_of_mem _ wl_103) (v := .int o_type) rfl dX5_openBytes_16 ?_
  refine lv_iconst (v := (1 : Int32)) C0.x C0.b dX5_openBytes_19 (by decide) ?_
  refine lv_icmp_ne (tgt := 33) C0.x C0.b dX5_openBytes_20 (by decide) (fun c1 => ?_) (fun c1 => ?_)
  · have hF := it_f hF c1
    refine lv_aload_n C0.x C0.b dX5_openBytes_33 rfl (lv_at hl 4 rfl) ?_
    refine lv_aload_n C0.x C0.b dX5_openBytes_34 rfl (lv_at hl 3 rfl) ?_
    refine lv_iload_n C0.x C0.b dX5_openBytes_35 rfl (lv_at hl 1 rfl) ?_
    refine lv_iload C0.x C0.b dX5_openBytes_36 (lv_at hl 0 rfl) ?_
    obtain ⟨r2, e3, hF⟩ := ob hF
    refine go_v C0 hW [7, 8, 9, 10, 11, 5, 6] [0, 1, 2, 3, 4] [0, 1, 2, 3, 4, 10, 11, 5, 6, 7, 8, 9] (va_runV (As := [.ref h_a, .int (o_body + (4 : Int32)), .int (o_size - (4 : Int32))]) (rest := []) C0.fix (c_X0_openBlock l g h_b h_b_given h_b_given_row h_b_elements h_b_elements_cells h_a h_a_row e3 _) (cwV 3 C0.ts (gw_V wl_544 wl_342 wl_343 wl_28 wl_344) rfl rfl rfl (by decide +kernel) ⟨Nat.le_of_ble_eq_true rfl, Nat.le_of_ble_eq_true rfl⟩) (pcv_of C0 hW [7, 8, 9, 10, 11, 5, 6] rfl (by decide) (q0 := 7) rfl rfl) rfl rfl hl.1 rfl (lv_room (Nat.le_of_ble_eq_true rfl)) dX5_openBytes_38 ⟨Nat.le_of_ble_eq_true rfl, Nat.le_of_ble_eq_true rfl⟩) rfl rfl (by decide) (by decide) (ws' := (wF_StreamOpener_Bytes_BlockOpener g h_o h_o_given h_o_given_row h_o_chunks h_o_chunks_cells h_a h_a_row h_b h_b_given h_b_given_row h_b_elements h_b_elements_cells o_fault o_place o_next o_type o_body o_size o_given_count o_given_row_n o_given_row_c o_chunks_count o_chunks_marked o_chunks_cells_n o_chunks_cells_c a_count a_row_n a_row_c r2.1 r2.2.1 r2.2.2.1 r2.2.2.2.1 r2.2.2.2.2.1 r2.2.2.2.2.2.1 r2.2.2.2.2.2.2.1 r2.2.2.2.2.2.2.2.1 r2.2.2.2.2.2.2.2.2.1 r2.2.2.2.2.2.2.2.2.2.1 r2.2.2.2.2.2.2.2.2.2.2.1 b_given_row_n r2.2.2.2.2.2.2.2.2.2.2.2.1 r2.2.2.2.2.2.2.2.2.2.2.2.2.1 r2.2.2.2.2.2.2.2.2.2.2.2.2.2.1 b_elements_cells_n r2.2.2.2.2.2.2.2.2.2.2.2.2.2.2)) rfl (by decide) (fun H locs hW => ?_)
    refine lv_aload_n C0.x C0.b dX5_openBytes_41 rfl (lv_at hl 4 rfl) ?_
    refine x_getN C0 hW iw_X0 7 rfl rfl 2 (by decide) (List.mem_of_getElem? (i := 19) rfl) (v := .int r2.1) rfl dX5_openBytes_42 ?_
    refine lv_if_eq (tgt := 57) C0.x C0.b dX5_openBytes_45 (by decide) (fun c4 => ?_) (fun c4 => ?_)
    · have hF := it_t hF c4
      refine lv_aload_n C0.x C0.b dX5_openBytes_57 rfl (lv_at hl 2 rfl) ?_
      refine lv_aload_n C0.x C0.b dX5_openBytes_58 rfl (lv_at hl 3 rfl) ?_
      refine lv_aload_n C0.x C0.b dX5_openBytes_59 rfl (lv_at hl 4 rfl) ?_
      refine x_getN C0 hW iw_X0 7 rfl rfl 0 (by decide) (List.mem_of_getElem? (i := 20) rfl) (v := .ref h_b_given) rfl dX5_openBytes_60 ?_
      refine lv_iconst (v := (0 : Int32)) C0.x C0.b dX5_openBytes_63 (by decide) ?_
      refine lv_aload_n C0.x C0.b dX5_openBytes_64 rfl (lv_at hl 4 rfl) ?_
      refine x_getN C0 hW iw_X0 7 rfl rfl 0 (by decide) (List.mem_of_getElem? (i := 20) rfl) (v := .ref h_b_given) rfl dX5_openBytes_65 ?_
      refine x_getN C0 hW iw_X1 8 rfl rfl 1 (by decide) (List.mem_of_getElem? (i := 17) rfl) (v := .int r2.2.2.2.2.2.2.2.2.2.2.1) rfl dX5_openBytes_68 ?_
      obtain ⟨r5, e6, hF⟩ := ob hF
      refine go_v C0 hW [0, 1, 2, 3, 4, 5, 6, 8, 9] [7, 10, 11] [3, 4, 5, 6, 7, 8, 9, 0, 10, 11, 1, 2] (va_runV (As := [.ref h_a, .ref h_b_given, .int (0 : Int32), .int r2.2.2.2.2.2.2.2.2.2.2.1]) (rest := []) C0.fix (c_X5_give l g h_o h_o_given h_o_given_row h_o_chunks h_o_chunks_cells h_a h_a_row h_b_given h_b_given_row o_type o_size o_chunks_count o_chunks_marked o_chunks_cells_n o_chunks_cells_c e6 _) (cwV 4 C0.ts (gw_V wl_537 wl_538 wl_539 wl_32 wl_540) rfl rfl rfl (by decide +kernel) ⟨Nat.le_of_ble_eq_true rfl, Nat.le_of_ble_eq_true rfl⟩) (pcv_of C0 hW [0, 1, 2, 3, 4, 5, 6, 8, 9] rfl (by decide) (q0 := 0) rfl rfl) rfl rfl hl.1 rfl (lv_room (Nat.le_of_ble_eq_true rfl)) dX5_openBytes_71 ⟨Nat.le_of_ble_eq_true rfl, Nat.le_of_ble_eq_true rfl⟩) rfl rfl (by decide) (by decide) (ws' := (wF_StreamOpener_Bytes_BlockOpener g h_o h_o_given h_o_given_row h_o_chunks h_o_chunks_cells h_a h_a_row h_b h_b_given h_b_given_row h_b_elements h_b_elements_cells r5.1 r5.2.1 o_next o_type o_body o_size r5.2.2.1 o_given_row_n r5.2.2.2 o_chunks_count o_chunks_marked o_chunks_cells_n o_chunks_cells_c a_count a_row_n a_row_c r2.1 r2.2.1 r2.2.2.1 r2.2.2.2.1 r2.2.2.2.2.1 r2.2.2.2.2.2.1 r2.2.2.2.2.2.2.1 r2.2.2.2.2.2.2.2.1 r2.2.2.2.2.2.2.2.2.1 r2.2.2.2.2.2.2.2.2.2.1 r2.2.2.2.2.2.2.2.2.2.2.1 b_given_row_n r2.2.2.2.2.2.2.2.2.2.2.2.1 r2.2.2.2.2.2.2.2.2.2.2.2.2.1 r2.2.2.2.2.2.2.2.2.2.2.2.2.2.1 b_elements_cells_n r2.2.2.2.2.2.2.2.2.2.2.2.2.2.2)) rfl (by decide) (fun H locs hW => ?_)
      obtain rfl := Option.some.inj hF
      exact x_vret C0 hW dX5_openBytes_74
    · have hF := it_f hF c4
      refine lv_aload_n C0.x C0.b dX5_openBytes_48 rfl (lv_at hl 2 rfl) ?_
      refine lv_bipush (v := (16 : Int32)) C0.x C0.b dX5_openBytes_49 (by decide) ?_
      obtain ⟨r7, e8, hF⟩ := ob hF
      refine go_v C0 hW [0, 1, 2, 3, 4] [5, 6, 7, 8, 9, 10, 11] [7, 8, 9, 10, 11, 0, 1, 2, 3, 4, 5, 6] (va_runV (As := [.int (16 : Int32)]) (rest := []) C0.fix (c_X5_fail l g h_o h_o_given h_o_given_row h_o_chunks h_o_chunks_cells o_type o_body o_size o_given_count o_given_row_n o_given_row_c o_chunks_count o_chunks_marked o_chunks_cells_n o_chunks_cells_c e8 _) (cwV 1 C0.ts (gw_V wl_512 wl_513 wl_514 wl_32 wl_515) rfl rfl rfl (by decide +kernel) ⟨Nat.le_of_ble_eq_true rfl, Nat.le_of_ble_eq_true rfl⟩) (pcv_of C0 hW [0, 1, 2, 3, 4] rfl (by decide) (q0 := 0) rfl rfl) rfl rfl hl.1 rfl (lv_room (Nat.le_of_ble_eq_true rfl)) dX5_openBytes_51 ⟨Nat.le_of_ble_eq_true rfl, Nat.le_of_ble_eq_true rfl⟩) rfl rfl (by decide) (by decide) (ws' := (wF_StreamOpener_Bytes_BlockOpener g h_o h_o_given h_o_given_row h_o_chunks h_o_chunks_cells h_a h_a_row h_b h_b_given h_b_given_row h_b_elements h_b_elements_cells r7.1 r7.2 o_next o_type o_body o_size o_given_count o_given_row_n o_given_row_c o_chunks_count o_chunks_marked o_chunks_cells_n o_chunks_cells_c a_count a_row_n a_row_c r2.1 r2.2.1 r2.2.2.1 r2.2.2.2.1 r2.2.2.2.2.1 r2.2.2.2.2.2.1 r2.2.2.2.2.2.2.1 r2.2.2.2.2.2.2.2.1 r2.2.2.2.2.2.2.2.2.1 r2.2.2.2.2.2.2.2.2.2.1 r2.2.2.2.2.2.2.2.2.2.2.1 b_given_row_n r2.2.2.2.2.2.2.2.2.2.2.2.1 r2.2.2.2.2.2.2.2.2.2.2.2.2.1 r2.2.2.2.2.2.2.2.2.2.2.2.2.2.1 b_elements_cells_n r2.2.2.2.2.2.2.2.2.2.2.2.2.2.2)) rfl (by decide) (fun H locs hW => ?_)
      refine lv_goto (tgt := 74) C0.x C0.b dX5_openBytes_54 (by decide) ?_
      obtain rfl := Option.some.inj hF
      exact x_vret C0 hW dX5_openBytes_74
  · have hF := it_t hF c1
    refine lv_aload_n C0.x C0.b dX5_openBytes_23 rfl (lv_at hl 2 rfl) ?_
    refine lv_aload_n C0.x C0.b dX5_openBytes_24 rfl (lv_at hl 3 rfl) ?_
    refine lv_aload_n C0.x C0.b dX5_openBytes_25 rfl (lv_at hl 3 rfl) ?_
    refine lv_iload_n C0.x C0.b dX5_openBytes_26 rfl (lv_at hl 1 rfl) ?_
    refine lv_iload C0.x C0.b dX5_openBytes_27 (lv_at hl 0 rfl) ?_
    obtain ⟨r9, e10, hF⟩ := ob hF
    refine go_v C0 hW [0, 1, 2, 3, 4, 5, 6] [7, 8, 9, 10, 11] [5, 6, 7, 8, 9, 10, 11, 0, 1, 2, 3, 4] (va_runV (As := [.ref h_a, .ref h_a, .int (o_body + (4 : Int32)), .int (o_size - (4 : Int32))]) (rest := []) C0.fix (c_X5_give_same l g h_o h_o_given h_o_given_row h_o_chunks h_o_chunks_cells h_a h_a_row o_type o_size o_chunks_count o_chunks_marked o_chunks_cells_n o_chunks_cells_c e10 _) (cwV 4 C0.ts (gw_V wl_537 wl_538 wl_539 wl_32 wl_540) rfl rfl rfl (by decide +kernel) ⟨Nat.le_of_ble_eq_true rfl, Nat.le_of_ble_eq_true rfl⟩) (pcv_of C0 hW [0, 1, 2, 3, 4, 5, 6] rfl (by decide) (q0 := 0) rfl rfl) rfl rfl hl.1 rfl (lv_room (Nat.le_of_ble_eq_true rfl)) dX5_openBytes_29 ⟨Nat.le_of_ble_eq_true rfl, Nat.le_of_ble_eq_true rfl⟩) rfl rfl (by decide) (by decide) (ws' := (wF_StreamOpener_Bytes_BlockOpener g h_o h_o_given h_o_given_row h_o_chunks h_o_chunks_cells h_a h_a_row h_b h_b_given h_b_given_row h_b_elements h_b_elements_cells r9.1 r9.2.1 o_next o_type o_body o_size r9.2.2.1 o_given_row_n r9.2.2.2 o_chunks_count o_chunks_marked o_chunks_cells_n o_chunks_cells_c a_count a_row_n a_row_c b_fault b_place b_start b_end b_next b_length b_sort b_body b_size b_back b_given_count b_given_row_n b_given_row_c b_elements_count b_elements_marked b_elements_cells_n b_elements_cells_c)) rfl (by decide) (fun H locs hW => ?_)
    obtain rfl := Option.some.inj hF
    exact x_vret C0 hW dX5_openBytes_32

abbrev rm_X5_keepChunk : Room := { frames := 1, cells := 0, slots := 0, locals := 27 }

set_option maxHeartbeats 4000000 in
set_option maxRecDepth 100000 in
theorem w_X5_keepChunk_b25 (l : Launch) (g : GX) (h_o h_o_given h_o_given_row h_o_chunks h_o_chunks_cells : Nat) {K : Nat} {o_type : Int32} {o_body : Int32} {o_size : Int32} {o_given_count : Int32} {o_chunks_cells_n : Nat} {o_fault : Int32} {o_place : Int32} {o_given_row_n : Nat} {o_given_row_c : Nat → Int32} {p1 : Int32} {o : Int32 × Int32 × Int32 × (Nat → Int32)} {wc : va_W} {p : Program} {e : Env} {s : State} {m : MethodId} {args : Array Value} {below : List Frame} {meth : Method} {c : Code} (C0 : bx g p s m meth c args cX5_keepChunk 3 none yX5_keepChunk wA_X5_keepChunk (va_A wc s.heap.size)) :
    ∀ (o_next : Int32) (o_chunks_count : Int32) (o_chunks_marked : Int32) (o_chunks_cells_c : Nat → Int32) (t0 : Int32), f_X5_keepChunk_b25 K o_type o_body o_size o_given_count o_chunks_cells_n p1 o_next o_chunks_count o_chunks_marked o_chunks_cells_c t0 = some o → ∀ (H : Heap) (locs : List Loc) (ls : Array Slot), ww g (va_A wc s.heap.size) s (wF_StreamOpener g h_o h_o_given h_o_given_row h_o_chunks h_o_chunks_cells o_fault o_place o_next o_type o_body o_size o_given_count o_given_row_n o_given_row_c o_chunks_count o_chunks_marked o_chunks_cells_n o_chunks_cells_c) H locs → lv_has ls 3 [(0, .ref h_o), (1, .int p1)] → W p l e rm_X5_keepChunk s m args below meth c H locs 0 0 (MQ below (qcV g wc s.heap.size (wF_StreamOpener g h_o h_o_given h_o_given_row h_o_chunks h_o_chunks_cells o_fault o_place o.1 o_type o_body o_size o_given_count o_given_row_n o_given_row_c o.2.1 o.2.2.1 o_chunks_cells_n o.2.2.2)) args s 0 0 (va_A wc s.heap.size)) (F0 m 25 ls [.int t0]) := by
  intro o_next o_chunks_count o_chunks_marked o_chunks_cells_c t0 hF H locs ls hW hl
  unfold f_X5_keepChunk_b25 at hF
  refine lv_istore_n (lv' := [(2, .int t0), (0, .ref h_o), (1, .int p1)]) C0.x C0.b dX5_keepChunk_25 rfl hl (by decide) rfl (fun ls hl => ?_)
  refine lv_aload_n C0.x C0.b dX5_keepChunk_26 rfl (lv_at hl 1 rfl) ?_
  refine x_get C0 hW iw_X5 0 rfl rfl 1 (by decide) (List.mem_cons_of_mem _ wl_99) (v := .ref h_o_chunks) rfl dX5_keepChunk_27 ?_
  refine lv_aload_n C0.x C0.b dX5_keepChunk_30 rfl (lv_at hl 1 rfl) ?_
  refine x_get C0 hW iw_X5 0 rfl rfl 5 (by decide) (List.mem_cons_of_mem _ wl_103) (v := .int o_type) rfl dX5_keepChunk_31 ?_
  refine lv_aload_n C0.x C0.b dX5_keepChunk_34 rfl (lv_at hl 1 rfl) ?_
  refine x_get C0 hW iw_X5 0 rfl rfl 4 (by decide) (List.mem_cons_of_mem _ wl_102) (v := .int o_next) rfl dX5_keepChunk_35 ?_
  refine lv_aload_n C0.x C0.b dX5_keepChunk_38 rfl (lv_at hl 1 rfl) ?_
  refine x_get C0 hW iw_X5 0 rfl rfl 7 (by decide) (List.mem_cons_of_mem _ wl_105) (v := .int o_size) rfl dX5_keepChunk_39 ?_
  refine lv_aload_n C0.x C0.b dX5_keepChunk_42 rfl (lv_at hl 1 rfl) ?_
  refine x_get C0 hW iw_X5 0 rfl rfl 0 (by decide) (List.mem_cons_of_mem _ wl_97) (v := .ref h_o_given) rfl dX5_keepChunk_43 ?_
  refine x_getN C0 hW iw_X1 1 rfl rfl 1 (by decide) (List.mem_of_getElem? (i := 17) rfl) (v := .int o_given_count) rfl dX5_keepChunk_46 ?_
  refine lv_iload_n C0.x C0.b dX5_keepChunk_49 rfl (lv_at hl 2 rfl) ?_
  refine lv_isub C0.x C0.b dX5_keepChunk_50 ?_
  refine lv_iload_n C0.x C0.b dX5_keepChunk_51 rfl (lv_at hl 2 rfl) ?_
  refine lv_iload_n C0.x C0.b dX5_keepChunk_52 rfl (lv_at hl 0 rfl) ?_
  obtain ⟨r1, e2, hF⟩ := ob hF
  refine go_v C0 hW [3, 4] [0, 1, 2] [0, 1, 2, 3, 4] (va_runV (As := [.int o_type, .int o_next, .int o_size, .int (o_given_count - p1), .int p1, .int t0]) (rest := []) C0.fix (c_X3_add l g h_o_chunks h_o_chunks_cells e2 _) (cwV 6 C0.ts (gw_V wl_549 wl_388 wl_389 wl_36 wl_390) rfl rfl rfl (by decide +kernel) ⟨Nat.le_of_ble_eq_true rfl, Nat.le_of_ble_eq_true rfl⟩) (pcv_of C0 hW [3, 4] rfl (by decide) (q0 := 3) rfl rfl) rfl rfl hl.1 rfl (lv_room (Nat.le_of_ble_eq_true rfl)) dX5_keepChunk_53 ⟨Nat.le_of_ble_eq_true rfl, Nat.le_of_ble_eq_true rfl⟩) rfl rfl (by decide) (by decide) (ws' := (wF_StreamOpener g h_o h_o_given h_o_given_row h_o_chunks h_o_chunks_cells o_fault o_place o_next o_type o_body o_size o_given_count o_given_row_n o_given_row_c r1.1 r1.2.1 o_chunks_cells_n r1.2.2)) rfl (by decide) (fun H locs hW => ?_)
  refine lv_aload_n C0.x C0.b dX5_keepChunk_56 rfl (lv_at hl 1 rfl) ?_
  refine lv_aload_n C0.x C0.b dX5_keepChunk_57 rfl (lv_at hl 1 rfl) ?_
  refine x_get C0 hW iw_X5 0 rfl rfl 6 (by decide) (List.mem_cons_of_mem _ wl_104) (v := .int o_body) rfl dX5_keepChunk_58 ?_
  refine lv_aload_n C0.x C0.b dX5_keepChunk_61 rfl (lv_at hl 1 rfl) ?_
  refine x_get C0 hW iw_X5 0 rfl rfl 7 (by decide) (List.mem_cons_of_mem _ wl_105) (v := .int o_size) rfl dX5_keepChunk_62 ?_
  refine lv_iadd C0.x C0.b dX5_keepChunk_65 ?_
  refine x_put C0 hW iw_X5 tyX5 tyX5_ok nmX5 0 rfl rfl 4 (by decide) (List.mem_cons_of_mem _ wl_102) rfl (ty := .int) (v := .int (o_body + o_size)) (by decide +kernel) rfl rfl (Nat.le_of_ble_eq_true rfl) dX5_keepChunk_66 (ws' := (wF_StreamOpener g h_o h_o_given h_o_given_row h_o_chunks h_o_chunks_cells o_fault o_place (o_body + o_size) o_type o_body o_size o_given_count o_given_row_n o_given_row_c r1.1 r1.2.1 o_chunks_cells_n r1.2.2)) rfl (fun H locs hW => ?_)
  obtain rfl := Option.some.inj hF
  exact x_vret C0 hW dX5_keepChunk_69

set_option maxHeartbeats 4000000 in
set_option maxRecDepth 100000 in
theorem w_X5_keepChunk_b24 (l : Launch) (g : GX) (h_o h_o_given h_o_given_row h_o_chunks h_o_chunks_cells : Nat) {K : Nat} {o_type : Int32} {o_body : Int32} {o_size : Int32} {o_given_count : Int32} {o_chunks_cells_n : Nat} {o_fault : Int32} {o_place : Int32} {o_given_row_n : Nat} {o_given_row_c : Nat → Int32} {p1 : Int32} {o : Int32 × Int32 × Int32 × (Nat → Int32)} {wc : va_W} {p : Program} {e : Env} {s : State} {m : MethodId} {args : Array Value} {below : List Frame} {meth : Method} {c : Code} (C0 : bx g p s m meth c args cX5_keepChunk 3 none yX5_keepChunk wA_X5_keepChunk (va_A wc s.heap.size)) :
    ∀ (o_next : Int32) (o_chunks_count : Int32) (o_chunks_marked : Int32) (o_chunks_cells_c : Nat → Int32), f_X5_keepChunk_b24 K o_type o_body o_size o_given_count o_chunks_cells_n p1 o_next o_chunks_count o_chunks_marked o_chunks_cells_c = some o → ∀ (H : Heap) (locs : List Loc) (ls : Array Slot), ww g (va_A wc s.heap.size) s (wF_StreamOpener g h_o h_o_given h_o_given_row h_o_chunks h_o_chunks_cells o_fault o_place o_next o_type o_body o_size o_given_count o_given_row_n o_given_row_c o_chunks_count o_chunks_marked o_chunks_cells_n o_chunks_cells_c) H locs → lv_has ls 3 [(0, .ref h_o), (1, .int p1)] → W p l e rm_X5_keepChunk s m args below meth c H locs 0 0 (MQ below (qcV g wc s.heap.size (wF_StreamOpener g h_o h_o_given h_o_given_row h_o_chunks h_o_chunks_cells o_fault o_place o.1 o_type o_body o_size o_given_count o_given_row_n o_given_row_c o.2.1 o.2.2.1 o_chunks_cells_n o.2.2.2)) args s 0 0 (va_A wc s.heap.size)) (F0 m 24 ls []) := by
  intro o_next o_chunks_count o_chunks_marked o_chunks_cells_c hF H locs ls hW hl
  unfold f_X5_keepChunk_b24 at hF
  refine lv_iconst (v := (0 : Int32)) C0.x C0.b dX5_keepChunk_24 (by decide) ?_
  exact w_X5_keepChunk_b25 l g h_o h_o_given h_o_given_row h_o_chunks h_o_chunks_cells C0 o_next o_chunks_count o_chunks_marked o_chunks_cells_c (0 : Int32) hF _ _ _ hW (lv_sub hl [0, 1] rfl)

set_option maxHeartbeats 4000000 in
set_option maxRecDepth 100000 in
/-- SnapHouse$StreamOpener.keepChunk(I)V -/
theorem c_X5_keepChunk (l : Launch) (g : GX) (h_o h_o_given h_o_given_row h_o_chunks h_o_chunks_cells : Nat) {K : Nat} (o_fault : Int32) (o_place : Int32) (o_given_row_n : Nat) (o_given_row_c : Nat → Int32) {o_next : Int32} {o_type : Int32} {o_body : Int32} {o_size : Int32} {o_given_count : Int32} {o_chunks_count : Int32} {o_chunks_marked : Int32} {o_chunks_cells_n : Nat} {o_chunks_cells_c : Nat → Int32} {p1 : Int32} {o : Int32 × Int32 × Int32 × (Nat → Int32)} (hF : f_X5_keepChunk K o_next o_type o_body o_size o_given_count o_chunks_count o_chunks_marked o_chunks_cells_n o_chunks_cells_c p1 = some o) : mcV g l yX5_keepChunk wA_X5_keepChunk rm_X5_keepChunk [.ref h_o, .int p1] (wF_StreamOpener g h_o h_o_given h_o_given_row h_o_chunks h_o_chunks_cells o_fault o_place o_next o_type o_body o_size o_given_count o_given_row_n o_given_row_c o_chunks_count o_chunks_marked o_chunks_cells_n o_chunks_cells_c) (wF_StreamOpener g h_o h_o_given h_o_given_row h_o_chunks h_o_chunks_cells o_fault o_place o.1 o_type o_body o_size o_given_count o_given_row_n o_given_row_c o.2.1 o.2.2.1 o_chunks_cells_n o.2.2.2) 0 0 := by
  refine x_start (cc := cX5_keepChunk) (maxL := 3) (ret := none) (by decide) rfl (Nat.le_of_ble_eq_true rfl) ?_
  intro p e s m below meth c ls C0 hW hl
  have hl : lv_has ls 3 [(0, .ref h_o), (1, .int p1)] := hl
  unfold f_X5_keepChunk at hF
  refine lv_aload_n C0.x C0.b dX5_keepChunk_0 rfl (lv_at hl 0 rfl) ?_
  refine x_get C0 hW iw_X5 0 rfl rfl 5 (by decide) (List.mem_cons_of_mem _ wl_103) (v := .int o_type) rfl dX5_keepChunk_1 ?_
  refine lv_sipush (v := (128 : Int32)) C0.x C0.b dX5_keepChunk_4 (by decide) ?_
  refine lv_icmp_lt (tgt := 24) C0.x C0.b dX5_keepChunk_7 (by decide) (fun c1 => ?_) (fun c1 => ?_)
  · have hF := it_t hF c1
    exact w_X5_keepChunk_b24 l g h_o h_o_given h_o_given_row h_o_chunks h_o_chunks_cells C0 o_next o_chunks_count o_chunks_marked o_chunks_cells_c hF _ _ _ hW (lv_sub hl [0, 1] rfl)
  · have hF := it_f hF c1
    refine lv_aload_n C0.x C0.b dX5_keepChunk_10 rfl (lv_at hl 0 rfl) ?_
    refine x_get C0 hW iw_X5 0 rfl rfl 5 (by decide) (List.mem_cons_of_mem _ wl_103) (v := .int o_type) rfl dX5_keepChunk_11 ?_
    refine lv_sipush (v := (255 : Int32)) C0.x C0.b dX5_keepChunk_14 (by decide) ?_
    refine lv_icmp_ge (tgt := 24) C0.x C0.b dX5_keepChunk_17 (by decide) (fun c2 => ?_) (fun c2 => ?_)
    · have hF := it_t hF c2
      exact w_X5_keepChunk_b24 l g h_o h_o_given h_o_given_row h_o_chunks h_o_chunks_cells C0 o_next o_chunks_count o_chunks_marked o_chunks_cells_c hF _ _ _ hW (lv_sub hl [0, 1] rfl)
    · have hF := it_f hF c2
      refine lv_iconst (v := (1 : Int32)) C0.x C0.b dX5_keepChunk_20 (by decide) ?_
      refine lv_goto (tgt := 25) C0.x C0.b dX5_keepChunk_21 (by decide) ?_
      exact w_X5_keepChunk_b25 l g h_o h_o_given h_o_given_row h_o_chunks h_o_chunks_cells C0 o_next o_chunks_count o_chunks_marked o_chunks_cells_c (1 : Int32) hF _ _ _ hW (lv_sub hl [0, 1] rfl)

