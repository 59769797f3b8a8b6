set_option maxRecDepth 100000 in
theorem wl_0 : Cond.classLink RL 8 RX6 ∈ wsL_law0 := List.mem_of_getElem? (i := 0) rfl
set_option maxRecDepth 100000 in
theorem wl_1 : Cond.instantiable RX6 12 ∈ wsL_law0 := List.mem_of_getElem? (i := 1) rfl
set_option maxRecDepth 100000 in
theorem wl_3 : Cond.classLink RL 16 RX7 ∈ wsL_law0 := List.mem_of_getElem? (i := 3) rfl
set_option maxRecDepth 100000 in
theorem wl_4 : Cond.instantiable RX7 33 ∈ wsL_law0 := List.mem_of_getElem? (i := 4) rfl
set_option maxRecDepth 100000 in
theorem wl_6 : Cond.arrayClass .long ∈ wsL_law0 := List.mem_of_getElem? (i := 6) rfl
set_option maxRecDepth 100000 in
theorem wl_7 : Cond.methodLink RL 15 yX6_init ∈ wsL_law0 := List.mem_of_getElem? (i := 7) rfl
set_option maxRecDepth 100000 in
theorem wl_8 : Cond.instanceMethod yX6_init ∈ wsL_law0 := List.mem_of_getElem? (i := 8) rfl
set_option maxRecDepth 100000 in
theorem wl_9 : Cond.code yX6_init cX6_init 1 none ∈ wsL_law0 := List.mem_of_getElem? (i := 9) rfl
set_option maxRecDepth 100000 in
theorem wl_107 : Cond.methodLink RL 18 yX7_init ∈ wsL_law0 := List.mem_of_getElem? (i := 107) rfl
set_option maxRecDepth 100000 in
theorem wl_108 : Cond.instanceMethod yX7_init ∈ wsL_law0 := List.mem_of_getElem? (i := 108) rfl
set_option maxRecDepth 100000 in
theorem wl_109 : Cond.code yX7_init cX7_init 4 none ∈ wsL_law0 := List.mem_of_getElem? (i := 109) rfl
/-! THE LAW'S START -/
theorem wl_in : ∀ w ∈ wX_l, w ∈ lw_tbl := fun w h => (List.mem_cons.mp h).elim (fun e => e ▸ wsL_law_in0 _ wl_2) (fun h => (List.mem_append.mp h).elim (wsL_law_in0 w) (wX_in w))
theorem wl_in0 : ∀ w ∈ wA_l, w ∈ lw_tbl := fun w h => wl_in w (wL_0 w h)
theorem nwF_in : ∀ q ∈ nw_F, nw_mF q ∈ lw_tbl := by decide +kernel
theorem nwM_in : ∀ q ∈ nw_M, nw_mM q ∈ lw_tbl := by decide +kernel
theorem ar_i {args : Array Value} {s : State} (h : (Cond.arrayClass .int).before args s = true) : ∃ cA, ArrOfT s cA .int ∧ va_RA s cA .int := by
  obtain ⟨cA, kA, comp, h1, h2, h3⟩ := Cond.arrayClass_spec h
  exact ⟨cA, fun n z => ⟨fun k h => (by cases h), kA, h2, comp, h3⟩, h1⟩
theorem ar_b {args : Array Value} {s : State} (h : (Cond.arrayClass .byte).before args s = true) : ∃ cA, ArrOfT s cA .byte ∧ va_RA s cA .byte := by
  obtain ⟨cA, kA, comp, h1, h2, h3⟩ := Cond.arrayClass_spec h
  exact ⟨cA, fun n z => ⟨fun k h => (by cases h), kA, h2, comp, h3⟩, h1⟩
theorem ar_l {args : Array Value} {s : State} (h : (Cond.arrayClass .long).before args s = true) : ∃ cA, ArrOfT s cA .long ∧ va_RA s cA .long := by
  obtain ⟨cA, kA, comp, h1, h2, h3⟩ := Cond.arrayClass_spec h
  exact ⟨cA, fun n z => ⟨fun k h => (by cases h), kA, h2, comp, h3⟩, h1⟩
theorem sN_in : ∀ j, j < 6 → Cond.eq (.elem (.static "SnapHouse" "NAME" "[I") (.int (Int32.ofNat j))) (.int (tb_N.getD j 0)) ∈ flatC (Cond.and given_1 narrow_1) := by decide +kernel
theorem sC_in : ∀ j, j < 16 → Cond.eq (.elem (.static "SnapHouse$Bytes" "CRC_STEPS" "[I") (.int (Int32.ofNat j))) (.int (tb_C.getD j 0)) ∈ flatC (Cond.and given_1 narrow_1) := by decide +kernel
set_option maxHeartbeats 4000000 in
set_option maxRecDepth 20000 in
theorem lw_ctx {p : Program} {s : State} {m : MethodId} {meth : Method} {c : Code} {b LL : Nat} {xs : Nat → Int32} (C : lw_At p s m meth c b LL xs) : ∃ (g : GX) (sa : Nat), bx g p s m meth c #[Value.ref b] code 7 ret (yl meth) wX_l (Al s) ∧ xz sa (Al s) s s.heap := by
  obtain ⟨hx, hb, hr, hml, hown, hts, hX, hbl, hlocks, hgv⟩ := C
  have hs := flat_of_before _ hgv
  have hA : ∀ a : Nat, a < s.heap.size → ¬ Al s a := fun a h => Nat.not_le.mpr h
  have hin : ∀ w ∈ wA_l, w.before #[Value.ref b] s = true := fun w h => hts w (wl_in0 w h)
  obtain ⟨c0, i0, k0⟩ := u_known (C := RX0) (T := TX0) (N := 12) (n := 12) hin iw_X0 (hin _ (List.mem_cons_of_mem _ wl_27))
  obtain ⟨c1, i1, k1⟩ := u_known (C := RX1) (T := TX1) (N := 2) (n := 2) hin iw_X1 (hin _ (List.mem_cons_of_mem _ wl_14))
  obtain ⟨c2, i2, k2⟩ := u_known (C := RX2) (T := TX2) (N := 3) (n := 3) hin iw_X2 (hin _ (List.mem_cons_of_mem _ wl_19))
  obtain ⟨c3, i3, k3⟩ := u_known (C := RX3) (T := TX3) (N := 3) (n := 3) hin iw_X3 (hin _ (List.mem_cons_of_mem _ wl_35))
  obtain ⟨c4, i4, k4⟩ := u_known (C := RX4) (T := TX4) (N := 1) (n := 1) hin iw_X4 (hin _ (List.mem_cons_of_mem _ wl_23))
  obtain ⟨c5, i5, k5⟩ := u_known (C := RX5) (T := TX5) (N := 8) (n := 8) hin iw_X5 (hin _ (List.mem_cons_of_mem _ wl_31))
  obtain ⟨c6, i6, k6⟩ := u_known (C := RX6) (T := TX6) (N := 12) (n := 12) hin iw_X6 (hin _ (List.mem_cons_of_mem _ wl_1))
  obtain ⟨c7, i7, k7⟩ := u_known (C := RX7) (T := TX7) (N := 33) (n := 33) hin iw_X7 (hin _ (List.mem_cons_of_mem _ wl_4))
  obtain ⟨aI, aI1, aI2⟩ := ar_i (hin _ (List.mem_cons_of_mem _ wl_52))
  obtain ⟨aB, aB1, aB2⟩ := ar_b (hin _ (List.mem_cons_of_mem _ wl_111))
  obtain ⟨aJ, aJ1, aJ2⟩ := ar_l (hin _ (List.mem_cons_of_mem _ wl_6))
  obtain ⟨tN, eN, hN⟩ := va_Tof (A := Al s) (tm := .static "SnapHouse" "NAME" "[I") (ty := .int) (N := 6) (f := tf_N) (by decide) (hs _ (by decide +kernel)) (va_eqt (z := Int32.ofNat 6) (hs _ (by decide +kernel))) (fun j hj => va_eqt (hs _ (sN_in j hj))) hA
  obtain ⟨tC, eC, hC⟩ := va_Tof (A := Al s) (tm := .static "SnapHouse$Bytes" "CRC_STEPS" "[I") (ty := .int) (N := 16) (f := tf_C) (by decide) (hs _ (by decide +kernel)) (va_eqt (z := Int32.ofNat 16) (hs _ (by decide +kernel))) (fun j hj => va_eqt (hs _ (sC_in j hj))) hA
  obtain ⟨sa, -, -, -, eS, -⟩ := Cond.exactly_spec (args := #[Value.ref b]) (first := s) (o := none) (s := s) (idx := []) (t := .string "SnapHouse" 171) (cls := "java/lang/String") (hs (Cond.exactly (.string "SnapHouse" 171) "java/lang/String") (by decide +kernel))
  refine ⟨((fun k => match k with | 0 => c0 | 1 => c1 | 2 => c2 | 3 => c3 | 4 => c4 | 5 => c5 | 6 => c6 | _ => c7, fun k => match k with | 0 => i0 | 1 => i1 | 2 => i2 | 3 => i3 | 4 => i4 | 5 => i5 | 6 => i6 | _ => i7), (aI, aB, aJ), (tN, tC)), sa, ⟨hx, hb, hr, hml, hown, fun w h => hts w (wl_in w h), fun q h => h, hlocks, ⟨?_, ?_⟩, ⟨⟨fun q hq => va_Nw.of rfl (hts _ (nwF_in q hq)), fun q hq => va_Nw.of rfl (hts _ (nwM_in q hq))⟩, va_Zof (hts (.laysStatic "SnapHouse" "NAME" "[I") (by decide +kernel)) (hts (.initialized "SnapHouse") (by decide +kernel)) eN hA, hN, va_Zof (hts (.laysStatic "SnapHouse$Bytes" "CRC_STEPS" "[I") (by decide +kernel)) (hts (.initialized "SnapHouse$Bytes") (by decide +kernel)) eC hA, hC⟩, rfl⟩, ?_⟩
  · intro k q hq
    match k, hq with
    | 0, hq => cases hq; exact k0
    | 1, hq => cases hq; exact k1
    | 2, hq => cases hq; exact k2
    | 3, hq => cases hq; exact k3
    | 4, hq => cases hq; exact k4
    | 5, hq => cases hq; exact k5
    | 6, hq => cases hq; exact k6
    | 7, hq => cases hq; exact k7
    | k + 8, hq => simp [vwCl] at hq
  · intro k q hq
    match k, hq with
    | 0, hq => cases hq; exact ⟨aI1, aI2⟩
    | 1, hq => cases hq; exact ⟨aB1, aB2⟩
    | 2, hq => cases hq; exact ⟨aJ1, aJ2⟩
    | k + 3, hq => simp [tyx] at hq
  · exact ⟨vk_R.of (hts (.stringRef "SnapHouse" 171 "OUT has no such byte") (by decide +kernel)) eS, vx_Zqof (hts _ (by decide +kernel)) (hts _ (by decide +kernel)) (hs _ (by decide +kernel)) hA, vx_Zqof (hts _ (by decide +kernel)) (hts _ (by decide +kernel)) (hs _ (by decide +kernel)) hA, va_Nw.of rfl (hts _ (by decide +kernel)), va_Nw.of rfl (hts _ (by decide +kernel)), va_Nw.of rfl (hts _ (by decide +kernel)), va_Nw.of rfl (hts _ (by decide +kernel))⟩
set_option maxHeartbeats 4000000 in
set_option maxRecDepth 100000 in
theorem whole_start {p : Program} {e : Env} {s : State} {m : MethodId} {below : List Frame} {meth : Method} {c : Code} (l : Launch) (hfl : l.stackTraces = false) {b L : Nat} {xs : Nat → Int32} (hL : L ≤ 3072) (C : lw_At p s m meth c b L xs) : W p l e room_1 s m #[Value.ref b] below meth c s.heap [] 0 0 (lw_Z below #[Value.ref b] s) (entryFrame m ([Value.ref b] : List Value).toArray 7) := by
  obtain ⟨g, sa, C1, hX⟩ := lw_ctx C
  obtain ⟨-, -, -, -, -, -, hXs, hbl, -, -⟩ := C
  obtain ⟨K, hK⟩ : ∃ K, 32769 < K := ⟨100000, by decide⟩
  obtain ⟨tb, hF, htb⟩ := init_ok K (by omega)
  have C0 := bx_sub C1 (Ts' := wA_l) wL_0
  have hW : ww g (Al s) s [] s.heap [] := ⟨fun k q h => by simp at h, ⟨fun i j p q h => by simp at h, fun k q h => by simp at h⟩, va_S.rf⟩
  have hl := lv_entry ([.ref b]) (n := 7) (Nat.le_of_ble_eq_true rfl)
  rw [lg_entry_eq]
  generalize (lg_sl ([.ref b]) ++ List.replicate (7 - (lg_sl ([.ref b])).length) Slot.unset).toArray = ls at hl ⊢
  have hl : lv_has ls 7 [(0, .ref b)] := hl
  refine x_new C0 hW iw_X6 tyX6 tyX6_ok (List.mem_cons_of_mem _ wl_0) (List.mem_cons_of_mem _ wl_1) (List.mem_cons_of_mem _ wl_2) (ci := 6) (fs := [.null, .null, .null, .null, .null, .null, .null, .null, .int (0 : Int32), .int (0 : Int32), .int (0 : Int32), .int (0 : Int32)]) rfl (by decide +kernel) (Nat.le_of_ble_eq_true rfl) (Nat.le_of_ble_eq_true rfl) dL_law_0 (fun hx H hW => ?_)
  have hW : ww g (Al s) s [(hx, .inr (6, [.null, .null, .null, .null, .null, .null, .null, .null, .int (0 : Int32), .int (0 : Int32), .int (0 : Int32), .int (0 : Int32)]))] H _ := hW
  refine lv_dup C0.x C0.b dL_law_3 rfl ?_
  refine go_n (wsn := fun u : Nat × Nat × Nat × Nat × Nat × Nat × Nat × Nat × Nat × Nat × Nat × Nat × Nat × Nat × Nat × Nat × Nat × Nat × Nat × Nat × Nat × Nat × Nat × Nat × Nat => (wF_SnapHouse g hx u.1 u.2.1 u.2.2.1 u.2.2.2.1 u.2.2.2.2.1 u.2.2.2.2.2.1 u.2.2.2.2.2.2.1 u.2.2.2.2.2.2.2.1 u.2.2.2.2.2.2.2.2.1 u.2.2.2.2.2.2.2.2.2.1 u.2.2.2.2.2.2.2.2.2.2.1 u.2.2.2.2.2.2.2.2.2.2.2.1 u.2.2.2.2.2.2.2.2.2.2.2.2.1 u.2.2.2.2.2.2.2.2.2.2.2.2.2.1 u.2.2.2.2.2.2.2.2.2.2.2.2.2.2.1 u.2.2.2.2.2.2.2.2.2.2.2.2.2.2.2.1 u.2.2.2.2.2.2.2.2.2.2.2.2.2.2.2.2.1 u.2.2.2.2.2.2.2.2.2.2.2.2.2.2.2.2.2.1 u.2.2.2.2.2.2.2.2.2.2.2.2.2.2.2.2.2.2.1 u.2.2.2.2.2.2.2.2.2.2.2.2.2.2.2.2.2.2.2.1 u.2.2.2.2.2.2.2.2.2.2.2.2.2.2.2.2.2.2.2.2.1 u.2.2.2.2.2.2.2.2.2.2.2.2.2.2.2.2.2.2.2.2.2.1 u.2.2.2.2.2.2.2.2.2.2.2.2.2.2.2.2.2.2.2.2.2.2.1 u.2.2.2.2.2.2.2.2.2.2.2.2.2.2.2.2.2.2.2.2.2.2.2.1 u.2.2.2.2.2.2.2.2.2.2.2.2.2.2.2.2.2.2.2.2.2.2.2.2 (-1 : Int32) (-1 : Int32) (-1 : Int32) (-1 : Int32) (0 : Int32) 20000 (fun _ => (0 : Int32)) (0 : Int32) 24000 (fun _ => (0 : Int32)) (0 : Int32) (0 : Int32) 24000 (fun _ => (0 : Int32)) 32768 (fun _ => (0 : Int32)) (0 : Int32) 24000 (fun _ => (0 : Int32)) (0 : Int32) (-1 : Int32) (0 : Int32) (0 : Int32) (0 : Int32) (0 : Int32) (0 : Int32) (0 : Int32) (0 : Int64) (0 : Int64) (0 : Int32) 20000 (fun _ => (0 : Int32)) (0 : Int32) (0 : Int32) 5000 (fun _ => (0 : Int32)) (0 : Int32) (-1 : Int32) (0 : Int32) (255 : Int32) (0 : Int32) (0 : Int32) (0 : Int32) 20000 (fun _ => (0 : Int32)) (0 : Int32) (0 : Int32) 5000 (fun _ => (0 : Int32)) (0 : Int32) (0 : Int32) 5000 (fun _ => (0 : Int32)) (0 : Int32) (0 : Int32) 5000 (fun _ => (0 : Int32)))) C0 hW [0] [] [0, 1, 2, 3, 4, 5, 6, 7, 8, 9, 10, 11, 12, 13, 14, 15, 16, 17, 18, 19, 20, 21, 22, 23, 24, 25] (va_runI (As := []) (rest := [.ref hx]) C0.fix (c_X6_init l g hx _) (cwI 0 C0.ts (gw_0 wl_9) rfl rfl rfl (C0.ts _ (List.mem_cons_of_mem _ wl_2)) (C0.ts _ (List.mem_cons_of_mem _ wl_7)) (C0.ts _ (List.mem_cons_of_mem _ wl_8)) rfl (by decide +kernel) ⟨Nat.le_of_ble_eq_true rfl, Nat.le_of_ble_eq_true rfl⟩) (pcc_of C0 hW [0] rfl (by decide)) rfl rfl hl.1 rfl (lv_room (Nat.le_of_ble_eq_true rfl)) dL_law_4 ⟨Nat.le_of_ble_eq_true rfl, Nat.le_of_ble_eq_true rfl⟩) rfl rfl (by decide) (by decide) (fun _ => rfl) (by decide) (fun u H locs hW => ?_)
  refine lv_astore_n (lv' := [(1, .ref hx), (0, .ref b)]) C0.x C0.b dL_law_7 rfl hl (by decide) rfl (fun ls hl => ?_)
  refine x_new C0 hW iw_X7 tyX7 tyX7_ok (List.mem_cons_of_mem _ wl_3) (List.mem_cons_of_mem _ wl_4) (List.mem_cons_of_mem _ wl_5) (ci := 7) (fs := [.null, .null, .null, .null, .int (0 : Int32), .int (0 : Int32), .int (0 : Int32), .int (0 : Int32), .int (0 : Int32), .null, .null, .int (0 : Int32), .int (0 : Int32), .int (0 : Int32), .int (0 : Int32), .null, .int (0 : Int32), .null, .null, .int (0 : Int32), .int (0 : Int32), .int (0 : Int32), .int (0 : Int32), .int (0 : Int32), .int (0 : Int32), .int (0 : Int32), .int (0 : Int32), .null, .null, .int (0 : Int32), .int (0 : Int32), .null, .int (0 : Int32)]) rfl (by decide +kernel) (Nat.le_of_ble_eq_true rfl) (Nat.le_of_ble_eq_true rfl) dL_law_8 (fun hm H hW => ?_)
  refine lv_dup C0.x C0.b dL_law_11 rfl ?_
  refine go_n (wsn := fun v : Nat × Nat × Nat × Nat × Nat × Nat × Nat × Nat × Nat × Nat × Nat × Nat => (wF_SnapHouse g hx u.1 u.2.1 u.2.2.1 u.2.2.2.1 u.2.2.2.2.1 u.2.2.2.2.2.1 u.2.2.2.2.2.2.1 u.2.2.2.2.2.2.2.1 u.2.2.2.2.2.2.2.2.1 u.2.2.2.2.2.2.2.2.2.1 u.2.2.2.2.2.2.2.2.2.2.1 u.2.2.2.2.2.2.2.2.2.2.2.1 u.2.2.2.2.2.2.2.2.2.2.2.2.1 u.2.2.2.2.2.2.2.2.2.2.2.2.2.1 u.2.2.2.2.2.2.2.2.2.2.2.2.2.2.1 u.2.2.2.2.2.2.2.2.2.2.2.2.2.2.2.1 u.2.2.2.2.2.2.2.2.2.2.2.2.2.2.2.2.1 u.2.2.2.2.2.2.2.2.2.2.2.2.2.2.2.2.2.1 u.2.2.2.2.2.2.2.2.2.2.2.2.2.2.2.2.2.2.1 u.2.2.2.2.2.2.2.2.2.2.2.2.2.2.2.2.2.2.2.1 u.2.2.2.2.2.2.2.2.2.2.2.2.2.2.2.2.2.2.2.2.1 u.2.2.2.2.2.2.2.2.2.2.2.2.2.2.2.2.2.2.2.2.2.1 u.2.2.2.2.2.2.2.2.2.2.2.2.2.2.2.2.2.2.2.2.2.2.1 u.2.2.2.2.2.2.2.2.2.2.2.2.2.2.2.2.2.2.2.2.2.2.2.1 u.2.2.2.2.2.2.2.2.2.2.2.2.2.2.2.2.2.2.2.2.2.2.2.2 (-1 : Int32) (-1 : Int32) (-1 : Int32) (-1 : Int32) (0 : Int32) 20000 (fun _ => (0 : Int32)) (0 : Int32) 24000 (fun _ => (0 : Int32)) (0 : Int32) (0 : Int32) 24000 (fun _ => (0 : Int32)) 32768 (fun _ => (0 : Int32)) (0 : Int32) 24000 (fun _ => (0 : Int32)) (0 : Int32) (-1 : Int32) (0 : Int32) (0 : Int32) (0 : Int32) (0 : Int32) (0 : Int32) (0 : Int32) (0 : Int64) (0 : Int64) (0 : Int32) 20000 (fun _ => (0 : Int32)) (0 : Int32) (0 : Int32) 5000 (fun _ => (0 : Int32)) (0 : Int32) (-1 : Int32) (0 : Int32) (255 : Int32) (0 : Int32) (0 : Int32) (0 : Int32) 20000 (fun _ => (0 : Int32)) (0 : Int32) (0 : Int32) 5000 (fun _ => (0 : Int32)) (0 : Int32) (0 : Int32) 5000 (fun _ => (0 : Int32)) (0 : Int32) (0 : Int32) 5000 (fun _ => (0 : Int32))) ++ (wF_SnapHouseModel g hm v.1 v.2.1 v.2.2.1 v.2.2.2.1 v.2.2.2.2.1 v.2.2.2.2.2.1 v.2.2.2.2.2.2.1 v.2.2.2.2.2.2.2.1 v.2.2.2.2.2.2.2.2.1 v.2.2.2.2.2.2.2.2.2.1 v.2.2.2.2.2.2.2.2.2.2.1 v.2.2.2.2.2.2.2.2.2.2.2 (0 : Int32) (0 : Int32) (0 : Int32) (0 : Int32) (0 : Int32) (0 : Int32) (0 : Int32) (0 : Int32) (0 : Int32) (0 : Int32) (0 : Int32) (0 : Int32) (0 : Int32) (0 : Int32) (-1 : Int32) (-1 : Int32) (0 : Int32) (-1 : Int32) (0 : Int32) (0 : Int32) (0 : Int32) 20000 (fun _ => (0 : Int32)) 24000 (fun _ => (0 : Int32)) 24000 (fun _ => (0 : Int32)) 24000 (fun _ => (0 : Int32)) 16384 (fun _ => (0 : Int32)) 20000 (fun _ => (0 : Int32)) 5000 (fun _ => (0 : Int32)) 5000 (fun _ => (0 : Int32)) 5000 (fun _ => (0 : Int32)) 256 tb 5000 (fun _ => (0 : Int32)) 20000 (fun _ => (0 : Int32)))) C0 hW [26] [0, 1, 2, 3, 4, 5, 6, 7, 8, 9, 10, 11, 12, 13, 14, 15, 16, 17, 18, 19, 20, 21, 22, 23, 24, 25] [0, 1, 2, 3, 4, 5, 6, 7, 8, 9, 10, 11, 12, 13, 14, 15, 16, 17, 18, 19, 20, 21, 22, 23, 24, 25, 26, 27, 28, 29, 30, 31, 32, 33, 34, 35, 36, 37, 38] (va_runI (As := []) (rest := [.ref hm]) C0.fix (c_X7_init l g hm hF _) (cwI 0 C0.ts (gw_0 wl_109) rfl rfl rfl (C0.ts _ (List.mem_cons_of_mem _ wl_5)) (C0.ts _ (List.mem_cons_of_mem _ wl_107)) (C0.ts _ (List.mem_cons_of_mem _ wl_108)) rfl (by decide +kernel) ⟨Nat.le_of_ble_eq_true rfl, Nat.le_of_ble_eq_true rfl⟩) (pcc_of C0 hW [26] rfl (by decide)) rfl rfl hl.1 rfl (lv_room (Nat.le_of_ble_eq_true rfl)) dL_law_12 ⟨Nat.le_of_ble_eq_true rfl, Nat.le_of_ble_eq_true rfl⟩) rfl rfl (by decide) (by decide) (fun _ => rfl) (by decide) (fun v H locs hW => ?_)
  refine lv_astore_n (lv' := [(2, .ref hm), (1, .ref hx), (0, .ref b)]) C0.x C0.b dL_law_15 rfl hl (by decide) rfl (fun ls hl => ?_)
  refine lv_iconst (v := (1 : Int32)) C0.x C0.b dL_law_16 (by decide) ?_
  refine x_newa C0 hW (atype := .long) (List.mem_cons_of_mem _ wl_6) (ty := .long) rfl 2 rfl (a0 := (1, .inr (.inl (fun _ => (0 : Int64))))) (fun _ => rfl) (by decide) (by decide) (by decide) (Nat.le_of_ble_eq_true rfl) (Nat.le_of_ble_eq_true rfl) dL_law_17 (fun ao H hW => ?_)
  refine lv_astore_n (lv' := [(3, .ref ao), (2, .ref hm), (1, .ref hx), (0, .ref b)]) C0.x C0.b dL_law_19 rfl hl (by decide) rfl (fun ls hl => ?_)
  refine lv_iconst (v := (0 : Int32)) C0.x C0.b dL_law_20 (by decide) ?_
  refine lv_istore (lv' := [(4, .int (nI 0)), (3, .ref ao), (2, .ref hm), (1, .ref hx), (0, .ref b)]) C0.x C0.b dL_law_21 hl (by decide) rfl (fun ls hl => ?_)
  exact lw_loop (sa := sa) hK hfl C1 hX hXs hbl hL 3073 0 _ _ (by decide) [] [] 0 0 0 0 0 0 (-1 : Int32) (-1 : Int32) (-1 : Int32) (-1 : Int32) (fun _ => (0 : Int32)) (fun _ => (0 : Int32)) (0 : Int32) (fun _ => (0 : Int32)) (fun _ => (0 : Int32)) (fun _ => (0 : Int32)) (0 : Int32) (-1 : Int32) (0 : Int32) (0 : Int32) (0 : Int32) (0 : Int32) (0 : Int32) (0 : Int32) (0 : Int64) (0 : Int64) (fun _ => (0 : Int32)) (0 : Int32) (0 : Int32) (fun _ => (0 : Int32)) (0 : Int32) (-1 : Int32) (0 : Int32) (255 : Int32) (0 : Int32) (0 : Int32) (fun _ => (0 : Int32)) (0 : Int32) (0 : Int32) (fun _ => (0 : Int32)) (0 : Int32) (fun _ => (0 : Int32)) (0 : Int32) (fun _ => (0 : Int32)) (0 : Int32) (0 : Int32) (0 : Int32) (0 : Int32) (0 : Int32) (0 : Int32) (0 : Int32) (0 : Int32) (-1 : Int32) (-1 : Int32) (0 : Int32) (-1 : Int32) (0 : Int32) (0 : Int32) (0 : Int32) (fun _ => (0 : Int32)) (fun _ => (0 : Int32)) (fun _ => (0 : Int32)) (fun _ => (0 : Int32)) (fun _ => (0 : Int32)) (fun _ => (0 : Int32)) (fun _ => (0 : Int32)) (fun _ => (0 : Int32)) (fun _ => (0 : Int32)) tb (fun _ => (0 : Int32)) (fun _ => (0 : Int32)) (fun _ => (0 : Int64)) ⟨by_nil, rL_nil, rL_nil⟩ (by decide) ⟨by_nil, rL_nil, rL_nil⟩ (by decide) (by decide) (by decide) (by decide) (by decide) (by decide) (fun j hj => by simp at hj) (by decide) (fun j hj => by simp at hj) (Or.inr ⟨rfl, rfl, rfl, rfl, rfl⟩) htb H locs ls hW hl (by omega) (by decide) (by decide)

set_option maxHeartbeats 4000000 in
theorem lw_walk (l : Launch) (hfl : l.stackTraces = false) (b : Addr) (xs : List Int32) : MetFree l x (headSpec (Jvm.Cond.code x code maxLocals ret :: tables_1) room_1) (lw_P b xs) (fun _ _ _ _ _ => True) lw_Q := by
  refine MetFree.of_bodyS (code := code) (maxLocals := maxLocals) (ret := ret) (by decide) ?_ ?_
  · intro args s m h hn
    obtain ⟨meth, c, h1, h2, h3, h4, h5, h6, -, -⟩ := Cond.code_spec hn (atoms_spec (ws := Jvm.Cond.code x code maxLocals ret :: tables_1) h _ List.mem_cons_self)
    exact ⟨meth, c, h1, h2, h3, h4, h5, h6⟩
  · intro p e s m args below meth c s₁ B hml0 hP _
    obtain ⟨rfl, hx, hbd, hgv⟩ := hP
    obtain ⟨scr, harrAt, hlist, hof, hsmall⟩ := hx
    obtain ⟨hcb, hkn, -, -⟩ := State.arrayAt?_spec harrAt
    have hown : s.vm.findClass R_law = some m.cls := findClass_of_methodNamed B.named
    have hts0 : ∀ c ∈ (Jvm.Cond.code x code maxLocals ret :: tables_1), c.before #[Value.ref b] s = true := atoms_spec (ws := Jvm.Cond.code x code maxLocals ret :: tables_1) B.pre
    have hts : ∀ w ∈ lw_tbl, w.before #[Value.ref b] s = true := k2_hts_sels lw_privs (fun w hw => hts0 w (List.mem_cons_of_mem _ hw)) lw_privs_ok
    have hml : c.maxLocals = 7 := B.maxLocals_eq (hts0 _ List.mem_cons_self)
    have X₀ : Stand p l e room_1 s m #[Value.ref b] below meth c s₁ [] 0 0 := Stand.of_body B
    have hh0 : s₁.heap = s.heap := by rw [B.state]; rfl
    have hsz : scr.slots.size = xs.length := by rw [← Array.length_toList, hlist, List.length_map]
    have hval : ∀ j : Nat, j < xs.length → scr.slots[j]? = some (.int (xs.getD j 0)) := fun j hj => by
      rw [← Array.getElem?_toList, hlist]
      simp [hj]
    have hbl : b < s.heap.size := (Array.getElem?_eq_some_iff.mp hcb).1
    have hX : va_X b xs.length (fun j => xs.getD j 0) s s.heap := ⟨scr, hcb, hof, hkn, hsz, hval⟩
    have K : W p l e room_1 s m #[Value.ref b] below meth c s₁.heap [] 0 0 (lw_Z below #[Value.ref b] s) (entryFrame m ([Value.ref b] : List Value).toArray 7) := by
      rw [hh0]
      exact whole_start l hfl hbd ⟨B.exec, B.bytes, B.returns, hml, hown, hts, hX, hbl, B.notSynchronized, hgv⟩
    obtain ⟨t, a1, o, b1, b2, b3⟩ := K s₁ rfl X₀
    exact ⟨t, o, a1, b1, b2, b3⟩
theorem lw_pre_spec {args : Array Value} {s : State} (h : (Jvm.Cond.and given_1 narrow_1).before args s = true) (hr : rest_1_c.before args s = true) : ∃ (b : Addr) (xs : List Int32), lw_P b xs args s := by
  have hs := flat_of_before _ h
  have hq := flat_of_before _ hr
  have hc : (Cond.count 1).before args s = true := hs _ (by decide +kernel)
  have harr : (Cond.arrayOf (.arg 0) .int).before args s = true := hs _ (by decide +kernel)
  have hle : (Cond.le (.length (.arg 0)) (.int 3072)).before args s = true := hs _ (by decide +kernel)
  have hlen : (Cond.isInt (.length (.arg 0))).before args s = true := hq _ (by decide +kernel)
  have hall : (Cond.all (.arg 0) (.isInt (.elem (.arg 0) (.index 0)))).before args s = true := hq _ (by decide +kernel)
  obtain ⟨b, xs, hb, hx⟩ := State.ints_of_pre rfl harr hlen hall
  have hsm : xs.length < 2 ^ 31 := hx.choose_spec.2.2.2
  have hev : (Term.length (.arg 0)).eval args s none [] s = some (.int xs.length.toInt32) := hx.length_eval hb
  have hv := Cond.le_ints hev (show (Term.int 3072).eval args s none [] s = some (.int 3072) from rfl)
  have hd : xs.length.toInt32 ≤ 3072 := by
    simpa [Cond.before, Cond.holds, hv] using hle
  have hN : xs.length ≤ 3072 := (Int32.ofNat_le_ofNat hsm (by decide)).mp (show Int32.ofNat xs.length ≤ Int32.ofNat 3072 from hd)
  exact ⟨b, xs, Cond.one_arg hc (show args[0]? = some (.ref b) from hb), hx, hN, h⟩
theorem lw_comes (l : Launch) (hfl : l.stackTraces = false) : Comes l x (Jvm.Cond.code x code maxLocals ret :: tables_1) room_1 (fun tb e args s => Calls_1 tb e args s ∧ rest_1 tb e args s ∧ Pre_1 tb e args s)
    (fun _ _ args s o t => lw_Q args s o t) := by
  intro p e ha hc hk s m args below hf hfit hheap happ hpre
  obtain ⟨b, xs, hP⟩ := lw_pre_spec hpre.2.2 hpre.2.1
  obtain ⟨k, o, h1, h2, h3, hQ⟩ := lw_walk l hfl b xs p e ha hc hk s m args below hf ((Spec.applies_iff_loose hf).mp happ).1 hP trivial
  exact ⟨k, o, h1, h2, h3, hQ⟩
theorem lw_frame {s t : State} {o : Outcome} {args : Array Value} (h : Framed s o t [] 601024 7293034) :
    Framed s o t (fieldLocs frame_1_writes args s ++ arrayLocs frame_1_arrays args s ++ staticLocs frame_1_statics s) 601024 7293034 := h
theorem lw_limb (L : Cond) (hL : ∀ (args : Array Value) (s t : State), L.after args s (.returned (some (.int 1))) t = true) :
    ArmFor flags0 classFile x code maxLocals ret World_1 tables_1 room_1 Calls_1 rest_1 Pre_1
      (fun tb e a s o t => postC L tb e a s o t ∧ Framed s o t (fieldLocs frame_1_writes a s ++ arrayLocs frame_1_arrays a s ++ staticLocs frame_1_statics s) 601024 7293034) := by
  intro l hflags _ _ p e ha hc hk s m args below hf hfit hheap happ hpre
  obtain ⟨k, o, h1, h2, h3, rfl, hF⟩ := lw_comes l (by unfold Launch.stackTraces; rw [hflags]; decide +kernel) p e ha hc hk s m args below hf hfit hheap happ hpre
  exact ⟨k, _, h1, h2, h3, hL args s _, lw_frame hF⟩
theorem i_vc : Claimed_1_1 ∧ Claimed_1_2 := ⟨lw_limb limb_1_1 (fun args s t => by simp [limb_1_1, Cond.after, Cond.holds, Cond.value]), lw_limb limb_1_2 (fun args s t => Cond.after_iff.mpr (by
  first | (rw [show limb_1_2 = Cond.eq .result (.int 1) from rfl, Cond.eq_ints (x := 1) (y := 1) rfl rfl]; simp; done) | (simp [limb_1_2, Cond.value, Term.eval]; done)))⟩
