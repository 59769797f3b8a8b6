/-! EXCEPTIONS: what a throw needs of the start, contracts of methods that may throw -/
def nse : String := "java/util/NoSuchElementException"
def nseN : List String := ["java/lang/RuntimeException", "java/lang/Exception"]
def wX : List Cond := (vx_atS RX6 173 nse nseN).filter goodWord
def wL : List Cond := wsL_law0 ++ wX
theorem wL_good : ∀ w ∈ wL, (w.onTables && w.keeps) = true ∨ ∃ ty, w = .arrayClass ty := fun w h => (List.mem_append.mp h).elim (wall_good w) (fun h => good_of_word (List.mem_filter.mp h).2)
theorem wL_0 {cw : Cond} : ∀ w ∈ cw :: wsL_law0, w ∈ cw :: wL := fun w h => (List.mem_cons.mp h).elim (fun e => e ▸ List.mem_cons_self) (fun h => List.mem_cons_of_mem _ (List.mem_append_left _ h))
theorem gx_0 {cw cy : Cond} (h5 : cy ∈ wsL_law0) : GoodIn (cw :: wL) (cy :: wL) := by
  intro w h
  have hm : w ∈ wL := (List.mem_cons.mp h).elim (fun e => e ▸ List.mem_append_left _ h5) id
  exact ⟨List.mem_cons_of_mem _ hm, wL_good w hm⟩
theorem gx_V {cw cy : Cond} {own C : String} {idx : Nat} {y : MethodName} (h1 : Cond.methodLink own idx y ∈ wsL_law0) (h2 : Cond.instanceMethod y ∈ wsL_law0) (h3 : Cond.selects C y y ∈ wsL_law0) (h4 : Cond.initialized C ∈ wsL_law0) (h5 : cy ∈ wsL_law0) : GoodIn (cw :: wL) (wsV own idx C y (cy :: wL)) := by
  intro w h
  unfold wsV at h
  rcases List.mem_append.mp h with h | h
  · have hm : w ∈ wL := by
      simp only [List.mem_cons, List.not_mem_nil, or_false] at h
      rcases h with rfl | rfl | rfl | rfl
      · exact List.mem_append_left _ h1
      · exact List.mem_append_left _ h2
      · exact List.mem_append_left _ h3
      · exact List.mem_append_left _ h4
    exact ⟨List.mem_cons_of_mem _ hm, wL_good w hm⟩
  · exact gx_0 h5 w h
theorem gx_S {cw cy : Cond} {own : String} {idx : Nat} {y : MethodName} (h1 : Cond.methodLink own idx y ∈ wsL_law0) (h2 : Cond.static y ∈ wsL_law0) (h4 : Cond.initialized y.cls ∈ wsL_law0) (h5 : cy ∈ wsL_law0) : GoodIn (cw :: wL) (va_wsS own idx y (cy :: wL)) := by
  intro w h
  unfold va_wsS at h
  rcases List.mem_append.mp h with h | h
  · have hm : w ∈ wL := by
      simp only [List.mem_cons, List.not_mem_nil, or_false] at h
      rcases h with rfl | rfl | rfl
      · exact List.mem_append_left _ h1
      · exact List.mem_append_left _ h2
      · exact List.mem_append_left _ h4
    exact ⟨List.mem_cons_of_mem _ hm, wL_good w hm⟩
  · exact gx_0 h5 w h
theorem bx_sub {g : GX} {p : Program} {s : State} {m : MethodId} {meth : Method} {c : Code} {args : Array Value} {cc : ByteArray} {maxL : Nat} {ret : Option FieldType} {y : MethodName} {Ts Ts' : List Cond} {A : Nat → Prop} (C : bx g p s m meth c args cc maxL ret y Ts A) (h : ∀ w ∈ Ts', w ∈ Ts) : bx g p s m meth c args cc maxL ret y Ts' A := ⟨C.x, C.b, C.r, C.ml, C.own, fun w hw => C.ts w (h w hw), C.hA, C.lk, C.K, C.Z, C.nm⟩
/-- what a throw needs beside the words: the text, two statics, words on the constructors -/
def xz (sa : Nat) (A : Nat → Prop) (U : State) (H : Heap) : Prop := vk_R RX6 171 "OUT has no such byte" sa U ∧ vx_Zq Bundle.tN "UNASSIGNED_STACK" Bundle.steD A U H ∧ vx_Zq Bundle.tN "SUPPRESSED_SENTINEL" Bundle.listD A U H ∧ va_Nw (.declares (Bundle.initS "java/lang/RuntimeException")) U ∧ va_Nw (.declares (Bundle.initS "java/lang/Exception")) U ∧ va_Nw (.declares (Bundle.initS Bundle.tN)) U ∧ va_Nw (.castable nse nse) U
theorem xz_to {sa : Nat} {A B : Nat → Prop} {s U : State} {H0 H : Heap} (h : xz sa A s H0) (hW : s.WarmedH U.vm) (hq : ∀ a : Nat, a < H0.size → ¬ A a → H[a]? = H0[a]?) (hAB : ∀ q, B q → A q) : xz sa B U H :=
  ⟨h.1.warm hW, ((h.2.1.kept hq).narrow hAB).moved hW.alike, ((h.2.2.1.kept hq).narrow hAB).moved hW.alike, va_Nw.warmD hW h.2.2.2.1, va_Nw.warmD hW h.2.2.2.2.1, va_Nw.warmD hW h.2.2.2.2.2.1, va_Nw.warmC hW h.2.2.2.2.2.2⟩
theorem xz_same {sa : Nat} {A : Nat → Prop} {s U : State} {H : Heap} (h : xz sa A s H) (hW : s.vm = U.vm) : xz sa A U H :=
  ⟨vk_R.same hW.symm h.1, h.2.1.moved (by rw [hW]; exact Vm.Alike.refl _), h.2.2.1.moved (by rw [hW]; exact Vm.Alike.refl _), va_Nw.same rfl hW h.2.2.2.1, va_Nw.same rfl hW h.2.2.2.2.1, va_Nw.same rfl hW h.2.2.2.2.2.1, va_Nw.same rfl hW h.2.2.2.2.2.2⟩
def pccx (g : GX) (sa : Nat) (av : List Value) (wc : va_W) (sz : Nat) : Array Value → State → Prop :=
  va_Pc av (fun U => U.heap.size = sz ∧ va_P g.1 vwCl wc U.heap ∧ va_K g.1 vwCl (tyx g) U ∧ va_D (fun _ => True) wc ∧ zz g (va_A wc sz) U U.heap ∧ xz sa (va_A wc sz) U U.heap)
section XD
variable {g : GX} {p : Program} {l : Launch} {e : Env} {R : Room} {s : State} {m : MethodId} {args : Array Value} {below : List Frame} {meth : Method} {c : Code} {H : Heap} {locs : List Loc} {cells slots : Nat} {Q : State → Prop}
variable {cc : ByteArray} {maxL : Nat} {ret : Option FieldType} {y : MethodName} {Ts : List Cond} {A : Nat → Prop} {ws ws' : va_W} {pc : Nat} {ls : Array Slot} {rest : List Value} {a sa : Nat}
theorem pccx_of {wc : va_W} {av : List Value} (C0 : bx g p s m meth c args cc maxL ret y Ts A) (hX : xz sa A s s.heap) (hW : ww g A s ws H locs) (isC : List Nat) (hC : isC.map (fun i => ws[i]?) = wc.map some) (hn : va_nd isC = true) : PreS s H (pccx g sa av wc H.size) av := by
  have hP : va_P g.1 vwCl wc H := hW.1.sub isC (by
    have : (isC.map (fun i => ws[i]?)).filterMap id = wc := by rw [hC, List.filterMap_map]; simp
    rw [← this, List.filterMap_map]; rfl)
  have hD := hW.2.1.sub isC hn hC
  have hF := va_free hW.2.1 hW.2.2 C0.hA isC hC
  refine ⟨fun a U g' mk q => ?_, fun U hU hWU => ?_⟩
  · obtain ⟨q0, q1, qP, qK, qD, qZ, qX⟩ := q
    exact ⟨q0, q1, qP, va_K.moved (u := U) (U := U.calling g' mk a) (Vm.Alike.refl U.vm) qK, qD, zz_same qZ rfl, xz_same qX rfl⟩
  · exact ⟨rfl, by rw [hU], by rw [hU]; exact hP, va_K.moved hWU.alike C0.K, hD.weaken (fun _ _ _ _ => trivial), by rw [hU]; exact zz_to C0.Z hWU (fun a h1 h2 => hW.2.2.2.1 a h1 h2) hF, by rw [hU]; exact xz_to hX hWU (fun a h1 h2 => hW.2.2.2.1 a h1 h2) hF⟩
theorem pcvx_of {wc : va_W} {b ci q0 : Nat} {fs : List Value} {As : List Value} {q : vw_C} (C0 : bx g p s m meth c args cc maxL ret y Ts A) (hX : xz sa A s s.heap) (hW : ww g A s ws H locs) (isC : List Nat) (hC : isC.map (fun i => ws[i]?) = wc.map some) (hn : va_nd isC = true) (he : ws[q0]? = some (b, .inr (ci, fs))) (hc : vwCl[ci]? = some q) : PreV s H q.1 b (pccx g sa (.ref b :: As) wc H.size) As :=
  ⟨(pccx_of C0 hX hW isC hC hn).1, va_recv C0.K hW.1 hc he, (pccx_of (av := .ref b :: As) C0 hX hW isC hC hn).2⟩
/-- a callee that can't throw, called by a row that might -/
def xcF (wc : va_W) (sz : Nat) : String → State → State → Prop := vx_X (S := Unit) (fun _ => False) (fun _ _ _ => True) (va_A wc sz)
/-- a callee that throws, its world as it was -/
def xcO (g : GX) (wc : va_W) (sz : Nat) : String → State → State → Prop := vx_X (S := Unit) (fun _ => True) (fun E _ t => E = nse ∧ wo_ g wc sz wc t) (va_A wc sz)
theorem go_ix {wc wo : va_W} {mc ms : Nat} {st0 : List Value} {av : Array Value} {r0 : Int32} (C0 : bx g p s m meth c args cc maxL ret y Ts A) (hW : ww g A s ws H locs) (isC isR isF : List Nat) (hr : vx_Run p l e R s m args below meth c H locs cells slots mc ms (F0 m pc ls st0) rest (qcI g wc H.size r0 wo av) (xcF wc H.size) (va_A wc H.size))
    (hC : isC.map (fun i => ws[i]?) = wc.map some) (hR : isR.map (fun i => ws[i]?) = (pick ws isR).map some) (hn : va_nd isR = true) (hdis : ∀ i ∈ isR, i ∉ isC) (hF : isF.map (fun i => (pick ws isR ++ wo)[i]?) = ws'.map some) (hnF : va_nd isF = true)
    (kk : ∀ (H1 : Heap) (locs1 : List Loc), ww g A s ws' H1 locs1 → W p l e R s m args below meth c H1 locs1 (cells + mc) (slots + ms) Q (F0 m (pc + 3) ls (.int r0 :: rest))) : W p l e R s m args below meth c H locs cells slots Q (F0 m pc ls st0) := by
  have hFc := va_free hW.2.1 hW.2.2 C0.hA isC hC
  refine vx_calli hr hW.2.2 (fun q _ h => hFc q h) hFc (fun q _ h => hFc q h) (fun E ce q9 u t H1 locs1 ht hvm hpx => hpx.elim) (fun r u t H1 locs1 ht hvm hw hB hz1 hk1 hS => ?_)
  obtain ⟨hP1, hK1, hD1⟩ := hB
  rw [ht] at hP1
  subst hw
  exact kk H1 locs1 (ww_join C0 hW isC isR isF hC hR hn hdis hk1 hP1 hD1 hS hF hnF)
/-- a call that throws for sure -/
theorem go_x {wc : va_W} {mc ms : Nat} {st0 : List Value} {av : Array Value} (C0 : bx g p s m meth c args cc maxL ret y Ts A) (hW : ww g A s ws H locs) (isC isR isF : List Nat) (hr : vx_Run p l e R s m args below meth c H locs cells slots mc ms (F0 m pc ls st0) rest (va_Qi (S := Unit) (fun _ _ => False) (fun _ _ => True) (va_A wc H.size) av) (xcO g wc H.size) (va_A wc H.size))
    (hC : isC.map (fun i => ws[i]?) = wc.map some) (hR : isR.map (fun i => ws[i]?) = (pick ws isR).map some) (hn : va_nd isR = true) (hdis : ∀ i ∈ isR, i ∉ isC) (hF : isF.map (fun i => (pick ws isR ++ wc)[i]?) = ws'.map some) (hnF : va_nd isF = true)
    (kk : ∀ (ce : Cell) (q9 : Addr) (H1 : Heap) (locs1 : List Loc), ww g A s ws' H1 locs1 → H1[q9]? = some ce → ce.vm = .none → s.vm.findClass nse = some ce.cls → vx_W p l e R s m args below meth c H1 locs1 (cells + mc) (slots + ms) Q (F0 m pc ls rest) q9) : W p l e R s m args below meth c H locs cells slots Q (F0 m pc ls st0) := by
  have hFc := va_free hW.2.1 hW.2.2 C0.hA isC hC
  refine vx_calli hr hW.2.2 (fun q _ h => hFc q h) hFc (fun q _ h => hFc q h) (fun E ce q9 u t H1 locs1 ht hvm hpx hB hz1 hk1 hS h1 h2 h3 => ?_) (fun r u t H1 locs1 ht hvm hw => hw.elim)
  obtain ⟨hE, hP1, hK1, hD1⟩ := hB
  rw [ht] at hP1
  subst hE
  exact kk ce q9 H1 locs1 (ww_join C0 hW isC isR isF hC hR hn hdis hk1 hP1 hD1 hS hF hnF) h1 h2 h3
end XD
theorem x_startX {g : GX} {l : Launch} {y : MethodName} {wsy wsy' : List Cond} {rm : Room} {av : List Value} {wc : va_W} {cc : ByteArray} {maxL : Nat} {ret : Option FieldType} {Qc : Nat → Array Value → State → Outcome → State → Prop} {XC : Nat → String → State → State → Prop} {mc ms sa : Nat} (hy : plainName y.cls = true) (hw : wsy = Cond.code y cc maxL ret :: wsy') (hn : (lg_sl av).length ≤ maxL)
    (body : ∀ (p : Program) (e : Env) (s : State) (m : MethodId) (below : List Frame) (meth : Method) (c : Code) (ls : Array Slot), bx g p s m meth c av.toArray cc maxL ret y wsy (va_A wc s.heap.size) → ww g (va_A wc s.heap.size) s wc s.heap [] → lv_has ls maxL (lv_args 0 av) → (∀ x ∈ c.exceptionTable.toList, False) → xz sa (va_A wc s.heap.size) s s.heap →
      W p l e rm s m av.toArray below meth c s.heap [] 0 0 (vx_MQ below (Qc s.heap.size) (XC s.heap.size) av.toArray s mc ms (va_A wc s.heap.size)) (F0 m 0 ls [])) : ∀ sz : Nat, vx_Met l y wsy rm (pccx g sa av wc sz) (Qc sz) (XC sz) mc ms (va_A wc sz) := by
  intro sz
  refine vx_ofW (cc := cc) (maxL := maxL) (ret := ret) hy hw ?_
  intro p e s m args below meth c s₁ B hml htab hv
  obtain ⟨rfl, hsz, hP, hK, hD0, hZ, hX⟩ := hv
  subst hsz
  have hl := lv_entry av (n := maxL) hn
  rw [lg_entry_eq]
  generalize (lg_sl av ++ List.replicate (maxL - (lg_sl av).length) Slot.unset).toArray = ls at hl ⊢
  exact body p e s m below meth c ls ⟨B.exec, B.bytes, B.returns, hml, findClass_of_methodNamed B.named, atoms_spec (ws := wsy) B.pre, fun q h => Or.inr h, B.notSynchronized, hK, hZ, (name_of_methodNamed B.named B.method).1⟩ ⟨hP, hD0.self, va_S.rf⟩ hl htab hX
theorem x_startH {g : GX} {l : Launch} {y : MethodName} {wsy wsy' : List Cond} {rm : Room} {av : List Value} {wc : va_W} {cc : ByteArray} {maxL : Nat} {ret : Option FieldType} {hh : List (Nat × Nat × Nat × Nat)} {Qc : Nat → Array Value → State → Outcome → State → Prop} {XC : Nat → String → State → State → Prop} {mc ms sa : Nat} (hy : plainName y.cls = true) (hw : wsy = Cond.codeWith y cc maxL ret hh :: wsy') (hn : (lg_sl av).length ≤ maxL)
    (body : ∀ (p : Program) (e : Env) (s : State) (m : MethodId) (below : List Frame) (meth : Method) (c : Code) (ls : Array Slot), bx g p s m meth c av.toArray cc maxL ret y wsy (va_A wc s.heap.size) → ww g (va_A wc s.heap.size) s wc s.heap [] → lv_has ls maxL (lv_args 0 av) → c.exceptionTable.toList = tableOf hh → xz sa (va_A wc s.heap.size) s s.heap →
      W p l e rm s m av.toArray below meth c s.heap [] 0 0 (vx_MQ below (Qc s.heap.size) (XC s.heap.size) av.toArray s mc ms (va_A wc s.heap.size)) (F0 m 0 ls [])) : ∀ sz : Nat, vx_Met l y wsy rm (pccx g sa av wc sz) (Qc sz) (XC sz) mc ms (va_A wc sz) := by
  intro sz
  refine vx_ofWH (cc := cc) (maxL := maxL) (ret := ret) (hh := hh) hy hw ?_
  intro p e s m args below meth c s₁ B hml hv
  obtain ⟨rfl, hsz, hP, hK, hD0, hZ, hX⟩ := hv
  subst hsz
  have htab := vx_table (x := y) B (atoms_spec (ws := wsy) B.pre _ (by rw [hw]; exact List.mem_cons_self))
  have hl := lv_entry av (n := maxL) hn
  rw [lg_entry_eq]
  generalize (lg_sl av ++ List.replicate (maxL - (lg_sl av).length) Slot.unset).toArray = ls at hl ⊢
  exact body p e s m below meth c ls ⟨B.exec, B.bytes, B.returns, hml, findClass_of_methodNamed B.named, atoms_spec (ws := wsy) B.pre, fun q h => Or.inr h, B.notSynchronized, hK, hZ, (name_of_methodNamed B.named B.method).1⟩ ⟨hP, hD0.self, va_S.rf⟩ hl htab hX
theorem x_hat {args : Array Value} {s : State} {cw : Cond} {sa : Nat} {A : Nat → Prop} {H : Heap} (hts : ∀ w ∈ cw :: wL, w.before args s = true) (hX : xz sa A s H) : ∀ w ∈ vx_atS RX6 173 nse nseN, w.before args s = true :=
  vx_hat (B := [.declares (Bundle.initS "java/lang/RuntimeException"), .declares (Bundle.initS "java/lang/Exception"), .declares (Bundle.initS Bundle.tN), .castable nse nse]) (fun w h => hts w (List.mem_cons_of_mem _ (List.mem_append_right _ h))) (by decide +kernel)
    (vx_c (va_Nw.use rfl hX.2.2.2.1) (vx_c (va_Nw.use rfl hX.2.2.2.2.1) (vx_c (va_Nw.use rfl hX.2.2.2.2.2.1) (vx_c (va_Nw.use rfl hX.2.2.2.2.2.2) vx_n))))
theorem x_ot : ∀ w ∈ Cond.classLink RX6 169 nse :: Cond.initialized nse :: vx_atS RX6 173 nse nseN, vx_ot w = true := by decide +kernel
