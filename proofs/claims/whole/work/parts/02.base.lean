/-! THE BASE. One context g for all contracts: the classes' numbers, the classes of int, byte and long arrays, the two static tables' cells. A method's start (bx), its world (ww), its contract by a pure function (mcI, mcV, mcL, mcN): from the world wc it comes back with the answer r0 and the world wo. -/
abbrev GX : Type := va_G × (ClassId × ClassId × ClassId) × (Nat × Nat)
def tyx (g : GX) : List (ClassId × FieldType) := [(g.2.1.1, .int), (g.2.1.2.1, .byte), (g.2.1.2.2, .long)]
def nw_F : List (String × Nat × String × String × String × String) := [("SnapHouse", 79, "SnapHouse$Bytes", "count", "I", "SnapHouse"), ("SnapHouse", 117, "SnapHouse$Presser", "block", "LSnapHouse$Bytes;", "SnapHouse"), ("SnapHouse", 123, "SnapHouse$BlockOpener", "fault", "I", "SnapHouse"), ("SnapHouse", 126, "SnapHouse$BlockOpener", "place", "I", "SnapHouse"), ("SnapHouse", 133, "SnapHouse$BlockOpener", "given", "LSnapHouse$Bytes;", "SnapHouse"), ("SnapHouse", 136, "SnapHouse$BlockOpener", "elements", "LSnapHouse$Rows;", "SnapHouse"), ("SnapHouse", 146, "SnapHouse$StreamMaker", "made", "LSnapHouse$Bytes;", "SnapHouse"), ("SnapHouse", 153, "SnapHouse$StreamOpener", "fault", "I", "SnapHouse"), ("SnapHouse", 154, "SnapHouse$StreamOpener", "place", "I", "SnapHouse"), ("SnapHouse", 155, "SnapHouse$StreamOpener", "given", "LSnapHouse$Bytes;", "SnapHouse"), ("SnapHouse", 156, "SnapHouse$StreamOpener", "chunks", "LSnapHouse$Rows;", "SnapHouse"), ("SnapHouse", 176, "SnapHouse$Rows", "count", "I", "SnapHouse"), ("SnapHouse", 177, "SnapHouse$Rows", "marked", "I", "SnapHouse"), ("SnapHouse$BlockOpener", 78, "SnapHouse$Bytes", "count", "I", "SnapHouse"), ("SnapHouse$StreamMaker", 27, "SnapHouse", "NAME", "[I", "SnapHouse"), ("SnapHouse$StreamMaker", 40, "SnapHouse$Bytes", "count", "I", "SnapHouse"), ("SnapHouse$StreamMaker", 53, "SnapHouse$Presser", "block", "LSnapHouse$Bytes;", "SnapHouse"), ("SnapHouse$StreamOpener", 59, "SnapHouse$Bytes", "count", "I", "SnapHouse"), ("SnapHouse$StreamOpener", 88, "SnapHouse", "NAME", "[I", "SnapHouse"), ("SnapHouse$StreamOpener", 102, "SnapHouse$BlockOpener", "fault", "I", "SnapHouse"), ("SnapHouse$StreamOpener", 103, "SnapHouse$BlockOpener", "given", "LSnapHouse$Bytes;", "SnapHouse")]
def nw_M : List (String × Nat × MethodName × String) := [("SnapHouse", 23, ⟨"SnapHouse$Presser", "<init>", "()V"⟩, "SnapHouse"), ("SnapHouse", 30, ⟨"SnapHouse$StreamMaker", "<init>", "()V"⟩, "SnapHouse"), ("SnapHouse", 37, ⟨"SnapHouse$BlockOpener", "<init>", "()V"⟩, "SnapHouse"), ("SnapHouse", 44, ⟨"SnapHouse$StreamOpener", "<init>", "()V"⟩, "SnapHouse"), ("SnapHouse", 51, ⟨"SnapHouse$Rows", "<init>", "()V"⟩, "SnapHouse"), ("SnapHouse$BlockOpener", 22, ⟨"SnapHouse$Rows", "<init>", "()V"⟩, "SnapHouse"), ("SnapHouse$StreamOpener", 22, ⟨"SnapHouse$Rows", "<init>", "()V"⟩, "SnapHouse")]
def nw_mF (q : String × Nat × String × String × String × String) : Cond := .fieldLinkNest q.1 q.2.1 q.2.2.1 q.2.2.2.1 q.2.2.2.2.1 q.2.2.2.2.2
def nw_mM (q : String × Nat × MethodName × String) : Cond := .methodLinkNest q.1 q.2.1 q.2.2.1 q.2.2.2
/-- the words on private members of nest mates -/
def nz (U : State) : Prop := (∀ q ∈ nw_F, va_Nw (nw_mF q) U) ∧ (∀ q ∈ nw_M, va_Nw (nw_mM q) U)
theorem nz_warm {s U : State} (hW : s.WarmedH U.vm) (h : nz s) : nz U := ⟨fun q hq => va_Nw.warmF hW (h.1 q hq), fun q hq => va_Nw.warmM hW (h.2 q hq)⟩
theorem nz_same {s U : State} (hW : s.vm = U.vm) (h : nz s) : nz U := ⟨fun q hq => va_Nw.same rfl hW (h.1 q hq), fun q hq => va_Nw.same rfl hW (h.2 q hq)⟩
def tb_N : List Int32 := [115, 78, 97, 80, 112, 89]
def tb_C : List Int32 := [0, 274646895, 549293790, 820201905, 1098587580, 1361435347, 1640403810, 1905808397, (-2097792136), (-1834419177), (-1572096602), (-1307217207), (-1014159676), (-741088853), (-483350502), (-210866315)]
def tf_N (j : Nat) : Value := .int (tb_N.getD j 0)
def tf_C (j : Nat) : Value := .int (tb_C.getD j 0)
/-- the static tables, none of them a cell that may change -/
def zt (g : GX) (A : Nat → Prop) (U : State) (H : Heap) : Prop := va_Z "SnapHouse" "NAME" "[I" (.ref g.2.2.1) A U H ∧ va_T .int g.2.2.1 6 tf_N A U H ∧ va_Z "SnapHouse$Bytes" "CRC_STEPS" "[I" (.ref g.2.2.2) A U H ∧ va_T .int g.2.2.2 16 tf_C A U H
def zz (g : GX) (A : Nat → Prop) (U : State) (H : Heap) : Prop := nz U ∧ zt g A U H
theorem zz_to {g : GX} {A B : Nat → Prop} {s U : State} {H0 H : Heap} (h : zz g A s H0) (hW : s.WarmedH U.vm) (hq : ∀ a : Nat, a < H0.size → ¬ A a → H[a]? = H0[a]?) (hAB : ∀ q, B q → A q) : zz g B U H :=
  ⟨nz_warm hW h.1, ((h.2.1.kept hq).narrow hAB).moved hW.alike, ((h.2.2.1.kept hq).narrow hAB).moved hW.alike, ((h.2.2.2.1.kept hq).narrow hAB).moved hW.alike, ((h.2.2.2.2.kept hq).narrow hAB).moved hW.alike⟩
theorem zz_same {g : GX} {A : Nat → Prop} {s U : State} {H : Heap} (h : zz g A s H) (hW : s.vm = U.vm) : zz g A U H :=
  ⟨nz_same hW h.1, h.2.1.moved (by rw [hW]; exact Vm.Alike.refl _), h.2.2.1.moved (by rw [hW]; exact Vm.Alike.refl _), h.2.2.2.1.moved (by rw [hW]; exact Vm.Alike.refl _), h.2.2.2.2.moved (by rw [hW]; exact Vm.Alike.refl _)⟩
def ww (g : GX) (A : Nat → Prop) (s : State) (ws : va_W) (H : Heap) (locs : List Loc) : Prop := va_P g.1 vwCl ws H ∧ va_D A ws ∧ va_S A s.heap H locs
def bx (g : GX) (p : Program) (s : State) (m : MethodId) (meth : Method) (c : Code) (args : Array Value) (cc : ByteArray) (maxL : Nat) (ret : Option FieldType) (y : MethodName) (Ts : List Cond) (A : Nat → Prop) : Prop :=
  p.tables.exec = Jvm.exec ∧ c.code = cc ∧ meth.sig.returnType = ret ∧ c.maxLocals = maxL ∧ s.vm.findClass y.cls = some m.cls ∧ (∀ w ∈ Ts, w.before args s = true) ∧ (∀ q : Nat, s.heap.size ≤ q → A q) ∧ meth.locks = false ∧ va_K g.1 vwCl (tyx g) s ∧ zz g A s s.heap ∧ meth.name = y.name
def pcc (g : GX) (av : List Value) (wc : va_W) (sz : Nat) : Array Value → State → Prop :=
  va_Pc av (fun U => U.heap.size = sz ∧ va_P g.1 vwCl wc U.heap ∧ va_K g.1 vwCl (tyx g) U ∧ va_D (fun _ => True) wc ∧ zz g (va_A wc sz) U U.heap)
def wo_ (g : GX) (wc : va_W) (sz : Nat) (wo : va_W) (t : State) : Prop := va_P g.1 vwCl wo t.heap ∧ va_K g.1 vwCl (tyx g) t ∧ va_D (va_A wc sz) wo
def qcI (g : GX) (wc : va_W) (sz : Nat) (r0 : Int32) (wo : va_W) : Array Value → State → Outcome → State → Prop :=
  va_Qi (fun r (_ : Unit) => r = r0) (fun _ t => wo_ g wc sz wo t) (va_A wc sz)
def qcL (g : GX) (wc : va_W) (sz : Nat) (r0 : Int64) (wo : va_W) : Array Value → State → Outcome → State → Prop :=
  va_Ql (fun r (_ : Unit) => r = r0) (fun _ t => wo_ g wc sz wo t) (va_A wc sz)
def qcV (g : GX) (wc : va_W) (sz : Nat) (wo : va_W) : Array Value → State → Outcome → State → Prop :=
  va_Qv (fun (_ : Unit) => True) (fun _ t => wo_ g wc sz wo t) (va_A wc sz)
/-- a constructor: the cells that it makes have addresses u -/
def qcN (g : GX) (wc : va_W) (sz : Nat) {S : Type} (wo : S → va_W) : Array Value → State → Outcome → State → Prop :=
  va_Qv (fun (_ : S) => True) (fun u t => wo_ g wc sz (wo u) t) (va_A wc sz)
def mcI (g : GX) (l : Launch) (y : MethodName) (wsy : List Cond) (rm : Room) (av : List Value) (wc : va_W) (r0 : Int32) (wo : va_W) (mc ms : Nat) : Prop :=
  ∀ sz : Nat, Met l y wsy rm (pcc g av wc sz) (qcI g wc sz r0 wo) mc ms (va_A wc sz)
def mcL (g : GX) (l : Launch) (y : MethodName) (wsy : List Cond) (rm : Room) (av : List Value) (wc : va_W) (r0 : Int64) (wo : va_W) (mc ms : Nat) : Prop :=
  ∀ sz : Nat, Met l y wsy rm (pcc g av wc sz) (qcL g wc sz r0 wo) mc ms (va_A wc sz)
def mcV (g : GX) (l : Launch) (y : MethodName) (wsy : List Cond) (rm : Room) (av : List Value) (wc : va_W) (wo : va_W) (mc ms : Nat) : Prop :=
  ∀ sz : Nat, Met l y wsy rm (pcc g av wc sz) (qcV g wc sz wo) mc ms (va_A wc sz)
def mcN (g : GX) (l : Launch) (y : MethodName) (wsy : List Cond) (rm : Room) (av : List Value) (wc : va_W) {S : Type} (wo : S → va_W) (mc ms : Nat) : Prop :=
  ∀ sz : Nat, Met l y wsy rm (pcc g av wc sz) (qcN g wc sz wo) mc ms (va_A wc sz)
/-- pure helpers: a step out of an Option -/
def ck {α : Type} (i : Int32) (n : Nat) (k : Option α) : Option α := if i < 0 ∨ n ≤ i.toNatClampNeg then none else k
theorem ck_some {α : Type} {i : Int32} {n : Nat} {k : Option α} {o : α} (h : ck i n k = some o) : vp_in i n ∧ k = some o := by
  unfold ck at h
  by_cases hc : i < 0 ∨ n ≤ i.toNatClampNeg
  · rw [if_pos hc] at h; cases h
  · rw [if_neg hc] at h; exact ⟨hc, h⟩
theorem ob {α β : Type} {x : Option α} {k : α → Option β} {o : β} (h : x.bind k = some o) : ∃ a, x = some a ∧ k a = some o := by
  cases x with
  | none => cases h
  | some a => exact ⟨a, rfl, h⟩
theorem it_t {c : Prop} [Decidable c] {α : Type} {a b o : α} (h : (if c then a else b) = o) (hc : c) : a = o := by rw [if_pos hc] at h; exact h
theorem it_f {c : Prop} [Decidable c] {α : Type} {a b o : α} (h : (if c then a else b) = o) (hc : ¬ c) : b = o := by rw [if_neg hc] at h; exact h
/-- a copy of n cells: its ranges looked at -/
def ckc {α : Type} (sp dp n : Int32) (n0 n1 : Nat) (k : Option α) : Option α := if sp < 0 ∨ dp < 0 ∨ n < 0 ∨ n0 < sp.toNatClampNeg + n.toNatClampNeg ∨ n1 < dp.toNatClampNeg + n.toNatClampNeg then none else k
theorem ckc_some {α : Type} {sp dp n : Int32} {n0 n1 : Nat} {k : Option α} {o : α} (h : ckc sp dp n n0 n1 k = some o) : (¬ sp < 0 ∧ ¬ dp < 0 ∧ ¬ n < 0 ∧ sp.toNatClampNeg + n.toNatClampNeg ≤ n0 ∧ dp.toNatClampNeg + n.toNatClampNeg ≤ n1) ∧ k = some o := by
  unfold ckc at h
  by_cases hc : sp < 0 ∨ dp < 0 ∨ n < 0 ∨ n0 < sp.toNatClampNeg + n.toNatClampNeg ∨ n1 < dp.toNatClampNeg + n.toNatClampNeg
  · rw [if_pos hc] at h; cases h
  · rw [if_neg hc] at h
    refine ⟨⟨fun q => hc (Or.inl q), fun q => hc (Or.inr (Or.inl q)), fun q => hc (Or.inr (Or.inr (Or.inl q))), Nat.not_lt.mp fun q => hc (Or.inr (Or.inr (Or.inr (Or.inl q)))), Nat.not_lt.mp fun q => hc (Or.inr (Or.inr (Or.inr (Or.inr q))))⟩, h⟩
/-- a boolean answer -/
def ckb {α : Type} (v : Int32) (k : Option α) : Option α := if v = 0 ∨ v = 1 then k else none
theorem ckb_some {α : Type} {v : Int32} {k : Option α} {o : α} (h : ckb v k = some o) : (v = 0 ∨ v = 1) ∧ k = some o := by
  unfold ckb at h
  by_cases hc : v = 0 ∨ v = 1
  · rw [if_pos hc] at h; exact ⟨hc, h⟩
  · rw [if_neg hc] at h; cases h
theorem ckb_nar {v : Int32} (h : v = 0 ∨ v = 1) : narrow .boolean (.int v) = .int v := by
  rcases h with rfl | rfl <;> decide
def ushr (x y : Int32) : Int32 := (x.toUInt32 >>> (y.toUInt32 &&& Int32.toUInt32 31)).toInt32
def pick (ws : va_W) (is : List Nat) : va_W := is.filterMap (fun i => ws[i]?)
section XB
variable {g : GX} {p : Program} {l : Launch} {e : Env} {R : Room} {s : State} {m : MethodId} {args : Array Value} {below : List Frame} {meth : Method} {c : Code} {H : Heap} {locs : List Loc} {cells slots : Nat} {Q : State → Prop}
variable {cc : ByteArray} {maxL : Nat} {ret : Option FieldType} {y : MethodName} {Ts : List Cond} {A : Nat → Prop} {ws ws' : va_W} {pc : Nat} {ls : Array Slot} {rest : List Value} {a : Nat}
theorem bx.x (C : bx g p s m meth c args cc maxL ret y Ts A) : p.tables.exec = Jvm.exec := C.1
theorem bx.b (C : bx g p s m meth c args cc maxL ret y Ts A) : c.code = cc := C.2.1
theorem bx.r (C : bx g p s m meth c args cc maxL ret y Ts A) : meth.sig.returnType = ret := C.2.2.1
theorem bx.ml (C : bx g p s m meth c args cc maxL ret y Ts A) : c.maxLocals = maxL := C.2.2.2.1
theorem bx.own (C : bx g p s m meth c args cc maxL ret y Ts A) : s.vm.findClass y.cls = some m.cls := C.2.2.2.2.1
theorem bx.ts (C : bx g p s m meth c args cc maxL ret y Ts A) : ∀ w ∈ Ts, w.before args s = true := C.2.2.2.2.2.1
theorem bx.hA (C : bx g p s m meth c args cc maxL ret y Ts A) : ∀ q : Nat, s.heap.size ≤ q → A q := C.2.2.2.2.2.2.1
theorem bx.lk (C : bx g p s m meth c args cc maxL ret y Ts A) : meth.locks = false := C.2.2.2.2.2.2.2.1
theorem bx.K (C : bx g p s m meth c args cc maxL ret y Ts A) : va_K g.1 vwCl (tyx g) s := C.2.2.2.2.2.2.2.2.1
theorem bx.Z (C : bx g p s m meth c args cc maxL ret y Ts A) : zz g A s s.heap := C.2.2.2.2.2.2.2.2.2.1
theorem bx.nm (C : bx g p s m meth c args cc maxL ret y Ts A) : meth.name = y.name := C.2.2.2.2.2.2.2.2.2.2
theorem bx.fix (C : bx g p s m meth c args cc maxL ret y Ts A) : CallFix p m c cc maxL s args Ts y.cls := ⟨C.x, C.b, C.ml, C.own, C.ts⟩
theorem x_get (C0 : bx g p s m meth c args cc maxL ret y Ts A) (hW : ww g A s ws H locs) {C : String} {T : u_T} {N ci index : Nat} (hin : ∀ w ∈ u_ws C T N, w ∈ Ts) (q0 : Nat) {fs : List Value} (he : ws[q0]? = some (a, .inr (ci, fs))) (hc : vwCl[ci]? = some (C, T, N)) (k : Nat) (hk : k < N) (hlink : Cond.fieldLink y.cls index (T k).1 (T k).2.1 (T k).2.2.1 ∈ Ts) {v : Value} (hv : fs[k]? = some v) (hdg : decode cc pc = .ok (.getfield index, 3))
    (kk : W p l e R s m args below meth c H locs cells slots Q (F0 m (pc + 3) ls (v :: rest))) : W p l e R s m args below meth c H locs cells slots Q (F0 m pc ls (.ref a :: rest)) :=
  va_get C0.x C0.b C0.ts hin C0.own C0.K hW.1 q0 he hc k hk (C0.ts _ hlink) (fun _ h => h) hv hdg kk
theorem x_getN (C0 : bx g p s m meth c args cc maxL ret y Ts A) (hW : ww g A s ws H locs) {C host : String} {T : u_T} {N ci index : Nat} (hin : ∀ w ∈ u_ws C T N, w ∈ Ts) (q0 : Nat) {fs : List Value} (he : ws[q0]? = some (a, .inr (ci, fs))) (hc : vwCl[ci]? = some (C, T, N)) (k : Nat) (hk : k < N) (hlink : (y.cls, index, (T k).1, (T k).2.1, (T k).2.2.1, host) ∈ nw_F) {v : Value} (hv : fs[k]? = some v) (hdg : decode cc pc = .ok (.getfield index, 3))
    (kk : W p l e R s m args below meth c H locs cells slots Q (F0 m (pc + 3) ls (v :: rest))) : W p l e R s m args below meth c H locs cells slots Q (F0 m pc ls (.ref a :: rest)) :=
  va_getN C0.x C0.b C0.ts hin C0.own C0.K hW.1 q0 he hc k hk (va_Nw.use rfl (C0.Z.1.1 _ hlink)) (fun _ h => h) hv hdg kk
theorem x_put (C0 : bx g p s m meth c args cc maxL ret y Ts A) (hW : ww g A s ws H locs) {C : String} {T : u_T} {N ci index : Nat} (hin : ∀ w ∈ u_ws C T N, w ∈ Ts) (ty0 : Nat → FieldType) (hty : ∀ k, k < N → parseFieldDescriptor (T k).2.2.1 = some (ty0 k)) (hnm : ∀ a, a < N → ∀ b, b < N → a ≠ b → (T a).2.1 ≠ (T b).2.1) (q0 : Nat) {fs : List Value} (he : ws[q0]? = some (a, .inr (ci, fs))) (hc : vwCl[ci]? = some (C, T, N)) (k : Nat) (hk : k < N) (hlink : Cond.fieldLink y.cls index (T k).1 (T k).2.1 (T k).2.2.1 ∈ Ts) (hfin : (T k).2.2.2 = false) {ty : FieldType} {v : Value} (hd : parseFieldDescriptor (T k).2.2.1 = some ty) (hn : narrow ty v = v) (hfit : fits ty v = true) (hl : k < fs.length)
    (hdg : decode cc pc = .ok (.putfield index, 3)) (hws : ws.set q0 (a, .inr (ci, fs.set k v)) = ws') (kk : ∀ (H1 : Heap) (locs1 : List Loc), ww g A s ws' H1 locs1 → W p l e R s m args below meth c H1 locs1 cells slots Q (F0 m (pc + 3) ls rest)) : W p l e R s m args below meth c H locs cells slots Q (F0 m pc ls (v :: .ref a :: rest)) :=
  va_put C0.x C0.b C0.ts hin ty0 hty hnm C0.own C0.K hW.1 hW.2.1 hW.2.2 q0 he hc k hk (C0.ts _ hlink) (fun _ h => h) hfin hd hn hfit hl hdg (fun H1 l1 h1 h2 h3 => kk H1 l1 (hws ▸ ⟨h1, h2, h3⟩))
theorem x_putN (C0 : bx g p s m meth c args cc maxL ret y Ts A) (hW : ww g A s ws H locs) {C host : String} {T : u_T} {N ci index : Nat} (hin : ∀ w ∈ u_ws C T N, w ∈ Ts) (ty0 : Nat → FieldType) (hty : ∀ k, k < N → parseFieldDescriptor (T k).2.2.1 = some (ty0 k)) (hnm : ∀ a, a < N → ∀ b, b < N → a ≠ b → (T a).2.1 ≠ (T b).2.1) (q0 : Nat) {fs : List Value} (he : ws[q0]? = some (a, .inr (ci, fs))) (hc : vwCl[ci]? = some (C, T, N)) (k : Nat) (hk : k < N) (hlink : (y.cls, index, (T k).1, (T k).2.1, (T k).2.2.1, host) ∈ nw_F) (hfin : (T k).2.2.2 = false) {ty : FieldType} {v : Value} (hd : parseFieldDescriptor (T k).2.2.1 = some ty) (hn : narrow ty v = v) (hfit : fits ty v = true) (hl : k < fs.length)
    (hdg : decode cc pc = .ok (.putfield index, 3)) (hws : ws.set q0 (a, .inr (ci, fs.set k v)) = ws') (kk : ∀ (H1 : Heap) (locs1 : List Loc), ww g A s ws' H1 locs1 → W p l e R s m args below meth c H1 locs1 cells slots Q (F0 m (pc + 3) ls rest)) : W p l e R s m args below meth c H locs cells slots Q (F0 m pc ls (v :: .ref a :: rest)) :=
  va_putN C0.x C0.b C0.ts hin ty0 hty hnm C0.own C0.K hW.1 hW.2.1 hW.2.2 q0 he hc k hk (va_Nw.use rfl (C0.Z.1.1 _ hlink)) (fun _ h => h) hfin hd hn hfit hl hdg (fun H1 l1 h1 h2 h3 => kk H1 l1 (hws ▸ ⟨h1, h2, h3⟩))
theorem x_putF (C0 : bx g p s m meth c args cc maxL ret y Ts A) (hW : ww g A s ws H locs) {C : String} {T : u_T} {N ci index : Nat} (hin : ∀ w ∈ u_ws C T N, w ∈ Ts) (ty0 : Nat → FieldType) (hty : ∀ k, k < N → parseFieldDescriptor (T k).2.2.1 = some (ty0 k)) (hnm : ∀ a, a < N → ∀ b, b < N → a ≠ b → (T a).2.1 ≠ (T b).2.1) (q0 : Nat) {fs : List Value} (he : ws[q0]? = some (a, .inr (ci, fs))) (hc : vwCl[ci]? = some (C, T, N)) (k : Nat) (hk : k < N) (hlink : Cond.fieldLink y.cls index (T k).1 (T k).2.1 (T k).2.2.1 ∈ Ts) (hfin : (T k).2.2.2 = true) (hyn : y.name = "<init>") (hdecl : (T k).1 = y.cls) {ty : FieldType} {v : Value} (hd : parseFieldDescriptor (T k).2.2.1 = some ty) (hn : narrow ty v = v) (hfit : fits ty v = true) (hl : k < fs.length)
    (hdg : decode cc pc = .ok (.putfield index, 3)) (hws : ws.set q0 (a, .inr (ci, fs.set k v)) = ws') (kk : ∀ (H1 : Heap) (locs1 : List Loc), ww g A s ws' H1 locs1 → W p l e R s m args below meth c H1 locs1 cells slots Q (F0 m (pc + 3) ls rest)) : W p l e R s m args below meth c H locs cells slots Q (F0 m pc ls (v :: .ref a :: rest)) :=
  va_putF C0.x C0.b C0.ts hin ty0 hty hnm C0.own C0.K hW.1 hW.2.1 hW.2.2 q0 he hc k hk (C0.ts _ hlink) (fun _ h => h) hfin (C0.nm.trans hyn) hdecl hd hn hfit hl hdg (fun H1 l1 h1 h2 h3 => kk H1 l1 (hws ▸ ⟨h1, h2, h3⟩))
theorem x_iald (C0 : bx g p s m meth c args cc maxL ret y Ts A) (hW : ww g A s ws H locs) (q0 t0 : Nat) {cA : ClassId} {n : Nat} {f : Nat → Int32} (ha : ws[q0]? = some (a, .inl (cA, n, .inl f))) (ht : (tyx g)[t0]? = some (cA, .int)) {i : Int32} (hin : vp_in i n) (hdg : decode cc pc = .ok (.iaload, 1))
    (kk : W p l e R s m args below meth c H locs cells slots Q (F0 m (pc + 1) ls (.int (f i.toNatClampNeg) :: rest))) : W p l e R s m args below meth c H locs cells slots Q (F0 m pc ls (.int i :: .ref a :: rest)) :=
  va_iald C0.x C0.b C0.K hW.1 q0 t0 ha ht hin hdg kk
theorem x_iast (C0 : bx g p s m meth c args cc maxL ret y Ts A) (hW : ww g A s ws H locs) (q0 t0 : Nat) {cA : ClassId} {n : Nat} {f : Nat → Int32} (ha : ws[q0]? = some (a, .inl (cA, n, .inl f))) (ht : (tyx g)[t0]? = some (cA, .int)) {i : Int32} {x : Int32} (hin : vp_in i n) (hdg : decode cc pc = .ok (.iastore, 1)) (hws : ws.set q0 (a, .inl (cA, n, .inl (upd f i.toNatClampNeg x))) = ws')
    (kk : ∀ (H1 : Heap) (locs1 : List Loc), ww g A s ws' H1 locs1 → W p l e R s m args below meth c H1 locs1 cells slots Q (F0 m (pc + 1) ls rest)) : W p l e R s m args below meth c H locs cells slots Q (F0 m pc ls (.int x :: .int i :: .ref a :: rest)) :=
  va_iast C0.x C0.b C0.K hW.1 hW.2.1 hW.2.2 q0 t0 ha ht hin hdg (fun H1 l1 h1 h2 h3 => kk H1 l1 (hws ▸ ⟨h1, h2, h3⟩))
theorem x_alen (C0 : bx g p s m meth c args cc maxL ret y Ts A) (hW : ww g A s ws H locs) (q0 t0 : Nat) {cA : ClassId} {x : vp_A} (ha : ws[q0]? = some (a, .inl (cA, x))) {ty : FieldType} (ht : (tyx g)[t0]? = some (cA, ty)) {v : Int32} (hv : Int32.ofNat x.1 = v) (hdg : decode cc pc = .ok (.arraylength, 1))
    (kk : W p l e R s m args below meth c H locs cells slots Q (F0 m (pc + 1) ls (.int v :: rest))) : W p l e R s m args below meth c H locs cells slots Q (F0 m pc ls (.ref a :: rest)) :=
  va_alen C0.x C0.b C0.K hW.1 q0 t0 ha ht hv hdg kk
/-- one class for all arrays of a kind -/
theorem x_RA {U : State} {c1 c2 : ClassId} {ty : FieldType} (h1 : va_RA U c1 ty) (h2 : va_RA U c2 ty) : c1 = c2 := by
  cases ty with
  | object C =>
    obtain ⟨_, _, _, _, _, e1⟩ := h1
    obtain ⟨_, _, _, _, _, e2⟩ := h2
    exact Option.some.inj (e1.symm.trans e2)
  | _ => exact Option.some.inj (Eq.trans (Eq.symm h1) h2)
theorem x_newa (C0 : bx g p s m meth c args cc maxL ret y Ts A) (hW : ww g A s ws H locs) {atype : ArrayType} (harr : Cond.arrayClass (newarray.typeOf atype) ∈ Ts) {ty : FieldType} (hty : newarray.typeOf atype = ty) (t0 : Nat) {cA : ClassId} (ht : (tyx g)[t0]? = some (cA, ty))
    {n : Int32} {N' : Nat} {a0 : vp_A} (ha : ∀ cA : ClassId, vp_cell cA a0 = arrV cA N' (fun _ => defaultValue ty)) (hn : ¬ n < 0) (hN : n.toNatClampNeg = N') (hbytes : N' * componentBytes ty ≤ 536870912) (hcells : cells + 1 ≤ R.cells) (hslots : slots + N' ≤ R.slots) (hdg : decode cc pc = .ok (.newarray atype, 2))
    (kk : ∀ (q : Nat) (H1 : Heap), ww g A s (ws ++ [(q, .inl (cA, a0))]) H1 locs →
      W p l e R s m args below meth c H1 locs (cells + 1) (slots + N') Q (F0 m (pc + 2) ls (.ref q :: rest))) : W p l e R s m args below meth c H locs cells slots Q (F0 m pc ls (.int n :: rest)) := by
  refine va_newa C0.x C0.b (C0.ts _ harr) hty C0.K hW.1 hW.2.1 hW.2.2 C0.hA ha hn hN hbytes hcells hslots hdg (fun q cB H1 hK hP hD hS => ?_)
  have h1 := (C0.K.2 t0 _ ht).2
  have h2 := (hK.2 (tyx g).length (cB, ty) (by rw [List.getElem?_append_right (Nat.le_refl _), Nat.sub_self]; rfl)).2
  have e1 : cB = cA := x_RA h2 h1
  subst e1
  exact kk q H1 ⟨hP, hD, hS⟩
theorem x_new (C0 : bx g p s m meth c args cc maxL ret y Ts A) (hW : ww g A s ws H locs) {C : String} {T : u_T} {N ci index : Nat} (hin : ∀ w ∈ u_ws C T N, w ∈ Ts) (ty : Nat → FieldType) (hty : ∀ k, k < N → parseFieldDescriptor (T k).2.2.1 = some (ty k)) (hcl : Cond.classLink y.cls index C ∈ Ts) (hinst : Cond.instantiable C N ∈ Ts) (hini : Cond.initialized C ∈ Ts)
    (hc : vwCl[ci]? = some (C, T, N)) {fs : List Value} (hfs : ∀ j, j < N → defaultValue (ty j) = vp_V fs j) (hcells : cells + 1 ≤ R.cells) (hslots : slots + N ≤ R.slots) (hdg : decode cc pc = .ok (.new index, 3))
    (kk : ∀ (q : Nat) (H1 : Heap), ww g A s (ws ++ [(q, .inr (ci, fs))]) H1 locs →
      W p l e R s m args below meth c H1 locs (cells + 1) (slots + N) Q (F0 m (pc + 3) ls (.ref q :: rest))) : W p l e R s m args below meth c H locs cells slots Q (F0 m pc ls rest) :=
  va_new C0.x C0.b C0.ts hin ty hty C0.own (C0.ts _ hcl) (C0.ts _ hinst) (C0.ts _ hini) C0.K hW.1 hW.2.1 hW.2.2 C0.hA hc hfs hcells hslots hdg (fun q H1 h1 h2 h3 => kk q H1 ⟨h1, h2, h3⟩)
theorem x_cpy (C0 : bx g p s m meth c args cc maxL ret y Ts A) (hW : ww g A s ws H locs) (hls : ls.size = maxL) {index : Nat} (hlink : Cond.methodLink y.cls index arraycopyName ∈ Ts) (hnat : Cond.native arraycopyName ∈ Ts) (hstat : Cond.static arraycopyName ∈ Ts) (hini : Cond.initialized "java/lang/System" ∈ Ts)
    (q0 q1 t0 : Nat) {a0 : Nat} {c0 : ClassId} {n0 n1 : Nat} {f f1 : Nat → Int32} (ha0 : ws[q0]? = some (a0, .inl (c0, n0, .inl f))) (ha1 : ws[q1]? = some (a, .inl (c0, n1, .inl f1))) (ht0 : (tyx g)[t0]? = some (c0, .int))
    {sp dp n : Int32} (h : ¬ sp < 0 ∧ ¬ dp < 0 ∧ ¬ n < 0 ∧ sp.toNatClampNeg + n.toNatClampNeg ≤ n0 ∧ dp.toNatClampNeg + n.toNatClampNeg ≤ n1)
    (hframes : 1 ≤ R.frames) (hlocals : (rest.map fun v => v.category).sum + (nativeFrameWords "java/lang/System" "arraycopy" 5 + 11) ≤ R.locals) (hdg : decode cc pc = .ok (.invokestatic index, 3)) (hws : ws.set q1 (a, .inl (c0, n1, .inl (va_cpy f f1 sp.toNatClampNeg dp.toNatClampNeg n.toNatClampNeg))) = ws')
    (kk : ∀ (H1 : Heap) (locs1 : List Loc), ww g A s ws' H1 locs1 → W p l e R s m args below meth c H1 locs1 cells slots Q (F0 m (pc + 3) ls rest)) : W p l e R s m args below meth c H locs cells slots Q (F0 m pc ls (.int n :: .int dp :: .ref a :: .int sp :: .ref a0 :: rest)) :=
  va_copyi C0.x C0.b (C0.ml.trans hls.symm) C0.own (C0.ts _ hlink) (C0.ts _ hnat) (C0.ts _ hstat) (C0.ts _ hini) C0.K hW.1 hW.2.1 hW.2.2 q0 q1 t0 t0 ha0 ha1 ht0 ht0 rfl h.1 h.2.1 h.2.2.1 h.2.2.2.1 h.2.2.2.2 (fun _ _ => rfl) hframes hlocals hdg (fun H1 l1 h1 h2 h3 => kk H1 l1 (hws ▸ ⟨h1, h2, h3⟩))
end XB
section XC
variable {g : GX} {p : Program} {l : Launch} {e : Env} {R : Room} {s : State} {m : MethodId} {args : Array Value} {below : List Frame} {meth : Method} {c : Code} {H : Heap} {locs : List Loc} {cells slots : Nat} {Q : State → Prop}
variable {cc : ByteArray} {maxL : Nat} {ret : Option FieldType} {y : MethodName} {Ts : List Cond} {A : Nat → Prop} {ws ws' : va_W} {pc : Nat} {ls : Array Slot} {rest : List Value} {a : Nat}
theorem x_bald (C0 : bx g p s m meth c args cc maxL ret y Ts A) (hW : ww g A s ws H locs) (q0 t0 : Nat) {cA : ClassId} {n : Nat} {f : Nat → Int32} (ha : ws[q0]? = some (a, .inl (cA, n, .inl f))) (ht : (tyx g)[t0]? = some (cA, .byte)) {i : Int32} (hin : vp_in i n) (hdg : decode cc pc = .ok (.baload, 1))
    (kk : W p l e R s m args below meth c H locs cells slots Q (F0 m (pc + 1) ls (.int (f i.toNatClampNeg) :: rest))) : W p l e R s m args below meth c H locs cells slots Q (F0 m pc ls (.int i :: .ref a :: rest)) :=
  va_bald C0.x C0.b C0.K hW.1 q0 t0 ha ht hin hdg kk
theorem x_bast (C0 : bx g p s m meth c args cc maxL ret y Ts A) (hW : ww g A s ws H locs) (q0 t0 : Nat) {cA : ClassId} {n : Nat} {f : Nat → Int32} (ha : ws[q0]? = some (a, .inl (cA, n, .inl f))) (ht : (tyx g)[t0]? = some (cA, .byte)) {i : Int32} {x : Int32} (hin : vp_in i n) (hdg : decode cc pc = .ok (.bastore, 1)) (hws : ws.set q0 (a, .inl (cA, n, .inl (upd f i.toNatClampNeg (vp_nar .byte x)))) = ws')
    (kk : ∀ (H1 : Heap) (locs1 : List Loc), ww g A s ws' H1 locs1 → W p l e R s m args below meth c H1 locs1 cells slots Q (F0 m (pc + 1) ls rest)) : W p l e R s m args below meth c H locs cells slots Q (F0 m pc ls (.int x :: .int i :: .ref a :: rest)) :=
  va_bast C0.x C0.b C0.K hW.1 hW.2.1 hW.2.2 q0 t0 ha ht hin hdg (fun H1 l1 h1 h2 h3 => kk H1 l1 (hws ▸ ⟨h1, h2, h3⟩))
theorem x_last (C0 : bx g p s m meth c args cc maxL ret y Ts A) (hW : ww g A s ws H locs) (q0 t0 : Nat) {cA : ClassId} {n : Nat} {f : Nat → Int64} (ha : ws[q0]? = some (a, .inl (cA, n, .inr (.inl f)))) (ht : (tyx g)[t0]? = some (cA, .long)) {i : Int32} {x : Int64} (hin : vp_in i n) (hdg : decode cc pc = .ok (.lastore, 1)) (hws : ws.set q0 (a, .inl (cA, n, .inr (.inl (vp_updL f i.toNatClampNeg x)))) = ws')
    (kk : ∀ (H1 : Heap) (locs1 : List Loc), ww g A s ws' H1 locs1 → W p l e R s m args below meth c H1 locs1 cells slots Q (F0 m (pc + 1) ls rest)) : W p l e R s m args below meth c H locs cells slots Q (F0 m pc ls (.long x :: .int i :: .ref a :: rest)) :=
  va_last C0.x C0.b C0.K hW.1 hW.2.1 hW.2.2 q0 t0 ha ht hin hdg (fun H1 l1 h1 h2 h3 => kk H1 l1 (hws ▸ ⟨h1, h2, h3⟩))
/-- the static tables -/
theorem x_name (C0 : bx g p s m meth c args cc maxL ret y Ts A) (hW : ww g A s ws H locs) {index : Nat} {host : String} (hlink : (y.cls, index, "SnapHouse", "NAME", "[I", host) ∈ nw_F) (hdg : decode cc pc = .ok (.getstatic index, 3))
    (kk : W p l e R s m args below meth c H locs cells slots Q (F0 m (pc + 3) ls (.ref g.2.2.1 :: rest))) : W p l e R s m args below meth c H locs cells slots Q (F0 m pc ls rest) :=
  va_getsN C0.x C0.b C0.Z.2.1 hW.2.2 C0.own (va_Nw.use rfl (C0.Z.1.1 _ hlink)) (fun _ h => h) hdg kk
theorem x_crct (C0 : bx g p s m meth c args cc maxL ret y Ts A) (hW : ww g A s ws H locs) {index : Nat} (hlink : Cond.fieldLink y.cls index "SnapHouse$Bytes" "CRC_STEPS" "[I" ∈ Ts) (hdg : decode cc pc = .ok (.getstatic index, 3))
    (kk : W p l e R s m args below meth c H locs cells slots Q (F0 m (pc + 3) ls (.ref g.2.2.2 :: rest))) : W p l e R s m args below meth c H locs cells slots Q (F0 m pc ls rest) :=
  va_gets C0.x C0.b C0.Z.2.2.2.1 hW.2.2 C0.own (C0.ts _ hlink) (fun _ h => h) hdg kk
theorem x_nameld (C0 : bx g p s m meth c args cc maxL ret y Ts A) (hW : ww g A s ws H locs) {i : Int32} (hin : vp_in i 6) (hdg : decode cc pc = .ok (.iaload, 1))
    (kk : W p l e R s m args below meth c H locs cells slots Q (F0 m (pc + 1) ls (.int (tb_N.getD i.toNatClampNeg 0) :: rest))) : W p l e R s m args below meth c H locs cells slots Q (F0 m pc ls (.int i :: .ref g.2.2.1 :: rest)) :=
  va_ti C0.x C0.b C0.Z.2.2.1 hW.2.2 hin rfl hdg kk
theorem x_crcld (C0 : bx g p s m meth c args cc maxL ret y Ts A) (hW : ww g A s ws H locs) {i : Int32} (hin : vp_in i 16) (hdg : decode cc pc = .ok (.iaload, 1))
    (kk : W p l e R s m args below meth c H locs cells slots Q (F0 m (pc + 1) ls (.int (tb_C.getD i.toNatClampNeg 0) :: rest))) : W p l e R s m args below meth c H locs cells slots Q (F0 m pc ls (.int i :: .ref g.2.2.2 :: rest)) :=
  va_ti C0.x C0.b C0.Z.2.2.2.2 hW.2.2 hin rfl hdg kk
theorem x_namelen (C0 : bx g p s m meth c args cc maxL ret y Ts A) (hW : ww g A s ws H locs) (hdg : decode cc pc = .ok (.arraylength, 1))
    (kk : W p l e R s m args below meth c H locs cells slots Q (F0 m (pc + 1) ls (.int (Int32.ofNat 6) :: rest))) : W p l e R s m args below meth c H locs cells slots Q (F0 m pc ls (.ref g.2.2.1 :: rest)) :=
  va_tlen C0.x C0.b C0.Z.2.2.1 hW.2.2 rfl hdg kk
theorem x_max (C0 : bx g p s m meth c args cc maxL ret y Ts A) (hls : ls.size = maxL) {index : Nat} (hlink : Cond.methodLink y.cls index Lib.Math.max.name ∈ Ts) (hstat : Cond.static Lib.Math.max.name ∈ Ts) (hini : Cond.initialized "java/lang/Math" ∈ Ts) (hcode : Cond.code Lib.Math.max.name Lib.Math.max.code 2 (some .int) ∈ Ts)
    (hframes : 1 ≤ R.frames) (hlocals : (rest.map fun v => v.category).sum + 13 ≤ R.locals) (hc : cells ≤ R.cells) (hs : slots ≤ R.slots) {x z : Int32} (hdg : decode cc pc = .ok (.invokestatic index, 3))
    (kk : W p l e R s m args below meth c H locs cells slots Q (F0 m (pc + 3) ls (.int (if x < z then z else x) :: rest))) : W p l e R s m args below meth c H locs cells slots Q (F0 m pc ls (.int z :: .int x :: rest)) :=
  va_mmax C0.x C0.b (C0.ml.trans hls.symm) C0.own (C0.ts _ hlink) (C0.ts _ hstat) (C0.ts _ hini) (C0.ts _ hcode) hframes hlocals hc hs hdg kk
theorem x_min (C0 : bx g p s m meth c args cc maxL ret y Ts A) (hls : ls.size = maxL) {index : Nat} (hlink : Cond.methodLink y.cls index Lib.Math.min.name ∈ Ts) (hstat : Cond.static Lib.Math.min.name ∈ Ts) (hini : Cond.initialized "java/lang/Math" ∈ Ts) (hcode : Cond.code Lib.Math.min.name Lib.Math.min.code 2 (some .int) ∈ Ts)
    (hframes : 1 ≤ R.frames) (hlocals : (rest.map fun v => v.category).sum + 13 ≤ R.locals) (hc : cells ≤ R.cells) (hs : slots ≤ R.slots) {x z : Int32} (hdg : decode cc pc = .ok (.invokestatic index, 3))
    (kk : W p l e R s m args below meth c H locs cells slots Q (F0 m (pc + 3) ls (.int (if z < x then z else x) :: rest))) : W p l e R s m args below meth c H locs cells slots Q (F0 m pc ls (.int z :: .int x :: rest)) :=
  va_mmin C0.x C0.b (C0.ml.trans hls.symm) C0.own (C0.ts _ hlink) (C0.ts _ hstat) (C0.ts _ hini) (C0.ts _ hcode) hframes hlocals hc hs hdg kk
theorem x_obj (C0 : bx g p s m meth c args cc maxL ret y Ts A) (hls : ls.size = maxL) {index : Nat} (hlink : Cond.methodLink y.cls index objectInit ∈ Ts) (hinst : Cond.instanceMethod objectInit ∈ Ts) (hcode : Cond.code objectInit ⟨#[0xb1]⟩ 1 none ∈ Ts) (hdg : decode cc pc = .ok (.invokespecial index, 3))
    (hframes : 1 ≤ R.frames) (hlocals : 2 * (F0 m pc ls (.ref a :: rest)).monitorRoom + (rest.map fun v => v.category).sum + 12 ≤ R.locals)
    (kk : W p l e R s m args below meth c H locs cells slots Q (F0 m (pc + 3) ls rest)) : W p l e R s m args below meth c H locs cells slots Q (F0 m pc ls (.ref a :: rest)) :=
  W.objInit C0.x C0.b C0.own (C0.ts _ hlink) (C0.ts _ hinst) (C0.ts _ hcode) rfl (hls.trans C0.ml.symm) rfl hdg hframes hlocals kk
/-- BEFORE A CALL: the callee's cells are cut out -/
theorem pcc_of {wc : va_W} {av : List Value} (C0 : bx g p s m meth c args cc maxL ret y Ts A) (hW : ww g A s ws H locs) (isC : List Nat) (hC : isC.map (fun i => ws[i]?) = wc.map some) (hn : va_nd isC = true) : PreS s H (pcc g av wc H.size) av := by
  have hP : va_P g.1 vwCl wc H := hW.1.sub isC (by
    have : (isC.map (fun i => ws[i]?)).filterMap id = wc := by rw [hC, List.filterMap_map]; simp
    rw [← this, List.filterMap_map]; rfl)
  have hD := hW.2.1.sub isC hn hC
  have hF := va_free hW.2.1 hW.2.2 C0.hA isC hC
  refine ⟨fun a U g' mk q => ?_, fun U hU hWU => ?_⟩
  · obtain ⟨q0, q1, qP, qK, qD, qZ⟩ := q
    exact ⟨q0, q1, qP, va_K.moved (u := U) (U := U.calling g' mk a) (Vm.Alike.refl U.vm) qK, qD, zz_same qZ rfl⟩
  · exact ⟨rfl, by rw [hU], by rw [hU]; exact hP, va_K.moved hWU.alike C0.K, hD.weaken (fun _ _ _ _ => trivial), by rw [hU]; exact zz_to C0.Z hWU (fun a h1 h2 => hW.2.2.2.1 a h1 h2) hF⟩
theorem pcv_of {wc : va_W} {b ci q0 : Nat} {fs : List Value} {As : List Value} {q : vw_C} (C0 : bx g p s m meth c args cc maxL ret y Ts A) (hW : ww g A s ws H locs) (isC : List Nat) (hC : isC.map (fun i => ws[i]?) = wc.map some) (hn : va_nd isC = true) (he : ws[q0]? = some (b, .inr (ci, fs))) (hc : vwCl[ci]? = some q) : PreV s H q.1 b (pcc g (.ref b :: As) wc H.size) As :=
  ⟨(pcc_of C0 hW isC hC hn).1, va_recv C0.K hW.1 hc he, (pcc_of (av := .ref b :: As) C0 hW isC hC hn).2⟩
/-- BEHIND A CALL: the callee's new world beside the rest, in the order that is wanted -/
theorem ww_join {wc w1 : va_W} {H1 : Heap} {locs1 : List Loc} (C0 : bx g p s m meth c args cc maxL ret y Ts A) (hW : ww g A s ws H locs) (isC isR isF : List Nat) (hC : isC.map (fun i => ws[i]?) = wc.map some) (hR : isR.map (fun i => ws[i]?) = (pick ws isR).map some) (hn : va_nd isR = true) (hdis : ∀ i ∈ isR, i ∉ isC)
    (hk : ∀ q : Nat, q < H.size → ¬ va_A wc H.size q → H1[q]? = H[q]?) (hP1 : va_P g.1 vwCl w1 H1) (hD1 : va_D (va_A wc H.size) w1) (hS : va_S A s.heap H1 locs1) (hF : isF.map (fun i => (pick ws isR ++ w1)[i]?) = ws'.map some) (hnF : va_nd isF = true) : ww g A s ws' H1 locs1 := by
  obtain ⟨hP, hD⟩ := va_join hW.1 hW.2.1 isC isR hC hR hn hdis hk (va_free hW.2.1 hW.2.2 C0.hA isC hC) hP1 hD1
  refine ⟨hP.sub isF (by
    have : (isF.map (fun i => (pick ws isR ++ w1)[i]?)).filterMap id = ws' := by rw [hF, List.filterMap_map]; simp
    rw [← this, List.filterMap_map]; rfl), hD.sub isF hnF hF, hS⟩
section Go
variable {wc wo : va_W} {mc ms : Nat} {st0 : List Value} {av : Array Value}
theorem go_i {r0 : Int32} (C0 : bx g p s m meth c args cc maxL ret y Ts A) (hW : ww g A s ws H locs) (isC isR isF : List Nat) (hr : va_Run p l e R s m args below meth c H locs cells slots mc ms (F0 m pc ls st0) rest (qcI g wc H.size r0 wo av) (va_A wc H.size))
    (hC : isC.map (fun i => ws[i]?) = wc.map some) (hR : isR.map (fun i => ws[i]?) = (pick ws isR).map some) (hn : va_nd isR = true) (hdis : ∀ i ∈ isR, i ∉ isC) (hF : isF.map (fun i => (pick ws isR ++ wo)[i]?) = ws'.map some) (hnF : va_nd isF = true)
    (kk : ∀ (H1 : Heap) (locs1 : List Loc), ww g A s ws' H1 locs1 → W p l e R s m args below meth c H1 locs1 (cells + mc) (slots + ms) Q (F0 m (pc + 3) ls (.int r0 :: rest))) : W p l e R s m args below meth c H locs cells slots Q (F0 m pc ls st0) := by
  have hFc := va_free hW.2.1 hW.2.2 C0.hA isC hC
  refine va_calli hr hW.2.2 (fun q _ h => hFc q h) hFc (fun r u t H1 locs1 ht hvm hw hB hz1 hk1 hS => ?_)
  obtain ⟨hP1, hK1, hD1⟩ := hB
  rw [ht] at hP1
  subst hw
  exact kk H1 locs1 (ww_join C0 hW isC isR isF hC hR hn hdis hk1 hP1 hD1 hS hF hnF)
theorem go_l {r0 : Int64} (C0 : bx g p s m meth c args cc maxL ret y Ts A) (hW : ww g A s ws H locs) (isC isR isF : List Nat) (hr : va_Run p l e R s m args below meth c H locs cells slots mc ms (F0 m pc ls st0) rest (qcL g wc H.size r0 wo av) (va_A wc H.size))
    (hC : isC.map (fun i => ws[i]?) = wc.map some) (hR : isR.map (fun i => ws[i]?) = (pick ws isR).map some) (hn : va_nd isR = true) (hdis : ∀ i ∈ isR, i ∉ isC) (hF : isF.map (fun i => (pick ws isR ++ wo)[i]?) = ws'.map some) (hnF : va_nd isF = true)
    (kk : ∀ (H1 : Heap) (locs1 : List Loc), ww g A s ws' H1 locs1 → W p l e R s m args below meth c H1 locs1 (cells + mc) (slots + ms) Q (F0 m (pc + 3) ls (.long r0 :: rest))) : W p l e R s m args below meth c H locs cells slots Q (F0 m pc ls st0) := by
  have hFc := va_free hW.2.1 hW.2.2 C0.hA isC hC
  refine va_calll hr hW.2.2 (fun q _ h => hFc q h) hFc (fun r u t H1 locs1 ht hvm hw hB hz1 hk1 hS => ?_)
  obtain ⟨hP1, hK1, hD1⟩ := hB
  rw [ht] at hP1
  subst hw
  exact kk H1 locs1 (ww_join C0 hW isC isR isF hC hR hn hdis hk1 hP1 hD1 hS hF hnF)
theorem go_v (C0 : bx g p s m meth c args cc maxL ret y Ts A) (hW : ww g A s ws H locs) (isC isR isF : List Nat) (hr : va_Run p l e R s m args below meth c H locs cells slots mc ms (F0 m pc ls st0) rest (qcV g wc H.size wo av) (va_A wc H.size))
    (hC : isC.map (fun i => ws[i]?) = wc.map some) (hR : isR.map (fun i => ws[i]?) = (pick ws isR).map some) (hn : va_nd isR = true) (hdis : ∀ i ∈ isR, i ∉ isC) (hF : isF.map (fun i => (pick ws isR ++ wo)[i]?) = ws'.map some) (hnF : va_nd isF = true)
    (kk : ∀ (H1 : Heap) (locs1 : List Loc), ww g A s ws' H1 locs1 → W p l e R s m args below meth c H1 locs1 (cells + mc) (slots + ms) Q (F0 m (pc + 3) ls rest)) : W p l e R s m args below meth c H locs cells slots Q (F0 m pc ls st0) := by
  have hFc := va_free hW.2.1 hW.2.2 C0.hA isC hC
  refine va_callv hr hW.2.2 (fun q _ h => hFc q h) hFc (fun u t H1 locs1 ht hvm hw hB hz1 hk1 hS => ?_)
  obtain ⟨hP1, hK1, hD1⟩ := hB
  rw [ht] at hP1
  exact kk H1 locs1 (ww_join C0 hW isC isR isF hC hR hn hdis hk1 hP1 hD1 hS hF hnF)
theorem go_n {S : Type} {wo : S → va_W} {wsn : S → va_W} (C0 : bx g p s m meth c args cc maxL ret y Ts A) (hW : ww g A s ws H locs) (isC isR isF : List Nat) (hr : va_Run p l e R s m args below meth c H locs cells slots mc ms (F0 m pc ls st0) rest (qcN g wc H.size wo av) (va_A wc H.size))
    (hC : isC.map (fun i => ws[i]?) = wc.map some) (hR : isR.map (fun i => ws[i]?) = (pick ws isR).map some) (hn : va_nd isR = true) (hdis : ∀ i ∈ isR, i ∉ isC) (hF : ∀ u, isF.map (fun i => (pick ws isR ++ wo u)[i]?) = (wsn u).map some) (hnF : va_nd isF = true)
    (kk : ∀ (u : S) (H1 : Heap) (locs1 : List Loc), ww g A s (wsn u) H1 locs1 → W p l e R s m args below meth c H1 locs1 (cells + mc) (slots + ms) Q (F0 m (pc + 3) ls rest)) : W p l e R s m args below meth c H locs cells slots Q (F0 m pc ls st0) := by
  have hFc := va_free hW.2.1 hW.2.2 C0.hA isC hC
  refine va_callv hr hW.2.2 (fun q _ h => hFc q h) hFc (fun u t H1 locs1 ht hvm hw hB hz1 hk1 hS => ?_)
  obtain ⟨hP1, hK1, hD1⟩ := hB
  rw [ht] at hP1
  exact kk u H1 locs1 (ww_join C0 hW isC isR isF hC hR hn hdis hk1 hP1 hD1 hS (hF u) hnF)
end Go
/-- A METHOD'S ENDS -/
theorem x_iret {wc wo : va_W} {r0 v : Int32} {ty : FieldType} (C0 : bx g p s m meth c args cc maxL (some ty) y Ts (va_A wc s.heap.size)) (hW : ww g (va_A wc s.heap.size) s wo H locs) (hn : narrow ty (.int v) = .int v) (hv : v = r0) (hdg : decode cc pc = .ok (.ireturn, 1)) :
    W p l e R s m args below meth c H locs cells slots (MQ below (qcI g wc s.heap.size r0 wo) args s cells slots (va_A wc s.heap.size)) (F0 m pc ls [.int v]) :=
  have hlk := C0.lk
  W.zret C0.x C0.b C0.r hn (fun t ht hWt => ⟨⟨v, (), rfl, hv, by rw [ht]; exact hW.1, va_K.moved hWt.alike C0.K, hW.2.1⟩, hW.2.2.F ht⟩) hW.2.2.2.2 hdg hlk
theorem x_lret {wc wo : va_W} {r0 v : Int64} (C0 : bx g p s m meth c args cc maxL (some .long) y Ts (va_A wc s.heap.size)) (hW : ww g (va_A wc s.heap.size) s wo H locs) (hv : v = r0) (hdg : decode cc pc = .ok (.lreturn, 1)) :
    W p l e R s m args below meth c H locs cells slots (MQ below (qcL g wc s.heap.size r0 wo) args s cells slots (va_A wc s.heap.size)) (F0 m pc ls [.long v]) :=
  have hlk := C0.lk
  W.lret C0.x C0.b C0.r (fun t ht hWt => ⟨⟨v, (), rfl, hv, by rw [ht]; exact hW.1, va_K.moved hWt.alike C0.K, hW.2.1⟩, hW.2.2.F ht⟩) hW.2.2.2.2 hdg hlk
theorem x_vret {wc wo : va_W} (C0 : bx g p s m meth c args cc maxL none y Ts (va_A wc s.heap.size)) (hW : ww g (va_A wc s.heap.size) s wo H locs) (hdg : decode cc pc = .ok (.return_, 1)) :
    W p l e R s m args below meth c H locs cells slots (MQ below (qcV g wc s.heap.size wo) args s cells slots (va_A wc s.heap.size)) (F0 m pc ls []) :=
  have hlk := C0.lk
  W.vret C0.x C0.b C0.r (fun t ht hWt => ⟨⟨(), rfl, trivial, by rw [ht]; exact hW.1, va_K.moved hWt.alike C0.K, hW.2.1⟩, hW.2.2.F ht⟩) hW.2.2.2.2 hdg hlk
theorem x_nret {wc : va_W} {S : Type} {wo : S → va_W} (u : S) (C0 : bx g p s m meth c args cc maxL none y Ts (va_A wc s.heap.size)) (hW : ww g (va_A wc s.heap.size) s (wo u) H locs) (hdg : decode cc pc = .ok (.return_, 1)) :
    W p l e R s m args below meth c H locs cells slots (MQ below (qcN g wc s.heap.size wo) args s cells slots (va_A wc s.heap.size)) (F0 m pc ls []) :=
  have hlk := C0.lk
  W.vret C0.x C0.b C0.r (fun t ht hWt => ⟨⟨u, rfl, trivial, by rw [ht]; exact hW.1, va_K.moved hWt.alike C0.K, hW.2.1⟩, hW.2.2.F ht⟩) hW.2.2.2.2 hdg hlk
end XC
/-- A METHOD'S START: any contract out of a walk of its body -/
theorem x_start {g : GX} {l : Launch} {y : MethodName} {wsy wsy' : List Cond} {rm : Room} {av : List Value} {wc : va_W} {cc : ByteArray} {maxL : Nat} {ret : Option FieldType} {Qc : Nat → Array Value → State → Outcome → State → Prop} {mc ms : Nat} (hy : plainName y.cls = true) (hw : wsy = Cond.code y cc maxL ret :: wsy') (hn : (lg_sl av).length ≤ maxL)
    (body : ∀ (p : Program) (e : Env) (s : State) (m : MethodId) (below : List Frame) (meth : Method) (c : Code) (ls : Array Slot), bx g p s m meth c av.toArray cc maxL ret y wsy (va_A wc s.heap.size) → ww g (va_A wc s.heap.size) s wc s.heap [] → lv_has ls maxL (lv_args 0 av) →
      W p l e rm s m av.toArray below meth c s.heap [] 0 0 (MQ below (Qc s.heap.size) av.toArray s mc ms (va_A wc s.heap.size)) (F0 m 0 ls [])) : ∀ sz : Nat, Met l y wsy rm (pcc g av wc sz) (Qc sz) mc ms (va_A wc sz) := by
  intro sz
  refine Met.ofW (cc := cc) (maxL := maxL) (ret := ret) hy hw ?_
  intro p e s m args below meth c s₁ B hml hv
  obtain ⟨rfl, hsz, hP, hK, hD0, hZ⟩ := hv
  subst hsz
  have hl := lv_entry av (n := maxL) hn
  rw [lg_entry_eq]
  generalize (lg_sl av ++ List.replicate (maxL - (lg_sl av).length) Slot.unset).toArray = ls at hl ⊢
  exact body p e s m below meth c ls ⟨B.exec, B.bytes, B.returns, hml, findClass_of_methodNamed B.named, atoms_spec (ws := wsy) B.pre, fun q h => Or.inr h, B.notSynchronized, hK, hZ, (name_of_methodNamed B.named B.method).1⟩ ⟨hP, hD0.self, va_S.rf⟩ hl
