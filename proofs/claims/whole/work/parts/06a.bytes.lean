/-! PURE ROWS 1: bytes as lists of numbers below 256; what an array holds of them (the class: the numbers; the reference: signed bytes). -/
def by_ (L : List Nat) : Prop := ∀ j : Nat, L.getD j 0 < 256
def rL (e : Nat → Int32) (c : Nat → Int32) (L : List Nat) : Prop := ∀ j : Nat, j < L.length → c j = e (L.getD j 0)
abbrev cL : (Nat → Int32) → List Nat → Prop := rL nI
abbrev mL : (Nat → Int32) → List Nat → Prop := rL sb_b
theorem gD_lt {L M : List Nat} {j : Nat} (h : j < L.length) : (L ++ M).getD j 0 = L.getD j 0 := by
  rw [List.getD_eq_getElem?_getD, List.getD_eq_getElem?_getD, List.getElem?_append_left h]
theorem gD_ge {L M : List Nat} {j : Nat} (h : L.length ≤ j) : (L ++ M).getD j 0 = M.getD (j - L.length) 0 := by
  rw [List.getD_eq_getElem?_getD, List.getD_eq_getElem?_getD, List.getElem?_append_right h]
theorem gD_out {L : List Nat} {j : Nat} (h : L.length ≤ j) : L.getD j 0 = 0 := by
  rw [List.getD_eq_getElem?_getD, List.getElem?_eq_none h]; rfl
theorem by_app {L M : List Nat} (h : by_ L) (h2 : by_ M) : by_ (L ++ M) := by
  intro j
  rcases Nat.lt_or_ge j L.length with q | q
  · rw [gD_lt q]; exact h j
  · rw [gD_ge q]; exact h2 _
theorem by_one {v : Nat} (hv : v < 256) : by_ [v] := by
  intro j
  cases j with
  | zero => exact hv
  | succ j => rw [gD_out (show 1 ≤ j + 1 by omega)]; decide
theorem by_nil : by_ [] := fun j => by rw [gD_out (Nat.zero_le _)]; decide
theorem by_cons {v : Nat} {L : List Nat} (hv : v < 256) (h : by_ L) : by_ (v :: L) := by_app (by_one hv) h
theorem rL_push {e : Nat → Int32} {c : Nat → Int32} {L : List Nat} {v : Nat} (h : rL e c L) : rL e (upd c L.length (e v)) (L ++ [v]) := by
  intro j hj
  have hj' : j < L.length + 1 := by simpa using hj
  rcases Nat.lt_or_ge j L.length with q | q
  · rw [pk_un (Nat.ne_of_lt q), gD_lt q]; exact h j q
  · have e1 : j = L.length := by omega
    subst e1
    rw [pk_us, gD_ge (Nat.le_refl _), Nat.sub_self]; rfl
theorem rL_nil {e : Nat → Int32} {c : Nat → Int32} : rL e c [] := fun j hj => absurd hj (Nat.not_lt_zero j)
theorem gD_set {L : List Nat} {i j v : Nat} (hi : i < L.length) : (L.set i v).getD j 0 = if j = i then v else L.getD j 0 := by
  rw [List.getD_eq_getElem?_getD, List.getD_eq_getElem?_getD, List.getElem?_set]
  by_cases h : i = j
  · subst h; simp [hi]
  · rw [if_neg h, if_neg (fun q => h q.symm)]
theorem rL_set {e : Nat → Int32} {c : Nat → Int32} {L : List Nat} {i v : Nat} (h : rL e c L) (hi : i < L.length) : rL e (upd c i (e v)) (L.set i v) := by
  intro j hj
  rw [gD_set hi]
  by_cases q : j = i
  · subst q; rw [pk_us, if_pos rfl]
  · rw [pk_un q, if_neg q]; exact h j (by simpa using hj)
theorem by_set {L : List Nat} {i v : Nat} (h : by_ L) (hi : i < L.length) (hv : v < 256) : by_ (L.set i v) := by
  intro j
  rw [gD_set hi]
  by_cases q : j = i
  · rw [if_pos q]; exact hv
  · rw [if_neg q]; exact h j
theorem gD_take {L : List Nat} {n j : Nat} (h : j < n) : (L.take n).getD j 0 = L.getD j 0 := by
  rw [List.getD_eq_getElem?_getD, List.getD_eq_getElem?_getD, List.getElem?_take, if_pos h]
theorem gD_drop {L : List Nat} {n j : Nat} : (L.drop n).getD j 0 = L.getD (n + j) 0 := by
  rw [List.getD_eq_getElem?_getD, List.getD_eq_getElem?_getD, List.getElem?_drop]
theorem rL_take {e : Nat → Int32} {c : Nat → Int32} {L : List Nat} {n : Nat} (h : rL e c L) : rL e c (L.take n) := by
  intro j hj
  have h1 : j < n ∧ j < L.length := by
    rw [List.length_take] at hj; omega
  rw [gD_take h1.1]; exact h j h1.2
theorem by_take {L : List Nat} {n : Nat} (h : by_ L) : by_ (L.take n) := by
  intro j
  rcases Nat.lt_or_ge j n with q | q
  · rw [gD_take q]; exact h j
  · rw [gD_out (by rw [List.length_take]; omega)]; decide
theorem by_drop {L : List Nat} {n : Nat} (h : by_ L) : by_ (L.drop n) := fun j => by rw [gD_drop]; exact h _
/-- the bytes n from place i on -/
def seg (L : List Nat) (i n : Nat) : List Nat := (L.drop i).take n
theorem by_seg {L : List Nat} {i n : Nat} (h : by_ L) : by_ (seg L i n) := by_take (by_drop h)
theorem seg_len {L : List Nat} {i n : Nat} (h : i + n ≤ L.length) : (seg L i n).length = n := by
  unfold seg; rw [List.length_take, List.length_drop]; omega
theorem seg_get {L : List Nat} {i n j : Nat} (h : j < n) : (seg L i n).getD j 0 = L.getD (i + j) 0 := by
  unfold seg; rw [gD_take h, gD_drop]
theorem seg_all (L : List Nat) : seg L 0 L.length = L := by
  unfold seg; rw [List.drop_zero, List.take_length]
theorem seg_0 (L : List Nat) (i : Nat) : seg L i 0 = [] := by
  unfold seg; rw [List.take_zero]
theorem ext_gD {L M : List Nat} (hl : L.length = M.length) (h : ∀ j, j < L.length → L.getD j 0 = M.getD j 0) : L = M := by
  apply List.ext_getElem? 
  intro i
  rcases Nat.lt_or_ge i L.length with q | q
  · have h1 := h i q
    rw [List.getD_eq_getElem?_getD, List.getD_eq_getElem?_getD] at h1
    rw [List.getElem?_eq_getElem q, List.getElem?_eq_getElem (hl ▸ q)] at h1 ⊢
    simpa using h1
  · rw [List.getElem?_eq_none q, List.getElem?_eq_none (hl ▸ q)]
theorem seg_succ {L : List Nat} {i n : Nat} (h : i + n < L.length) : seg L i (n + 1) = seg L i n ++ [L.getD (i + n) 0] := by
  apply ext_gD
  · rw [seg_len (by omega), List.length_append, seg_len (by omega)]; rfl
  · intro j hj
    rw [seg_len (by omega)] at hj
    rw [seg_get hj]
    rcases Nat.lt_or_ge j n with q | q
    · rw [gD_lt (by rw [seg_len (by omega)]; exact q), seg_get q]
    · have e1 : j = n := by omega
      subst e1
      rw [gD_ge (by rw [seg_len (by omega)]; exact Nat.le_refl _), seg_len (by omega), Nat.sub_self]; rfl
theorem seg_cons {L : List Nat} {i n : Nat} (h : i < L.length) : seg L i (n + 1) = L.getD i 0 :: seg L (i + 1) n := by
  unfold seg
  rw [List.drop_eq_getElem_cons h, List.take_succ_cons]
  congr 1
  rw [List.getD_eq_getElem?_getD, List.getElem?_eq_getElem h]; rfl
theorem rL_cpy {e : Nat → Int32} {a c : Nat → Int32} {L M : List Nat} {sp n : Nat} (ha : rL e a M) (hc : rL e c L) (h : sp + n ≤ M.length) : rL e (va_cpy a c sp L.length n) (L ++ seg M sp n) := by
  intro j hj
  rw [List.length_append, seg_len h] at hj
  rcases Nat.lt_or_ge j L.length with q | q
  · rw [pk_cpy_out (Or.inl q), gD_lt q]; exact hc j q
  · rw [pk_cpy_in q hj, gD_ge q, seg_get (by omega)]; exact ha _ (by omega)
/-- numbers -/
theorem nI_tn (x : Int32) : nI x.toBitVec.toNat = x := Int32.toBitVec_inj.mp (BitVec.eq_of_toNat_eq (pk_tn x.toBitVec.isLt))
theorem ck_n {α : Type} {i N : Nat} {k : Option α} (h : i < N) (hN : N < 2 ^ 31) : ck (nI i) N k = k := by
  unfold ck; rw [if_neg (nI_in h hN)]
theorem i8_eq {x y : Int32} (h : x.toInt % 256 = y.toInt % 256) : x.toInt8 = y.toInt8 := by
  apply Int8.toInt_inj.mp
  rw [Int32.toInt_toInt8, Int32.toInt_toInt8, Int.bmod_eq_emod, Int.bmod_eq_emod]
  have e : ((2 ^ 8 : Nat) : Int) = 256 := rfl
  rw [e, h]
theorem sb_of {x : Int32} {b : Nat} (hb : b < 256) (h : x.toInt % 256 = (b : Int)) : x.toInt8.toInt32 = sb_b b := by
  unfold sb_b
  rw [i8_eq (y := nI b) (by rw [h, nI_toInt (by omega)]; omega)]
theorem tI (w : Int32) : (w.toInt = (w.toBitVec.toNat : Int) ∨ w.toInt = (w.toBitVec.toNat : Int) - 4294967296) ∧ w.toBitVec.toNat < 4294967296 := by
  have h := BitVec.toInt_eq_toNat_cond w.toBitVec
  have h2 : w.toInt = w.toBitVec.toInt := rfl
  have h3 := w.toBitVec.isLt
  rw [← h2] at h
  refine ⟨?_, h3⟩
  split at h
  · exact Or.inl h
  · exact Or.inr (by rw [h]; rfl)
theorem sb_nI (v : Nat) : (nI v).toInt8.toInt32 = sb_b (v % 256) := by
  apply sb_of (Nat.mod_lt _ (by decide))
  obtain ⟨h, h2⟩ := tI (nI v)
  have e : (nI v).toBitVec.toNat = v % 4294967296 := rfl
  rw [e] at h
  rcases h with h | h <;> omega
theorem sb_var (x : Int32) : (vp_nar .byte (x.toInt8.toInt32)) = x.toInt8.toInt32 := pk_vb x
theorem sb_keep (b : Nat) : vp_nar .byte (sb_b b) = sb_b b := pk_vb (nI b)
theorem sb_and {b : Nat} (h : b < 256) : sb_b b &&& 255 = nI b := (sb_byte b h).1
theorem sb_inj {a b : Nat} (ha : a < 256) (hb : b < 256) : sb_b a = sb_b b ↔ a = b := by
  constructor
  · intro h
    have h1 := congrArg (fun z => z &&& (255 : Int32)) h
    simp only [sb_and ha, sb_and hb] at h1
    exact (nI_eq (by omega) (by omega)).mp h1
  · intro h; rw [h]
theorem sob {α β : Type} (a : α) (k : α → Option β) : (some a).bind k = k a := rfl
theorem i10 {α : Type} {a b : α} : (if (1 : Int32) = 0 then a else b) = b := if_neg (by decide)
theorem i00 {α : Type} {a b : α} : (if (0 : Int32) = 0 then a else b) = a := if_pos rfl
theorem put_ok (K : Nat) {n N : Nat} {c : Nat → Int32} {x : Int32} (h : n < N) (hN : N < 2 ^ 31) : f_X1_put K (nI n) N c x = some (nI (n + 1), upd c n x) := by
  unfold f_X1_put
  rw [if_neg (show ¬ (Int32.ofNat N ≤ nI n) from nI_ge h hN), ck_n h hN, nI_clamp (by omega), nI_1]
theorem w24 (w : Int32) : ushr w 24 = nI (w.toBitVec.toNat / 16777216) ∧ (ushr w 16 &&& 255) = nI (w.toBitVec.toNat / 65536 % 256) ∧ (ushr w 8 &&& 255) = nI (w.toBitVec.toNat / 256 % 256) ∧ (w &&& 255) = nI (w.toBitVec.toNat % 256) := by
  refine ⟨?_, ?_, ?_, ?_⟩
  · rw [← nI_tn (ushr w 24)]; unfold ushr; rw [pk_ushr w 24 24 (by decide)]
  · rw [pk_and _ 8 (by decide)]; unfold ushr; rw [pk_ushr w 16 16 (by decide)]
  · rw [pk_and _ 8 (by decide)]; unfold ushr; rw [pk_ushr w 8 8 (by decide)]
  · rw [pk_and _ 8 (by decide)]
theorem m24 (w : Int32) : (w >>> ((24 : Int32) &&& 31)).toInt8.toInt32 = sb_b (w.toBitVec.toNat / 16777216) ∧ (w >>> ((16 : Int32) &&& 31)).toInt8.toInt32 = sb_b (w.toBitVec.toNat / 65536 % 256) ∧ (w >>> ((8 : Int32) &&& 31)).toInt8.toInt32 = sb_b (w.toBitVec.toNat / 256 % 256) ∧ (w >>> ((0 : Int32) &&& 31)).toInt8.toInt32 = sb_b (w.toBitVec.toNat % 256) := by
  obtain ⟨h, h2⟩ := tI w
  refine ⟨?_, ?_, ?_, ?_⟩
  · apply sb_of (by omega)
    rw [pk_shr w _ 24 (by decide), Int.shiftRight_eq_div_pow]
    rcases h with h | h <;> rw [h] <;> (simp only [Nat.reducePow]; omega)
  · apply sb_of (by omega)
    rw [pk_shr w _ 16 (by decide), Int.shiftRight_eq_div_pow]
    rcases h with h | h <;> rw [h] <;> (simp only [Nat.reducePow]; omega)
  · apply sb_of (by omega)
    rw [pk_shr w _ 8 (by decide), Int.shiftRight_eq_div_pow]
    rcases h with h | h <;> rw [h] <;> (simp only [Nat.reducePow]; omega)
  · apply sb_of (by omega)
    rw [pk_shr w _ 0 (by decide), Int.shiftRight_eq_div_pow]
    rcases h with h | h <;> rw [h] <;> (simp only [Nat.reducePow]; omega)
/-- the four bytes of a number, the highest first -/
def w4 (w : Int32) : List Nat := [w.toBitVec.toNat / 16777216, w.toBitVec.toNat / 65536 % 256, w.toBitVec.toNat / 256 % 256, w.toBitVec.toNat % 256]
theorem by_w4 (w : Int32) : by_ (w4 w) := by
  have h2 := (tI w).2
  exact by_cons (by omega) (by_cons (by omega) (by_cons (by omega) (by_one (by omega))))
theorem app4 {L : List Nat} {a b c d : Nat} : L ++ [a, b, c, d] = L ++ [a] ++ [b] ++ [c] ++ [d] := by simp
theorem rL4 {e : Nat → Int32} {c : Nat → Int32} {L : List Nat} {v0 v1 v2 v3 : Nat} (h : rL e c L) : rL e (upd (upd (upd (upd c L.length (e v0)) (L.length + 1) (e v1)) (L.length + 2) (e v2)) (L.length + 3) (e v3)) (L ++ [v0, v1, v2, v3]) := by
  rw [app4]
  have h1 := rL_push (v := v0) h
  have h2 := rL_push (v := v1) h1
  have h3 := rL_push (v := v2) h2
  have h4 := rL_push (v := v3) h3
  simp only [List.length_append, List.length_cons, List.length_nil, Nat.add_assoc, Nat.reduceAdd] at h2 h3 h4
  exact h4
theorem putHigh (K : Nat) {N : Nat} {L : List Nat} {c : Nat → Int32} {w : Int32} (hc : cL c L) (h : L.length + 4 ≤ N) (hN : N < 2 ^ 31) : ∃ c', f_X1_putHighestFirst K (nI L.length) N c w = some (nI (L.length + 4), c') ∧ cL c' (L ++ w4 w) := by
  obtain ⟨e1, e2, e3, e4⟩ := w24 w
  refine ⟨_, ?_, rL4 hc⟩
  unfold f_X1_putHighestFirst
  rw [e1, e2, e3, e4, put_ok K (by omega) hN, sob, put_ok K (by omega) hN, sob, put_ok K (by omega) hN, sob, put_ok K (by omega) hN, sob]
theorem word_ok (K : Nat) (hK : 5 ≤ K) {N : Nat} {L : List Nat} {c : Nat → Int32} {w : Int32} (hc : mL c L) (h : L.length + 4 ≤ N) (hN : N < 2 ^ 31) : ∃ c', f_X7_word K (nI L.length) N c w = some (nI (L.length + 4), c') ∧ mL c' (L ++ w4 w) := by
  obtain ⟨e1, e2, e3, e4⟩ := m24 w
  obtain ⟨k, rfl⟩ : ∃ k, K = k + 5 := ⟨K - 5, by omega⟩
  refine ⟨_, ?_, rL4 hc⟩
  unfold f_X7_word
  rw [f_X7_word_b3, if_neg (show ¬ (24 : Int32) < 0 by decide), ck_n (by omega) hN, nI_clamp (by omega), nI_1, sb_var, e1, show ((24 : Int32) + (-8 : Int32)) = 16 from rfl,
    f_X7_word_b3, if_neg (show ¬ (16 : Int32) < 0 by decide), ck_n (by omega) hN, nI_clamp (by omega), nI_1, sb_var, e2, show ((16 : Int32) + (-8 : Int32)) = 8 from rfl,
    f_X7_word_b3, if_neg (show ¬ (8 : Int32) < 0 by decide), ck_n (by omega) hN, nI_clamp (by omega), nI_1, sb_var, e3, show ((8 : Int32) + (-8 : Int32)) = 0 from rfl,
    f_X7_word_b3, if_neg (show ¬ (0 : Int32) < 0 by decide), ck_n (by omega) hN, nI_clamp (by omega), nI_1, sb_var, e4, show ((0 : Int32) + (-8 : Int32)) = -8 from rfl,
    f_X7_word_b3, if_pos (show (-8 : Int32) < 0 by decide)]
/-- what the class's array and the reference's hold alike -/
def pair (c m : Nat → Int32) (L : List Nat) : Prop := by_ L ∧ cL c L ∧ mL m L
theorem room_0 (K : Nat) {n N : Nat} {x : Int32} (hn : n ≤ N) (hN : N < 2 ^ 30) (h : ¬ ∃ k, k ≤ N - n ∧ x = nI k) : f_X1_hasRoomFor K (nI n) N x = some 0 := by
  unfold f_X1_hasRoomFor
  by_cases h0 : x < 0
  · rw [if_pos h0]
  · rw [if_neg h0]
    obtain ⟨j, hj, rfl⟩ := nI_of h0
    rw [show Int32.ofNat N = nI N from rfl, pk_sub hn]
    rw [if_pos (nI_lt (Nat.lt_of_not_le fun q => h ⟨j, q, rfl⟩) hj)]
theorem room_1' (K : Nat) {n N k : Nat} (hn : n ≤ N) (hN : N < 2 ^ 30) (h : k ≤ N - n) : f_X1_hasRoomFor K (nI n) N (nI k) = some 1 := by
  unfold f_X1_hasRoomFor
  rw [if_neg (nI_pos (by omega)), show Int32.ofNat N = nI N from rfl, pk_sub hn, if_neg (nI_nlt h (by omega))]
/-- feed -/
theorem s_feed (K : Nat) (hK : 5 ≤ K) {L : List Nat} {c m : Nat → Int32} (hp : pair c m L) (hn : L.length ≤ 20000) (th p1 p2 p3 p4 p5 : Int32) : ∃ (r : Int32) (L' : List Nat) (c' m' : Nat → Int32), f_X6_feed K (nI L.length) 20000 c p1 p2 p3 p4 p5 = some (r, nI L'.length, c') ∧ f_X7_feed K (nI L.length) th 20000 m p1 p2 p3 p4 p5 = some (r, nI L'.length, 0, m') ∧ pair c' m' L' ∧ L'.length ≤ 20000 := by
  obtain ⟨hb, hc, hm⟩ := hp
  unfold f_X6_feed f_X7_feed
  have l4 : ∀ w, (w4 w).length = 4 := fun _ => rfl
  by_cases h : L.length + 20 ≤ 20000
  · rw [show (20 : Int32) = nI 20 from rfl, room_1' K hn (by decide) (by omega), sob, i10, nI_add, if_pos (show nI (L.length + 20) ≤ (20000 : Int32) from nI_le h (by decide))]
    obtain ⟨c1, f1, g1⟩ := putHigh K (w := p1) hc (N := 20000) (by omega) (by decide)
    obtain ⟨m1, f2, g2⟩ := word_ok K hK (w := p1) hm (N := 20000) (by omega) (by decide)
    obtain ⟨c2, f3, g3⟩ := putHigh K (w := p2) g1 (N := 20000) (by rw [List.length_append, l4]; omega) (by decide)
    obtain ⟨m2, f4, g4⟩ := word_ok K hK (w := p2) g2 (N := 20000) (by rw [List.length_append, l4]; omega) (by decide)
    obtain ⟨c3, f5, g5⟩ := putHigh K (w := p3) g3 (N := 20000) (by simp only [List.length_append, l4]; omega) (by decide)
    obtain ⟨m3, f6, g6⟩ := word_ok K hK (w := p3) g4 (N := 20000) (by simp only [List.length_append, l4]; omega) (by decide)
    obtain ⟨c4, f7, g7⟩ := putHigh K (w := p4) g5 (N := 20000) (by simp only [List.length_append, l4]; omega) (by decide)
    obtain ⟨m4, f8, g8⟩ := word_ok K hK (w := p4) g6 (N := 20000) (by simp only [List.length_append, l4]; omega) (by decide)
    obtain ⟨c5, f9, g9⟩ := putHigh K (w := p5) g7 (N := 20000) (by simp only [List.length_append, l4]; omega) (by decide)
    obtain ⟨m5, f10, g10⟩ := word_ok K hK (w := p5) g8 (N := 20000) (by simp only [List.length_append, l4]; omega) (by decide)
    simp only [List.length_append, l4] at f3 f4 f5 f6 f7 f8 f9 f10
    refine ⟨nI (L.length + 20), L ++ w4 p1 ++ w4 p2 ++ w4 p3 ++ w4 p4 ++ w4 p5, c5, m5, ?_, ?_, ⟨?_, g9, g10⟩, ?_⟩
    · rw [f1, sob, f3, sob, f5, sob, f7, sob, f9, sob]; simp only [List.length_append, l4, Nat.add_assoc, Nat.reduceAdd]
    · rw [f2, sob, f4, sob, f6, sob, f8, sob, f10, sob]; simp only [List.length_append, l4, Nat.add_assoc, Nat.reduceAdd]
    · exact by_app (by_app (by_app (by_app (by_app hb (by_w4 _)) (by_w4 _)) (by_w4 _)) (by_w4 _)) (by_w4 _)
    · simp only [List.length_append, l4]; omega
  · rw [room_0 K hn (by decide) (by
      rintro ⟨k, h1, h2⟩
      have := (nI_eq (a := 20) (b := k) (by decide) (by omega)).mp h2
      omega), sob, i00, show (20 : Int32) = nI 20 from rfl, nI_add, if_neg (show ¬ nI (L.length + 20) ≤ (20000 : Int32) from nI_ge (a := 20000) (b := L.length + 20) (by omega) (by omega))]
    exact ⟨_, L, _, _, rfl, rfl, ⟨hb, hc, hm⟩, hn⟩
theorem byte_1 (K : Nat) {b : Nat} (h : b < 256) : f_X6_isByte K (nI b) = some 1 := by
  unfold f_X6_isByte
  rw [if_neg (nI_pos (by omega)), if_neg (show ¬ (255 : Int32) < nI b from nI_nlt (a := 255) (b := b) (by omega) (by omega))]
theorem byte_0 (K : Nat) {x : Int32} (h : ¬ ∃ b, b < 256 ∧ x = nI b) : f_X6_isByte K x = some 0 := by
  unfold f_X6_isByte
  by_cases h0 : x < 0
  · rw [if_pos h0]
  · obtain ⟨j, hj, rfl⟩ := nI_of h0
    rw [if_neg h0, if_pos (show (255 : Int32) < nI j from nI_lt (a := 255) (Nat.lt_of_not_le fun q => h ⟨j, by omega, rfl⟩) hj)]
/-- fill's loops -/
theorem fill_c (K : Nat) {b k : Nat} (hk : k < 2 ^ 31) : ∀ (q i : Nat) (L : List Nat) (c : Nat → Int32), cL c L → i ≤ k → k - i < q → L.length + (k - i) ≤ 20000 → ∃ c', f_X6_fill_b22 K 20000 (nI b) (nI k) q (nI L.length) c (nI i) = some (nI (L.length + (k - i)), nI (L.length + (k - i)), c') ∧ cL c' (L ++ List.replicate (k - i) b) := by
  intro q
  induction q with
  | zero => intro i L c _ _ h; omega
  | succ q ih =>
    intro i L c hc hi hq hl
    rw [f_X6_fill_b22]
    rcases Nat.eq_or_lt_of_le hi with e | e
    · subst e
      rw [if_pos (nI_le (Nat.le_refl _) hk), Nat.sub_self]
      exact ⟨c, rfl, by simpa using hc⟩
    · rw [if_neg (nI_ge e hk), put_ok K (by omega) (by decide), sob, nI_1]
      have h1 := rL_push (v := b) hc
      obtain ⟨c', h2, h3⟩ := ih (i + 1) (L ++ [b]) _ h1 e (by omega) (by rw [List.length_append]; simp only [List.length_cons, List.length_nil]; omega)
      have e1 : (L ++ [b]).length = L.length + 1 := by simp
      have e2 : L.length + 1 + (k - (i + 1)) = L.length + (k - i) := by omega
      rw [e1, e2] at h2
      refine ⟨c', h2, ?_⟩
      have e3 : k - i = (k - (i + 1)) + 1 := by omega
      rw [e3, List.replicate_succ]
      rw [List.append_assoc] at h3
      exact h3
theorem fill_m (K : Nat) {b k : Nat} {th : Int32} (hb : b < 256) (hk : k < 2 ^ 31) : ∀ (q i : Nat) (L : List Nat) (c : Nat → Int32), mL c L → i ≤ k → k - i < q → L.length + (k - i) ≤ 20000 → ∃ c', f_X7_fill_b36 K 20000 (nI b) (nI k) q (nI L.length) th c (nI i) = some (nI (L.length + (k - i)), nI (L.length + (k - i)), th, c') ∧ mL c' (L ++ List.replicate (k - i) b) := by
  intro q
  induction q with
  | zero => intro i L c _ _ h; omega
  | succ q ih =>
    intro i L c hc hi hq hl
    rw [f_X7_fill_b36]
    rcases Nat.eq_or_lt_of_le hi with e | e
    · subst e
      rw [if_pos (nI_le (Nat.le_refl _) hk), Nat.sub_self]
      exact ⟨c, rfl, by simpa using hc⟩
    · rw [if_neg (nI_ge e hk), ck_n (show L.length < 20000 by omega) (by decide), nI_1, nI_1, sb_var, nI_clamp (by omega)]
      have h1 := rL_push (v := b) hc
      obtain ⟨c', h2, h3⟩ := ih (i + 1) (L ++ [b]) _ h1 e (by omega) (by rw [List.length_append]; simp only [List.length_cons, List.length_nil]; omega)
      have e1 : (L ++ [b]).length = L.length + 1 := by simp
      have e2 : L.length + 1 + (k - (i + 1)) = L.length + (k - i) := by omega
      rw [e1, e2] at h2
      refine ⟨c', h2, ?_⟩
      have e3 : k - i = (k - (i + 1)) + 1 := by omega
      rw [e3, List.replicate_succ]
      rw [List.append_assoc] at h3
      exact h3
theorem by_rep {b : Nat} (hb : b < 256) : ∀ k, by_ (List.replicate k b)
  | 0 => by_nil
  | k + 1 => by rw [List.replicate_succ]; exact by_cons hb (by_rep hb k)
/-- is an int one of the numbers 0 .. n -/
theorem in_or (x : Int32) (n : Nat) (hn : n + 1 < 2 ^ 31) : (∃ k, k ≤ n ∧ x = nI k) ∨ ((x < 0 ∨ ∃ k, n < k ∧ k < 2 ^ 31 ∧ x = nI k) ∧ ¬ ∃ k, k ≤ n ∧ x = nI k) := by
  by_cases h0 : x < 0
  · refine Or.inr ⟨Or.inl h0, ?_⟩
    rintro ⟨k, hk, rfl⟩
    exact nI_pos (by omega) h0
  · obtain ⟨j, hj, rfl⟩ := nI_of h0
    rcases Nat.lt_or_ge n j with h | h
    · refine Or.inr ⟨Or.inr ⟨j, h, hj, rfl⟩, ?_⟩
      rintro ⟨k, hk, e⟩
      have := (nI_eq hj (by omega)).mp e
      omega
    · exact Or.inl ⟨j, h, rfl⟩
theorem sub20 {n : Nat} (h : n ≤ 20000) : (20000 : Int32) - nI n = nI (20000 - n) := pk_sub h
theorem s_fill (K : Nat) (hK : 20001 < K) {L : List Nat} {c m : Nat → Int32} (hp : pair c m L) (hn : L.length ≤ 20000) (th p1 p2 : Int32) : ∃ (r : Int32) (L' : List Nat) (c' m' : Nat → Int32), f_X6_fill K (nI L.length) 20000 c p1 p2 = some (r, nI L'.length, c') ∧ f_X7_fill K (nI L.length) th 20000 m p1 p2 = some (r, nI L'.length, 0, m') ∧ pair c' m' L' ∧ L'.length ≤ 20000 := by
  obtain ⟨hb, hc, hm⟩ := id hp
  unfold f_X6_fill f_X7_fill
  rcases in_or p1 255 (by decide) with ⟨b, hb1, rfl⟩ | ⟨h1, h2⟩
  · rw [byte_1 K (by omega), sob, i10, if_neg (nI_pos (by omega)), if_neg (show ¬ (255 : Int32) < nI b from nI_nlt (a := 255) (b := b) (by omega) (by omega))]
    rcases in_or p2 (20000 - L.length) (by omega) with ⟨k, hk, rfl⟩ | ⟨h1, h2⟩
    · rw [room_1' K hn (by decide) hk, sob, i10, if_neg (nI_pos (by omega)), sub20 hn, if_pos (nI_le hk (by omega))]
      obtain ⟨c', f1, g1⟩ := fill_c K (b := b) (k := k) (by omega) K 0 L c hc (Nat.zero_le _) (by omega) (by omega)
      obtain ⟨m', f2, g2⟩ := fill_m K (b := b) (k := k) (th := 0) (by omega) (by omega) K 0 L m hm (Nat.zero_le _) (by omega) (by omega)
      rw [Nat.sub_zero] at f1 f2 g1 g2
      have e : (L ++ List.replicate k b).length = L.length + k := by simp
      exact ⟨_, _, c', m', by rw [e]; exact f1, by rw [e]; exact f2, ⟨by_app hb (by_rep (by omega) k), g1, g2⟩, by rw [e]; omega⟩
    · rw [room_0 K hn (by decide) h2, sob, i00]
      refine ⟨_, L, _, m, rfl, ?_, hp, hn⟩
      rcases h1 with h1 | ⟨k, h3, h4, rfl⟩
      · rw [if_pos h1]
      · rw [if_neg (nI_pos h4), sub20 hn, if_neg (nI_ge h3 h4)]
  · rw [byte_0 K (by rintro ⟨b, q, e⟩; exact h2 ⟨b, by omega, e⟩), sob, i00]
    refine ⟨_, L, _, m, rfl, ?_, hp, hn⟩
    rcases h1 with h1 | ⟨k, h3, h4, rfl⟩
    · rw [if_pos h1]
    · rw [if_neg (nI_pos h4), if_pos (show (255 : Int32) < nI k from nI_lt (a := 255) h3 h4)]
