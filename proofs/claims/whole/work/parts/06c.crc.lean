/-! PURE ROWS 3: the CRC. First the rows on an int by its bits, out of kit/laws/BITS.to-paste. -/
def bt (x : Int32) (i : Nat) : Bool := x.toBitVec.getLsbD i
theorem b_ext {x y : Int32} (h : ∀ i, i < 32 → bt x i = bt y i) : x = y := Int32.toBitVec_inj.mp (BitVec.eq_of_getLsbD_eq (fun i hi => h i hi))
theorem b_or (x y : Int32) (i : Nat) : bt (x ||| y) i = (bt x i || bt y i) := by unfold bt; rw [Int32.toBitVec_or, BitVec.getLsbD_or]
theorem b_and (x y : Int32) (i : Nat) : bt (x &&& y) i = (bt x i && bt y i) := by unfold bt; rw [Int32.toBitVec_and, BitVec.getLsbD_and]
theorem b_xor (x y : Int32) (i : Nat) : bt (x ^^^ y) i = (bt x i ^^ bt y i) := by unfold bt; rw [Int32.toBitVec_xor, BitVec.getLsbD_xor]
theorem b_big {x : Int32} {i : Nat} (h : 32 ≤ i) : bt x i = false := BitVec.getLsbD_of_ge _ _ h
theorem b_255 (i : Nat) : bt 255 i = decide (i < 8) := by
  rcases Nat.lt_or_ge i 32 with h | h
  · exact (by decide +kernel : ∀ i, i < 32 → bt 255 i = decide (i < 8)) i h
  · rw [b_big h, decide_eq_false (by omega)]
theorem b_65535 (i : Nat) : bt 65535 i = decide (i < 16) := by
  rcases Nat.lt_or_ge i 32 with h | h
  · exact (by decide +kernel : ∀ i, i < 32 → bt 65535 i = decide (i < 16)) i h
  · rw [b_big h, decide_eq_false (by omega)]
theorem b_m1 : ∀ i, i < 32 → bt (-1) i = true := by decide +kernel
theorem b_0 (i : Nat) : bt 0 i = false := BitVec.getLsbD_zero
theorem s_l : ∀ n, n < 32 → ((nI n &&& 31).toBitVec.smod 32).toNat = n := by decide +kernel
theorem s_u : ∀ n, n < 32 → (((nI n).toUInt32 &&& Int32.toUInt32 31).toBitVec % 32).toNat = n := by decide +kernel
theorem b_shl (n : Nat) (hn : n < 32) (x : Int32) {i : Nat} (hi : i < 32) : bt (x <<< (nI n &&& 31)) i = (decide (n ≤ i) && bt x (i - n)) := by
  unfold bt
  rw [Int32.toBitVec_shiftLeft]
  show (x.toBitVec <<< ((nI n &&& 31).toBitVec.smod 32).toNat).getLsbD i = _
  rw [s_l n hn, BitVec.getLsbD_shiftLeft]
  rcases Nat.lt_or_ge i n with h | h
  · simp [h, Nat.not_le.mpr h]
  · simp [hi, h, Nat.not_lt.mpr h]
theorem b_ushr (n : Nat) (hn : n < 32) (x : Int32) (i : Nat) : bt ((x.toUInt32 >>> ((nI n).toUInt32 &&& Int32.toUInt32 31)).toInt32) i = bt x (n + i) := by
  show (x.toUInt32 >>> ((nI n).toUInt32 &&& Int32.toUInt32 31)).toBitVec.getLsbD i = x.toUInt32.toBitVec.getLsbD (n + i)
  rw [UInt32.toBitVec_shiftRight]
  show (x.toUInt32.toBitVec >>> (((nI n).toUInt32 &&& Int32.toUInt32 31).toBitVec % 32).toNat).getLsbD i = _
  rw [s_u n hn, BitVec.getLsbD_ushiftRight]
theorem b_sshr (n : Nat) (hn : n < 32) (x : Int32) {i : Nat} (hi : i < 32) : bt (x >>> (nI n &&& 31)) i = if n + i < 32 then bt x (n + i) else bt x 31 := by
  unfold bt
  rw [Int32.toBitVec_shiftRight]
  show (x.toBitVec.sshiftRight ((nI n &&& 31).toBitVec.smod 32).toNat).getLsbD i = _
  rw [s_l n hn, BitVec.getLsbD_sshiftRight, BitVec.msb_eq_getLsbD_last]
  simp [hi]
theorem b_shl8 (x : Int32) {i : Nat} (hi : i < 32) : bt (x <<< ((8 : Int32) &&& 31)) i = (decide (8 ≤ i) && bt x (i - 8)) := b_shl 8 (by omega) x hi
theorem b_shl16 (x : Int32) {i : Nat} (hi : i < 32) : bt (x <<< ((16 : Int32) &&& 31)) i = (decide (16 ≤ i) && bt x (i - 16)) := b_shl 16 (by omega) x hi
theorem b_shl24 (x : Int32) {i : Nat} (hi : i < 32) : bt (x <<< ((24 : Int32) &&& 31)) i = (decide (24 ≤ i) && bt x (i - 24)) := b_shl 24 (by omega) x hi
theorem b_sshr8 (x : Int32) {i : Nat} (hi : i < 32) : bt (x >>> ((8 : Int32) &&& 31)) i = if 8 + i < 32 then bt x (8 + i) else bt x 31 := b_sshr 8 (by omega) x hi
theorem b_us (n : Nat) (hn : n < 32) (x : Int32) (i : Nat) : bt (ushr x (nI n)) i = bt x (n + i) := b_ushr n hn x i
/-- one bit's step of the CRC-32C, the lowest bit first -/
def st1 (x : Int32) : Int32 := if x &&& 1 = 1 then ushr x 1 ^^^ (-2097792136) else ushr x 1
def st : Nat → Int32 → Int32
  | 0, x => x
  | n + 1, x => st n (st1 x)
theorem b_one (i : Nat) : bt 1 i = decide (i = 0) := by
  rcases Nat.lt_or_ge i 32 with h | h
  · exact (by decide +kernel : ∀ i, i < 32 → bt 1 i = decide (i = 0)) i h
  · rw [b_big h, decide_eq_false (by omega)]
theorem and1 (x : Int32) : x &&& 1 = if bt x 0 = true then 1 else 0 := by
  apply b_ext
  intro i hi
  rw [b_and, b_one]
  by_cases h : i = 0
  · subst h
    cases hb : bt x 0 <;> simp [b_0, b_one]
  · cases hb : bt x 0 <;> simp [b_0, b_one, h]
theorem st1_eq (x : Int32) : st1 x = ushr x 1 ^^^ (if bt x 0 = true then -2097792136 else 0) := by
  unfold st1
  rw [and1]
  cases hb : bt x 0
  · simp
  · simp
theorem ushr_xor (x y : Int32) {n : Nat} (hn : n < 32) : ushr (x ^^^ y) (nI n) = ushr x (nI n) ^^^ ushr y (nI n) := by
  apply b_ext
  intro i hi
  rw [b_us n hn, b_xor, b_xor, b_us n hn, b_us n hn]
theorem st1_lin (x y : Int32) : st1 (x ^^^ y) = st1 x ^^^ st1 y := by
  rw [st1_eq, st1_eq, st1_eq, show (1 : Int32) = nI 1 from rfl, ushr_xor x y (by omega), b_xor]
  apply b_ext
  intro i hi
  simp only [b_xor]
  cases hx : bt x 0 <;> cases hy : bt y 0 <;> simp [b_xor, b_0] <;> cases bt (ushr x (nI 1)) i <;> cases bt (ushr y (nI 1)) i <;> cases bt (-2097792136) i <;> rfl
theorem st_lin : ∀ (n : Nat) (x y : Int32), st n (x ^^^ y) = st n x ^^^ st n y
  | 0, _, _ => rfl
  | n + 1, x, y => by rw [st, st, st, st1_lin, st_lin n]
theorem st_add : ∀ (n k : Nat) (x : Int32), st k (st n x) = st (n + k) x
  | 0, k, x => by rw [Nat.zero_add]; rfl
  | n + 1, k, x => by rw [st, st_add n k, Nat.add_right_comm]; rfl
theorem st_hi : ∀ (n : Nat) (x : Int32), n < 32 → (∀ i, i < n → bt x i = false) → st n x = ushr x (nI n)
  | 0, x, _, _ => by
    apply b_ext
    intro i hi
    rw [b_us 0 (by omega), Nat.zero_add]; rfl
  | n + 1, x, hn, h => by
    have e1 : st1 x = ushr x (nI 1) := by
      rw [st1_eq, h 0 (by omega)]
      apply b_ext; intro i hi; rw [b_xor]; simp [b_0]; rfl
    rw [st, e1, st_hi n _ (by omega) (fun i hi => by rw [b_us 1 (by omega)]; exact h (1 + i) (by omega))]
    apply b_ext
    intro i hi
    rw [b_us n (by omega), b_us 1 (by omega), b_us (n + 1) hn]
    congr 1; omega
theorem xor_0 (x : Int32) : x ^^^ 0 = x := by
  apply b_ext; intro i hi; rw [b_xor, b_0]; simp
/-- n steps: the n lowest bits by a table, the others shifted -/
theorem st_tab {n : Nat} {mk : Int32} (hn : n < 32) (hm : ∀ i, i < 32 → bt mk i = decide (i < n)) (x : Int32) : st n x = ushr x (nI n) ^^^ st n (x &&& mk) := by
  have e1 : x = (x ^^^ (x &&& mk)) ^^^ (x &&& mk) := by
    apply b_ext; intro i hi
    rw [b_xor, b_xor]
    cases bt x i <;> cases bt (x &&& mk) i <;> rfl
  have e2 : st n (x ^^^ (x &&& mk)) = ushr x (nI n) := by
    rw [st_hi n _ hn (fun i hi => by
      rw [b_xor, b_and, hm i (by omega), decide_eq_true hi]
      cases bt x i <;> rfl)]
    apply b_ext; intro i hi
    rw [b_us n hn, b_us n hn, b_xor, b_and]
    rcases Nat.lt_or_ge (n + i) 32 with q | q
    · rw [hm _ q, decide_eq_false (by omega)]; cases bt x (n + i) <;> rfl
    · rw [b_big q, b_big q]; rfl
  conv => lhs; rw [e1]
  rw [st_lin, e2]
theorem tb_C_ok : ∀ j, j < 16 → tb_C.getD j 0 = st 4 (nI j) := by decide +kernel
theorem xor_c (x y : Int32) : x ^^^ y = y ^^^ x := Int32.xor_comm x y
theorem and15 (x : Int32) : ∃ j, j < 16 ∧ x &&& 15 = nI j := pk_andE x 4 (by decide)
theorem nib_ok (x : Int32) : ushr x 4 ^^^ tb_C.getD (x &&& 15).toNatClampNeg 0 = st 4 x := by
  obtain ⟨j, hj, e⟩ := and15 x
  rw [st_tab (n := 4) (mk := 15) (by omega) (by decide +kernel) x, e, nI_clamp (by omega), tb_C_ok j hj]
  rfl
/-- the CRC's register behind some bytes -/
def crcS : Int32 → List Nat → Int32
  | x, [] => x
  | x, b :: M => crcS (st 8 (x ^^^ nI b)) M
theorem crc_c (K : Nat) {i k N : Nat} {L : List Nat} {c : Nat → Int32} {cn : Int32} (hc : cL c L) (hl : L.length ≤ N) (hN : N < 2 ^ 30) (hik : i + k ≤ L.length) : ∀ (q j : Nat) (x : Int32), j ≤ k → k - j < q → f_X1_crc_b16 K cn N c (nI i) (nI k) q x (nI j) = some (crcS x (seg L (i + j) (k - j)) ^^^ (-1)) := by
  intro q
  induction q with
  | zero => intro j x _ h; omega
  | succ q ih =>
    intro j x hj hq
    rw [f_X1_crc_b16]
    rcases Nat.eq_or_lt_of_le hj with e | e
    · subst e
      rw [if_pos (nI_le (Nat.le_refl _) (by omega)), Nat.sub_self, seg_0]; rfl
    · have e3 : k - j = (k - (j + 1)) + 1 := by omega
      rw [if_neg (nI_ge e (by omega)), nI_add, ck_n (by omega) (by omega), nI_clamp (by omega), hc (i + j) (by omega), e3, seg_cons (by omega), crcS]
      obtain ⟨a, ha, ea⟩ := and15 (x ^^^ nI (L.getD (i + j) 0))
      rw [show ck ((x ^^^ nI (L.getD (i + j) 0)) &&& 15) 16 = ck (nI a) 16 by rw [ea], ck_n ha (by decide), nib_ok]
      obtain ⟨b, hb, eb⟩ := and15 (st 4 (x ^^^ nI (L.getD (i + j) 0)))
      rw [show ck ((st 4 (x ^^^ nI (L.getD (i + j) 0))) &&& 15) 16 = ck (nI b) 16 by rw [eb], ck_n hb (by decide), nib_ok, st_add, nI_1, ih (j + 1) _ e (by omega)]
      rfl
theorem crc_ok (K : Nat) (hK : 24001 < K) {i k N : Nat} {L : List Nat} {c : Nat → Int32} (hc : cL c L) (hl : L.length ≤ N) (hN : N ≤ 24000) (hik : i + k ≤ L.length) : f_X1_crc K (nI L.length) N c (nI i) (nI k) = some (crcS (-1) (seg L i k) ^^^ (-1)) := by
  unfold f_X1_crc
  rw [has_1 K hik (by omega), sob, i10]
  exact crc_c K hc hl (by omega) hik K 0 (-1) (Nat.zero_le _) (by omega)
def msk (c : Int32) : Int32 := (ushr c 15 ||| (c <<< ((17 : Int32) &&& 31))) + (-1568478504)
theorem rot_eq (c : Int32) : (c <<< ((17 : Int32) &&& 31)) ||| ushr c (-17) = ushr c 15 ||| (c <<< ((17 : Int32) &&& 31)) := by
  have e : ushr c (-17) = ushr c 15 := rfl
  rw [e, Int32.or_comm]
theorem mcrc_ok (K : Nat) (hK : 24001 < K) {i k N : Nat} {L : List Nat} {c : Nat → Int32} (hc : cL c L) (hl : L.length ≤ N) (hN : N ≤ 24000) (hik : i + k ≤ L.length) : f_X1_maskedCrc K (nI L.length) N c (nI i) (nI k) = some (msk (crcS (-1) (seg L i k) ^^^ (-1))) := by
  unfold f_X1_maskedCrc f_J6_rotateLeft_7cf53
  rw [crc_ok K hK hc hl hN hik, sob, sob]
  unfold msk
  rw [show (-(17 : Int32)) = -17 from rfl, rot_eq]
/-- the reference's table -/
def smt (t : Nat → Int32) : Prop := ∀ j, j < 256 → t j = st 8 (nI j)
theorem and_xor (x y m : Int32) : (x ^^^ y) &&& m = (x &&& m) ^^^ (y &&& m) := by
  apply b_ext; intro i hi
  rw [b_and, b_xor, b_xor, b_and, b_and]
  cases bt x i <;> cases bt y i <;> cases bt m i <;> rfl
theorem nI_hi {b : Nat} (hb : b < 256) {i : Nat} (hi : 8 ≤ i) : bt (nI b) i = false := by
  unfold bt
  rw [BitVec.getLsbD, pk_tn (by omega)]
  exact Nat.testBit_lt_two_pow (Nat.lt_of_lt_of_le hb (by
    have : 2 ^ 8 ≤ 2 ^ i := Nat.pow_le_pow_right (by decide) hi
    omega))
theorem nI_255 {b : Nat} (hb : b < 256) : nI b &&& 255 = nI b := by
  rw [pk_andN (by omega) 8 (by decide), Nat.mod_eq_of_lt hb]
theorem sum_step {t : Nat → Int32} (ht : smt t) (x : Int32) {b : Nat} (hb : b < 256) : t ((x ^^^ sb_b b) &&& 255).toNatClampNeg ^^^ ushr x 8 = st 8 (x ^^^ nI b) ∧ ∃ j, j < 256 ∧ (x ^^^ sb_b b) &&& 255 = nI j := by
  have e1 : (x ^^^ sb_b b) &&& 255 = (x ^^^ nI b) &&& 255 := by
    rw [and_xor, and_xor, sb_and hb, nI_255 hb]
  obtain ⟨j, hj, ej⟩ := pk_andE (x ^^^ nI b) (m := 255) 8 (by decide)
  refine ⟨?_, j, hj, e1.trans ej⟩
  rw [e1, ej, nI_clamp (by omega), ht j hj, st_tab (n := 8) (mk := 255) (by omega) (fun i _ => b_255 i) (x ^^^ nI b), ej, xor_c]
  congr 1
  apply b_ext; intro i hi
  rw [show (8 : Int32) = nI 8 from rfl, b_us 8 (by omega), b_us 8 (by omega), b_xor, nI_hi hb (by omega)]
  simp
theorem sum_t (K : Nat) {e N : Nat} {L : List Nat} {c t : Nat → Int32} {x2 : Int32} (hc : mL c L) (hb : by_ L) (ht : smt t) (hl : L.length ≤ N) (hN : N < 2 ^ 30) (he : e ≤ L.length) : ∀ (q j : Nat) (x : Int32), j ≤ e → e - j < q → f_X7_sumOf_o_tape_b6 K N c 256 t x2 (nI e) q x (nI j) = some (crcS x (seg L j (e - j)) ^^^ (-1)) := by
  intro q
  induction q with
  | zero => intro j x _ h; omega
  | succ q ih =>
    intro j x hj hq
    rw [f_X7_sumOf_o_tape_b6]
    rcases Nat.eq_or_lt_of_le hj with h | h
    · subst h
      rw [if_pos (nI_le (Nat.le_refl _) (by omega)), Nat.sub_self, seg_0]; rfl
    · have e3 : e - j = (e - (j + 1)) + 1 := by omega
      obtain ⟨s1, a, ha, ea⟩ := sum_step ht x (hb j)
      rw [if_neg (nI_ge h (by omega)), ck_n (by omega) (by omega), nI_clamp (by omega), hc j (by omega), s1, e3, seg_cons (by omega), crcS, ea, ck_n ha (by decide), nI_1, ih (j + 1) _ h (by omega)]
theorem sum_d (K : Nat) {e N : Nat} {L : List Nat} {c t : Nat → Int32} {x2 : Int32} (hc : mL c L) (hb : by_ L) (ht : smt t) (hl : L.length ≤ N) (hN : N < 2 ^ 30) (he : e ≤ L.length) : ∀ (q j : Nat) (x : Int32), j ≤ e → e - j < q → f_X7_sumOf_o_made_b6 K N c 256 t x2 (nI e) q x (nI j) = some (crcS x (seg L j (e - j)) ^^^ (-1)) := by
  intro q
  induction q with
  | zero => intro j x _ h; omega
  | succ q ih =>
    intro j x hj hq
    rw [f_X7_sumOf_o_made_b6]
    rcases Nat.eq_or_lt_of_le hj with h | h
    · subst h
      rw [if_pos (nI_le (Nat.le_refl _) (by omega)), Nat.sub_self, seg_0]; rfl
    · have e3 : e - j = (e - (j + 1)) + 1 := by omega
      obtain ⟨s1, a, ha, ea⟩ := sum_step ht x (hb j)
      rw [if_neg (nI_ge h (by omega)), ck_n (by omega) (by omega), nI_clamp (by omega), hc j (by omega), s1, e3, seg_cons (by omega), crcS, ea, ck_n ha (by decide), nI_1, ih (j + 1) _ h (by omega)]
theorem sumT_ok (K : Nat) (hK : 24001 < K) {i e N : Nat} {L : List Nat} {c t : Nat → Int32} (hc : mL c L) (hb : by_ L) (ht : smt t) (hl : L.length ≤ N) (hN : N ≤ 24000) (hi : i ≤ e) (he : e ≤ L.length) : f_X7_sumOf_o_tape K N c 256 t (nI i) (nI e) = some (crcS (-1) (seg L i (e - i)) ^^^ (-1)) := by
  unfold f_X7_sumOf_o_tape
  exact sum_t K hc hb ht hl (by omega) he K i (-1) hi (by omega)
theorem sumD_ok (K : Nat) (hK : 24001 < K) {i e N : Nat} {L : List Nat} {c t : Nat → Int32} (hc : mL c L) (hb : by_ L) (ht : smt t) (hl : L.length ≤ N) (hN : N ≤ 24000) (hi : i ≤ e) (he : e ≤ L.length) : f_X7_sumOf_o_made K N c 256 t (nI i) (nI e) = some (crcS (-1) (seg L i (e - i)) ^^^ (-1)) := by
  unfold f_X7_sumOf_o_made
  exact sum_d K hc hb ht hl (by omega) he K i (-1) hi (by omega)
theorem s_sum (K : Nat) (hK : 24001 < K) {L : List Nat} {c m t : Nat → Int32} (hp : pair c m L) (hn : L.length ≤ 20000) (ht : smt t) (th p1 p2 p3 : Int32) : ∃ r : Int32, f_X6_sum K (nI L.length) 20000 c p1 p2 p3 = some r ∧ f_X7_sum K (nI L.length) th 20000 m 256 t p1 p2 p3 = some (r, 0) := by
  obtain ⟨hb, hc, hm⟩ := id hp
  unfold f_X6_sum f_X7_sum
  by_cases h : ∃ i k, i + k ≤ L.length ∧ p1 = nI i ∧ p2 = nI k
  · obtain ⟨i, k, hik, rfl, rfl⟩ := h
    rw [has_1 K hik (by omega), sob, i10, crc_ok K hK hc hn (by decide) hik, mcrc_ok K hK hc hn (by decide) hik, sob, sob, if_neg (nI_pos (by omega)), if_neg (nI_pos (by omega)), if_neg (nI_nlt (show i ≤ L.length by omega) (by omega)), pk_sub (by omega), if_pos (nI_le (show k ≤ L.length - i by omega) (by omega)), nI_add, sumT_ok K hK hm hb ht hn (by decide) (show i ≤ i + k by omega) hik, sob, Nat.add_sub_cancel_left]
    by_cases h3 : p3 = 0
    · rw [if_pos h3, if_pos h3]; exact ⟨_, rfl, rfl⟩
    · rw [if_neg h3, if_neg h3]; exact ⟨_, rfl, rfl⟩
  · rw [has_0 K (by omega) h, sob, i00]
    refine ⟨_, rfl, ?_⟩
    by_cases h0 : p1 < 0
    · rw [if_pos h0]
    · by_cases h1 : p2 < 0
      · rw [if_neg h0, if_pos h1]
      · obtain ⟨i, hi, rfl⟩ := nI_of h0
        obtain ⟨k, hk, rfl⟩ := nI_of h1
        rw [if_neg h0, if_neg h1]
        rcases Nat.lt_or_ge L.length i with q | q
        · rw [if_pos (nI_lt q hi)]
        · rw [if_neg (nI_nlt q (by omega)), pk_sub q, if_neg (nI_ge (Nat.lt_of_not_le fun z => h ⟨i, k, by omega, rfl, rfl⟩) hk)]
/-- the reference's constructor makes the table -/
theorem tab_in (K : Nat) {k129 : (Nat → Int32) → Int32 → Option (Nat → Int32)} {t : Nat → Int32} {j : Nat} (hj : j < 256) : ∀ (q b : Nat) (x : Int32), b ≤ 8 → 8 - b < q → f_X7_init_b140 K k129 q t (nI j) x (nI b) = k129 (upd t j (st (8 - b) x)) (nI (j + 1)) := by
  intro q
  induction q with
  | zero => intro b x _ h; omega
  | succ q ih =>
    intro b x hb hq
    rw [f_X7_init_b140]
    rcases Nat.eq_or_lt_of_le hb with h | h
    · subst h
      rw [if_pos (show (8 : Int32) ≤ nI 8 from nI_le (a := 8) (Nat.le_refl _) (by decide)), ck_n hj (by decide), nI_clamp (by omega), nI_1]; rfl
    · rw [if_neg (show ¬ (8 : Int32) ≤ nI b from nI_ge (b := 8) h (by decide)), nI_1]
      have e3 : 8 - b = (8 - (b + 1)) + 1 := by omega
      rw [e3, st]
      unfold st1
      by_cases h1 : x &&& 1 = 1
      · rw [if_pos h1, if_pos h1, ih (b + 1) _ h (by omega)]
      · rw [if_neg h1, if_neg h1, ih (b + 1) _ h (by omega)]
theorem tab_ok (K : Nat) (hK : 9 < K) : ∀ (q j : Nat) (t : Nat → Int32), j ≤ 256 → 256 - j < q → (∀ i, i < j → t i = st 8 (nI i)) → ∃ t', f_X7_init_b129 K q t (nI j) = some t' ∧ smt t' := by
  intro q
  induction q with
  | zero => intro j t _ h; omega
  | succ q ih =>
    intro j t hj hq ht
    rw [f_X7_init_b129]
    rcases Nat.eq_or_lt_of_le hj with h | h
    · subst h
      rw [if_pos (show (256 : Int32) ≤ nI 256 from nI_le (a := 256) (Nat.le_refl _) (by decide))]
      exact ⟨t, rfl, ht⟩
    · rw [if_neg (show ¬ (256 : Int32) ≤ nI j from nI_ge (b := 256) h (by decide)), show (0 : Int32) = nI 0 from rfl, tab_in K h K 0 _ (by omega) (by omega)]
      refine ih (j + 1) _ h (by omega) (fun i hi => ?_)
      rcases Nat.eq_or_lt_of_le (Nat.lt_succ_iff.mp hi) with e | e
      · subst e; rw [pk_us]
      · rw [pk_un (Nat.ne_of_lt e)]; exact ht i e
theorem init_ok (K : Nat) (hK : 257 < K) : ∃ t, f_X7_init K = some t ∧ smt t := by
  unfold f_X7_init
  exact tab_ok K (by omega) K 0 _ (by omega) (by omega) (fun i hi => absurd hi (Nat.not_lt_zero i))
