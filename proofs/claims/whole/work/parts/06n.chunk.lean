/-! PURE ROWS 14: what a CHUNK tells, the class and the reference -/
theorem at_m (K : Nat) {L : List Nat} {m : Nat → Int32} {i : Nat} (hm : mL m L) (hb : by_ L) (hL : L.length ≤ 20000) (hi : i < L.length) : f_X7_at K 20000 m (nI i) = some (nI (L.getD i 0)) := by
  unfold f_X7_at
  rw [ck_n (by omega) (by decide), nI_clamp (by omega), hm i hi, sb_and (hb i)]
theorem bt_nI (a : Nat) {i : Nat} (hi : i < 32) : bt (nI a) i = a.testBit i := by
  unfold bt
  rw [show (nI a).toBitVec = BitVec.ofNat 32 a from rfl, BitVec.getLsbD_ofNat]; simp [hi]
theorem or_n {a b n : Nat} (hn : n < 32) (ha : a < 2 ^ n) : nI a ||| (nI b <<< (nI n &&& 31)) = nI (a + b * 2 ^ n) := by
  apply b_ext
  intro i hi
  rw [b_or, b_shl n hn _ hi, bt_nI _ hi, bt_nI _ hi, show a + b * 2 ^ n = 2 ^ n * b + a by rw [Nat.mul_comm, Nat.add_comm], Nat.testBit_two_pow_mul_add b ha i]
  by_cases h : i < n
  · rw [if_pos h]; simp [show ¬ n ≤ i by omega]
  · rw [if_neg h, bt_nI _ (by omega), Nat.testBit_lt_two_pow (Nat.lt_of_lt_of_le ha (Nat.pow_le_pow_right (by decide) (by omega)))]; simp [show n ≤ i by omega]
theorem lev_s (L : List Nat) (i n : Nat) : lev L i (n + 1) = lev L i n + L.getD (i + n) 0 * 2 ^ (8 * n) := rfl
theorem lev3_m (K : Nat) {L : List Nat} {i : Nat} (hb : by_ L) : (nI (L.getD i 0) ||| (nI (L.getD (i + 1) 0) <<< ((8 : Int32) &&& 31))) ||| (nI (L.getD (i + 2) 0) <<< ((16 : Int32) &&& 31)) = nI (lev L i 3) := by
  have a2 : nI (L.getD i 0) ||| (nI (L.getD (i + 1) 0) <<< ((8 : Int32) &&& 31)) = nI (lev L i 2) := by
    rw [show (8 : Int32) = nI 8 from rfl, or_n (by decide) (show L.getD i 0 < 2 ^ 8 from hb i), lev_s, lev_s]; simp [lev]
  rw [a2, show (16 : Int32) = nI 16 from rfl, or_n (by decide) (lev_lt hb i 2)]; rfl
theorem four_mm (K : Nat) {L : List Nat} {m : Nat → Int32} {i : Nat} (hm : mL m L) (hb : by_ L) (hL : L.length ≤ 20000) (hi : i + 4 ≤ L.length) : f_X7_fourAt K 20000 m (nI i) = some (nI (lev L i 4)) := by
  unfold f_X7_fourAt
  rw [show nI i + 1 = nI (i + 1) from nI_1 i, show nI i + 2 = nI (i + 2) from nI_add i 2, show nI i + 3 = nI (i + 3) from nI_add i 3, at_m K hm hb hL (by omega), at_m K hm hb hL (by omega), at_m K hm hb hL (by omega), at_m K hm hb hL (by omega), sob, sob, sob, sob, lev3_m K hb, show (24 : Int32) = nI 24 from rfl, or_n (by decide) (lev_lt hb i 3)]; rfl
/-- the name's bytes -/
def nq (L : List Nat) (b : Nat) : Nat → Nat → Bool
  | _, 0 => true
  | j, n + 1 => if L.getD (b + j) 0 = NMs.getD j 0 then nq L b (j + 1) n else false
theorem nq_m (K : Nat) {L : List Nat} {m : Nat → Int32} {b : Nat} (hm : mL m L) (hb : by_ L) (hL : L.length ≤ 20000) (hi : b + 6 ≤ L.length) : ∀ (q j : Nat), j ≤ 6 → 6 - j < q → f_X7_isName_b2 K 20000 m (nI b) q (nI j) = some (if nq L b j (6 - j) then 1 else 0) := by
  intro q
  induction q with
  | zero => intro j _ h; omega
  | succ q ih =>
    intro j hj hq
    rw [f_X7_isName_b2]
    rcases Nat.eq_or_lt_of_le hj with e | e
    · subst e; rw [if_pos (show (6 : Int32) ≤ nI 6 by decide)]; rfl
    · have e3 : 6 - j = (6 - (j + 1)) + 1 := by omega
      have hl := hb (b + j)
      have hl2 := nm_b j e
      rw [if_neg (show ¬ (6 : Int32) ≤ nI j from nI_ge (b := 6) e (by decide)), nI_add, at_m K hm hb hL (by omega), sob, nm_m K j e, sob, e3, nq, nI_1]
      by_cases h : L.getD (b + j) 0 = NMs.getD j 0
      · rw [if_pos h, if_pos (by rw [h]), ih (j + 1) e (by omega)]
      · rw [if_neg h, if_neg (nI_ne (by omega) (by omega) h)]; rfl
theorem nq_0 (K : Nat) {L : List Nat} {c : Nat → Int32} {bd sz : Int32} : ∀ (q j : Nat) (x : Int32), j ≤ 6 → 6 - j < q → f_X5_isName_b33 K bd sz (nI L.length) 20000 c q 0 x (nI 6) (nI j) = some 0 := by
  intro q
  induction q with
  | zero => intro j _ _ h; omega
  | succ q ih =>
    intro j x hj hq
    rw [f_X5_isName_b33]
    rcases Nat.eq_or_lt_of_le hj with e | e
    · subst e; rw [if_pos (nI_le (Nat.le_refl _) (by decide))]; unfold ckb; rw [if_pos (Or.inl rfl)]
    · rw [if_neg (nI_ge e (by decide)), ck_n e (by decide), i00]
      unfold f_X5_isName_b65
      rw [nI_1]; exact ih (j + 1) _ e (by omega)
theorem nq_c (K : Nat) {L : List Nat} {c : Nat → Int32} {bd sz : Int32} {b : Nat} (hc : cL c L) (hb : by_ L) (hL : L.length ≤ 20000) (hi : b + 6 ≤ L.length) : ∀ (q j : Nat), j ≤ 6 → 6 - j < q → f_X5_isName_b33 K bd sz (nI L.length) 20000 c q 1 (nI (b + j)) (nI 6) (nI j) = some (if nq L b j (6 - j) then 1 else 0) := by
  intro q
  induction q with
  | zero => intro j _ h; omega
  | succ q ih =>
    intro j hj hq
    rw [f_X5_isName_b33]
    rcases Nat.eq_or_lt_of_le hj with e | e
    · subst e; rw [if_pos (nI_le (Nat.le_refl _) (by decide))]; unfold ckb; rw [if_pos (Or.inr rfl)]; rfl
    · have e3 : 6 - j = (6 - (j + 1)) + 1 := by omega
      have hl := hb (b + j)
      have hl2 := nm_b j e
      rw [if_neg (nI_ge e (by decide)), ck_n e (by decide), i10, at_1 K hc (by omega) hL (by decide), sob, nI_clamp (by omega), nm_c j e, e3, nq, nI_1, nI_1]
      by_cases h : L.getD (b + j) 0 = NMs.getD j 0
      · rw [if_pos h, if_pos (by rw [h])]; exact ih (j + 1) e (by omega)
      · rw [if_neg h, if_neg (nI_ne (by omega) (by omega) h)]
        unfold f_X5_isName_b65
        rw [nI_1, nI_1]; exact nq_0 K q (j + 1) _ e (by omega)
/-- which fault a CHUNK's TYPE and size have -/
def fk (L : List Nat) (p t n : Nat) : Nat := if t = 255 then (if n = 6 ∧ nq L (p + 4) 0 6 = true then 0 else 13) else if t ≤ 1 then (if n < 4 then 15 else 0) else if t < 128 then 14 else 0
def fpl (F p : Nat) : Int32 := if F = 0 then -1 else nI p
theorem chk_c (K : Nat) (hK : 10 < K) {L : List Nat} {c : Nat → Int32} {p t n : Nat} (hc : cL c L) (hb : by_ L) (hL : L.length ≤ 20000) (hp : p + 4 + n ≤ L.length) (ht : t < 256) : f_X5_checkChunk K 0 (-1) (nI p) (nI t) (nI (p + 4)) (nI n) (nI L.length) 20000 c = some (nI (fk L p t n), fpl (fk L p t n) p) := by
  unfold f_X5_checkChunk f_X5_fail fk fpl
  by_cases h : t = 255
  · rw [if_pos h, if_pos (show nI t = (255 : Int32) by rw [h]; rfl)]
    unfold f_X5_isName f_X5_isName_b14
    by_cases h6 : n = 6
    · rw [if_pos (show nI n = (6 : Int32) by rw [h6]; rfl)]
      have e := nq_c K (bd := nI (p + 4)) (sz := nI n) (b := p + 4) hc hb hL (by omega) K 0 (by decide) (by omega)
      rw [show nI 0 = (0 : Int32) from rfl, Nat.add_zero, Nat.sub_zero] at e
      rw [show Int32.ofNat 6 = nI 6 from rfl, e, sob]
      by_cases hq : nq L (p + 4) 0 6 = true
      · rw [if_pos hq, i10, if_pos ⟨h6, hq⟩]; rfl
      · rw [if_neg hq, i00, if_neg (fun y => hq y.2)]; rfl
    · have e := nq_0 K (L := L) (c := c) (bd := nI (p + 4)) (sz := nI n) K 0 (nI (p + 4)) (by decide) (by omega)
      rw [show nI 0 = (0 : Int32) from rfl] at e
      rw [if_neg (show ¬ nI n = (6 : Int32) from nI_ne (b := 6) (by omega) (by decide) h6), show Int32.ofNat 6 = nI 6 from rfl, e, sob, i00, if_neg (fun y => h6 y.1)]; rfl
  · rw [if_neg h, if_neg (show ¬ nI t = (255 : Int32) from nI_ne (b := 255) (by omega) (by decide) h)]
    unfold f_X5_tellsBytes
    by_cases h1 : t ≤ 1
    · have e : (if nI t = (0 : Int32) then some (1 : Int32) else if nI t = (1 : Int32) then some 1 else some 0) = some 1 := by
        have : t = 0 ∨ t = 1 := by omega
        rcases this with rfl | rfl <;> rfl
      rw [e, sob, i10, if_pos h1]
      by_cases h4 : n < 4
      · rw [if_pos h4, if_neg (show ¬ (4 : Int32) ≤ nI n from nI_ge (b := 4) h4 (by decide))]; rfl
      · rw [if_neg h4, if_pos (show (4 : Int32) ≤ nI n from nI_le (a := 4) (by omega) (by omega))]; rfl
    · rw [if_neg (show ¬ nI t = (0 : Int32) from nI_ne (b := 0) (by omega) (by decide) (by omega)), if_neg (show ¬ nI t = (1 : Int32) from nI_ne (b := 1) (by omega) (by decide) (by omega)), sob, i00, if_neg h1]
      by_cases h2 : t < 128
      · rw [if_pos h2, if_neg (show ¬ (128 : Int32) ≤ nI t from nI_ge (b := 128) h2 (by decide))]; rfl
      · rw [if_neg h2, if_pos (show (128 : Int32) ≤ nI t from nI_le (a := 128) (by omega) (by omega))]; rfl
theorem head_1 (K : Nat) (hK : 10 < K) {L : List Nat} {c : Nat → Int32} {p : Nat} {ty bd sz : Int32} (hc : cL c L) (hb : by_ L) (hL : L.length ≤ 20000) (hp : p + 4 + lev L (p + 1) 3 ≤ L.length) : f_X5_readHeader K 0 (-1) (nI p) ty bd sz (nI L.length) 20000 c = some (0, -1, nI (L.getD p 0), nI (p + 4), nI (lev L (p + 1) 3)) := by
  unfold f_X5_readHeader
  rw [show nI p + 4 = nI (p + 4) from nI_add p 4, if_pos (nI_le (by omega) (by omega)), at_1 K hc (by omega) hL (by decide), sob, nI_1, show (3 : Int32) = nI 3 from rfl, lev_ok K (by omega) hc hb hL (by decide) (by decide) (by omega), sob, lN_i, pk_sub (by omega), if_pos (nI_le (by omega) (by omega))]
theorem head_0 (K : Nat) (hK : 10 < K) {L : List Nat} {c : Nat → Int32} {p : Nat} {ty bd sz : Int32} (hc : cL c L) (hb : by_ L) (hL : L.length ≤ 20000) (hp1 : p < L.length) (hp : ¬ p + 4 + lev L (p + 1) 3 ≤ L.length) : ∃ ty' sz', f_X5_readHeader K 0 (-1) (nI p) ty bd sz (nI L.length) 20000 c = some (12, nI p, ty', nI (p + 4), sz') := by
  unfold f_X5_readHeader f_X5_fail
  have hl := lev_lt hb (p + 1) 3
  rw [show nI p + 4 = nI (p + 4) from nI_add p 4]
  by_cases h : p + 4 ≤ L.length
  · rw [if_pos (nI_le h (by omega)), at_1 K hc (by omega) hL (by decide), sob, nI_1, show (3 : Int32) = nI 3 from rfl, lev_ok K (by omega) hc hb hL (by decide) (by decide) (by omega), sob, lN_i, pk_sub (by omega), if_neg (nI_ge (by omega) (by omega)), sob]
    exact ⟨_, _, rfl⟩
  · rw [if_neg (nI_ge (by omega) (by omega)), sob]
    exact ⟨_, _, rfl⟩
/-- the reference's CHUNK up to its bytes -/
theorem ref_74 (K : Nat) (hK : 10 < K) {L : List Nat} {m mm nc fo be st : Nat → Int32} {p t n : Nat} {md BF BP op li wa fM sk x3 : Int32} (hm : mL m L) (hb : by_ L) (hL : L.length ≤ 20000) (hp : p + 4 + n ≤ L.length) (ht : t < 256) : f_X7_chunkAt_b74 K (nI L.length) 20000 m 24000 5000 256 st 5000 20000 (nI p) md BF BP op li wa 0 (-1) 0 (-1) fM sk mm nc fo be (nI t) (nI (L.length - p - 4)) (nI n) = f_X7_chunkAt_b171 K (nI L.length) 20000 m 24000 5000 256 st 5000 20000 (nI p) md BF BP op li wa (nI (fk L p t n)) (fpl (fk L p t n) p) 0 (-1) fM sk mm nc fo be (nI t) (nI n) (nI (p + 4)) := by
  unfold f_X7_chunkAt_b74
  rw [show nI p + 4 = nI (p + 4) from nI_add p 4, if_pos (nI_le (by omega) (by omega))]
  unfold f_X7_chunkAt_b121 f_X7_told f_X7_chunkAt_b130 f_X7_chunkAt_b151 f_X7_told f_X7_isName fk fpl
  by_cases h : t = 255
  · rw [if_pos h, if_pos (show nI t = (255 : Int32) by rw [h]; rfl), if_neg (show ¬ nI t ≤ (1 : Int32) from nI_ge (a := 1) (by omega) (by omega)), if_pos (show (128 : Int32) ≤ nI t from nI_le (a := 128) (by omega) (by omega)), if_pos (show (2 : Int32) ≤ nI t from nI_le (a := 2) (by omega) (by omega))]
    by_cases h6 : n = 6
    · rw [if_pos (show nI n = (6 : Int32) by rw [h6]; rfl)]
      have e := nq_m K (b := p + 4) hm hb hL (by omega) K 0 (by decide) (by omega)
      rw [show nI 0 = (0 : Int32) from rfl, Nat.sub_zero] at e
      rw [e, sob]
      by_cases hq : nq L (p + 4) 0 6 = true
      · rw [if_pos hq, i10, if_pos ⟨h6, hq⟩]; rfl
      · rw [if_neg hq, i00, if_neg (fun y => hq y.2), sob, if_neg (show ¬ nI t ≤ (1 : Int32) from nI_ge (a := 1) (by omega) (by omega)), if_pos (show (128 : Int32) ≤ nI t from nI_le (a := 128) (by omega) (by omega)), if_pos (show (2 : Int32) ≤ nI t from nI_le (a := 2) (by omega) (by omega))]; rfl
    · rw [if_neg (show ¬ nI n = (6 : Int32) from nI_ne (b := 6) (by omega) (by decide) h6), sob, if_neg (show ¬ (n = 6 ∧ nq L (p + 4) 0 6 = true) from fun y => h6 y.1), if_neg (show ¬ nI t ≤ (1 : Int32) from nI_ge (a := 1) (by omega) (by omega)), if_pos (show (128 : Int32) ≤ nI t from nI_le (a := 128) (by omega) (by omega)), if_pos (show (2 : Int32) ≤ nI t from nI_le (a := 2) (by omega) (by omega))]; rfl
  · rw [if_neg h, if_neg (show ¬ nI t = (255 : Int32) from nI_ne (b := 255) (by omega) (by decide) h)]
    by_cases h1 : t ≤ 1
    · rw [if_pos h1, if_pos (show nI t ≤ (1 : Int32) from nI_le (b := 1) h1 (by decide)), if_neg (show ¬ (2 : Int32) ≤ nI t from nI_ge (b := 2) (by omega) (by decide))]
      by_cases h4 : n < 4
      · rw [if_pos h4, if_neg (show ¬ (4 : Int32) ≤ nI n from nI_ge (b := 4) h4 (by decide)), sob]; rfl
      · rw [if_neg h4, if_pos (show (4 : Int32) ≤ nI n from nI_le (a := 4) (by omega) (by omega))]; rfl
    · rw [if_neg h1, if_neg (show ¬ nI t ≤ (1 : Int32) from nI_ge (a := 1) (by omega) (by omega))]
      by_cases h2 : t < 128
      · rw [if_pos h2, if_neg (show ¬ (128 : Int32) ≤ nI t from nI_ge (b := 128) h2 (by decide)), sob, if_pos (show (2 : Int32) ≤ nI t from nI_le (a := 2) (by omega) (by omega))]; rfl
      · rw [if_neg h2, if_pos (show (128 : Int32) ≤ nI t from nI_le (a := 128) (by omega) (by omega)), if_pos (show (2 : Int32) ≤ nI t from nI_le (a := 2) (by omega) (by omega))]; rfl
theorem chunk_1 (K : Nat) (hK : 10 < K) {L : List Nat} {m mm nc fo be st : Nat → Int32} {p : Nat} {md BF BP op li wa fM sk : Int32} (hm : mL m L) (hb : by_ L) (hL : L.length ≤ 20000) (h0 : p = 0 → L.getD 0 0 = 255) (hp : p + 4 + lev L (p + 1) 3 ≤ L.length) : f_X7_chunkAt K (nI L.length) md BF BP op li wa 0 (-1) 0 (-1) fM sk 20000 m 24000 mm 5000 nc 256 st 5000 fo 20000 be (nI p) = f_X7_chunkAt_b171 K (nI L.length) 20000 m 24000 5000 256 st 5000 20000 (nI p) md BF BP op li wa (nI (fk L p (L.getD p 0) (lev L (p + 1) 3))) (fpl (fk L p (L.getD p 0) (lev L (p + 1) 3)) p) 0 (-1) fM sk mm nc fo be (nI (L.getD p 0)) (nI (lev L (p + 1) 3)) (nI (p + 4)) := by
  have e : f_X7_chunkAt K (nI L.length) md BF BP op li wa 0 (-1) 0 (-1) fM sk 20000 m 24000 mm 5000 nc 256 st 5000 fo 20000 be (nI p) = f_X7_chunkAt_b28 K (nI L.length) 20000 m 24000 5000 256 st 5000 20000 (nI p) md BF BP op li wa 0 (-1) 0 (-1) fM sk mm nc fo be (nI (L.getD p 0)) := by
    unfold f_X7_chunkAt
    rw [at_m K hm hb hL (by omega), sob]
    by_cases h : p = 0
    · subst h; rw [if_pos (show nI 0 = (0 : Int32) from rfl), h0 rfl, if_pos (show nI 255 = (255 : Int32) from rfl)]
    · rw [if_neg (show ¬ nI p = (0 : Int32) from nI_ne (b := 0) (by omega) (by decide) h)]
  rw [e]
  unfold f_X7_chunkAt_b28
  rw [pk_sub (show p ≤ L.length by omega), show nI (L.length - p) - 4 = nI (L.length - p - 4) from pk_sub (b := 4) (by omega), if_pos (show (0 : Int32) ≤ nI (L.length - p - 4) from fl0 _ (by omega)), nI_1, show nI p + 2 = nI (p + 1 + 1) from nI_add p 2, show nI p + 3 = nI (p + 1 + 2) from nI_add p 3, at_m K hm hb hL (by omega), at_m K hm hb hL (by omega), at_m K hm hb hL (by omega), sob, sob, sob, lev3_m K hb]
  exact ref_74 K hK (x3 := 0) hm hb hL hp (hb p)
theorem chunk_0 (K : Nat) (hK : 10 < K) {L : List Nat} {m mm nc fo be st : Nat → Int32} {p : Nat} {md BF BP op li wa fM sk : Int32} (hm : mL m L) (hb : by_ L) (hL : L.length ≤ 20000) (h0 : p = 0 → L.getD 0 0 = 255) (hp1 : p < L.length) (hp : ¬ p + 4 + lev L (p + 1) 3 ≤ L.length) : f_X7_chunkAt K (nI L.length) md BF BP op li wa 0 (-1) 0 (-1) fM sk 20000 m 24000 mm 5000 nc 256 st 5000 fo 20000 be (nI p) = some (nI p, md, BF, BP, op, li, wa, 12, nI p, 0, -1, fM, sk, mm, nc, fo, be) := by
  have e : f_X7_chunkAt K (nI L.length) md BF BP op li wa 0 (-1) 0 (-1) fM sk 20000 m 24000 mm 5000 nc 256 st 5000 fo 20000 be (nI p) = f_X7_chunkAt_b28 K (nI L.length) 20000 m 24000 5000 256 st 5000 20000 (nI p) md BF BP op li wa 0 (-1) 0 (-1) fM sk mm nc fo be (nI (L.getD p 0)) := by
    unfold f_X7_chunkAt
    rw [at_m K hm hb hL (by omega), sob]
    by_cases h : p = 0
    · subst h; rw [if_pos (show nI 0 = (0 : Int32) from rfl), h0 rfl, if_pos (show nI 255 = (255 : Int32) from rfl)]
    · rw [if_neg (show ¬ nI p = (0 : Int32) from nI_ne (b := 0) (by omega) (by decide) h)]
  rw [e]
  unfold f_X7_chunkAt_b28 f_X7_chunkAt_b74 f_X7_told
  have hl := lev_lt hb (p + 1) 3
  rw [pk_sub (show p ≤ L.length by omega)]
  by_cases h4 : p + 4 ≤ L.length
  · rw [show nI (L.length - p) - 4 = nI (L.length - p - 4) from pk_sub (b := 4) (by omega), if_pos (show (0 : Int32) ≤ nI (L.length - p - 4) from fl0 _ (by omega)), nI_1, show nI p + 2 = nI (p + 1 + 1) from nI_add p 2, show nI p + 3 = nI (p + 1 + 2) from nI_add p 3, at_m K hm hb hL (by omega), at_m K hm hb hL (by omega), at_m K hm hb hL (by omega), sob, sob, sob, lev3_m K hb, if_neg (nI_ge (by omega) (by omega)), sob]
  · have c3 : L.length - p = 1 ∨ L.length - p = 2 ∨ L.length - p = 3 := by omega
    have hn : ¬ (0 : Int32) ≤ nI (L.length - p) - 4 := by rcases c3 with h | h | h <;> (rw [h]; decide)
    rw [if_neg hn, if_neg hn, sob]
