/-! PURE ROWS 8: longs (rows out of kit/laws/BITS.to-paste); an ELEMENT as it is read -/
theorem wb_tb (n : Nat) : (lN n).toBitVec = BitVec.ofNat 64 n := rfl
theorem wb_inj {a b : Int64} (h : a.toBitVec = b.toBitVec) : a = b := Int64.toBitVec_inj.mp h
theorem wb_c : ∀ k, k < 64 → ((nI k).toInt64 &&& 63) = lN k := by decide +kernel
theorem wb_sm : ∀ k, k < 64 → (BitVec.ofNat 64 k).smod 64 = BitVec.ofNat 64 k := by decide +kernel
theorem wb_shl (n : Nat) {k : Nat} (hk : k < 64) : lN n <<< ((nI k).toInt64 &&& 63) = lN (n * 2 ^ k) := by
  rw [wb_c k hk]
  apply wb_inj
  rw [Int64.toBitVec_shiftLeft, wb_tb, wb_tb, wb_tb, wb_sm k hk]
  apply BitVec.eq_of_toNat_eq
  rw [BitVec.shiftLeft_eq', BitVec.toNat_shiftLeft, BitVec.toNat_ofNat, BitVec.toNat_ofNat, BitVec.toNat_ofNat, Nat.mod_eq_of_lt (show k < 2 ^ 64 by omega), Nat.shiftLeft_eq, Nat.mul_mod, Nat.mod_mod, ← Nat.mul_mod]
theorem u_tn {n : Nat} (h : n < 2 ^ 64) : (UInt64.ofNat n).toNat = n := Nat.mod_eq_of_lt h
theorem g_or {k p a b : Nat} (hp : 2 ^ k = p) (ha : a < p) (h : b * p + a < 2 ^ 64) : lN (b * p) ||| lN a = lN (b * p + a) := by
  subst hp
  have h1 : b * 2 ^ k ||| a = b * 2 ^ k + a := by rw [← Nat.shiftLeft_eq, Nat.shiftLeft_add_eq_or_of_lt ha]
  have h3 : UInt64.ofNat (b * 2 ^ k) ||| UInt64.ofNat a = UInt64.ofNat (b * 2 ^ k + a) := UInt64.toNat_inj.mp (by rw [UInt64.toNat_or, u_tn (by omega), u_tn (by omega), u_tn h, h1])
  have h2 := congrArg UInt64.toInt64 h3
  exact h2
theorem g_or' {k p a b : Nat} (hp : 2 ^ k = p) (ha : a < p) (h : a + b * p < 2 ^ 64) : lN a ||| lN (b * p) = lN (a + b * p) := by
  rw [Int64.or_comm, g_or hp ha (by omega), Nat.add_comm]
theorem pf_lI {a : Nat} (h : a < 2 ^ 63) : (lN a).toInt = (a : Int) := lg_ofNat_toInt h
theorem pf_shr {a d : Nat} {D : Int64} (hD : (D.toBitVec.smod 64).toNat = d) (h : a < 2 ^ 62) : lN a >>> D = lN (a / 2 ^ d) := by
  have hd : a / 2 ^ d ≤ a := Nat.div_le_self _ _
  apply Int64.toInt_inj.mp
  have e : (lN a >>> D).toInt = (lN a).toInt >>> d := by
    rw [← hD]
    exact BitVec.toInt_sshiftRight ..
  rw [e, Int.shiftRight_eq_div_pow, pf_lI (by omega), pf_lI (by omega)]
  rfl
theorem lgc_le {a b : Nat} (ha : a < 2 ^ 63) (hb : b < 2 ^ 63) : (lg_cmp (lN a) (lN b) ≤ 0) ↔ a ≤ b := (lg_cmp_le _ _).trans (pk_lLE ha hb)
theorem lgc_ge {a b : Nat} (ha : a < 2 ^ 63) (hb : b < 2 ^ 63) : (0 ≤ lg_cmp (lN a) (lN b)) ↔ b ≤ a := (lg_cmp_ge _ _).trans (pk_lLE hb ha)
theorem lgc_eq {a b : Nat} (ha : a < 2 ^ 63) (hb : b < 2 ^ 63) : (lg_cmp (lN a) (lN b) = 0) ↔ a = b := by
  constructor
  · intro h
    have h1 := (lgc_le ha hb).mp (by rw [h]; decide)
    have h2 := (lgc_ge ha hb).mp (by rw [h]; decide)
    omega
  · intro h
    subst h
    unfold lg_cmp
    rw [if_neg (by simp), if_pos rfl]
theorem lgc_lt {a b : Nat} (ha : a < 2 ^ 63) (hb : b < 2 ^ 63) : (lg_cmp (lN a) (lN b) < 0) ↔ a < b := by
  have h1 := lgc_ge ha hb
  constructor
  · intro h
    refine Nat.lt_of_not_le fun q => ?_
    have h2 := h1.mpr q
    rw [Int32.lt_iff_toInt_lt] at h
    rw [Int32.le_iff_toInt_le] at h2
    omega
  · intro h
    have h2 : ¬ 0 ≤ lg_cmp (lN a) (lN b) := fun q => by have := h1.mp q; omega
    rw [Int32.le_iff_toInt_le] at h2
    rw [Int32.lt_iff_toInt_lt]
    omega
/-- the number that n bytes from i on tell, the lowest first -/
def lev (L : List Nat) (i : Nat) : Nat → Nat
  | 0 => 0
  | n + 1 => lev L i n + L.getD (i + n) 0 * 2 ^ (8 * n)
theorem lev_lt {L : List Nat} (hb : by_ L) (i : Nat) : ∀ n, lev L i n < 2 ^ (8 * n)
  | 0 => by rw [lev]; exact Nat.two_pow_pos _
  | n + 1 => by
    have h1 := lev_lt hb i n
    have h2 := hb (i + n)
    rw [lev, show 8 * (n + 1) = 8 * n + 8 by omega, Nat.pow_add]
    have h3 : L.getD (i + n) 0 * 2 ^ (8 * n) ≤ 255 * 2 ^ (8 * n) := Nat.mul_le_mul_right _ (by omega)
    omega
theorem lev_or {L : List Nat} (hb : by_ L) {i n : Nat} (hn : n < 4) : lN (lev L i n) ||| ((nI (L.getD (i + n) 0)).toInt64 <<< (((8 : Int32) * nI n).toInt64 &&& 63)) = lN (lev L i (n + 1)) := by
  have h1 := lev_lt hb i n
  have h2 := hb (i + n)
  have h4 := lev_lt hb i (n + 1)
  have h5 : 2 ^ (8 * (n + 1)) ≤ 2 ^ 32 := Nat.pow_le_pow_right (by decide) (by omega)
  rw [eight, nI_l (by omega), wb_shl _ (show 8 * n < 64 by omega), g_or' rfl h1 (by rw [lev] at h4; omega)]
  rfl
theorem lev_c (K : Nat) {N i n : Nat} {L : List Nat} {c : Nat → Int32} (hc : cL c L) (hb : by_ L) (hl : L.length ≤ N) (hN : N < 2 ^ 30) (hn : n ≤ 4) (hi : i + n ≤ L.length) : ∀ (q j : Nat), j ≤ n → n - j < q → f_X1_lowestFirst_b5 K (nI L.length) N c (nI i) (nI n) q (lN (lev L i j)) (nI j) = some (lN (lev L i n)) := by
  intro q
  induction q with
  | zero => intro j _ h; omega
  | succ q ih =>
    intro j hj hq
    rw [f_X1_lowestFirst_b5]
    rcases Nat.eq_or_lt_of_le hj with e | e
    · subst e; rw [if_pos (nI_le (Nat.le_refl _) (by omega))]
    · rw [if_neg (nI_ge e (by omega)), nI_add, at_1 K hc (show i + j < L.length by omega) hl (by omega), sob, lev_or hb (by omega), nI_1, ih (j + 1) e (by omega)]
theorem lev_ok (K : Nat) (hK : 5 < K) {N i n : Nat} {L : List Nat} {c : Nat → Int32} (hc : cL c L) (hb : by_ L) (hl : L.length ≤ N) (hN : N < 2 ^ 30) (hn : n ≤ 4) (hi : i + n ≤ L.length) : f_X1_lowestFirst K (nI L.length) N c (nI i) (nI n) = some (lN (lev L i n)) := by
  unfold f_X1_lowestFirst
  exact lev_c K hc hb hl hN hn hi K 0 (Nat.zero_le _) (by omega)
/-- how many bytes come behind a TAG; how many an ELEMENT gives, how far back -/
def ex (so u : Nat) : Nat := if so = 0 then (if u < 60 then 0 else u - 59) else if so = 1 then 1 else if so = 2 then 2 else 4
def sz (so u v : Nat) : Nat := if so = 0 then (if u < 60 then u + 1 else v + 1) else if so = 1 then u % 8 + 4 else u + 1
def bk (so u v : Nat) : Nat := if so = 0 then 0 else if so = 1 then u / 8 * 256 + v else v
theorem ex_le {so u : Nat} (hu : u < 64) : ex so u ≤ 4 := by
  unfold ex
  by_cases h : so = 0
  · rw [if_pos h]
    by_cases h2 : u < 60
    · rw [if_pos h2]; omega
    · rw [if_neg h2]; omega
  · rw [if_neg h]
    by_cases h2 : so = 1
    · rw [if_pos h2]; omega
    · rw [if_neg h2]
      by_cases h3 : so = 2
      · rw [if_pos h3]; omega
      · rw [if_neg h3]; omega
theorem sz_lt {so u v : Nat} (hu : u < 64) (hv : v < 2 ^ 32) : sz so u v < 2 ^ 33 ∧ 1 ≤ sz so u v := by
  unfold sz
  by_cases h : so = 0
  · rw [if_pos h]
    by_cases h2 : u < 60
    · rw [if_pos h2]; omega
    · rw [if_neg h2]; omega
  · rw [if_neg h]
    by_cases h2 : so = 1
    · rw [if_pos h2]; omega
    · rw [if_neg h2]; omega
theorem bk_lt {so u v : Nat} (hu : u < 64) (hv : v < 2 ^ 32) : bk so u v < 2 ^ 33 := by
  unfold bk
  by_cases h : so = 0
  · rw [if_pos h]; omega
  · rw [if_neg h]
    by_cases h2 : so = 1
    · rw [if_pos h2]; omega
    · rw [if_neg h2]; omega
theorem nI_ne {a b : Nat} (ha : a < 2 ^ 31) (hb : b < 2 ^ 31) (h : ¬ a = b) : ¬ nI a = nI b := fun q => h ((nI_eq ha hb).mp q)
theorem ex_c (K : Nat) {so u : Nat} (hs : so < 4) (hu : u < 64) : f_X0_bytesBehindTag K (nI so) (nI u) = some (nI (ex so u)) := by
  unfold f_X0_bytesBehindTag ex
  by_cases h : so = 0
  · subst h
    rw [if_pos (show nI 0 = (0 : Int32) from rfl), if_pos rfl]
    by_cases h2 : u < 60
    · rw [if_pos h2, if_neg (show ¬ (60 : Int32) ≤ nI u from nI_ge (b := 60) h2 (by decide))]; rfl
    · rw [if_neg h2, if_pos (show (60 : Int32) ≤ nI u from nI_le (a := 60) (by omega) (by omega)), show nI u - (59 : Int32) = nI (u - 59) from pk_sub (b := 59) (by omega)]
  · rw [if_neg (show ¬ nI so = (0 : Int32) from nI_ne (b := 0) (by omega) (by decide) h), if_neg h]
    by_cases h2 : so = 1
    · subst h2; rw [if_pos (show nI 1 = (1 : Int32) from rfl), if_pos rfl]; rfl
    · rw [if_neg (show ¬ nI so = (1 : Int32) from nI_ne (b := 1) (by omega) (by decide) h2), if_neg h2]
      by_cases h3 : so = 2
      · subst h3; rw [if_pos (show nI 2 = (2 : Int32) from rfl), if_pos rfl]; rfl
      · rw [if_neg (show ¬ nI so = (2 : Int32) from nI_ne (b := 2) (by omega) (by decide) h3), if_neg h3]; rfl
theorem sz_c (K : Nat) {so u v : Nat} (hs : so < 4) (hu : u < 64) (hv : v < 2 ^ 32) : f_X0_sizeOf K (nI so) (nI u) (lN v) = some (lN (sz so u v)) := by
  unfold f_X0_sizeOf sz
  have e1 : (nI u + (1 : Int32)).toInt64 = lN (u + 1) := by rw [nI_1, nI_l (by omega)]
  by_cases h : so = 0
  · subst h
    rw [if_pos (show nI 0 = (0 : Int32) from rfl), if_pos rfl]
    by_cases h2 : u < 60
    · rw [if_pos h2, if_neg (show ¬ (60 : Int32) ≤ nI u from nI_ge (b := 60) h2 (by decide)), e1]
    · rw [if_neg h2, if_pos (show (60 : Int32) ≤ nI u from nI_le (a := 60) (by omega) (by omega)), lN_1]
  · rw [if_neg (show ¬ nI so = (0 : Int32) from nI_ne (b := 0) (by omega) (by decide) h), if_neg h]
    by_cases h2 : so = 1
    · subst h2
      rw [if_pos (show nI 1 = (1 : Int32) from rfl), if_pos rfl, show nI u &&& (7 : Int32) = nI (u % 8) from pk_andN (by omega) 3 (by decide), show (4 : Int32) = nI 4 from rfl, nI_add, nI_l (by omega)]
    · rw [if_neg (show ¬ nI so = (1 : Int32) from nI_ne (b := 1) (by omega) (by decide) h2), if_neg h2, e1]
theorem bk_c (K : Nat) {so u v : Nat} (hs : so < 4) (hu : u < 64) (hv : v < 2 ^ 32) : f_X0_backOf K (nI so) (nI u) (lN v) = some (lN (bk so u v)) := by
  unfold f_X0_backOf bk
  by_cases h : so = 0
  · subst h; rw [if_pos (show nI 0 = (0 : Int32) from rfl), if_pos rfl]; rfl
  · rw [if_neg (show ¬ nI so = (0 : Int32) from nI_ne (b := 0) (by omega) (by decide) h), if_neg h]
    by_cases h2 : so = 1
    · subst h2
      rw [if_pos (show nI 1 = (1 : Int32) from rfl), if_pos rfl, pk_shrN (by omega) _ 3 (by decide), show (256 : Int32) = nI 256 from rfl, pk_mul, nI_l (by omega), lN_add]
    · rw [if_neg (show ¬ nI so = (1 : Int32) from nI_ne (b := 1) (by omega) (by decide) h2), if_neg h2]
theorem tg {t : Nat} (ht : t < 256) : nI t &&& (3 : Int32) = nI (t % 4) ∧ nI t >>> ((2 : Int32) &&& 31) = nI (t / 4) :=
  ⟨pk_andN (by omega) 2 (by decide), pk_shrN (by omega) _ 2 (by decide)⟩
/-- the class reads an ELEMENT -/
theorem read_c (K : Nat) (hK : 5 < K) {N fr e p : Nat} {L : List Nat} {c : Nat → Int32} {fa pl so0 bo0 : Int32} {si0 ba0 : Int64} (hc : cL c L) (hb : by_ L) (hl : L.length ≤ N) (hN : N < 2 ^ 30) (hfp : fr ≤ p) (hp : p < e) (he : e ≤ L.length) :
    f_X0_readElement K fa pl (nI fr) (nI e) (nI p) so0 bo0 si0 ba0 (nI L.length) N c = if p + 1 + ex (L.getD p 0 % 4) (L.getD p 0 / 4) ≤ e then some (fa, pl, nI (L.getD p 0 % 4), nI (p + 1 + ex (L.getD p 0 % 4) (L.getD p 0 / 4)), lN (sz (L.getD p 0 % 4) (L.getD p 0 / 4) (lev L (p + 1) (ex (L.getD p 0 % 4) (L.getD p 0 / 4)))), lN (bk (L.getD p 0 % 4) (L.getD p 0 / 4) (lev L (p + 1) (ex (L.getD p 0 % 4) (L.getD p 0 / 4))))) else some (3, nI (p - fr), nI (L.getD p 0 % 4), nI (p + 1 + ex (L.getD p 0 % 4) (L.getD p 0 / 4)), si0, ba0) := by
  have ht := hb p
  unfold f_X0_readElement f_X0_fail
  rw [at_1 K hc (show p < L.length by omega) hl (by omega), sob, (tg ht).1, (tg ht).2, ex_c K (Nat.mod_lt _ (by decide)) (by omega), sob, nI_1, nI_add]
  have hx := ex_le (so := L.getD p 0 % 4) (u := L.getD p 0 / 4) (by omega)
  by_cases h : p + 1 + ex (L.getD p 0 % 4) (L.getD p 0 / 4) ≤ e
  · have hv := lev_lt hb (p + 1) (ex (L.getD p 0 % 4) (L.getD p 0 / 4))
    have hv2 : 2 ^ (8 * ex (L.getD p 0 % 4) (L.getD p 0 / 4)) ≤ 2 ^ 32 := Nat.pow_le_pow_right (by decide) (by omega)
    rw [if_pos (nI_le h (by omega)), if_pos h, lev_ok K hK hc hb hl hN hx (by omega), sob, sz_c K (Nat.mod_lt _ (by decide)) (by omega) (by omega), sob, bk_c K (Nat.mod_lt _ (by decide)) (by omega) (by omega), sob]
  · rw [if_neg (nI_ge (by omega) (by omega)), if_neg h, sob, pk_sub hfp]
/-- which fault an ELEMENT has whose bytes behind the TAG are there: 0, if none -/
def fc (e bo len g so n d : Nat) : Nat := if so = 0 ∧ e - bo < n then 3 else if ¬ so = 0 ∧ (d = 0 ∨ g < d) then 4 else if len - g < n then 5 else 0
theorem check_c (K : Nat) {fr e p bo len g so n d : Nat} {fa pl : Int32} (hfp : fr ≤ p) (hp : p < 2 ^ 31) (hbe : bo ≤ e) (he : e < 2 ^ 30) (hg : g ≤ len) (hlen : len < 2 ^ 30) (hs : so < 4) (hn : n < 2 ^ 33) (hd : d < 2 ^ 33) :
    f_X0_checkElement K fa pl (nI fr) (nI e) (nI p) (nI len) (nI so) (nI bo) (lN n) (lN d) (nI g) = if fc e bo len g so n d = 0 then some (fa, pl) else some (nI (fc e bo len g so n d), nI (p - fr)) := by
  unfold f_X0_checkElement f_X0_checkElement_b37 f_X0_checkElement_b69 f_X0_checkElement_b81 f_X0_fail
  rw [pk_sub hbe, pk_sub hg, nI_l (by omega), nI_l (by omega), nI_l (by omega), pk_sub hfp, sob, sob, sob]
  dsimp only
  have le : ∀ a b : Nat, a < 2 ^ 40 → b < 2 ^ 40 → (lg_cmp (lN a) (lN b) ≤ 0 ↔ a ≤ b) := fun a b ha hb => lgc_le (by omega) (by omega)
  by_cases h0 : so = 0
  · subst h0
    rw [if_pos (show nI 0 = (0 : Int32) from rfl), if_pos (show nI 0 = (0 : Int32) from rfl)]
    by_cases h1 : e - bo < n
    · have e1 : fc e bo len g 0 n d = 3 := by unfold fc; rw [if_pos ⟨rfl, h1⟩]
      rw [e1, if_neg (show ¬ lg_cmp (lN n) (lN (e - bo)) ≤ 0 from fun q => by have := (le _ _ (by omega) (by omega)).mp q; omega), if_neg (show ¬ (3 : Nat) = 0 by decide)]; rfl
    · rw [if_pos (show lg_cmp (lN n) (lN (e - bo)) ≤ 0 from (le _ _ (by omega) (by omega)).mpr (by omega))]
      by_cases h2 : len - g < n
      · have e1 : fc e bo len g 0 n d = 5 := by unfold fc; rw [if_neg (fun q => h1 q.2), if_neg (fun q => q.1 rfl), if_pos h2]
        rw [e1, if_neg (show ¬ lg_cmp (lN n) (lN (len - g)) ≤ 0 from fun q => by have := (le _ _ (by omega) (by omega)).mp q; omega), if_neg (show ¬ (5 : Nat) = 0 by decide)]; rfl
      · have e1 : fc e bo len g 0 n d = 0 := by unfold fc; rw [if_neg (fun q => h1 q.2), if_neg (fun q => q.1 rfl), if_neg h2]
        rw [e1, if_pos (show lg_cmp (lN n) (lN (len - g)) ≤ 0 from (le _ _ (by omega) (by omega)).mpr (by omega)), if_pos rfl]
  · have hne : ¬ nI so = (0 : Int32) := nI_ne (b := 0) (by omega) (by decide) h0
    rw [if_neg hne, if_neg hne]
    by_cases h1 : d = 0
    · have e1 : fc e bo len g so n d = 4 := by unfold fc; rw [if_neg (fun q => h0 q.1), if_pos ⟨h0, Or.inl h1⟩]
      rw [e1, if_pos (show lg_cmp (lN d) 0 = 0 from (lgc_eq (b := 0) (by omega) (by decide)).mpr h1), if_neg (show ¬ (4 : Nat) = 0 by decide)]; rfl
    · rw [if_neg (show ¬ lg_cmp (lN d) 0 = 0 from fun q => h1 ((lgc_eq (b := 0) (by omega) (by decide)).mp q))]
      by_cases h2 : g < d
      · have e1 : fc e bo len g so n d = 4 := by unfold fc; rw [if_neg (fun q => h0 q.1), if_pos ⟨h0, Or.inr h2⟩]
        rw [e1, if_neg (show ¬ lg_cmp (lN d) (lN g) ≤ 0 from fun q => by have := (le _ _ (by omega) (by omega)).mp q; omega), if_neg (show ¬ (4 : Nat) = 0 by decide)]; rfl
      · rw [if_pos (show lg_cmp (lN d) (lN g) ≤ 0 from (le _ _ (by omega) (by omega)).mpr (by omega))]
        by_cases h3 : len - g < n
        · have e1 : fc e bo len g so n d = 5 := by unfold fc; rw [if_neg (fun q => h0 q.1), if_neg (fun q => by rcases q.2 with z | z <;> omega), if_pos h3]
          rw [e1, if_neg (show ¬ lg_cmp (lN n) (lN (len - g)) ≤ 0 from fun q => by have := (le _ _ (by omega) (by omega)).mp q; omega), if_neg (show ¬ (5 : Nat) = 0 by decide)]; rfl
        · have e1 : fc e bo len g so n d = 0 := by unfold fc; rw [if_neg (fun q => h0 q.1), if_neg (fun q => by rcases q.2 with z | z <;> omega), if_neg h3]
          rw [e1, if_pos (show lg_cmp (lN n) (lN (len - g)) ≤ 0 from (le _ _ (by omega) (by omega)).mpr (by omega)), if_pos rfl]
