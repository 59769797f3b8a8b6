/-! PURE ROWS 4: what is put into a BLOCK: its LENGTH, a LITERAL, COPIES -/
theorem cput (K : Nat) {N v : Nat} {O : List Nat} {c : Nat → Int32} (hc : cL c O) (h : O.length < N) (hN : N < 2 ^ 31) : ∃ c', f_X1_put K (nI O.length) N c (nI v) = some (nI (O.length + 1), c') ∧ cL c' (O ++ [v]) := ⟨_, put_ok K h hN, rL_push hc⟩
theorem mput (K : Nat) {N v : Nat} {O : List Nat} {c : Nat → Int32} (hc : mL c O) (h : O.length < N) (hN : N < 2 ^ 31) : ∃ c', f_X7_pack K (nI O.length) N c (nI v) = some (nI (O.length + 1), c') ∧ mL c' (O ++ [v % 256]) := by
  unfold f_X7_pack
  rw [ck_n h hN, nI_1, sb_var, sb_nI, nI_clamp (by omega)]
  exact ⟨_, rfl, rL_push hc⟩
theorem len1 (O : List Nat) (v : Nat) : (O ++ [v]).length = O.length + 1 := by simp
/-- n bytes of a number, the lowest first, from the j-th on -/
def low (v : Nat) : Nat → Nat → List Nat
  | _, 0 => []
  | j, n + 1 => (v / 2 ^ (8 * j) % 256) :: low v (j + 1) n
theorem low_len (v : Nat) : ∀ (n j : Nat), (low v j n).length = n
  | 0, _ => rfl
  | n + 1, j => by rw [low, List.length_cons, low_len v n]
theorem low_by (v : Nat) : ∀ (n j : Nat), by_ (low v j n)
  | 0, _ => by_nil
  | n + 1, j => by rw [low]; exact by_cons (Nat.mod_lt _ (by decide)) (low_by v n (j + 1))
theorem eight {j : Nat} : (8 : Int32) * nI j = nI (8 * j) := pk_mul 8 j
theorem us_j (w : Int32) {j : Nat} (hj : j < 4) : (ushr w ((8 : Int32) * nI j)) &&& 255 = nI (w.toBitVec.toNat / 2 ^ (8 * j) % 256) := by
  rw [eight, pk_and _ 8 (by decide)]
  unfold ushr
  rw [pk_ushr w (nI (8 * j)) (8 * j) (s_u (8 * j) (by omega))]
theorem low_c (K : Nat) {N n : Nat} {w : Int32} (hn : n ≤ 4) (hN : N < 2 ^ 31) : ∀ (q j : Nat) (O : List Nat) (c : Nat → Int32), cL c O → j ≤ n → n - j < q → O.length + (n - j) ≤ N → ∃ c', f_X1_putLowestFirst_b2 K N w (nI n) q (nI O.length) c (nI j) = some (nI (O.length + (n - j)), c') ∧ cL c' (O ++ low w.toBitVec.toNat j (n - j)) := by
  intro q
  induction q with
  | zero => intro j O c _ _ h; omega
  | succ q ih =>
    intro j O c hc hj hq hl
    rw [f_X1_putLowestFirst_b2]
    rcases Nat.eq_or_lt_of_le hj with e | e
    · subst e
      rw [if_pos (nI_le (Nat.le_refl _) (by omega)), Nat.sub_self, low, List.append_nil]
      exact ⟨c, rfl, hc⟩
    · rw [if_neg (nI_ge e (by omega)), us_j w (by omega)]
      obtain ⟨c1, f1, g1⟩ := cput K (v := w.toBitVec.toNat / 2 ^ (8 * j) % 256) hc (show O.length < N by omega) hN
      rw [f1, sob, nI_1]
      obtain ⟨c', h2, h3⟩ := ih (j + 1) _ c1 g1 e (by omega) (by rw [len1]; omega)
      rw [len1] at h2
      refine ⟨c', ?_, ?_⟩
      · rw [h2, show O.length + 1 + (n - (j + 1)) = O.length + (n - j) by omega]
      · rw [show n - j = (n - (j + 1)) + 1 by omega, low]
        rw [List.append_assoc] at h3
        exact h3
theorem low_ok (K : Nat) (hK : 5 < K) {N n : Nat} {w : Int32} {O : List Nat} {c : Nat → Int32} (hc : cL c O) (hn : n ≤ 4) (hl : O.length + n ≤ N) (hN : N < 2 ^ 31) : ∃ c', f_X1_putLowestFirst K (nI O.length) N c w (nI n) = some (nI (O.length + n), c') ∧ cL c' (O ++ low w.toBitVec.toNat 0 n) := by
  unfold f_X1_putLowestFirst
  exact low_c K hn hN K 0 O c hc (Nat.zero_le _) (by omega) (by omega)
/-- the LENGTH -/
def vnt : Nat → Nat → List Nat
  | 0, n => [n]
  | f + 1, n => if n < 128 then [n] else (n % 128 + 128) :: vnt f (n / 128)
theorem or128 : ∀ a, a < 128 → nI a ||| 128 = nI (a + 128) ∧ 128 ||| nI a = nI (a + 128) := by decide +kernel
theorem and127 {x : Nat} (h : x < 2 ^ 31) : nI x &&& 127 = nI (x % 128) := pk_andN (by omega) 7 (by decide)
theorem ush7 {x : Nat} (h : x < 2 ^ 31) : ushr (nI x) 7 = nI (x / 128) := by
  unfold ushr; rw [pk_ushrN (by omega) 7 7 (by decide)]
theorem sh7 {x : Nat} (h : x < 2 ^ 31) : nI x >>> ((7 : Int32) &&& 31) = nI (x / 128) := pk_shrN h _ 7 (by decide)
theorem vnt_by : ∀ (f n : Nat), n < 256 ∨ n < 128 ^ (f + 1) → by_ (vnt f n)
  | 0, n, h => by_one (by rcases h with h | h <;> omega)
  | f + 1, n, h => by
    rw [vnt]
    by_cases q : n < 128
    · rw [if_pos q]; exact by_one (by omega)
    · rw [if_neg q]
      refine by_cons (by omega) (vnt_by f _ ?_)
      rcases h with h | h
      · exact Or.inl (by omega)
      · exact Or.inr (by
          rw [Nat.pow_succ] at h
          exact Nat.div_lt_of_lt_mul (by rw [Nat.mul_comm]; exact h))
theorem len_c (K : Nat) {N : Nat} {p1 : Int32} (hN : N < 2 ^ 31) : ∀ (f q j x : Nat) (O : List Nat) (c : Nat → Int32), cL c O → j + f = 5 → f < q → x < 2 ^ 31 → O.length + f + 1 ≤ N → ∃ c', f_X2_putLength_b4 K N p1 q (nI O.length) c (nI x) (nI j) = some (nI (O ++ vnt f x).length, c') ∧ cL c' (O ++ vnt f x) := by
  intro f
  induction f with
  | zero =>
    intro q j x O c hc hj hq hx hl
    obtain ⟨q, rfl⟩ : ∃ k, q = k + 1 := ⟨q - 1, by omega⟩
    rw [f_X2_putLength_b4, if_pos (show (5 : Int32) ≤ nI j from nI_le (a := 5) (by omega) (by omega))]
    obtain ⟨c1, f1, g1⟩ := cput K (v := x) hc (show O.length < N by omega) hN
    unfold f_X2_putLength_b41
    rw [f1, sob, vnt, len1]
    exact ⟨c1, rfl, g1⟩
  | succ f ih =>
    intro q j x O c hc hj hq hx hl
    obtain ⟨q, rfl⟩ : ∃ k, q = k + 1 := ⟨q - 1, by omega⟩
    rw [f_X2_putLength_b4, if_neg (show ¬ (5 : Int32) ≤ nI j from nI_ge (b := 5) (by omega) (by decide)), vnt]
    by_cases h : x < 128
    · rw [if_pos h, if_pos (show nI x ≤ (127 : Int32) from nI_le (b := 127) (by omega) (by decide))]
      obtain ⟨c1, f1, g1⟩ := cput K (v := x) hc (show O.length < N by omega) hN
      unfold f_X2_putLength_b41
      rw [f1, sob, len1]
      exact ⟨c1, rfl, g1⟩
    · rw [if_neg h, if_neg (show ¬ nI x ≤ (127 : Int32) from nI_ge (a := 127) (by omega) hx), and127 hx, (or128 (x % 128) (Nat.mod_lt _ (by decide))).1]
      obtain ⟨c1, f1, g1⟩ := cput K (v := x % 128 + 128) hc (show O.length < N by omega) hN
      rw [f1, sob, ush7 hx, nI_1]
      obtain ⟨c', h2, h3⟩ := ih q (j + 1) (x / 128) _ c1 g1 (by omega) (by omega) (by omega) (by rw [len1]; omega)
      rw [len1] at h2
      rw [List.append_assoc] at h2 h3
      exact ⟨c', h2, h3⟩
/-- a LITERAL -/
def ltag (u : Nat) : List Nat := if u < 60 then [4 * u] else if u < 256 then 240 :: low u 0 1 else 244 :: low u 0 2
def litL (M : List Nat) : List Nat := if M.length = 0 then [] else ltag (M.length - 1) ++ M
theorem ltag_by {u : Nat} : by_ (ltag u) := by
  unfold ltag
  by_cases h : u < 60
  · rw [if_pos h]; exact by_one (by omega)
  · rw [if_neg h]
    by_cases h2 : u < 256
    · rw [if_pos h2]; exact by_cons (by decide) (low_by _ _ _)
    · rw [if_neg h2]; exact by_cons (by decide) (low_by _ _ _)
theorem litL_by {M : List Nat} (h : by_ M) : by_ (litL M) := by
  unfold litL
  by_cases h2 : M.length = 0
  · rw [if_pos h2]; exact by_nil
  · rw [if_neg h2]; exact by_app ltag_by h
theorem ltag_len (u : Nat) : (ltag u).length = if u < 60 then 1 else if u < 256 then 2 else 3 := by
  unfold ltag
  by_cases h : u < 60
  · rw [if_pos h, if_pos h]; rfl
  · rw [if_neg h, if_neg h]
    by_cases h2 : u < 256
    · rw [if_pos h2, if_pos h2]; rfl
    · rw [if_neg h2, if_neg h2]; rfl
theorem litL_len (M : List Nat) : (litL M).length = if M.length = 0 then 0 else M.length + (if M.length - 1 < 60 then 1 else if M.length - 1 < 256 then 2 else 3) := by
  unfold litL
  by_cases h2 : M.length = 0
  · rw [if_pos h2, if_pos h2]; rfl
  · rw [if_neg h2, if_neg h2, List.length_append, ltag_len]; omega
theorem shl2 {u : Nat} (h : u < 2 ^ 20) : (nI u <<< ((2 : Int32) &&& 31)) = nI (4 * u) := by
  rw [pk_shlN _ 2 (by decide) (by omega)]; congr 1; omega
theorem or_0 (x : Int32) : x ||| 0 = x := by
  apply b_ext; intro i hi; rw [b_or, b_0]; simp
theorem lit_c (K : Nat) (hK : 5 < K) {N N2 i k : Nat} {O L : List Nat} {c a : Nat → Int32} (hc : cL c O) (ha : cL a L) (hL : L.length ≤ N2) (hN2 : N2 < 65536) (hik : i + k ≤ L.length) (hl : O.length + (litL (seg L i k)).length ≤ N) (hN : N < 2 ^ 30) : ∃ c', f_X2_putLiteral K (nI O.length) N c (nI L.length) N2 a (nI i) (nI k) = some (nI (O ++ litL (seg L i k)).length, c') ∧ cL c' (O ++ litL (seg L i k)) := by
  have hsl := seg_len hik
  unfold f_X2_putLiteral
  rw [litL_len, hsl] at hl
  unfold litL
  rw [hsl]
  rcases Nat.eq_zero_or_pos k with h0 | h0
  · subst h0
    rw [if_neg (show ¬ (0 : Int32) < nI 0 by decide), if_pos rfl, List.append_nil]
    exact ⟨c, rfl, hc⟩
  · rw [if_neg (by omega)] at hl
    rw [if_pos (show (0 : Int32) < nI k from nI_lt (a := 0) h0 (by omega)), if_neg (show ¬ k = 0 by omega), show nI k - (1 : Int32) = nI (k - 1) from pk_sub (b := 1) h0]
    unfold ltag f_X2_putLiteral_b46 f_X2_putLiteral_b75
    by_cases h1 : k - 1 < 60
    · rw [if_pos h1] at hl
      rw [if_pos h1, if_neg (show ¬ (60 : Int32) ≤ nI (k - 1) from nI_ge (b := 60) h1 (by decide)), shl2 (by omega), or_0]
      obtain ⟨c1, f1, g1⟩ := cput K (v := 4 * (k - 1)) hc (show O.length < N by omega) (by omega)
      rw [f1, sob]
      obtain ⟨c2, f2, g2⟩ := putAll_ok K (N := N) (N2 := N2) (i := i) (k := k) g1 ha hL hik (by rw [len1]; omega) hN (by omega)
      rw [len1] at f2
      rw [f2, sob]
      refine ⟨c2, ?_, by rw [List.append_assoc] at g2; exact g2⟩
      rw [List.length_append, List.length_append, hsl]; simp only [List.length_cons, List.length_nil]; rw [show O.length + (0 + 1 + k) = O.length + 1 + k by omega]
    · rw [if_neg h1] at hl
      rw [if_neg h1, if_pos (show (60 : Int32) ≤ nI (k - 1) from nI_le (a := 60) (by omega) (by omega))]
      by_cases h2 : k - 1 < 256
      · rw [if_pos h2] at hl
        rw [if_pos h2, if_neg (show ¬ (256 : Int32) ≤ nI (k - 1) from nI_ge (b := 256) h2 (by decide)), show (((59 : Int32) + 1) <<< ((2 : Int32) &&& 31)) ||| (0 : Int32) = nI 240 from by decide]
        obtain ⟨c1, f1, g1⟩ := cput K (v := 240) hc (show O.length < N by omega) (by omega)
        rw [f1, sob]
        obtain ⟨c2, f2, g2⟩ := low_ok K hK (n := 1) (w := nI (k - 1)) (N := N) g1 (by omega) (by rw [len1]; omega) (by omega)
        rw [len1] at f2
        rw [pk_tn (by omega)] at g2
        rw [show (1 : Int32) = nI 1 from rfl, f2, sob]
        obtain ⟨c3, f3, g3⟩ := putAll_ok K (N := N) (N2 := N2) (i := i) (k := k) g2 ha hL hik (by rw [List.length_append, len1, low_len]; omega) hN (by omega)
        rw [List.length_append, len1, low_len] at f3
        rw [f3, sob]
        refine ⟨c3, ?_, by simpa [List.append_assoc] using g3⟩
        simp only [List.length_append, List.length_cons, low_len, hsl]; rw [show O.length + (1 + 1 + k) = O.length + 1 + 1 + k by omega]
      · rw [if_neg h2] at hl
        rw [if_neg h2, if_pos (show (256 : Int32) ≤ nI (k - 1) from nI_le (a := 256) (by omega) (by omega)), show (((59 : Int32) + 2) <<< ((2 : Int32) &&& 31)) ||| (0 : Int32) = nI 244 from by decide]
        obtain ⟨c1, f1, g1⟩ := cput K (v := 244) hc (show O.length < N by omega) (by omega)
        rw [f1, sob]
        obtain ⟨c2, f2, g2⟩ := low_ok K hK (n := 2) (w := nI (k - 1)) (N := N) g1 (by omega) (by rw [len1]; omega) (by omega)
        rw [len1] at f2
        rw [pk_tn (by omega)] at g2
        rw [show (2 : Int32) = nI 2 from rfl, f2, sob]
        obtain ⟨c3, f3, g3⟩ := putAll_ok K (N := N) (N2 := N2) (i := i) (k := k) g2 ha hL hik (by rw [List.length_append, len1, low_len]; omega) hN (by omega)
        rw [List.length_append, len1, low_len] at f3
        rw [f3, sob]
        refine ⟨c3, ?_, by simpa [List.append_assoc] using g3⟩
        simp only [List.length_append, List.length_cons, low_len, hsl]; rw [show O.length + (2 + 1 + k) = O.length + 1 + 2 + k by omega]
theorem sb_pack {x b : Nat} (hb : b < 256) (h : x = b) : True := trivial
/-- the reference packs a byte of its tape -/
theorem mpackb (K : Nat) {N b : Nat} {O : List Nat} {c : Nat → Int32} (hb : b < 256) (hc : mL c O) (h : O.length < N) (hN : N < 2 ^ 31) : ∃ c', f_X7_pack K (nI O.length) N c (sb_b b) = some (nI (O.length + 1), c') ∧ mL c' (O ++ [b]) := by
  unfold f_X7_pack
  have e : (sb_b b).toInt8.toInt32 = sb_b b := pk_vb (nI b)
  rw [ck_n h hN, nI_1, sb_var, e, nI_clamp (by omega)]
  exact ⟨_, rfl, rL_push hc⟩
theorem litm_b (K : Nat) {N i k : Nat} {L : List Nat} {a : Nat → Int32} (ha : mL a L) (hb : by_ L) (hL : L.length ≤ 20000) (hik : i + k ≤ L.length) (hN : N < 2 ^ 31) : ∀ (q j : Nat) (O : List Nat) (c : Nat → Int32), mL c O → j ≤ k → k - j < q → O.length + (k - j) ≤ N → ∃ c', f_X7_literal_b104 K 20000 a N (nI i) (nI (i + k)) q (nI O.length) c (nI (i + j)) = some (nI (O.length + (k - j)), c') ∧ mL c' (O ++ seg L (i + j) (k - j)) := by
  intro q
  induction q with
  | zero => intro j O c _ _ h; omega
  | succ q ih =>
    intro j O c hc hj hq hl
    rw [f_X7_literal_b104]
    rcases Nat.eq_or_lt_of_le hj with e | e
    · subst e
      rw [if_pos (nI_le (Nat.le_refl _) (by omega)), Nat.sub_self, seg_0, List.append_nil]
      exact ⟨c, rfl, hc⟩
    · rw [if_neg (nI_ge (by omega) (by omega)), ck_n (by omega) (by decide), nI_clamp (by omega), ha (i + j) (by omega)]
      obtain ⟨c1, f1, g1⟩ := mpackb K (hb (i + j)) hc (show O.length < N by omega) hN
      rw [f1, sob, nI_1]
      obtain ⟨c', h2, h3⟩ := ih (j + 1) _ c1 g1 e (by omega) (by rw [len1]; omega)
      rw [len1] at h2
      refine ⟨c', ?_, ?_⟩
      · rw [show i + j + 1 = i + (j + 1) by omega, h2, show O.length + 1 + (k - (j + 1)) = O.length + (k - j) by omega]
      · rw [show k - j = (k - (j + 1)) + 1 by omega, seg_cons (by omega)]
        rw [List.append_assoc] at h3
        exact h3
theorem litm_l (K : Nat) (hK : 20002 < K) {N i k u n : Nat} {L : List Nat} {a : Nat → Int32} (ha : mL a L) (hb : by_ L) (hL : L.length ≤ 20000) (hik : i + k ≤ L.length) (hN : N < 2 ^ 31) (hn : n ≤ 3) (hu : u < 2 ^ 31) : ∀ (q j : Nat) (O : List Nat) (c : Nat → Int32), mL c O → j ≤ n → n - j < q → O.length + (n - j) + k ≤ N → ∃ c', f_X7_literal_b72 K 20000 a N (nI i) (nI (i + k)) q (nI O.length) c (nI u) (nI n) (nI j) = some (nI (O.length + (n - j) + k), c') ∧ mL c' (O ++ (low u j (n - j) ++ seg L i k)) := by
  intro q
  induction q with
  | zero => intro j O c _ _ h; omega
  | succ q ih =>
    intro j O c hc hj hq hl
    rw [f_X7_literal_b72]
    rcases Nat.eq_or_lt_of_le hj with e | e
    · subst e
      rw [if_pos (nI_le (Nat.le_refl _) (by omega)), Nat.sub_self, low, List.nil_append]
      have := litm_b K ha hb hL hik hN K 0 O c hc (Nat.zero_le _) (by omega) (by omega)
      exact this
    · rw [if_neg (nI_ge e (by omega)), eight, pk_shrN hu (nI (8 * j) &&& 31) (8 * j) (s_l (8 * j) (by omega)), pk_andN (by
        have : u / 2 ^ (8 * j) ≤ u := Nat.div_le_self _ _
        omega) 8 (by decide)]
      obtain ⟨c1, f1, g1⟩ := mput K (v := u / 2 ^ (8 * j) % 2 ^ 8) hc (show O.length < N by omega) hN
      rw [Nat.mod_mod] at g1
      rw [f1, sob, nI_1]
      obtain ⟨c', h2, h3⟩ := ih (j + 1) _ c1 g1 e (by omega) (by rw [len1]; omega)
      rw [len1] at h2
      refine ⟨c', ?_, ?_⟩
      · rw [h2, show O.length + 1 + (n - (j + 1)) + k = O.length + (n - j) + k by omega]
      · rw [show n - j = (n - (j + 1)) + 1 by omega, low]
        rw [List.append_assoc] at h3
        exact h3
theorem lit_m (K : Nat) (hK : 20002 < K) {N i k : Nat} {O L : List Nat} {c a : Nat → Int32} (hc : mL c O) (ha : mL a L) (hb : by_ L) (hL : L.length ≤ 20000) (hik : i + k ≤ L.length) (hl : O.length + (litL (seg L i k)).length ≤ N) (hN : N < 2 ^ 30) : ∃ c', f_X7_literal K (nI O.length) 20000 a N c (nI i) (nI (i + k)) = some (nI (O ++ litL (seg L i k)).length, c') ∧ mL c' (O ++ litL (seg L i k)) := by
  have hsl := seg_len hik
  unfold f_X7_literal
  rw [litL_len, hsl] at hl
  unfold litL
  rw [hsl, pk_sub (by omega), Nat.add_sub_cancel_left]
  rcases Nat.eq_zero_or_pos k with h0 | h0
  · subst h0
    rw [if_pos (show nI 0 = 0 from rfl), if_pos rfl, List.append_nil]
    exact ⟨c, rfl, hc⟩
  · rw [if_neg (by omega)] at hl
    rw [if_neg (nI_ne0 h0 (by omega)), if_neg (show ¬ k = 0 by omega), show nI k - (1 : Int32) = nI (k - 1) from pk_sub (b := 1) h0]
    unfold ltag f_X7_literal_b56
    by_cases h1 : k - 1 < 60
    · rw [if_pos h1] at hl
      rw [if_pos h1, if_neg (show ¬ (60 : Int32) ≤ nI (k - 1) from nI_ge (b := 60) h1 (by decide)), shl2 (by omega)]
      obtain ⟨c1, f1, g1⟩ := mput K (v := 4 * (k - 1)) hc (show O.length < N by omega) (by omega)
      rw [Nat.mod_eq_of_lt (by omega)] at g1
      rw [f1, sob]
      obtain ⟨c2, f2, g2⟩ := litm_b K (N := N) ha hb hL hik (by omega) K 0 _ c1 g1 (Nat.zero_le _) (by omega) (by rw [len1]; omega)
      rw [len1, show i + 0 = i from rfl, Nat.sub_zero] at f2
      rw [f2]
      refine ⟨c2, ?_, by rw [List.append_assoc] at g2; exact g2⟩
      rw [List.length_append, List.length_append, hsl]; simp only [List.length_cons, List.length_nil]; rw [show O.length + (0 + 1 + k) = O.length + 1 + k by omega]
    · rw [if_neg h1] at hl
      rw [if_neg h1, if_pos (show (60 : Int32) ≤ nI (k - 1) from nI_le (a := 60) (by omega) (by omega))]
      by_cases h2 : k - 1 < 256
      · rw [if_pos h2] at hl
        rw [if_pos h2, if_neg (show ¬ (256 : Int32) ≤ nI (k - 1) from nI_ge (b := 256) h2 (by decide)), show (((59 : Int32) + 1) <<< ((2 : Int32) &&& 31)) = nI 240 from by decide]
        obtain ⟨c1, f1, g1⟩ := mput K (v := 240) hc (show O.length < N by omega) (by omega)
        rw [f1, sob]
        obtain ⟨c2, f2, g2⟩ := litm_l K hK (N := N) (n := 1) (u := k - 1) ha hb hL hik (by omega) (by omega) (by omega) K 0 _ c1 g1 (Nat.zero_le _) (by omega) (by rw [len1]; omega)
        rw [len1] at f2
        rw [show (1 : Int32) = nI 1 from rfl, show (0 : Int32) = nI 0 from rfl, f2]
        refine ⟨c2, ?_, by simpa [List.append_assoc] using g2⟩
        simp only [List.length_append, List.length_cons, low_len, hsl]; rw [show O.length + (1 + 1 + k) = O.length + 1 + (1 - 0) + k by omega]
      · rw [if_neg h2] at hl
        rw [if_neg h2, if_pos (show (256 : Int32) ≤ nI (k - 1) from nI_le (a := 256) (by omega) (by omega)), if_neg (show ¬ (65536 : Int32) ≤ nI (k - 1) from nI_ge (b := 65536) (by omega) (by decide)), show (((59 : Int32) + 2) <<< ((2 : Int32) &&& 31)) = nI 244 from by decide]
        obtain ⟨c1, f1, g1⟩ := mput K (v := 244) hc (show O.length < N by omega) (by omega)
        rw [f1, sob]
        obtain ⟨c2, f2, g2⟩ := litm_l K hK (N := N) (n := 2) (u := k - 1) ha hb hL hik (by omega) (by omega) (by omega) K 0 _ c1 g1 (Nat.zero_le _) (by omega) (by rw [len1]; omega)
        rw [len1] at f2
        rw [show (2 : Int32) = nI 2 from rfl, show (0 : Int32) = nI 0 from rfl, f2]
        refine ⟨c2, ?_, by simpa [List.append_assoc] using g2⟩
        simp only [List.length_append, List.length_cons, low_len, hsl]; rw [show O.length + (2 + 1 + k) = O.length + 1 + (2 - 0) + k by omega]
