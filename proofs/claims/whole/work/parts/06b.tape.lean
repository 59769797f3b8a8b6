/-! PURE ROWS 2: again, cut, set, take, tape; what is told of faults, rows, numbers -/
theorem place_1 (K : Nat) {i n : Nat} (h : i < n) (hn : n < 2 ^ 31) : f_X1_hasPlace K (nI n) (nI i) = some 1 := by
  unfold f_X1_hasPlace
  rw [if_neg (nI_pos (by omega)), if_neg (nI_ge h hn)]
theorem place_0 (K : Nat) {n : Nat} {x : Int32} (h : ¬ ∃ i, i < n ∧ x = nI i) : f_X1_hasPlace K (nI n) x = some 0 := by
  unfold f_X1_hasPlace
  by_cases h0 : x < 0
  · rw [if_pos h0]
  · obtain ⟨j, hj, rfl⟩ := nI_of h0
    rw [if_neg h0, if_pos (nI_le (Nat.le_of_not_lt fun q => h ⟨j, q, rfl⟩) hj)]
/-- n bytes from place i on come behind L, one by one -/
def own : List Nat → Nat → Nat → List Nat
  | L, _, 0 => L
  | L, i, n + 1 => own (L ++ [L.getD i 0]) (i + 1) n
theorem own_len : ∀ (n : Nat) (L : List Nat) (i : Nat), (own L i n).length = L.length + n
  | 0, L, i => rfl
  | n + 1, L, i => by rw [own, own_len n, List.length_append]; simp only [List.length_cons, List.length_nil]; omega
theorem own_by : ∀ (n : Nat) (L : List Nat) (i : Nat), by_ L → by_ (own L i n)
  | 0, L, i, h => h
  | n + 1, L, i, h => by rw [own]; exact own_by n _ _ (by_app h (by_one (h i)))
theorem own_c (K : Nat) {i k N : Nat} (hN : N < 2 ^ 30) (hk : k < 2 ^ 30) : ∀ (q j : Nat) (L : List Nat) (c : Nat → Int32), cL c L → i + j < L.length → j ≤ k → k - j < q → L.length + (k - j) ≤ N → ∃ c', f_X1_putOwn_b19 K N (nI i) (nI k) q (nI L.length) c (nI j) = some (nI (L.length + (k - j)), c') ∧ cL c' (own L (i + j) (k - j)) := by
  intro q
  induction q with
  | zero => intro j L c _ _ _ h; omega
  | succ q ih =>
    intro j L c hc hij hj hq hl
    rw [f_X1_putOwn_b19]
    rcases Nat.eq_or_lt_of_le hj with e | e
    · subst e
      rw [if_pos (nI_le (Nat.le_refl _) (by omega)), Nat.sub_self]
      exact ⟨c, rfl, hc⟩
    · rw [if_neg (nI_ge e (by omega)), nI_add, ck_n (show i + j < N by omega) (by omega), ck_n (show L.length < N by omega) (by omega), nI_1, nI_1, nI_clamp (by omega), nI_clamp (by omega), hc _ hij]
      have h1 := rL_push (v := L.getD (i + j) 0) hc
      have e1 : ∀ v : Nat, (L ++ [v]).length = L.length + 1 := fun v => by simp
      obtain ⟨c', h2, h3⟩ := ih (j + 1) _ _ h1 (by rw [e1]; omega) e (by omega) (by rw [e1]; omega)
      rw [e1] at h2
      refine ⟨c', ?_, ?_⟩
      · rw [h2]; congr 3; omega
      · have e3 : k - j = (k - (j + 1)) + 1 := by omega
        rw [e3, own]; exact h3
theorem own_m (K : Nat) {i k : Nat} {th : Int32} (hk : k < 2 ^ 30) : ∀ (q j : Nat) (L : List Nat) (c : Nat → Int32), mL c L → i + j < L.length → j ≤ k → k - j < q → L.length + (k - j) ≤ 20000 → ∃ c', f_X7_again_b37 K 20000 (nI i) (nI k) q (nI L.length) th c (nI j) = some (nI (L.length + (k - j)), nI (L.length + (k - j)), th, c') ∧ mL c' (own L (i + j) (k - j)) := by
  intro q
  induction q with
  | zero => intro j L c _ _ _ h; omega
  | succ q ih =>
    intro j L c hc hij hj hq hl
    rw [f_X7_again_b37]
    rcases Nat.eq_or_lt_of_le hj with e | e
    · subst e
      rw [if_pos (nI_le (Nat.le_refl _) (by omega)), Nat.sub_self]
      exact ⟨c, rfl, hc⟩
    · rw [if_neg (nI_ge e (by omega)), nI_add, ck_n (show i + j < 20000 by omega) (by omega), ck_n (show L.length < 20000 by omega) (by omega), nI_1, nI_1, nI_clamp (by omega), nI_clamp (by omega), hc _ hij, sb_keep]
      have h1 := rL_push (v := L.getD (i + j) 0) hc
      have e1 : ∀ v : Nat, (L ++ [v]).length = L.length + 1 := fun v => by simp
      obtain ⟨c', h2, h3⟩ := ih (j + 1) _ _ h1 (by rw [e1]; omega) e (by omega) (by rw [e1]; omega)
      rw [e1] at h2
      refine ⟨c', ?_, ?_⟩
      · rw [h2, show L.length + 1 + (k - (j + 1)) = L.length + (k - j) by omega]
      · have e3 : k - j = (k - (j + 1)) + 1 := by omega
        rw [e3, own]; exact h3
theorem putOwn_ok (K : Nat) {i k N : Nat} {L : List Nat} {c : Nat → Int32} (hK : k + 1 < K) (hN : N < 2 ^ 30) (hc : cL c L) (hi : i < L.length) (hl : L.length + k ≤ N) : ∃ c', f_X1_putOwn K (nI L.length) N c (nI i) (nI k) = some (nI (L.length + k), c') ∧ cL c' (own L i k) := by
  unfold f_X1_putOwn
  rw [place_1 K hi (by omega), sob, i10, room_1' K (by omega) hN (by omega), sob, i10]
  have h := own_c K (i := i) (k := k) hN (by omega) K 0 L c hc hi (Nat.zero_le _) (by omega) (by omega)
  rw [Nat.sub_zero, Nat.add_zero] at h
  exact h
theorem s_again (K : Nat) (hK : 20001 < K) {L : List Nat} {c m : Nat → Int32} (hp : pair c m L) (hn : L.length ≤ 20000) (th p1 p2 : Int32) : ∃ (r : Int32) (L' : List Nat) (c' m' : Nat → Int32), f_X6_again K (nI L.length) 20000 c p1 p2 = some (r, nI L'.length, c') ∧ f_X7_again K (nI L.length) th 20000 m p1 p2 = some (r, nI L'.length, 0, m') ∧ pair c' m' L' ∧ L'.length ≤ 20000 := by
  obtain ⟨hb, hc, hm⟩ := id hp
  unfold f_X6_again f_X7_again
  by_cases hi : ∃ i, i < L.length ∧ p1 = nI i
  · obtain ⟨i, hi, rfl⟩ := hi
    rw [place_1 K hi (by omega), sob, i10, if_neg (nI_pos (by omega)), if_neg (nI_ge hi (by omega))]
    rcases in_or p2 (20000 - L.length) (by omega) with ⟨k, hk, rfl⟩ | ⟨h1, h2⟩
    · rw [room_1' K hn (by decide) hk, sob, i10, if_neg (nI_pos (by omega)), sub20 hn, if_pos (nI_le hk (by omega))]
      obtain ⟨c', f1, g1⟩ := putOwn_ok K (i := i) (k := k) (N := 20000) (by omega) (by decide) hc hi (by omega)
      obtain ⟨m', f2, g2⟩ := own_m K (i := i) (k := k) (th := 0) (by omega) K 0 L m hm hi (Nat.zero_le _) (by omega) (by omega)
      rw [Nat.sub_zero] at f2 g2
      have e := own_len k L i
      exact ⟨_, own L i k, c', m', by rw [e, f1, sob], by rw [e]; exact f2, ⟨own_by _ _ _ hb, g1, g2⟩, by rw [e]; omega⟩
    · rw [room_0 K hn (by decide) h2, sob, i00]
      refine ⟨_, L, _, m, rfl, ?_, hp, hn⟩
      rcases h1 with h1 | ⟨k, h3, h4, rfl⟩
      · rw [if_pos h1]
      · rw [if_neg (nI_pos h4), sub20 hn, if_neg (nI_ge h3 h4)]
  · rw [place_0 K hi, sob, i00]
    refine ⟨_, L, _, m, rfl, ?_, hp, hn⟩
    by_cases h0 : p1 < 0
    · rw [if_pos h0]
    · obtain ⟨j, hj, rfl⟩ := nI_of h0
      rw [if_neg h0, if_pos (nI_le (Nat.le_of_not_lt fun q => hi ⟨j, q, rfl⟩) hj)]
theorem has_1 (K : Nat) {n i k : Nat} (h : i + k ≤ n) (hn : n < 2 ^ 30) : f_X1_has K (nI n) (nI i) (nI k) = some 1 := by
  unfold f_X1_has
  rw [if_neg (nI_pos (by omega)), if_neg (nI_pos (by omega)), pk_sub (by omega), if_neg (nI_nlt (by omega) (by omega))]
theorem has_0 (K : Nat) {n : Nat} {x y : Int32} (hn : n < 2 ^ 30) (h : ¬ ∃ i k, i + k ≤ n ∧ x = nI i ∧ y = nI k) : f_X1_has K (nI n) x y = some 0 := by
  unfold f_X1_has
  by_cases h0 : x < 0
  · rw [if_pos h0]
  · by_cases h1 : y < 0
    · rw [if_neg h0, if_pos h1]
    · obtain ⟨i, hi, rfl⟩ := nI_of h0
      obtain ⟨k, hk, rfl⟩ := nI_of h1
      rw [if_neg h0, if_neg h1, if_pos]
      have hlt : n < i + k := Nat.lt_of_not_le fun q => h ⟨i, k, q, rfl, rfl⟩
      rcases Nat.lt_or_ge n k with q | q
      · -- n - k is below 0
        have : (nI n - nI k).toInt = (n : Int) - k := by
          rw [Int32.toInt_sub, nI_toInt (by omega), nI_toInt hk]
          exact Int.bmod_eq_of_le (by omega) (by omega)
        rw [Int32.lt_iff_toInt_lt, this, nI_toInt hi]; omega
      · rw [pk_sub q]; exact nI_lt (by omega) hi
theorem s_cut (K : Nat) {L : List Nat} {c m : Nat → Int32} (hp : pair c m L) (hn : L.length ≤ 20000) (th p1 : Int32) : ∃ (r : Int32) (L' : List Nat), f_X6_cut K (nI L.length) p1 = some (r, nI L'.length) ∧ f_X7_cut K (nI L.length) th p1 = some (r, nI L'.length, 0) ∧ pair c m L' ∧ L'.length ≤ 20000 := by
  obtain ⟨hb, hc, hm⟩ := id hp
  unfold f_X6_cut f_X7_cut f_X1_shorten
  rcases in_or p1 L.length (by omega) with ⟨k, hk, rfl⟩ | ⟨h1, h2⟩
  · rw [show (0 : Int32) = nI 0 from rfl, has_1 K (by omega) (by omega), sob, show nI 0 = (0 : Int32) from rfl, i10, sob, i10, sob, if_neg (nI_pos (by omega)), if_pos (nI_le hk (by omega))]
    have e : (L.take k).length = k := by rw [List.length_take]; omega
    exact ⟨_, L.take k, by rw [e], by rw [e], ⟨by_take hb, rL_take hc, rL_take hm⟩, by rw [e]; omega⟩
  · rw [has_0 K (by omega) (by
      rintro ⟨i, k, h3, h4, h5⟩
      exact h2 ⟨k, by omega, h5⟩), sob, i00]
    refine ⟨_, L, rfl, ?_, hp, hn⟩
    rcases h1 with h1 | ⟨k, h3, h4, rfl⟩
    · rw [if_pos h1]
    · rw [if_neg (nI_pos h4), if_neg (nI_ge h3 h4)]
theorem at_1 (K : Nat) {i N : Nat} {L : List Nat} {c : Nat → Int32} (hc : cL c L) (hi : i < L.length) (hl : L.length ≤ N) (hN : N < 2 ^ 31) : f_X1_at K (nI L.length) N c (nI i) = some (nI (L.getD i 0)) := by
  unfold f_X1_at
  rw [if_neg (nI_pos (by omega)), if_neg (nI_ge hi (by omega)), ck_n (by omega) hN, nI_clamp (by omega), hc i hi]
theorem at_0 (K : Nat) {N n : Nat} {c : Nat → Int32} {x : Int32} (h : ¬ ∃ i, i < n ∧ x = nI i) : f_X1_at K (nI n) N c x = some (-1) := by
  unfold f_X1_at
  by_cases h0 : x < 0
  · rw [if_pos h0]
  · obtain ⟨j, hj, rfl⟩ := nI_of h0
    rw [if_neg h0, if_pos (nI_le (Nat.le_of_not_lt fun q => h ⟨j, q, rfl⟩) hj)]
theorem s_set (K : Nat) {L : List Nat} {c m : Nat → Int32} (hp : pair c m L) (hn : L.length ≤ 20000) (th p1 p2 : Int32) : ∃ (r : Int32) (L' : List Nat) (c' m' : Nat → Int32), f_X6_set K (nI L.length) 20000 c p1 p2 = some (r, c') ∧ f_X7_set K (nI L.length) th 20000 m p1 p2 = some (r, 0, m') ∧ pair c' m' L' ∧ L'.length = L.length := by
  obtain ⟨hb, hc, hm⟩ := id hp
  unfold f_X6_set f_X7_set f_X1_change
  by_cases hi : ∃ i, i < L.length ∧ p1 = nI i
  · obtain ⟨i, hi, rfl⟩ := hi
    rw [place_1 K hi (by omega), sob, i10, if_neg (nI_pos (by omega)), if_neg (nI_ge hi (by omega))]
    rcases in_or p2 255 (by decide) with ⟨b, hb1, rfl⟩ | ⟨h1, h2⟩
    · rw [byte_1 K (by omega), sob, i10, at_1 K hc hi hn (by decide), sob, sob, i10, ck_n (by omega) (by decide), sob, if_neg (nI_pos (by omega)), if_pos (show nI b ≤ (255 : Int32) from nI_le (b := 255) hb1 (by decide)), ck_n (by omega) (by decide), ck_n (by omega) (by decide), nI_clamp (by omega), hm i hi, sb_and (hb i), sb_var]
      exact ⟨_, L.set i b, _, _, rfl, rfl, ⟨by_set hb hi (by omega), rL_set hc hi, rL_set hm hi⟩, by simp⟩
    · rw [byte_0 K (by rintro ⟨b, q, e⟩; exact h2 ⟨b, by omega, e⟩), sob, i00]
      refine ⟨_, L, _, m, rfl, ?_, hp, rfl⟩
      rcases h1 with h1 | ⟨k, h3, h4, rfl⟩
      · rw [if_pos h1]
      · rw [if_neg (nI_pos h4), if_neg (show ¬ nI k ≤ (255 : Int32) from nI_ge (a := 255) h3 h4)]
  · rw [place_0 K hi, sob, i00]
    refine ⟨_, L, _, m, rfl, ?_, hp, rfl⟩
    by_cases h0 : p1 < 0
    · rw [if_pos h0]
    · obtain ⟨j, hj, rfl⟩ := nI_of h0
      rw [if_neg h0, if_pos (nI_le (Nat.le_of_not_lt fun q => hi ⟨j, q, rfl⟩) hj)]
theorem s_tape (K : Nat) {L : List Nat} {c m : Nat → Int32} (hp : pair c m L) (hn : L.length ≤ 20000) (th p1 : Int32) : ∃ r : Int32, f_X6_tape K (nI L.length) 20000 c p1 = some r ∧ f_X7_tape K (nI L.length) th 20000 m p1 = some (r, 0) := by
  obtain ⟨hb, hc, hm⟩ := id hp
  unfold f_X6_tape f_X7_tape
  by_cases hi : ∃ i, i < L.length ∧ p1 = nI i
  · obtain ⟨i, hi, rfl⟩ := hi
    rw [at_1 K hc hi hn (by decide), sob, if_neg (nI_pos (by omega)), if_neg (nI_ge hi (by omega)), ck_n (by omega) (by decide), nI_clamp (by omega), hm i hi, sb_and (hb i)]
    exact ⟨_, rfl, rfl⟩
  · rw [at_0 K hi, sob]
    refine ⟨_, rfl, ?_⟩
    by_cases h0 : p1 < 0
    · rw [if_pos h0]
    · obtain ⟨j, hj, rfl⟩ := nI_of h0
      rw [if_neg h0, if_pos (nI_le (Nat.le_of_not_lt fun q => hi ⟨j, q, rfl⟩) hj)]
/-- putAll, become -/
theorem ckc_n {α : Type} {sp dp n n0 n1 : Nat} {k : Option α} (h1 : sp + n ≤ n0) (h2 : dp + n ≤ n1) (hn0 : n0 < 2 ^ 31) (hn1 : n1 < 2 ^ 31) : ckc (nI sp) (nI dp) (nI n) n0 n1 k = k := by
  unfold ckc
  rw [if_neg]
  rw [nI_clamp (by omega), nI_clamp (by omega), nI_clamp (by omega)]
  rintro (h | h | h | h | h)
  · exact nI_pos (by omega) h
  · exact nI_pos (by omega) h
  · exact nI_pos (by omega) h
  · omega
  · omega
theorem putAll_ok (K : Nat) {N N2 i k : Nat} {L M : List Nat} {c a : Nat → Int32} (hc : cL c L) (ha : cL a M) (hM : M.length ≤ N2) (hik : i + k ≤ M.length) (hl : L.length + k ≤ N) (hN : N < 2 ^ 30) (hN2 : N2 < 2 ^ 30) : ∃ c', f_X1_putAll K (nI L.length) N c (nI M.length) N2 a (nI i) (nI k) = some (nI (L.length + k), c') ∧ cL c' (L ++ seg M i k) := by
  unfold f_X1_putAll
  rw [has_1 K hik (by omega), sob, i10, room_1' K (by omega) hN (by omega), sob, i10, ckc_n (by omega) hl (by omega) (by omega), nI_add, nI_clamp (by omega), nI_clamp (by omega), nI_clamp (by omega)]
  exact ⟨_, rfl, rL_cpy ha hc hik⟩
theorem become_ok (K : Nat) {N N2 : Nat} {M : List Nat} {x : Int32} {c a : Nat → Int32} (ha : cL a M) (hM : M.length ≤ N2) (hl : M.length ≤ N) (hN : N < 2 ^ 30) (hN2 : N2 < 2 ^ 30) : ∃ c', f_X1_become K x N c (nI M.length) N2 a = some (nI M.length, c') ∧ cL c' M := by
  obtain ⟨c', h1, h2⟩ := putAll_ok K (N := N) (N2 := N2) (i := 0) (k := M.length) (L := []) (M := M) (c := c) rL_nil ha hM (by omega) (by simpa using hl) hN hN2
  unfold f_X1_become
  rw [List.length_nil, Nat.zero_add] at h1
  rw [List.nil_append, seg_all] at h2
  refine ⟨c', ?_, h2⟩
  rw [show (0 : Int32) = nI 0 from rfl, h1, sob]
/-- byte by byte from one array into another: what it holds then -/
theorem take_m (K : Nat) {M : List Nat} {a : Nat → Int32} {x th : Int32} (ha : mL a M) (hM : M.length ≤ 20000) : ∀ (q i : Nat) (c : Nat → Int32), mL c (M.take i) → i ≤ M.length → M.length - i < q → ∃ c', f_X7_take_b19 K (nI M.length) 20000 24000 a q x th c (nI i) = some (nI M.length, nI M.length, th, c') ∧ mL c' M := by
  intro q
  induction q with
  | zero => intro i c _ _ h; omega
  | succ q ih =>
    intro i c hc hi hq
    rw [f_X7_take_b19]
    rcases Nat.eq_or_lt_of_le hi with e | e
    · subst e
      rw [if_pos (nI_le (Nat.le_refl _) (by omega))]
      rw [List.take_length] at hc
      exact ⟨c, rfl, hc⟩
    · rw [if_neg (nI_ge e (by omega)), ck_n (by omega) (by decide), ck_n (by omega) (by decide), nI_clamp (by omega), ha i e, sb_keep, nI_1]
      have h1 := rL_push (v := M.getD i 0) hc
      have e1 : (M.take i).length = i := by rw [List.length_take]; omega
      rw [e1] at h1
      refine ih (i + 1) _ ?_ e (by omega)
      have e2 : M.take (i + 1) = M.take i ++ [M.getD i 0] := by
        rw [List.take_add_one, List.getD_eq_getElem?_getD, List.getElem?_eq_getElem e]; rfl
      rw [e2]; exact h1
theorem s_take (K : Nat) (hK : 20001 < K) {L M : List Nat} {c m oc om : Nat → Int32} (hp : pair c m L) (ho : pair oc om M) (hn : L.length ≤ 20000) (hM : M.length ≤ 24000) (th : Int32) : ∃ (r : Int32) (L' : List Nat) (c' m' : Nat → Int32), f_X6_take K (nI L.length) 20000 c (nI M.length) 24000 oc = some (r, nI L'.length, c') ∧ f_X7_take K (nI L.length) (nI M.length) th 20000 m 24000 om = some (r, nI L'.length, 0, m') ∧ pair c' m' L' ∧ L'.length ≤ 20000 := by
  unfold f_X6_take f_X7_take
  rcases Nat.lt_or_ge 20000 M.length with h | h
  · have h1 : ¬ nI M.length ≤ (20000 : Int32) := nI_ge (a := 20000) h (by omega)
    rw [if_neg h1, if_neg h1]
    exact ⟨_, L, _, _, rfl, rfl, hp, hn⟩
  · have h1 : nI M.length ≤ (20000 : Int32) := nI_le (b := 20000) h (by decide)
    rw [if_pos h1, if_pos h1]
    obtain ⟨c', f1, g1⟩ := become_ok K (x := nI L.length) (N := 20000) (N2 := 24000) (c := c) ho.2.1 (by omega) h (by decide) (by decide)
    obtain ⟨m', f2, g2⟩ := take_m K (x := nI L.length) (th := 0) ho.2.2 h K 0 m (by rw [List.take_zero]; exact rL_nil) (Nat.zero_le _) (by omega)
    rw [f1, sob]
    exact ⟨_, M, c', m', rfl, f2, ⟨ho.1, g1, g2⟩, h⟩
