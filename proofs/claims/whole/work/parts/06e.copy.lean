/-! PURE ROWS 5: COPIES; what PRESSING gives, as the document tells it -/
def cop2 (k d : Nat) : List Nat := [(k - 1) * 4 + 2, d % 256, d / 256]
def copE (k d : Nat) : List Nat := if k < 12 ∧ d < 2048 then [d / 256 * 32 + (k - 4) * 4 + 1, d % 256] else cop2 k d
def copL : Nat → Nat → Nat → List Nat
  | 0, _, _ => []
  | f + 1, k, d => if k < 68 then (if k ≤ 64 then copE k d else cop2 60 d ++ copE (k - 60) d) else cop2 64 d ++ copL f (k - 64) d
theorem or2 : ∀ m, m < 64 → nI (4 * m) ||| 2 = nI (m * 4 + 2) := by decide +kernel
theorem or1 : ∀ a, a < 8 → ∀ b, b < 8 → (nI (a * 32) ||| nI (b * 4)) ||| 1 = nI (a * 32 + b * 4 + 1) := by decide +kernel
theorem tag2 {k : Nat} (h : 1 ≤ k) (h2 : k ≤ 64) : ((nI k - (1 : Int32)) <<< ((2 : Int32) &&& 31)) ||| (2 : Int32) = nI ((k - 1) * 4 + 2) := by
  rw [show nI k - (1 : Int32) = nI (k - 1) from pk_sub (b := 1) h, shl2 (by omega), or2 (k - 1) (by omega)]
theorem tag1 {k d : Nat} (h : 4 ≤ k) (h2 : k < 12) (hd : d < 2048) : (((nI d >>> ((8 : Int32) &&& 31)) <<< ((5 : Int32) &&& 31)) ||| ((nI k - (4 : Int32)) <<< ((2 : Int32) &&& 31))) ||| (1 : Int32) = nI (d / 256 * 32 + (k - 4) * 4 + 1) := by
  rw [pk_shrN (by omega) _ 8 (by decide), show nI k - (4 : Int32) = nI (k - 4) from pk_sub (b := 4) h, pk_shlN _ 5 (by decide) (by omega), pk_shlN _ 2 (by decide) (by omega)]
  exact or1 (d / 256) (by omega) (k - 4) (by omega)
theorem low2 {d : Nat} (hd : d < 65536) : low d 0 2 = [d % 256, d / 256] := by
  show [d / 2 ^ (8 * 0) % 256, d / 2 ^ (8 * (0 + 1)) % 256] = _
  rw [show 2 ^ (8 * 0) = 1 from rfl, show 2 ^ (8 * (0 + 1)) = 256 from rfl, Nat.div_one, Nat.mod_eq_of_lt (a := d / 256) (by omega)]
theorem and255 {d : Nat} (hd : d < 2 ^ 31) : nI d &&& (255 : Int32) = nI (d % 256) := pk_andN (by omega) 8 (by decide)
theorem app3 (O : List Nat) (a b c : Nat) : O ++ [a] ++ [b, c] = O ++ [a, b, c] := by simp
theorem cop2_c (K : Nat) (hK : 5 < K) {N k d : Nat} {O : List Nat} {c : Nat → Int32} (hc : cL c O) (h : 1 ≤ k) (h2 : k ≤ 64) (hd : d < 65536) (hl : O.length + 3 ≤ N) (hN : N < 2 ^ 30) : ∃ c', f_X2_putCopy K (nI O.length) N c (nI k) (nI d) = some (nI (O.length + 3), c') ∧ cL c' (O ++ cop2 k d) := by
  unfold f_X2_putCopy
  rw [tag2 h h2]
  obtain ⟨c1, f1, g1⟩ := cput K (v := (k - 1) * 4 + 2) hc (show O.length < N by omega) (by omega)
  rw [f1, sob]
  obtain ⟨c2, f2, g2⟩ := low_ok K hK (n := 2) (w := nI d) (N := N) g1 (by omega) (by rw [len1]; omega) (by omega)
  rw [len1] at f2
  rw [pk_tn (by omega), low2 hd, app3] at g2
  rw [show (2 : Int32) = nI 2 from rfl, f2, sob]
  exact ⟨c2, rfl, g2⟩
theorem cop2_m (K : Nat) {N k d : Nat} {O : List Nat} {c : Nat → Int32} (hc : mL c O) (h : 1 ≤ k) (h2 : k ≤ 64) (hd : d < 65536) (hl : O.length + 3 ≤ N) (hN : N < 2 ^ 30) : ∃ c', f_X7_copyTwo K (nI O.length) N c (nI k) (nI d) = some (nI (O.length + 3), c') ∧ mL c' (O ++ cop2 k d) := by
  unfold f_X7_copyTwo
  rw [tag2 h h2, and255 (by omega), pk_shrN (by omega) _ 8 (by decide)]
  obtain ⟨c1, f1, g1⟩ := mput K (v := (k - 1) * 4 + 2) hc (show O.length < N by omega) (by omega)
  rw [Nat.mod_eq_of_lt (by omega)] at g1
  obtain ⟨c2, f2, g2⟩ := mput K (v := d % 256) g1 (show (O ++ [(k - 1) * 4 + 2]).length < N by rw [len1]; omega) (by omega)
  rw [Nat.mod_mod] at g2
  obtain ⟨c3, f3, g3⟩ := mput K (v := d / 2 ^ 8) g2 (show (O ++ [(k - 1) * 4 + 2] ++ [d % 256]).length < N by rw [len1, len1]; omega) (by omega)
  rw [Nat.mod_eq_of_lt (show d / 2 ^ 8 < 256 by omega)] at g3
  rw [len1] at f2
  rw [len1, len1] at f3
  rw [f1, sob, f2, sob, f3, sob]
  refine ⟨c3, rfl, ?_⟩
  unfold cop2
  have e : O ++ [(k - 1) * 4 + 2] ++ [d % 256] ++ [d / 2 ^ 8] = O ++ [(k - 1) * 4 + 2, d % 256, d / 256] := by simp
  rw [← e]; exact g3
theorem copE_c (K : Nat) (hK : 5 < K) {N k d : Nat} {p1 : Int32} {O : List Nat} {c : Nat → Int32} (hc : cL c O) (h : 4 ≤ k) (h2 : k ≤ 64) (hd : d < 65536) (hl : O.length + 3 ≤ N) (hN : N < 2 ^ 30) : ∃ c', f_X2_putCopies_b37 K N p1 (nI d) (nI O.length) c (nI k) = some (nI (O ++ copE k d).length, c') ∧ cL c' (O ++ copE k d) := by
  unfold f_X2_putCopies_b37 f_X2_putCopies_b86 copE
  obtain ⟨c1, f1, g1⟩ := cop2_c K hK (N := N) (k := k) (d := d) hc (by omega) h2 hd hl hN
  have e2 : (O ++ cop2 k d).length = O.length + 3 := by rw [List.length_append]; rfl
  by_cases h3 : k < 12
  · rw [if_neg (show ¬ (12 : Int32) ≤ nI k from nI_ge (b := 12) h3 (by decide))]
    by_cases h4 : d < 2048
    · rw [if_neg (show ¬ (2048 : Int32) ≤ nI d from nI_ge (b := 2048) h4 (by decide)), if_pos ⟨h3, h4⟩, tag1 h h3 h4, and255 (by omega)]
      obtain ⟨c1, f1, g1⟩ := cput K (v := d / 256 * 32 + (k - 4) * 4 + 1) hc (show O.length < N by omega) (by omega)
      obtain ⟨c2, f2, g2⟩ := cput K (v := d % 256) g1 (show (O ++ [d / 256 * 32 + (k - 4) * 4 + 1]).length < N by rw [len1]; omega) (by omega)
      rw [len1] at f2
      rw [f1, sob, f2, sob]
      have e : O ++ [d / 256 * 32 + (k - 4) * 4 + 1] ++ [d % 256] = O ++ [d / 256 * 32 + (k - 4) * 4 + 1, d % 256] := by simp
      rw [e] at g2
      exact ⟨c2, by rw [List.length_append]; rfl, g2⟩
    · rw [if_pos (show (2048 : Int32) ≤ nI d from nI_le (a := 2048) (by omega) (by omega)), if_neg (fun q => h4 q.2), f1, sob, e2]
      exact ⟨c1, rfl, g1⟩
  · rw [if_pos (show (12 : Int32) ≤ nI k from nI_le (a := 12) (by omega) (by omega)), if_neg (fun q => h3 q.1), f1, sob, e2]
    exact ⟨c1, rfl, g1⟩
theorem copE_m (K : Nat) {N k d : Nat} {p1 : Int32} {O : List Nat} {c : Nat → Int32} (hc : mL c O) (h : 4 ≤ k) (h2 : k ≤ 64) (hd : d < 65536) (hl : O.length + 3 ≤ N) (hN : N < 2 ^ 30) : ∃ c', f_X7_copies_b37 K N p1 (nI d) (nI O.length) c (nI k) = some (nI (O ++ copE k d).length, c') ∧ mL c' (O ++ copE k d) := by
  unfold f_X7_copies_b37 f_X7_copies_b80 copE
  obtain ⟨c1, f1, g1⟩ := cop2_m K (N := N) (k := k) (d := d) hc (by omega) h2 hd hl hN
  have e2 : (O ++ cop2 k d).length = O.length + 3 := by rw [List.length_append]; rfl
  by_cases h3 : k < 12
  · rw [if_neg (show ¬ (12 : Int32) ≤ nI k from nI_ge (b := 12) h3 (by decide))]
    by_cases h4 : d < 2048
    · rw [if_neg (show ¬ (2048 : Int32) ≤ nI d from nI_ge (b := 2048) h4 (by decide)), if_pos ⟨h3, h4⟩, tag1 h h3 h4, and255 (by omega)]
      obtain ⟨c1, f1, g1⟩ := mput K (v := d / 256 * 32 + (k - 4) * 4 + 1) hc (show O.length < N by omega) (by omega)
      rw [Nat.mod_eq_of_lt (by omega)] at g1
      obtain ⟨c2, f2, g2⟩ := mput K (v := d % 256) g1 (show (O ++ [d / 256 * 32 + (k - 4) * 4 + 1]).length < N by rw [len1]; omega) (by omega)
      rw [Nat.mod_mod] at g2
      rw [len1] at f2
      rw [f1, sob, f2, sob]
      have e : O ++ [d / 256 * 32 + (k - 4) * 4 + 1] ++ [d % 256] = O ++ [d / 256 * 32 + (k - 4) * 4 + 1, d % 256] := by simp
      rw [e] at g2
      exact ⟨c2, by rw [List.length_append]; rfl, g2⟩
    · rw [if_pos (show (2048 : Int32) ≤ nI d from nI_le (a := 2048) (by omega) (by omega)), if_neg (fun q => h4 q.2), f1, sob, e2]
      exact ⟨c1, rfl, g1⟩
  · rw [if_pos (show (12 : Int32) ≤ nI k from nI_le (a := 12) (by omega) (by omega)), if_neg (fun q => h3 q.1), f1, sob, e2]
    exact ⟨c1, rfl, g1⟩
theorem copE_len (k d : Nat) : (copE k d).length ≤ 3 := by
  unfold copE cop2
  by_cases h : k < 12 ∧ d < 2048
  · rw [if_pos h]; exact (by decide : 2 ≤ 3)
  · rw [if_neg h]; exact Nat.le_refl 3
theorem copL_len (d : Nat) : ∀ (f k : Nat), 4 ≤ k → (copL f k d).length ≤ k - 1
  | 0, k, h => Nat.zero_le _
  | f + 1, k, h => by
    rw [copL]
    by_cases h1 : k < 68
    · rw [if_pos h1]
      by_cases h2 : k ≤ 64
      · rw [if_pos h2]; have := copE_len k d; omega
      · rw [if_neg h2, List.length_append]; have := copE_len (k - 60) d; have e : (cop2 60 d).length = 3 := rfl; omega
    · rw [if_neg h1, List.length_append]; have := copL_len d f (k - 64) (by omega); have e : (cop2 64 d).length = 3 := rfl; omega
theorem cop2_by {k d : Nat} (h1 : k ≤ 64) (hd : d < 65536) : by_ (cop2 k d) := by_cons (by omega) (by_cons (by omega) (by_one (by omega)))
theorem copE_by {k d : Nat} (h1 : k ≤ 64) (hd : d < 65536) : by_ (copE k d) := by
  unfold copE
  by_cases h : k < 12 ∧ d < 2048
  · rw [if_pos h]; exact by_cons (by omega) (by_one (by omega))
  · rw [if_neg h]; exact cop2_by h1 hd
theorem copL_by {d : Nat} (hd : d < 65536) : ∀ (f k : Nat), by_ (copL f k d)
  | 0, k => by_nil
  | f + 1, k => by
    rw [copL]
    by_cases h1 : k < 68
    · rw [if_pos h1]
      by_cases h2 : k ≤ 64
      · rw [if_pos h2]; exact copE_by h2 hd
      · rw [if_neg h2]; exact by_app (cop2_by (by omega) hd) (copE_by (by omega) hd)
    · rw [if_neg h1]; exact by_app (cop2_by (by omega) hd) (copL_by hd f _)
theorem m64 {k : Nat} (h : 64 ≤ k) : nI k + (-64 : Int32) = nI (k - 64) := by
  rw [show nI k + (-64 : Int32) = nI k - nI 64 from by rw [Int32.sub_eq_add_neg]; rfl, pk_sub h]
theorem m60 {k : Nat} (h : 60 ≤ k) : nI k + (-60 : Int32) = nI (k - 60) := by
  rw [show nI k + (-60 : Int32) = nI k - nI 60 from by rw [Int32.sub_eq_add_neg]; rfl, pk_sub h]
theorem copL_c (K : Nat) (hK : 5 < K) {N d : Nat} {p1 : Int32} (hd : d < 65536) (hN : N < 2 ^ 30) : ∀ (q f k : Nat) (O : List Nat) (c : Nat → Int32), cL c O → 4 ≤ k → k < 2 ^ 30 → k < q → k < f → O.length + (k - 1) ≤ N → ∃ c', f_X2_putCopies_b2 K N p1 (nI d) q (nI O.length) c (nI k) = some (nI (O ++ copL f k d).length, c') ∧ cL c' (O ++ copL f k d) := by
  intro q
  induction q with
  | zero => intro f k O c _ _ _ h; omega
  | succ q ih =>
    intro f k O c hc h4 hk hq hf hl
    obtain ⟨f, rfl⟩ : ∃ z, f = z + 1 := ⟨f - 1, by omega⟩
    rw [f_X2_putCopies_b2, copL]
    by_cases h1 : k < 68
    · rw [if_pos h1, if_pos (show nI k < (68 : Int32) from nI_lt (b := 68) h1 (by decide))]
      by_cases h2 : k ≤ 64
      · rw [if_pos h2, if_pos (show nI k ≤ (64 : Int32) from nI_le (b := 64) h2 (by decide))]
        exact copE_c K hK hc h4 h2 hd (by omega) hN
      · rw [if_neg h2, if_neg (show ¬ nI k ≤ (64 : Int32) from nI_ge (a := 64) (by omega) (by omega)), show (60 : Int32) = nI 60 from rfl]
        obtain ⟨c1, f1, g1⟩ := cop2_c K hK (N := N) (k := 60) (d := d) hc (by decide) (by decide) hd (by omega) hN
        rw [f1, sob, show (-(nI 60)) = -60 from rfl, m60 (by omega)]
        have e : (O ++ cop2 60 d).length = O.length + 3 := by rw [List.length_append]; rfl
        obtain ⟨c2, f2, g2⟩ := copE_c K hK (N := N) (k := k - 60) (d := d) (p1 := p1) g1 (by omega) (by omega) hd (by rw [e]; omega) hN
        rw [e] at f2
        rw [List.append_assoc] at f2 g2
        exact ⟨c2, f2, g2⟩
    · rw [if_neg h1, if_neg (show ¬ nI k < (68 : Int32) from nI_nlt (b := 68) (by omega) (by omega)), show (64 : Int32) = nI 64 from rfl]
      obtain ⟨c1, f1, g1⟩ := cop2_c K hK (N := N) (k := 64) (d := d) hc (by decide) (by decide) hd (by omega) hN
      rw [f1, sob, show (-(nI 64)) = -64 from rfl, m64 (by omega)]
      have e : (O ++ cop2 64 d).length = O.length + 3 := by rw [List.length_append]; rfl
      obtain ⟨c2, f2, g2⟩ := ih f (k - 64) _ c1 g1 (by omega) (by omega) (by omega) (by omega) (by rw [e]; omega)
      rw [e] at f2
      rw [List.append_assoc] at f2 g2
      exact ⟨c2, f2, g2⟩
theorem copL_m (K : Nat) {N d : Nat} {p1 : Int32} (hd : d < 65536) (hN : N < 2 ^ 30) : ∀ (q f k : Nat) (O : List Nat) (c : Nat → Int32), mL c O → 4 ≤ k → k < 2 ^ 30 → k < q → k < f → O.length + (k - 1) ≤ N → ∃ c', f_X7_copies_b2 K N p1 (nI d) q (nI O.length) c (nI k) = some (nI (O ++ copL f k d).length, c') ∧ mL c' (O ++ copL f k d) := by
  intro q
  induction q with
  | zero => intro f k O c _ _ _ h; omega
  | succ q ih =>
    intro f k O c hc h4 hk hq hf hl
    obtain ⟨f, rfl⟩ : ∃ z, f = z + 1 := ⟨f - 1, by omega⟩
    rw [f_X7_copies_b2, copL]
    by_cases h1 : k < 68
    · rw [if_pos h1, if_pos (show nI k < (68 : Int32) from nI_lt (b := 68) h1 (by decide))]
      by_cases h2 : k ≤ 64
      · rw [if_pos h2, if_pos (show nI k ≤ (64 : Int32) from nI_le (b := 64) h2 (by decide))]
        exact copE_m K hc h4 h2 hd (by omega) hN
      · rw [if_neg h2, if_neg (show ¬ nI k ≤ (64 : Int32) from nI_ge (a := 64) (by omega) (by omega)), show (60 : Int32) = nI 60 from rfl]
        obtain ⟨c1, f1, g1⟩ := cop2_m K (N := N) (k := 60) (d := d) hc (by decide) (by decide) hd (by omega) hN
        rw [f1, sob, show (-(nI 60)) = -60 from rfl, m60 (by omega)]
        have e : (O ++ cop2 60 d).length = O.length + 3 := by rw [List.length_append]; rfl
        obtain ⟨c2, f2, g2⟩ := copE_m K (N := N) (k := k - 60) (d := d) (p1 := p1) g1 (by omega) (by omega) hd (by rw [e]; omega) hN
        rw [e] at f2
        rw [List.append_assoc] at f2 g2
        exact ⟨c2, f2, g2⟩
    · rw [if_neg h1, if_neg (show ¬ nI k < (68 : Int32) from nI_nlt (b := 68) (by omega) (by omega)), show (64 : Int32) = nI 64 from rfl]
      obtain ⟨c1, f1, g1⟩ := cop2_m K (N := N) (k := 64) (d := d) hc (by decide) (by decide) hd (by omega) hN
      rw [f1, sob, show (-(nI 64)) = -64 from rfl, m64 (by omega)]
      have e : (O ++ cop2 64 d).length = O.length + 3 := by rw [List.length_append]; rfl
      obtain ⟨c2, f2, g2⟩ := ih f (k - 64) _ c1 g1 (by omega) (by omega) (by omega) (by omega) (by rw [e]; omega)
      rw [e] at f2
      rw [List.append_assoc] at f2 g2
      exact ⟨c2, f2, g2⟩
/-- the latest place ahead of fr + n with the same four bytes as from p -/
def lq (L : List Nat) (fr p : Nat) : Nat → Option Nat
  | 0 => none
  | r + 1 => if seg L (fr + r) 4 = seg L p 4 then some (fr + r) else lq L fr p r
theorem lq_none {L : List Nat} {fr p : Nat} : ∀ n : Nat, (∀ r, fr ≤ r → r < fr + n → ¬ seg L r 4 = seg L p 4) → lq L fr p n = none
  | 0, _ => rfl
  | n + 1, h => by rw [lq, if_neg (h _ (by omega) (by omega))]; exact lq_none n (fun r h1 h2 => h r h1 (by omega))
theorem lq_some {L : List Nat} {fr p q : Nat} (hq : fr ≤ q) (hs : seg L q 4 = seg L p 4) : ∀ n : Nat, q < fr + n → (∀ r, q < r → r < fr + n → ¬ seg L r 4 = seg L p 4) → lq L fr p n = some q
  | 0, h, _ => by omega
  | n + 1, h, h2 => by
    rw [lq]
    by_cases e : q = fr + n
    · subst e; rw [if_pos hs]
    · rw [if_neg (h2 _ (by omega) (by omega))]; exact lq_some hq hs n (by omega) (fun r h1 h3 => h2 r h1 (by omega))
theorem lq_spec {L : List Nat} {fr p : Nat} : ∀ n : Nat, (lq L fr p n = none) ∨ ∃ q, lq L fr p n = some q ∧ fr ≤ q ∧ q < fr + n ∧ seg L q 4 = seg L p 4
  | 0 => Or.inl rfl
  | n + 1 => by
    rw [lq]
    by_cases e : seg L (fr + n) 4 = seg L p 4
    · rw [if_pos e]; exact Or.inr ⟨_, rfl, by omega, by omega, e⟩
    · rw [if_neg e]
      rcases lq_spec (L := L) (fr := fr) (p := p) n with h | ⟨q, h1, h2, h3, h4⟩
      · exact Or.inl h
      · exact Or.inr ⟨q, h1, h2, by omega, h4⟩
/-- how many bytes are alike from q and from p on, up to e -/
def alk (L : List Nat) (q p e : Nat) : Nat → Nat → Nat
  | 0, k => k
  | f + 1, k => if p + k < e then (if L.getD (q + k) 0 = L.getD (p + k) 0 then alk L q p e f (k + 1) else k) else k
theorem alk_le {L : List Nat} {q p e : Nat} : ∀ (f k : Nat), p + k ≤ e → k ≤ alk L q p e f k ∧ p + alk L q p e f k ≤ e
  | 0, k, h => ⟨Nat.le_refl _, h⟩
  | f + 1, k, h => by
    rw [alk]
    by_cases h1 : p + k < e
    · rw [if_pos h1]
      by_cases h2 : L.getD (q + k) 0 = L.getD (p + k) 0
      · rw [if_pos h2]; have := alk_le (L := L) (q := q) (p := p) (e := e) f (k + 1) (by omega); omega
      · rw [if_neg h2]; omega
    · rw [if_neg h1]; omega
theorem alk_4 {L : List Nat} {q p e f : Nat} (hf : 4 ≤ f) (he : p + 4 ≤ e) (h : seg L q 4 = seg L p 4) : 4 ≤ alk L q p e f 0 := by
  obtain ⟨f, rfl⟩ : ∃ z, f = z + 4 := ⟨f - 4, by omega⟩
  have hg : ∀ j, j < 4 → L.getD (q + j) 0 = L.getD (p + j) 0 := fun j hj => by rw [← seg_get (n := 4) hj, ← seg_get (n := 4) hj, h]
  rw [alk, if_pos (by omega), if_pos (hg 0 (by omega)), alk, if_pos (by omega), if_pos (hg 1 (by omega)), alk, if_pos (by omega), if_pos (hg 2 (by omega)), alk, if_pos (by omega), if_pos (hg 3 (by omega))]
  exact (alk_le f 4 (by omega)).1
/-- PRESSING the bytes fr .. e: 'told' are told already, p is the place now -/
def prs (L : List Nat) (fr e : Nat) : Nat → Nat → Nat → List Nat
  | 0, _, _ => []
  | f + 1, told, p =>
    if p + 4 ≤ e then
      match lq L fr p (p - fr) with
      | none => prs L fr e f told (p + 1)
      | some q => litL (seg L told (p - told)) ++ (copL (alk L q p e (e + 4) 0 + 1) (alk L q p e (e + 4) 0) (p - q) ++ prs L fr e f (p + alk L q p e (e + 4) 0) (p + alk L q p e (e + 4) 0))
    else litL (seg L told (e - told))
theorem prs_end {L : List Nat} {fr e f told p : Nat} (h : ¬ p + 4 ≤ e) : prs L fr e (f + 1) told p = litL (seg L told (e - told)) := by
  rw [prs, if_neg h]
theorem prs_none {L : List Nat} {fr e f told p : Nat} (h : p + 4 ≤ e) (hq : lq L fr p (p - fr) = none) : prs L fr e (f + 1) told p = prs L fr e f told (p + 1) := by
  rw [prs, if_pos h, hq]
theorem prs_some {L : List Nat} {fr e f told p q : Nat} (h : p + 4 ≤ e) (hq : lq L fr p (p - fr) = some q) : prs L fr e (f + 1) told p = litL (seg L told (p - told)) ++ (copL (alk L q p e (e + 4) 0 + 1) (alk L q p e (e + 4) 0) (p - q) ++ prs L fr e f (p + alk L q p e (e + 4) 0) (p + alk L q p e (e + 4) 0)) := by
  rw [prs, if_pos h, hq]
theorem prs_len {L : List Nat} {fr e : Nat} (he : e ≤ L.length) : ∀ (f told p : Nat), told ≤ p → p ≤ e → fr ≤ p → (prs L fr e f told p).length ≤ (e - told) + (e - told) / 61 + 3
  | 0, told, p, h1, h2, h3 => Nat.zero_le _
  | f + 1, told, p, h1, h2, h3 => by
    by_cases h : p + 4 ≤ e
    · rcases lq_spec (L := L) (fr := fr) (p := p) (p - fr) with hq | ⟨q, hq, q1, q2, q3⟩
      · rw [prs_none h hq]; exact prs_len (fr := fr) he f told (p + 1) (by omega) (by omega) (by omega)
      · rw [prs_some h hq]
        have a1 := alk_4 (L := L) (q := q) (p := p) (e := e) (f := e + 4) (by omega) h q3
        have a2 := alk_le (L := L) (q := q) (p := p) (e := e) (e + 4) 0 (by omega)
        have a3 := copL_len (p - q) (alk L q p e (e + 4) 0 + 1) _ a1
        have a4 := prs_len (fr := fr) he f (p + alk L q p e (e + 4) 0) (p + alk L q p e (e + 4) 0) (Nat.le_refl _) a2.2 (by omega)
        have a5 := litL_len (seg L told (p - told))
        rw [seg_len (by omega)] at a5
        rw [List.length_append, List.length_append]
        generalize alk L q p e (e + 4) 0 = k at a1 a2 a3 a4 ⊢
        generalize (litL (seg L told (p - told))).length = x at a5 ⊢
        generalize (copL (k + 1) k (p - q)).length = y at a3 ⊢
        generalize (prs L fr e f (p + k) (p + k)).length = z at a4 ⊢
        by_cases b1 : p - told = 0
        · rw [if_pos b1] at a5; omega
        · rw [if_neg b1] at a5
          by_cases b2 : p - told - 1 < 60
          · rw [if_pos b2] at a5; omega
          · rw [if_neg b2] at a5
            by_cases b3 : p - told - 1 < 256
            · rw [if_pos b3] at a5; omega
            · rw [if_neg b3] at a5; omega
    · rw [prs_end h, litL_len, seg_len (by omega)]
      by_cases b1 : e - told = 0
      · rw [if_pos b1]; omega
      · rw [if_neg b1]
        by_cases b2 : e - told - 1 < 60
        · rw [if_pos b2]; omega
        · rw [if_neg b2]
          by_cases b3 : e - told - 1 < 256
          · rw [if_pos b3]; omega
          · rw [if_neg b3]; omega
theorem prs_by {L : List Nat} {fr e : Nat} (hb : by_ L) (he : e < 65536) : ∀ (f told p : Nat), by_ (prs L fr e f told p)
  | 0, told, p => by_nil
  | f + 1, told, p => by
    by_cases h : p + 4 ≤ e
    · rcases lq_spec (L := L) (fr := fr) (p := p) (p - fr) with hq | ⟨q, hq, q1, q2, q3⟩
      · rw [prs_none h hq]; exact prs_by hb he f told (p + 1)
      · rw [prs_some h hq]; exact by_app (litL_by (by_seg hb)) (by_app (copL_by (by omega) _ _) (prs_by hb he f _ _))
    · rw [prs_end h]; exact litL_by (by_seg hb)
