/-! PURE ROWS 7: the class's pressBlock as a whole; the reference's chains and its pressPart; press -/
theorem free_z (K : Nat) {j : Nat} {p1 x : Int32} (hj : j ≤ 15) : ∀ (q i : Nat) (s : Nat → Int32), i ≤ 2 ^ j → 2 ^ j - i < q → (∀ k, k < i → s k = 0) → ∃ s', f_X2_freeSlots_b30 K 32768 p1 q x s (nI (2 ^ j - 1)) (nI i) = some (nI (2 ^ j - 1), s') ∧ ∀ k, k < 2 ^ j → s' k = 0 := by
  have hS2 : 2 ^ j ≤ 32768 := by
    have : 2 ^ j ≤ 2 ^ 15 := Nat.pow_le_pow_right (by decide) hj
    omega
  have hpos : 0 < 2 ^ j := Nat.two_pow_pos j
  intro q
  induction q with
  | zero => intro i s _ h; omega
  | succ q ih =>
    intro i s hi hq hs
    rw [f_X2_freeSlots_b30]
    rcases Nat.eq_or_lt_of_le hi with e | e
    · rw [if_pos (nI_lt (show 2 ^ j - 1 < i by omega) (by omega))]
      exact ⟨s, rfl, fun k hk => hs k (by omega)⟩
    · rw [if_neg (nI_nlt (show i ≤ 2 ^ j - 1 by omega) (by omega)), ck_n (by omega) (by decide), nI_clamp (by omega), nI_1]
      refine ih (i + 1) _ e (by omega) (fun k hk => ?_)
      by_cases z : k = i
      · subst z; rw [pk_us]
      · rw [pk_un z]; exact hs k (by omega)
theorem free_b (K : Nat) (hK : 32769 < K) {n : Nat} {x : Int32} {s : Nat → Int32} (hn : n ≤ 20000) : ∀ (q j : Nat), 4 ≤ j → j ≤ 15 → 15 - j < q → ∃ j' s', j' ≤ 15 ∧ n < 2 ^ j' ∧ f_X2_freeSlots_b3 K 32768 (nI n) q x s (nI (2 ^ j - 1)) = some (nI (2 ^ j' - 1), s') ∧ ∀ k, k < 2 ^ j' → s' k = 0 := by
  intro q
  induction q with
  | zero => intro j _ _ h; omega
  | succ q ih =>
    intro j h4 hj hq
    have hS2 : 2 ^ j ≤ 32768 := by
      have : 2 ^ j ≤ 2 ^ 15 := Nat.pow_le_pow_right (by decide) hj
      omega
    have hpos : 0 < 2 ^ j := Nat.two_pow_pos j
    rw [f_X2_freeSlots_b3, show (4 : Int32) = nI 4 from rfl, pk_div (by omega) (by decide) (by decide), nI_add]
    by_cases h1 : n + n / 4 ≤ 2 ^ j - 1
    · rw [if_pos (nI_le h1 (by omega))]
      obtain ⟨s', f1, g1⟩ := free_z K (p1 := nI n) (x := x) hj K 0 s (Nat.zero_le _) (by omega) (fun k hk => absurd hk (Nat.not_lt_zero _))
      exact ⟨j, s', hj, by omega, f1, g1⟩
    · rw [if_neg (nI_ge (by omega) (by omega))]
      by_cases h2 : 32767 ≤ 2 ^ j - 1
      · rw [if_pos (show (32767 : Int32) ≤ nI (2 ^ j - 1) from nI_le (a := 32767) h2 (by omega))]
        obtain ⟨s', f1, g1⟩ := free_z K (p1 := nI n) (x := x) hj K 0 s (Nat.zero_le _) (by omega) (fun k hk => absurd hk (Nat.not_lt_zero _))
        exact ⟨j, s', hj, by omega, f1, g1⟩
      · rw [if_neg (show ¬ (32767 : Int32) ≤ nI (2 ^ j - 1) from nI_ge (b := 32767) (by omega) (by decide)), show (2 : Int32) = nI 2 from rfl, pk_mul, nI_1]
        have hj2 : j ≠ 15 := fun e => by subst e; omega
        have e1 : 2 * (2 ^ j - 1) + 1 = 2 ^ (j + 1) - 1 := by rw [Nat.pow_succ]; omega
        rw [e1]
        exact ih (j + 1) (by omega) (by omega) (by omega)
theorem free_ok (K : Nat) (hK : 32769 < K) {n : Nat} {x : Int32} {s : Nat → Int32} (hn : n ≤ 20000) : ∃ j s', j ≤ 15 ∧ n < 2 ^ j ∧ f_X2_freeSlots K x 32768 s (nI n) = some (nI (2 ^ j - 1), s') ∧ ∀ k, k < 2 ^ j → s' k = 0 := by
  unfold f_X2_freeSlots
  exact free_b K hK hn K 4 (by decide) (by decide) (by omega)
theorem shorten0 (K : Nat) {x : Nat} (hx : x < 2 ^ 30) : f_X1_shorten K (nI x) 0 = some 0 := by
  unfold f_X1_shorten
  rw [show (0 : Int32) = nI 0 from rfl, has_1 K (by omega) hx, sob, show nI 0 = (0 : Int32) from rfl, i10]
/-- a pressed BLOCK of the n bytes from fr on -/
def prsB (L : List Nat) (fr n : Nat) : List Nat := vnt 5 n ++ prs L fr (fr + n) (n + 1) fr fr
theorem vnt_len {n : Nat} (h : n ≤ 20000) : (vnt 5 n).length ≤ 3 := by
  rw [vnt]
  by_cases h1 : n < 128
  · rw [if_pos h1]; exact (by decide : 1 ≤ 3)
  · rw [if_neg h1, vnt, List.length_cons]
    by_cases h2 : n / 128 < 128
    · rw [if_pos h2]; exact (by decide : 2 ≤ 3)
    · rw [if_neg h2, vnt, if_pos (by omega), List.length_cons]; exact Nat.le_refl 3
theorem prsB_len {L : List Nat} {fr n : Nat} (h : fr + n ≤ L.length) (hn : n ≤ 20000) : (prsB L fr n).length ≤ n + n / 61 + 6 := by
  unfold prsB
  have h1 := prs_len (fr := fr) (e := fr + n) h (n + 1) fr fr (Nat.le_refl _) (by omega) (Nat.le_refl _)
  have h2 := vnt_len hn
  rw [List.length_append]
  rw [Nat.add_sub_cancel_left] at h1
  omega
theorem prsB_by {L : List Nat} {fr n : Nat} (hb : by_ L) (h : fr + n < 65536) : by_ (prsB L fr n) := by
  unfold prsB
  exact by_app (vnt_by 5 n (Or.inr (Nat.lt_of_lt_of_le (show n < 65536 by omega) (by decide)))) (prs_by hb h _ _ _)
theorem press_c (K : Nat) (hK : 32769 < K) {N2 fr n x : Nat} {ms : Int32} {L : List Nat} {c b s : Nat → Int32} (hc : cL c L) (hb : by_ L) (hl : L.length ≤ N2) (hN2 : N2 ≤ 20000) (hfn : fr + n ≤ L.length) (hx : x < 2 ^ 30) : ∃ m' b' s', f_X2_pressBlock K ms (nI x) 24000 b 32768 s (nI L.length) N2 c (nI fr) (nI n) = some (m', nI (prsB L fr n).length, b', s') ∧ cL b' (prsB L fr n) := by
  unfold f_X2_pressBlock f_X2_putLength
  rw [shorten0 K hx, sob]
  obtain ⟨b1, f1, g1⟩ := len_c K (N := 24000) (p1 := nI n) (by decide) 5 K 0 n [] b rL_nil (by omega) (by omega) (by omega) (by decide)
  rw [List.nil_append] at f1 g1
  rw [show nI ([] : List Nat).length = (0 : Int32) from rfl, show nI 0 = (0 : Int32) from rfl] at f1
  rw [f1, sob]
  obtain ⟨j, s1, h1, h2, f2, g2⟩ := free_ok K hK (n := n) (x := ms) (s := s) (by omega)
  rw [f2, sob, nI_add]
  have hpl := prs_len (fr := fr) (e := fr + n) hfn (n + 1) fr fr (Nat.le_refl _) (by omega) (Nat.le_refl _)
  have hvl := vnt_len (n := n) (by omega)
  have h := prs_c K hK (N2 := N2) (fr := fr) (e := fr + n) (j := j) (p2 := nI fr) (p3 := nI n) hc hb hl hN2 hfn (by omega) h1 (by omega) K (n + 1) fr fr (vnt 5 n) b1 s1 g1 (TI_0 (by omega) g2) (Nat.le_refl _) (Nat.le_refl _) (by omega) (by omega) (by omega) (by omega) (by rw [Nat.add_sub_cancel_left]; omega)
  rw [Nat.max_self] at h
  obtain ⟨b', s', f3, g3⟩ := h
  exact ⟨_, b', s', f3, g3⟩
/-! the reference -/
def ky (L : List Nat) (r : Nat) : Nat := (nI (fr4 L r) * (506832829 : Int32)).toBitVec.toNat / 2 ^ 18
theorem ky_lt (L : List Nat) (r : Nat) : ky L r < 16384 := by
  unfold ky
  have := (nI (fr4 L r) * (506832829 : Int32)).toBitVec.isLt
  omega
theorem atm (K : Nat) {N i : Nat} {L : List Nat} {m : Nat → Int32} (hm : mL m L) (hb : by_ L) (hi : i < L.length) (hl : L.length ≤ N) (hN : N < 2 ^ 31) : f_X7_at K N m (nI i) = some (nI (L.getD i 0)) := by
  unfold f_X7_at
  rw [ck_n (by omega) hN, nI_clamp (by omega), hm i hi, sb_and (hb i)]
theorem key_ok (K : Nat) {N p : Nat} {L : List Nat} {m : Nat → Int32} (hm : mL m L) (hb : by_ L) (hp : p + 4 ≤ L.length) (hl : L.length ≤ N) (hN : N < 2 ^ 31) : f_X7_keyOf K N m (nI p) = some (nI (ky L p)) := by
  unfold f_X7_keyOf
  rw [show (1 : Int32) = nI 1 from rfl, show (2 : Int32) = nI 2 from rfl, show (3 : Int32) = nI 3 from rfl, nI_add, nI_add, nI_add, atm K hm hb (by omega) hl hN, sob, atm K hm hb (by omega) hl hN, sob, atm K hm hb (by omega) hl hN, sob, atm K hm hb (by omega) hl hN, sob, four_or (hb _) (hb _) (hb _) (hb _)]
  have e : ∀ x : Int32, ushr x 18 = nI (x.toBitVec.toNat / 2 ^ 18) := fun x => by
    rw [← nI_tn (ushr x 18)]; unfold ushr; rw [pk_ushr x 18 18 (by decide)]
  rw [e]; rfl
theorem four_m (K : Nat) {N q p : Nat} {L : List Nat} {m : Nat → Int32} (hm : mL m L) (hb : by_ L) (hq : q + 4 ≤ L.length) (hp : p + 4 ≤ L.length) (hl : L.length ≤ N) (hN : N < 2 ^ 30) : f_X7_areFour K N m (nI q) (nI p) = some (if seg L q 4 = seg L p 4 then 1 else 0) := by
  unfold f_X7_areFour
  rw [show (1 : Int32) = nI 1 from rfl, show (2 : Int32) = nI 2 from rfl, show (3 : Int32) = nI 3 from rfl, nI_add, nI_add, nI_add, nI_add, nI_add, nI_add]
  repeat rw [ck_n (by omega) (by omega)]
  rw [nI_clamp (by omega), nI_clamp (by omega), nI_clamp (by omega), nI_clamp (by omega), nI_clamp (by omega), nI_clamp (by omega), nI_clamp (by omega), nI_clamp (by omega), hm q (by omega), hm p (by omega), hm (q + 1) (by omega), hm (p + 1) (by omega), hm (q + 2) (by omega), hm (p + 2) (by omega), hm (q + 3) (by omega), hm (p + 3) (by omega), seg4 hq, seg4 hp]
  have e : ∀ i j, (sb_b (L.getD i 0) = sb_b (L.getD j 0)) = (L.getD i 0 = L.getD j 0) := fun i j => propext (sb_inj (hb i) (hb j))
  simp only [e, List.cons.injEq, and_true]
  by_cases h0 : L.getD q 0 = L.getD p 0
  · by_cases h1 : L.getD (q + 1) 0 = L.getD (p + 1) 0
    · by_cases h2 : L.getD (q + 2) 0 = L.getD (p + 2) 0
      · by_cases h3 : L.getD (q + 3) 0 = L.getD (p + 3) 0
        · rw [if_pos h0, if_pos h1, if_pos h2, if_pos h3, if_pos ⟨h0, h1, h2, h3⟩]
        · rw [if_pos h0, if_pos h1, if_pos h2, if_neg h3, if_neg (fun z => h3 z.2.2.2)]
      · rw [if_pos h0, if_pos h1, if_neg h2, if_neg (fun z => h2 z.2.2.1)]
    · rw [if_pos h0, if_neg h1, if_neg (fun z => h1 z.2.1)]
  · rw [if_neg h0, if_neg (fun z => h0 z.1)]
/-- x is the greatest place below b whose key is k, or -1 -/
def GR (L : List Nat) (fr e b k : Nat) (x : Int32) : Prop :=
  (x = -1 ∧ ∀ r, fr ≤ r → r < b → r + 4 ≤ e → ¬ ky L r = k) ∨ ∃ r, fr ≤ r ∧ r < b ∧ r + 4 ≤ e ∧ ky L r = k ∧ x = nI r ∧ ∀ r', r < r' → r' < b → r' + 4 ≤ e → ¬ ky L r' = k
def MI (L : List Nat) (fr e nd : Nat) (la ah : Nat → Int32) : Prop := (∀ k, k < 16384 → GR L fr e nd k (la k)) ∧ ∀ r, fr ≤ r → r < nd → r + 4 ≤ e → GR L fr e r (ky L r) (ah r)
theorem MI_step {L : List Nat} {fr e nd : Nat} {la ah : Nat → Int32} (hf : fr ≤ nd) (h4 : nd + 4 ≤ e) (h : MI L fr e nd la ah) : MI L fr e (nd + 1) (upd la (ky L nd) (nI nd)) (upd ah nd (la (ky L nd))) := by
  refine ⟨fun k hk => ?_, fun r h1 h2 h3 => ?_⟩
  · by_cases e1 : k = ky L nd
    · subst e1
      rw [pk_us]
      exact Or.inr ⟨nd, hf, by omega, h4, rfl, rfl, fun r' a b => by omega⟩
    · rw [pk_un e1]
      rcases h.1 k hk with ⟨a1, a2⟩ | ⟨r, a1, a2, a3, a4, a5, a6⟩
      · refine Or.inl ⟨a1, fun r b1 b2 b3 b4 => ?_⟩
        rcases Nat.eq_or_lt_of_le (Nat.lt_succ_iff.mp b2) with z | z
        · subst z; exact e1 b4.symm
        · exact a2 r b1 z b3 b4
      · refine Or.inr ⟨r, a1, by omega, a3, a4, a5, fun r' b1 b2 b3 b4 => ?_⟩
        rcases Nat.eq_or_lt_of_le (Nat.lt_succ_iff.mp b2) with z | z
        · subst z; exact e1 b4.symm
        · exact a6 r' b1 z b3 b4
  · rcases Nat.eq_or_lt_of_le (Nat.lt_succ_iff.mp h2) with z | z
    · subst z
      rw [pk_us]; exact h.1 _ (ky_lt L r)
    · rw [pk_un (Nat.ne_of_lt z)]; exact h.2 r h1 z h3
section PM
variable {fr e : Nat} {L : List Nat} {m : Nat → Int32}
theorem note_m (K : Nat) {p : Nat} {k77 : Int32 → (Nat → Int32) → (Nat → Int32) → (Nat → Int32) → Int32 → Int32 → Int32 → Option (Int32 × (Nat → Int32) × (Nat → Int32) × (Nat → Int32))} {pk tl : Int32} {pc : Nat → Int32} (hm : mL m L) (hb : by_ L) (hl : L.length ≤ 20000) (he : e ≤ L.length) (hp : p + 4 ≤ e) : ∀ (w nd : Nat) (la ah : Nat → Int32), fr ≤ nd → nd ≤ p → p - nd < w → MI L fr e nd la ah → ∃ la' ah', f_X7_pressPart_b85 K 20000 m 24000 16384 20000 (nI fr) (nI e) k77 w pk pc la ah (nI nd) tl (nI p) = f_X7_pressPart_b150 K 20000 m 24000 16384 20000 (nI fr) (nI e) k77 K pk pc la' ah' (nI p) tl (nI p) (la' (ky L p)) ∧ MI L fr e p la' ah' := by
  intro w
  induction w with
  | zero => intro nd la ah _ _ h; omega
  | succ w ih =>
    intro nd la ah hf hn hw hM
    rw [f_X7_pressPart_b85]
    rcases Nat.eq_or_lt_of_le hn with z | z
    · subst z
      have hk := ky_lt L nd
      rw [if_pos (nI_le (Nat.le_refl _) (by omega)), key_ok K hm hb (by omega) hl (by decide), sob, ck_n hk (by decide), nI_clamp (by omega)]
      exact ⟨la, ah, rfl, hM⟩
    · have hk := ky_lt L nd
      rw [if_neg (nI_ge z (by omega)), show (4 : Int32) = nI 4 from rfl, nI_add, if_neg (nI_nlt (show nd + 4 ≤ e by omega) (by omega)), key_ok K hm hb (by omega) hl (by decide), sob, ck_n hk (by decide), ck_n (show nd < 20000 by omega) (by decide), ck_n hk (by decide), nI_clamp (by omega), nI_clamp (by omega), nI_1]
      exact ih (nd + 1) _ _ (by omega) z (by omega) (MI_step hf (by omega) hM)
theorem find_m (K : Nat) {p : Nat} {k77 : Int32 → (Nat → Int32) → (Nat → Int32) → (Nat → Int32) → Int32 → Int32 → Int32 → Option (Int32 × (Nat → Int32) × (Nat → Int32) × (Nat → Int32))} {pk tl x5 : Int32} {pc la ah : Nat → Int32} (hm : mL m L) (hb : by_ L) (hl : L.length ≤ 20000) (he : e ≤ L.length) (hp : p + 4 ≤ e) (hfp : fr ≤ p) (hM : MI L fr e p la ah) : ∀ (w b : Nat) (x : Int32), GR L fr e b (ky L p) x → b ≤ p → b < w → (∀ r, b ≤ r → r < p → fr ≤ r → ¬ seg L r 4 = seg L p 4) → f_X7_pressPart_b150 K 20000 m 24000 16384 20000 (nI fr) (nI e) k77 w pk pc la ah x5 tl (nI p) x = f_X7_pressPart_b178 K 20000 m 24000 16384 20000 (nI fr) (nI e) k77 pk pc la ah x5 tl (nI p) (lqI (lq L fr p (p - fr))) := by
  have same : ∀ r, r + 4 ≤ e → seg L r 4 = seg L p 4 → ky L r = ky L p := fun r h1 h2 => by
    unfold ky; rw [(fr4_eq hb (by omega) (by omega)).mpr h2]
  intro w
  induction w with
  | zero => intro b x _ _ h; omega
  | succ w ih =>
    intro b x hG hbp hw hno
    rw [f_X7_pressPart_b150]
    rcases hG with ⟨a1, a2⟩ | ⟨r, a1, a2, a3, a4, a5, a6⟩
    · subst a1
      rw [if_pos (by decide), lq_none (p - fr) (fun r h1 h2 h3 => by
        rcases Nat.lt_or_ge r b with z | z
        · exact a2 r h1 z (by omega) (same r (by omega) h3)
        · exact hno r z (by omega) h1 h3)]
      rfl
    · subst a5
      rw [if_neg (nI_pos (by omega)), four_m K hm hb (by omega) (by omega) hl (by decide), sob]
      by_cases h4 : seg L r 4 = seg L p 4
      · rw [if_pos h4, if_neg (by decide), lq_some a1 h4 (p - fr) (by omega) (fun r' h1 h2 h3 => by
          rcases Nat.lt_or_ge r' b with z | z
          · exact a6 r' h1 z (by omega) (same r' (by omega) h3)
          · exact hno r' z (by omega) (by omega) h3)]
        rfl
      · rw [if_neg h4, i00, ck_n (show r < 20000 by omega) (by decide), nI_clamp (by omega)]
        have h5 := hM.2 r a1 (by omega) a3
        rw [a4] at h5
        refine ih r _ h5 (by omega) (by omega) (fun r' h1 h2 h3 h6 => ?_)
        rcases Nat.eq_or_lt_of_le h1 with z | z
        · subst z; exact h4 h6
        · rcases Nat.lt_or_ge r' b with y | y
          · exact a6 r' z y (by omega) (same r' (by omega) h6)
          · exact hno r' y h2 h3 h6
theorem alk_m (K : Nat) {p q : Nat} {k77 : Int32 → (Nat → Int32) → (Nat → Int32) → (Nat → Int32) → Int32 → Int32 → Int32 → Option (Int32 × (Nat → Int32) × (Nat → Int32) × (Nat → Int32))} {pk x5 x9 : Int32} {pc la ah : Nat → Int32} (hm : mL m L) (hb : by_ L) (hl : L.length ≤ 20000) (he : e ≤ L.length) (hqp : q < p) : ∀ (z f k : Nat), p + k ≤ e → e - (p + k) < z → e - (p + k) < f → f_X7_pressPart_b207 K 20000 m 24000 16384 20000 (nI fr) (nI e) k77 z pk pc la ah x5 (nI p) (nI q) x9 (nI k) = f_X7_pressPart_b245 K 20000 m 24000 16384 20000 (nI fr) (nI e) k77 pk pc la ah x5 (nI p) x9 (nI (alk L q p e f k)) := by
  intro z
  induction z with
  | zero => intro f k _ h; omega
  | succ z ih =>
    intro f k hk hz hf
    obtain ⟨f, rfl⟩ : ∃ y, f = y + 1 := ⟨f - 1, by omega⟩
    rw [f_X7_pressPart_b207, alk, nI_add]
    by_cases h : p + k < e
    · rw [if_pos h, if_neg (nI_ge h (by omega)), nI_add, ck_n (show q + k < 20000 by omega) (by decide), ck_n (show p + k < 20000 by omega) (by decide), nI_clamp (by omega), nI_clamp (by omega), hm (q + k) (by omega), hm (p + k) (by omega), nI_1]
      by_cases h3 : L.getD (q + k) 0 = L.getD (p + k) 0
      · rw [if_pos h3, if_pos (by rw [h3]), ih f (k + 1) (by omega) (by omega) (by omega)]
      · rw [if_neg h3, if_neg (fun y => h3 ((sb_inj (hb _) (hb _)).mp y))]
    · rw [if_neg h, if_pos (nI_le (show e ≤ p + k by omega) (by omega))]
theorem prs_m (K : Nat) (hK : 32769 < K) (hm : mL m L) (hb : by_ L) (hl : L.length ≤ 20000) (he : e ≤ L.length) (hfe : fr ≤ e) :
    ∀ (z f nd told p : Nat) (O : List Nat) (b la ah : Nat → Int32), mL b O → MI L fr e nd la ah → fr ≤ nd → nd ≤ p → fr ≤ told → told ≤ p → p ≤ e → e - p < z → e - p < f → O.length + (e - told) + (e - told) / 61 + 3 ≤ 24000 →
      ∃ b' la' ah', f_X7_pressPart_b77 K 20000 m 24000 16384 20000 (nI fr) (nI e) z (nI O.length) b la ah (nI nd) (nI told) (nI p) = some (nI (O ++ prs L fr e f told p).length, b', la', ah') ∧ mL b' (O ++ prs L fr e f told p) := by
  intro z
  induction z with
  | zero => intro f nd told p O b la ah _ _ _ _ _ _ _ h; omega
  | succ z ih =>
    intro f nd told p O b la ah hbO hM hfn hnp hft htp hpe hz hf hcap
    obtain ⟨f, rfl⟩ : ∃ y, f = y + 1 := ⟨f - 1, by omega⟩
    rw [f_X7_pressPart_b77, show (4 : Int32) = nI 4 from rfl, nI_add]
    by_cases h4 : p + 4 ≤ e
    · rw [if_neg (nI_nlt h4 (by omega))]
      obtain ⟨la1, ah1, f1, g1⟩ := note_m K (k77 := f_X7_pressPart_b77 K 20000 m 24000 16384 20000 (nI fr) (nI e) z) (pk := nI O.length) (tl := nI told) (pc := b) hm hb hl he h4 K nd la ah hfn hnp (by omega) hM
      rw [f1, find_m K hm hb hl he h4 (by omega) g1 K p _ (g1.1 _ (ky_lt L p)) (Nat.le_refl _) (by omega) (fun r h1 h2 => by omega)]
      unfold f_X7_pressPart_b178
      rcases lq_spec (L := L) (fr := fr) (p := p) (p - fr) with hq | ⟨q, hq, q1, q2, q3⟩
      · rw [prs_none h4 hq, hq, if_neg (show ¬ (0 : Int32) ≤ lqI none by decide), nI_1]
        exact ih f p told (p + 1) O b la1 ah1 hbO g1 (by omega) (by omega) hft (by omega) (by omega) (by omega) (by omega) hcap
      · have hpl := prs_len (fr := fr) he (f + 1) told p htp hpe (by omega)
        rw [prs_some h4 hq] at hpl ⊢
        rw [hq, show lqI (some q) = nI q from rfl, if_pos (nI_pos' (show q < 2 ^ 31 by omega))]
        have a1 := alk_4 (L := L) (q := q) (p := p) (e := e) (f := e + 4) (by omega) h4 q3
        have a2 := alk_le (L := L) (q := q) (p := p) (e := e) (e + 4) 0 (by omega)
        have hcl := copL_len (p - q) (alk L q p e (e + 4) 0 + 1) _ a1
        have hll := litL_len (seg L told (p - told))
        rw [seg_len (by omega)] at hll
        rw [List.length_append, List.length_append] at hpl
        have hlit : O.length + (litL (seg L told (p - told))).length + (alk L q p e (e + 4) 0 - 1) + 3 + (e - (p + alk L q p e (e + 4) 0)) + (e - (p + alk L q p e (e + 4) 0)) / 61 ≤ 24000 := by
          generalize alk L q p e (e + 4) 0 = k at *
          generalize (litL (seg L told (p - told))).length = x at hll ⊢
          by_cases b1 : p - told = 0
          · rw [if_pos b1] at hll; omega
          · rw [if_neg b1] at hll
            by_cases b2 : p - told - 1 < 60
            · rw [if_pos b2] at hll; omega
            · rw [if_neg b2] at hll
              by_cases b3 : p - told - 1 < 256
              · rw [if_pos b3] at hll; omega
              · rw [if_neg b3] at hll; omega
        obtain ⟨b1, f2, g2⟩ := lit_m K (by omega) (N := 24000) (i := told) (k := p - told) hbO hm hb hl (by omega) (by omega) (by decide)
        rw [show told + (p - told) = p by omega] at f2
        rw [f2, sob, show (0 : Int32) = nI 0 from rfl, alk_m K hm hb hl he (show q < p by omega) K (e + 4) 0 (by omega) (by omega) (by omega)]
        unfold f_X7_pressPart_b245
        generalize hk : alk L q p e (e + 4) 0 = k at *
        have f3 : ∃ c', f_X7_copies K (nI (O ++ litL (seg L told (p - told))).length) 24000 b1 (nI k) (nI (p - q)) = some (nI (O ++ litL (seg L told (p - told)) ++ copL (k + 1) k (p - q)).length, c') ∧ mL c' (O ++ litL (seg L told (p - told)) ++ copL (k + 1) k (p - q)) := by
          unfold f_X7_copies
          exact copL_m K (by omega) (by decide) K (k + 1) k _ b1 g2 a1 (by omega) (by omega) (by omega) (by rw [List.length_append]; omega)
        obtain ⟨b2, f3, g3⟩ := f3
        rw [pk_sub (show q ≤ p by omega), f3, sob, nI_add]
        have h := ih f p (p + k) (p + k) _ b2 la1 ah1 g3 g1 (by omega) (by omega) (by omega) (Nat.le_refl _) (by omega) (by omega) (by omega) (by rw [List.length_append, List.length_append]; omega)
        simp only [List.append_assoc] at h ⊢
        exact h
    · rw [if_pos (nI_lt (show e < p + 4 by omega) (by omega))]
      have hpl := prs_len (fr := fr) he (f + 1) told p htp hpe (by omega)
      rw [prs_end h4] at hpl ⊢
      obtain ⟨b1, f2, g2⟩ := lit_m K (by omega) (N := 24000) (i := told) (k := e - told) hbO hm hb hl (by omega) (by omega) (by decide)
      rw [show told + (e - told) = e by omega] at f2
      rw [f2, sob]
      exact ⟨b1, la, ah, rfl, g2⟩
theorem late_m (K : Nat) {pk : Int32} {pc : Nat → Int32} : ∀ (q i : Nat) (la ah : Nat → Int32), i ≤ 16384 → 16384 - i < q → (∀ k, k < i → la k = -1) → ∃ la', f_X7_pressPart_b46 K 20000 m 24000 16384 20000 (nI fr) (nI e) q pk pc la ah (nI i) = f_X7_pressPart_b77 K 20000 m 24000 16384 20000 (nI fr) (nI e) K pk pc la' ah (nI fr) (nI fr) (nI fr) ∧ ∀ k, k < 16384 → la' k = -1 := by
  intro q
  induction q with
  | zero => intro i la ah _ h; omega
  | succ q ih =>
    intro i la ah hi hq hs
    rw [f_X7_pressPart_b46]
    rcases Nat.eq_or_lt_of_le hi with z | z
    · subst z
      rw [if_pos (show (16384 : Int32) ≤ nI 16384 from nI_le (a := 16384) (Nat.le_refl _) (by decide))]
      exact ⟨la, rfl, hs⟩
    · rw [if_neg (show ¬ (16384 : Int32) ≤ nI i from nI_ge (b := 16384) z (by decide)), ck_n z (by decide), nI_clamp (by omega), nI_1]
      refine ih (i + 1) _ ah z (by omega) (fun k hk => ?_)
      by_cases y : k = i
      · subst y; rw [pk_us]
      · rw [pk_un y]; exact hs k (by omega)
theorem leng_m (K : Nat) : ∀ (f q x : Nat) (O : List Nat) (b la ah : Nat → Int32), mL b O → x < 2 ^ 31 → x < 128 ^ (f + 1) → f < q → O.length + f + 1 ≤ 24000 → ∃ b', f_X7_pressPart_b7 K 20000 m 24000 16384 20000 (nI fr) (nI e) q (nI O.length) b la ah (nI x) = f_X7_pressPart_b46 K 20000 m 24000 16384 20000 (nI fr) (nI e) K (nI (O ++ vnt f x).length) b' la ah 0 ∧ mL b' (O ++ vnt f x) := by
  intro f
  induction f with
  | zero =>
    intro q x O b la ah hO hx hx2 hq hl
    obtain ⟨q, rfl⟩ : ∃ k, q = k + 1 := ⟨q - 1, by omega⟩
    rw [f_X7_pressPart_b7, if_pos (show nI x ≤ (127 : Int32) from nI_le (b := 127) (by omega) (by decide))]
    obtain ⟨c1, f1, g1⟩ := mput K (v := x) hO (show O.length < 24000 by omega) (by decide)
    rw [Nat.mod_eq_of_lt (by omega)] at g1
    rw [f1, sob, vnt, len1]
    exact ⟨c1, rfl, g1⟩
  | succ f ih =>
    intro q x O b la ah hO hx hx2 hq hl
    obtain ⟨q, rfl⟩ : ∃ k, q = k + 1 := ⟨q - 1, by omega⟩
    rw [f_X7_pressPart_b7, vnt]
    by_cases h : x < 128
    · rw [if_pos h, if_pos (show nI x ≤ (127 : Int32) from nI_le (b := 127) (by omega) (by decide))]
      obtain ⟨c1, f1, g1⟩ := mput K (v := x) hO (show O.length < 24000 by omega) (by decide)
      rw [Nat.mod_eq_of_lt (by omega)] at g1
      rw [f1, sob, len1]
      exact ⟨c1, rfl, g1⟩
    · rw [if_neg h, if_neg (show ¬ nI x ≤ (127 : Int32) from nI_ge (a := 127) (by omega) hx), and127 hx, (or128 (x % 128) (Nat.mod_lt _ (by decide))).2]
      obtain ⟨c1, f1, g1⟩ := mput K (v := x % 128 + 128) hO (show O.length < 24000 by omega) (by decide)
      rw [Nat.mod_eq_of_lt (show x % 128 + 128 < 256 by omega)] at g1
      rw [f1, sob, sh7 hx]
      obtain ⟨c', h2, h3⟩ := ih q (x / 128) _ c1 la ah g1 (by omega) (by
        rw [Nat.pow_succ] at hx2
        exact Nat.div_lt_of_lt_mul (by rw [Nat.mul_comm]; exact hx2)) (by omega) (by rw [len1]; omega)
      rw [len1] at h2
      rw [List.append_assoc] at h2 h3
      exact ⟨c', h2, h3⟩
theorem press_m (K : Nat) (hK : 32769 < K) {n : Nat} {b la ah : Nat → Int32} (hm : mL m L) (hb : by_ L) (hl : L.length ≤ 20000) (hfn : fr + n ≤ L.length) : ∃ b' la' ah', f_X7_pressPart K 0 20000 m 24000 b 16384 la 20000 ah (nI fr) (nI (fr + n)) = some (nI (prsB L fr n).length, b', la', ah') ∧ mL b' (prsB L fr n) := by
  unfold f_X7_pressPart
  rw [pk_sub (show fr ≤ fr + n by omega), Nat.add_sub_cancel_left]
  obtain ⟨b1, f1, g1⟩ := leng_m K (m := m) (fr := fr) (e := fr + n) 5 K n [] b la ah rL_nil (by omega) (Nat.lt_of_lt_of_le (show n < 65536 by omega) (by decide)) (by omega) (by decide)
  rw [List.nil_append] at f1 g1
  rw [show (0 : Int32) = nI ([] : List Nat).length from rfl, f1]
  obtain ⟨la1, f2, g2⟩ := late_m K (m := m) (fr := fr) (e := fr + n) (pk := nI (vnt 5 n).length) (pc := b1) K 0 la ah (by omega) (by omega) (fun k hk => absurd hk (Nat.not_lt_zero _))
  rw [show (0 : Int32) = nI 0 from rfl, f2]
  have hpl := prs_len (fr := fr) (e := fr + n) hfn (n + 1) fr fr (Nat.le_refl _) (by omega) (Nat.le_refl _)
  have hvl := vnt_len (n := n) (by omega)
  exact prs_m K hK hm hb hl hfn (by omega) K (n + 1) fr fr fr (vnt 5 n) b1 la1 ah g1 ⟨fun k hk => Or.inl ⟨g2 k hk, fun r h1 h2 => by omega⟩, fun r h1 h2 => by omega⟩ (Nat.le_refl _) (Nat.le_refl _) (Nat.le_refl _) (Nat.le_refl _) (by omega) (by omega) (by omega) (by rw [Nat.add_sub_cancel_left]; omega)
end PM
theorem give_p (K : Nat) {M : List Nat} {a : Nat → Int32} {x : Int32} (ha : mL a M) (hM : M.length ≤ 24000) : ∀ (q i : Nat) (c : Nat → Int32), mL c (M.take i) → i ≤ M.length → M.length - i < q → ∃ c', f_X7_give_o_packed_b2 K 24000 24000 a (nI M.length) q x c (nI i) = some (nI M.length, c') ∧ mL c' M := by
  intro q
  induction q with
  | zero => intro i c _ _ h; omega
  | succ q ih =>
    intro i c hc hi hq
    rw [f_X7_give_o_packed_b2]
    rcases Nat.eq_or_lt_of_le hi with e | e
    · subst e
      rw [if_pos (nI_le (Nat.le_refl _) (by omega))]
      rw [List.take_length] at hc
      exact ⟨c, rfl, hc⟩
    · rw [if_neg (nI_ge e (by omega)), ck_n (by omega) (by decide), ck_n (by omega) (by decide), nI_clamp (by omega), ha i e, sb_keep, nI_1]
      have h1 := rL_push (v := M.getD i 0) hc
      have e1 : (M.take i).length = i := by rw [List.length_take]; omega
      rw [e1] at h1
      refine ih (i + 1) _ ?_ e (by omega)
      have e2 : M.take (i + 1) = M.take i ++ [M.getD i 0] := by
        rw [List.take_add_one, List.getD_eq_getElem?_getD, List.getElem?_eq_getElem e]; rfl
      rw [e2]; exact h1
theorem give_d (K : Nat) {M : List Nat} {a : Nat → Int32} {x : Int32} (ha : mL a M) (hM : M.length ≤ 24000) : ∀ (q i : Nat) (c : Nat → Int32), mL c (M.take i) → i ≤ M.length → M.length - i < q → ∃ c', f_X7_give_o_made_b2 K 24000 24000 a (nI M.length) q x c (nI i) = some (nI M.length, c') ∧ mL c' M := by
  intro q
  induction q with
  | zero => intro i c _ _ h; omega
  | succ q ih =>
    intro i c hc hi hq
    rw [f_X7_give_o_made_b2]
    rcases Nat.eq_or_lt_of_le hi with e | e
    · subst e
      rw [if_pos (nI_le (Nat.le_refl _) (by omega))]
      rw [List.take_length] at hc
      exact ⟨c, rfl, hc⟩
    · rw [if_neg (nI_ge e (by omega)), ck_n (by omega) (by decide), ck_n (by omega) (by decide), nI_clamp (by omega), ha i e, sb_keep, nI_1]
      have h1 := rL_push (v := M.getD i 0) hc
      have e1 : (M.take i).length = i := by rw [List.length_take]; omega
      rw [e1] at h1
      refine ih (i + 1) _ ?_ e (by omega)
      have e2 : M.take (i + 1) = M.take i ++ [M.getD i 0] := by
        rw [List.take_add_one, List.getD_eq_getElem?_getD, List.getElem?_eq_getElem e]; rfl
      rw [e2]; exact h1
theorem s_press (K : Nat) (hK : 32769 < K) {L : List Nat} {c m oc om b s mp la ah : Nat → Int32} {x : Nat} {ms oco omo pk th : Int32} (hp : pair c m L) (hn : L.length ≤ 20000) (hx : x < 2 ^ 30) : ∃ (M : List Nat) (oc' om' b' s' mp' la' ah' : Nat → Int32) (ms' : Int32) (x' : Nat), f_X6_press K (nI L.length) 20000 c oco 24000 oc ms (nI x) 24000 b 32768 s = some (nI M.length, nI M.length, oc', ms', nI x', b', s') ∧ f_X7_press K (nI L.length) omo pk th 20000 m 24000 om 24000 mp 16384 la 20000 ah = some (nI M.length, nI M.length, nI M.length, 0, om', mp', la', ah') ∧ pair oc' om' M ∧ M.length ≤ 24000 ∧ x' < 2 ^ 30 := by
  obtain ⟨hb, hc, hm⟩ := id hp
  unfold f_X6_press f_X7_press f_X7_give_o_packed
  obtain ⟨ms', b', s', f1, g1⟩ := press_c K hK (N2 := 20000) (fr := 0) (n := L.length) (x := x) (ms := ms) (b := b) (s := s) hc hb hn (by decide) (by omega) hx
  obtain ⟨mp', la', ah', f2, g2⟩ := press_m K hK (fr := 0) (n := L.length) (b := mp) (la := la) (ah := ah) hm hb hn (by omega)
  have hlen := prsB_len (L := L) (fr := 0) (n := L.length) (by omega) hn
  rw [Nat.zero_add] at f2
  rw [show (0 : Int32) = nI 0 from rfl, f1, sob]
  rw [show nI 0 = (0 : Int32) from rfl] at f2 ⊢
  rw [f2, sob]
  obtain ⟨oc', f3, g3⟩ := become_ok K (N := 24000) (N2 := 24000) (x := oco) (c := oc) g1 (by omega) (by omega) (by decide) (by decide)
  obtain ⟨om', f4, g4⟩ := give_p K (x := omo) g2 (by omega) K 0 om (by rw [List.take_zero]; exact rL_nil) (Nat.zero_le _) (by omega)
  rw [show nI 0 = (0 : Int32) from rfl] at f4
  dsimp only
  rw [f3, sob, f4, sob]
  exact ⟨prsB L 0 L.length, oc', om', b', s', mp', la', ah', ms', _, rfl, rfl, ⟨prsB_by hb (by omega), g3, g4⟩, by omega, by omega⟩
