/-! PURE ROWS 9: the reference reads an ELEMENT; both give it -/
section EM
variable {K fr e p : Nat} {L : List Nat} {m mc nc : Nat → Int32} {op li bp wa : Int32} {g : Nat}
theorem em_92 (hm : mL m L) (hb : by_ L) (hl : L.length ≤ 20000) {so u x : Nat} {md bf p2 p3 p4 : Int32} (hs : so < 4) (hu : u < 64) (hx : x ≤ 4) (hi : p + 1 + x ≤ L.length) : ∀ (q j : Nat), j ≤ x → x - j < q → f_X7_elementAt_b92 K wa 20000 m 24000 5000 (nI p) p2 p3 p4 q md bf bp op li mc nc (nI so) (nI u) (nI x) (lN (lev L (p + 1) j)) (nI j) = f_X7_elementAt_b186 K wa 20000 m 24000 5000 (nI p) p2 p3 p4 md bf bp op li mc nc (nI so) (nI u) (lN (lev L (p + 1) x)) (nI (p + 1 + x)) (lN (sz so u (lev L (p + 1) x))) := by
  intro q
  induction q with
  | zero => intro j _ h; omega
  | succ q ih =>
    intro j hj hq
    rw [f_X7_elementAt_b92]
    rcases Nat.eq_or_lt_of_le hj with e1 | e1
    · subst e1
      rw [if_pos (nI_le (Nat.le_refl _) (by omega)), nI_1, nI_add]
      have e2 : (nI u).toInt64 + (1 : Int64) = lN (u + 1) := by rw [nI_l (by omega), lN_1]
      unfold sz
      by_cases h : so = 0
      · subst h
        rw [if_pos (show nI 0 = 0 from rfl), if_pos rfl]
        by_cases h2 : u < 60
        · rw [if_pos h2, if_neg (show ¬ (60 : Int32) ≤ nI u from nI_ge (b := 60) h2 (by decide)), e2]
        · rw [if_neg h2, if_pos (show (60 : Int32) ≤ nI u from nI_le (a := 60) (by omega) (by omega)), lN_1]
      · rw [if_neg (show ¬ nI so = 0 from nI_ne (b := 0) (by omega) (by decide) h), if_neg h]
        by_cases h2 : so = 1
        · subst h2
          rw [if_pos (show nI 1 = (1 : Int32) from rfl), if_pos rfl, show nI u &&& (7 : Int32) = nI (u % 8) from pk_andN (by omega) 3 (by decide), nI_l (by omega), show (4 : Int64) = lN 4 from rfl, lN_add]
        · rw [if_neg (show ¬ nI so = (1 : Int32) from nI_ne (b := 1) (by omega) (by decide) h2), if_neg h2, e2]
    · rw [if_neg (nI_ge e1 (by omega)), nI_1, nI_add, atm K hm hb (show p + 1 + j < L.length by omega) hl (by decide), sob, lev_or hb (by omega), nI_1]
      have h := ih (j + 1) e1 (by omega)
      exact h
/-- the reference gives an ELEMENT that has no fault -/
theorem em_186 {so u v n : Nat} {md bf p2 p4 : Int32} (hs : so < 4) (hu : u < 64) (hv : v < 2 ^ 32) (x11 : Int32) (p3 : Int32) (t : Int64) : f_X7_elementAt_b186 K wa 20000 m 24000 5000 (nI p) p2 p3 p4 md bf bp op li mc nc (nI so) (nI u) (lN v) x11 t = f_X7_elementAt_b220 K wa 20000 m 24000 5000 (nI p) p2 p3 p4 md bf bp op li mc nc (nI so) x11 t (lN (bk so u v)) := by
  unfold f_X7_elementAt_b186 bk
  by_cases h : so = 0
  · subst h; rw [if_pos (show nI 0 = 0 from rfl), if_pos rfl]; rfl
  · rw [if_neg (show ¬ nI so = 0 from nI_ne (b := 0) (by omega) (by decide) h), if_neg h]
    by_cases h2 : so = 1
    · subst h2
      rw [if_pos (show nI 1 = (1 : Int32) from rfl), if_pos rfl, pk_shrN (by omega) _ 3 (by decide), nI_l (by omega), show (256 : Int64) = lN 256 from rfl, lN_mul, lN_add]
    · rw [if_neg (show ¬ nI so = (1 : Int32) from nI_ne (b := 1) (by omega) (by decide) h2), if_neg h2]
/-- notes of the k-th ELEMENT -/
def note5 (c : Nat → Int32) (k : Nat) (v0 v1 v2 v3 v4 : Int32) : Nat → Int32 := if 1000 ≤ k then c else upd (upd (upd (upd (upd c (5 * k) v0) (5 * k + 1) v1) (5 * k + 2) v2) (5 * k + 3) v3) (5 * k + 4) v4
theorem em_220 {len so n d bo k : Nat} (hfp : fr ≤ p) (hpe : p < e) (he : e < 2 ^ 30) (hbe : bo ≤ e) (hg : g ≤ len) (hlen : len < 2 ^ 30) (hs : so < 4) (hn : n < 2 ^ 33) (hd : d < 2 ^ 33) (hk : k < 2 ^ 27) :
    f_X7_elementAt_b220 K (nI len) 20000 m 24000 5000 (nI p) (nI fr) (nI e) 0 (nI g) 0 bp (nI k) li mc nc (nI so) (nI bo) (lN n) (lN d) = if fc e bo len g so n d = 0 then f_X7_elementAt_b405 K (nI len) 20000 m 24000 5000 (nI p) (nI fr) (nI e) 0 (nI g) 0 bp (nI k) li mc (note5 nc k (nI so) (nI (p - fr)) (nI n) (nI d) (nI g)) (nI so) (nI bo) (lN n) (lN d) else some (nI p, nI g, nI (fc e bo len g so n d), nI (p - fr), nI k, li, mc, nc) := by
  have le : ∀ a b : Nat, a < 2 ^ 40 → b < 2 ^ 40 → (lg_cmp (lN a) (lN b) ≤ 0 ↔ a ≤ b) := fun a b ha hb => lgc_le (by omega) (by omega)
  have sub0 : nI g - (0 : Int32) = nI g := pk_sub (b := 0) (Nat.zero_le _)
  have five : (5 : Int32) * nI k = nI (5 * k) := pk_mul 5 k
  have b284 : f_X7_elementAt_b284 K (nI len) 20000 m 24000 5000 (nI p) (nI fr) (nI e) 0 (nI g) 0 bp (nI k) li mc nc (nI so) (nI bo) (lN n) (lN d) = if len - g < n then some (nI p, nI g, 5, nI (p - fr), nI k, li, mc, nc) else f_X7_elementAt_b405 K (nI len) 20000 m 24000 5000 (nI p) (nI fr) (nI e) 0 (nI g) 0 bp (nI k) li mc (note5 nc k (nI so) (nI (p - fr)) (nI n) (nI d) (nI g)) (nI so) (nI bo) (lN n) (lN d) := by
    unfold f_X7_elementAt_b284 f_X7_bad note5
    rw [sub0, nI_l (by omega), nI_l (by omega), lN_add, pk_sub hfp, five]
    by_cases h : len - g < n
    · rw [if_neg (show ¬ lg_cmp (lN (g + n)) (lN len) ≤ 0 from fun q => by have := (le _ _ (by omega) (by omega)).mp q; omega), if_pos h, if_pos (show (0 : Int32) ≤ 0 by decide), sob]
    · rw [if_pos (show lg_cmp (lN (g + n)) (lN len) ≤ 0 from (le _ _ (by omega) (by omega)).mpr (by omega)), if_neg h]
      by_cases h2 : 1000 ≤ k
      · rw [if_pos (show (1000 : Int32) ≤ nI k from nI_le (a := 1000) h2 (by omega)), if_pos h2]
      · rw [if_neg (show ¬ (1000 : Int32) ≤ nI k from nI_ge (b := 1000) (by omega) (by decide)), if_neg h2, show (1 : Int32) = nI 1 from rfl, show (2 : Int32) = nI 2 from rfl, show (3 : Int32) = nI 3 from rfl, show (4 : Int32) = nI 4 from rfl, nI_add, nI_add, nI_add, nI_add, ck_n (by omega) (by decide), ck_n (by omega) (by decide), ck_n (by omega) (by decide), ck_n (by omega) (by decide), ck_n (by omega) (by decide), nI_clamp (by omega), nI_clamp (by omega), nI_clamp (by omega), nI_clamp (by omega), nI_clamp (by omega), lN_i, lN_i]
  unfold f_X7_elementAt_b220 f_X7_elementAt_b248 f_X7_elementAt_b274 f_X7_bad
  rw [b284, sub0, nI_l (show g < 2 ^ 31 by omega), pk_sub hbe, nI_l (by omega), pk_sub hfp, if_pos (show (0 : Int32) ≤ 0 by decide), if_pos (show (0 : Int32) ≤ 0 by decide), sob, sob]
  dsimp only
  by_cases h0 : so = 0
  · subst h0
    rw [if_pos (show nI 0 = (0 : Int32) from rfl), if_pos (show nI 0 ≤ (0 : Int32) by decide)]
    by_cases h1 : e - bo < n
    · have e1 : fc e bo len g 0 n d = 3 := by unfold fc; rw [if_pos ⟨rfl, h1⟩]
      rw [e1, if_neg (show ¬ 0 ≤ lg_cmp (lN (e - bo)) (lN n) from fun q => by have := (lgc_ge (by omega) (by omega)).mp q; omega), if_neg (show ¬ (3 : Nat) = 0 by decide)]; rfl
    · rw [if_pos (show 0 ≤ lg_cmp (lN (e - bo)) (lN n) from (lgc_ge (by omega) (by omega)).mpr (by omega))]
      by_cases h2 : len - g < n
      · have e1 : fc e bo len g 0 n d = 5 := by unfold fc; rw [if_neg (fun q => h1 q.2), if_neg (fun q => q.1 rfl), if_pos h2]
        rw [e1, if_pos h2, if_neg (show ¬ (5 : Nat) = 0 by decide)]; rfl
      · have e1 : fc e bo len g 0 n d = 0 := by unfold fc; rw [if_neg (fun q => h1 q.2), if_neg (fun q => q.1 rfl), if_neg h2]
        rw [e1, if_neg h2, if_pos rfl]
  · have hne : ¬ nI so = (0 : Int32) := nI_ne (b := 0) (by omega) (by decide) h0
    rw [if_neg hne, if_neg (show ¬ nI so ≤ (0 : Int32) from nI_ge (a := 0) (by omega) (by omega))]
    by_cases h1 : d = 0
    · have e1 : fc e bo len g so n d = 4 := by unfold fc; rw [if_neg (fun q => h0 q.1), if_pos ⟨h0, Or.inl h1⟩]
      rw [e1, if_pos (show lg_cmp (lN d) 0 = 0 from (lgc_eq (b := 0) (by omega) (by decide)).mpr h1), if_neg (show ¬ (4 : Nat) = 0 by decide)]; rfl
    · rw [if_neg (show ¬ lg_cmp (lN d) 0 = 0 from fun q => h1 ((lgc_eq (b := 0) (by omega) (by decide)).mp q))]
      by_cases h2 : g < d
      · have e1 : fc e bo len g so n d = 4 := by unfold fc; rw [if_neg (fun q => h0 q.1), if_pos ⟨h0, Or.inr h2⟩]
        rw [e1, if_neg (show ¬ lg_cmp (lN d) (lN g) ≤ 0 from fun q => by have := (le _ _ (by omega) (by omega)).mp q; omega), if_neg (show ¬ (4 : Nat) = 0 by decide)]; rfl
      · rw [if_pos (show lg_cmp (lN d) (lN g) ≤ 0 from (le _ _ (by omega) (by omega)).mpr (by omega))]
        by_cases h3 : len - g < n
        · have e1 : fc e bo len g so n d = 5 := by unfold fc; rw [if_neg (fun q => h0 q.1), if_neg (fun q => by rcases q.2 with z | z <;> omega), if_pos h3]
          rw [e1, if_pos h3, if_neg (show ¬ (5 : Nat) = 0 by decide)]; rfl
        · have e1 : fc e bo len g so n d = 0 := by unfold fc; rw [if_neg (fun q => h0 q.1), if_neg (fun q => by rcases q.2 with z | z <;> omega), if_neg h3]
          rw [e1, if_neg h3, if_pos rfl]
theorem em_all (hK : 5 < K) (hm : mL m L) (hb : by_ L) (hl : L.length ≤ 20000) {len k : Nat} (hfp : fr ≤ p) (hpe : p < e) (he : e ≤ L.length) (hg : g ≤ len) (hlen : len < 2 ^ 30) (hk : k < 2 ^ 27) :
    f_X7_elementAt K (nI g) 0 bp (nI k) li (nI len) 20000 m 24000 mc 5000 nc (nI p) (nI fr) (nI e) 0 =
      if p + 1 + ex (L.getD p 0 % 4) (L.getD p 0 / 4) ≤ e then f_X7_elementAt_b220 K (nI len) 20000 m 24000 5000 (nI p) (nI fr) (nI e) 0 (nI g) 0 bp (nI k) li mc nc (nI (L.getD p 0 % 4)) (nI (p + 1 + ex (L.getD p 0 % 4) (L.getD p 0 / 4))) (lN (sz (L.getD p 0 % 4) (L.getD p 0 / 4) (lev L (p + 1) (ex (L.getD p 0 % 4) (L.getD p 0 / 4))))) (lN (bk (L.getD p 0 % 4) (L.getD p 0 / 4) (lev L (p + 1) (ex (L.getD p 0 % 4) (L.getD p 0 / 4)))))
      else some (nI p, nI g, 3, nI (p - fr), nI k, li, mc, nc) := by
  have ht := hb p
  have hs : L.getD p 0 % 4 < 4 := Nat.mod_lt _ (by decide)
  have hu : L.getD p 0 / 4 < 64 := by omega
  unfold f_X7_elementAt
  rw [atm K hm hb (show p < L.length by omega) hl (by decide), sob, (tg ht).1, (tg ht).2]
  have hx := ex_le (so := L.getD p 0 % 4) (u := L.getD p 0 / 4) hu
  have b64 : f_X7_elementAt_b64 K (nI len) 20000 m 24000 5000 (nI p) (nI fr) (nI e) 0 (nI g) 0 bp (nI k) li mc nc (nI (L.getD p 0 % 4)) (nI (L.getD p 0 / 4)) (nI (ex (L.getD p 0 % 4) (L.getD p 0 / 4))) = if p + 1 + ex (L.getD p 0 % 4) (L.getD p 0 / 4) ≤ e then f_X7_elementAt_b220 K (nI len) 20000 m 24000 5000 (nI p) (nI fr) (nI e) 0 (nI g) 0 bp (nI k) li mc nc (nI (L.getD p 0 % 4)) (nI (p + 1 + ex (L.getD p 0 % 4) (L.getD p 0 / 4))) (lN (sz (L.getD p 0 % 4) (L.getD p 0 / 4) (lev L (p + 1) (ex (L.getD p 0 % 4) (L.getD p 0 / 4))))) (lN (bk (L.getD p 0 % 4) (L.getD p 0 / 4) (lev L (p + 1) (ex (L.getD p 0 % 4) (L.getD p 0 / 4))))) else some (nI p, nI g, 3, nI (p - fr), nI k, li, mc, nc) := by
    unfold f_X7_elementAt_b64 f_X7_bad
    rw [pk_sub (show p ≤ e by omega), show nI (e - p) - (1 : Int32) = nI (e - p - 1) from pk_sub (b := 1) (by omega)]
    by_cases h : p + 1 + ex (L.getD p 0 % 4) (L.getD p 0 / 4) ≤ e
    · have hv := lev_lt hb (p + 1) (ex (L.getD p 0 % 4) (L.getD p 0 / 4))
      have hv2 : 2 ^ (8 * ex (L.getD p 0 % 4) (L.getD p 0 / 4)) ≤ 2 ^ 32 := Nat.pow_le_pow_right (by decide) (by omega)
      rw [if_pos (nI_le (show ex (L.getD p 0 % 4) (L.getD p 0 / 4) ≤ e - p - 1 by omega) (by omega)), if_pos h]
      have h92 := em_92 (K := K) (bp := bp) (op := nI k) (li := li) (wa := nI len) (mc := mc) (nc := nc) (md := nI g) (bf := 0) (p2 := nI fr) (p3 := nI e) (p4 := 0) hm hb hl hs hu hx (show p + 1 + ex (L.getD p 0 % 4) (L.getD p 0 / 4) ≤ L.length by omega) K 0 (Nat.zero_le _) (by omega)
      rw [show lN (lev L (p + 1) 0) = (0 : Int64) from rfl, show nI 0 = (0 : Int32) from rfl] at h92
      rw [h92, em_186 (n := 0) hs hu (by omega)]
    · rw [if_neg (nI_ge (show e - p - 1 < ex (L.getD p 0 % 4) (L.getD p 0 / 4) by omega) (by omega)), if_neg h, if_pos (show (0 : Int32) ≤ 0 by decide), sob, pk_sub hfp]
  rw [← b64]
  unfold ex
  by_cases h : L.getD p 0 % 4 = 0
  · rw [h, if_pos (show nI 0 = (0 : Int32) from rfl), if_pos rfl]
    by_cases h2 : L.getD p 0 / 4 < 60
    · rw [if_pos h2, if_neg (show ¬ (60 : Int32) ≤ nI (L.getD p 0 / 4) from nI_ge (b := 60) h2 (by decide))]; rfl
    · rw [if_neg h2, if_pos (show (60 : Int32) ≤ nI (L.getD p 0 / 4) from nI_le (a := 60) (by omega) (by omega)), show nI (L.getD p 0 / 4) - (59 : Int32) = nI (L.getD p 0 / 4 - 59) from pk_sub (b := 59) (by omega)]
  · rw [if_neg (show ¬ nI (L.getD p 0 % 4) = (0 : Int32) from nI_ne (b := 0) (by omega) (by decide) h), if_neg h]
    by_cases h2 : L.getD p 0 % 4 = 1
    · rw [h2, if_pos (show nI 1 = (1 : Int32) from rfl), if_pos rfl]; rfl
    · rw [if_neg (show ¬ nI (L.getD p 0 % 4) = (1 : Int32) from nI_ne (b := 1) (by omega) (by decide) h2), if_neg h2]
      by_cases h3 : L.getD p 0 % 4 = 2
      · rw [h3, if_pos (show nI 2 = (2 : Int32) from rfl), if_pos rfl]; rfl
      · rw [if_neg (show ¬ nI (L.getD p 0 % 4) = (2 : Int32) from nI_ne (b := 2) (by omega) (by decide) h3), if_neg h3]; rfl
/-- the bytes that an ELEMENT gives behind G -/
def gv (L G : List Nat) (so bo n d : Nat) : List Nat := if so = 0 then G ++ seg L bo n else own G (G.length - d) n
theorem gv_lit (hm : mL m L) (hl : L.length ≤ 20000) {bo n d : Nat} {p2 p3 p4 : Int32} {lt : Int32} (hbn : bo + n ≤ L.length) (hn : n ≤ 20000) : ∀ (q j : Nat) (G : List Nat) (c : Nat → Int32), mL c G → j ≤ n → n - j < q → G.length + (n - j) ≤ 24000 → ∃ c', f_X7_elementAt_b437 K wa 20000 m 24000 5000 (nI p) p2 p3 p4 q (nI G.length) 0 bp op lt c nc (nI 0) (nI bo) (lN n) (lN d) (nI j) = some (nI (bo + n), nI (G.length + (n - j)), 0, bp, op, lt, c', nc) ∧ mL c' (G ++ seg L (bo + j) (n - j)) := by
  intro q
  induction q with
  | zero => intro j G c _ _ h; omega
  | succ q ih =>
    intro j G c hc hj hq hl2
    rw [f_X7_elementAt_b437, nI_l (by omega)]
    rcases Nat.eq_or_lt_of_le hj with z | z
    · subst z
      rw [if_pos ((lgc_ge (by omega) (by omega)).mpr (Nat.le_refl _)), if_pos (show nI 0 = (0 : Int32) from rfl), lN_i, nI_add, Nat.sub_self, seg_0, List.append_nil]
      exact ⟨c, rfl, hc⟩
    · rw [if_neg (fun y => by have := (lgc_ge (by omega) (by omega)).mp y; omega), if_pos (show nI 0 = (0 : Int32) from rfl), nI_add, ck_n (show bo + j < 20000 by omega) (by decide), nI_clamp (by omega), hm (bo + j) (by omega)]
      unfold f_X7_elementAt_b485
      rw [ck_n (show G.length < 24000 by omega) (by decide), nI_clamp (by omega), sb_keep, nI_1, nI_1]
      have h1 := rL_push (v := L.getD (bo + j) 0) hc
      obtain ⟨c', h2, h3⟩ := ih (j + 1) _ _ h1 z (by omega) (by rw [len1]; omega)
      rw [len1] at h2
      refine ⟨c', ?_, ?_⟩
      · rw [h2, show G.length + 1 + (n - (j + 1)) = G.length + (n - j) by omega]
      · rw [show n - j = (n - (j + 1)) + 1 by omega, seg_cons (by omega)]
        rw [List.append_assoc] at h3
        exact h3
theorem gv_cop {so bo n d : Nat} {p2 p3 p4 : Int32} {lt : Int32} (hs : so < 4) (h0 : ¬ so = 0) (hn : n ≤ 20000) (hd : 1 ≤ d) : ∀ (q j : Nat) (G : List Nat) (c : Nat → Int32), mL c G → d ≤ G.length → j ≤ n → n - j < q → G.length + (n - j) ≤ 24000 → ∃ c', f_X7_elementAt_b437 K wa 20000 m 24000 5000 (nI p) p2 p3 p4 q (nI G.length) 0 bp op lt c nc (nI so) (nI bo) (lN n) (lN d) (nI j) = some (nI bo, nI (G.length + (n - j)), 0, bp, op, lt, c', nc) ∧ mL c' (own G (G.length - d) (n - j)) := by
  intro q
  induction q with
  | zero => intro j G c _ _ _ h; omega
  | succ q ih =>
    intro j G c hc hdg hj hq hl2
    have hne : ¬ nI so = (0 : Int32) := nI_ne (b := 0) (by omega) (by decide) h0
    rw [f_X7_elementAt_b437, nI_l (by omega)]
    rcases Nat.eq_or_lt_of_le hj with z | z
    · subst z
      rw [if_pos ((lgc_ge (by omega) (by omega)).mpr (Nat.le_refl _)), if_neg hne, Nat.sub_self]
      exact ⟨c, rfl, hc⟩
    · rw [if_neg (fun y => by have := (lgc_ge (by omega) (by omega)).mp y; omega), if_neg hne, lN_i, pk_sub hdg, ck_n (show G.length - d < 24000 by omega) (by decide), nI_clamp (by omega), hc (G.length - d) (by omega)]
      unfold f_X7_elementAt_b485
      rw [ck_n (show G.length < 24000 by omega) (by decide), nI_clamp (by omega), sb_keep, nI_1, nI_1]
      have h1 := rL_push (v := G.getD (G.length - d) 0) hc
      obtain ⟨c', h2, h3⟩ := ih (j + 1) _ _ h1 (by rw [len1]; omega) z (by omega) (by rw [len1]; omega)
      rw [len1] at h2 h3
      refine ⟨c', ?_, ?_⟩
      · rw [h2, show G.length + 1 + (n - (j + 1)) = G.length + (n - j) by omega]
      · rw [show n - j = (n - (j + 1)) + 1 by omega, own]
        rw [show G.length + 1 - d = G.length - d + 1 by omega] at h3
        exact h3
theorem gv_m (hK : 20001 < K) (hm : mL m L) (hl : L.length ≤ 20000) {so bo n d k : Nat} {len : Nat} {G : List Nat} (hs : so < 4) (hmc : mL mc G) (h1 : so = 0 → bo + n ≤ L.length) (h2 : ¬ so = 0 → 1 ≤ d ∧ d ≤ G.length) (hn : n ≤ 20000) (hg : G.length + n ≤ 24000) :
    ∃ c', f_X7_elementAt_b405 K wa 20000 m 24000 5000 (nI p) (nI fr) (nI e) 0 (nI G.length) 0 bp (nI k) li mc nc (nI so) (nI bo) (lN n) (lN d) = some (nI (if so = 0 then bo + n else bo), nI (gv L G so bo n d).length, 0, bp, nI (k + 1), (if so = 0 then li + 1 else li), c', nc) ∧ mL c' (gv L G so bo n d) := by
  unfold f_X7_elementAt_b405 f_X7_elementAt_b430 gv
  by_cases h0 : so = 0
  · subst h0
    rw [if_pos (show nI 0 = (0 : Int32) from rfl), if_pos rfl, if_pos rfl, if_pos rfl, nI_1]
    obtain ⟨c', f1, g1⟩ := gv_lit (K := K) (p := p) (bp := bp) (op := nI (k + 1)) (wa := wa) (nc := nc) (d := d) (p2 := nI fr) (p3 := nI e) (p4 := 0) (lt := li + 1) hm hl (h1 rfl) hn K 0 G mc hmc (Nat.zero_le _) (by omega) (by omega)
    rw [show (0 : Int32) = nI 0 from rfl] at *
    refine ⟨c', ?_, g1⟩
    rw [f1, List.length_append, seg_len (h1 rfl)]; rfl
  · rw [if_neg (show ¬ nI so = (0 : Int32) from nI_ne (b := 0) (by omega) (by decide) h0), if_neg h0, if_neg h0, if_neg h0, nI_1, Int32.add_zero]
    obtain ⟨c', f1, g1⟩ := gv_cop (K := K) (p := p) (m := m) (bp := bp) (op := nI (k + 1)) (wa := wa) (nc := nc) (bo := bo) (p2 := nI fr) (p3 := nI e) (p4 := 0) (lt := li) hs h0 hn (h2 h0).1 K 0 G mc hmc (h2 h0).2 (Nat.zero_le _) (by omega) (by omega)
    refine ⟨c', ?_, g1⟩
    rw [show (0 : Int32) = nI 0 from rfl] at *
    rw [f1, own_len]; rfl
end EM
theorem add_c (K : Nat) {k : Nat} {mk v0 v1 v2 v3 v4 : Int32} {c : Nat → Int32} (hk : k < 2 ^ 27) (b : Bool) : f_X3_add K (nI k) mk 5000 c v0 v1 v2 v3 v4 (if b then 1 else 0) = some (nI (k + 1), (if b then mk + 1 else mk), note5 c k v0 v1 v2 v3 v4) := by
  unfold f_X3_add f_X3_add_b68 note5
  have five : nI k * (5 : Int32) = nI (5 * k) := by rw [show (5 : Int32) = nI 5 from rfl, pk_mul, Nat.mul_comm]
  rw [five, nI_1]
  have fin : ∀ cc : Nat → Int32, (if (if b then (1 : Int32) else 0) = 0 then some (nI (k + 1), mk, cc) else some (nI (k + 1), mk + 1, cc)) = some (nI (k + 1), (if b then mk + 1 else mk), cc) := by
    intro cc; cases b <;> rfl
  by_cases h2 : 1000 ≤ k
  · rw [if_pos (show (1000 : Int32) ≤ nI k from nI_le (a := 1000) h2 (by omega)), if_pos h2, fin]
  · rw [if_neg (show ¬ (1000 : Int32) ≤ nI k from nI_ge (b := 1000) (by omega) (by decide)), if_neg h2]
    have e1 : ∀ a : Nat, nI (5 * k) + nI a = nI (5 * k + a) := fun a => nI_add _ _
    have q1 := e1 1; have q2 := e1 2; have q3 := e1 3; have q4 := e1 4
    rw [show nI 1 = (1 : Int32) from rfl] at q1
    rw [show nI 2 = (2 : Int32) from rfl] at q2
    rw [show nI 3 = (3 : Int32) from rfl] at q3
    rw [show nI 4 = (4 : Int32) from rfl] at q4
    rw [q1, q2, q3, q4, ck_n (by omega) (by decide), ck_n (by omega) (by decide), ck_n (by omega) (by decide), ck_n (by omega) (by decide), ck_n (by omega) (by decide), nI_clamp (by omega), nI_clamp (by omega), nI_clamp (by omega), nI_clamp (by omega), nI_clamp (by omega), fin]
/-- the class gives an ELEMENT that has no fault -/
theorem gv_c (K : Nat) (hK : 20001 < K) {N fr p so bo n d k : Nat} {mk : Int32} {L G : List Nat} {c gc el : Nat → Int32} (hc : cL c L) (hl : L.length ≤ N) (hN : N < 2 ^ 30) (hgc : cL gc G) (hfp : fr ≤ p) (hs : so < 4) (h1 : so = 0 → bo + n ≤ L.length) (h2 : ¬ so = 0 → 1 ≤ d ∧ d ≤ G.length) (hn : n ≤ 20000) (hg : G.length + n ≤ 20000) (hbo : bo < 2 ^ 30) (hk : k < 2 ^ 27) :
    ∃ gc', f_X0_giveElement K (nI fr) (nI p) (nI so) (nI bo) (lN n) (lN d) (nI G.length) 20000 gc (nI k) mk 5000 el (nI L.length) N c = some (nI (if so = 0 then bo + n else bo), nI (gv L G so bo n d).length, gc', nI (k + 1), (if so = 0 then mk + 1 else mk), note5 el k (nI so) (nI (p - fr)) (nI n) (nI d) (nI G.length)) ∧ cL gc' (gv L G so bo n d) := by
  unfold f_X0_giveElement f_X0_giveElement_b50 gv
  rw [lN_i, lN_i, pk_sub hfp]
  by_cases h0 : so = 0
  · subst h0
    have ha := add_c K (k := k) (mk := mk) (v0 := nI 0) (v1 := nI (p - fr)) (v2 := nI n) (v3 := nI d) (v4 := nI G.length) (c := el) hk true
    rw [if_pos rfl, if_pos rfl] at ha
    rw [if_pos (show nI 0 = (0 : Int32) from rfl), ha, sob, if_pos (show nI 0 = (0 : Int32) from rfl), if_pos rfl, if_pos rfl, if_pos rfl]
    obtain ⟨g', f1, g1⟩ := putAll_ok K (N := 20000) (N2 := N) (i := bo) (k := n) hgc hc hl (h1 rfl) hg (by decide) hN
    rw [f1, sob, nI_add]
    refine ⟨g', ?_, g1⟩
    rw [List.length_append, seg_len (h1 rfl)]
  · have ha := add_c K (k := k) (mk := mk) (v0 := nI so) (v1 := nI (p - fr)) (v2 := nI n) (v3 := nI d) (v4 := nI G.length) (c := el) hk false
    rw [if_neg (by decide), if_neg (by decide)] at ha
    have hne : ¬ nI so = (0 : Int32) := nI_ne (b := 0) (by omega) (by decide) h0
    rw [if_neg hne, ha, sob, if_neg hne, if_neg h0, if_neg h0, if_neg h0, pk_sub (h2 h0).2]
    have hh := h2 h0
    obtain ⟨g', f1, g1⟩ := putOwn_ok K (i := G.length - d) (k := n) (N := 20000) (by omega) (by decide) hgc (by omega) hg
    rw [f1, sob]
    refine ⟨g', ?_, g1⟩
    rw [own_len]
