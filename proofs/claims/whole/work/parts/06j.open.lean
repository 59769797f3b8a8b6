/-! PURE ROWS 10: a BLOCK opened by the class and by the reference -/
def rowsEq (el nc : Nat → Int32) (k : Nat) : Prop := ∀ j, j < 5 * min k 1000 → el j = nc j
theorem rows_note {el nc : Nat → Int32} {k : Nat} {v0 v1 v2 v3 v4 : Int32} (h : rowsEq el nc k) : rowsEq (note5 el k v0 v1 v2 v3 v4) (note5 nc k v0 v1 v2 v3 v4) (k + 1) := by
  unfold note5
  by_cases h2 : 1000 ≤ k
  · rw [if_pos h2, if_pos h2]; intro j hj; exact h j (by omega)
  · rw [if_neg h2, if_neg h2]
    intro j hj
    have u : ∀ (f g : Nat → Int32) (i : Nat) (x : Int32), f j = g j ∨ j = i → upd f i x j = upd g i x j := by
      intro f g i x hh
      by_cases e : j = i
      · subst e; rw [pk_us, pk_us]
      · rw [pk_un e, pk_un e]; exact hh.resolve_right e
    have c5 : j < 5 * k ∨ j = 5 * k ∨ j = 5 * k + 1 ∨ j = 5 * k + 2 ∨ j = 5 * k + 3 ∨ j = 5 * k + 4 := by omega
    rcases c5 with z | z | z | z | z | z
    · exact u _ _ _ _ (Or.inl (u _ _ _ _ (Or.inl (u _ _ _ _ (Or.inl (u _ _ _ _ (Or.inl (u _ _ _ _ (Or.inl (h j (by omega)))))))))))
    · exact u _ _ _ _ (Or.inl (u _ _ _ _ (Or.inl (u _ _ _ _ (Or.inl (u _ _ _ _ (Or.inl (u _ _ _ _ (Or.inr z)))))))))
    · exact u _ _ _ _ (Or.inl (u _ _ _ _ (Or.inl (u _ _ _ _ (Or.inl (u _ _ _ _ (Or.inr z)))))))
    · exact u _ _ _ _ (Or.inl (u _ _ _ _ (Or.inl (u _ _ _ _ (Or.inr z)))))
    · exact u _ _ _ _ (Or.inl (u _ _ _ _ (Or.inr z)))
    · exact u _ _ _ _ (Or.inr z)
theorem b50_f (K : Nat) {z : Nat} {N : Nat} {c gc el : Nat → Int32} {cn p2 p3 fa pl st en nx ln so bo gn k mk x4 : Int32} {si ba : Int64} (hf : ¬ fa = 0) : f_X0_openBlock_b50 K 20000 5000 cn N c p2 p3 (z + 1) fa pl st en nx ln so bo si ba gn gc k mk el x4 = some (fa, pl, st, en, nx, ln, so, bo, si, ba, gn, gc, k, mk, el) := by
  rw [f_X0_openBlock_b50]
  unfold f_X0_openBlock_b108
  rw [if_neg hf, if_neg hf]
  by_cases h1 : p3 ≤ x4
  · rw [if_pos h1]
  · rw [if_neg h1]
    by_cases h2 : en ≤ nx
    · rw [if_pos h2]
    · rw [if_neg h2]
theorem fc_vals (e bo len g so n d : Nat) : fc e bo len g so n d = 0 ∨ fc e bo len g so n d = 3 ∨ fc e bo len g so n d = 4 ∨ fc e bo len g so n d = 5 := by
  unfold fc
  by_cases h1 : so = 0 ∧ e - bo < n
  · rw [if_pos h1]; omega
  · rw [if_neg h1]
    by_cases h2 : ¬ so = 0 ∧ (d = 0 ∨ g < d)
    · rw [if_pos h2]; omega
    · rw [if_neg h2]
      by_cases h3 : len - g < n
      · rw [if_pos h3]; omega
      · rw [if_neg h3]; omega
theorem fc_0 {e bo len g so n d : Nat} (h : fc e bo len g so n d = 0) : (so = 0 → n ≤ e - bo) ∧ (¬ so = 0 → 1 ≤ d ∧ d ≤ g) ∧ n ≤ len - g := by
  unfold fc at h
  by_cases h1 : so = 0 ∧ e - bo < n
  · rw [if_pos h1] at h; cases h
  · rw [if_neg h1] at h
    by_cases h2 : ¬ so = 0 ∧ (d = 0 ∨ g < d)
    · rw [if_pos h2] at h; cases h
    · rw [if_neg h2] at h
      by_cases h3 : len - g < n
      · rw [if_pos h3] at h; cases h
      · exact ⟨fun q => Nat.le_of_not_lt fun y => h1 ⟨q, y⟩, fun q => ⟨Nat.pos_of_ne_zero fun y => h2 ⟨q, Or.inl y⟩, Nat.le_of_not_lt fun y => h2 ⟨q, Or.inr y⟩⟩, by omega⟩
theorem gv_by {L G : List Nat} {so bo n d : Nat} (hb : by_ L) (hg : by_ G) : by_ (gv L G so bo n d) := by
  unfold gv
  by_cases h : so = 0
  · rw [if_pos h]; exact by_app hg (by_seg hb)
  · rw [if_neg h]; exact own_by _ _ _ hg
theorem gv_len {L G : List Nat} {so bo n d : Nat} (h1 : so = 0 → bo + n ≤ L.length) : (gv L G so bo n d).length = G.length + n := by
  unfold gv
  by_cases h : so = 0
  · rw [if_pos h, List.length_append, seg_len (h1 h)]
  · rw [if_neg h, own_len]
/-- what both come to: fault f at pl, the bytes G, k ELEMENTS noted -/
def opEnd (L : List Nat) (f : Nat) (G : List Nat) (k : Nat) (gc mc el nc : Nat → Int32) : Prop := f ≤ 6 ∧ G.length ≤ 20000 ∧ k < 2 ^ 27 ∧ by_ G ∧ cL gc G ∧ mL mc G ∧ rowsEq el nc k
theorem op_loop (K : Nat) (hK : 20005 < K) {N fr e len : Nat} {L : List Nat} {c m : Nat → Int32} {p2 : Int32} (hc : cL c L) (hm : mL m L) (hb : by_ L) (hl : L.length ≤ 20000) (hlN : L.length ≤ N) (hN : N < 2 ^ 30) (he : e ≤ L.length) (hlen : len ≤ 20000) :
    ∀ (z w p : Nat) (G : List Nat) (k : Nat) (mk : Int32) (gc mc el nc : Nat → Int32) (so bo : Int32) (si ba : Int64), fr ≤ p → p ≤ e → k ≤ p - fr → G.length ≤ len → by_ G → cL gc G → mL mc G → rowsEq el nc k → e - p + 1 < z → e - p + 1 < w →
      ∃ (f : Nat) (pl nx so' bo' : Int32) (si' ba' : Int64) (G' : List Nat) (k' : Nat) (mk' : Int32) (gc' mc' el' nc' : Nat → Int32), f_X0_openBlock_b50 K 20000 5000 (nI L.length) N c p2 (nI (e - fr)) z 0 (-1) (nI fr) (nI e) (nI p) (nI len) so bo si ba (nI G.length) gc (nI k) mk el (nI k) = some (nI f, pl, nI fr, nI e, nx, nI len, so', bo', si', ba', nI G'.length, gc', nI k', mk', el') ∧ f_X7_openPart_b154 K 20000 m 24000 5000 (nI fr) (nI e) w (nI G.length) 0 (-1) (nI k) mk (nI len) mc nc 0 (nI p) = some (nI G'.length, nI f, pl, nI k', mk', nI len, mc', nc') ∧ opEnd L f G' k' gc' mc' el' nc' := by
  intro z
  induction z with
  | zero => intro w p G k mk gc mc el nc so bo si ba _ _ _ _ _ _ _ _ h; omega
  | succ z ih =>
    intro w p G k mk gc mc el nc so bo si ba hfp hpe hkp hG hbG hgc hmc hrows hz hw
    obtain ⟨w, rfl⟩ : ∃ y, w = y + 1 := ⟨w - 1, by omega⟩
    have sub0 : nI G.length - (0 : Int32) = nI G.length := pk_sub (b := 0) (Nat.zero_le _)
    rcases Nat.eq_or_lt_of_le hpe with hpe1 | hpe1
    · -- behind all
      subst hpe1
      rw [f_X0_openBlock_b50, f_X7_openPart_b154]
      have h108 : (if nI (p - fr) ≤ nI k then f_X0_openBlock_b108 K 20000 5000 (nI L.length) N c p2 (nI (p - fr)) 0 (-1) (nI fr) (nI p) (nI p) (nI len) so bo si ba (nI G.length) gc (nI k) mk el else f_X0_openBlock_b108 K 20000 5000 (nI L.length) N c p2 (nI (p - fr)) 0 (-1) (nI fr) (nI p) (nI p) (nI len) so bo si ba (nI G.length) gc (nI k) mk el) = f_X0_openBlock_b108 K 20000 5000 (nI L.length) N c p2 (nI (p - fr)) 0 (-1) (nI fr) (nI p) (nI p) (nI len) so bo si ba (nI G.length) gc (nI k) mk el := by
        by_cases y : nI (p - fr) ≤ nI k
        · rw [if_pos y]
        · rw [if_neg y]
      rw [if_pos (show nI p ≤ nI p from nI_le (Nat.le_refl _) (by omega)), if_pos (show nI p ≤ nI p from nI_le (Nat.le_refl _) (by omega)), h108]
      unfold f_X0_openBlock_b108 f_X7_openPart_b181 f_X0_fail f_X7_bad
      rw [i00, i00, sub0, pk_sub hfp]
      by_cases h : len ≤ G.length
      · rw [if_pos (nI_le h (by omega)), if_pos (nI_le h (by omega))]
        exact ⟨0, -1, nI p, so, bo, si, ba, G, k, mk, gc, mc, el, nc, rfl, rfl, by omega, by omega, by omega, hbG, hgc, hmc, hrows⟩
      · rw [if_neg (nI_ge (by omega) (by omega)), if_neg (nI_ge (by omega) (by omega)), if_pos (show (0 : Int32) ≤ 0 by decide), sob, sob]
        exact ⟨6, nI (p - fr), nI p, so, bo, si, ba, G, k, mk, gc, mc, el, nc, rfl, rfl, by omega, by omega, by omega, hbG, hgc, hmc, hrows⟩
    · have ht := hb p
      have hs : L.getD p 0 % 4 < 4 := Nat.mod_lt _ (by decide)
      have hu : L.getD p 0 / 4 < 64 := by omega
      have hx := ex_le (so := L.getD p 0 % 4) (u := L.getD p 0 / 4) hu
      have hv := lev_lt hb (p + 1) (ex (L.getD p 0 % 4) (L.getD p 0 / 4))
      have hv2 : 2 ^ (8 * ex (L.getD p 0 % 4) (L.getD p 0 / 4)) ≤ 2 ^ 32 := Nat.pow_le_pow_right (by decide) (by omega)
      rw [f_X0_openBlock_b50, f_X7_openPart_b154, if_neg (show ¬ nI (e - fr) ≤ nI k from nI_ge (by omega) (by omega)), if_neg (show ¬ nI e ≤ nI p from nI_ge hpe1 (by omega)), if_neg (show ¬ nI e ≤ nI p from nI_ge hpe1 (by omega)), i00, i00, read_c K (by omega) hc hb hlN hN hfp hpe1 he, em_all (by omega) hm hb hl hfp hpe1 he hG (by omega) (by omega)]
      by_cases hcut : p + 1 + ex (L.getD p 0 % 4) (L.getD p 0 / 4) ≤ e
      · have hszl := sz_lt (so := L.getD p 0 % 4) (v := lev L (p + 1) (ex (L.getD p 0 % 4) (L.getD p 0 / 4))) hu (by omega)
        have hbkl := bk_lt (so := L.getD p 0 % 4) (v := lev L (p + 1) (ex (L.getD p 0 % 4) (L.getD p 0 / 4))) hu (by omega)
        rw [if_pos hcut, if_pos hcut, sob]
        dsimp only
        rw [i00]
        generalize L.getD p 0 % 4 = so1 at *
        generalize hbo : p + 1 + ex so1 (L.getD p 0 / 4) = bo1 at *
        generalize sz so1 (L.getD p 0 / 4) (lev L (p + 1) (ex so1 (L.getD p 0 / 4))) = n1 at *
        generalize bk so1 (L.getD p 0 / 4) (lev L (p + 1) (ex so1 (L.getD p 0 / 4))) = d1 at *
        rw [check_c K hfp (by omega) hcut (by omega) hG (by omega) hs hszl.1 hbkl, em_220 hfp hpe1 (by omega) hcut hG (by omega) hs hszl.1 hbkl (by omega)]
        by_cases hf : fc e bo1 len G.length so1 n1 d1 = 0
        · rw [if_pos hf, if_pos hf, sob]
          obtain ⟨y1, y2, y3⟩ := fc_0 hf
          have a1 : so1 = 0 → bo1 + n1 ≤ L.length := fun q => by have := y1 q; omega
          have a1e : so1 = 0 → bo1 + n1 ≤ e := fun q => by have := y1 q; omega
          obtain ⟨gc1, f1, g1⟩ := gv_c K (by omega) (N := N) (fr := fr) (p := p) (so := so1) (bo := bo1) (n := n1) (d := d1) (k := k) (mk := mk) (el := el) hc hlN hN hgc hfp hs a1 y2 (by omega) (by omega) (by omega) (by omega)
          obtain ⟨mc1, f2, g2⟩ := gv_m (K := K) (fr := fr) (e := e) (p := p) (wa := nI len) (bp := -1) (li := mk) (nc := note5 nc k (nI so1) (nI (p - fr)) (nI n1) (nI d1) (nI G.length)) (by omega) hm hl (so := so1) (bo := bo1) (n := n1) (d := d1) (k := k) (len := len) hs hmc a1 y2 (by omega) (by omega)
          unfold f_X0_openBlock_b90
          dsimp only
          rw [i00, f1, sob, f2, sob, nI_1]
          dsimp only
          have hlen2 := gv_len (L := L) (G := G) (so := so1) (bo := bo1) (n := n1) (d := d1) a1
          have hnx : p < (if so1 = 0 then bo1 + n1 else bo1) ∧ (if so1 = 0 then bo1 + n1 else bo1) ≤ e := by
            by_cases q : so1 = 0
            · rw [if_pos q]; have := a1e q; omega
            · rw [if_neg q]; omega
          generalize hq : (if so1 = 0 then bo1 + n1 else bo1) = p' at *
          exact ih w p' (gv L G so1 bo1 n1 d1) (k + 1) _ gc1 mc1 _ _ (nI so1) (nI bo1) (lN n1) (lN d1) (by omega) hnx.2 (by omega) (by omega) (gv_by hb hbG) g1 g2 (rows_note hrows) (by omega) (by omega)
        · rw [if_neg hf, if_neg hf, sob]
          have hv4 := fc_vals e bo1 len G.length so1 n1 d1
          generalize fc e bo1 len G.length so1 n1 d1 = ff at *
          have hnz : ¬ nI ff = 0 := nI_ne0 (by omega) (by omega)
          unfold f_X0_openBlock_b90
          dsimp only
          obtain ⟨z, rfl⟩ : ∃ y, z = y + 1 := ⟨z - 1, by omega⟩
          obtain ⟨w, rfl⟩ : ∃ y, w = y + 1 := ⟨w - 1, by omega⟩
          rw [if_neg hnz, b50_f K hnz, sob]
          dsimp only
          rw [f_X7_openPart_b154]
          unfold f_X7_openPart_b181
          rw [if_neg (show ¬ nI e ≤ nI p from nI_ge hpe1 (by omega)), if_neg hnz, if_neg hnz]
          exact ⟨ff, nI (p - fr), _, _, _, _, _, G, k, mk, gc, mc, el, nc, rfl, rfl, by omega, by omega, by omega, hbG, hgc, hmc, hrows⟩
      · rw [if_neg hcut, if_neg hcut, sob, sob]
        dsimp only
        have hnz : ¬ (3 : Int32) = 0 := by decide
        rw [if_neg hnz]
        unfold f_X0_openBlock_b90
        obtain ⟨z, rfl⟩ : ∃ y, z = y + 1 := ⟨z - 1, by omega⟩
        obtain ⟨w, rfl⟩ : ∃ y, w = y + 1 := ⟨w - 1, by omega⟩
        rw [if_neg hnz, b50_f K hnz, f_X7_openPart_b154]
        unfold f_X7_openPart_b181
        rw [if_neg (show ¬ nI e ≤ nI p from nI_ge hpe1 (by omega)), if_neg hnz, if_neg hnz]
        exact ⟨3, nI (p - fr), _, _, _, _, _, G, k, mk, gc, mc, el, nc, rfl, rfl, by omega, by omega, by omega, hbG, hgc, hmc, hrows⟩
/-- the LENGTH as it is read -/
theorem acc_or {a b k : Nat} (ha : a < 2 ^ (7 * k)) (hb : b < 128) (hk : k < 5) : lN a ||| ((nI b).toInt64 <<< (((7 : Int32) * nI k).toInt64 &&& 63)) = lN (a + b * 2 ^ (7 * k)) ∧ a + b * 2 ^ (7 * k) < 2 ^ (7 * (k + 1)) := by
  have h5 : 2 ^ (7 * (k + 1)) ≤ 2 ^ 35 := Nat.pow_le_pow_right (by decide) (by omega)
  have h6 : a + b * 2 ^ (7 * k) < 2 ^ (7 * (k + 1)) := by
    rw [show 7 * (k + 1) = 7 * k + 7 by omega, Nat.pow_add]
    have h3 : b * 2 ^ (7 * k) ≤ 127 * 2 ^ (7 * k) := Nat.mul_le_mul_right _ (by omega)
    omega
  refine ⟨?_, h6⟩
  rw [show (7 : Int32) * nI k = nI (7 * k) from pk_mul 7 k, nI_l (by omega), wb_shl _ (show 7 * k < 64 by omega), g_or' rfl ha (by omega)]
theorem len_both (K : Nat) (hK : 20005 < K) {N fr e : Nat} {L : List Nat} {c m mc nc : Nat → Int32} {ln wa : Int32} (hc : cL c L) (hm : mL m L) (hb : by_ L) (hl : L.length ≤ 20000) (hlN : L.length ≤ N) (hN : N < 2 ^ 30) (he : e ≤ L.length) :
    ∀ (z w p k a : Nat), fr ≤ p → p ≤ e → p = fr + k → k ≤ 5 → a < 2 ^ (7 * k) → 6 - k < z → 6 - k < w →
      (∃ (f : Nat) (nx : Int32), (f = 1 ∨ f = 2) ∧ f_X0_readLength_b8 K (nI fr) (nI e) (nI L.length) N c z 0 (-1) (nI p) ln (lN a) 0 (nI k) = some (nI f, 0, nx, ln) ∧ f_X7_openPart_b37 K 20000 m 24000 5000 (nI fr) (nI e) w 0 0 (-1) 0 0 wa mc nc 0 (lN a) (nI p) 1 (nI k) = some (0, nI f, 0, 0, 0, wa, mc, nc)) ∨
      (∃ (len p' : Nat), len ≤ 20000 ∧ fr ≤ p' ∧ p' ≤ e ∧ f_X0_readLength_b8 K (nI fr) (nI e) (nI L.length) N c z 0 (-1) (nI p) ln (lN a) 0 (nI k) = some (0, -1, nI p', nI len) ∧ f_X7_openPart_b37 K 20000 m 24000 5000 (nI fr) (nI e) w 0 0 (-1) 0 0 wa mc nc 0 (lN a) (nI p) 1 (nI k) = f_X7_openPart_b154 K 20000 m 24000 5000 (nI fr) (nI e) K 0 0 (-1) 0 0 (nI len) mc nc 0 (nI p')) := by
  have hfr0 : nI fr - nI fr = (0 : Int32) := by
    have := pk_sub (Nat.le_refl fr); rw [Nat.sub_self] at this; exact this
  intro z
  induction z with
  | zero => intro w p k a _ _ _ _ _ h; omega
  | succ z ih =>
    intro w p k a hfp hpe hpk hk ha hz hw
    obtain ⟨w, rfl⟩ : ∃ y, w = y + 1 := ⟨w - 1, by omega⟩
    rw [f_X0_readLength_b8, f_X7_openPart_b37]
    rcases Nat.eq_or_lt_of_le hk with h5 | h5
    · subst h5
      rw [if_pos (show (5 : Int32) ≤ nI 5 by decide), if_pos (show (5 : Int32) ≤ nI 5 by decide)]
      unfold f_X0_readLength_b86 f_X0_readLength_b99 f_X7_openPart_b109 f_X7_openPart_b124 f_X0_fail f_X7_bad
      rw [i00, hfr0, sob, i10, if_pos (show (0 : Int32) ≤ 0 by decide), sob]
      exact Or.inl ⟨1, _, Or.inl rfl, rfl, rfl⟩
    · have n5 : ¬ (5 : Int32) ≤ nI k := nI_ge (b := 5) h5 (by decide)
      rw [if_neg n5, if_neg n5, i10]
      rcases Nat.eq_or_lt_of_le hpe with hp1 | hp1
      · rw [if_pos (show nI e ≤ nI p by rw [hp1]; exact nI_le (Nat.le_refl _) (by omega)), if_pos (show nI p = nI e by rw [hp1])]
        unfold f_X0_readLength_b86 f_X0_readLength_b99 f_X0_fail f_X7_bad
        rw [i00, hfr0, sob, if_pos (show (0 : Int32) ≤ 0 by decide), sob]
        exact Or.inl ⟨1, _, Or.inl rfl, rfl, rfl⟩
      · have ht := hb p
        obtain ⟨o1, o2⟩ := acc_or (b := L.getD p 0 % 128) ha (by omega) h5
        rw [if_neg (show ¬ nI e ≤ nI p from nI_ge hp1 (by omega)), i00, if_neg (show ¬ nI p = nI e from nI_ne (by omega) (by omega) (by omega)), at_1 K hc (show p < L.length by omega) hlN (by omega), sob, atm K hm hb (show p < L.length by omega) hl (by decide), sob, sob, and127 (by omega), o1, nI_1, nI_1]
        by_cases h8 : L.getD p 0 < 128
        · rw [if_neg (show ¬ (128 : Int32) ≤ nI (L.getD p 0) from nI_ge (b := 128) h8 (by decide)), if_pos (show nI (L.getD p 0) ≤ (127 : Int32) from nI_le (b := 127) (by omega) (by decide))]
          obtain ⟨z, rfl⟩ : ∃ y, z = y + 1 := ⟨z - 1, by omega⟩
          obtain ⟨w, rfl⟩ : ∃ y, w = y + 1 := ⟨w - 1, by omega⟩
          have hT : a + L.getD p 0 % 128 * 2 ^ (7 * k) < 2 ^ 35 := Nat.lt_of_lt_of_le o2 (Nat.pow_le_pow_right (by decide) (by omega))
          generalize a + L.getD p 0 % 128 * 2 ^ (7 * k) = T at *
          have l86 : f_X0_readLength_b8 K (nI fr) (nI e) (nI L.length) N c (z + 1) 0 (-1) (nI (p + 1)) ln (lN T) 1 (nI (k + 1)) = f_X0_readLength_b86 K (nI fr) (nI e) (nI L.length) N c 0 (-1) (nI (p + 1)) ln (lN T) 1 := by
            rw [f_X0_readLength_b8, i10]
            by_cases y1 : (5 : Int32) ≤ nI (k + 1)
            · rw [if_pos y1]
            · rw [if_neg y1]
              by_cases y2 : nI e ≤ nI (p + 1)
              · rw [if_pos y2]
              · rw [if_neg y2]
          have l109 : f_X7_openPart_b37 K 20000 m 24000 5000 (nI fr) (nI e) (w + 1) 0 0 (-1) 0 0 wa mc nc 0 (lN T) (nI (p + 1)) 0 (nI (k + 1)) = f_X7_openPart_b109 K 20000 m 24000 5000 (nI fr) (nI e) 0 0 (-1) 0 0 wa mc nc 0 (lN T) (nI (p + 1)) 0 := by
            rw [f_X7_openPart_b37, i00]
            by_cases y1 : (5 : Int32) ≤ nI (k + 1)
            · rw [if_pos y1]
            · rw [if_neg y1]
          rw [l86, l109]
          unfold f_X0_readLength_b86 f_X0_readLength_b99 f_X7_openPart_b109 f_X7_openPart_b124 f_X0_fail f_X7_bad
          rw [i10, i00, hfr0, sob, sob, if_pos (show (0 : Int32) ≤ 0 by decide), if_pos (show (0 : Int32) ≤ 0 by decide), sob, sob, pf_shr (d := 32) (by decide) (by omega)]
          by_cases q1 : T < 4294967296
          · rw [if_pos (show lg_cmp (lN T) (4294967296 : Int64) < 0 from (lgc_lt (b := 4294967296) (by omega) (by decide)).mpr q1), if_pos (show lg_cmp (lN (T / 2 ^ 32)) (0 : Int64) = 0 from (lgc_eq (b := 0) (by omega) (by decide)).mpr (by omega))]
            by_cases q2 : T ≤ 20000
            · have q3 : lg_cmp (lN T) (20000 : Int64) ≤ 0 := (lgc_le (b := 20000) (by omega) (by decide)).mpr q2
              rw [if_pos q3, if_pos q3, lN_i]
              exact Or.inr ⟨T, p + 1, q2, by omega, by omega, rfl, rfl⟩
            · have q3 : ¬ lg_cmp (lN T) (20000 : Int64) ≤ 0 := fun y => q2 ((lgc_le (b := 20000) (by omega) (by decide)).mp y)
              rw [if_neg q3, if_neg q3]
              exact Or.inl ⟨2, _, Or.inr rfl, rfl, rfl⟩
          · rw [if_neg (show ¬ lg_cmp (lN T) (4294967296 : Int64) < 0 from fun y => q1 ((lgc_lt (b := 4294967296) (by omega) (by decide)).mp y)), if_neg (show ¬ lg_cmp (lN (T / 2 ^ 32)) (0 : Int64) = 0 from fun y => by have := (lgc_eq (b := 0) (by omega) (by decide)).mp y; omega)]
            exact Or.inl ⟨1, _, Or.inl rfl, rfl, rfl⟩
        · rw [if_pos (show (128 : Int32) ≤ nI (L.getD p 0) from nI_le (a := 128) (by omega) (by omega)), if_neg (show ¬ nI (L.getD p 0) ≤ (127 : Int32) from nI_ge (a := 127) (by omega) (by omega))]
          exact ih w (p + 1) (k + 1) _ (by omega) (by omega) (by omega) (by omega) o2 (by omega) (by omega)
theorem open_both (K : Nat) (hK : 20010 < K) {N fr n x : Nat} {L : List Nat} {c m gc el mc nc : Nat → Int32} {fa pl st en nx ln so bo ec em bf bp op li wa : Int32} {si ba : Int64} (hc : cL c L) (hm : mL m L) (hb : by_ L) (hl : L.length ≤ 20000) (hlN : L.length ≤ N) (hN : N < 2 ^ 30) (hfn : fr + n ≤ L.length) (hx : x < 2 ^ 30) :
    ∃ (f : Nat) (pl' st' en' nx' ln' so' bo' : Int32) (si' ba' : Int64) (G : List Nat) (k : Nat) (mk wa' : Int32) (gc' mc' el' nc' : Nat → Int32), f_X0_openBlock K fa pl st en nx ln so bo si ba (nI x) 20000 gc ec em 5000 el (nI L.length) N c (nI fr) (nI n) = some (nI f, pl', st', en', nx', ln', so', bo', si', ba', nI G.length, gc', nI k, mk, el') ∧ f_X7_openPart K 0 bf bp op li wa 20000 m 24000 mc 5000 nc (nI fr) (nI (fr + n)) = some (nI G.length, nI f, pl', nI k, mk, wa', mc', nc') ∧ opEnd L f G k gc' mc' el' nc' := by
  unfold f_X0_openBlock f_X3_clear f_X0_readLength f_X7_openPart
  rw [shorten0 K hx, sob, sob, nI_add]
  have h := len_both K (by omega) (N := N) (fr := fr) (e := fr + n) (mc := mc) (nc := nc) (ln := ln) (wa := wa) hc hm hb hl hlN hN hfn K K fr 0 0 (Nat.le_refl _) (by omega) (by omega) (by omega) (by decide) (by omega) (by omega)
  rw [show lN 0 = (0 : Int64) from rfl, show nI 0 = (0 : Int32) from rfl] at h
  rcases h with ⟨f, nx1, h1, h2, h3⟩ | ⟨len, p', h1, h2, h3, h4, h5⟩
  · rw [h2, h3, sob]
    have hnz : ¬ nI f = 0 := nI_ne0 (by omega) (by omega)
    obtain ⟨K, rfl⟩ : ∃ y, K = y + 1 := ⟨K - 1, by omega⟩
    dsimp only
    rw [b50_f _ hnz]
    exact ⟨f, 0, _, _, _, _, _, _, _, _, [], 0, 0, wa, gc, mc, el, nc, rfl, rfl, by omega, by decide, by decide, by_nil, rL_nil, rL_nil, fun j hj => by simp at hj⟩
  · rw [h4, h5, sob]
    dsimp only
    obtain ⟨f, pl1, nx1, so1, bo1, si1, ba1, G, k, mk, gc1, mc1, el1, nc1, e1, e2, e3⟩ := op_loop K (by omega) (N := N) (fr := fr) (e := fr + n) (len := len) (p2 := nI fr) hc hm hb hl hlN hN hfn h1 K K p' [] 0 0 gc mc el nc so bo si ba h2 h3 (Nat.zero_le _) (Nat.zero_le _) by_nil rL_nil rL_nil (fun j hj => by simp at hj) (by omega) (by omega)
    rw [Nat.add_sub_cancel_left] at e1
    exact ⟨f, pl1, _, _, _, _, _, _, _, _, G, k, mk, nI len, gc1, mc1, el1, nc1, e1, e2, e3⟩
