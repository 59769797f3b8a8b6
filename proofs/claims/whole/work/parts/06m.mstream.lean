/-! PURE ROWS 13: stream -/
def NMs : List Nat := [115, 78, 97, 80, 112, 89]
theorem nm_c : ∀ j, j < 6 → tb_N.getD j 0 = nI (NMs.getD j 0) := by decide +kernel
theorem nm_b : ∀ j, j < 6 → NMs.getD j 0 < 256 := by decide
theorem nm_by : by_ NMs := by_cons (by decide) (by_cons (by decide) (by_cons (by decide) (by_cons (by decide) (by_cons (by decide) (by_cons (by decide) by_nil)))))
theorem nm_m (K : Nat) : ∀ j, j < 6 → f_X7_name K (nI j) = some (nI (NMs.getD j 0)) := by
  intro j hj
  unfold f_X7_name
  have c6 : j = 0 ∨ j = 1 ∨ j = 2 ∨ j = 3 ∨ j = 4 ∨ j = 5 := by omega
  rcases c6 with rfl | rfl | rfl | rfl | rfl | rfl <;> rfl
theorem name_c (K : Nat) {L : List Nat} {a : Nat → Int32} {p2 ms bc : Int32} {b s : Nat → Int32} : ∀ (q j : Nat) (O : List Nat) (c : Nat → Int32), cL c O → j ≤ 6 → 6 - j < q → O.length + (6 - j) ≤ 24000 → ∃ c', f_X4_makeStream_b30 K 24000 (nI L.length) 20000 a 24000 32768 p2 q (nI O.length) c ms bc b s (nI 6) (nI j) = f_X4_makeStream_b69 K 24000 (nI L.length) 20000 a 24000 32768 p2 K (nI (O ++ seg NMs j (6 - j)).length) c' ms bc b s (if p2 < (1 : Int32) then (1 : Int32) else p2) 0 ∧ cL c' (O ++ seg NMs j (6 - j)) := by
  intro q
  induction q with
  | zero => intro j _ _ _ _ h; omega
  | succ q ih =>
    intro j O c hc hj hq hl
    rw [f_X4_makeStream_b30]
    rcases Nat.eq_or_lt_of_le hj with e | e
    · subst e
      rw [if_pos (nI_le (Nat.le_refl _) (by decide)), Nat.sub_self, seg_0, List.append_nil]
      exact ⟨c, rfl, hc⟩
    · rw [if_neg (nI_ge e (by decide)), ck_n e (by decide), nI_clamp (by omega), nm_c j e, nI_1]
      obtain ⟨c1, e1, g1⟩ := cput K (v := NMs.getD j 0) hc (show O.length < 24000 by omega) (by decide)
      rw [e1, sob]; dsimp only
      obtain ⟨c2, e2, g2⟩ := ih (j + 1) _ c1 g1 e (by omega) (by rw [len1]; omega)
      rw [len1] at e2
      have e3 : 6 - j = (6 - (j + 1)) + 1 := by omega
      rw [app_as] at e2 g2
      rw [e2, e3, seg_cons (show j < NMs.length from e)]
      exact ⟨c2, rfl, g2⟩
theorem name_m (K : Nat) {L : List Nat} {m st om pc la ah : Nat → Int32} {p1 ou pk th : Int32} : ∀ (q j : Nat) (md fu : Int32) (O : List Nat) (c : Nat → Int32), ad md fu c O → j ≤ 6 → 6 - j < q → ∃ md' fu' c', f_X7_stream_b54 K (nI L.length) 20000 m 24000 24000 24000 16384 20000 256 st p1 q ou md pk th fu om c pc la ah (nI j) = f_X7_stream_b77 K (nI L.length) 20000 m 24000 24000 24000 16384 20000 256 st p1 K ou md' pk th fu' om c' pc la ah 0 ∧ ad md' fu' c' (O ++ seg NMs j (6 - j)) := by
  intro q
  induction q with
  | zero => intro j _ _ _ _ _ _ h; omega
  | succ q ih =>
    intro j md fu O c h hj hq
    rw [f_X7_stream_b54]
    rcases Nat.eq_or_lt_of_le hj with e | e
    · subst e
      rw [if_pos (show (6 : Int32) ≤ nI 6 by decide), Nat.sub_self, seg_0, List.append_nil]
      exact ⟨md, fu, c, rfl, h⟩
    · rw [if_neg (show ¬ (6 : Int32) ≤ nI j from nI_ge (b := 6) e (by decide)), nm_m K j e, sob, nI_1]
      obtain ⟨md1, fu1, c1, e1, g1⟩ := add_m K h (ab_n (nm_b j e))
      rw [e1, sob]; dsimp only
      obtain ⟨md2, fu2, c2, e2, g2⟩ := ih (j + 1) md1 fu1 _ c1 g1 e (by omega)
      have e3 : 6 - j = (6 - (j + 1)) + 1 := by omega
      rw [e2, e3, seg_cons (show j < NMs.length from e), ← app_as]
      exact ⟨md2, fu2, c2, rfl, g2⟩
theorem str_loop (K : Nat) (hK : 32769 < K) {L : List Nat} {a m st om : Nat → Int32} {p : Nat} {p2 ou th : Int32} (ha : cL a L) (hm : mL m L) (hb : by_ L) (hL : L.length ≤ 20000) (hs : smt st) (hp1 : 1 ≤ p) (hp : p ≤ 20000) :
    ∀ (z w x xb : Nat) (O : List Nat) (ms md pk fu : Int32) (c b s c2 pc la ah : Nat → Int32), x < 2 ^ 30 → L.length - x < z → L.length - x < w → by_ O → O.length ≤ 24000 → cL c O → ad md fu c2 O → xb < 2 ^ 30 →
      ∃ (ok : Bool) (O' : List Nat) (xb' : Nat) (ms' md' pk' fu' : Int32) (c' b' s' c2' pc' la' ah' : Nat → Int32), f_X4_makeStream_b69 K 24000 (nI L.length) 20000 a 24000 32768 p2 z (nI O.length) c ms (nI xb) b s (nI p) (nI x) = some (if ok then 1 else 0, nI O'.length, c', ms', nI xb', b', s') ∧ f_X7_stream_b77 K (nI L.length) 20000 m 24000 24000 24000 16384 20000 256 st (nI p) w ou md pk th fu om c2 pc la ah (nI x) = f_X7_stream_b124 K (nI L.length) 20000 m 24000 24000 24000 16384 20000 256 st (nI p) ou md' pk' th fu' om c2' pc' la' ah' ∧ by_ O' ∧ O'.length ≤ 24000 ∧ cL c' O' ∧ (if ok then md' = nI O'.length ∧ fu' = 0 ∧ mL c2' O' else fu' = 1) ∧ xb' < 2 ^ 30 := by
  intro z
  induction z with
  | zero => intro w x xb O ms md pk fu c b s c2 pc la ah _ h; omega
  | succ z ih =>
    intro w x xb O ms md pk fu c b s c2 pc la ah hx hz hw hbO hO hc had hxb
    obtain ⟨w, rfl⟩ : ∃ y, w = y + 1 := ⟨w - 1, by omega⟩
    obtain ⟨h1, h2, h3⟩ := id had
    rw [Nat.min_eq_left hO] at h1
    rw [if_pos hO] at h2
    subst h2
    rw [f_X4_makeStream_b69, f_X7_stream_b77]
    by_cases hx2 : L.length ≤ x
    · rw [if_pos (nI_le hx2 (by omega)), if_pos (nI_le hx2 (by omega))]
      exact ⟨true, O, xb, ms, md, pk, 0, c, b, s, c2, pc, la, ah, rfl, rfl, hbO, hO, hc, ⟨h1, rfl, h3 hO⟩, hxb⟩
    · rw [if_neg (nI_ge (by omega) (by omega)), if_neg (nI_ge (by omega) (by omega)), i00, pk_sub (show x ≤ L.length by omega), nI_add]
      obtain ⟨n, hn⟩ : ∃ n, n = min (L.length - x) p := ⟨_, rfl⟩
      have hn1 : (if nI (L.length - x) < nI p then nI (L.length - x) else nI p) = nI n := by
        by_cases q : L.length - x < p
        · rw [if_pos (nI_lt q (by omega)), hn, Nat.min_eq_left (by omega)]
        · rw [if_neg (nI_nlt (by omega) (by omega)), hn, Nat.min_eq_right (by omega)]
      have hn2 : ∀ k77, (if nI p ≤ nI (L.length - x) then f_X7_stream_b114 K (nI L.length) 20000 m 24000 24000 24000 16384 20000 256 st (nI p) k77 ou md pk th 0 om c2 pc la ah (nI x) (nI (x + p)) (nI x) else f_X7_stream_b114 K (nI L.length) 20000 m 24000 24000 24000 16384 20000 256 st (nI p) k77 ou md pk th 0 om c2 pc la ah (nI x) (nI L.length) (nI x)) = f_X7_stream_b114 K (nI L.length) 20000 m 24000 24000 24000 16384 20000 256 st (nI p) k77 ou md pk th 0 om c2 pc la ah (nI x) (nI (x + n)) (nI x) := by
        intro k77
        by_cases q : p ≤ L.length - x
        · rw [if_pos (nI_le q (by omega)), hn, Nat.min_eq_right (by omega)]
        · rw [if_neg (nI_ge (by omega) (by omega)), hn, Nat.min_eq_left (by omega), Nat.add_sub_cancel' (by omega)]
      rw [hn1, hn2]
      have hfn : x + n ≤ L.length := by omega
      have hlen := prsB_len hfn (by omega)
      obtain ⟨ms1, b1, s1, e1, g1⟩ := press_c K hK (N2 := 20000) (fr := x) (n := n) (x := xb) (ms := ms) (b := b) (s := s) ha hb hL (by decide) hfn hxb
      rw [e1, sob]; dsimp only
      obtain ⟨md1, pk1, fu1, c21, pc1, la1, ah1, e2, g2⟩ := piece_m K hK (fr := x) (n := n) (pk := pk) (pc := pc) (la := la) (ah := ah) hm hb hL hfn hs had
      obtain ⟨q1, q2⟩ := piece_c K hK ha hL hfn hO hc g1
      unfold f_X7_stream_b114
      rw [e2, sob, nI_add]; dsimp only
      by_cases hr : O.length + (pcB L x n).length ≤ 24000
      · obtain ⟨c1, e3, g3⟩ := q1 hr
        rw [e3, sob]; dsimp only
        rw [i10]
        exact ih w (x + p) _ _ ms1 md1 pk1 fu1 c1 b1 s1 c21 pc1 la1 ah1 (by omega) (by omega) (by omega) (by_app hbO (pcB_by hb (by omega))) (by rw [List.length_append]; exact hr) g3 g2 (by omega)
      · rw [q2 hr, sob]; dsimp only
        rw [i00]
        obtain ⟨_, k2, _⟩ := g2
        rw [List.length_append, if_neg hr] at k2
        subst k2
        obtain ⟨w, rfl⟩ : ∃ y, w = y + 1 := ⟨w - 1, by omega⟩
        rw [f_X7_stream_b77, i10]
        refine ⟨false, O, _, ms1, md1, pk1, 1, c, b1, s1, c21, pc1, la1, ah1, rfl, ?_, hbO, hO, hc, rfl, (show (prsB L x n).length < 2 ^ 30 by omega)⟩
        by_cases y : nI L.length ≤ nI (x + p)
        · rw [if_pos y]
        · rw [if_neg y]
theorem s_stream (K : Nat) (hK : 32769 < K) {L M : List Nat} {c m oc om b s cm mp la ah mm t : Nat → Int32} {x y : Nat} {ms md pk th fu p1 : Int32} (hp : pair c m L) (hn : L.length ≤ 20000) (ho : pair oc om M) (hM : M.length ≤ 24000) (hx : x < 2 ^ 30) (hy : y < 2 ^ 30) (ht : smt t) :
    ∃ (r : Int32) (M' : List Nat) (oc' om' b' s' cm' mp' la' ah' mm' : Nat → Int32) (ms' md' pk' fu' : Int32) (x' y' : Nat), f_X6_stream K (nI L.length) 20000 c (nI M.length) 24000 oc ms (nI x) 24000 b 32768 s (nI y) 24000 cm p1 = some (r, nI M'.length, oc', ms', nI x', b', s', nI y', cm') ∧ f_X7_stream K (nI L.length) (nI M.length) md pk th fu 20000 m 24000 om 24000 mm 24000 mp 16384 la 20000 ah 256 t p1 = some (r, nI M'.length, md', pk', 0, fu', om', mm', mp', la', ah') ∧ pair oc' om' M' ∧ M'.length ≤ 24000 ∧ x' < 2 ^ 30 ∧ y' < 2 ^ 30 := by
  obtain ⟨hb, hc, hm⟩ := id hp
  unfold f_X6_stream f_X7_stream
  by_cases h1 : p1 < 1
  · rw [if_pos h1, if_pos h1]
    exact ⟨_, M, oc, om, b, s, cm, mp, la, ah, mm, _, _, _, _, x, y, rfl, rfl, ho, hM, hx, hy⟩
  · rw [if_neg h1, if_neg h1]
    rcases in_or p1 20000 (by decide) with ⟨p, hp2, rfl⟩ | ⟨h2 | ⟨p, hp2, hp3, rfl⟩, _⟩
    · have hp1 : 1 ≤ p := Nat.pos_of_ne_zero fun q => h1 (by subst q; decide)
      rw [if_pos (show nI p ≤ (20000 : Int32) from nI_le (b := 20000) hp2 (by decide)), if_pos (show nI p ≤ (20000 : Int32) from nI_le (b := 20000) hp2 (by decide))]
      unfold f_X4_makeStream
      rw [shorten0 K hy, sob]
      obtain ⟨c1, e1, g1⟩ := head_c K (by omega) (t := 255) (v := 6) (O := []) (c := cm) rL_nil (by decide) (by decide)
      rw [List.length_nil] at e1
      rw [show f_X4_putHeader K 0 24000 cm 255 6 = some (nI (0 + 4), c1) from e1, sob]; dsimp only
      obtain ⟨c2, e2, g2⟩ := name_c K (L := L) (a := c) (p2 := nI p) (ms := ms) (bc := nI x) (b := b) (s := s) K 0 _ c1 g1 (by decide) (by omega) (by decide)
      rw [show (Int32.ofNat 6) = nI 6 from rfl, show (0 : Int32) = nI 0 from rfl]
      rw [show (([] : List Nat) ++ 255 :: low 6 0 3).length = 0 + 4 from rfl] at e2
      rw [e2, if_neg h1]
      have a0 : ad 0 0 mm [] := ⟨rfl, rfl, fun _ => rL_nil⟩
      obtain ⟨d1, f1, m1, k1, l1⟩ := add_m K a0 (show (255 : Int32).toInt8.toInt32 = sb_b 255 from ab_n (v := 255) (by decide))
      obtain ⟨d2, f2, m2, k2, l2⟩ := add_m K l1 (show (6 : Int32).toInt8.toInt32 = sb_b 6 from ab_n (v := 6) (by decide))
      obtain ⟨d3, f3, m3, k3, l3⟩ := add_m K l2 (show (0 : Int32).toInt8.toInt32 = sb_b 0 from ab_n (v := 0) (by decide))
      obtain ⟨d4, f4, m4, k4, l4⟩ := add_m K l3 (show (0 : Int32).toInt8.toInt32 = sb_b 0 from ab_n (v := 0) (by decide))
      rw [show nI 0 = (0 : Int32) from rfl, k1, sob]; dsimp only
      rw [k2, sob]; dsimp only
      rw [k3, sob]; dsimp only
      rw [k4, sob]; dsimp only
      obtain ⟨d5, f5, m5, k5, l5⟩ := name_m K (L := L) (m := m) (st := t) (om := om) (pc := mp) (la := la) (ah := ah) (p1 := nI p) (ou := nI M.length) (pk := pk) (th := 0) K 0 d4 f4 _ m4 l4 (by decide) (by omega)
      rw [show nI 0 = (0 : Int32) from rfl] at k5
      rw [k5]
      have eO : [] ++ 255 :: low 6 0 3 ++ seg NMs 0 (6 - 0) = [] ++ [255] ++ [6] ++ [0] ++ [0] ++ seg NMs 0 (6 - 0) := by decide
      rw [← eO] at l5
      obtain ⟨ok, O', xb', ms', md', pk', fu', c', b', s', c2', pc', la', ah', k6, k7, q1, q2, q3, q4, q5⟩ := str_loop K hK (p2 := nI p) (ou := nI M.length) (th := 0) (om := om) hc hm hb hn ht hp1 hp2 K K 0 x ([] ++ 255 :: low 6 0 3 ++ seg NMs 0 (6 - 0)) ms d5 pk f5 c2 b s m5 mp la ah (by decide) (by omega) (by omega) (by_app (by_app by_nil (by_cons (by decide) (low_by _ _ _))) (by_seg nm_by)) (by decide) g2 l5 hx
      rw [show nI 0 = (0 : Int32) from rfl] at k6 k7
      rw [k6, sob, k7]; dsimp only
      unfold f_X7_stream_b124 f_X7_give_o_made
      cases ok with
      | true =>
        obtain ⟨r1, r2, r3⟩ : md' = nI O'.length ∧ fu' = 0 ∧ mL c2' O' := q4
        subst r1 r2
        obtain ⟨oc', e3, g3⟩ := become_ok K (N := 24000) (N2 := 24000) (x := nI M.length) (c := oc) q3 q2 q2 (by decide) (by decide)
        obtain ⟨om', e4, g4⟩ := give_d K (x := nI M.length) r3 q2 K 0 om (by rw [List.take_zero]; exact rL_nil) (Nat.zero_le _) (by omega)
        rw [show nI 0 = (0 : Int32) from rfl] at e4
        rw [if_pos rfl, i10, i00, e3, e4, sob, sob]
        exact ⟨_, O', oc', om', _, _, _, _, _, _, _, _, _, _, _, xb', O'.length, rfl, rfl, ⟨q1, g3, g4⟩, q2, q5, by omega⟩
      | false =>
        have r2 : fu' = 1 := q4
        subst r2
        rw [show (if false = true then (1 : Int32) else 0) = 0 from rfl, i00, i10]
        exact ⟨_, M, oc, om, _, _, _, _, _, _, _, _, _, _, _, xb', O'.length, rfl, rfl, ho, hM, q5, by omega⟩
    · exact absurd (Int32.lt_trans h2 (by decide)) h1
    · rw [if_neg (show ¬ nI p ≤ (20000 : Int32) from nI_ge (a := 20000) hp2 hp3), if_neg (show ¬ nI p ≤ (20000 : Int32) from nI_ge (a := 20000) hp2 hp3)]
      exact ⟨_, M, oc, om, b, s, cm, mp, la, ah, mm, _, _, _, _, x, y, rfl, rfl, ho, hM, hx, hy⟩
