/-! PURE ROWS 11: open, fault, element, chunk, about -/
theorem cells_c (K : Nat) {k : Nat} {kc km mk : Int32} {kel el : Nat → Int32} (hk : k < 2 ^ 27) : ∃ kel', f_X3_become K kc km 5000 kel (nI k) mk 5000 el = some (nI k, mk, kel') ∧ rowsEq kel' el k := by
  unfold f_X3_become
  have h : (if (1000 : Int32) < nI k then (1000 : Int32) else nI k) * (5 : Int32) = nI (5 * min k 1000) := by
    rcases Nat.lt_or_ge 1000 k with q | q
    · rw [if_pos (show (1000 : Int32) < nI k from nI_lt (a := 1000) q (by omega)), Nat.min_eq_right (by omega)]; rfl
    · rw [if_neg (show ¬ (1000 : Int32) < nI k from nI_nlt (a := 1000) q (by decide)), Nat.min_eq_left q, Nat.mul_comm]; exact pk_mul k 5
  rw [h, show (0 : Int32) = nI 0 from rfl, ckc_n (by omega) (by omega) (by decide) (by decide), nI_clamp (by omega), nI_clamp (by omega)]
  refine ⟨_, rfl, fun j hj => ?_⟩
  rw [pk_cpy_in (Nat.zero_le _) (by omega)]; simp
theorem op_73 (K : Nat) {k : Nat} {ta ou md th bf bp li wa ek lk n1 n2 n3 n4 : Int32} {tc om mc nc : Nat → Int32} (hk : k < 2 ^ 27) : ∀ (q i : Nat) (rel : Nat → Int32), (∀ j, j < i → rel j = nc j) → i ≤ 5 * min k 1000 → 5 * min k 1000 - i < q → ∃ rel', f_X7_open_b73 K ta 20000 tc 24000 24000 5000 5000 q ou md th bf bp (nI k) li wa ek lk n1 n2 n3 n4 om mc nc rel (nI i) = some (ou, ou, md, th, bf, bp, nI k, li, wa, ek, lk, n1, n2, n3, n4, om, mc, nc, rel') ∧ rowsEq rel' nc k := by
  intro q
  induction q with
  | zero => intro i rel _ _ h; omega
  | succ q ih =>
    intro i rel hr hi hq
    rw [f_X7_open_b73, show (5 : Int32) * nI k = nI (5 * k) from pk_mul 5 k]
    by_cases h1 : 5 * k ≤ i
    · rw [if_pos (nI_le h1 (by omega))]; exact ⟨rel, rfl, fun j hj => hr j (by omega)⟩
    · rw [if_neg (nI_ge (by omega) (by omega))]
      by_cases h2 : 5000 ≤ i
      · rw [if_pos (show (5000 : Int32) ≤ nI i from nI_le (a := 5000) h2 (by omega))]; exact ⟨rel, rfl, fun j hj => hr j (by omega)⟩
      · rw [if_neg (show ¬ (5000 : Int32) ≤ nI i from nI_ge (b := 5000) (by omega) (by omega)), ck_n (by omega) (by decide), ck_n (by omega) (by decide), nI_clamp (by omega), nI_1]
        refine ih (i + 1) _ ?_ (by omega) (by omega)
        intro j hj
        by_cases e : j = i
        · subst e; rw [pk_us]
        · rw [pk_un e]; exact hr j (by omega)
/-- how the faults stand to each other -/
def flt (a b c d : Int32) (n p i q : Int32) : Prop := (a = n ∧ b = p ∧ c = i ∧ d = q ∧ 0 ≤ n) ∨ (a = -1 ∧ b = -1 ∧ c = -1 ∧ d = -1 ∧ n = -1)
theorem fl0 (n : Nat) (h : n < 2 ^ 31) : (0 : Int32) ≤ nI n := nI_le (a := 0) (Nat.zero_le _) h
theorem rows_tr {a b c : Nat → Int32} {k : Nat} (h : rowsEq a b k) (h2 : rowsEq b c k) : rowsEq a c k := fun j hj => (h j hj).trans (h2 j hj)
theorem rows_sy {a b : Nat → Int32} {k : Nat} (h : rowsEq a b k) : rowsEq b a k := fun j hj => (h j hj).symm
theorem s_open (K : Nat) (hK : 32769 < K) {L M : List Nat} {c m oc om gc el mc nc kel rel : Nat → Int32} {x ke : Nat} {fn fp fb fq fa pl st en nx ln so bo ec em km md th bf bp op li wa n1 n2 n3 n4 : Int32} {si ba : Int64} (hp : pair c m L) (hn : L.length ≤ 20000) (ho : pair oc om M) (hM : M.length ≤ 24000) (hx : x < 2 ^ 30) (hke : ke < 2 ^ 27) (hr : rowsEq kel rel ke) (hf : flt fn fp fb fq n1 n2 n3 n4) :
    ∃ (r : Int32) (M' : List Nat) (ke' x' : Nat) (km' fn' fp' fb' fq' fa' pl' st' en' nx' ln' so' bo' ec' em' md' bf' bp' op' li' wa' : Int32) (si' ba' : Int64) (oc' om' gc' el' mc' nc' kel' rel' : Nat → Int32),
      f_X6_open K fn fp fb fq (nI L.length) 20000 c (nI M.length) 24000 oc fa pl st en nx ln so bo si ba (nI x) 20000 gc ec em 5000 el (nI ke) km 5000 kel = some (r, fn', fp', fb', fq', nI M'.length, oc', fa', pl', st', en', nx', ln', so', bo', si', ba', nI x', gc', ec', em', el', nI ke', km', kel') ∧
      f_X7_open K (nI L.length) (nI M.length) md th bf bp op li wa (nI ke) km n1 n2 n3 n4 20000 m 24000 om 24000 mc 5000 nc 5000 rel = some (r, nI M'.length, md', 0, bf', bp', op', li', wa', nI ke', km', fn', fp', fb', fq', om', mc', nc', rel') ∧
      pair oc' om' M' ∧ M'.length ≤ 24000 ∧ x' < 2 ^ 30 ∧ ke' < 2 ^ 27 ∧ rowsEq kel' rel' ke' ∧ (0 : Int32) ≤ fn' := by
  obtain ⟨hb, hc, hm⟩ := id hp
  obtain ⟨f, pl', st', en', nx', ln', so', bo', si', ba', G, k, mk, wa', gc', mc', el', nc', e1, e2, hf6, hG, hk, hbG, hgc, hmc, hrows⟩ := open_both K (by omega) (N := 20000) (fr := 0) (n := L.length) (x := x) (gc := gc) (el := el) (mc := mc) (nc := nc) (fa := fa) (pl := pl) (st := st) (en := en) (nx := nx) (ln := ln) (so := so) (bo := bo) (ec := ec) (em := em) (bf := bf) (bp := bp) (op := op) (li := li) (wa := wa) (si := si) (ba := ba) hc hm hb hn hn (by decide) (by omega) hx
  rw [show nI 0 = (0 : Int32) from rfl] at e1
  rw [Nat.zero_add, show nI 0 = (0 : Int32) from rfl] at e2
  unfold f_X6_open f_X7_open f_X6_keepFault f_X7_told f_X7_give_o_made
  rw [e1, sob, e2, sob]
  dsimp only
  rw [sob, sob]
  by_cases h0 : f = 0
  · subst h0
    obtain ⟨oc', f3, g3⟩ := become_ok K (N := 24000) (N2 := 20000) (x := nI M.length) (c := oc) hgc hG (by omega) (by decide) (by decide)
    obtain ⟨om', f4, g4⟩ := give_d K (x := nI M.length) hmc (by omega) K 0 om (by rw [List.take_zero]; exact rL_nil) (Nat.zero_le _) (by omega)
    obtain ⟨kel', f5, g5⟩ := cells_c K (kc := nI ke) (km := km) (mk := mk) (kel := kel) (el := el') hk
    obtain ⟨rel', f6, g6⟩ := op_73 K (ta := nI L.length) (ou := nI G.length) (md := nI G.length) (th := 0) (bf := 0) (bp := pl') (li := mk) (wa := wa') (ek := nI k) (lk := mk) (n1 := 0) (n2 := pl') (n3 := 0) (n4 := -1) (tc := m) (om := om') (mc := mc') (nc := nc') hk K 0 rel (fun j hj => absurd hj (Nat.not_lt_zero j)) (Nat.zero_le _) (by omega)
    rw [show nI 0 = (0 : Int32) from rfl] at f4 f6 ⊢
    rw [if_pos rfl, if_pos (show (0 : Int32) ≤ 0 by decide), f3, f4, sob, sob]
    dsimp only
    rw [f5, sob, f6]
    exact ⟨_, G, k, G.length, mk, _, _, _, _, _, _, _, _, _, _, _, _, _, _, _, _, _, _, _, _, _, _, oc', om', _, _, _, _, kel', rel', rfl, rfl, ⟨hbG, g3, g4⟩, by omega, by omega, hk, rows_tr (rows_tr g5 hrows) (rows_sy g6), by decide⟩
  · rw [if_neg (nI_ne0 (by omega) (by omega)), if_neg (show ¬ nI f ≤ (0 : Int32) from nI_ge (a := 0) (by omega) (by omega))]
    exact ⟨_, M, ke, G.length, km, _, _, _, _, _, _, _, _, _, _, _, _, _, _, _, _, _, _, _, _, _, _, oc, om, _, _, _, _, kel, rel, rfl, rfl, ho, hM, by omega, hke, hr, fl0 f (by omega)⟩
theorem s_fault (K : Nat) {a b c d n p i q th p1 : Int32} (hf : flt a b c d n p i q) : ∃ r : Int32, f_X6_fault K a b c d p1 = some r ∧ f_X7_fault K th n p i q p1 = some (r, 0) := by
  unfold f_X6_fault f_X7_fault
  rcases hf with ⟨rfl, rfl, rfl, rfl, h⟩ | ⟨rfl, rfl, rfl, rfl, rfl⟩
  · rw [if_pos h]
    by_cases h0 : p1 = 0
    · rw [if_pos h0, if_pos h0]; exact ⟨_, rfl, rfl⟩
    · rw [if_neg h0, if_neg h0]
      by_cases h1 : p1 = 1
      · rw [if_pos h1, if_pos h1]; exact ⟨_, rfl, rfl⟩
      · rw [if_neg h1, if_neg h1]
        by_cases h2 : p1 = 2
        · rw [if_pos h2, if_pos h2]; exact ⟨_, rfl, rfl⟩
        · rw [if_neg h2, if_neg h2]
          by_cases h3 : p1 = 3
          · rw [if_pos h3, if_pos h3]; exact ⟨_, rfl, rfl⟩
          · rw [if_neg h3, if_neg h3]; exact ⟨_, rfl, rfl⟩
  · rw [if_neg (show ¬ (0 : Int32) ≤ -1 by decide)]
    refine ⟨-1, ?_, rfl⟩
    by_cases h0 : p1 = 0
    · rw [if_pos h0]
    · rw [if_neg h0]
      by_cases h1 : p1 = 1
      · rw [if_pos h1]
      · rw [if_neg h1]
        by_cases h2 : p1 = 2
        · rw [if_pos h2]
        · rw [if_neg h2]
          by_cases h3 : p1 = 3
          · rw [if_pos h3]
          · rw [if_neg h3]
theorem cell_c (K : Nat) {k : Nat} {a b : Nat → Int32} {x p1 p2 : Int32} (hk : k < 2 ^ 27) (hr : rowsEq a b k) : ∃ r : Int32, f_X3_cell K (nI k) 5000 a p1 p2 = some r ∧ (if p1 < 0 then some ((-1 : Int32), x) else if nI k ≤ p1 then some ((-1 : Int32), x) else if (1000 : Int32) ≤ p1 then some ((-1 : Int32), x) else if p2 < 0 then some ((-1 : Int32), x) else if (5 : Int32) ≤ p2 then some ((-1 : Int32), x) else ck (((5 : Int32) * p1) + p2) 5000 (some (b (((5 : Int32) * p1) + p2).toNatClampNeg, x))) = some (r, x) := by
  unfold f_X3_cell
  rcases in_or p1 999 (by decide) with ⟨i, hi, rfl⟩ | ⟨h | ⟨i, hi, hi2, rfl⟩, _⟩
  · rw [if_neg (nI_pos (by omega)), if_neg (nI_pos (by omega))]
    by_cases h : k ≤ i
    · rw [if_pos (nI_le h (by omega)), if_neg (show ¬ (1000 : Int32) < nI k from nI_nlt (a := 1000) (by omega) (by decide)), if_pos (nI_le h (by omega))]; exact ⟨_, rfl, rfl⟩
    · have hh : ¬ (if (1000 : Int32) < nI k then (1000 : Int32) else nI k) ≤ nI i := by
        by_cases q : (1000 : Int32) < nI k
        · rw [if_pos q]; exact nI_ge (b := 1000) (by omega) (by decide)
        · rw [if_neg q]; exact nI_ge (by omega) (by omega)
      rw [if_neg hh, if_neg (nI_ge (by omega) (by omega)), if_neg (show ¬ (1000 : Int32) ≤ nI i from nI_ge (b := 1000) (by omega) (by decide))]
      rcases in_or p2 4 (by decide) with ⟨j, hj, rfl⟩ | ⟨h | ⟨j, hj, hj2, rfl⟩, _⟩
      · rw [if_neg (nI_pos (by omega)), if_neg (nI_pos (by omega)), if_pos (show nI j < (5 : Int32) from nI_lt (b := 5) (by omega) (by decide)), if_neg (show ¬ (5 : Int32) ≤ nI j from nI_ge (b := 5) (by omega) (by decide)), show nI i * (5 : Int32) = nI (i * 5) from pk_mul i 5, show (5 : Int32) * nI i = nI (5 * i) from pk_mul 5 i, nI_add, nI_add, ck_n (by omega) (by decide), ck_n (by omega) (by decide), nI_clamp (by omega), nI_clamp (by omega), Nat.mul_comm i 5, hr (5 * i + j) (by omega)]
        exact ⟨_, rfl, rfl⟩
      · rw [if_pos h, if_pos h]; exact ⟨_, rfl, rfl⟩
      · rw [if_neg (nI_pos (by omega)), if_neg (nI_pos (by omega)), if_neg (show ¬ nI j < (5 : Int32) from nI_nlt (b := 5) (by omega) (by omega)), if_pos (show (5 : Int32) ≤ nI j from nI_le (a := 5) (by omega) hj2)]; exact ⟨_, rfl, rfl⟩
  · rw [if_pos h, if_pos h]; exact ⟨_, rfl, rfl⟩
  · rw [if_neg (nI_pos (by omega)), if_neg (nI_pos (by omega))]
    have hh : (if (1000 : Int32) < nI k then (1000 : Int32) else nI k) ≤ nI i := by
      by_cases q : (1000 : Int32) < nI k
      · rw [if_pos q]; exact nI_le (a := 1000) (by omega) hi2
      · rw [if_neg q]; exact nI_le (Nat.le_of_not_lt fun z => q (nI_lt (a := 1000) (by omega) (by omega))) hi2
    rw [if_pos hh]
    refine ⟨_, rfl, ?_⟩
    by_cases q : nI k ≤ nI i
    · rw [if_pos q]
    · rw [if_neg q, if_pos (show (1000 : Int32) ≤ nI i from nI_le (a := 1000) (by omega) hi2)]
theorem s_element (K : Nat) {k : Nat} {a b : Nat → Int32} {th p1 p2 : Int32} (hk : k < 2 ^ 27) (hr : rowsEq a b k) : ∃ r : Int32, f_X6_element K (nI k) 5000 a p1 p2 = some r ∧ f_X7_element K th (nI k) 5000 b p1 p2 = some (r, 0) := by
  obtain ⟨r, h1, h2⟩ := cell_c K (x := 0) (p1 := p1) (p2 := p2) hk hr
  unfold f_X6_element f_X7_element
  rw [h1, sob]
  exact ⟨r, rfl, h2⟩
theorem s_chunk (K : Nat) {k : Nat} {a b : Nat → Int32} {th p1 p2 : Int32} (hk : k < 2 ^ 27) (hr : rowsEq a b k) : ∃ r : Int32, f_X6_chunk K (nI k) 5000 a p1 p2 = some r ∧ f_X7_chunk K th (nI k) 5000 b p1 p2 = some (r, 0) := by
  obtain ⟨r, h1, h2⟩ := cell_c K (x := 0) (p1 := p1) (p2 := p2) hk hr
  unfold f_X6_chunk f_X7_chunk
  rw [h1, sob]
  exact ⟨r, rfl, h2⟩
theorem s_about (K : Nat) {t o e l c s th p1 : Int32} : ∃ r : Int32, f_X6_about K t o e l c s p1 = some r ∧ f_X7_about K t o th e l c s p1 = some (r, 0) := by
  unfold f_X6_about f_X7_about
  by_cases h0 : p1 = 0
  · rw [if_pos h0, if_pos h0]; exact ⟨_, rfl, rfl⟩
  · rw [if_neg h0, if_neg h0]
    by_cases h1 : p1 = 1
    · rw [if_pos h1, if_pos h1]; exact ⟨_, rfl, rfl⟩
    · rw [if_neg h1, if_neg h1]
      by_cases h2 : p1 = 2
      · rw [if_pos h2, if_pos h2]; exact ⟨_, rfl, rfl⟩
      · rw [if_neg h2, if_neg h2]
        by_cases h3 : p1 = 3
        · rw [if_pos h3, if_pos h3]; exact ⟨_, rfl, rfl⟩
        · rw [if_neg h3, if_neg h3]
          by_cases h4 : p1 = 4
          · rw [if_pos h4, if_pos h4]; exact ⟨_, rfl, rfl⟩
          · rw [if_neg h4, if_neg h4]
            by_cases h5 : p1 = 5
            · rw [if_pos h5, if_pos h5]; exact ⟨_, rfl, rfl⟩
            · rw [if_neg h5, if_neg h5]; exact ⟨_, rfl, rfl⟩
