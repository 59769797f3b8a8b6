/-! PURE ROWS 12: a STREAM made by the class and by the reference -/
/-- the reference's row that may be full: all that was to be added is O -/
def ad (md fu : Int32) (c : Nat → Int32) (O : List Nat) : Prop := md = nI (min O.length 24000) ∧ fu = (if O.length ≤ 24000 then 0 else 1) ∧ (O.length ≤ 24000 → mL c O)
theorem add_m (K : Nat) {md fu v : Int32} {c : Nat → Int32} {O : List Nat} {b : Nat} (h : ad md fu c O) (hv : v.toInt8.toInt32 = sb_b b) : ∃ md' fu' c', f_X7_add K md fu 24000 c v = some (md', fu', c') ∧ ad md' fu' c' (O ++ [b]) := by
  obtain ⟨h1, h2, h3⟩ := h
  unfold f_X7_add
  rw [sb_var, hv]
  rcases Nat.lt_or_ge O.length 24000 with q | q
  · rw [Nat.min_eq_left (by omega)] at h1
    rw [if_pos (by omega)] at h2
    subst h1 h2
    rw [if_neg (show ¬ nI O.length = (24000 : Int32) from nI_ne (b := 24000) (by omega) (by decide) (by omega)), ck_n q (by decide), nI_1, nI_clamp (by omega)]
    refine ⟨_, _, _, rfl, ?_, ?_, fun _ => rL_push (h3 (by omega))⟩
    · rw [len1, Nat.min_eq_left (by omega)]
    · rw [len1, if_pos (by omega)]
  · rw [Nat.min_eq_right (by omega)] at h1
    subst h1
    rw [if_pos (show nI 24000 = (24000 : Int32) from rfl)]
    refine ⟨_, _, _, rfl, ?_, ?_, fun y => ?_⟩
    · rw [len1, Nat.min_eq_right (by omega)]
    · rw [len1, if_neg (by omega)]
    · rw [len1] at y; omega
theorem ab_n {v : Nat} (h : v < 256) : (nI v).toInt8.toInt32 = sb_b v := by rw [sb_nI, Nat.mod_eq_of_lt h]
theorem ab_s (b : Nat) : (sb_b b).toInt8.toInt32 = sb_b b := pk_vb (nI b)
theorem app_as {L : List Nat} {a : Nat} {M : List Nat} : L ++ [a] ++ M = L ++ a :: M := by simp
/-- the bytes of a row, one after another -/
theorem ad_t (K : Nat) {i k : Nat} {L : List Nat} {a : Nat → Int32} {p1 : Int32} {st : Nat → Int32} (ha : mL a L) (hL : L.length ≤ 20000) (hik : i + k ≤ L.length) : ∀ (q j : Nat) (md pk fu : Int32) (O : List Nat) (c pc la ah : Nat → Int32), ad md fu c O → j ≤ k → k - j < q → ∃ md' fu' c', f_X7_piece_b185 K 20000 a 24000 24000 16384 20000 256 st p1 (nI (i + k)) q md pk fu c pc la ah (nI (i + j)) = some (md', pk, fu', c', pc, la, ah) ∧ ad md' fu' c' (O ++ seg L (i + j) (k - j)) := by
  intro q
  induction q with
  | zero => intro j _ _ _ _ _ _ _ _ _ _ h; omega
  | succ q ih =>
    intro j md pk fu O c pc la ah h hj hq
    rw [f_X7_piece_b185]
    rcases Nat.eq_or_lt_of_le hj with e | e
    · subst e
      rw [if_pos (nI_le (Nat.le_refl _) (by omega)), Nat.sub_self, seg_0, List.append_nil]
      exact ⟨_, _, _, rfl, h⟩
    · rw [if_neg (nI_ge (by omega) (by omega)), ck_n (by omega) (by decide), nI_clamp (by omega), ha (i + j) (by omega), nI_1]
      obtain ⟨md1, fu1, c1, e1, g1⟩ := add_m K h (ab_s (L.getD (i + j) 0))
      rw [e1, sob]
      obtain ⟨md2, fu2, c2, e2, g2⟩ := ih (j + 1) md1 pk fu1 _ c1 pc la ah g1 e (by omega)
      rw [Nat.add_assoc i j 1, e2]
      refine ⟨_, _, _, rfl, ?_⟩
      have e3 : k - j = (k - (j + 1)) + 1 := by omega
      rw [e3, seg_cons (by omega), ← app_as, Nat.add_assoc i j 1]
      exact g2
theorem ad_p (K : Nat) {L M : List Nat} {a : Nat → Int32} {p1 p2 : Int32} {st pc : Nat → Int32} (hp : mL pc M) (hM : M.length ≤ 24000) : ∀ (q j : Nat) (md fu : Int32) (O : List Nat) (c la ah : Nat → Int32), ad md fu c O → j ≤ M.length → M.length - j < q → ∃ md' fu' c', f_X7_piece_b153 K 20000 a 24000 24000 16384 20000 256 st p1 p2 q md (nI M.length) fu c pc la ah (nI j) = some (md', nI M.length, fu', c', pc, la, ah) ∧ ad md' fu' c' (O ++ seg M j (M.length - j)) := by
  intro q
  induction q with
  | zero => intro j _ _ _ _ _ _ _ _ h; omega
  | succ q ih =>
    intro j md fu O c la ah h hj hq
    rw [f_X7_piece_b153]
    rcases Nat.eq_or_lt_of_le hj with e | e
    · subst e
      rw [if_pos (nI_le (Nat.le_refl _) (by omega)), Nat.sub_self, seg_0, List.append_nil]
      exact ⟨_, _, _, rfl, h⟩
    · rw [if_neg (nI_ge (by omega) (by omega)), ck_n (by omega) (by decide), nI_clamp (by omega), hp j e, nI_1]
      obtain ⟨md1, fu1, c1, e1, g1⟩ := add_m K h (ab_s (M.getD j 0))
      rw [e1, sob]
      obtain ⟨md2, fu2, c2, e2, g2⟩ := ih (j + 1) md1 fu1 _ c1 la ah g1 e (by omega)
      rw [e2]
      refine ⟨_, _, _, rfl, ?_⟩
      have e3 : M.length - j = (M.length - (j + 1)) + 1 := by omega
      rw [e3, seg_cons (by omega), ← app_as]
      exact g2
theorem sh_j (w : Int32) {j : Nat} (hj : j < 4) : ((w >>> (((8 : Int32) * nI j) &&& 31)) &&& 255) = nI (w.toBitVec.toNat / 2 ^ (8 * j) % 256) := by
  rw [← us_j w hj, eight]
  apply b_ext
  intro i hi
  rw [b_and, b_and, b_sshr (8 * j) (by omega) w hi, b_us (8 * j) (by omega), b_255]
  by_cases h : i < 8
  · rw [if_pos (by omega)]
  · simp [h]
/-- a PIECE's CHUNK -/
abbrev isP (L : List Nat) (fr n : Nat) : Prop := (prsB L fr n).length < n - n / 8
def bdy (L : List Nat) (fr n : Nat) : List Nat := if isP L fr n then prsB L fr n else seg L fr n
def pcB (L : List Nat) (fr n : Nat) : List Nat := (if isP L fr n then 0 else 1) :: (low (4 + (bdy L fr n).length) 0 3 ++ (low (msk (crcS (-1) (seg L fr n) ^^^ (-1))).toBitVec.toNat 0 4 ++ bdy L fr n))
theorem bdy_len {L : List Nat} {fr n : Nat} (h : fr + n ≤ L.length) (hn : n ≤ 20000) : (bdy L fr n).length ≤ 20000 := by
  unfold bdy
  by_cases q : isP L fr n
  · rw [if_pos q]; unfold isP at q; omega
  · rw [if_neg q, seg_len h]; omega
theorem bdy_by {L : List Nat} {fr n : Nat} (hb : by_ L) (h : fr + n < 65536) : by_ (bdy L fr n) := by
  unfold bdy
  by_cases q : isP L fr n
  · rw [if_pos q]; exact prsB_by hb h
  · rw [if_neg q]; exact by_seg hb
theorem pcB_len {L : List Nat} {fr n : Nat} : (pcB L fr n).length = 8 + (bdy L fr n).length := by
  unfold pcB
  rw [List.length_cons, List.length_append, List.length_append, low_len, low_len]; omega
theorem pcB_by {L : List Nat} {fr n : Nat} (hb : by_ L) (h : fr + n < 65536) : by_ (pcB L fr n) := by
  unfold pcB
  refine by_cons ?_ (by_app (low_by _ _ _) (by_app (low_by _ _ _) (bdy_by hb h)))
  by_cases q : isP L fr n
  · rw [if_pos q]; decide
  · rw [if_neg q]; decide
theorem ad_s (K : Nat) {fr n : Nat} {L : List Nat} {m st pc : Nat → Int32} {w : Int32} (hm : mL m L) (hL : L.length ≤ 20000) (hfn : fr + n ≤ L.length) (hK : 32769 < K) (hp : mL pc (prsB L fr n)) : ∀ (q j : Nat) (md fu : Int32) (O : List Nat) (c la ah : Nat → Int32), ad md fu c O → j ≤ 4 → 4 - j < q → ∃ md' fu' c', f_X7_piece_b117 K 20000 m 24000 24000 16384 20000 256 st (nI fr) (nI (fr + n)) q md (nI (prsB L fr n).length) fu c pc la ah (if isP L fr n then 1 else 0) w (nI j) = some (md', nI (prsB L fr n).length, fu', c', pc, la, ah) ∧ ad md' fu' c' (O ++ (low w.toBitVec.toNat j (4 - j) ++ bdy L fr n)) := by
  have hlen := prsB_len hfn (by omega)
  intro q
  induction q with
  | zero => intro j _ _ _ _ _ _ _ _ h; omega
  | succ q ih =>
    intro j md fu O c la ah h hj hq
    rw [f_X7_piece_b117]
    rcases Nat.eq_or_lt_of_le hj with e | e
    · subst e
      rw [if_pos (show (4 : Int32) ≤ nI 4 by decide), Nat.sub_self, low, List.nil_append]
      unfold bdy
      by_cases y : isP L fr n
      · rw [if_pos y, if_pos y, i10]
        obtain ⟨md', fu', c', e1, g1⟩ := ad_p K (L := L) (a := m) (p1 := nI fr) (p2 := nI (fr + n)) (st := st) hp (by omega) K 0 md fu O c la ah h (Nat.zero_le _) (by omega)
        rw [Nat.sub_zero, seg_all] at g1
        exact ⟨md', fu', c', e1, g1⟩
      · rw [if_neg y, if_neg y, i00]
        obtain ⟨md', fu', c', e1, g1⟩ := ad_t K (p1 := nI fr) (st := st) hm hL hfn K 0 md (nI (prsB L fr n).length) fu O c pc la ah h (Nat.zero_le _) (by omega)
        rw [Nat.add_zero, Nat.sub_zero] at g1
        exact ⟨md', fu', c', e1, g1⟩
    · rw [if_neg (show ¬ (4 : Int32) ≤ nI j from nI_ge (b := 4) e (by decide)), sh_j w e, nI_1]
      obtain ⟨md1, fu1, c1, e1, g1⟩ := add_m K h (ab_n (v := w.toBitVec.toNat / 2 ^ (8 * j) % 256) (Nat.mod_lt _ (by decide)))
      rw [e1, sob]
      obtain ⟨md2, fu2, c2, e2, g2⟩ := ih (j + 1) md1 fu1 _ c1 la ah g1 e (by omega)
      rw [e2]
      refine ⟨_, _, _, rfl, ?_⟩
      have e3 : 4 - j = (4 - (j + 1)) + 1 := by omega
      rw [e3, low, List.cons_append, ← app_as]
      exact g2
theorem isP_m {L : List Nat} {fr n : Nat} {α : Type} (hn : n ≤ 20000) (hl : fr + n ≤ L.length) (x y : α) : (if (nI n - (nI n / 8)) ≤ nI (prsB L fr n).length then x else y) = if isP L fr n then y else x := by
  have hlen := prsB_len hl hn
  rw [show (8 : Int32) = nI 8 from rfl, pk_div (by omega) (by decide) (by decide), pk_sub (Nat.div_le_self _ _)]
  by_cases q : isP L fr n
  · rw [if_pos q, if_neg]; unfold isP at q; exact nI_ge q (by omega)
  · rw [if_neg q, if_pos]; unfold isP at q; exact nI_le (by omega) (by omega)
theorem low3 (v : Nat) : low v 0 3 = [v % 256, v / 256 % 256, v / 65536 % 256] := by simp [low]
theorem appT {L M : List Nat} {a b c : Nat} {t : Nat} : L ++ [t] ++ [a] ++ [b] ++ [c] ++ M = L ++ t :: ([a, b, c] ++ M) := by simp
theorem piece_79 (K : Nat) (hK : 32769 < K) {fr n t : Nat} {md fu w : Int32} {L O : List Nat} {m st pc c la ah : Nat → Int32} (hm : mL m L) (hL : L.length ≤ 20000) (hfn : fr + n ≤ L.length) (hp : mL pc (prsB L fr n)) (h : ad md fu c O) (ht : t < 256) {v : Nat} (hv : v < 2 ^ 24) :
    ∃ md' fu' c', f_X7_piece_b79 K 20000 m 24000 24000 16384 20000 256 st (nI fr) (nI (fr + n)) md (nI (prsB L fr n).length) fu c pc la ah (if isP L fr n then 1 else 0) (nI v) w (nI t) = some (md', nI (prsB L fr n).length, fu', c', pc, la, ah) ∧ ad md' fu' c' (O ++ t :: (low v 0 3 ++ (low w.toBitVec.toNat 0 4 ++ bdy L fr n))) := by
  unfold f_X7_piece_b79
  have a1 : nI v &&& 255 = nI (v % 256) := pk_andN (by omega) 8 (by decide)
  have a2 : (nI v >>> ((8 : Int32) &&& 31)) &&& 255 = nI (v / 256 % 256) := by
    rw [pk_shrN (by omega) _ 8 (by decide)]; exact pk_andN (Nat.lt_of_le_of_lt (Nat.div_le_self _ _) (by omega)) 8 (by decide)
  have a3 : nI v >>> ((16 : Int32) &&& 31) = nI (v / 65536 % 256) := by
    rw [pk_shrN (by omega) _ 16 (by decide), Nat.mod_eq_of_lt (show v / 65536 < 256 by omega)]
  rw [a1, a2, a3]
  obtain ⟨md1, fu1, c1, e1, g1⟩ := add_m K h (ab_n ht)
  rw [e1, sob]; dsimp only
  obtain ⟨md2, fu2, c2, e2, g2⟩ := add_m K g1 (ab_n (v := v % 256) (Nat.mod_lt _ (by decide)))
  rw [e2, sob]; dsimp only
  obtain ⟨md3, fu3, c3, e3, g3⟩ := add_m K g2 (ab_n (v := v / 256 % 256) (Nat.mod_lt _ (by decide)))
  rw [e3, sob]; dsimp only
  obtain ⟨md4, fu4, c4, e4, g4⟩ := add_m K g3 (ab_n (v := v / 65536 % 256) (Nat.mod_lt _ (by decide)))
  rw [e4, sob]; dsimp only
  obtain ⟨md5, fu5, c5, e5, g5⟩ := ad_s K (st := st) (w := w) hm hL hfn hK hp K 0 md4 fu4 _ c4 la ah g4 (by decide) (by omega)
  rw [show nI 0 = (0 : Int32) from rfl] at e5
  refine ⟨md5, fu5, c5, e5, ?_⟩
  rw [appT] at g5
  rw [low3]; exact g5
theorem piece_m (K : Nat) (hK : 32769 < K) {fr n : Nat} {md pk fu : Int32} {L O : List Nat} {m st pc c la ah : Nat → Int32} (hm : mL m L) (hb : by_ L) (hL : L.length ≤ 20000) (hfn : fr + n ≤ L.length) (hs : smt st) (h : ad md fu c O) :
    ∃ md' pk' fu' c' pc' la' ah', f_X7_piece K md pk fu 20000 m 24000 c 24000 pc 16384 la 20000 ah 256 st (nI fr) (nI (fr + n)) = some (md', pk', fu', c', pc', la', ah') ∧ ad md' fu' c' (O ++ pcB L fr n) := by
  obtain ⟨pc', la', ah', e1, g1⟩ := press_m K hK (fr := fr) (n := n) (b := pc) (la := la) (ah := ah) hm hb hL hfn
  have hlen := prsB_len hfn (by omega)
  have hbl := bdy_len hfn (by omega)
  unfold f_X7_piece
  rw [e1, sob]; dsimp only
  rw [pk_sub (Nat.le_add_right fr n), Nat.add_sub_cancel_left, isP_m (by omega) hfn]
  have hsum := sumT_ok K (by omega) hm hb hs hL (by decide) (Nat.le_add_right fr n) hfn
  rw [Nat.add_sub_cancel_left] at hsum
  by_cases y : isP L fr n
  · rw [if_pos y]
    unfold f_X7_piece_b33 f_X7_piece_b49 f_X7_masked
    rw [i10, hsum, sob, sob, i10, show (4 : Int32) + nI (prsB L fr n).length = nI (4 + (prsB L fr n).length) from nI_add 4 _]
    obtain ⟨md2, fu2, c2, e2, g2⟩ := piece_79 K hK (t := 0) (st := st) (la := la') (ah := ah') (w := msk (crcS (-1) (seg L fr n) ^^^ (-1))) hm hL hfn g1 h (by decide) (v := 4 + (prsB L fr n).length) (by omega)
    rw [if_pos y] at e2
    refine ⟨_, _, _, _, _, _, _, e2, ?_⟩
    unfold pcB
    rw [show bdy L fr n = prsB L fr n by unfold bdy; rw [if_pos y]] at g2 ⊢
    rw [if_pos y]; exact g2
  · rw [if_neg y]
    unfold f_X7_piece_b33 f_X7_piece_b49 f_X7_masked
    rw [i00, hsum, sob, sob, i00, show (4 : Int32) + nI n = nI (4 + n) from nI_add 4 _]
    obtain ⟨md2, fu2, c2, e2, g2⟩ := piece_79 K hK (t := 1) (st := st) (la := la') (ah := ah') (w := msk (crcS (-1) (seg L fr n) ^^^ (-1))) hm hL hfn g1 h (by decide) (v := 4 + n) (by omega)
    rw [if_neg y] at e2
    refine ⟨_, _, _, _, _, _, _, e2, ?_⟩
    unfold pcB
    rw [show bdy L fr n = seg L fr n by unfold bdy; rw [if_neg y]] at g2 ⊢
    rw [if_neg y, seg_len hfn]; exact g2
/-- the class's PIECE -/
theorem head_c (K : Nat) (hK : 5 < K) {t v : Nat} {O : List Nat} {c : Nat → Int32} (hc : cL c O) (hv : v < 2 ^ 31) (hl : O.length + 4 ≤ 24000) : ∃ c', f_X4_putHeader K (nI O.length) 24000 c (nI t) (nI v) = some (nI (O.length + 4), c') ∧ cL c' (O ++ t :: low v 0 3) := by
  unfold f_X4_putHeader
  obtain ⟨c1, e1, g1⟩ := cput K (v := t) hc (show O.length < 24000 by omega) (by decide)
  rw [e1, sob]; dsimp only
  obtain ⟨c2, e2, g2⟩ := low_ok K hK (N := 24000) (n := 3) (w := nI v) g1 (by decide) (by rw [len1]; omega) (by decide)
  rw [len1] at e2
  rw [show (3 : Int32) = nI 3 from rfl, e2, sob]
  refine ⟨c2, rfl, ?_⟩
  rw [pk_tn (by omega), app_as] at g2; exact g2
theorem piece_c (K : Nat) (hK : 32769 < K) {fr n : Nat} {L O : List Nat} {m b c : Nat → Int32} (hm : cL m L) (hL : L.length ≤ 20000) (hfn : fr + n ≤ L.length) (hO : O.length ≤ 24000) (hc : cL c O) (hb : cL b (prsB L fr n)) :
    (O.length + (pcB L fr n).length ≤ 24000 → ∃ c', f_X4_putPiece K (nI O.length) 24000 c (nI L.length) 20000 m (nI (prsB L fr n).length) 24000 b (nI fr) (nI n) = some (1, nI (O ++ pcB L fr n).length, c') ∧ cL c' (O ++ pcB L fr n)) ∧ (¬ O.length + (pcB L fr n).length ≤ 24000 → f_X4_putPiece K (nI O.length) 24000 c (nI L.length) 20000 m (nI (prsB L fr n).length) 24000 b (nI fr) (nI n) = some (0, nI O.length, c)) := by
  have hlen := prsB_len hfn (by omega)
  have hbl := bdy_len hfn (by omega)
  have hpl := pcB_len (L := L) (fr := fr) (n := n)
  unfold f_X4_putPiece
  rw [isP_m (by omega) hfn]
  -- both ways the size is that of the body
  have hb1 : (if isP L fr n then f_X4_putPiece_b19 K 24000 (nI L.length) 20000 m (nI (prsB L fr n).length) 24000 b (nI fr) (nI n) (nI O.length) c 1 else f_X4_putPiece_b19 K 24000 (nI L.length) 20000 m (nI (prsB L fr n).length) 24000 b (nI fr) (nI n) (nI O.length) c 0) = f_X4_putPiece_b36 K 24000 (nI L.length) 20000 m (nI (prsB L fr n).length) 24000 b (nI fr) (nI n) (nI O.length) c (if isP L fr n then 1 else 0) (nI (bdy L fr n).length) 4 := by
    unfold f_X4_putPiece_b19 bdy
    by_cases y : isP L fr n
    · rw [if_pos y, if_pos y, if_pos y, i10]
    · rw [if_neg y, if_neg y, if_neg y, i00, seg_len hfn]
  rw [hb1]
  unfold f_X4_putPiece_b36
  rw [show (4 : Int32) + nI (bdy L fr n).length = nI (4 + (bdy L fr n).length) from nI_add 4 _, show (4 : Int32) + nI (4 + (bdy L fr n).length) = nI (4 + (4 + (bdy L fr n).length)) from nI_add 4 _]
  refine ⟨fun hr => ?_, fun hr => ?_⟩
  · rw [room_1' K hO (by decide) (by omega), sob, i10]
    have hb2 : (if (if isP L fr n then (1 : Int32) else 0) = 0 then f_X4_putPiece_b66 K 24000 (nI L.length) 20000 m (nI (prsB L fr n).length) 24000 b (nI fr) (nI n) (nI O.length) c (if isP L fr n then 1 else 0) (nI (4 + (bdy L fr n).length)) 1 else f_X4_putPiece_b66 K 24000 (nI L.length) 20000 m (nI (prsB L fr n).length) 24000 b (nI fr) (nI n) (nI O.length) c (if isP L fr n then 1 else 0) (nI (4 + (bdy L fr n).length)) 0) = f_X4_putPiece_b66 K 24000 (nI L.length) 20000 m (nI (prsB L fr n).length) 24000 b (nI fr) (nI n) (nI O.length) c (if isP L fr n then 1 else 0) (nI (4 + (bdy L fr n).length)) (nI (if isP L fr n then 0 else 1)) := by
      by_cases y : isP L fr n
      · rw [if_pos y, if_pos y, i10]; rfl
      · rw [if_neg y, if_neg y, i00]; rfl
    rw [hb2]
    unfold f_X4_putPiece_b66
    obtain ⟨c1, e1, g1⟩ := head_c K (by omega) (t := if isP L fr n then 0 else 1) (v := 4 + (bdy L fr n).length) hc (by omega) (by omega)
    rw [e1, sob, mcrc_ok K (by omega) hm hL (by decide) hfn, sob]; dsimp only
    have l1 : (O ++ (if isP L fr n then 0 else 1) :: low (4 + (bdy L fr n).length) 0 3).length = O.length + 4 := by
      rw [List.length_append, List.length_cons, low_len]
    obtain ⟨c2, e2, g2⟩ := low_ok K (by omega) (N := 24000) (n := 4) (w := msk (crcS (-1) (seg L fr n) ^^^ (-1))) g1 (by decide) (by rw [l1]; omega) (by decide)
    rw [l1] at e2
    rw [show (4 : Int32) = nI 4 from rfl, e2, sob]; dsimp only
    have l2 : (O ++ (if isP L fr n then 0 else 1) :: low (4 + (bdy L fr n).length) 0 3 ++ low (msk (crcS (-1) (seg L fr n) ^^^ (-1))).toBitVec.toNat 0 4).length = O.length + 4 + 4 := by
      rw [List.length_append, l1, low_len]
    have eL : O ++ (if isP L fr n then 0 else 1) :: low (4 + (bdy L fr n).length) 0 3 ++ low (msk (crcS (-1) (seg L fr n) ^^^ (-1))).toBitVec.toNat 0 4 ++ bdy L fr n = O ++ pcB L fr n := by
      unfold pcB; simp
    have lT : (O ++ pcB L fr n).length = O.length + 4 + 4 + (bdy L fr n).length := by rw [List.length_append]; omega
    by_cases y : isP L fr n
    · have eb : bdy L fr n = prsB L fr n := by unfold bdy; rw [if_pos y]
      rw [if_pos y, i10]
      obtain ⟨c3, e3, g3⟩ := putAll_ok K (N := 24000) (N2 := 24000) (i := 0) (k := (prsB L fr n).length) g2 hb (by omega) (by omega) (by rw [l2, ← eb]; omega) (by decide) (by decide)
      rw [l2, show nI 0 = (0 : Int32) from rfl] at e3
      rw [e3, sob, lT, eb]
      refine ⟨c3, rfl, ?_⟩
      rw [seg_all] at g3
      rw [← eL, eb]; rw [eb] at g3; exact g3
    · have eb : bdy L fr n = seg L fr n := by unfold bdy; rw [if_neg y]
      have el2 : (bdy L fr n).length = n := by rw [eb, seg_len hfn]
      rw [if_neg y, i00]
      obtain ⟨c3, e3, g3⟩ := putAll_ok K (N := 24000) (N2 := 20000) (i := fr) (k := n) g2 hm (by omega) hfn (by rw [l2]; omega) (by decide) (by decide)
      rw [l2] at e3
      rw [e3, sob, lT, el2]
      refine ⟨c3, rfl, ?_⟩
      rw [← eL]
      conv => rhs; rhs; rw [eb]
      exact g3
  · rw [room_0 K hO (by decide) (by
      rintro ⟨k, h1, h2⟩
      have := (nI_eq (by omega) (by omega)).mp h2
      omega), sob, i00]
