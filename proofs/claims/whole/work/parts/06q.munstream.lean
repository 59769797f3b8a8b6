/-! PURE ROWS 17: unstream, out -/
theorem un_110 (K : Nat) {k : Nat} {ta ou md th BF BP op li wa cM sM n1 n2 n3 n4 sk : Int32} {tc st om mm nc fo be : Nat → Int32} (hk : k < 2 ^ 27) : ∀ (q i : Nat) (rel : Nat → Int32), (∀ j, j < i → rel j = fo j) → i ≤ 5 * min k 1000 → 5 * min k 1000 - i < q → ∃ rel', f_X7_unstream_b110 K ta 20000 tc 24000 24000 5000 5000 256 st 5000 20000 q ou md th BF BP op li wa cM sM n1 n2 n3 n4 (nI k) sk om mm nc rel fo be (nI i) = some (ou, ou, md, th, BF, BP, op, li, wa, cM, sM, n1, n2, n3, n4, nI k, sk, om, mm, nc, rel', fo, be) ∧ rowsEq rel' fo k := by
  intro q
  induction q with
  | zero => intro i rel _ _ h; omega
  | succ q ih =>
    intro i rel hr hi hq
    rw [f_X7_unstream_b110, show (5 : Int32) * nI k = nI (5 * k) from pk_mul 5 k]
    by_cases h1 : 5 * k ≤ i
    · rw [if_pos (nI_le h1 (by omega))]; exact ⟨rel, rfl, fun j hj => hr j (by omega)⟩
    · rw [if_neg (nI_ge (by omega) (by omega))]
      by_cases h2 : 5000 ≤ i
      · rw [if_pos (show (5000 : Int32) ≤ nI i from nI_le (a := 5000) h2 (by omega))]; exact ⟨rel, rfl, fun j hj => hr j (by omega)⟩
      · rw [if_neg (show ¬ (5000 : Int32) ≤ nI i from nI_ge (b := 5000) (by omega) (by omega)), ck_n (by omega) (by decide), ck_n (by omega) (by decide), nI_clamp (by omega), nI_1]
        refine ih (i + 1) _ ?_ (by omega) (by omega)
        intro j hj
        by_cases e : j = i
        · subst e; rw [pk_us]
        · rw [pk_un e]; exact hr j (by omega)
/-- both from the CHUNKS to the end -/
theorem un_all (K : Nat) (hK : 32769 < K) {L : List Nat} {c m st om rch gc ch bg el mm nc fo be : Nat → Int32} {x y : Nat} {ou cM sM sfa spl snx sty sbd ssz skc skm bf bp bst ben bnx bln bso bbo ec em md th BF BP op li wa n1 n2 n3 n4 fM sk : Int32} {bsi bba : Int64} (hp : pair c m L) (hL : L.length ≤ 20000) (hs : smt st) (hx : x < 2 ^ 30) (hy : y < 2 ^ 30) :
    ∃ (F : Nat) (G' : List Nat) (k' x' : Nat) (pl nx ty' bd' sz' mk' bf' bp' bst' ben' bnx' bln' bso' bbo' ec' em' md' BF' BP' op' li' wa' fi fq : Int32) (bsi' bba' : Int64) (gc' ch' bg' el' mm' nc' fo' be' : Nat → Int32),
      f_X5_openStream K sfa spl snx sty sbd ssz (nI y) 20000 gc skc skm 5000 ch (nI L.length) 20000 c bf bp bst ben bnx bln bso bbo bsi bba (nI x) 20000 bg ec em 5000 el = some (nI F, pl, nx, ty', bd', sz', nI G'.length, gc', nI k', mk', ch', bf', bp', bst', ben', bnx', bln', bso', bbo', bsi', bba', nI x', bg', ec', em', el') ∧
      f_X7_unstream K (nI L.length) ou md th BF BP op li wa cM sM n1 n2 n3 n4 fM sk 20000 m 24000 om 24000 mm 5000 nc 5000 rch 256 st 5000 fo 20000 be = f_X7_unstream_b70 K (nI L.length) 20000 m 24000 24000 5000 5000 256 st 5000 20000 ou md' 0 BF' BP' op' li' wa' cM sM (nI F) pl fi fq (nI k') mk' om mm' nc' rch fo' be' ∧
      F ≤ 18 ∧ G'.length ≤ 20000 ∧ k' < 2 ^ 27 ∧ x' < 2 ^ 30 ∧ (F = 16 → fi = bf' ∧ fq = bp') ∧ (¬ F = 16 → fi = 0 ∧ fq = -1) ∧ (F = 0 → by_ G' ∧ cL gc' G' ∧ mL mm' G' ∧ md' = nI G'.length ∧ rowsEq ch' fo' k') := by
  obtain ⟨hb, hc, hm⟩ := id hp
  unfold f_X5_openStream f_X7_unstream f_X3_clear f_X7_told f_X5_fail
  rw [shorten0 K hy, sob, sob, sob]; dsimp only
  have h11 : ¬ (11 : Int32) = 0 := by decide
  obtain ⟨K', hK'⟩ : ∃ y, K = y + 1 := ⟨K - 1, by omega⟩
  have hff : ∀ (tl : Int32), f_X5_openStream_b49 K 20000 5000 (nI L.length) 20000 c 20000 5000 K 11 0 0 sty sbd ssz 0 gc 0 0 ch bf bp bst ben bnx bln bso bbo bsi bba (nI x) bg ec em el 0 = some (11, 0, 0, sty, sbd, ssz, 0, gc, 0, 0, ch, bf, bp, bst, ben, bnx, bln, bso, bbo, bsi, bba, nI x, bg, ec, em, el) := by
    intro _
    conv => lhs; arg 9; rw [hK']
    exact b49_f K h11
  rcases Nat.eq_zero_or_pos L.length with h0 | h0
  · rw [show f_X1_at K (nI L.length) 20000 c 0 = some (-1) from by rw [h0]; exact at_0 K (n := 0) (by rintro ⟨i, h, _⟩; omega), sob, if_neg (show ¬ (-1 : Int32) = 255 by decide), sob, if_pos (show nI L.length = 0 by rw [h0]; rfl), sob]; dsimp only
    rw [hff 0]
    have e2 : ∀ (a b d e f g h i j l o q : Int32) (s1 s2 s3 s4 s5 s6 : Nat → Int32), f_X7_unstream_b46 K (nI L.length) 20000 m 24000 24000 5000 5000 256 st 5000 20000 K a b d e f g h i j l 11 0 0 (-1) o q s1 s2 s3 s4 s5 s6 0 = f_X7_unstream_b70 K (nI L.length) 20000 m 24000 24000 5000 5000 256 st 5000 20000 a b d e f g h i j l 11 0 0 (-1) o q s1 s2 s3 s4 s5 s6 := by
      intros
      conv => lhs; arg 13; rw [hK']
      exact b46_f K h11
    rw [e2]
    exact ⟨11, [], 0, x, 0, _, _, _, _, 0, _, _, _, _, _, _, _, _, _, _, _, _, _, _, _, _, 0, -1, _, _, _, _, _, _, _, _, _, _, rfl, rfl, by decide, by decide, by decide, hx, fun y => absurd y (by decide), fun _ => ⟨rfl, rfl⟩, fun y => absurd y (by decide)⟩
  · have hb0 := hb 0
    have e1 := at_1 K (i := 0) hc h0 hL (by decide)
    rw [show nI 0 = (0 : Int32) from rfl] at e1
    rw [e1]
    simp only [sob]
    rw [if_neg (show ¬ nI L.length = 0 from nI_ne0 h0 (by omega))]
    by_cases h255 : L.getD 0 0 = 255
    · rw [if_pos (show nI (L.getD 0 0) = 255 by rw [h255]; rfl)]
      exact un_loop K hK hc hm hb hL hs K K 0 0 x [] sty sbd ssz 0 bf bp bst ben bnx bln bso bbo ec em BF BP op li wa bsi bba gc ch bg el mm nc fo be (Nat.zero_le _) (Nat.le_refl _) (fun _ => h255) (by omega) (by omega) (by decide) by_nil rL_nil rL_nil (fun j hj => by simp at hj) hx
    · rw [if_neg (show ¬ nI (L.getD 0 0) = 255 from nI_ne (b := 255) (by omega) (by decide) h255)]
      rw [hff 0]
      have e3 : ∀ (a b d e f g h i j l o q : Int32) (s1 s2 s3 s4 s5 s6 : Nat → Int32), f_X7_unstream_b46 K (nI L.length) 20000 m 24000 24000 5000 5000 256 st 5000 20000 K a b d e f g h i j l 0 (-1) 0 (-1) o q s1 s2 s3 s4 s5 s6 0 = f_X7_unstream_b70 K (nI L.length) 20000 m 24000 24000 5000 5000 256 st 5000 20000 a b d e f g h i j l 11 0 0 (-1) o q s1 s2 s3 s4 s5 s6 := by
        intro a b d e f g h i j l o q s1 s2 s3 s4 s5 s6
        obtain ⟨K2, hK2⟩ : ∃ y, K = y + 1 + 1 := ⟨K - 2, by omega⟩
        conv => lhs; arg 13; rw [hK2]
        rw [f_X7_unstream_b46, if_neg (show ¬ nI L.length ≤ (0 : Int32) from nI_ge (a := 0) h0 (by omega)), i00]
        unfold f_X7_chunkAt f_X7_told
        have e4 := at_m K hm hb hL h0
        rw [show nI 0 = (0 : Int32) from rfl] at e4
        rw [e4, sob, if_pos rfl, if_neg (show ¬ nI (L.getD 0 0) = 255 from nI_ne (b := 255) (by omega) (by decide) h255), sob, sob]; dsimp only
        exact b46_f K h11
      rw [e3]
      exact ⟨11, [], 0, x, 0, _, _, _, _, 0, _, _, _, _, _, _, _, _, _, _, _, _, _, _, _, _, 0, -1, _, _, _, _, _, _, _, _, _, _, rfl, rfl, by decide, by decide, by decide, hx, fun y => absurd y (by decide), fun _ => ⟨rfl, rfl⟩, fun y => absurd y (by decide)⟩
theorem s_unstream (K : Nat) (hK : 32769 < K) {L M : List Nat} {c m oc om st rch sg sch kch bg el mm nc fo be : Nat → Int32} {x y kc : Nat} {fn fp fb fq km sfa spl snx sty sbd ssz skc skm bf bp bst ben bnx bln bso bbo ec em md th BF BP op li wa n1 n2 n3 n4 fM sk : Int32} {bsi bba : Int64} (hp : pair c m L) (hn : L.length ≤ 20000) (ho : pair oc om M) (hM : M.length ≤ 24000) (hs : smt st) (hx : x < 2 ^ 30) (hy : y < 2 ^ 30) (hkc : kc < 2 ^ 27) (hr : rowsEq kch rch kc) :
    ∃ (r : Int32) (M' : List Nat) (kc' x' y' : Nat) (fn' fp' fb' fq' km' sfa' spl' snx' sty' sbd' ssz' skc' skm' bf' bp' bst' ben' bnx' bln' bso' bbo' ec' em' md' BF' BP' op' li' wa' fM' sk' : Int32) (bsi' bba' : Int64) (oc' om' rch' sg' sch' kch' bg' el' mm' nc' fo' be' : Nat → Int32),
      f_X6_unstream K fn fp fb fq (nI L.length) 20000 c (nI M.length) 24000 oc bf bp bst ben bnx bln bso bbo bsi bba (nI x) 20000 bg ec em 5000 el sfa spl snx sty sbd ssz (nI y) 20000 sg skc skm 5000 sch (nI kc) km 5000 kch = some (r, fn', fp', fb', fq', nI M'.length, oc', bf', bp', bst', ben', bnx', bln', bso', bbo', bsi', bba', nI x', bg', ec', em', el', sfa', spl', snx', sty', sbd', ssz', nI y', sg', skc', skm', sch', nI kc', km', kch') ∧
      f_X7_unstream K (nI L.length) (nI M.length) md th BF BP op li wa (nI kc) km n1 n2 n3 n4 fM sk 20000 m 24000 om 24000 mm 5000 nc 5000 rch 256 st 5000 fo 20000 be = some (r, nI M'.length, md', 0, BF', BP', op', li', wa', nI kc', km', fn', fp', fb', fq', fM', sk', om', mm', nc', rch', fo', be') ∧
      pair oc' om' M' ∧ M'.length ≤ 24000 ∧ x' < 2 ^ 30 ∧ y' < 2 ^ 30 ∧ kc' < 2 ^ 27 ∧ rowsEq kch' rch' kc' ∧ (0 : Int32) ≤ fn' := by
  obtain ⟨F, G', k', x', pl, nx, ty', bd', sz', mk', bf', bp', bst', ben', bnx', bln', bso', bbo', ec', em', md', BF', BP', op', li', wa', fi, fq', bsi', bba', gc', ch', bg', el', mm', nc', fo', be', e1, e2, q1, q2, q3, q4, q5, q6, q7⟩ := un_all K hK (om := om) (rch := rch) (gc := sg) (ch := sch) (bg := bg) (el := el) (mm := mm) (nc := nc) (fo := fo) (be := be) (x := x) (y := y) (ou := nI M.length) (cM := nI kc) (sM := km) (sfa := sfa) (spl := spl) (snx := snx) (sty := sty) (sbd := sbd) (ssz := ssz) (skc := skc) (skm := skm) (bf := bf) (bp := bp) (bst := bst) (ben := ben) (bnx := bnx) (bln := bln) (bso := bso) (bbo := bbo) (ec := ec) (em := em) (md := md) (th := th) (BF := BF) (BP := BP) (op := op) (li := li) (wa := wa) (n1 := n1) (n2 := n2) (n3 := n3) (n4 := n4) (fM := fM) (sk := sk) (bsi := bsi) (bba := bba) hp hn hs hx hy
  unfold f_X6_unstream f_X6_keepFault f_X6_unstream_b77
  rw [e1, sob, e2]; dsimp only
  unfold f_X7_unstream_b70 f_X7_give_o_made
  by_cases h0 : F = 0
  · subst h0
    obtain ⟨hbG, hgc, hmm, rfl, hrows⟩ := q7 rfl
    obtain ⟨rfl, rfl⟩ := q6 (by decide)
    obtain ⟨oc', f3, g3⟩ := become_ok K (N := 24000) (N2 := 20000) (x := nI M.length) (c := oc) hgc q2 (by omega) (by decide) (by decide)
    obtain ⟨om', f4, g4⟩ := give_d K (x := nI M.length) hmm (by omega) K 0 om (by rw [List.take_zero]; exact rL_nil) (Nat.zero_le _) (by omega)
    obtain ⟨kch', f5, g5⟩ := cells_c K (kc := nI kc) (km := km) (mk := mk') (kel := kch) (el := ch') q3
    obtain ⟨rch', f6, g6⟩ := un_110 K (ta := nI L.length) (ou := nI G'.length) (md := nI G'.length) (th := 0) (BF := BF') (BP := BP') (op := op') (li := li') (wa := wa') (cM := nI k') (sM := mk') (n1 := 0) (n2 := pl) (n3 := 0) (n4 := -1) (sk := mk') (tc := m) (st := st) (om := om') (mm := mm') (nc := nc') (fo := fo') (be := be') q3 K 0 rch (fun j hj => absurd hj (Nat.not_lt_zero j)) (Nat.zero_le _) (by omega)
    rw [show nI 0 = (0 : Int32) from rfl] at f4 f6 ⊢
    rw [if_neg (show ¬ (0 : Int32) = 16 by decide), sob, i00, if_pos (show (0 : Int32) ≤ 0 by decide), f3, f4, sob, sob]
    dsimp only
    rw [f5, sob, f6]
    exact ⟨_, G', k', x', G'.length, _, _, _, _, mk', _, _, _, _, _, _, _, _, _, _, _, _, _, _, _, _, _, _, _, _, _, _, _, _, _, _, _, _, oc', om', rch', _, _, kch', _, _, _, _, _, _, rfl, rfl, ⟨hbG, g3, g4⟩, by omega, q4, by omega, q3, rows_tr (rows_tr g5 hrows) (rows_sy g6), by decide⟩
  · have hnz : ¬ nI F = 0 := nI_ne0 (by omega) (by omega)
    rw [if_neg (show ¬ nI F ≤ (0 : Int32) from nI_ge (a := 0) (by omega) (by omega))]
    by_cases h16 : F = 16
    · subst h16
      obtain ⟨rfl, rfl⟩ := q5 rfl
      rw [if_pos (show nI 16 = (16 : Int32) from rfl), sob, if_neg hnz]
      exact ⟨_, M, kc, x', G'.length, _, _, _, _, km, _, _, _, _, _, _, _, _, _, _, _, _, _, _, _, _, _, _, _, _, _, _, _, _, _, _, _, _, oc, om, rch, _, _, kch, _, _, _, _, _, _, rfl, rfl, ho, hM, q4, by omega, hkc, hr, (show (0 : Int32) ≤ 16 from by decide)⟩
    · obtain ⟨rfl, rfl⟩ := q6 h16
      rw [if_neg (show ¬ nI F = (16 : Int32) from nI_ne (b := 16) (by omega) (by decide) h16), sob, if_neg hnz]
      exact ⟨_, M, kc, x', G'.length, _, _, _, _, km, _, _, _, _, _, _, _, _, _, _, _, _, _, _, _, _, _, _, _, _, _, _, _, _, _, _, _, _, oc, om, rch, _, _, kch, _, _, _, _, _, _, rfl, rfl, ho, hM, q4, by omega, hkc, hr, fl0 F (by omega)⟩
