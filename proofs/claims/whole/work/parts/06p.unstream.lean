/-! PURE ROWS 16: unstream -/
def skp (t : Nat) : Bool := decide (128 ≤ t ∧ t < 255)
theorem keep_c (K : Nat) {p t n k : Nat} {g b mk : Int32} {ch : Nat → Int32} (hk : k < 2 ^ 27) (ht : t < 256) : f_X5_keepChunk K (nI p) (nI t) (nI (p + 4)) (nI n) g (nI k) mk 5000 ch b = some (nI (p + 4 + n), nI (k + 1), (if skp t then mk + 1 else mk), note5 ch k (nI t) (nI p) (nI n) (g - b) b) := by
  unfold f_X5_keepChunk f_X5_keepChunk_b24 f_X5_keepChunk_b25 skp
  rw [nI_add]
  by_cases h1 : t < 128
  · have e := add_c K (k := k) (mk := mk) (v0 := nI t) (v1 := nI p) (v2 := nI n) (v3 := g - b) (v4 := b) (c := ch) hk false
    rw [if_pos (show nI t < (128 : Int32) from nI_lt (b := 128) h1 (by decide)), show (0 : Int32) = if false = true then 1 else 0 from rfl, e, sob, decide_eq_false (by omega)]
  · rw [if_neg (show ¬ nI t < (128 : Int32) from nI_nlt (b := 128) (by omega) (by omega))]
    by_cases h2 : t = 255
    · have e := add_c K (k := k) (mk := mk) (v0 := nI t) (v1 := nI p) (v2 := nI n) (v3 := g - b) (v4 := b) (c := ch) hk false
      rw [if_pos (show (255 : Int32) ≤ nI t from nI_le (a := 255) (by omega) (by omega)), show (0 : Int32) = if false = true then 1 else 0 from rfl, e, sob, decide_eq_false (by omega)]
    · have e := add_c K (k := k) (mk := mk) (v0 := nI t) (v1 := nI p) (v2 := nI n) (v3 := g - b) (v4 := b) (c := ch) hk true
      rw [if_neg (show ¬ (255 : Int32) ≤ nI t from nI_ge (b := 255) (by omega) (by decide)), show f_X3_add K (nI k) mk 5000 ch (nI t) (nI p) (nI n) (g - b) b 1 = _ from e, sob, decide_eq_true (by omega)]
theorem keep_m (K : Nat) {L : List Nat} {m mm nc fo be st : Nat → Int32} {p t n k : Nat} {md b mk BF BP op li wa : Int32} (hk : k < 2 ^ 27) (ht : t < 256) : f_X7_chunkAt_b206 K (nI L.length) 20000 m 24000 5000 256 st 5000 20000 (nI p) md BF BP op li wa 0 (-1) 0 (-1) (nI k) mk mm nc fo be (nI t) (nI n) (nI (p + 4)) b = some (nI (p + 4 + n), md, BF, BP, op, li, wa, 0, -1, 0, -1, nI (k + 1), (if skp t then mk + 1 else mk), mm, nc, note5 fo k (nI t) (nI p) (nI n) (md - b) b, be) := by
  have e : f_X7_chunkAt_b206 K (nI L.length) 20000 m 24000 5000 256 st 5000 20000 (nI p) md BF BP op li wa 0 (-1) 0 (-1) (nI k) mk mm nc fo be (nI t) (nI n) (nI (p + 4)) b = f_X7_chunkAt_b301 K (nI L.length) 20000 m 24000 5000 256 st 5000 20000 (nI p) md BF BP op li wa 0 (-1) 0 (-1) (nI k) mk mm nc (note5 fo k (nI t) (nI p) (nI n) (md - b) b) be (nI t) (nI n) (nI (p + 4)) := by
    unfold f_X7_chunkAt_b206 note5
    rw [if_pos (show (0 : Int32) ≤ 0 by decide)]
    by_cases h : 1000 ≤ k
    · rw [if_pos h, if_pos (show (1000 : Int32) ≤ nI k from nI_le (a := 1000) h (by omega))]
    · rw [if_neg h, if_neg (show ¬ (1000 : Int32) ≤ nI k from nI_ge (b := 1000) (by omega) (by omega)), show (5 : Int32) * nI k = nI (5 * k) from pk_mul 5 k, show nI (5 * k) + 1 = nI (5 * k + 1) from nI_1 _, show nI (5 * k) + 2 = nI (5 * k + 2) from nI_add _ 2, show nI (5 * k) + 3 = nI (5 * k + 3) from nI_add _ 3, show nI (5 * k) + 4 = nI (5 * k + 4) from nI_add _ 4, ck_n (by omega) (by decide), ck_n (by omega) (by decide), ck_n (by omega) (by decide), ck_n (by omega) (by decide), ck_n (by omega) (by decide), nI_clamp (by omega), nI_clamp (by omega), nI_clamp (by omega), nI_clamp (by omega), nI_clamp (by omega)]
  rw [e]
  unfold f_X7_chunkAt_b301 f_X7_chunkAt_b333 f_X7_chunkAt_b334 skp
  rw [nI_add, nI_1]
  by_cases h1 : t < 128
  · rw [if_pos (show nI t ≤ (127 : Int32) from nI_le (b := 127) (by omega) (by decide)), decide_eq_false (by omega), Int32.add_zero]; rfl
  · rw [if_neg (show ¬ nI t ≤ (127 : Int32) from nI_ge (a := 127) (by omega) (by omega))]
    by_cases h2 : t = 255
    · rw [if_pos (show (255 : Int32) ≤ nI t from nI_le (a := 255) (by omega) (by omega)), decide_eq_false (by omega), Int32.add_zero]; rfl
    · rw [if_neg (show ¬ (255 : Int32) ≤ nI t from nI_ge (b := 255) (by omega) (by decide)), decide_eq_true (by omega)]; rfl
theorem b49_f (K : Nat) {z N1 N2 N3 N4 N5 : Nat} {an : Int32} {ar gc ch bg el : Nat → Int32} {fa pl nx ty bd sz gn kc mk bf bp bst ben bnx bln bso bbo xx ec em x3 : Int32} {bsi bba : Int64} (hf : ¬ fa = 0) : f_X5_openStream_b49 K N1 N2 an N3 ar N4 N5 (z + 1) fa pl nx ty bd sz gn gc kc mk ch bf bp bst ben bnx bln bso bbo bsi bba xx bg ec em el x3 = some (fa, pl, nx, ty, bd, sz, gn, gc, kc, mk, ch, bf, bp, bst, ben, bnx, bln, bso, bbo, bsi, bba, xx, bg, ec, em, el) := by
  rw [f_X5_openStream_b49, if_neg hf]
  by_cases h1 : an ≤ x3
  · rw [if_pos h1]
  · rw [if_neg h1]
    by_cases h2 : an ≤ nx
    · rw [if_pos h2]
    · rw [if_neg h2]
theorem b46_f (K : Nat) {w N1 N2 N3 N4 N5 N6 N7 N8 : Nat} {ta : Int32} {tc st oc mm nc rch fo be : Nat → Int32} {ou md th BF BP op li wa cM sM fN fP fI fq fM sk x1 : Int32} (hf : ¬ fN = 0) : f_X7_unstream_b46 K ta N1 tc N2 N3 N4 N5 N6 st N7 N8 (w + 1) ou md th BF BP op li wa cM sM fN fP fI fq fM sk oc mm nc rch fo be x1 = f_X7_unstream_b70 K ta N1 tc N2 N3 N4 N5 N6 st N7 N8 ou md th BF BP op li wa cM sM fN fP fI fq fM sk oc mm nc rch fo be := by
  rw [f_X7_unstream_b46, if_neg hf]
  by_cases h1 : ta ≤ x1
  · rw [if_pos h1]
  · rw [if_neg h1]
theorem tb_c (K : Nat) {t : Nat} (ht : t < 256) : f_X5_tellsBytes K (nI t) = some (if t ≤ 1 then 1 else 0) := by
  unfold f_X5_tellsBytes
  by_cases h1 : t ≤ 1
  · have : t = 0 ∨ t = 1 := by omega
    rcases this with rfl | rfl <;> rfl
  · rw [if_neg h1, if_neg (show ¬ nI t = (0 : Int32) from nI_ne (b := 0) (by omega) (by decide) (by omega)), if_neg (show ¬ nI t = (1 : Int32) from nI_ne (b := 1) (by omega) (by decide) (by omega))]
theorem fk_le (L : List Nat) (p t n : Nat) : fk L p t n ≤ 15 := by
  unfold fk
  by_cases h : t = 255
  · rw [if_pos h]
    by_cases h2 : n = 6 ∧ nq L (p + 4) 0 6 = true
    · rw [if_pos h2]; decide
    · rw [if_neg h2]; decide
  · rw [if_neg h]
    by_cases h2 : t ≤ 1
    · rw [if_pos h2]
      by_cases h3 : n < 4
      · rw [if_pos h3]; decide
      · rw [if_neg h3]; decide
    · rw [if_neg h2]
      by_cases h3 : t < 128
      · rw [if_pos h3]; decide
      · rw [if_neg h3]; decide
theorem fk_4 {L : List Nat} {p t n : Nat} (h : fk L p t n = 0) (ht : t ≤ 1) : 4 ≤ n := by
  unfold fk at h
  rw [if_neg (by omega), if_pos ht] at h
  by_cases h2 : n < 4
  · rw [if_pos h2] at h; cases h
  · omega
theorem un_loop (K : Nat) (hK : 32769 < K) {L : List Nat} {c m st om rch : Nat → Int32} {ou th cM sM : Int32} (hc : cL c L) (hm : mL m L) (hb : by_ L) (hL : L.length ≤ 20000) (hs : smt st) :
    ∀ (z w p k x : Nat) (G : List Nat) (ty bd sz mk bf bp bst ben bnx bln bso bbo ec em BF BP op li wa : Int32) (bsi bba : Int64) (gc ch bg el mm nc fo be : Nat → Int32), p ≤ L.length → k ≤ p → (p = 0 → L.getD 0 0 = 255) → L.length - p + 1 < z → L.length - p + 1 < w → G.length ≤ 20000 → by_ G → cL gc G → mL mm G → rowsEq ch fo k → x < 2 ^ 30 →
      ∃ (F : Nat) (G' : List Nat) (k' x' : Nat) (pl nx ty' bd' sz' mk' bf' bp' bst' ben' bnx' bln' bso' bbo' ec' em' md' BF' BP' op' li' wa' fi fq : Int32) (bsi' bba' : Int64) (gc' ch' bg' el' mm' nc' fo' be' : Nat → Int32),
        f_X5_openStream_b49 K 20000 5000 (nI L.length) 20000 c 20000 5000 z 0 (-1) (nI p) ty bd sz (nI G.length) gc (nI k) mk ch bf bp bst ben bnx bln bso bbo bsi bba (nI x) bg ec em el (nI k) = some (nI F, pl, nx, ty', bd', sz', nI G'.length, gc', nI k', mk', ch', bf', bp', bst', ben', bnx', bln', bso', bbo', bsi', bba', nI x', bg', ec', em', el') ∧
        f_X7_unstream_b46 K (nI L.length) 20000 m 24000 24000 5000 5000 256 st 5000 20000 w ou (nI G.length) th BF BP op li wa cM sM 0 (-1) 0 (-1) (nI k) mk om mm nc rch fo be (nI p) = f_X7_unstream_b70 K (nI L.length) 20000 m 24000 24000 5000 5000 256 st 5000 20000 ou md' th BF' BP' op' li' wa' cM sM (nI F) pl fi fq (nI k') mk' om mm' nc' rch fo' be' ∧
        F ≤ 18 ∧ G'.length ≤ 20000 ∧ k' < 2 ^ 27 ∧ x' < 2 ^ 30 ∧ (F = 16 → fi = bf' ∧ fq = bp') ∧ (¬ F = 16 → fi = 0 ∧ fq = -1) ∧ (F = 0 → by_ G' ∧ cL gc' G' ∧ mL mm' G' ∧ md' = nI G'.length ∧ rowsEq ch' fo' k') := by
  intro z
  induction z with
  | zero => intro w p k x G ty bd sz mk bf bp bst ben bnx bln bso bbo ec em BF BP op li wa bsi bba gc ch bg el mm nc fo be _ _ _ h; omega
  | succ z ih =>
    intro w p k x G ty bd sz mk bf bp bst ben bnx bln bso bbo ec em BF BP op li wa bsi bba gc ch bg el mm nc fo be hpL hkp h0 hz hw hG hbG hgc hmm hrows hx
    obtain ⟨w, rfl⟩ : ∃ y, w = y + 1 := ⟨w - 1, by omega⟩
    rw [f_X5_openStream_b49, f_X7_unstream_b46]
    rcases Nat.eq_or_lt_of_le hpL with hpe | hpe
    · have hsame : ∀ (α : Type) (u : α) (v : α), (if nI L.length ≤ nI k then u else if nI L.length ≤ nI p then u else v) = u := by
        intro α u v
        by_cases y : nI L.length ≤ nI k
        · rw [if_pos y]
        · rw [if_neg y, if_pos (nI_le (by omega) (by omega))]
      rw [hsame, if_pos (nI_le (by omega) (by omega))]
      exact ⟨0, G, k, x, -1, _, _, _, _, mk, _, _, _, _, _, _, _, _, _, _, nI G.length, _, _, _, _, _, 0, -1, _, _, gc, ch, _, _, mm, _, fo, _, rfl, rfl, by decide, hG, by omega, hx, fun y => absurd y (by decide), fun _ => ⟨rfl, rfl⟩, fun _ => ⟨hbG, hgc, hmm, rfl, hrows⟩⟩
    · rw [if_neg (nI_ge (by omega) (by omega)), if_neg (nI_ge (by omega) (by omega)), if_neg (nI_ge hpe (by omega)), i00, i00]
      obtain ⟨z, rfl⟩ : ∃ y, z = y + 1 := ⟨z - 1, by omega⟩
      obtain ⟨w, rfl⟩ : ∃ y, w = y + 1 := ⟨w - 1, by omega⟩
      by_cases hh : p + 4 + lev L (p + 1) 3 ≤ L.length
      · rw [head_1 K (by omega) hc hb hL hh, sob, chunk_1 K (by omega) hm hb hL h0 hh]
        dsimp only
        have ht := hb p
        generalize L.getD p 0 = t at *
        generalize lev L (p + 1) 3 = n at *
        rw [i00, chk_c K (by omega) hc hb hL hh ht, sob]
        dsimp only
        have hfk := fk_le L p t n
        unfold f_X7_chunkAt_b171 f_X5_openStream_b101
        by_cases hF : fk L p t n = 0
        · have h4 := fk_4 hF
          rw [hF, show fpl 0 p = -1 from rfl, show nI 0 = (0 : Int32) from rfl, if_pos (show (0 : Int32) ≤ 0 by decide), i00, tb_c K ht, sob]
          by_cases ht1 : t ≤ 1
          · rw [if_pos ht1, i10, if_neg (show ¬ (2 : Int32) ≤ nI t from nI_ge (b := 2) (by omega) (by decide)), show nI (p + 4) + 4 = nI (p + 4 + 4) from nI_add _ 4, nI_add]
            obtain ⟨F, G', x', pl, bf', bp', bst', ben', bnx', bln', bso', bbo', ec', em', md', BF', BP', op', li', wa', fi, fq, bsi', bba', gc', mm', bg', el', nc', be', e1, e2, q1, q2, q3, q4, q5, q6⟩ := byt_both K hK (p := p) (t := t) (n := n) (x := x) (bg := bg) (el := el) (nc := nc) (be := be) (bf := bf) (bp := bp) (bst := bst) (ben := ben) (bnx := bnx) (bln := bln) (bso := bso) (bbo := bbo) (ec := ec) (em := em) (BF := BF) (BP := BP) (op := op) (li := li) (wa := wa) (bsi := bsi) (bba := bba) hc hm hb hL hs hG hbG hgc hmm ht1 (h4 ht1) hh hx
            rw [e1, sob, e2, sob]; dsimp only
            unfold f_X5_openStream_b121
            by_cases hF2 : F = 0
            · subst hF2
              obtain ⟨r1, r2, r3, r4, r5⟩ := q6 rfl
              obtain ⟨r6, r7⟩ := q5 (by decide)
              subst r1 r5 r6 r7
              rw [show nI 0 = (0 : Int32) from rfl, i00, keep_c K (by omega) ht, sob, keep_m K (by omega) ht, sob, nI_1]; dsimp only
              exact ih (w + 1) (p + 4 + n) (k + 1) x' G' (nI t) (nI (p + 4)) (nI n) _ bf' bp' bst' ben' bnx' bln' bso' bbo' ec' em' BF' BP' op' li' wa' bsi' bba' gc' _ bg' el' mm' nc' _ be' (by omega) (by omega) (fun y => absurd y (by omega)) (by omega) (by omega) q2 r2 r3 r4 (rows_note hrows) q3
            · have hnz : ¬ nI F = 0 := nI_ne0 (by omega) (by omega)
              rw [if_neg hnz, b49_f K hnz]
              unfold f_X7_chunkAt_b206
              rw [if_neg (show ¬ nI F ≤ (0 : Int32) from nI_ge (a := 0) (by omega) (by omega)), sob]; dsimp only
              rw [b46_f K hnz]
              exact ⟨F, G', k, x', pl, _, _, _, _, mk, bf', bp', _, _, _, _, _, _, _, _, _, _, _, _, _, _, fi, fq, _, _, gc', ch, _, _, _, _, fo, _, rfl, rfl, q1, q2, by omega, q3, q4, q5, fun y => absurd y hF2⟩
          · rw [if_neg ht1, i00, if_pos (show (2 : Int32) ≤ nI t from nI_le (a := 2) (by omega) (by omega))]
            unfold f_X5_openStream_b121
            rw [i00, keep_c K (by omega) ht, sob, keep_m K (by omega) ht, sob, nI_1]; dsimp only
            exact ih (w + 1) (p + 4 + n) (k + 1) x G (nI t) (nI (p + 4)) (nI n) _ bf bp bst ben bnx bln bso bbo ec em BF BP op li wa bsi bba gc _ bg el mm nc _ be (by omega) (by omega) (fun y => absurd y (by omega)) (by omega) (by omega) hG hbG hgc hmm (rows_note hrows) hx
        · have hnz : ¬ nI (fk L p t n) = 0 := nI_ne0 (by omega) (by omega)
          unfold f_X5_openStream_b121
          rw [if_neg hnz, if_neg hnz, b49_f K hnz, if_neg (show ¬ nI (fk L p t n) ≤ (0 : Int32) from nI_ge (a := 0) (by omega) (by omega)), sob]; dsimp only
          rw [b46_f K hnz]
          exact ⟨fk L p t n, G, k, x, _, _, _, _, _, mk, bf, bp, _, _, _, _, _, _, _, _, _, _, _, _, _, _, 0, -1, _, _, gc, ch, _, _, _, _, fo, _, rfl, rfl, by omega, hG, by omega, hx, fun y => absurd y (by omega), fun _ => ⟨rfl, rfl⟩, fun y => absurd y hF⟩
      · obtain ⟨ty', sz', e1⟩ := head_0 K (by omega) (ty := ty) (bd := bd) (sz := sz) hc hb hL hpe hh
        have hnz : ¬ (12 : Int32) = 0 := by decide
        rw [e1, sob, chunk_0 K (by omega) hm hb hL h0 hpe hh, sob]; dsimp only
        rw [if_neg hnz]
        unfold f_X5_openStream_b101 f_X5_openStream_b121
        rw [if_neg hnz, if_neg hnz, b49_f K hnz, b46_f K hnz]
        exact ⟨12, G, k, x, nI p, _, _, _, _, mk, bf, bp, _, _, _, _, _, _, _, _, _, _, _, _, _, _, 0, -1, _, _, gc, ch, _, _, _, _, fo, _, rfl, rfl, by decide, hG, by omega, hx, fun y => absurd y (by decide), fun _ => ⟨rfl, rfl⟩, fun y => absurd y (by decide)⟩
